/-! methods that throw: what they need of the start, the throw itself -/
abbrev NSE : String := "java/util/NoSuchElementException"
abbrev nseU : List String := ["java/lang/RuntimeException", "java/lang/Exception"]
def xk (U : State) : Prop := va_Nw (.declares (Bundle.initS "java/lang/RuntimeException")) U ∧ va_Nw (.declares (Bundle.initS "java/lang/Exception")) U ∧ va_Nw (.declares (Bundle.initS Bundle.tN)) U ∧ va_Nw (.castable NSE NSE) U ∧ (∃ a, vk_R RX7 163 "no such line" a U) ∧ (∃ a, vk_R RX7 190 "no such question" a U) ∧ ∃ a, vk_R RX7 206 "no such page" a U
theorem xk.warm {s U : State} (hW : s.WarmedH U.vm) (h : xk s) : xk U := by
  obtain ⟨h1, h2, h3, h4, ⟨a5, h5⟩, ⟨a6, h6⟩, a7, h7⟩ := h
  exact ⟨va_Nw.warmD hW h1, va_Nw.warmD hW h2, va_Nw.warmD hW h3, va_Nw.warmC hW h4, ⟨a5, vk_R.warm hW h5⟩, ⟨a6, vk_R.warm hW h6⟩, a7, vk_R.warm hW h7⟩
theorem xk.same {s U : State} (hv : s.vm = U.vm) (h : xk s) : xk U := by
  obtain ⟨h1, h2, h3, h4, ⟨a5, h5⟩, ⟨a6, h6⟩, a7, h7⟩ := h
  exact ⟨va_Nw.same rfl hv h1, va_Nw.same rfl hv h2, va_Nw.same rfl hv h3, va_Nw.same rfl hv h4, ⟨a5, vk_R.same hv.symm h5⟩, ⟨a6, vk_R.same hv.symm h6⟩, a7, vk_R.same hv.symm h7⟩
def xz (A : Nat → Prop) (U : State) (H : Heap) : Prop := vx_Zq Bundle.tN "UNASSIGNED_STACK" Bundle.steD A U H ∧ vx_Zq Bundle.tN "SUPPRESSED_SENTINEL" Bundle.listD A U H
theorem xz.moved {A : Nat → Prop} {u U : State} {H : Heap} (hvm : u.vm.Alike U.vm) (h : xz A u H) : xz A U H := ⟨vx_Zq.moved hvm h.1, vx_Zq.moved hvm h.2⟩
theorem xz.kept {A : Nat → Prop} {U : State} {H H1 : Heap} (h : xz A U H) (hq : ∀ a : Nat, a < H.size → ¬ A a → H1[a]? = H[a]?) : xz A U H1 := ⟨h.1.kept hq, h.2.kept hq⟩
theorem xz.narrow {A B : Nat → Prop} {U : State} {H : Heap} (h : xz A U H) (hAB : ∀ q, B q → A q) : xz B U H := ⟨h.1.narrow hAB, h.2.narrow hAB⟩
def PwX (D : va_G) (cy : Nat → ClassId) (w0 : va_W) (sz : Nat) (U : State) : Prop := Pw D cy w0 sz U ∧ xk U ∧ xz (va_A w0 sz) U U.heap
theorem pwx_blind (args : List Value) (D : va_G) (cy : Nat → ClassId) (w0 : va_W) (sz : Nat) : FrameBlind (va_Pc args (PwX D cy w0 sz)) := fun a U g mk q => by
  obtain ⟨q0, ⟨q1, q2, q3, q4⟩, q5, q6⟩ := q
  exact ⟨q0, ⟨q1, q2, kx.same (s := U) (U := U.calling g mk a) rfl q3, q4⟩, xk.same (s := U) (U := U.calling g mk a) rfl q5, xz.moved (u := U) (U := U.calling g mk a) (Vm.Alike.refl U.vm) q6⟩
def CtX (l : Launch) (y : MethodName) (wy : List Cond) (rm : Room) (D : va_G) (cy : Nat → ClassId) (args : List Value) (w0 : va_W) (mc ms : Nat) (Qf : (Nat → Prop) → Array Value → State → Outcome → State → Prop) (XCf : (Nat → Prop) → String → State → State → Prop) : Prop :=
  ∀ sz : Nat, vx_Met l y wy rm (va_Pc args (PwX D cy w0 sz)) (Qf (va_A w0 sz)) (XCf (va_A w0 sz)) mc ms (va_A w0 sz)
abbrev Rx {S : Type} (D : va_G) (w1 : S → va_W) (px : S → Prop) : (Nat → Prop) → String → State → State → Prop := fun A => vx_X px (fun E u t => E = NSE ∧ Bw D A w1 u t) A
theorem CtX.of {l : Launch} {y : MethodName} {wy ws' : List Cond} {rm : Room} {D : va_G} {cy : Nat → ClassId} {argsL : List Value} {w0 : va_W} {mc ms : Nat} {Qf : (Nat → Prop) → Array Value → State → Outcome → State → Prop} {XCf : (Nat → Prop) → String → State → State → Prop} {cc : ByteArray} {maxL : Nat} {rt : Option FieldType} (hy : plainName y.cls = true) (hw : wy = Cond.code y cc maxL rt :: ws') (hn : (lg_sl argsL).length ≤ maxL)
    (h : ∀ (p : Program) (e : Env) (s : State) (m : MethodId) (below : List Frame) (meth : Method) (c : Code) (A : Nat → Prop), Mc p m c meth cc maxL s argsL.toArray wy y.cls rt D cy A → (∀ x ∈ c.exceptionTable.toList, False) → xk s → xz A s s.heap → va_D A w0 → Gw p l e rm s m argsL.toArray below meth c D A (vx_MQ below (Qf A) (XCf A) argsL.toArray s mc ms A) w0 maxL (lv_args 0 argsL) 0 []) : CtX l y wy rm D cy argsL w0 mc ms Qf XCf := by
  intro sz
  refine vx_ofW (cc := cc) (maxL := maxL) (ret := rt) hy hw ?_
  intro p e s m args below meth c s₁ B hml ht hv
  obtain ⟨rfl, ⟨hsz, hP, hK, hD0⟩, hxk, hxz⟩ := hv
  subst hsz
  have hts := atoms_spec (ws := wy) B.pre
  have hown : s.vm.findClass y.cls = some m.cls := findClass_of_methodNamed B.named
  have hl := lv_entry argsL hn
  rw [lg_entry_eq]
  exact h p e s m below meth c _ ⟨⟨B.exec, B.bytes, hml, hown, hts⟩, B.returns, B.notSynchronized, hK, fun q h => Or.inr h⟩ ht hxk hxz hD0.self s.heap [] _ ⟨hP, hD0.self, va_S.rf⟩ hl
abbrev nseL : List Cond := nx_at RX7 165 NSE 13 nseC nseU
theorem vx_notgood : ∀ w ∈ nseL.filter (fun w => !goodWord w), w ∈ ([.declares (Bundle.initS "java/lang/RuntimeException"), .declares (Bundle.initS "java/lang/Exception"), .declares (Bundle.initS Bundle.tN), .castable NSE NSE] : List Cond) := by decide +kernel
theorem vx_allgood : ∀ w ∈ Cond.classLink RX7 161 NSE :: Cond.initialized NSE :: nseL, vx_ot w = true := by decide +kernel
section
variable {p : Program} {l : Launch} {e : Env} {R : Room} {s : State} {m : MethodId} {args : Array Value} {below : List Frame} {meth : Method} {c : Code} {H : Heap} {locs : List Loc} {D : va_G} {cy : Nat → ClassId} {A : Nat → Prop} {cc : ByteArray} {nL pc is sa : Nat} {text : String} {Ts : List Cond} {ret : Option FieldType} {ls : Array Slot} {S : Type} {w1 : S → va_W} {u : S} {px : S → Prop} {Qc : Array Value → State → Outcome → State → Prop}
theorem x_throw (C0 : Mc p m c meth cc nL s args Ts RX7 ret D cy A) (hl : l.stackTraces = false) (ht : ∀ x ∈ c.exceptionTable.toList, False) (hxk : xk s) (hxz : xz A s s.heap) (hg : ∀ w ∈ nseL.filter goodWord, w.before args s = true) (hk : (Cond.classLink RX7 161 NSE).before args s = true) (hini : (Cond.initialized NSE).before args s = true) (hstr : vk_R RX7 is text sa s) (hw : Hw D A (w1 u) s H locs) (hsz : ls.size = nL)
    (d0 : decode cc pc = .ok (.new 161, 3)) (d3 : decode cc (pc + 3) = .ok (.dup, 1)) (d4 : decode cc (pc + 4) = .ok (.ldc is, 2)) (d6 : decode cc (pc + 6) = .ok (.invokespecial 165, 3)) (d9 : decode cc (pc + 9) = .ok (.athrow, 1)) (hRf : 5 < R.frames) (hRl : 82 ≤ R.locals) (hRc : 0 + 1 ≤ R.cells) (hRs : 0 + 6 ≤ R.slots) (hp : px u) :
    W p l e R s m args below meth c H locs 0 0 (vx_MQ below Qc (Rx D w1 px A) args s 1 6 A) (F0 m pc ls []) := by
  obtain ⟨⟨hx, hb, hml, hown, hts⟩, hr, hlocks, hkx, hA⟩ := C0
  obtain ⟨h1, h2, h3, h4, -⟩ := hxk
  have hat : ∀ w ∈ nseL, w.before args s = true := vx_hat hg vx_notgood (vx_c (va_Nw.use rfl h1) (vx_c (va_Nw.use rfl h2) (vx_c (va_Nw.use rfl h3) (vx_c (va_Nw.use rfl h4) vx_n))))
  exact nx_throw hx hb hl nse_0 nse_1 nse_2 nse_5 hown (by decide) (by decide) hk hini hstr hat vx_allgood hxz.1 hxz.2 hw.2.2 (hsz.trans hml.symm) d0 d3 d4 d6 d9 (fun x hx => (ht x hx).elim) hRf hRl hRc hRs hlocks
    (fun t _ hz hq => ⟨u, hp, ⟨rfl, hw.1.kept (fun k q hk9 => hq q.1 (hw.1 k q hk9).lt), hw.2.1⟩, Nat.le_trans hw.2.2.1 hz, fun q g1 g2 => (hq q (Nat.lt_of_lt_of_le g1 hw.2.2.1)).trans (hw.2.2.2.1 q g1 g2)⟩) hw.2.2.2.2 (Nat.le_refl _) (Nat.le_refl _)
end
