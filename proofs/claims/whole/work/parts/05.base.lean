/-! base: contracts over a world, calls of them -/
/-- the links into the nest -/
def nws (U : State) : Prop := va_Nw (.methodLinkNest RX3 25 yX7_isWithin RX7) U ∧ va_Nw (.methodLinkNest RX1 45 yX7_countParts RX7) U ∧ va_Nw (.methodLinkNest RX1 41 yX7_isWithin RX7) U ∧ va_Nw (.methodLinkNest RX7 9 yX4_init RX7) U ∧ va_Nw (.methodLinkNest RX7 12 yX3_init RX7) U ∧ va_Nw (.methodLinkNest RX7 15 yX1_init RX7) U
def kx (D : va_G) (cy : Nat → ClassId) (U : State) : Prop := va_K D vwCl [(cy 0, .int), (cy 1, .long), (cy 2, .boolean)] U ∧ nws U
theorem kx.warm {D : va_G} {cy : Nat → ClassId} {s U : State} (hW : s.WarmedH U.vm) (h : kx D cy s) : kx D cy U :=
  ⟨va_K.moved hW.alike h.1, va_Nw.warmM hW h.2.1, va_Nw.warmM hW h.2.2.1, va_Nw.warmM hW h.2.2.2.1, va_Nw.warmM hW h.2.2.2.2.1, va_Nw.warmM hW h.2.2.2.2.2.1, va_Nw.warmM hW h.2.2.2.2.2.2⟩
theorem kx.same {D : va_G} {cy : Nat → ClassId} {s U : State} (hv : s.vm = U.vm) (h : kx D cy s) : kx D cy U :=
  ⟨va_K.moved (by rw [hv]; exact Vm.Alike.refl U.vm) h.1, va_Nw.same rfl hv h.2.1, va_Nw.same rfl hv h.2.2.1, va_Nw.same rfl hv h.2.2.2.1, va_Nw.same rfl hv h.2.2.2.2.1, va_Nw.same rfl hv h.2.2.2.2.2.1, va_Nw.same rfl hv h.2.2.2.2.2.2⟩
/-- the world at a method's start -/
def Pw (D : va_G) (cy : Nat → ClassId) (w0 : va_W) (sz : Nat) (U : State) : Prop := U.heap.size = sz ∧ va_P D vwCl w0 U.heap ∧ kx D cy U ∧ va_D (fun _ => True) w0
/-- the world at its end -/
def Bw {S : Type} (D : va_G) (A : Nat → Prop) (w1 : S → va_W) (u : S) (t : State) : Prop := va_P D vwCl (w1 u) t.heap ∧ va_D A (w1 u)
def Ct (l : Launch) (y : MethodName) (wy : List Cond) (rm : Room) (D : va_G) (cy : Nat → ClassId) (args : List Value) (w0 : va_W) (mc ms : Nat) (Qf : (Nat → Prop) → Array Value → State → Outcome → State → Prop) : Prop :=
  ∀ sz : Nat, Met l y wy rm (va_Pc args (Pw D cy w0 sz)) (Qf (va_A w0 sz)) mc ms (va_A w0 sz)
abbrev Ri {S : Type} (D : va_G) (w1 : S → va_W) (post : Int32 → S → Prop) : (Nat → Prop) → Array Value → State → Outcome → State → Prop := fun A => va_Qi post (Bw D A w1) A
abbrev Rl {S : Type} (D : va_G) (w1 : S → va_W) (post : Int64 → S → Prop) : (Nat → Prop) → Array Value → State → Outcome → State → Prop := fun A => va_Ql post (Bw D A w1) A
abbrev Rv {S : Type} (D : va_G) (w1 : S → va_W) (post : S → Prop) : (Nat → Prop) → Array Value → State → Outcome → State → Prop := fun A => va_Qv post (Bw D A w1) A
abbrev Rr {S : Type} (D : va_G) (ra : Nat) (w1 : S → va_W) (post : S → Prop) : (Nat → Prop) → Array Value → State → Outcome → State → Prop := fun A => va_Qr post (fun u a t => a = ra ∧ Bw D A w1 u t) A
/-- a heap that holds a world, inside a method -/
def Hw (D : va_G) (A : Nat → Prop) (ws : va_W) (s : State) (H : Heap) (locs : List Loc) : Prop := va_P D vwCl ws H ∧ va_D A ws ∧ va_S A s.heap H locs
/-- what a method's body knows -/
def Mc (p : Program) (m : MethodId) (c : Code) (meth : Method) (cc : ByteArray) (nL : Nat) (s : State) (args : Array Value) (Ts : List Cond) (own : String) (ret : Option FieldType) (D : va_G) (cy : Nat → ClassId) (A : Nat → Prop) : Prop :=
  CallFix p m c cc nL s args Ts own ∧ meth.sig.returnType = ret ∧ meth.locks = false ∧ kx D cy s ∧ ∀ q, s.heap.size ≤ q → A q
/-- at a place of a body, over a world -/
def Gw (p : Program) (l : Launch) (e : Env) (R : Room) (s : State) (m : MethodId) (args : Array Value) (below : List Frame) (meth : Method) (c : Code) (D : va_G) (A : Nat → Prop) (Q : State → Prop) (ws : va_W) (nL : Nat) (lv : List (Nat × Value)) (pc : Nat) (st : List Value) : Prop :=
  ∀ (H : Heap) (locs : List Loc) (ls : Array Slot), Hw D A ws s H locs → lv_has ls nL lv → W p l e R s m args below meth c H locs 0 0 Q (F0 m pc ls st)
theorem pw_blind (args : List Value) (D : va_G) (cy : Nat → ClassId) (w0 : va_W) (sz : Nat) : FrameBlind (va_Pc args (Pw D cy w0 sz)) := fun a U g mk q => by
  obtain ⟨q0, q1, q2, q3, q4⟩ := q
  exact ⟨q0, q1, q2, kx.same (s := U) (U := U.calling g mk a) rfl q3, q4⟩
theorem Ct.of {l : Launch} {y : MethodName} {wy ws' : List Cond} {rm : Room} {D : va_G} {cy : Nat → ClassId} {argsL : List Value} {w0 : va_W} {mc ms : Nat} {Qf : (Nat → Prop) → Array Value → State → Outcome → State → Prop} {cc : ByteArray} {maxL : Nat} {rt : Option FieldType} (hy : plainName y.cls = true) (hw : wy = Cond.code y cc maxL rt :: ws') (hn : (lg_sl argsL).length ≤ maxL)
    (h : ∀ (p : Program) (e : Env) (s : State) (m : MethodId) (below : List Frame) (meth : Method) (c : Code) (A : Nat → Prop), Mc p m c meth cc maxL s argsL.toArray wy y.cls rt D cy A → va_D A w0 → Gw p l e rm s m argsL.toArray below meth c D A (MQ below (Qf A) argsL.toArray s mc ms A) w0 maxL (lv_args 0 argsL) 0 []) : Ct l y wy rm D cy argsL w0 mc ms Qf := by
  intro sz
  refine Met.ofW (cc := cc) (maxL := maxL) (ret := rt) hy hw ?_
  intro p e s m args below meth c s₁ B hml hv
  obtain ⟨rfl, hsz, hP, hK, hD0⟩ := hv
  subst hsz
  have hts := atoms_spec (ws := wy) B.pre
  have hown : s.vm.findClass y.cls = some m.cls := findClass_of_methodNamed B.named
  have hl := lv_entry argsL hn
  rw [lg_entry_eq]
  exact h p e s m below meth c _ ⟨⟨B.exec, B.bytes, hml, hown, hts⟩, B.returns, B.notSynchronized, hK, fun q h => Or.inr h⟩ hD0.self s.heap [] _ ⟨hP, hD0.self, va_S.rf⟩ hl
section BaseCalls
variable {p : Program} {l : Launch} {e : Env} {R : Room} {s : State} {m : MethodId} {args : Array Value} {below : List Frame} {meth : Method} {c : Code} {H : Heap} {locs : List Loc} {cells slots : Nat} {Q : State → Prop}
variable {cc bytes : ByteArray} {pc nL maxL n idx N : Nat} {ls : Array Slot} {rest st0 As : List Value} {D : va_G} {cy : Nat → ClassId} {A : Nat → Prop} {ws : va_W} {Ts wy : List Cond} {own C host : String} {T : u_T} {y : MethodName} {rm : Room} {b : Nat} {fs : List Value} {ret : Option FieldType} {S : Type} {w1 : S → va_W}
theorem hw_free (hw : Hw D A ws s H locs) (hA : ∀ q, s.heap.size ≤ q → A q) : ∀ q, va_A ws H.size q → A q := fun q h => h.elim (fun ⟨k, e, hk⟩ => hw.2.1.2 k _ hk) (fun h => hA q (Nat.le_trans hw.2.2.1 h))
theorem hw_pre (hkx : kx D cy s) (hw : Hw D A ws s H locs) (as : List Value) : ∀ U : State, U.heap = H → s.WarmedH U.vm → va_Pc as (Pw D cy ws H.size) as.toArray U := fun U hU hW => ⟨rfl, by rw [hU], by rw [hU]; exact hw.1, hkx.warm hW, hw.2.1.weaken (fun _ _ _ _ => trivial)⟩
theorem hw_back {u : S} {t : State} {H1 : Heap} {locs1 : List Loc} (hw : Hw D A ws s H locs) (hA : ∀ q, s.heap.size ≤ q → A q) (ht : t.heap = H1) (hB : Bw D (va_A ws H.size) w1 u t) (hS : va_S A s.heap H1 locs1) : Hw D A (w1 u) s H1 locs1 := ⟨by rw [← ht]; exact hB.1, hB.2.weaken (fun _ q _ h => hw_free hw hA _ h), hS⟩
theorem call_Vi {post : Int32 → S → Prop} (F : CallFix p m c cc nL s args Ts own) (hkx : kx D cy s) (hw : Hw D A ws s H locs) (hA : ∀ q, s.heap.size ≤ q → A q) (hM : Ct l y wy rm D cy (.ref b :: As) ws 0 0 (Ri D w1 post)) (cw : CallW R s args own C idx y bytes maxL ret wy rm 0 0 n) (q0 ci : Nat) (hc : vwCl[ci]? = some (C, T, N)) (he : ws[q0]? = some (b, .inr (ci, fs))) (hn : As.length = n) (hsz : ls.size = nL) (hst : st0 = As.reverse ++ .ref b :: rest) (hrm : (rest.map fun v => v.category).sum ≤ 8) (hdg : decode cc pc = .ok (.invokevirtual idx, 3)) (hcs : cells ≤ R.cells ∧ slots ≤ R.slots)
    (kk : ∀ (r : Int32) (u : S) (H1 : Heap) (locs1 : List Loc), post r u → Hw D A (w1 u) s H1 locs1 → W p l e R s m args below meth c H1 locs1 cells slots Q (F0 m (pc + 3) ls (.int r :: rest))) : W p l e R s m args below meth c H locs cells slots Q (F0 m pc ls st0) := by
  subst hst
  exact va_calli (va_runV F (hM H.size) cw ⟨pw_blind _ D cy ws H.size, va_recv hkx.1 hw.1 hc he, hw_pre hkx hw _⟩ rfl hn hsz rfl (lv_room hrm) hdg hcs) hw.2.2 (fun q _ h => hw_free hw hA q h) (hw_free hw hA) (fun r u t H1 locs1 ht _ hp hB _ _ hS => kk r u H1 locs1 hp (hw_back hw hA ht hB hS))
theorem call_Vl {post : Int64 → S → Prop} (F : CallFix p m c cc nL s args Ts own) (hkx : kx D cy s) (hw : Hw D A ws s H locs) (hA : ∀ q, s.heap.size ≤ q → A q) (hM : Ct l y wy rm D cy (.ref b :: As) ws 0 0 (Rl D w1 post)) (cw : CallW R s args own C idx y bytes maxL ret wy rm 0 0 n) (q0 ci : Nat) (hc : vwCl[ci]? = some (C, T, N)) (he : ws[q0]? = some (b, .inr (ci, fs))) (hn : As.length = n) (hsz : ls.size = nL) (hst : st0 = As.reverse ++ .ref b :: rest) (hrm : (rest.map fun v => v.category).sum ≤ 8) (hdg : decode cc pc = .ok (.invokevirtual idx, 3)) (hcs : cells ≤ R.cells ∧ slots ≤ R.slots)
    (kk : ∀ (r : Int64) (u : S) (H1 : Heap) (locs1 : List Loc), post r u → Hw D A (w1 u) s H1 locs1 → W p l e R s m args below meth c H1 locs1 cells slots Q (F0 m (pc + 3) ls (.long r :: rest))) : W p l e R s m args below meth c H locs cells slots Q (F0 m pc ls st0) := by
  subst hst
  exact va_calll (va_runV F (hM H.size) cw ⟨pw_blind _ D cy ws H.size, va_recv hkx.1 hw.1 hc he, hw_pre hkx hw _⟩ rfl hn hsz rfl (lv_room hrm) hdg hcs) hw.2.2 (fun q _ h => hw_free hw hA q h) (hw_free hw hA) (fun r u t H1 locs1 ht _ hp hB _ _ hS => kk r u H1 locs1 hp (hw_back hw hA ht hB hS))
theorem call_Vv {post : S → Prop} (F : CallFix p m c cc nL s args Ts own) (hkx : kx D cy s) (hw : Hw D A ws s H locs) (hA : ∀ q, s.heap.size ≤ q → A q) (hM : Ct l y wy rm D cy (.ref b :: As) ws 0 0 (Rv D w1 post)) (cw : CallW R s args own C idx y bytes maxL ret wy rm 0 0 n) (q0 ci : Nat) (hc : vwCl[ci]? = some (C, T, N)) (he : ws[q0]? = some (b, .inr (ci, fs))) (hn : As.length = n) (hsz : ls.size = nL) (hst : st0 = As.reverse ++ .ref b :: rest) (hrm : (rest.map fun v => v.category).sum ≤ 8) (hdg : decode cc pc = .ok (.invokevirtual idx, 3)) (hcs : cells ≤ R.cells ∧ slots ≤ R.slots)
    (kk : ∀ (u : S) (H1 : Heap) (locs1 : List Loc), post u → Hw D A (w1 u) s H1 locs1 → W p l e R s m args below meth c H1 locs1 cells slots Q (F0 m (pc + 3) ls rest)) : W p l e R s m args below meth c H locs cells slots Q (F0 m pc ls st0) := by
  subst hst
  exact va_callv (va_runV F (hM H.size) cw ⟨pw_blind _ D cy ws H.size, va_recv hkx.1 hw.1 hc he, hw_pre hkx hw _⟩ rfl hn hsz rfl (lv_room hrm) hdg hcs) hw.2.2 (fun q _ h => hw_free hw hA q h) (hw_free hw hA) (fun u t H1 locs1 ht _ hp hB _ _ hS => kk u H1 locs1 hp (hw_back hw hA ht hB hS))
theorem call_Vr {post : S → Prop} {ra : Nat} (F : CallFix p m c cc nL s args Ts own) (hkx : kx D cy s) (hw : Hw D A ws s H locs) (hA : ∀ q, s.heap.size ≤ q → A q) (hM : Ct l y wy rm D cy (.ref b :: As) ws 0 0 (Rr D ra w1 post)) (cw : CallW R s args own C idx y bytes maxL ret wy rm 0 0 n) (q0 ci : Nat) (hc : vwCl[ci]? = some (C, T, N)) (he : ws[q0]? = some (b, .inr (ci, fs))) (hn : As.length = n) (hsz : ls.size = nL) (hst : st0 = As.reverse ++ .ref b :: rest) (hrm : (rest.map fun v => v.category).sum ≤ 8) (hdg : decode cc pc = .ok (.invokevirtual idx, 3)) (hcs : cells ≤ R.cells ∧ slots ≤ R.slots)
    (kk : ∀ (u : S) (H1 : Heap) (locs1 : List Loc), post u → Hw D A (w1 u) s H1 locs1 → W p l e R s m args below meth c H1 locs1 cells slots Q (F0 m (pc + 3) ls (.ref ra :: rest))) : W p l e R s m args below meth c H locs cells slots Q (F0 m pc ls st0) := by
  subst hst
  refine va_callr (va_runV F (hM H.size) cw ⟨pw_blind _ D cy ws H.size, va_recv hkx.1 hw.1 hc he, hw_pre hkx hw _⟩ rfl hn hsz rfl (lv_room hrm) hdg hcs) hw.2.2 (fun q _ h => hw_free hw hA q h) (hw_free hw hA) (fun u a t H1 locs1 ht _ hp hB _ _ hS => ?_)
  obtain ⟨rfl, hB⟩ := hB
  exact kk u H1 locs1 hp (hw_back hw hA ht hB hS)
theorem call_Sv {post : S → Prop} (F : CallFix p m c cc nL s args Ts own) (hkx : kx D cy s) (hw : Hw D A ws s H locs) (hA : ∀ q, s.heap.size ≤ q → A q) (hM : Ct l y wy rm D cy As ws 0 0 (Rv D w1 post)) (cw : CallB R s args own idx y bytes maxL ret wy rm 0 0 n ∧ (Cond.static y).before args s = true) (hn : As.length = n) (hsz : ls.size = nL) (hst : st0 = As.reverse ++ rest) (hrm : (rest.map fun v => v.category).sum ≤ 8) (hdg : decode cc pc = .ok (.invokestatic idx, 3)) (hcs : cells ≤ R.cells ∧ slots ≤ R.slots)
    (kk : ∀ (u : S) (H1 : Heap) (locs1 : List Loc), post u → Hw D A (w1 u) s H1 locs1 → W p l e R s m args below meth c H1 locs1 cells slots Q (F0 m (pc + 3) ls rest)) : W p l e R s m args below meth c H locs cells slots Q (F0 m pc ls st0) := by
  subst hst
  exact va_callv (va_runS F (hM H.size) cw ⟨pw_blind _ D cy ws H.size, hw_pre hkx hw _⟩ rfl hn hsz rfl (lv_room hrm) hdg hcs) hw.2.2 (fun q _ h => hw_free hw hA q h) (hw_free hw hA) (fun u t H1 locs1 ht _ hp hB _ _ hS => kk u H1 locs1 hp (hw_back hw hA ht hB hS))
/-! methods over no world -/
abbrev w_0 : Unit → va_W := fun _ => []
theorem hw_pre0 (hkx : kx D cy s) (as : List Value) : ∀ U : State, U.heap = H → s.WarmedH U.vm → va_Pc as (Pw D cy [] H.size) as.toArray U := fun U hU hW => ⟨rfl, by rw [hU], fun k q h => by simp at h, hkx.warm hW, ⟨fun i j p q h => by simp at h, fun k q h => by simp at h⟩⟩
theorem hw_A0 {q : Nat} (h : va_A [] H.size q) : H.size ≤ q := h.elim (fun ⟨k, e, hk⟩ => by simp at hk) id
theorem hw_back0 {H1 : Heap} {locs1 : List Loc} (hw : Hw D A ws s H locs) (hk : ∀ q : Nat, q < H.size → ¬ va_A [] H.size q → H1[q]? = H[q]?) (hS : va_S A s.heap H1 locs1) : Hw D A ws s H1 locs1 := ⟨hw.1.kept (fun k q hq => hk q.1 (hw.1 k q hq).lt (fun h => Nat.not_le.mpr (hw.1 k q hq).lt (hw_A0 h))), hw.2.1, hS⟩
theorem call_S0i {post : Int32 → Prop} (F : CallFix p m c cc nL s args Ts own) (hkx : kx D cy s) (hw : Hw D A ws s H locs) (hA : ∀ q, s.heap.size ≤ q → A q) (hM : Ct l y wy rm D cy As [] 0 0 (Ri D w_0 (fun r _ => post r))) (cw : CallB R s args own idx y bytes maxL ret wy rm 0 0 n ∧ (Cond.static y).before args s = true) (hn : As.length = n) (hsz : ls.size = nL) (hst : st0 = As.reverse ++ rest) (hrm : (rest.map fun v => v.category).sum ≤ 8) (hdg : decode cc pc = .ok (.invokestatic idx, 3)) (hcs : cells ≤ R.cells ∧ slots ≤ R.slots)
    (kk : ∀ (r : Int32) (H1 : Heap) (locs1 : List Loc), post r → Hw D A ws s H1 locs1 → W p l e R s m args below meth c H1 locs1 cells slots Q (F0 m (pc + 3) ls (.int r :: rest))) : W p l e R s m args below meth c H locs cells slots Q (F0 m pc ls st0) := by
  subst hst
  exact va_calli (va_runS F (hM H.size) cw ⟨pw_blind _ D cy [] H.size, hw_pre0 hkx _⟩ rfl hn hsz rfl (lv_room hrm) hdg hcs) hw.2.2 (fun q _ h => hA q (Nat.le_trans hw.2.2.1 (hw_A0 h))) (fun q h => hA q (Nat.le_trans hw.2.2.1 (hw_A0 h))) (fun r u t H1 locs1 ht _ hp hB _ hk hS => kk r H1 locs1 hp (hw_back0 hw hk hS))
theorem call_N0i {post : Int32 → Prop} (F : CallFix p m c cc nL s args Ts own) (hkx : kx D cy s) (hw : Hw D A ws s H locs) (hA : ∀ q, s.heap.size ≤ q → A q) (hM : Ct l y wy rm D cy As [] 0 0 (Ri D w_0 (fun r _ => post r))) (cw : va_CN R s args own idx y host bytes maxL ret wy rm 0 0 n ∧ (Cond.static y).before args s = true ∧ True) (hn : As.length = n) (hsz : ls.size = nL) (hst : st0 = As.reverse ++ rest) (hrm : (rest.map fun v => v.category).sum ≤ 8) (hdg : decode cc pc = .ok (.invokestatic idx, 3)) (hcs : cells ≤ R.cells ∧ slots ≤ R.slots)
    (kk : ∀ (r : Int32) (H1 : Heap) (locs1 : List Loc), post r → Hw D A ws s H1 locs1 → W p l e R s m args below meth c H1 locs1 cells slots Q (F0 m (pc + 3) ls (.int r :: rest))) : W p l e R s m args below meth c H locs cells slots Q (F0 m pc ls st0) := by
  subst hst
  exact va_calli (va_runSN F (hM H.size) cw ⟨pw_blind _ D cy [] H.size, hw_pre0 hkx _⟩ rfl hn hsz rfl (lv_room hrm) hdg hcs) hw.2.2 (fun q _ h => hA q (Nat.le_trans hw.2.2.1 (hw_A0 h))) (fun q h => hA q (Nat.le_trans hw.2.2.1 (hw_A0 h))) (fun r u t H1 locs1 ht _ hp hB _ hk hS => kk r H1 locs1 hp (hw_back0 hw hk hS))
/-! ends -/
def bz (r : Int32) : Prop := r = 0 ∨ r = 1
theorem bz.nar {r : Int32} (h : bz r) : narrow .boolean (.int r) = .int r := by rcases h with rfl | rfl <;> rfl
theorem bz.fit {r : Int32} (h : bz r) : fits .boolean (.int r) = true := by rcases h with rfl | rfl <;> rfl
theorem bz.vp {r : Int32} (h : bz r) : vp_nar .boolean r = r := by rcases h with rfl | rfl <;> rfl
theorem end_i {post : Int32 → S → Prop} {Ts : List Cond} (C0 : Mc p m c meth cc nL s args Ts own (some .int) D cy A) {u : S} (hw : Hw D A (w1 u) s H locs) {r : Int32} (hp : post r u) (hdg : decode cc pc = .ok (.ireturn, 1)) : W p l e R s m args below meth c H locs cells slots (MQ below (Ri D w1 post A) args s cells slots A) (F0 m pc ls [.int r]) :=
  W.iret C0.1.1 C0.1.2.1 C0.2.1 (fun t ht _ => ⟨⟨r, u, rfl, hp, by rw [← ht] at hw; exact hw.1, hw.2.1⟩, hw.2.2.F ht⟩) hw.2.2.2.2 hdg C0.2.2.1
theorem end_z {post : Int32 → S → Prop} {Ts : List Cond} (C0 : Mc p m c meth cc nL s args Ts own (some .boolean) D cy A) {u : S} (hw : Hw D A (w1 u) s H locs) {r : Int32} (hz : bz r) (hp : post r u) (hdg : decode cc pc = .ok (.ireturn, 1)) : W p l e R s m args below meth c H locs cells slots (MQ below (Ri D w1 post A) args s cells slots A) (F0 m pc ls [.int r]) :=
  W.zret C0.1.1 C0.1.2.1 C0.2.1 hz.nar (fun t ht _ => ⟨⟨r, u, rfl, hp, by rw [← ht] at hw; exact hw.1, hw.2.1⟩, hw.2.2.F ht⟩) hw.2.2.2.2 hdg C0.2.2.1
theorem end_l {post : Int64 → S → Prop} {Ts : List Cond} (C0 : Mc p m c meth cc nL s args Ts own (some .long) D cy A) {u : S} (hw : Hw D A (w1 u) s H locs) {r : Int64} (hp : post r u) (hdg : decode cc pc = .ok (.lreturn, 1)) : W p l e R s m args below meth c H locs cells slots (MQ below (Rl D w1 post A) args s cells slots A) (F0 m pc ls [.long r]) :=
  W.lret C0.1.1 C0.1.2.1 C0.2.1 (fun t ht _ => ⟨⟨r, u, rfl, hp, by rw [← ht] at hw; exact hw.1, hw.2.1⟩, hw.2.2.F ht⟩) hw.2.2.2.2 hdg C0.2.2.1
theorem end_v {post : S → Prop} {Ts : List Cond} (C0 : Mc p m c meth cc nL s args Ts own none D cy A) {u : S} (hw : Hw D A (w1 u) s H locs) (hp : post u) (hdg : decode cc pc = .ok (.return_, 1)) : W p l e R s m args below meth c H locs cells slots (MQ below (Rv D w1 post A) args s cells slots A) (F0 m pc ls []) :=
  W.vret C0.1.1 C0.1.2.1 C0.2.1 (fun t ht _ => ⟨⟨u, rfl, hp, by rw [← ht] at hw; exact hw.1, hw.2.1⟩, hw.2.2.F ht⟩) hw.2.2.2.2 hdg C0.2.2.1
theorem end_r {post : S → Prop} {ra : Nat} {cn : String} {Ts : List Cond} (C0 : Mc p m c meth cc nL s args Ts own (some (.object cn)) D cy A) {u : S} (hw : Hw D A (w1 u) s H locs) (hp : post u) (hdg : decode cc pc = .ok (.areturn, 1)) : W p l e R s m args below meth c H locs cells slots (MQ below (Rr D ra w1 post A) args s cells slots A) (F0 m pc ls [.ref ra]) :=
  W.aret C0.1.1 C0.1.2.1 C0.2.1 (Or.inl ⟨_, rfl⟩) (Or.inr ⟨_, rfl⟩) (fun t ht _ => ⟨⟨u, ra, rfl, hp, rfl, by rw [← ht] at hw; exact hw.1, hw.2.1⟩, hw.2.2.F ht⟩) hw.2.2.2.2 hdg C0.2.2.1
end BaseCalls
