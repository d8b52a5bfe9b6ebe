/-! calls over a part of a world; methods with a table of handlers -/
section
variable {D : va_G} {A : Nat → Prop} {s : State} {H : Heap} {locs : List Loc} {a b : va_W}
theorem ap_ix (k : Nat) (q : Nat × va_E) (hk : (b ++ a)[k]? = some q) : (a ++ b)[if k < b.length then a.length + k else k - b.length]? = some q := by
  by_cases h : k < b.length
  · rw [if_pos h]
    rw [List.getElem?_append_left h] at hk
    rw [List.getElem?_append_right (by omega), show a.length + k - a.length = k by omega]
    exact hk
  · rw [if_neg h]
    rw [List.getElem?_append_right (by omega)] at hk
    have hl := (List.getElem?_eq_some_iff.mp hk).1
    rw [List.getElem?_append_left hl]
    exact hk
theorem hw_comm (hw : Hw D A (a ++ b) s H locs) : Hw D A (b ++ a) s H locs :=
  ⟨hw.1.by _ ap_ix, hw.2.1.by _ ap_ix (fun i j hi hj e => by
    rw [List.length_append] at hi hj
    by_cases h1 : i < b.length <;> by_cases h2 : j < b.length <;> simp only [h1, h2, if_true, if_false] at e <;> omega), hw.2.2⟩
theorem hw_r (hw : Hw D A (a ++ b) s H locs) : va_P D vwCl b H ∧ va_D A b := by
  have h1 : ∀ (k : Nat) (q : Nat × va_E), b[k]? = some q → (a ++ b)[a.length + k]? = some q := fun k q hk => by
    rw [List.getElem?_append_right (by omega), show a.length + k - a.length = k by omega]; exact hk
  exact ⟨hw.1.by _ h1, hw.2.1.by _ h1 (fun i j _ _ e => by omega)⟩
theorem hw_rf (hw : Hw D A (a ++ b) s H locs) (hA : ∀ q, s.heap.size ≤ q → A q) : ∀ q, va_A b H.size q → A q := fun q z => by
  rcases z with ⟨k, e, h⟩ | z
  · exact (hw_r hw).2.2 k _ h
  · exact hA q (Nat.le_trans hw.2.2.1 z)
/-- a callee over the last part of a world: what comes back stands there -/
theorem hw_fr {w : va_W} {H1 : Heap} {locs1 : List Loc} (hw : Hw D A (a ++ b) s H locs) (hA : ∀ q, s.heap.size ≤ q → A q) (hP1 : va_P D vwCl w H1) (hD1 : va_D (va_A b H.size) w) (hk : ∀ q : Nat, q < H.size → ¬ va_A b H.size q → H1[q]? = H[q]?) (hS : va_S A s.heap H1 locs1) : Hw D A (a ++ w) s H1 locs1 := by
  have hin : ∀ (k : Nat) (x : Nat × va_E), a[k]? = some x → (a ++ b)[k]? = some x ∧ k < a.length := fun k x h => by
    have hl := (List.getElem?_eq_some_iff.mp h).1
    exact ⟨by rw [List.getElem?_append_left hl]; exact h, hl⟩
  have hno : ∀ (k : Nat) (x : Nat × va_E), a[k]? = some x → ¬ va_A b H.size x.1 ∧ x.1 < H.size := fun k x h => by
    obtain ⟨h1, h2⟩ := hin k x h
    have hlt := (hw.1 k x h1).lt
    refine ⟨fun z => ?_, hlt⟩
    rcases z with ⟨j, e, hj⟩ | z
    · have h3 : (a ++ b)[a.length + j]? = some (x.1, e) := by rw [List.getElem?_append_right (by omega), show a.length + j - a.length = j by omega]; exact hj
      have := hw.2.1.1 k (a.length + j) x (x.1, e) h1 h3 rfl
      omega
    · omega
  refine ⟨?_, va_D.app ⟨fun i j p q hp hq => hw.2.1.1 i j p q (hin i p hp).1 (hin j q hq).1, fun k q hq => hw.2.1.2 k q (hin k q hq).1⟩ (hD1.weaken (fun _ q _ h => hw_rf hw hA _ h)) (fun i j p q hp hq z => (hno i p hp).1 (by rw [z]; exact hD1.2 j q hq)), hS⟩
  intro k x hx
  rcases Nat.lt_or_ge k a.length with h | h
  · rw [List.getElem?_append_left h] at hx
    exact (hw.1 k x (hin k x hx).1).kept (hk x.1 (hno k x hx).2 (hno k x hx).1)
  · rw [List.getElem?_append_right h] at hx
    exact hP1 _ x hx
end
def CtW (l : Launch) (y : MethodName) (wy : List Cond) (rm : Room) (D : va_G) (cy : Nat → ClassId) (args : List Value) (w0 : va_W) (mc ms : Nat) (Qf : (Nat → Prop) → Array Value → State → Outcome → State → Prop) : Prop :=
  ∀ sz : Nat, Met l y wy rm (va_Pc args (PwX D cy w0 sz)) (Qf (va_A w0 sz)) mc ms (va_A w0 sz)
theorem CtW.of {l : Launch} {y : MethodName} {wy ws' : List Cond} {rm : Room} {D : va_G} {cy : Nat → ClassId} {argsL : List Value} {w0 : va_W} {mc ms : Nat} {Qf : (Nat → Prop) → Array Value → State → Outcome → State → Prop} {cc : ByteArray} {maxL : Nat} {rt : Option FieldType} {hh : List (Nat × Nat × Nat × Nat)} (hy : plainName y.cls = true) (hw : wy = Cond.codeWith y cc maxL rt hh :: ws') (hn : (lg_sl argsL).length ≤ maxL)
    (h : ∀ (p : Program) (e : Env) (s : State) (m : MethodId) (below : List Frame) (meth : Method) (c : Code) (A : Nat → Prop), Mc p m c meth cc maxL s argsL.toArray wy y.cls rt D cy A → c.exceptionTable.toList = tableOf hh → xk s → xz A s s.heap → va_D A w0 → Gw p l e rm s m argsL.toArray below meth c D A (MQ below (Qf A) argsL.toArray s mc ms A) w0 maxL (lv_args 0 argsL) 0 []) : CtW l y wy rm D cy argsL w0 mc ms Qf := by
  intro sz
  refine va_MetW (cc := cc) (maxL := maxL) (ret := rt) (hh := hh) hy hw ?_
  intro p e s m args below meth c s₁ B hml hv
  obtain ⟨rfl, ⟨hsz, hP, hK, hD0⟩, hxk, hxz⟩ := hv
  subst hsz
  have hts := atoms_spec (ws := wy) B.pre
  have hown : s.vm.findClass y.cls = some m.cls := findClass_of_methodNamed B.named
  have hl := lv_entry argsL hn
  have ht : c.exceptionTable.toList = tableOf hh := vx_table (x := y) B (hts _ (by rw [hw]; exact List.mem_cons_self))
  rw [lg_entry_eq]
  exact h p e s m below meth c _ ⟨⟨B.exec, B.bytes, hml, hown, hts⟩, B.returns, B.notSynchronized, hK, fun q h => Or.inr h⟩ ht hxk hxz hD0.self s.heap [] _ ⟨hP, hD0.self, va_S.rf⟩ hl
section
variable {p : Program} {l : Launch} {e : Env} {R : Room} {s : State} {m : MethodId} {args : Array Value} {below : List Frame} {meth : Method} {c : Code} {H : Heap} {locs : List Loc} {cells slots : Nat} {Q : State → Prop}
variable {cc bytes : ByteArray} {pc nL maxL n idx N mc ms : Nat} {ls : Array Slot} {rest st0 As : List Value} {D : va_G} {cy : Nat → ClassId} {A : Nat → Prop} {wr wc : va_W} {Ts wy : List Cond} {own C : String} {T : u_T} {y : MethodName} {rm : Room} {b : Nat} {fs : List Value} {ret : Option FieldType} {S : Type} {w1 : S → va_W}
theorem hwr_pre (hkx : kx D cy s) (hw : Hw D A (wr ++ wc) s H locs) (as : List Value) : ∀ U : State, U.heap = H → s.WarmedH U.vm → va_Pc as (Pw D cy wc H.size) as.toArray U := fun U hU hW => ⟨rfl, by rw [hU], by rw [hU]; exact (hw_r hw).1, hkx.warm hW, (hw_r hw).2.weaken (fun _ _ _ _ => trivial)⟩
theorem hwr_preX (hkx : kx D cy s) (hxk : xk s) (hxz : xz A s s.heap) (hw : Hw D A (wr ++ wc) s H locs) (hA : ∀ q, s.heap.size ≤ q → A q) (as : List Value) : ∀ U : State, U.heap = H → s.WarmedH U.vm → va_Pc as (PwX D cy wc H.size) as.toArray U := fun U hU hW =>
  ⟨rfl, (hwr_pre hkx hw as U hU hW).2, hxk.warm hW, by rw [hU]; exact ((hxz.kept hw.2.2.2.1).narrow (hw_rf hw hA)).moved hW.alike⟩
theorem call_Fi {post : Int32 → S → Prop} (F : CallFix p m c cc nL s args Ts own) (hkx : kx D cy s) (hw : Hw D A (wr ++ wc) s H locs) (hA : ∀ q, s.heap.size ≤ q → A q) (hM : Ct l y wy rm D cy (.ref b :: As) wc 0 0 (Ri D w1 post)) (cw : CallW R s args own C idx y bytes maxL ret wy rm 0 0 n) (q0 ci : Nat) (hc : vwCl[ci]? = some (C, T, N)) (he : wc[q0]? = some (b, .inr (ci, fs))) (hn : As.length = n) (hsz : ls.size = nL) (hst : st0 = As.reverse ++ .ref b :: rest) (hrm : (rest.map fun v => v.category).sum ≤ 8) (hdg : decode cc pc = .ok (.invokevirtual idx, 3)) (hcs : cells ≤ R.cells ∧ slots ≤ R.slots)
    (kk : ∀ (r : Int32) (u : S) (H1 : Heap) (locs1 : List Loc), post r u → Hw D A (wr ++ w1 u) s H1 locs1 → W p l e R s m args below meth c H1 locs1 cells slots Q (F0 m (pc + 3) ls (.int r :: rest))) : W p l e R s m args below meth c H locs cells slots Q (F0 m pc ls st0) := by
  subst hst
  exact va_calli (va_runV F (hM H.size) cw ⟨pw_blind _ D cy wc H.size, va_recv hkx.1 (hw_r hw).1 hc he, hwr_pre hkx hw _⟩ rfl hn hsz rfl (lv_room hrm) hdg hcs) hw.2.2 (fun q _ h => hw_rf hw hA q h) (hw_rf hw hA) (fun r u t H1 locs1 ht _ hp hB _ hk hS => kk r u H1 locs1 hp (hw_fr hw hA (by rw [← ht]; exact hB.1) hB.2 hk hS))
/-- a callee that may throw -/
theorem call_FX {post : Int32 → S → Prop} {px : S → Prop} (F : CallFix p m c cc nL s args Ts own) (hkx : kx D cy s) (hxk : xk s) (hxz : xz A s s.heap) (hw : Hw D A (wr ++ wc) s H locs) (hA : ∀ q, s.heap.size ≤ q → A q) (hM : CtX l y wy rm D cy (.ref b :: As) wc mc ms (Ri D w1 post) (Rx D w1 px)) (cw : CallW R s args own C idx y bytes maxL ret wy rm mc ms n) (q0 ci : Nat) (hc : vwCl[ci]? = some (C, T, N)) (he : wc[q0]? = some (b, .inr (ci, fs))) (hn : As.length = n) (hsz : ls.size = nL) (hst : st0 = As.reverse ++ .ref b :: rest) (hrm : (rest.map fun v => v.category).sum ≤ 8) (hdg : decode cc pc = .ok (.invokevirtual idx, 3)) (hcs : cells + mc ≤ R.cells ∧ slots + ms ≤ R.slots)
    (kx : ∀ (ce : Cell) (q9 : Addr) (u : S) (H1 : Heap) (locs1 : List Loc), px u → Hw D A (wr ++ w1 u) s H1 locs1 → H1[q9]? = some ce → ce.vm = .none → s.vm.findClass NSE = some ce.cls → vx_W p l e R s m args below meth c H1 locs1 (cells + mc) (slots + ms) Q (F0 m pc ls rest) q9)
    (kk : ∀ (r : Int32) (u : S) (H1 : Heap) (locs1 : List Loc), post r u → Hw D A (wr ++ w1 u) s H1 locs1 → W p l e R s m args below meth c H1 locs1 (cells + mc) (slots + ms) Q (F0 m (pc + 3) ls (.int r :: rest))) : W p l e R s m args below meth c H locs cells slots Q (F0 m pc ls st0) := by
  subst hst
  refine vx_calli (vx_runV F (hM H.size) cw ⟨pwx_blind _ D cy wc H.size, va_recv hkx.1 (hw_r hw).1 hc he, hwr_preX hkx hxk hxz hw hA _⟩ rfl hn hsz rfl (lv_room hrm) hdg hcs) hw.2.2 (fun q _ h => hw_rf hw hA q h) (hw_rf hw hA) (fun q _ h => hw_rf hw hA q h) (fun E ce q9 u t H1 locs1 ht _ hp hB _ hk hS h1 h2 h3 => ?_) (fun r u t H1 locs1 ht _ hp hB _ hk hS => kk r u H1 locs1 hp (hw_fr hw hA (by rw [← ht]; exact hB.1) hB.2 hk hS))
  obtain ⟨rfl, hB⟩ := hB
  exact kx ce q9 u H1 locs1 hp (hw_fr hw hA (by rw [← ht]; exact hB.1) hB.2 hk hS) h1 h2 h3
/-- a static callee with a table of handlers -/
theorem call_SW {post : Int32 → S → Prop} {hh : List (Nat × Nat × Nat × Nat)} (F : CallFix p m c cc nL s args Ts own) (hkx : kx D cy s) (hxk : xk s) (hxz : xz A s s.heap) (hw : Hw D A (wr ++ wc) s H locs) (hA : ∀ q, s.heap.size ≤ q → A q) (hM : CtW l y wy rm D cy As wc mc ms (Ri D w1 post)) (cw : vx_CSW R s args own idx y bytes maxL ret hh wy rm mc ms n) (hn : As.length = n) (hsz : ls.size = nL) (hst : st0 = As.reverse ++ rest) (hrm : (rest.map fun v => v.category).sum ≤ 8) (hdg : decode cc pc = .ok (.invokestatic idx, 3)) (hcs : cells + mc ≤ R.cells ∧ slots + ms ≤ R.slots)
    (kk : ∀ (r : Int32) (u : S) (H1 : Heap) (locs1 : List Loc), post r u → Hw D A (wr ++ w1 u) s H1 locs1 → W p l e R s m args below meth c H1 locs1 (cells + mc) (slots + ms) Q (F0 m (pc + 3) ls (.int r :: rest))) : W p l e R s m args below meth c H locs cells slots Q (F0 m pc ls st0) := by
  subst hst
  exact va_calli (vx_runSW F (hM H.size) cw ⟨pwx_blind _ D cy wc H.size, hwr_preX hkx hxk hxz hw hA _⟩ rfl hn hsz rfl (lv_room hrm) hdg hcs) hw.2.2 (fun q _ h => hw_rf hw hA q h) (hw_rf hw hA) (fun r u t H1 locs1 ht _ hp hB _ hk hS => kk r u H1 locs1 hp (hw_fr hw hA (by rw [← ht]; exact hB.1) hB.2 hk hS))
end
