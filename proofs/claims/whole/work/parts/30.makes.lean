/-! constructors: rows that make cells, the call of a constructor -/
theorem Ct.ofI {l : Launch} {y : MethodName} {wy ws' : List Cond} {rm : Room} {D : va_G} {cy : Nat → ClassId} {argsL : List Value} {w0 : va_W} {mc ms : Nat} {Qf : (Nat → Prop) → Array Value → State → Outcome → State → Prop} {cc : ByteArray} {maxL : Nat} {rt : Option FieldType} (hy : plainName y.cls = true) (hw : wy = Cond.code y cc maxL rt :: ws') (hn : (lg_sl argsL).length ≤ maxL) (hi : y.name = "<init>")
    (h : ∀ (p : Program) (e : Env) (s : State) (m : MethodId) (below : List Frame) (meth : Method) (c : Code) (A : Nat → Prop), Mc p m c meth cc maxL s argsL.toArray wy y.cls rt D cy A → meth.name = "<init>" → Gw p l e rm s m argsL.toArray below meth c D A (MQ below (Qf A) argsL.toArray s mc ms A) w0 maxL (lv_args 0 argsL) 0 []) : Ct l y wy rm D cy argsL w0 mc ms Qf := by
  intro sz
  refine Met.ofW (cc := cc) (maxL := maxL) (ret := rt) hy hw ?_
  intro p e s m args below meth c s₁ B hml hv
  obtain ⟨rfl, hsz, hP, hK, hD0⟩ := hv
  subst hsz
  have hts := atoms_spec (ws := wy) B.pre
  have hown : s.vm.findClass y.cls = some m.cls := findClass_of_methodNamed B.named
  have hin : meth.name = "<init>" := ((name_of_methodNamed B.named B.method).1).trans hi
  have hl := lv_entry argsL hn
  rw [lg_entry_eq]
  exact h p e s m below meth c _ ⟨⟨B.exec, B.bytes, hml, hown, hts⟩, B.returns, B.notSynchronized, hK, fun q h => Or.inr h⟩ hin s.heap [] _ ⟨hP, hD0.self, va_S.rf⟩ hl
section Makes
variable {p : Program} {l : Launch} {e : Env} {R : Room} {s : State} {m : MethodId} {args : Array Value} {below : List Frame} {meth : Method} {c : Code} {H : Heap} {locs : List Loc} {cells slots : Nat} {Q : State → Prop}
variable {cc bytes : ByteArray} {pc nL maxL n idx N mc ms : Nat} {ls : Array Slot} {rest st0 As : List Value} {D : va_G} {cy : Nat → ClassId} {A : Nat → Prop} {ws : va_W} {Ts wy : List Cond} {own host : String} {y : MethodName} {rm : Room} {b : Nat} {e0 : va_E} {S : Type} {w1 : S → va_W}
theorem row_newI (hx : p.tables.exec = Jvm.exec) (hb : c.code = cc) (harr : (Cond.arrayClass .int).before args s = true) (hkx : kx D cy s) (hw : Hw D A ws s H locs) (hA : ∀ q, s.heap.size ≤ q → A q) {i : Int32} {N' : Nat} (hn : ¬ i < 0) (hN : i.toNatClampNeg = N') (hbytes : N' * componentBytes .int ≤ 536870912) (hcells : cells + 1 ≤ R.cells) (hslots : slots + N' ≤ R.slots) (hdg : decode cc pc = .ok (.newarray .int, 2))
    (kk : ∀ (q : Nat) (H1 : Heap), Hw D A (ws ++ [(q, .inl (cy 0, N', .inl (fun _ => 0)))]) s H1 locs → W p l e R s m args below meth c H1 locs (cells + 1) (slots + N') Q (F0 m (pc + 2) ls (.ref q :: rest))) : W p l e R s m args below meth c H locs cells slots Q (F0 m pc ls (.int i :: rest)) := by
  refine va_newa hx hb (atype := .int) (ty := .int) (a0 := (N', .inl (fun _ => 0))) harr rfl hkx.1 hw.1 hw.2.1 hw.2.2 hA (fun _ => rfl) hn hN hbytes hcells hslots hdg (fun q cA H1 hK hP hD hS => ?_)
  have e1 : s.vm.findClass ("[" ++ FieldType.int.toString) = some cA := (hK.2 3 (cA, .int) rfl).2
  have e2 : s.vm.findClass ("[" ++ FieldType.int.toString) = some (cy 0) := (hkx.1.2 0 (cy 0, .int) rfl).2
  have e3 : cA = cy 0 := Option.some.inj (e1.symm.trans e2)
  subst e3
  exact kk q H1 ⟨hP, hD, hS⟩
theorem row_newJ (hx : p.tables.exec = Jvm.exec) (hb : c.code = cc) (harr : (Cond.arrayClass .long).before args s = true) (hkx : kx D cy s) (hw : Hw D A ws s H locs) (hA : ∀ q, s.heap.size ≤ q → A q) {i : Int32} {N' : Nat} (hn : ¬ i < 0) (hN : i.toNatClampNeg = N') (hbytes : N' * componentBytes .long ≤ 536870912) (hcells : cells + 1 ≤ R.cells) (hslots : slots + N' ≤ R.slots) (hdg : decode cc pc = .ok (.newarray .long, 2))
    (kk : ∀ (q : Nat) (H1 : Heap), Hw D A (ws ++ [(q, .inl (cy 1, N', .inr (.inl (fun _ => 0))))]) s H1 locs → W p l e R s m args below meth c H1 locs (cells + 1) (slots + N') Q (F0 m (pc + 2) ls (.ref q :: rest))) : W p l e R s m args below meth c H locs cells slots Q (F0 m pc ls (.int i :: rest)) := by
  refine va_newa hx hb (atype := .long) (ty := .long) (a0 := (N', .inr (.inl (fun _ => 0)))) harr rfl hkx.1 hw.1 hw.2.1 hw.2.2 hA (fun _ => rfl) hn hN hbytes hcells hslots hdg (fun q cA H1 hK hP hD hS => ?_)
  have e1 : s.vm.findClass ("[" ++ FieldType.long.toString) = some cA := (hK.2 3 (cA, .long) rfl).2
  have e2 : s.vm.findClass ("[" ++ FieldType.long.toString) = some (cy 1) := (hkx.1.2 1 (cy 1, .long) rfl).2
  have e3 : cA = cy 1 := Option.some.inj (e1.symm.trans e2)
  subst e3
  exact kk q H1 ⟨hP, hD, hS⟩
theorem row_newZ (hx : p.tables.exec = Jvm.exec) (hb : c.code = cc) (harr : (Cond.arrayClass .boolean).before args s = true) (hkx : kx D cy s) (hw : Hw D A ws s H locs) (hA : ∀ q, s.heap.size ≤ q → A q) {i : Int32} {N' : Nat} (hn : ¬ i < 0) (hN : i.toNatClampNeg = N') (hbytes : N' * componentBytes .boolean ≤ 536870912) (hcells : cells + 1 ≤ R.cells) (hslots : slots + N' ≤ R.slots) (hdg : decode cc pc = .ok (.newarray .boolean, 2))
    (kk : ∀ (q : Nat) (H1 : Heap), Hw D A (ws ++ [(q, .inl (cy 2, N', .inl (fun _ => 0)))]) s H1 locs → W p l e R s m args below meth c H1 locs (cells + 1) (slots + N') Q (F0 m (pc + 2) ls (.ref q :: rest))) : W p l e R s m args below meth c H locs cells slots Q (F0 m pc ls (.int i :: rest)) := by
  refine va_newa hx hb (atype := .boolean) (ty := .boolean) (a0 := (N', .inl (fun _ => 0))) harr rfl hkx.1 hw.1 hw.2.1 hw.2.2 hA (fun _ => rfl) hn hN hbytes hcells hslots hdg (fun q cA H1 hK hP hD hS => ?_)
  have e1 : s.vm.findClass ("[" ++ FieldType.boolean.toString) = some cA := (hK.2 3 (cA, .boolean) rfl).2
  have e2 : s.vm.findClass ("[" ++ FieldType.boolean.toString) = some (cy 2) := (hkx.1.2 2 (cy 2, .boolean) rfl).2
  have e3 : cA = cy 2 := Option.some.inj (e1.symm.trans e2)
  subst e3
  exact kk q H1 ⟨hP, hD, hS⟩
/-- a callee over the last cell of a world: what comes back stands there -/
theorem hw_last {u : S} {H1 : Heap} {locs1 : List Loc} (hw : Hw D A (ws ++ [(b, e0)]) s H locs) (hA : ∀ q, s.heap.size ≤ q → A q) (hP1 : va_P D vwCl (w1 u) H1) (hD1 : va_D (va_A [(b, e0)] H.size) (w1 u)) (hk : ∀ q : Nat, q < H.size → ¬ va_A [(b, e0)] H.size q → H1[q]? = H[q]?) (hS : va_S A s.heap H1 locs1) : Hw D A (ws ++ w1 u) s H1 locs1 := by
  have hb : (ws ++ [(b, e0)])[ws.length]? = some (b, e0) := by simp
  have hin : ∀ (k : Nat) (x : Nat × va_E), ws[k]? = some x → (ws ++ [(b, e0)])[k]? = some x ∧ k < ws.length := fun k x h => by
    have hl := (List.getElem?_eq_some_iff.mp h).1
    exact ⟨by rw [List.getElem?_append_left hl]; exact h, hl⟩
  have hnb : ∀ (k : Nat) (x : Nat × va_E), ws[k]? = some x → x.1 ≠ b ∧ x.1 < H.size := fun k x h => by
    obtain ⟨h1, h2⟩ := hin k x h
    exact ⟨fun z => Nat.ne_of_lt h2 (hw.2.1.1 k ws.length x (b, e0) h1 hb z), (hw.1 k x h1).lt⟩
  have hA1 : ∀ q, va_A [(b, e0)] H.size q → q = b ∨ H.size ≤ q := fun q z => by
    rcases z with ⟨k9, e9, h9⟩ | z
    · match k9, h9 with
      | 0, h9 => exact Or.inl (congrArg Prod.fst (Option.some.inj h9)).symm
      | k9 + 1, h9 => simp at h9
    · exact Or.inr z
  have hF : ∀ q, va_A [(b, e0)] H.size q → A q := fun q z => by
    rcases hA1 q z with z | z
    · rw [z]; exact hw.2.1.2 _ _ hb
    · exact hA q (Nat.le_trans hw.2.2.1 z)
  have hno : ∀ (k : Nat) (x : Nat × va_E), ws[k]? = some x → ¬ va_A [(b, e0)] H.size x.1 := fun k x h z => by
    obtain ⟨h1, h2⟩ := hnb k x h
    rcases hA1 _ z with z | z
    · exact h1 z
    · omega
  refine ⟨?_, va_D.app ⟨fun i j p q hp hq => hw.2.1.1 i j p q (hin i p hp).1 (hin j q hq).1, fun k q hq => hw.2.1.2 k q (hin k q hq).1⟩ (hD1.weaken (fun _ q _ h => hF _ h)) (fun i j p q hp hq z => hno i p hp (by rw [z]; exact hD1.2 j q hq)), hS⟩
  intro k x hx
  rcases Nat.lt_or_ge k ws.length with h | h
  · rw [List.getElem?_append_left h] at hx
    exact (hw.1 k x (hin k x hx).1).kept (hk x.1 (hnb k x hx).2 (hno k x hx))
  · rw [List.getElem?_append_right h] at hx
    exact hP1 _ x hx
theorem hw_one (hkx : kx D cy s) (hw : Hw D A (ws ++ [(b, e0)]) s H locs) (as : List Value) : ∀ U : State, U.heap = H → s.WarmedH U.vm → va_Pc as (Pw D cy [(b, e0)] H.size) as.toArray U := fun U hU hW => ⟨rfl, by rw [hU], by
    rw [hU]
    intro k x hx
    match k, hx with
    | 0, hx => cases hx; exact hw.1 ws.length _ (by simp)
    | k + 1, hx => simp at hx, hkx.warm hW, ⟨fun i j p q hp hq _ => by
      match i, j, hp, hq with
      | 0, 0, _, _ => rfl
      | i + 1, _, hp, _ => simp at hp
      | 0, j + 1, _, hq => simp at hq, fun _ _ _ => trivial⟩⟩
theorem hw_onef (hw : Hw D A (ws ++ [(b, e0)]) s H locs) (hA : ∀ q, s.heap.size ≤ q → A q) : ∀ q, va_A [(b, e0)] H.size q → A q := fun q z => by
    rcases z with ⟨k9, e9, h9⟩ | z
    · match k9, h9 with
      | 0, h9 => cases h9; exact hw.2.1.2 ws.length (b, e0) (by simp)
      | k9 + 1, h9 => simp at h9
    · exact hA q (Nat.le_trans hw.2.2.1 z)
theorem call_I {post : S → Prop} (F : CallFix p m c cc nL s args Ts own) (hkx : kx D cy s) (hw : Hw D A (ws ++ [(b, e0)]) s H locs) (hA : ∀ q, s.heap.size ≤ q → A q) (hM : Ct l y wy rm D cy (.ref b :: As) [(b, e0)] mc ms (Rv D w1 post)) (cw : CallB R s args own idx y bytes maxL none wy rm mc ms n ∧ y.name = "<init>" ∧ (Cond.instanceMethod y).before args s = true) (hn : As.length = n) (hsz : ls.size = nL) (hst : st0 = As.reverse ++ .ref b :: rest) (hrm : (rest.map fun v => v.category).sum ≤ 8) (hdg : decode cc pc = .ok (.invokespecial idx, 3)) (hcs : cells + mc ≤ R.cells ∧ slots + ms ≤ R.slots)
    (kk : ∀ (u : S) (H1 : Heap) (locs1 : List Loc), post u → Hw D A (ws ++ w1 u) s H1 locs1 → W p l e R s m args below meth c H1 locs1 (cells + mc) (slots + ms) Q (F0 m (pc + 3) ls rest)) : W p l e R s m args below meth c H locs cells slots Q (F0 m pc ls st0) := by
  subst hst
  exact va_callv (va_runI F (hM H.size) cw ⟨pw_blind _ D cy _ H.size, hw_one hkx hw _⟩ rfl hn hsz rfl (lv_room hrm) hdg hcs) hw.2.2 (fun q _ h => hw_onef hw hA q h) (hw_onef hw hA) (fun u t H1 locs1 ht _ hp hB _ hk hS => kk u H1 locs1 hp (hw_last hw hA (by rw [← ht]; exact hB.1) hB.2 hk hS))
theorem call_IN {post : S → Prop} (F : CallFix p m c cc nL s args Ts own) (hkx : kx D cy s) (hw : Hw D A (ws ++ [(b, e0)]) s H locs) (hA : ∀ q, s.heap.size ≤ q → A q) (hM : Ct l y wy rm D cy (.ref b :: As) [(b, e0)] mc ms (Rv D w1 post)) (cw : va_CN R s args own idx y host bytes maxL none wy rm mc ms n ∧ y.name = "<init>" ∧ (Cond.instanceMethod y).before args s = true) (hn : As.length = n) (hsz : ls.size = nL) (hst : st0 = As.reverse ++ .ref b :: rest) (hrm : (rest.map fun v => v.category).sum ≤ 8) (hdg : decode cc pc = .ok (.invokespecial idx, 3)) (hcs : cells + mc ≤ R.cells ∧ slots + ms ≤ R.slots)
    (kk : ∀ (u : S) (H1 : Heap) (locs1 : List Loc), post u → Hw D A (ws ++ w1 u) s H1 locs1 → W p l e R s m args below meth c H1 locs1 (cells + mc) (slots + ms) Q (F0 m (pc + 3) ls rest)) : W p l e R s m args below meth c H locs cells slots Q (F0 m pc ls st0) := by
  subst hst
  exact va_callv (va_runIN F (hM H.size) cw ⟨pw_blind _ D cy _ H.size, hw_one hkx hw _⟩ rfl hn hsz rfl (lv_room hrm) hdg hcs) hw.2.2 (fun q _ h => hw_onef hw hA q h) (hw_onef hw hA) (fun u t H1 locs1 ht _ hp hB _ hk hS => kk u H1 locs1 hp (hw_last hw hA (by rw [← ht]; exact hB.1) hB.2 hk hS))
end Makes
