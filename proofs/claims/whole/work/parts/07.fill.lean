/-! Arrays.fill over ints -/
section FillI
theorem hd_J7_fill_53178 : yJ7_fill_53178.cls ≠ "java/lang/invoke/MethodHandle" ∧ yJ7_fill_53178.cls ≠ "java/lang/invoke/VarHandle" ∧ (parseMethodDescriptor yJ7_fill_53178.desc).map (fun d => d.parameters.length) = some 2 := by decide +kernel
abbrev rm_J7_fill_53178 : Room := { frames := 0, cells := 0, slots := 0, locals := 0 }
abbrev w_ar (cy : Nat → ClassId) (h N : Nat) : (Nat → Int32) → va_W := fun u => [(h, .inl (cy 0, N, .inl u))]
set_option maxHeartbeats 4000000 in
set_option maxRecDepth 100000 in
theorem c_J7_fill_53178 (l : Launch) (D : va_G) (cy : Nat → ClassId) (h N : Nat) (f : Nat → Int32) (v : Int32) (hN : N < 2 ^ 31) : Ct l yJ7_fill_53178 wsJ7_fill_53178 rm_J7_fill_53178 D cy [.ref h, .int v] (w_ar cy h N f) 0 0 (Rv D (w_ar cy h N) (fun u => (∀ j, j < N → u j = v) ∧ (∀ j, N ≤ j → u j = f j))) := by
  refine Ct.of (cc := cJ7_fill_53178) (maxL := 4) (rt := none) (by decide) rfl (Nat.le_of_ble_eq_true rfl) ?_
  intro p e s m below meth c A C0 _ H locs ls hw hl
  obtain ⟨⟨hx, hb, hml, hown, hts⟩, hr, hlocks, hkx, hA⟩ := id C0
  have hl : lv_has ls 4 [(0, .ref h), (1, .int v)] := hl
  have loop : ∀ (n i : Nat) (g : Nat → Int32), i ≤ N → N < i + n → (∀ j, j < i → g j = v) → (∀ j, N ≤ j → g j = f j) → Gw p l e rm_J7_fill_53178 s m [Value.ref h, .int v].toArray below meth c D A (MQ below (Rv D (w_ar cy h N) (fun u => (∀ j, j < N → u j = v) ∧ (∀ j, N ≤ j → u j = f j)) A) [Value.ref h, .int v].toArray s 0 0 A) (w_ar cy h N g) 4 [(0, .ref h), (1, .int v), (2, .int (nI i)), (3, .int (nI N))] 5 [] := by
    intro n
    induction n with
    | zero => intro i g h1 h2; omega
    | succ n ih =>
      intro i g hi hn hg1 hg2 H locs ls hw hl
      refine lv_iload_n hx hb dJ7_fill_53178_5 rfl (lv_at hl 2 rfl) ?_
      refine lv_iload_n hx hb dJ7_fill_53178_6 rfl (lv_at hl 3 rfl) ?_
      refine lv_icmp_ge (tgt := 20) hx hb dJ7_fill_53178_7 (by decide) (fun c_1 => ?_) (fun c_1 => ?_)
      · have e1 : i = N := by
          rcases Nat.lt_or_ge i N with q | q
          · exact absurd c_1 (nI_ge q hN)
          · omega
        subst e1
        exact end_v (w1 := w_ar cy h i) (u := g) C0 hw ⟨hg1, hg2⟩ dJ7_fill_53178_20
      · have hlt : i < N := by
          rcases Nat.lt_or_ge i N with q | q
          · exact q
          · exact absurd (nI_le q (by omega)) c_1
        refine lv_aload_n hx hb dJ7_fill_53178_10 rfl (lv_at hl 0 rfl) ?_
        refine lv_iload_n hx hb dJ7_fill_53178_11 rfl (lv_at hl 2 rfl) ?_
        refine lv_iload_n hx hb dJ7_fill_53178_12 rfl (lv_at hl 1 rfl) ?_
        refine va_iast hx hb hkx.1 hw.1 hw.2.1 hw.2.2 0 0 rfl rfl (vp_in_nI hlt hN) dJ7_fill_53178_13 (fun H locs hP hD hS => ?_)
        refine lv_iinc (v := nI i + 1) (lv' := [(2, .int (nI i + 1)), (0, .ref h), (1, .int v), (3, .int (nI N))]) hx hb dJ7_fill_53178_14 hl (k := 2) rfl rfl (by decide) rfl (fun ls hl => ?_)
        refine lv_goto (tgt := 5) hx hb dJ7_fill_53178_17 (by decide) ?_
        rw [nI_1] at hl
        rw [nI_clamp (by omega)] at hP hD
        refine ih (i + 1) (upd g i v) (by omega) (by omega) (fun j hj => ?_) (fun j hj => ?_) H locs ls ⟨hP, hD, hS⟩ (lv_sub hl [1, 2, 0, 3] rfl)
        · by_cases q : j = i
          · rw [q, pk_us]
          · rw [pk_un q]; exact hg1 j (by omega)
        · rw [pk_un (by omega)]; exact hg2 j hj
  refine lv_iconst (v := 0) hx hb dJ7_fill_53178_0 (by decide) ?_
  refine lv_istore_n (lv' := [(2, .int 0), (0, .ref h), (1, .int v)]) hx hb dJ7_fill_53178_1 rfl hl (by decide) rfl (fun ls hl => ?_)
  refine lv_aload_n hx hb dJ7_fill_53178_2 rfl (lv_at hl 1 rfl) ?_
  refine va_alen (v := nI N) (ty := .int) hx hb hkx.1 hw.1 0 0 rfl rfl rfl dJ7_fill_53178_3 ?_
  refine lv_istore_n (lv' := [(3, .int (nI N)), (2, .int 0), (0, .ref h), (1, .int v)]) hx hb dJ7_fill_53178_4 rfl hl (by decide) rfl (fun ls hl => ?_)
  exact loop (N + 1) 0 f (Nat.zero_le _) (by omega) (fun j hj => absurd hj (Nat.not_lt_zero j)) (fun j _ => rfl) H locs ls hw (lv_sub hl [2, 3, 1, 0] rfl)
variable {p : Program} {l : Launch} {e : Env} {R : Room} {s : State} {m : MethodId} {args : Array Value} {below : List Frame} {meth : Method} {c : Code} {H : Heap} {locs : List Loc} {cells slots : Nat} {Q : State → Prop}
variable {cc bytes : ByteArray} {pc nL maxL n idx N : Nat} {ls : Array Slot} {rest : List Value} {D : va_G} {cy : Nat → ClassId} {A : Nat → Prop} {ws : va_W} {Ts : List Cond} {own : String} {ret : Option FieldType} {ad κ : Nat → Nat} {σ : Sg} {τ : Tg}
/-- one cell of a world is another one's, the others stay -/
theorem hw_set {q h : Nat} {e0 e1 : va_E} {H1 : Heap} {locs1 : List Loc} (hw : Hw D A ws s H locs) (he : ws[q]? = some (h, e0)) (hP1 : va_P D vwCl [(h, e1)] H1) (hk : ∀ q : Nat, q < H.size → ¬ va_A [(h, e0)] H.size q → H1[q]? = H[q]?) (hS : va_S A s.heap H1 locs1) : Hw D A (ws.set q (h, e1)) s H1 locs1 := by
  have hl := (List.getElem?_eq_some_iff.mp he).1
  refine ⟨fun k x hx => ?_, hw.2.1.set he, hS⟩
  by_cases hkq : k = q
  · subst hkq
    rw [List.getElem?_set_self hl] at hx
    cases hx
    exact hP1 0 _ rfl
  · rw [List.getElem?_set_ne (fun z => hkq z.symm)] at hx
    refine (hw.1 k x hx).kept (hk x.1 (hw.1 k x hx).lt (fun z => ?_))
    rcases z with ⟨k9, e9, h9⟩ | z
    · match k9, h9 with
      | 0, h9 =>
        have e2 : x.1 = h := by
          have := Option.some.inj h9
          exact (congrArg Prod.fst this).symm
        exact hkq (hw.2.1.1 k q x (h, e0) hx he e2)
      | k9 + 1, h9 => simp at h9
    · exact absurd (hw.1 k x hx).lt (Nat.not_lt.mpr z)
theorem call_fillI (F : CallFix p m c cc nL s args Ts own) (hkx : kx D cy s) (hw : Hw D A ws s H locs) (hA : ∀ q, s.heap.size ≤ q → A q) (q : Nat) {h : Nat} {f : Nat → Int32} (he : ws[q]? = some (h, .inl (cy 0, N, .inl f))) (hN : N < 2 ^ 31) {v : Int32} (cw : CallB R s args own idx yJ7_fill_53178 bytes maxL ret wsJ7_fill_53178 rm_J7_fill_53178 0 0 2 ∧ (Cond.static yJ7_fill_53178).before args s = true) (hsz : ls.size = nL) (hrm : (rest.map fun v => v.category).sum ≤ 8) (hdg : decode cc pc = .ok (.invokestatic idx, 3)) (hcs : cells ≤ R.cells ∧ slots ≤ R.slots)
    (kk : ∀ u : Nat → Int32, (∀ j, j < N → u j = v) → (∀ j, N ≤ j → u j = f j) → ∀ (H1 : Heap) (locs1 : List Loc), Hw D A (ws.set q (h, .inl (cy 0, N, .inl u))) s H1 locs1 → W p l e R s m args below meth c H1 locs1 cells slots Q (F0 m (pc + 3) ls rest)) : W p l e R s m args below meth c H locs cells slots Q (F0 m pc ls (.int v :: .ref h :: rest)) := by
  have hP0 : va_P D vwCl (w_ar cy h N f) H := fun k x hx => by
    match k, hx with
    | 0, hx => cases hx; exact hw.1 q _ he
    | k + 1, hx => simp at hx
  have hfr : ∀ z, va_A (w_ar cy h N f) H.size z → A z := fun z hz => by
    rcases hz with ⟨k, e9, h9⟩ | hz
    · match k, h9 with
      | 0, h9 => cases h9; exact hw.2.1.2 q _ he
      | k + 1, h9 => simp at h9
    · exact hA z (Nat.le_trans hw.2.2.1 hz)
  exact va_callv (va_runS (As := [.ref h, .int v]) F (c_J7_fill_53178 l D cy h N f v hN H.size) cw ⟨pw_blind _ D cy _ H.size, fun U hU hW => ⟨rfl, by rw [hU], by rw [hU]; exact hP0, hkx.warm hW, ⟨fun i j p q hp hq _ => by
      match i, j, hp, hq with
      | 0, 0, _, _ => rfl
      | i + 1, _, hp, _ => simp at hp
      | 0, j + 1, _, hq => simp at hq, fun _ _ _ => trivial⟩⟩⟩ rfl rfl hsz rfl (lv_room hrm) hdg hcs) hw.2.2 (fun z _ h => hfr z h) hfr (fun u t H1 locs1 ht _ hp hB _ hk hS => kk u hp.1 hp.2 H1 locs1 (hw_set hw he (by rw [← ht]; exact hB.1) hk hS))
theorem cfill_readNumber (F : CallFix p m c cc nL s args Ts own) (hkx : kx D cy s) (hw : Hw D A (cfW cy ad κ σ τ) s H locs) (hA : ∀ q, s.heap.size ≤ q → A q) {v : Int32} (cw : CallB R s args own idx yJ7_fill_53178 bytes maxL ret wsJ7_fill_53178 rm_J7_fill_53178 0 0 2 ∧ (Cond.static yJ7_fill_53178).before args s = true) (hsz : ls.size = nL) (hrm : (rest.map fun v => v.category).sum ≤ 8) (hdg : decode cc pc = .ok (.invokestatic idx, 3)) (hcs : cells ≤ R.cells ∧ slots ≤ R.slots) (kk : ∀ f1 : Nat → Int32, (∀ j, j < 60 → f1 j = v) → (∀ j, 60 ≤ j → f1 j = σ 18 j) → ∀ σ1 : Sg, σ1 = va_up σ 18 f1 → ∀ (H1 : Heap) (locs1 : List Loc), Hw D A (cfW cy ad κ σ1 τ) s H1 locs1 → W p l e R s m args below meth c H1 locs1 cells slots Q (F0 m (pc + 3) ls rest)) : W p l e R s m args below meth c H locs cells slots Q (F0 m pc ls (.int v :: .ref (ad 10) :: rest)) := call_fillI F hkx hw hA 10 (h := ad 10) rfl (by decide) cw hsz hrm hdg hcs (fun u h1 h2 H1 locs1 hw1 => kk u h1 h2 _ rfl H1 locs1 hw1)
theorem cfill_poe (F : CallFix p m c cc nL s args Ts own) (hkx : kx D cy s) (hw : Hw D A (cfW cy ad κ σ τ) s H locs) (hA : ∀ q, s.heap.size ≤ q → A q) {v : Int32} (cw : CallB R s args own idx yJ7_fill_53178 bytes maxL ret wsJ7_fill_53178 rm_J7_fill_53178 0 0 2 ∧ (Cond.static yJ7_fill_53178).before args s = true) (hsz : ls.size = nL) (hrm : (rest.map fun v => v.category).sum ≤ 8) (hdg : decode cc pc = .ok (.invokestatic idx, 3)) (hcs : cells ≤ R.cells ∧ slots ≤ R.slots) (kk : ∀ f1 : Nat → Int32, (∀ j, j < 12 → f1 j = v) → (∀ j, 12 ≤ j → f1 j = σ 38 j) → ∀ σ1 : Sg, σ1 = va_up σ 38 f1 → ∀ (H1 : Heap) (locs1 : List Loc), Hw D A (cfW cy ad κ σ1 τ) s H1 locs1 → W p l e R s m args below meth c H1 locs1 cells slots Q (F0 m (pc + 3) ls rest)) : W p l e R s m args below meth c H locs cells slots Q (F0 m pc ls (.int v :: .ref (ad 32) :: rest)) := call_fillI F hkx hw hA 32 (h := ad 32) rfl (by decide) cw hsz hrm hdg hcs (fun u h1 h2 H1 locs1 hw1 => kk u h1 h2 _ rfl H1 locs1 hw1)
theorem cfill_pol (F : CallFix p m c cc nL s args Ts own) (hkx : kx D cy s) (hw : Hw D A (cfW cy ad κ σ τ) s H locs) (hA : ∀ q, s.heap.size ≤ q → A q) {v : Int32} (cw : CallB R s args own idx yJ7_fill_53178 bytes maxL ret wsJ7_fill_53178 rm_J7_fill_53178 0 0 2 ∧ (Cond.static yJ7_fill_53178).before args s = true) (hsz : ls.size = nL) (hrm : (rest.map fun v => v.category).sum ≤ 8) (hdg : decode cc pc = .ok (.invokestatic idx, 3)) (hcs : cells ≤ R.cells ∧ slots ≤ R.slots) (kk : ∀ f1 : Nat → Int32, (∀ j, j < 20 → f1 j = v) → (∀ j, 20 ≤ j → f1 j = σ 39 j) → ∀ σ1 : Sg, σ1 = va_up σ 39 f1 → ∀ (H1 : Heap) (locs1 : List Loc), Hw D A (cfW cy ad κ σ1 τ) s H1 locs1 → W p l e R s m args below meth c H1 locs1 cells slots Q (F0 m (pc + 3) ls rest)) : W p l e R s m args below meth c H locs cells slots Q (F0 m pc ls (.int v :: .ref (ad 33) :: rest)) := call_fillI F hkx hw hA 33 (h := ad 33) rfl (by decide) cw hsz hrm hdg hcs (fun u h1 h2 H1 locs1 hw1 => kk u h1 h2 _ rfl H1 locs1 hw1)
end FillI
