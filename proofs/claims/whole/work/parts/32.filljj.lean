/-! Arrays.fill over longs -/
section FillJ
theorem hd_J7_fill_d0a16 : yJ7_fill_d0a16.cls ≠ "java/lang/invoke/MethodHandle" ∧ yJ7_fill_d0a16.cls ≠ "java/lang/invoke/VarHandle" ∧ (parseMethodDescriptor yJ7_fill_d0a16.desc).map (fun d => d.parameters.length) = some 2 := by decide +kernel
abbrev rm_J7_fill_d0a16 : Room := { frames := 0, cells := 0, slots := 0, locals := 0 }
abbrev w_arJ (cy : Nat → ClassId) (h N : Nat) : (Nat → Int64) → va_W := fun u => [(h, .inl (cy 1, N, .inr (.inl u)))]
set_option maxHeartbeats 4000000 in
set_option maxRecDepth 100000 in
theorem c_J7_fill_d0a16 (l : Launch) (D : va_G) (cy : Nat → ClassId) (h N : Nat) (f : Nat → Int64) (v : Int64) (hN : N < 2 ^ 31) : Ct l yJ7_fill_d0a16 wsJ7_fill_d0a16 rm_J7_fill_d0a16 D cy [.ref h, .long v] (w_arJ cy h N f) 0 0 (Rv D (w_arJ cy h N) (fun u => (∀ j, j < N → u j = v) ∧ (∀ j, N ≤ j → u j = f j))) := by
  refine Ct.of (cc := cJ7_fill_d0a16) (maxL := 5) (rt := none) (by decide) rfl (Nat.le_of_ble_eq_true rfl) ?_
  intro p e s m below meth c A C0 _ H locs ls hw hl
  obtain ⟨⟨hx, hb, hml, hown, hts⟩, hr, hlocks, hkx, hA⟩ := id C0
  have hl : lv_has ls 5 [(0, .ref h), (1, .long v)] := hl
  have loop : ∀ (n i : Nat) (g : Nat → Int64), i ≤ N → N < i + n → (∀ j, j < i → g j = v) → (∀ j, N ≤ j → g j = f j) → Gw p l e rm_J7_fill_d0a16 s m [Value.ref h, .long v].toArray below meth c D A (MQ below (Rv D (w_arJ cy h N) (fun u => (∀ j, j < N → u j = v) ∧ (∀ j, N ≤ j → u j = f j)) A) [Value.ref h, .long v].toArray s 0 0 A) (w_arJ cy h N g) 5 [(0, .ref h), (1, .long v), (3, .int (nI i)), (4, .int (nI N))] 6 [] := by
    intro n
    induction n with
    | zero => intro i g h1 h2; omega
    | succ n ih =>
      intro i g hi hn hg1 hg2 H locs ls hw hl
      refine lv_iload_n hx hb dJ7_fill_d0a16_6 rfl (lv_at hl 2 rfl) ?_
      refine lv_iload hx hb dJ7_fill_d0a16_7 (lv_at hl 3 rfl) ?_
      refine lv_icmp_ge (tgt := 22) hx hb dJ7_fill_d0a16_9 (by decide) (fun c_1 => ?_) (fun c_1 => ?_)
      · have e1 : i = N := by
          rcases Nat.lt_or_ge i N with q | q
          · exact absurd c_1 (nI_ge q hN)
          · omega
        subst e1
        exact end_v (w1 := w_arJ cy h i) (u := g) C0 hw ⟨hg1, hg2⟩ dJ7_fill_d0a16_22
      · have hlt : i < N := by
          rcases Nat.lt_or_ge i N with q | q
          · exact q
          · exact absurd (nI_le q (by omega)) c_1
        refine lv_aload_n hx hb dJ7_fill_d0a16_12 rfl (lv_at hl 0 rfl) ?_
        refine lv_iload_n hx hb dJ7_fill_d0a16_13 rfl (lv_at hl 2 rfl) ?_
        refine lv_lload_n hx hb dJ7_fill_d0a16_14 rfl (lv_at hl 1 rfl) ?_
        refine va_last hx hb hkx.1 hw.1 hw.2.1 hw.2.2 0 1 rfl rfl (vp_in_nI hlt hN) dJ7_fill_d0a16_15 (fun H locs hP hD hS => ?_)
        refine lv_iinc (v := nI i + 1) (lv' := [(3, .int (nI i + 1)), (0, .ref h), (1, .long v), (4, .int (nI N))]) hx hb dJ7_fill_d0a16_16 hl (k := 2) rfl rfl (by decide) rfl (fun ls hl => ?_)
        refine lv_goto (tgt := 6) hx hb dJ7_fill_d0a16_19 (by decide) ?_
        rw [nI_1] at hl
        rw [nI_clamp (by omega)] at hP hD
        refine ih (i + 1) (vp_updL g i v) (by omega) (by omega) (fun j hj => ?_) (fun j hj => ?_) H locs ls ⟨hP, hD, hS⟩ (lv_sub hl [1, 2, 0, 3] rfl)
        · by_cases q : j = i
          · rw [q, pk_uLs]
          · rw [pk_uLn q]; exact hg1 j (by omega)
        · rw [pk_uLn (by omega)]; exact hg2 j hj
  refine lv_iconst (v := 0) hx hb dJ7_fill_d0a16_0 (by decide) ?_
  refine lv_istore_n (lv' := [(3, .int 0), (0, .ref h), (1, .long v)]) hx hb dJ7_fill_d0a16_1 rfl hl (by decide) rfl (fun ls hl => ?_)
  refine lv_aload_n hx hb dJ7_fill_d0a16_2 rfl (lv_at hl 1 rfl) ?_
  refine va_alen (v := nI N) (ty := .long) hx hb hkx.1 hw.1 0 1 rfl rfl rfl dJ7_fill_d0a16_3 ?_
  refine lv_istore (lv' := [(4, .int (nI N)), (3, .int 0), (0, .ref h), (1, .long v)]) hx hb dJ7_fill_d0a16_4 hl (by decide) rfl (fun ls hl => ?_)
  exact loop (N + 1) 0 f (Nat.zero_le _) (by omega) (fun j hj => absurd hj (Nat.not_lt_zero j)) (fun j _ => rfl) H locs ls hw (lv_sub hl [2, 3, 1, 0] rfl)
variable {p : Program} {l : Launch} {e : Env} {R : Room} {s : State} {m : MethodId} {args : Array Value} {below : List Frame} {meth : Method} {c : Code} {H : Heap} {locs : List Loc} {cells slots : Nat} {Q : State → Prop}
variable {cc bytes : ByteArray} {pc nL maxL n idx N : Nat} {ls : Array Slot} {rest : List Value} {D : va_G} {cy : Nat → ClassId} {A : Nat → Prop} {ws : va_W} {Ts : List Cond} {own : String} {ret : Option FieldType} {ad κ : Nat → Nat} {σ : Sg} {τ : Tg}
theorem call_fillJ (F : CallFix p m c cc nL s args Ts own) (hkx : kx D cy s) (hw : Hw D A ws s H locs) (hA : ∀ q, s.heap.size ≤ q → A q) (q : Nat) {h : Nat} {f : Nat → Int64} (he : ws[q]? = some (h, .inl (cy 1, N, .inr (.inl f)))) (hN : N < 2 ^ 31) {v : Int64} (cw : CallB R s args own idx yJ7_fill_d0a16 bytes maxL ret wsJ7_fill_d0a16 rm_J7_fill_d0a16 0 0 2 ∧ (Cond.static yJ7_fill_d0a16).before args s = true) (hsz : ls.size = nL) (hrm : (rest.map fun v => v.category).sum ≤ 8) (hdg : decode cc pc = .ok (.invokestatic idx, 3)) (hcs : cells ≤ R.cells ∧ slots ≤ R.slots)
    (kk : ∀ u : Nat → Int64, (∀ j, j < N → u j = v) → (∀ j, N ≤ j → u j = f j) → ∀ (H1 : Heap) (locs1 : List Loc), Hw D A (ws.set q (h, .inl (cy 1, N, .inr (.inl u)))) s H1 locs1 → W p l e R s m args below meth c H1 locs1 cells slots Q (F0 m (pc + 3) ls rest)) : W p l e R s m args below meth c H locs cells slots Q (F0 m pc ls (.long v :: .ref h :: rest)) := by
  have hP0 : va_P D vwCl (w_arJ cy h N f) H := fun k x hx => by
    match k, hx with
    | 0, hx => cases hx; exact hw.1 q _ he
    | k + 1, hx => simp at hx
  have hfr : ∀ z, va_A (w_arJ cy h N f) H.size z → A z := fun z hz => by
    rcases hz with ⟨k, e9, h9⟩ | hz
    · match k, h9 with
      | 0, h9 => cases h9; exact hw.2.1.2 q _ he
      | k + 1, h9 => simp at h9
    · exact hA z (Nat.le_trans hw.2.2.1 hz)
  exact va_callv (va_runS (As := [.ref h, .long v]) F (c_J7_fill_d0a16 l D cy h N f v hN H.size) cw ⟨pw_blind _ D cy _ H.size, fun U hU hW => ⟨rfl, by rw [hU], by rw [hU]; exact hP0, hkx.warm hW, ⟨fun i j p q hp hq _ => by
      match i, j, hp, hq with
      | 0, 0, _, _ => rfl
      | i + 1, _, hp, _ => simp at hp
      | 0, j + 1, _, hq => simp at hq, fun _ _ _ => trivial⟩⟩⟩ rfl rfl hsz rfl (lv_room hrm) hdg hcs) hw.2.2 (fun z _ h => hfr z h) hfr (fun u t H1 locs1 ht _ hp hB _ hk hS => kk u hp.1 hp.2 H1 locs1 (hw_set hw he (by rw [← ht]; exact hB.1) hk hS))
end FillJ
