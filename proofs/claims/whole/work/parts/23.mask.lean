theorem hd_X8_isWrong : yX8_isWrong.cls = RX8 ∧ yX8_isWrong.cls ≠ "java/lang/invoke/MethodHandle" ∧ yX8_isWrong.cls ≠ "java/lang/invoke/VarHandle" ∧ (parseMethodDescriptor yX8_isWrong.desc).map (fun d => d.parameters.length) = some 1 := by decide +kernel
section
variable {p : Program} {l : Launch} {e : Env} {s : State} {m : MethodId} {args : Array Value} {below : List Frame} {meth : Method} {c : Code} {D : va_G} {cy : Nat → ClassId} {A : Nat → Prop} {ad : Nat → Nat}
abbrev rm_X8_isWrong : Room := { frames := 0, cells := 0, slots := 0, locals := 0 }
theorem inw_X8_isWrong_X8 : ∀ w ∈ u_ws RX8 TX8 35, w ∈ wsX8_isWrong := fun _ h => List.mem_cons_of_mem _ (List.mem_append_right _ h)
def wp_X8_isWrong (x1 : Int32) (σ : Sg) (post : Int32 → Sg → Prop) : Prop :=
    vp_in x1 60 ∧
    ((σ 9 x1.toNatClampNeg) ≤ 0 →
    post (0 : Int32) σ) ∧
    (¬ (σ 9 x1.toNatClampNeg) ≤ 0 →
    vp_in x1 60 ∧
    vp_in x1 60 ∧
    ((σ 9 x1.toNatClampNeg) = (x1 + (σ 32 x1.toNatClampNeg)) →
    post (0 : Int32) σ) ∧
    (¬ (σ 9 x1.toNatClampNeg) = (x1 + (σ 32 x1.toNatClampNeg)) →
    post (1 : Int32) σ))
set_option maxHeartbeats 4000000 in
set_option maxRecDepth 100000 in
theorem c_X8_isWrong (l : Launch) (D : va_G) (cy : Nat → ClassId) (ad : Nat → Nat) (σ : Sg) (x1 : Int32) (post : Int32 → Sg → Prop) (h : wp_X8_isWrong x1 σ post) : Ct l yX8_isWrong wsX8_isWrong rm_X8_isWrong D cy [.ref (ad 0), .int x1] (mdW cy ad σ) 0 0 (Ri D (mdU cy ad) (fun r u => post r u)) := by
  refine Ct.of (cc := cX8_isWrong) (maxL := 2) (rt := (some .boolean)) (by decide) rfl (Nat.le_of_ble_eq_true rfl) ?_
  intro p e s m below meth c A C0 _ H locs ls hw hl
  obtain ⟨⟨hx, hb, hml, hown, hts⟩, hr, hlocks, hkx, hA⟩ := id C0
  have hl : lv_has ls 2 [(0, .ref (ad 0)), (1, .int x1)] := hl
  unfold wp_X8_isWrong at h
  refine lv_aload_n hx hb dX8_isWrong_0 rfl (lv_at hl 0 rfl) ?_
  refine mg_md_read hx hb hts inw_X8_isWrong_X8 hown hkx hw (hts _ (List.mem_of_getElem? (i := 1) rfl)) dX8_isWrong_1 ?_
  refine lv_iload_n hx hb dX8_isWrong_4 rfl (lv_at hl 1 rfl) ?_
  obtain ⟨b_1, h⟩ := h
  refine ma_m_read hx hb hkx hw b_1 dX8_isWrong_5 ?_
  refine lv_if_le (tgt := 30) hx hb dX8_isWrong_6 (by decide) (fun c_2 => ?_) (fun c_2 => ?_)
  · replace h := h.1 c_2
    refine lv_iconst (v := 0) hx hb dX8_isWrong_30 (by decide) ?_
    exact end_z (w1 := (mdU cy ad)) (u := σ) C0 hw (Or.inl rfl) h dX8_isWrong_31
  · replace h := h.2 c_2
    refine lv_aload_n hx hb dX8_isWrong_9 rfl (lv_at hl 0 rfl) ?_
    refine mg_md_read hx hb hts inw_X8_isWrong_X8 hown hkx hw (hts _ (List.mem_of_getElem? (i := 1) rfl)) dX8_isWrong_10 ?_
    refine lv_iload_n hx hb dX8_isWrong_13 rfl (lv_at hl 1 rfl) ?_
    obtain ⟨b_3, h⟩ := h
    refine ma_m_read hx hb hkx hw b_3 dX8_isWrong_14 ?_
    refine lv_iload_n hx hb dX8_isWrong_15 rfl (lv_at hl 1 rfl) ?_
    refine lv_aload_n hx hb dX8_isWrong_16 rfl (lv_at hl 0 rfl) ?_
    refine mg_md_shiftOf hx hb hts inw_X8_isWrong_X8 hown hkx hw (hts _ (List.mem_of_getElem? (i := 2) rfl)) dX8_isWrong_17 ?_
    refine lv_iload_n hx hb dX8_isWrong_20 rfl (lv_at hl 1 rfl) ?_
    obtain ⟨b_4, h⟩ := h
    refine ma_m_shiftOf hx hb hkx hw b_4 dX8_isWrong_21 ?_
    refine lv_iadd hx hb dX8_isWrong_22 ?_
    refine lv_icmp_eq (tgt := 30) hx hb dX8_isWrong_23 (by decide) (fun c_5 => ?_) (fun c_5 => ?_)
    · replace h := h.1 c_5
      refine lv_iconst (v := 0) hx hb dX8_isWrong_30 (by decide) ?_
      exact end_z (w1 := (mdU cy ad)) (u := σ) C0 hw (Or.inl rfl) h dX8_isWrong_31
    · replace h := h.2 c_5
      refine lv_iconst (v := 1) hx hb dX8_isWrong_26 (by decide) ?_
      refine lv_goto (tgt := 31) hx hb dX8_isWrong_27 (by decide) ?_
      exact end_z (w1 := (mdU cy ad)) (u := σ) C0 hw (Or.inr rfl) h dX8_isWrong_31
end
theorem hd_X8_count : yX8_count.cls = RX8 ∧ yX8_count.cls ≠ "java/lang/invoke/MethodHandle" ∧ yX8_count.cls ≠ "java/lang/invoke/VarHandle" ∧ (parseMethodDescriptor yX8_count.desc).map (fun d => d.parameters.length) = some 1 := by decide +kernel
section
variable {p : Program} {l : Launch} {e : Env} {s : State} {m : MethodId} {args : Array Value} {below : List Frame} {meth : Method} {c : Code} {D : va_G} {cy : Nat → ClassId} {A : Nat → Prop} {ad : Nat → Nat}
abbrev rm_X8_count : Room := { frames := 61, cells := 0, slots := 0, locals := 1854 }
theorem inw_X8_count_X8 : ∀ w ∈ u_ws RX8 TX8 35, w ∈ wsX8_count := fun _ h => List.mem_cons_of_mem _ (List.mem_append_right _ h)
abbrev G_X8_count (p : Program) (l : Launch) (e : Env) (s : State) (m : MethodId) (args : Array Value) (below : List Frame) (meth : Method) (c : Code) (D : va_G) (A : Nat → Prop) (cy : Nat → ClassId) (ad : Nat → Nat) (post : Int32 → Sg → Prop) : va_W → Nat → List (Nat × Value) → Nat → List Value → Prop := Gw p l e rm_X8_count s m args below meth c D A (MQ below ((Ri D (mdU cy ad) (fun r u => post r u)) A) args s 0 0 A)
def wp_X8_count_112 (post : Int32 → Sg → Prop) : Nat → Int32 → Int32 → Sg → Prop
  | 0, _, _, _ => False
  | n + 1, x2, x3, σ =>
    ((σ 0 0) ≤ x3 →
    post x2 σ) ∧
    (¬ (σ 0 0) ≤ x3 →
    wp_X8_isWrong x3 σ (fun r_2 σ_3 =>
    (r_2 = 0 →
    wp_X8_count_112 post n x2 (x3 + (1 : Int32)) σ_3) ∧
    (¬ r_2 = 0 →
    wp_X8_count_112 post n (x2 + (1 : Int32)) (x3 + (1 : Int32)) σ_3)))
set_option maxHeartbeats 4000000 in
set_option maxRecDepth 100000 in
theorem w_X8_count_112 (C0 : Mc p m c meth cX8_count 4 s args wsX8_count RX8 (some .int) D cy A) {post : Int32 → Sg → Prop} : ∀ (n : Nat) (x2 : Int32) (x3 : Int32) (σ : Sg), wp_X8_count_112 post n x2 x3 σ → G_X8_count p l e s m args below meth c D A cy ad post (mdW cy ad σ) 4 [(0, .ref (ad 0)), (2, .int x2), (3, .int x3)] 112 [] := by
  obtain ⟨⟨hx, hb, hml, hown, hts⟩, hr, hlocks, hkx, hA⟩ := id C0
  intro n
  induction n with
  | zero => intro x2 x3 σ h; exact False.elim h
  | succ n ih =>
    intro x2 x3 σ h H locs ls hw hl
    unfold wp_X8_count_112 at h
    refine lv_iload_n hx hb dX8_count_112 rfl (lv_at hl 2 rfl) ?_
    refine lv_aload_n hx hb dX8_count_113 rfl (lv_at hl 0 rfl) ?_
    refine mg_md_pages hx hb hts inw_X8_count_X8 hown hkx hw (hts _ (List.mem_of_getElem? (i := 2) rfl)) dX8_count_114 ?_
    refine lv_icmp_ge (tgt := 137) hx hb dX8_count_117 (by decide) (fun c_1 => ?_) (fun c_1 => ?_)
    · replace h := h.1 c_1
      refine lv_iload_n hx hb dX8_count_137 rfl (lv_at hl 1 rfl) ?_
      exact end_i (w1 := (mdU cy ad)) (u := σ) C0 hw h dX8_count_138
    · replace h := h.2 c_1
      refine lv_aload_n hx hb dX8_count_120 rfl (lv_at hl 0 rfl) ?_
      refine lv_iload_n hx hb dX8_count_121 rfl (lv_at hl 2 rfl) ?_
      refine md_Vi (As := [.int x3]) ⟨hx, hb, hml, hown, hts⟩ hkx hw hA (c_X8_isWrong l D cy ad σ x3 _ h) (cwV 1 hts gX8_count_X8_isWrong rfl rfl rfl hd_X8_isWrong ⟨Nat.le_of_ble_eq_true rfl, Nat.le_of_ble_eq_true rfl⟩) 0 8 rfl rfl rfl hl.1 rfl (Nat.le_of_ble_eq_true rfl) dX8_count_122 ⟨Nat.zero_le _, Nat.zero_le _⟩ (fun r_2 σ_3 H locs h hw => ?_)
      refine lv_if_eq (tgt := 131) hx hb dX8_count_125 (by decide) (fun c_4 => ?_) (fun c_4 => ?_)
      · replace h := h.1 c_4
        refine lv_iinc (v := x3 + (1 : Int32)) (lv' := [(3, .int (x3 + (1 : Int32))), (0, .ref (ad 0)), (2, .int x2)]) hx hb dX8_count_131 hl (k := 2) rfl rfl (by decide) rfl (fun ls hl => ?_)
        refine lv_goto (tgt := 112) hx hb dX8_count_134 (by decide) ?_
        exact ih _ _ _ h _ _ _ hw (lv_sub hl [1, 2, 0] rfl)
      · replace h := h.2 c_4
        refine lv_iinc (v := x2 + (1 : Int32)) (lv' := [(2, .int (x2 + (1 : Int32))), (0, .ref (ad 0)), (3, .int x3)]) hx hb dX8_count_128 hl (k := 1) rfl rfl (by decide) rfl (fun ls hl => ?_)
        refine lv_iinc (v := x3 + (1 : Int32)) (lv' := [(3, .int (x3 + (1 : Int32))), (2, .int (x2 + (1 : Int32))), (0, .ref (ad 0))]) hx hb dX8_count_131 hl (k := 2) rfl rfl (by decide) rfl (fun ls hl => ?_)
        refine lv_goto (tgt := 112) hx hb dX8_count_134 (by decide) ?_
        exact ih _ _ _ h _ _ _ hw (lv_sub hl [2, 1, 0] rfl)
def wp_X8_count (x1 : Int32) (σ : Sg) (post : Int32 → Sg → Prop) : Prop :=
    ∀ σ_1 : Sg, σ_1 = va_up σ 3 (fun _ => (0 : Int32)) →
    wp_X8_find σ_1 (fun σ_2 =>
    (x1 = (0 : Int32) →
    post (σ_2 0 0) σ_2) ∧
    (x1 = (1 : Int32) →
    post (σ_2 1 0) σ_2) ∧
    (x1 = (2 : Int32) →
    post (σ_2 2 0) σ_2) ∧
    (x1 = (3 : Int32) →
    post (σ_2 6 0) σ_2) ∧
    (x1 = (4 : Int32) →
    post (σ_2 5 0) σ_2) ∧
    (x1 = (5 : Int32) →
    post (σ_2 26 (0 : Int32).toNatClampNeg) σ_2) ∧
    (x1 = (6 : Int32) →
    post (σ_2 28 (0 : Int32).toNatClampNeg) σ_2) ∧
    (x1 = (7 : Int32) →
    post (σ_2 29 (0 : Int32).toNatClampNeg) σ_2) ∧
    (x1 = (8 : Int32) →
    ∃ fu, wp_X8_count_112 post fu (0 : Int32) (0 : Int32) σ_2) ∧
    ((x1.toInt < 0 ∨ 8 < x1.toInt) →
    post (-1 : Int32) σ_2))
set_option maxHeartbeats 4000000 in
set_option maxRecDepth 100000 in
theorem c_X8_count (l : Launch) (D : va_G) (cy : Nat → ClassId) (ad : Nat → Nat) (σ : Sg) (x1 : Int32) (post : Int32 → Sg → Prop) (h : wp_X8_count x1 σ post) : Ct l yX8_count wsX8_count rm_X8_count D cy [.ref (ad 0), .int x1] (mdW cy ad σ) 0 0 (Ri D (mdU cy ad) (fun r u => post r u)) := by
  refine Ct.of (cc := cX8_count) (maxL := 4) (rt := (some .int)) (by decide) rfl (Nat.le_of_ble_eq_true rfl) ?_
  intro p e s m below meth c A C0 _ H locs ls hw hl
  obtain ⟨⟨hx, hb, hml, hown, hts⟩, hr, hlocks, hkx, hA⟩ := id C0
  have hl : lv_has ls 4 [(0, .ref (ad 0)), (1, .int x1)] := hl
  unfold wp_X8_count at h
  refine lv_aload_n hx hb dX8_count_0 rfl (lv_at hl 0 rfl) ?_
  refine lv_iconst (v := 0) hx hb dX8_count_1 (by decide) ?_
  refine mp_md_thrown hx hb hts inw_X8_count_X8 hown hkx hw (hts _ (List.mem_of_getElem? (i := 1) rfl)) dX8_count_2 (fun σ_1 eσ_1 H locs hw => ?_)
  replace h := h σ_1 eσ_1
  refine lv_aload_n hx hb dX8_count_5 rfl (lv_at hl 0 rfl) ?_
  refine md_Vv (As := []) ⟨hx, hb, hml, hown, hts⟩ hkx hw hA (c_X8_find l D cy ad σ_1 _ h) (cwV 0 hts gX8_count_X8_find rfl rfl rfl hd_X8_find ⟨Nat.le_of_ble_eq_true rfl, Nat.le_of_ble_eq_true rfl⟩) 0 8 rfl rfl rfl hl.1 rfl (Nat.le_of_ble_eq_true rfl) dX8_count_6 ⟨Nat.zero_le _, Nat.zero_le _⟩ (fun σ_2 H locs h hw => ?_)
  refine lv_iconst (v := 0) hx hb dX8_count_9 (by decide) ?_
  refine lv_istore_n (lv' := [(2, .int (0 : Int32)), (0, .ref (ad 0)), (1, .int x1)]) hx hb dX8_count_10 rfl hl (by decide) rfl (fun ls hl => ?_)
  refine lv_iload_n hx hb dX8_count_11 rfl (lv_at hl 2 rfl) ?_
  refine sw_all (x := x1) 8 (by decide) (fun k_3 hk_3 ek_3 => ?_) (fun hk_3 => ?_)
  · rcases (show k_3 = 0 ∨ k_3 = 1 ∨ k_3 = 2 ∨ k_3 = 3 ∨ k_3 = 4 ∨ k_3 = 5 ∨ k_3 = 6 ∨ k_3 = 7 ∨ k_3 = 8 by omega) with rfl | rfl | rfl | rfl | rfl | rfl | rfl | rfl | rfl
    · replace h := h.1 ek_3
      refine lv_tableIn (tgt := 64) hx hb dX8_count_12 (by rw [ek_3]; decide) (by rw [ek_3]; decide) (off := 52) (by rw [ek_3]; rfl) (by decide) ?_
      refine lv_aload_n hx hb dX8_count_64 rfl (lv_at hl 1 rfl) ?_
      refine mg_md_pages hx hb hts inw_X8_count_X8 hown hkx hw (hts _ (List.mem_of_getElem? (i := 2) rfl)) dX8_count_65 ?_
      exact end_i (w1 := (mdU cy ad)) (u := σ_2) C0 hw h dX8_count_68
    · replace h := h.2.1 ek_3
      refine lv_tableIn (tgt := 69) hx hb dX8_count_12 (by rw [ek_3]; decide) (by rw [ek_3]; decide) (off := 57) (by rw [ek_3]; rfl) (by decide) ?_
      refine lv_aload_n hx hb dX8_count_69 rfl (lv_at hl 1 rfl) ?_
      refine mg_md_lines hx hb hts inw_X8_count_X8 hown hkx hw (hts _ (List.mem_of_getElem? (i := 3) rfl)) dX8_count_70 ?_
      exact end_i (w1 := (mdU cy ad)) (u := σ_2) C0 hw h dX8_count_73
    · replace h := h.2.2.1 ek_3
      refine lv_tableIn (tgt := 74) hx hb dX8_count_12 (by rw [ek_3]; decide) (by rw [ek_3]; decide) (off := 62) (by rw [ek_3]; rfl) (by decide) ?_
      refine lv_aload_n hx hb dX8_count_74 rfl (lv_at hl 1 rfl) ?_
      refine mg_md_entries hx hb hts inw_X8_count_X8 hown hkx hw (hts _ (List.mem_of_getElem? (i := 4) rfl)) dX8_count_75 ?_
      exact end_i (w1 := (mdU cy ad)) (u := σ_2) C0 hw h dX8_count_78
    · replace h := h.2.2.2.1 ek_3
      refine lv_tableIn (tgt := 79) hx hb dX8_count_12 (by rw [ek_3]; decide) (by rw [ek_3]; decide) (off := 67) (by rw [ek_3]; rfl) (by decide) ?_
      refine lv_aload_n hx hb dX8_count_79 rfl (lv_at hl 1 rfl) ?_
      refine mg_md_headMany hx hb hts inw_X8_count_X8 hown hkx hw (hts _ (List.mem_of_getElem? (i := 5) rfl)) dX8_count_80 ?_
      exact end_i (w1 := (mdU cy ad)) (u := σ_2) C0 hw h dX8_count_83
    · replace h := h.2.2.2.2.1 ek_3
      refine lv_tableIn (tgt := 84) hx hb dX8_count_12 (by rw [ek_3]; decide) (by rw [ek_3]; decide) (off := 72) (by rw [ek_3]; rfl) (by decide) ?_
      refine lv_aload_n hx hb dX8_count_84 rfl (lv_at hl 1 rfl) ?_
      refine mg_md_treeCost hx hb hts inw_X8_count_X8 hown hkx hw (hts _ (List.mem_of_getElem? (i := 6) rfl)) dX8_count_85 ?_
      exact end_i (w1 := (mdU cy ad)) (u := σ_2) C0 hw h dX8_count_88
    · replace h := h.2.2.2.2.2.1 ek_3
      refine lv_tableIn (tgt := 89) hx hb dX8_count_12 (by rw [ek_3]; decide) (by rw [ek_3]; decide) (off := 77) (by rw [ek_3]; rfl) (by decide) ?_
      refine lv_aload_n hx hb dX8_count_89 rfl (lv_at hl 1 rfl) ?_
      refine mg_md_held hx hb hts inw_X8_count_X8 hown hkx hw (hts _ (List.mem_of_getElem? (i := 7) rfl)) dX8_count_90 ?_
      refine lv_iconst (v := 0) hx hb dX8_count_93 (by decide) ?_
      refine ma_m_held hx hb hkx hw (by unfold vp_in; decide) dX8_count_94 ?_
      exact end_i (w1 := (mdU cy ad)) (u := σ_2) C0 hw h dX8_count_95
    · replace h := h.2.2.2.2.2.2.1 ek_3
      refine lv_tableIn (tgt := 96) hx hb dX8_count_12 (by rw [ek_3]; decide) (by rw [ek_3]; decide) (off := 84) (by rw [ek_3]; rfl) (by decide) ?_
      refine lv_aload_n hx hb dX8_count_96 rfl (lv_at hl 1 rfl) ?_
      refine mg_md_spanCost hx hb hts inw_X8_count_X8 hown hkx hw (hts _ (List.mem_of_getElem? (i := 8) rfl)) dX8_count_97 ?_
      refine lv_iconst (v := 0) hx hb dX8_count_100 (by decide) ?_
      refine ma_m_spanCost hx hb hkx hw (by unfold vp_in; decide) dX8_count_101 ?_
      exact end_i (w1 := (mdU cy ad)) (u := σ_2) C0 hw h dX8_count_102
    · replace h := h.2.2.2.2.2.2.2.1 ek_3
      refine lv_tableIn (tgt := 103) hx hb dX8_count_12 (by rw [ek_3]; decide) (by rw [ek_3]; decide) (off := 91) (by rw [ek_3]; rfl) (by decide) ?_
      refine lv_aload_n hx hb dX8_count_103 rfl (lv_at hl 1 rfl) ?_
      refine mg_md_spanMany hx hb hts inw_X8_count_X8 hown hkx hw (hts _ (List.mem_of_getElem? (i := 9) rfl)) dX8_count_104 ?_
      refine lv_iconst (v := 0) hx hb dX8_count_107 (by decide) ?_
      refine ma_m_spanMany hx hb hkx hw (by unfold vp_in; decide) dX8_count_108 ?_
      exact end_i (w1 := (mdU cy ad)) (u := σ_2) C0 hw h dX8_count_109
    · replace h := h.2.2.2.2.2.2.2.2.1 ek_3
      refine lv_tableIn (tgt := 110) hx hb dX8_count_12 (by rw [ek_3]; decide) (by rw [ek_3]; decide) (off := 98) (by rw [ek_3]; rfl) (by decide) ?_
      refine lv_iconst (v := 0) hx hb dX8_count_110 (by decide) ?_
      refine lv_istore_n (lv' := [(3, .int (0 : Int32)), (2, .int (0 : Int32)), (0, .ref (ad 0)), (1, .int x1)]) hx hb dX8_count_111 rfl hl (by decide) rfl (fun ls hl => ?_)
      obtain ⟨n_7, h⟩ := h
      exact w_X8_count_112 C0 n_7 _ _ _ h _ _ _ hw (lv_sub hl [2, 1, 0] rfl)
  · replace h := h.2.2.2.2.2.2.2.2.2 hk_3
    refine lv_tableOut (tgt := 139) hx hb dX8_count_12 hk_3 (by decide) ?_
    refine lv_iconst (v := -1) hx hb dX8_count_139 (by decide) ?_
    exact end_i (w1 := (mdU cy ad)) (u := σ_2) C0 hw h dX8_count_140
end
theorem hd_X8_endOf : yX8_endOf.cls = RX8 ∧ yX8_endOf.cls ≠ "java/lang/invoke/MethodHandle" ∧ yX8_endOf.cls ≠ "java/lang/invoke/VarHandle" ∧ (parseMethodDescriptor yX8_endOf.desc).map (fun d => d.parameters.length) = some 1 := by decide +kernel
section
variable {p : Program} {l : Launch} {e : Env} {s : State} {m : MethodId} {args : Array Value} {below : List Frame} {meth : Method} {c : Code} {D : va_G} {cy : Nat → ClassId} {A : Nat → Prop} {ad : Nat → Nat}
abbrev rm_X8_endOf : Room := { frames := 0, cells := 0, slots := 0, locals := 0 }
theorem inw_X8_endOf_X8 : ∀ w ∈ u_ws RX8 TX8 35, w ∈ wsX8_endOf := fun _ h => List.mem_cons_of_mem _ (List.mem_append_right _ h)
abbrev G_X8_endOf (p : Program) (l : Launch) (e : Env) (s : State) (m : MethodId) (args : Array Value) (below : List Frame) (meth : Method) (c : Code) (D : va_G) (A : Nat → Prop) (cy : Nat → ClassId) (ad : Nat → Nat) (post : Int32 → Sg → Prop) : va_W → Nat → List (Nat × Value) → Nat → List Value → Prop := Gw p l e rm_X8_endOf s m args below meth c D A (MQ below ((Ri D (mdU cy ad) (fun r u => post r u)) A) args s 0 0 A)
def wp_X8_endOf_15 (post : Int32 → Sg → Prop) : Nat → Int32 → Int32 → Sg → Prop
  | 0, _, _, _ => False
  | n + 1, x1, x2, σ =>
    ((σ 1 0) ≤ x2 →
    post ((σ 0 0) - (1 : Int32)) σ) ∧
    (¬ (σ 1 0) ≤ x2 →
    vp_in x2 20 ∧
    ((σ 23 x2.toNatClampNeg) ≤ 0 →
    wp_X8_endOf_15 post n x1 (x2 + (1 : Int32)) σ) ∧
    (¬ (σ 23 x2.toNatClampNeg) ≤ 0 →
    vp_in x2 20 ∧
    vp_in x1 20 ∧
    ((σ 23 x1.toNatClampNeg) < (σ 23 x2.toNatClampNeg) →
    wp_X8_endOf_15 post n x1 (x2 + (1 : Int32)) σ) ∧
    (¬ (σ 23 x1.toNatClampNeg) < (σ 23 x2.toNatClampNeg) →
    vp_in x2 20 ∧
    post (σ 10 x2.toNatClampNeg) σ)))
set_option maxHeartbeats 4000000 in
set_option maxRecDepth 100000 in
theorem w_X8_endOf_15 (C0 : Mc p m c meth cX8_endOf 3 s args wsX8_endOf RX8 (some .int) D cy A) {post : Int32 → Sg → Prop} : ∀ (n : Nat) (x1 : Int32) (x2 : Int32) (σ : Sg), wp_X8_endOf_15 post n x1 x2 σ → G_X8_endOf p l e s m args below meth c D A cy ad post (mdW cy ad σ) 3 [(0, .ref (ad 0)), (1, .int x1), (2, .int x2)] 15 [] := by
  obtain ⟨⟨hx, hb, hml, hown, hts⟩, hr, hlocks, hkx, hA⟩ := id C0
  intro n
  induction n with
  | zero => intro x1 x2 σ h; exact False.elim h
  | succ n ih =>
    intro x1 x2 σ h H locs ls hw hl
    unfold wp_X8_endOf_15 at h
    refine lv_iload_n hx hb dX8_endOf_15 rfl (lv_at hl 2 rfl) ?_
    refine lv_aload_n hx hb dX8_endOf_16 rfl (lv_at hl 0 rfl) ?_
    refine mg_md_lines hx hb hts inw_X8_endOf_X8 hown hkx hw (hts _ (List.mem_of_getElem? (i := 2) rfl)) dX8_endOf_17 ?_
    refine lv_icmp_ge (tgt := 60) hx hb dX8_endOf_20 (by decide) (fun c_1 => ?_) (fun c_1 => ?_)
    · replace h := h.1 c_1
      refine lv_aload_n hx hb dX8_endOf_60 rfl (lv_at hl 0 rfl) ?_
      refine mg_md_pages hx hb hts inw_X8_endOf_X8 hown hkx hw (hts _ (List.mem_of_getElem? (i := 4) rfl)) dX8_endOf_61 ?_
      refine lv_iconst (v := 1) hx hb dX8_endOf_64 (by decide) ?_
      refine lv_isub hx hb dX8_endOf_65 ?_
      exact end_i (w1 := (mdU cy ad)) (u := σ) C0 hw h dX8_endOf_66
    · replace h := h.2 c_1
      refine lv_aload_n hx hb dX8_endOf_23 rfl (lv_at hl 0 rfl) ?_
      refine mg_md_level hx hb hts inw_X8_endOf_X8 hown hkx hw (hts _ (List.mem_of_getElem? (i := 1) rfl)) dX8_endOf_24 ?_
      refine lv_iload_n hx hb dX8_endOf_27 rfl (lv_at hl 2 rfl) ?_
      obtain ⟨b_2, h⟩ := h
      refine ma_m_level hx hb hkx hw b_2 dX8_endOf_28 ?_
      refine lv_if_le (tgt := 54) hx hb dX8_endOf_29 (by decide) (fun c_3 => ?_) (fun c_3 => ?_)
      · replace h := h.1 c_3
        refine lv_iinc (v := x2 + (1 : Int32)) (lv' := [(2, .int (x2 + (1 : Int32))), (0, .ref (ad 0)), (1, .int x1)]) hx hb dX8_endOf_54 hl (k := 2) rfl rfl (by decide) rfl (fun ls hl => ?_)
        refine lv_goto (tgt := 15) hx hb dX8_endOf_57 (by decide) ?_
        exact ih _ _ _ h _ _ _ hw (lv_sub hl [1, 2, 0] rfl)
      · replace h := h.2 c_3
        refine lv_aload_n hx hb dX8_endOf_32 rfl (lv_at hl 0 rfl) ?_
        refine mg_md_level hx hb hts inw_X8_endOf_X8 hown hkx hw (hts _ (List.mem_of_getElem? (i := 1) rfl)) dX8_endOf_33 ?_
        refine lv_iload_n hx hb dX8_endOf_36 rfl (lv_at hl 2 rfl) ?_
        obtain ⟨b_4, h⟩ := h
        refine ma_m_level hx hb hkx hw b_4 dX8_endOf_37 ?_
        refine lv_aload_n hx hb dX8_endOf_38 rfl (lv_at hl 0 rfl) ?_
        refine mg_md_level hx hb hts inw_X8_endOf_X8 hown hkx hw (hts _ (List.mem_of_getElem? (i := 1) rfl)) dX8_endOf_39 ?_
        refine lv_iload_n hx hb dX8_endOf_42 rfl (lv_at hl 1 rfl) ?_
        obtain ⟨b_5, h⟩ := h
        refine ma_m_level hx hb hkx hw b_5 dX8_endOf_43 ?_
        refine lv_icmp_gt (tgt := 54) hx hb dX8_endOf_44 (by decide) (fun c_6 => ?_) (fun c_6 => ?_)
        · replace h := h.1 c_6
          refine lv_iinc (v := x2 + (1 : Int32)) (lv' := [(2, .int (x2 + (1 : Int32))), (0, .ref (ad 0)), (1, .int x1)]) hx hb dX8_endOf_54 hl (k := 2) rfl rfl (by decide) rfl (fun ls hl => ?_)
          refine lv_goto (tgt := 15) hx hb dX8_endOf_57 (by decide) ?_
          exact ih _ _ _ h _ _ _ hw (lv_sub hl [1, 2, 0] rfl)
        · replace h := h.2 c_6
          refine lv_aload_n hx hb dX8_endOf_47 rfl (lv_at hl 0 rfl) ?_
          refine mg_md_page hx hb hts inw_X8_endOf_X8 hown hkx hw (hts _ (List.mem_of_getElem? (i := 3) rfl)) dX8_endOf_48 ?_
          refine lv_iload_n hx hb dX8_endOf_51 rfl (lv_at hl 2 rfl) ?_
          obtain ⟨b_7, h⟩ := h
          refine ma_m_page hx hb hkx hw b_7 dX8_endOf_52 ?_
          exact end_i (w1 := (mdU cy ad)) (u := σ) C0 hw h dX8_endOf_53
def wp_X8_endOf (x1 : Int32) (σ : Sg) (post : Int32 → Sg → Prop) : Prop :=
    vp_in x1 20 ∧
    (¬ (σ 23 x1.toNatClampNeg) = 0 →
    ∀ y_3 : Int32, y_3 = (x1 + (1 : Int32)) →
    ∃ fu, wp_X8_endOf_15 post fu x1 y_3 σ) ∧
    ((σ 23 x1.toNatClampNeg) = 0 →
    post (-1 : Int32) σ)
set_option maxHeartbeats 4000000 in
set_option maxRecDepth 100000 in
theorem c_X8_endOf (l : Launch) (D : va_G) (cy : Nat → ClassId) (ad : Nat → Nat) (σ : Sg) (x1 : Int32) (post : Int32 → Sg → Prop) (h : wp_X8_endOf x1 σ post) : Ct l yX8_endOf wsX8_endOf rm_X8_endOf D cy [.ref (ad 0), .int x1] (mdW cy ad σ) 0 0 (Ri D (mdU cy ad) (fun r u => post r u)) := by
  refine Ct.of (cc := cX8_endOf) (maxL := 3) (rt := (some .int)) (by decide) rfl (Nat.le_of_ble_eq_true rfl) ?_
  intro p e s m below meth c A C0 _ H locs ls hw hl
  obtain ⟨⟨hx, hb, hml, hown, hts⟩, hr, hlocks, hkx, hA⟩ := id C0
  have hl : lv_has ls 3 [(0, .ref (ad 0)), (1, .int x1)] := hl
  unfold wp_X8_endOf at h
  refine lv_aload_n hx hb dX8_endOf_0 rfl (lv_at hl 0 rfl) ?_
  refine mg_md_level hx hb hts inw_X8_endOf_X8 hown hkx hw (hts _ (List.mem_of_getElem? (i := 1) rfl)) dX8_endOf_1 ?_
  refine lv_iload_n hx hb dX8_endOf_4 rfl (lv_at hl 1 rfl) ?_
  obtain ⟨b_1, h⟩ := h
  refine ma_m_level hx hb hkx hw b_1 dX8_endOf_5 ?_
  refine lv_if_ne (tgt := 11) hx hb dX8_endOf_6 (by decide) (fun c_2 => ?_) (fun c_2 => ?_)
  · replace h := h.1 c_2
    refine lv_iload_n hx hb dX8_endOf_11 rfl (lv_at hl 1 rfl) ?_
    refine lv_iconst (v := 1) hx hb dX8_endOf_12 (by decide) ?_
    refine lv_iadd hx hb dX8_endOf_13 ?_
    refine lv_topi (fun y_3 ey_3 => ?_)
    replace h := h y_3 ey_3
    refine lv_istore_n (lv' := [(2, .int y_3), (0, .ref (ad 0)), (1, .int x1)]) hx hb dX8_endOf_14 rfl hl (by decide) rfl (fun ls hl => ?_)
    obtain ⟨n_4, h⟩ := h
    exact w_X8_endOf_15 C0 n_4 _ _ _ h _ _ _ hw (lv_sub hl [1, 2, 0] rfl)
  · replace h := h.2 c_2
    refine lv_iconst (v := -1) hx hb dX8_endOf_9 (by decide) ?_
    exact end_i (w1 := (mdU cy ad)) (u := σ) C0 hw h dX8_endOf_10
end
theorem hd_X8_aboveOf : yX8_aboveOf.cls = RX8 ∧ yX8_aboveOf.cls ≠ "java/lang/invoke/MethodHandle" ∧ yX8_aboveOf.cls ≠ "java/lang/invoke/VarHandle" ∧ (parseMethodDescriptor yX8_aboveOf.desc).map (fun d => d.parameters.length) = some 1 := by decide +kernel
section
variable {p : Program} {l : Launch} {e : Env} {s : State} {m : MethodId} {args : Array Value} {below : List Frame} {meth : Method} {c : Code} {D : va_G} {cy : Nat → ClassId} {A : Nat → Prop} {ad : Nat → Nat}
abbrev rm_X8_aboveOf : Room := { frames := 0, cells := 0, slots := 0, locals := 0 }
theorem inw_X8_aboveOf_X8 : ∀ w ∈ u_ws RX8 TX8 35, w ∈ wsX8_aboveOf := fun _ h => List.mem_cons_of_mem _ (List.mem_append_right _ h)
abbrev G_X8_aboveOf (p : Program) (l : Launch) (e : Env) (s : State) (m : MethodId) (args : Array Value) (below : List Frame) (meth : Method) (c : Code) (D : va_G) (A : Nat → Prop) (cy : Nat → ClassId) (ad : Nat → Nat) (post : Int32 → Sg → Prop) : va_W → Nat → List (Nat × Value) → Nat → List Value → Prop := Gw p l e rm_X8_aboveOf s m args below meth c D A (MQ below ((Ri D (mdU cy ad) (fun r u => post r u)) A) args s 0 0 A)
def wp_X8_aboveOf_15 (post : Int32 → Sg → Prop) : Nat → Int32 → Int32 → Sg → Prop
  | 0, _, _, _ => False
  | n + 1, x1, x2, σ =>
    (x2 < 0 →
    post (-1 : Int32) σ) ∧
    (¬ x2 < 0 →
    vp_in x2 20 ∧
    ((σ 23 x2.toNatClampNeg) ≤ 0 →
    wp_X8_aboveOf_15 post n x1 (x2 + (-1 : Int32)) σ) ∧
    (¬ (σ 23 x2.toNatClampNeg) ≤ 0 →
    vp_in x2 20 ∧
    vp_in x1 20 ∧
    ((σ 23 x1.toNatClampNeg) ≤ (σ 23 x2.toNatClampNeg) →
    wp_X8_aboveOf_15 post n x1 (x2 + (-1 : Int32)) σ) ∧
    (¬ (σ 23 x1.toNatClampNeg) ≤ (σ 23 x2.toNatClampNeg) →
    post x2 σ)))
set_option maxHeartbeats 4000000 in
set_option maxRecDepth 100000 in
theorem w_X8_aboveOf_15 (C0 : Mc p m c meth cX8_aboveOf 3 s args wsX8_aboveOf RX8 (some .int) D cy A) {post : Int32 → Sg → Prop} : ∀ (n : Nat) (x1 : Int32) (x2 : Int32) (σ : Sg), wp_X8_aboveOf_15 post n x1 x2 σ → G_X8_aboveOf p l e s m args below meth c D A cy ad post (mdW cy ad σ) 3 [(0, .ref (ad 0)), (1, .int x1), (2, .int x2)] 15 [] := by
  obtain ⟨⟨hx, hb, hml, hown, hts⟩, hr, hlocks, hkx, hA⟩ := id C0
  intro n
  induction n with
  | zero => intro x1 x2 σ h; exact False.elim h
  | succ n ih =>
    intro x1 x2 σ h H locs ls hw hl
    unfold wp_X8_aboveOf_15 at h
    refine lv_iload_n hx hb dX8_aboveOf_15 rfl (lv_at hl 2 rfl) ?_
    refine lv_if_lt (tgt := 51) hx hb dX8_aboveOf_16 (by decide) (fun c_1 => ?_) (fun c_1 => ?_)
    · replace h := h.1 c_1
      refine lv_iconst (v := -1) hx hb dX8_aboveOf_51 (by decide) ?_
      exact end_i (w1 := (mdU cy ad)) (u := σ) C0 hw h dX8_aboveOf_52
    · replace h := h.2 c_1
      refine lv_aload_n hx hb dX8_aboveOf_19 rfl (lv_at hl 0 rfl) ?_
      refine mg_md_level hx hb hts inw_X8_aboveOf_X8 hown hkx hw (hts _ (List.mem_of_getElem? (i := 1) rfl)) dX8_aboveOf_20 ?_
      refine lv_iload_n hx hb dX8_aboveOf_23 rfl (lv_at hl 2 rfl) ?_
      obtain ⟨b_2, h⟩ := h
      refine ma_m_level hx hb hkx hw b_2 dX8_aboveOf_24 ?_
      refine lv_if_le (tgt := 45) hx hb dX8_aboveOf_25 (by decide) (fun c_3 => ?_) (fun c_3 => ?_)
      · replace h := h.1 c_3
        refine lv_iinc (v := x2 + (-1 : Int32)) (lv' := [(2, .int (x2 + (-1 : Int32))), (0, .ref (ad 0)), (1, .int x1)]) hx hb dX8_aboveOf_45 hl (k := 2) rfl rfl (by decide) rfl (fun ls hl => ?_)
        refine lv_goto (tgt := 15) hx hb dX8_aboveOf_48 (by decide) ?_
        exact ih _ _ _ h _ _ _ hw (lv_sub hl [1, 2, 0] rfl)
      · replace h := h.2 c_3
        refine lv_aload_n hx hb dX8_aboveOf_28 rfl (lv_at hl 0 rfl) ?_
        refine mg_md_level hx hb hts inw_X8_aboveOf_X8 hown hkx hw (hts _ (List.mem_of_getElem? (i := 1) rfl)) dX8_aboveOf_29 ?_
        refine lv_iload_n hx hb dX8_aboveOf_32 rfl (lv_at hl 2 rfl) ?_
        obtain ⟨b_4, h⟩ := h
        refine ma_m_level hx hb hkx hw b_4 dX8_aboveOf_33 ?_
        refine lv_aload_n hx hb dX8_aboveOf_34 rfl (lv_at hl 0 rfl) ?_
        refine mg_md_level hx hb hts inw_X8_aboveOf_X8 hown hkx hw (hts _ (List.mem_of_getElem? (i := 1) rfl)) dX8_aboveOf_35 ?_
        refine lv_iload_n hx hb dX8_aboveOf_38 rfl (lv_at hl 1 rfl) ?_
        obtain ⟨b_5, h⟩ := h
        refine ma_m_level hx hb hkx hw b_5 dX8_aboveOf_39 ?_
        refine lv_icmp_ge (tgt := 45) hx hb dX8_aboveOf_40 (by decide) (fun c_6 => ?_) (fun c_6 => ?_)
        · replace h := h.1 c_6
          refine lv_iinc (v := x2 + (-1 : Int32)) (lv' := [(2, .int (x2 + (-1 : Int32))), (0, .ref (ad 0)), (1, .int x1)]) hx hb dX8_aboveOf_45 hl (k := 2) rfl rfl (by decide) rfl (fun ls hl => ?_)
          refine lv_goto (tgt := 15) hx hb dX8_aboveOf_48 (by decide) ?_
          exact ih _ _ _ h _ _ _ hw (lv_sub hl [1, 2, 0] rfl)
        · replace h := h.2 c_6
          refine lv_iload_n hx hb dX8_aboveOf_43 rfl (lv_at hl 2 rfl) ?_
          exact end_i (w1 := (mdU cy ad)) (u := σ) C0 hw h dX8_aboveOf_44
def wp_X8_aboveOf (x1 : Int32) (σ : Sg) (post : Int32 → Sg → Prop) : Prop :=
    vp_in x1 20 ∧
    (¬ (σ 23 x1.toNatClampNeg) = 0 →
    ∀ y_3 : Int32, y_3 = (x1 - (1 : Int32)) →
    ∃ fu, wp_X8_aboveOf_15 post fu x1 y_3 σ) ∧
    ((σ 23 x1.toNatClampNeg) = 0 →
    post (-1 : Int32) σ)
set_option maxHeartbeats 4000000 in
set_option maxRecDepth 100000 in
theorem c_X8_aboveOf (l : Launch) (D : va_G) (cy : Nat → ClassId) (ad : Nat → Nat) (σ : Sg) (x1 : Int32) (post : Int32 → Sg → Prop) (h : wp_X8_aboveOf x1 σ post) : Ct l yX8_aboveOf wsX8_aboveOf rm_X8_aboveOf D cy [.ref (ad 0), .int x1] (mdW cy ad σ) 0 0 (Ri D (mdU cy ad) (fun r u => post r u)) := by
  refine Ct.of (cc := cX8_aboveOf) (maxL := 3) (rt := (some .int)) (by decide) rfl (Nat.le_of_ble_eq_true rfl) ?_
  intro p e s m below meth c A C0 _ H locs ls hw hl
  obtain ⟨⟨hx, hb, hml, hown, hts⟩, hr, hlocks, hkx, hA⟩ := id C0
  have hl : lv_has ls 3 [(0, .ref (ad 0)), (1, .int x1)] := hl
  unfold wp_X8_aboveOf at h
  refine lv_aload_n hx hb dX8_aboveOf_0 rfl (lv_at hl 0 rfl) ?_
  refine mg_md_level hx hb hts inw_X8_aboveOf_X8 hown hkx hw (hts _ (List.mem_of_getElem? (i := 1) rfl)) dX8_aboveOf_1 ?_
  refine lv_iload_n hx hb dX8_aboveOf_4 rfl (lv_at hl 1 rfl) ?_
  obtain ⟨b_1, h⟩ := h
  refine ma_m_level hx hb hkx hw b_1 dX8_aboveOf_5 ?_
  refine lv_if_ne (tgt := 11) hx hb dX8_aboveOf_6 (by decide) (fun c_2 => ?_) (fun c_2 => ?_)
  · replace h := h.1 c_2
    refine lv_iload_n hx hb dX8_aboveOf_11 rfl (lv_at hl 1 rfl) ?_
    refine lv_iconst (v := 1) hx hb dX8_aboveOf_12 (by decide) ?_
    refine lv_isub hx hb dX8_aboveOf_13 ?_
    refine lv_topi (fun y_3 ey_3 => ?_)
    replace h := h y_3 ey_3
    refine lv_istore_n (lv' := [(2, .int y_3), (0, .ref (ad 0)), (1, .int x1)]) hx hb dX8_aboveOf_14 rfl hl (by decide) rfl (fun ls hl => ?_)
    obtain ⟨n_4, h⟩ := h
    exact w_X8_aboveOf_15 C0 n_4 _ _ _ h _ _ _ hw (lv_sub hl [1, 2, 0] rfl)
  · replace h := h.2 c_2
    refine lv_iconst (v := -1) hx hb dX8_aboveOf_9 (by decide) ?_
    exact end_i (w1 := (mdU cy ad)) (u := σ) C0 hw h dX8_aboveOf_10
end
theorem hd_X8_partnerOfLine : yX8_partnerOfLine.cls = RX8 ∧ yX8_partnerOfLine.cls ≠ "java/lang/invoke/MethodHandle" ∧ yX8_partnerOfLine.cls ≠ "java/lang/invoke/VarHandle" ∧ (parseMethodDescriptor yX8_partnerOfLine.desc).map (fun d => d.parameters.length) = some 1 := by decide +kernel
section
variable {p : Program} {l : Launch} {e : Env} {s : State} {m : MethodId} {args : Array Value} {below : List Frame} {meth : Method} {c : Code} {D : va_G} {cy : Nat → ClassId} {A : Nat → Prop} {ad : Nat → Nat}
abbrev rm_X8_partnerOfLine : Room := { frames := 0, cells := 0, slots := 0, locals := 0 }
theorem inw_X8_partnerOfLine_X8 : ∀ w ∈ u_ws RX8 TX8 35, w ∈ wsX8_partnerOfLine := fun _ h => List.mem_cons_of_mem _ (List.mem_append_right _ h)
abbrev G_X8_partnerOfLine (p : Program) (l : Launch) (e : Env) (s : State) (m : MethodId) (args : Array Value) (below : List Frame) (meth : Method) (c : Code) (D : va_G) (A : Nat → Prop) (cy : Nat → ClassId) (ad : Nat → Nat) (post : Int32 → Sg → Prop) : va_W → Nat → List (Nat × Value) → Nat → List Value → Prop := Gw p l e rm_X8_partnerOfLine s m args below meth c D A (MQ below ((Ri D (mdU cy ad) (fun r u => post r u)) A) args s 0 0 A)
def wp_X8_partnerOfLine_2 (post : Int32 → Sg → Prop) : Nat → Int32 → Int32 → Sg → Prop
  | 0, _, _, _ => False
  | n + 1, x1, x2, σ =>
    ((σ 2 0) ≤ x2 →
    post (-1 : Int32) σ) ∧
    (¬ (σ 2 0) ≤ x2 →
    vp_in x2 12 ∧
    (¬ (σ 27 x2.toNatClampNeg) = x1 →
    wp_X8_partnerOfLine_2 post n x1 (x2 + (1 : Int32)) σ) ∧
    ((σ 27 x2.toNatClampNeg) = x1 →
    post x2 σ))
set_option maxHeartbeats 4000000 in
set_option maxRecDepth 100000 in
theorem w_X8_partnerOfLine_2 (C0 : Mc p m c meth cX8_partnerOfLine 3 s args wsX8_partnerOfLine RX8 (some .int) D cy A) {post : Int32 → Sg → Prop} : ∀ (n : Nat) (x1 : Int32) (x2 : Int32) (σ : Sg), wp_X8_partnerOfLine_2 post n x1 x2 σ → G_X8_partnerOfLine p l e s m args below meth c D A cy ad post (mdW cy ad σ) 3 [(0, .ref (ad 0)), (1, .int x1), (2, .int x2)] 2 [] := by
  obtain ⟨⟨hx, hb, hml, hown, hts⟩, hr, hlocks, hkx, hA⟩ := id C0
  intro n
  induction n with
  | zero => intro x1 x2 σ h; exact False.elim h
  | succ n ih =>
    intro x1 x2 σ h H locs ls hw hl
    unfold wp_X8_partnerOfLine_2 at h
    refine lv_iload_n hx hb dX8_partnerOfLine_2 rfl (lv_at hl 2 rfl) ?_
    refine lv_aload_n hx hb dX8_partnerOfLine_3 rfl (lv_at hl 0 rfl) ?_
    refine mg_md_entries hx hb hts inw_X8_partnerOfLine_X8 hown hkx hw (hts _ (List.mem_of_getElem? (i := 1) rfl)) dX8_partnerOfLine_4 ?_
    refine lv_icmp_ge (tgt := 28) hx hb dX8_partnerOfLine_7 (by decide) (fun c_1 => ?_) (fun c_1 => ?_)
    · replace h := h.1 c_1
      refine lv_iconst (v := -1) hx hb dX8_partnerOfLine_28 (by decide) ?_
      exact end_i (w1 := (mdU cy ad)) (u := σ) C0 hw h dX8_partnerOfLine_29
    · replace h := h.2 c_1
      refine lv_aload_n hx hb dX8_partnerOfLine_10 rfl (lv_at hl 0 rfl) ?_
      refine mg_md_partnerOf hx hb hts inw_X8_partnerOfLine_X8 hown hkx hw (hts _ (List.mem_of_getElem? (i := 2) rfl)) dX8_partnerOfLine_11 ?_
      refine lv_iload_n hx hb dX8_partnerOfLine_14 rfl (lv_at hl 2 rfl) ?_
      obtain ⟨b_2, h⟩ := h
      refine ma_m_partnerOf hx hb hkx hw b_2 dX8_partnerOfLine_15 ?_
      refine lv_iload_n hx hb dX8_partnerOfLine_16 rfl (lv_at hl 1 rfl) ?_
      refine lv_icmp_ne (tgt := 22) hx hb dX8_partnerOfLine_17 (by decide) (fun c_3 => ?_) (fun c_3 => ?_)
      · replace h := h.1 c_3
        refine lv_iinc (v := x2 + (1 : Int32)) (lv' := [(2, .int (x2 + (1 : Int32))), (0, .ref (ad 0)), (1, .int x1)]) hx hb dX8_partnerOfLine_22 hl (k := 2) rfl rfl (by decide) rfl (fun ls hl => ?_)
        refine lv_goto (tgt := 2) hx hb dX8_partnerOfLine_25 (by decide) ?_
        exact ih _ _ _ h _ _ _ hw (lv_sub hl [1, 2, 0] rfl)
      · replace h := h.2 c_3
        refine lv_iload_n hx hb dX8_partnerOfLine_20 rfl (lv_at hl 2 rfl) ?_
        exact end_i (w1 := (mdU cy ad)) (u := σ) C0 hw h dX8_partnerOfLine_21
def wp_X8_partnerOfLine (x1 : Int32) (σ : Sg) (post : Int32 → Sg → Prop) : Prop :=
    ∃ fu, wp_X8_partnerOfLine_2 post fu x1 (0 : Int32) σ
set_option maxHeartbeats 4000000 in
set_option maxRecDepth 100000 in
theorem c_X8_partnerOfLine (l : Launch) (D : va_G) (cy : Nat → ClassId) (ad : Nat → Nat) (σ : Sg) (x1 : Int32) (post : Int32 → Sg → Prop) (h : wp_X8_partnerOfLine x1 σ post) : Ct l yX8_partnerOfLine wsX8_partnerOfLine rm_X8_partnerOfLine D cy [.ref (ad 0), .int x1] (mdW cy ad σ) 0 0 (Ri D (mdU cy ad) (fun r u => post r u)) := by
  refine Ct.of (cc := cX8_partnerOfLine) (maxL := 3) (rt := (some .int)) (by decide) rfl (Nat.le_of_ble_eq_true rfl) ?_
  intro p e s m below meth c A C0 _ H locs ls hw hl
  obtain ⟨⟨hx, hb, hml, hown, hts⟩, hr, hlocks, hkx, hA⟩ := id C0
  have hl : lv_has ls 3 [(0, .ref (ad 0)), (1, .int x1)] := hl
  unfold wp_X8_partnerOfLine at h
  refine lv_iconst (v := 0) hx hb dX8_partnerOfLine_0 (by decide) ?_
  refine lv_istore_n (lv' := [(2, .int (0 : Int32)), (0, .ref (ad 0)), (1, .int x1)]) hx hb dX8_partnerOfLine_1 rfl hl (by decide) rfl (fun ls hl => ?_)
  obtain ⟨n_1, h⟩ := h
  exact w_X8_partnerOfLine_2 C0 n_1 _ _ _ h _ _ _ hw (lv_sub hl [1, 2, 0] rfl)
end
theorem hd_X8_of : yX8_of.cls = RX8 ∧ yX8_of.cls ≠ "java/lang/invoke/MethodHandle" ∧ yX8_of.cls ≠ "java/lang/invoke/VarHandle" ∧ (parseMethodDescriptor yX8_of.desc).map (fun d => d.parameters.length) = some 2 := by decide +kernel
section
variable {p : Program} {l : Launch} {e : Env} {s : State} {m : MethodId} {args : Array Value} {below : List Frame} {meth : Method} {c : Code} {D : va_G} {cy : Nat → ClassId} {A : Nat → Prop} {ad : Nat → Nat}
abbrev rm_X8_of : Room := { frames := 61, cells := 0, slots := 0, locals := 1854 }
theorem inw_X8_of_X8 : ∀ w ∈ u_ws RX8 TX8 35, w ∈ wsX8_of := fun _ h => List.mem_cons_of_mem _ (List.mem_append_right _ h)
def wp_X8_of (x1 : Int32) (x2 : Int32) (σ : Sg) (post : Int32 → Sg → Prop) : Prop :=
    ∀ σ_1 : Sg, σ_1 = va_up σ 3 (fun _ => (0 : Int32)) →
    wp_X8_isLine x1 σ_1 (fun r_2 σ_3 =>
    (r_2 = 0 →
    ∀ σ_5 : Sg, σ_5 = va_up σ_3 3 (fun _ => (1 : Int32)) →
    post (0 : Int32) σ_5) ∧
    (¬ r_2 = 0 →
    wp_X8_in x2 (0 : Int32) (7 : Int32) (fun r_6 =>
    (¬ r_6 = 0 →
    wp_X8_find σ_3 (fun σ_8 =>
    (x2 = (0 : Int32) →
    vp_in x1 20 ∧
    post (σ_8 10 x1.toNatClampNeg) σ_8) ∧
    (x2 = (1 : Int32) →
    wp_X8_look x1 σ_8 (fun r_11 σ_12 =>
    post r_11 σ_12)) ∧
    (x2 = (2 : Int32) →
    vp_in x1 20 ∧
    ((σ_8 33 x1.toNatClampNeg) = 0 →
    post (0 : Int32) σ_8) ∧
    (¬ (σ_8 33 x1.toNatClampNeg) = 0 →
    post (1 : Int32) σ_8)) ∧
    (x2 = (3 : Int32) →
    vp_in x1 20 ∧
    post (σ_8 23 x1.toNatClampNeg) σ_8) ∧
    (x2 = (4 : Int32) →
    vp_in x1 20 ∧
    post (σ_8 15 x1.toNatClampNeg) σ_8) ∧
    (x2 = (5 : Int32) →
    wp_X8_endOf x1 σ_8 (fun r_17 σ_18 =>
    post r_17 σ_18)) ∧
    (x2 = (6 : Int32) →
    wp_X8_partnerOfLine x1 σ_8 (fun r_19 σ_20 =>
    post r_19 σ_20)) ∧
    ((x2.toInt < 0 ∨ 6 < x2.toInt) →
    wp_X8_aboveOf x1 σ_8 (fun r_21 σ_22 =>
    post r_21 σ_22)))) ∧
    (r_6 = 0 →
    ∀ σ_23 : Sg, σ_23 = va_up σ_3 3 (fun _ => (1 : Int32)) →
    post (0 : Int32) σ_23))))
set_option maxHeartbeats 4000000 in
set_option maxRecDepth 100000 in
theorem c_X8_of (l : Launch) (D : va_G) (cy : Nat → ClassId) (ad : Nat → Nat) (σ : Sg) (x1 : Int32) (x2 : Int32) (post : Int32 → Sg → Prop) (h : wp_X8_of x1 x2 σ post) : Ct l yX8_of wsX8_of rm_X8_of D cy [.ref (ad 0), .int x1, .int x2] (mdW cy ad σ) 0 0 (Ri D (mdU cy ad) (fun r u => post r u)) := by
  refine Ct.of (cc := cX8_of) (maxL := 3) (rt := (some .int)) (by decide) rfl (Nat.le_of_ble_eq_true rfl) ?_
  intro p e s m below meth c A C0 _ H locs ls hw hl
  obtain ⟨⟨hx, hb, hml, hown, hts⟩, hr, hlocks, hkx, hA⟩ := id C0
  have hl : lv_has ls 3 [(0, .ref (ad 0)), (1, .int x1), (2, .int x2)] := hl
  unfold wp_X8_of at h
  refine lv_aload_n hx hb dX8_of_0 rfl (lv_at hl 0 rfl) ?_
  refine lv_iconst (v := 0) hx hb dX8_of_1 (by decide) ?_
  refine mp_md_thrown hx hb hts inw_X8_of_X8 hown hkx hw (hts _ (List.mem_of_getElem? (i := 1) rfl)) dX8_of_2 (fun σ_1 eσ_1 H locs hw => ?_)
  replace h := h σ_1 eσ_1
  refine lv_aload_n hx hb dX8_of_5 rfl (lv_at hl 0 rfl) ?_
  refine lv_iload_n hx hb dX8_of_6 rfl (lv_at hl 1 rfl) ?_
  refine md_Vi (As := [.int x1]) ⟨hx, hb, hml, hown, hts⟩ hkx hw hA (c_X8_isLine l D cy ad σ_1 x1 _ h) (cwV 1 hts gX8_of_X8_isLine rfl rfl rfl hd_X8_isLine ⟨Nat.le_of_ble_eq_true rfl, Nat.le_of_ble_eq_true rfl⟩) 0 8 rfl rfl rfl hl.1 rfl (Nat.le_of_ble_eq_true rfl) dX8_of_7 ⟨Nat.zero_le _, Nat.zero_le _⟩ (fun r_2 σ_3 H locs h hw => ?_)
  refine lv_if_eq (tgt := 23) hx hb dX8_of_10 (by decide) (fun c_4 => ?_) (fun c_4 => ?_)
  · replace h := h.1 c_4
    refine lv_aload_n hx hb dX8_of_23 rfl (lv_at hl 0 rfl) ?_
    refine lv_iconst (v := 1) hx hb dX8_of_24 (by decide) ?_
    refine mp_md_thrown hx hb hts inw_X8_of_X8 hown hkx hw (hts _ (List.mem_of_getElem? (i := 1) rfl)) dX8_of_25 (fun σ_5 eσ_5 H locs hw => ?_)
    replace h := h σ_5 eσ_5
    refine lv_iconst (v := 0) hx hb dX8_of_28 (by decide) ?_
    exact end_i (w1 := (mdU cy ad)) (u := σ_5) C0 hw h dX8_of_29
  · replace h := h.2 c_4
    refine lv_iload_n hx hb dX8_of_13 rfl (lv_at hl 2 rfl) ?_
    refine lv_iconst (v := 0) hx hb dX8_of_14 (by decide) ?_
    refine lv_bipush (v := 7) hx hb dX8_of_15 (by decide) ?_
    refine call_S0i (As := [.int x2, .int (0 : Int32), .int (7 : Int32)]) ⟨hx, hb, hml, hown, hts⟩ hkx hw hA (c_X8_in l D cy x2 (0 : Int32) (7 : Int32) _ h) (va_cwS 3 hts gX8_of_X8_in rfl rfl rfl hd_X8_in ⟨Nat.le_of_ble_eq_true rfl, Nat.le_of_ble_eq_true rfl⟩) rfl hl.1 rfl (Nat.le_of_ble_eq_true rfl) dX8_of_17 ⟨Nat.zero_le _, Nat.zero_le _⟩ (fun r_6 H locs h hw => ?_)
    refine lv_if_ne (tgt := 30) hx hb dX8_of_20 (by decide) (fun c_7 => ?_) (fun c_7 => ?_)
    · replace h := h.1 c_7
      refine lv_aload_n hx hb dX8_of_30 rfl (lv_at hl 0 rfl) ?_
      refine md_Vv (As := []) ⟨hx, hb, hml, hown, hts⟩ hkx hw hA (c_X8_find l D cy ad σ_3 _ h) (cwV 0 hts gX8_of_X8_find rfl rfl rfl hd_X8_find ⟨Nat.le_of_ble_eq_true rfl, Nat.le_of_ble_eq_true rfl⟩) 0 8 rfl rfl rfl hl.1 rfl (Nat.le_of_ble_eq_true rfl) dX8_of_31 ⟨Nat.zero_le _, Nat.zero_le _⟩ (fun σ_8 H locs h hw => ?_)
      refine lv_iload_n hx hb dX8_of_34 rfl (lv_at hl 2 rfl) ?_
      refine sw_all (x := x2) 6 (by decide) (fun k_9 hk_9 ek_9 => ?_) (fun hk_9 => ?_)
      · rcases (show k_9 = 0 ∨ k_9 = 1 ∨ k_9 = 2 ∨ k_9 = 3 ∨ k_9 = 4 ∨ k_9 = 5 ∨ k_9 = 6 by omega) with rfl | rfl | rfl | rfl | rfl | rfl | rfl
        · replace h := h.1 ek_9
          refine lv_tableIn (tgt := 76) hx hb dX8_of_35 (by rw [ek_9]; decide) (by rw [ek_9]; decide) (off := 41) (by rw [ek_9]; rfl) (by decide) ?_
          refine lv_aload_n hx hb dX8_of_76 rfl (lv_at hl 0 rfl) ?_
          refine mg_md_page hx hb hts inw_X8_of_X8 hown hkx hw (hts _ (List.mem_of_getElem? (i := 2) rfl)) dX8_of_77 ?_
          refine lv_iload_n hx hb dX8_of_80 rfl (lv_at hl 1 rfl) ?_
          obtain ⟨b_10, h⟩ := h
          refine ma_m_page hx hb hkx hw b_10 dX8_of_81 ?_
          exact end_i (w1 := (mdU cy ad)) (u := σ_8) C0 hw h dX8_of_82
        · replace h := h.2.1 ek_9
          refine lv_tableIn (tgt := 83) hx hb dX8_of_35 (by rw [ek_9]; decide) (by rw [ek_9]; decide) (off := 48) (by rw [ek_9]; rfl) (by decide) ?_
          refine lv_aload_n hx hb dX8_of_83 rfl (lv_at hl 0 rfl) ?_
          refine lv_iload_n hx hb dX8_of_84 rfl (lv_at hl 1 rfl) ?_
          refine md_Vi (As := [.int x1]) ⟨hx, hb, hml, hown, hts⟩ hkx hw hA (c_X8_look l D cy ad σ_8 x1 _ h) (cwV 1 hts gX8_of_X8_look rfl rfl rfl hd_X8_look ⟨Nat.le_of_ble_eq_true rfl, Nat.le_of_ble_eq_true rfl⟩) 0 8 rfl rfl rfl hl.1 rfl (Nat.le_of_ble_eq_true rfl) dX8_of_85 ⟨Nat.zero_le _, Nat.zero_le _⟩ (fun r_11 σ_12 H locs h hw => ?_)
          exact end_i (w1 := (mdU cy ad)) (u := σ_12) C0 hw h dX8_of_88
        · replace h := h.2.2.1 ek_9
          refine lv_tableIn (tgt := 89) hx hb dX8_of_35 (by rw [ek_9]; decide) (by rw [ek_9]; decide) (off := 54) (by rw [ek_9]; rfl) (by decide) ?_
          refine lv_aload_n hx hb dX8_of_89 rfl (lv_at hl 0 rfl) ?_
          refine mg_md_isRun hx hb hts inw_X8_of_X8 hown hkx hw (hts _ (List.mem_of_getElem? (i := 3) rfl)) dX8_of_90 ?_
          refine lv_iload_n hx hb dX8_of_93 rfl (lv_at hl 1 rfl) ?_
          obtain ⟨b_13, h⟩ := h
          refine ma_m_isRun hx hb hkx hw b_13 dX8_of_94 ?_
          refine lv_if_eq (tgt := 102) hx hb dX8_of_95 (by decide) (fun c_14 => ?_) (fun c_14 => ?_)
          · replace h := h.1 c_14
            refine lv_iconst (v := 0) hx hb dX8_of_102 (by decide) ?_
            exact end_i (w1 := (mdU cy ad)) (u := σ_8) C0 hw h dX8_of_103
          · replace h := h.2 c_14
            refine lv_iconst (v := 1) hx hb dX8_of_98 (by decide) ?_
            refine lv_goto (tgt := 103) hx hb dX8_of_99 (by decide) ?_
            exact end_i (w1 := (mdU cy ad)) (u := σ_8) C0 hw h dX8_of_103
        · replace h := h.2.2.2.1 ek_9
          refine lv_tableIn (tgt := 104) hx hb dX8_of_35 (by rw [ek_9]; decide) (by rw [ek_9]; decide) (off := 69) (by rw [ek_9]; rfl) (by decide) ?_
          refine lv_aload_n hx hb dX8_of_104 rfl (lv_at hl 0 rfl) ?_
          refine mg_md_level hx hb hts inw_X8_of_X8 hown hkx hw (hts _ (List.mem_of_getElem? (i := 4) rfl)) dX8_of_105 ?_
          refine lv_iload_n hx hb dX8_of_108 rfl (lv_at hl 1 rfl) ?_
          obtain ⟨b_15, h⟩ := h
          refine ma_m_level hx hb hkx hw b_15 dX8_of_109 ?_
          exact end_i (w1 := (mdU cy ad)) (u := σ_8) C0 hw h dX8_of_110
        · replace h := h.2.2.2.2.1 ek_9
          refine lv_tableIn (tgt := 111) hx hb dX8_of_35 (by rw [ek_9]; decide) (by rw [ek_9]; decide) (off := 76) (by rw [ek_9]; rfl) (by decide) ?_
          refine lv_aload_n hx hb dX8_of_111 rfl (lv_at hl 0 rfl) ?_
          refine mg_md_parts hx hb hts inw_X8_of_X8 hown hkx hw (hts _ (List.mem_of_getElem? (i := 5) rfl)) dX8_of_112 ?_
          refine lv_iload_n hx hb dX8_of_115 rfl (lv_at hl 1 rfl) ?_
          obtain ⟨b_16, h⟩ := h
          refine ma_m_parts hx hb hkx hw b_16 dX8_of_116 ?_
          exact end_i (w1 := (mdU cy ad)) (u := σ_8) C0 hw h dX8_of_117
        · replace h := h.2.2.2.2.2.1 ek_9
          refine lv_tableIn (tgt := 118) hx hb dX8_of_35 (by rw [ek_9]; decide) (by rw [ek_9]; decide) (off := 83) (by rw [ek_9]; rfl) (by decide) ?_
          refine lv_aload_n hx hb dX8_of_118 rfl (lv_at hl 0 rfl) ?_
          refine lv_iload_n hx hb dX8_of_119 rfl (lv_at hl 1 rfl) ?_
          refine md_Vi (As := [.int x1]) ⟨hx, hb, hml, hown, hts⟩ hkx hw hA (c_X8_endOf l D cy ad σ_8 x1 _ h) (cwV 1 hts gX8_of_X8_endOf rfl rfl rfl hd_X8_endOf ⟨Nat.le_of_ble_eq_true rfl, Nat.le_of_ble_eq_true rfl⟩) 0 8 rfl rfl rfl hl.1 rfl (Nat.le_of_ble_eq_true rfl) dX8_of_120 ⟨Nat.zero_le _, Nat.zero_le _⟩ (fun r_17 σ_18 H locs h hw => ?_)
          exact end_i (w1 := (mdU cy ad)) (u := σ_18) C0 hw h dX8_of_123
        · replace h := h.2.2.2.2.2.2.1 ek_9
          refine lv_tableIn (tgt := 124) hx hb dX8_of_35 (by rw [ek_9]; decide) (by rw [ek_9]; decide) (off := 89) (by rw [ek_9]; rfl) (by decide) ?_
          refine lv_aload_n hx hb dX8_of_124 rfl (lv_at hl 0 rfl) ?_
          refine lv_iload_n hx hb dX8_of_125 rfl (lv_at hl 1 rfl) ?_
          refine md_Vi (As := [.int x1]) ⟨hx, hb, hml, hown, hts⟩ hkx hw hA (c_X8_partnerOfLine l D cy ad σ_8 x1 _ h) (cwV 1 hts gX8_of_X8_partnerOfLine rfl rfl rfl hd_X8_partnerOfLine ⟨Nat.le_of_ble_eq_true rfl, Nat.le_of_ble_eq_true rfl⟩) 0 8 rfl rfl rfl hl.1 rfl (Nat.le_of_ble_eq_true rfl) dX8_of_126 ⟨Nat.zero_le _, Nat.zero_le _⟩ (fun r_19 σ_20 H locs h hw => ?_)
          exact end_i (w1 := (mdU cy ad)) (u := σ_20) C0 hw h dX8_of_129
      · replace h := h.2.2.2.2.2.2.2 hk_9
        refine lv_tableOut (tgt := 130) hx hb dX8_of_35 hk_9 (by decide) ?_
        refine lv_aload_n hx hb dX8_of_130 rfl (lv_at hl 0 rfl) ?_
        refine lv_iload_n hx hb dX8_of_131 rfl (lv_at hl 1 rfl) ?_
        refine md_Vi (As := [.int x1]) ⟨hx, hb, hml, hown, hts⟩ hkx hw hA (c_X8_aboveOf l D cy ad σ_8 x1 _ h) (cwV 1 hts gX8_of_X8_aboveOf rfl rfl rfl hd_X8_aboveOf ⟨Nat.le_of_ble_eq_true rfl, Nat.le_of_ble_eq_true rfl⟩) 0 8 rfl rfl rfl hl.1 rfl (Nat.le_of_ble_eq_true rfl) dX8_of_132 ⟨Nat.zero_le _, Nat.zero_le _⟩ (fun r_21 σ_22 H locs h hw => ?_)
        exact end_i (w1 := (mdU cy ad)) (u := σ_22) C0 hw h dX8_of_135
    · replace h := h.2 c_7
      refine lv_aload_n hx hb dX8_of_23 rfl (lv_at hl 0 rfl) ?_
      refine lv_iconst (v := 1) hx hb dX8_of_24 (by decide) ?_
      refine mp_md_thrown hx hb hts inw_X8_of_X8 hown hkx hw (hts _ (List.mem_of_getElem? (i := 1) rfl)) dX8_of_25 (fun σ_23 eσ_23 H locs hw => ?_)
      replace h := h σ_23 eσ_23
      refine lv_iconst (v := 0) hx hb dX8_of_28 (by decide) ?_
      exact end_i (w1 := (mdU cy ad)) (u := σ_23) C0 hw h dX8_of_29
end
theorem hd_X8_counter : yX8_counter.cls = RX8 ∧ yX8_counter.cls ≠ "java/lang/invoke/MethodHandle" ∧ yX8_counter.cls ≠ "java/lang/invoke/VarHandle" ∧ (parseMethodDescriptor yX8_counter.desc).map (fun d => d.parameters.length) = some 2 := by decide +kernel
section
variable {p : Program} {l : Launch} {e : Env} {s : State} {m : MethodId} {args : Array Value} {below : List Frame} {meth : Method} {c : Code} {D : va_G} {cy : Nat → ClassId} {A : Nat → Prop} {ad : Nat → Nat}
abbrev rm_X8_counter : Room := { frames := 61, cells := 0, slots := 0, locals := 1854 }
theorem inw_X8_counter_X8 : ∀ w ∈ u_ws RX8 TX8 35, w ∈ wsX8_counter := fun _ h => List.mem_cons_of_mem _ (List.mem_append_right _ h)
def wp_X8_counter (x1 : Int32) (x2 : Int32) (σ : Sg) (post : Int32 → Sg → Prop) : Prop :=
    ∀ σ_1 : Sg, σ_1 = va_up σ 3 (fun _ => (0 : Int32)) →
    wp_X8_isLine x1 σ_1 (fun r_2 σ_3 =>
    (r_2 = 0 →
    post (-1 : Int32) σ_3) ∧
    (¬ r_2 = 0 →
    wp_X8_in x2 (1 : Int32) (3 : Int32) (fun r_5 =>
    (¬ r_5 = 0 →
    wp_X8_find σ_3 (fun σ_7 =>
    vp_in ((((3 : Int32) * x1) + x2) - (1 : Int32)) 60 ∧
    post (σ_7 24 ((((3 : Int32) * x1) + x2) - (1 : Int32)).toNatClampNeg) σ_7)) ∧
    (r_5 = 0 →
    post (-1 : Int32) σ_3))))
set_option maxHeartbeats 4000000 in
set_option maxRecDepth 100000 in
theorem c_X8_counter (l : Launch) (D : va_G) (cy : Nat → ClassId) (ad : Nat → Nat) (σ : Sg) (x1 : Int32) (x2 : Int32) (post : Int32 → Sg → Prop) (h : wp_X8_counter x1 x2 σ post) : Ct l yX8_counter wsX8_counter rm_X8_counter D cy [.ref (ad 0), .int x1, .int x2] (mdW cy ad σ) 0 0 (Ri D (mdU cy ad) (fun r u => post r u)) := by
  refine Ct.of (cc := cX8_counter) (maxL := 3) (rt := (some .int)) (by decide) rfl (Nat.le_of_ble_eq_true rfl) ?_
  intro p e s m below meth c A C0 _ H locs ls hw hl
  obtain ⟨⟨hx, hb, hml, hown, hts⟩, hr, hlocks, hkx, hA⟩ := id C0
  have hl : lv_has ls 3 [(0, .ref (ad 0)), (1, .int x1), (2, .int x2)] := hl
  unfold wp_X8_counter at h
  refine lv_aload_n hx hb dX8_counter_0 rfl (lv_at hl 0 rfl) ?_
  refine lv_iconst (v := 0) hx hb dX8_counter_1 (by decide) ?_
  refine mp_md_thrown hx hb hts inw_X8_counter_X8 hown hkx hw (hts _ (List.mem_of_getElem? (i := 1) rfl)) dX8_counter_2 (fun σ_1 eσ_1 H locs hw => ?_)
  replace h := h σ_1 eσ_1
  refine lv_aload_n hx hb dX8_counter_5 rfl (lv_at hl 0 rfl) ?_
  refine lv_iload_n hx hb dX8_counter_6 rfl (lv_at hl 1 rfl) ?_
  refine md_Vi (As := [.int x1]) ⟨hx, hb, hml, hown, hts⟩ hkx hw hA (c_X8_isLine l D cy ad σ_1 x1 _ h) (cwV 1 hts gX8_counter_X8_isLine rfl rfl rfl hd_X8_isLine ⟨Nat.le_of_ble_eq_true rfl, Nat.le_of_ble_eq_true rfl⟩) 0 8 rfl rfl rfl hl.1 rfl (Nat.le_of_ble_eq_true rfl) dX8_counter_7 ⟨Nat.zero_le _, Nat.zero_le _⟩ (fun r_2 σ_3 H locs h hw => ?_)
  refine lv_if_eq (tgt := 22) hx hb dX8_counter_10 (by decide) (fun c_4 => ?_) (fun c_4 => ?_)
  · replace h := h.1 c_4
    refine lv_iconst (v := -1) hx hb dX8_counter_22 (by decide) ?_
    exact end_i (w1 := (mdU cy ad)) (u := σ_3) C0 hw h dX8_counter_23
  · replace h := h.2 c_4
    refine lv_iload_n hx hb dX8_counter_13 rfl (lv_at hl 2 rfl) ?_
    refine lv_iconst (v := 1) hx hb dX8_counter_14 (by decide) ?_
    refine lv_iconst (v := 3) hx hb dX8_counter_15 (by decide) ?_
    refine call_S0i (As := [.int x2, .int (1 : Int32), .int (3 : Int32)]) ⟨hx, hb, hml, hown, hts⟩ hkx hw hA (c_X8_in l D cy x2 (1 : Int32) (3 : Int32) _ h) (va_cwS 3 hts gX8_counter_X8_in rfl rfl rfl hd_X8_in ⟨Nat.le_of_ble_eq_true rfl, Nat.le_of_ble_eq_true rfl⟩) rfl hl.1 rfl (Nat.le_of_ble_eq_true rfl) dX8_counter_16 ⟨Nat.zero_le _, Nat.zero_le _⟩ (fun r_5 H locs h hw => ?_)
    refine lv_if_ne (tgt := 24) hx hb dX8_counter_19 (by decide) (fun c_6 => ?_) (fun c_6 => ?_)
    · replace h := h.1 c_6
      refine lv_aload_n hx hb dX8_counter_24 rfl (lv_at hl 0 rfl) ?_
      refine md_Vv (As := []) ⟨hx, hb, hml, hown, hts⟩ hkx hw hA (c_X8_find l D cy ad σ_3 _ h) (cwV 0 hts gX8_counter_X8_find rfl rfl rfl hd_X8_find ⟨Nat.le_of_ble_eq_true rfl, Nat.le_of_ble_eq_true rfl⟩) 0 8 rfl rfl rfl hl.1 rfl (Nat.le_of_ble_eq_true rfl) dX8_counter_25 ⟨Nat.zero_le _, Nat.zero_le _⟩ (fun σ_7 H locs h hw => ?_)
      refine lv_aload_n hx hb dX8_counter_28 rfl (lv_at hl 0 rfl) ?_
      refine mg_md_counters hx hb hts inw_X8_counter_X8 hown hkx hw (hts _ (List.mem_of_getElem? (i := 2) rfl)) dX8_counter_29 ?_
      refine lv_iconst (v := 3) hx hb dX8_counter_32 (by decide) ?_
      refine lv_iload_n hx hb dX8_counter_33 rfl (lv_at hl 1 rfl) ?_
      refine lv_imul hx hb dX8_counter_34 ?_
      refine lv_iload_n hx hb dX8_counter_35 rfl (lv_at hl 2 rfl) ?_
      refine lv_iadd hx hb dX8_counter_36 ?_
      refine lv_iconst (v := 1) hx hb dX8_counter_37 (by decide) ?_
      refine lv_isub hx hb dX8_counter_38 ?_
      obtain ⟨b_8, h⟩ := h
      refine ma_m_counters hx hb hkx hw b_8 dX8_counter_39 ?_
      exact end_i (w1 := (mdU cy ad)) (u := σ_7) C0 hw h dX8_counter_40
    · replace h := h.2 c_6
      refine lv_iconst (v := -1) hx hb dX8_counter_22 (by decide) ?_
      exact end_i (w1 := (mdU cy ad)) (u := σ_3) C0 hw h dX8_counter_23
end
theorem hd_X8_partner : yX8_partner.cls = RX8 ∧ yX8_partner.cls ≠ "java/lang/invoke/MethodHandle" ∧ yX8_partner.cls ≠ "java/lang/invoke/VarHandle" ∧ (parseMethodDescriptor yX8_partner.desc).map (fun d => d.parameters.length) = some 1 := by decide +kernel
section
variable {p : Program} {l : Launch} {e : Env} {s : State} {m : MethodId} {args : Array Value} {below : List Frame} {meth : Method} {c : Code} {D : va_G} {cy : Nat → ClassId} {A : Nat → Prop} {ad : Nat → Nat}
abbrev rm_X8_partner : Room := { frames := 61, cells := 0, slots := 0, locals := 1854 }
theorem inw_X8_partner_X8 : ∀ w ∈ u_ws RX8 TX8 35, w ∈ wsX8_partner := fun _ h => List.mem_cons_of_mem _ (List.mem_append_right _ h)
def wp_X8_partner (x1 : Int32) (σ : Sg) (post : Int32 → Sg → Prop) : Prop :=
    ∀ σ_1 : Sg, σ_1 = va_up σ 3 (fun _ => (0 : Int32)) →
    wp_X8_in x1 (0 : Int32) ((σ_1 2 0) - (1 : Int32)) (fun r_2 =>
    (¬ r_2 = 0 →
    wp_X8_find σ_1 (fun σ_4 =>
    vp_in x1 12 ∧
    post (σ_4 27 x1.toNatClampNeg) σ_4)) ∧
    (r_2 = 0 →
    post (-1 : Int32) σ_1))
set_option maxHeartbeats 4000000 in
set_option maxRecDepth 100000 in
theorem c_X8_partner (l : Launch) (D : va_G) (cy : Nat → ClassId) (ad : Nat → Nat) (σ : Sg) (x1 : Int32) (post : Int32 → Sg → Prop) (h : wp_X8_partner x1 σ post) : Ct l yX8_partner wsX8_partner rm_X8_partner D cy [.ref (ad 0), .int x1] (mdW cy ad σ) 0 0 (Ri D (mdU cy ad) (fun r u => post r u)) := by
  refine Ct.of (cc := cX8_partner) (maxL := 2) (rt := (some .int)) (by decide) rfl (Nat.le_of_ble_eq_true rfl) ?_
  intro p e s m below meth c A C0 _ H locs ls hw hl
  obtain ⟨⟨hx, hb, hml, hown, hts⟩, hr, hlocks, hkx, hA⟩ := id C0
  have hl : lv_has ls 2 [(0, .ref (ad 0)), (1, .int x1)] := hl
  unfold wp_X8_partner at h
  refine lv_aload_n hx hb dX8_partner_0 rfl (lv_at hl 0 rfl) ?_
  refine lv_iconst (v := 0) hx hb dX8_partner_1 (by decide) ?_
  refine mp_md_thrown hx hb hts inw_X8_partner_X8 hown hkx hw (hts _ (List.mem_of_getElem? (i := 1) rfl)) dX8_partner_2 (fun σ_1 eσ_1 H locs hw => ?_)
  replace h := h σ_1 eσ_1
  refine lv_iload_n hx hb dX8_partner_5 rfl (lv_at hl 1 rfl) ?_
  refine lv_iconst (v := 0) hx hb dX8_partner_6 (by decide) ?_
  refine lv_aload_n hx hb dX8_partner_7 rfl (lv_at hl 0 rfl) ?_
  refine mg_md_entries hx hb hts inw_X8_partner_X8 hown hkx hw (hts _ (List.mem_of_getElem? (i := 2) rfl)) dX8_partner_8 ?_
  refine lv_iconst (v := 1) hx hb dX8_partner_11 (by decide) ?_
  refine lv_isub hx hb dX8_partner_12 ?_
  refine call_S0i (As := [.int x1, .int (0 : Int32), .int ((σ_1 2 0) - (1 : Int32))]) ⟨hx, hb, hml, hown, hts⟩ hkx hw hA (c_X8_in l D cy x1 (0 : Int32) ((σ_1 2 0) - (1 : Int32)) _ h) (va_cwS 3 hts gX8_partner_X8_in rfl rfl rfl hd_X8_in ⟨Nat.le_of_ble_eq_true rfl, Nat.le_of_ble_eq_true rfl⟩) rfl hl.1 rfl (Nat.le_of_ble_eq_true rfl) dX8_partner_13 ⟨Nat.zero_le _, Nat.zero_le _⟩ (fun r_2 H locs h hw => ?_)
  refine lv_if_ne (tgt := 21) hx hb dX8_partner_16 (by decide) (fun c_3 => ?_) (fun c_3 => ?_)
  · replace h := h.1 c_3
    refine lv_aload_n hx hb dX8_partner_21 rfl (lv_at hl 0 rfl) ?_
    refine md_Vv (As := []) ⟨hx, hb, hml, hown, hts⟩ hkx hw hA (c_X8_find l D cy ad σ_1 _ h) (cwV 0 hts gX8_partner_X8_find rfl rfl rfl hd_X8_find ⟨Nat.le_of_ble_eq_true rfl, Nat.le_of_ble_eq_true rfl⟩) 0 8 rfl rfl rfl hl.1 rfl (Nat.le_of_ble_eq_true rfl) dX8_partner_22 ⟨Nat.zero_le _, Nat.zero_le _⟩ (fun σ_4 H locs h hw => ?_)
    refine lv_aload_n hx hb dX8_partner_25 rfl (lv_at hl 0 rfl) ?_
    refine mg_md_partnerOf hx hb hts inw_X8_partner_X8 hown hkx hw (hts _ (List.mem_of_getElem? (i := 3) rfl)) dX8_partner_26 ?_
    refine lv_iload_n hx hb dX8_partner_29 rfl (lv_at hl 1 rfl) ?_
    obtain ⟨b_5, h⟩ := h
    refine ma_m_partnerOf hx hb hkx hw b_5 dX8_partner_30 ?_
    exact end_i (w1 := (mdU cy ad)) (u := σ_4) C0 hw h dX8_partner_31
  · replace h := h.2 c_3
    refine lv_iconst (v := -1) hx hb dX8_partner_19 (by decide) ?_
    exact end_i (w1 := (mdU cy ad)) (u := σ_1) C0 hw h dX8_partner_20
end
theorem hd_X8_shift : yX8_shift.cls = RX8 ∧ yX8_shift.cls ≠ "java/lang/invoke/MethodHandle" ∧ yX8_shift.cls ≠ "java/lang/invoke/VarHandle" ∧ (parseMethodDescriptor yX8_shift.desc).map (fun d => d.parameters.length) = some 1 := by decide +kernel
section
variable {p : Program} {l : Launch} {e : Env} {s : State} {m : MethodId} {args : Array Value} {below : List Frame} {meth : Method} {c : Code} {D : va_G} {cy : Nat → ClassId} {A : Nat → Prop} {ad : Nat → Nat}
abbrev rm_X8_shift : Room := { frames := 61, cells := 0, slots := 0, locals := 1854 }
theorem inw_X8_shift_X8 : ∀ w ∈ u_ws RX8 TX8 35, w ∈ wsX8_shift := fun _ h => List.mem_cons_of_mem _ (List.mem_append_right _ h)
def wp_X8_shift (x1 : Int32) (σ : Sg) (post : Int32 → Sg → Prop) : Prop :=
    ∀ σ_1 : Sg, σ_1 = va_up σ 3 (fun _ => (0 : Int32)) →
    wp_X8_in x1 (0 : Int32) ((σ_1 0 0) - (1 : Int32)) (fun r_2 =>
    (¬ r_2 = 0 →
    wp_X8_find σ_1 (fun σ_4 =>
    vp_in x1 60 ∧
    post (σ_4 32 x1.toNatClampNeg) σ_4)) ∧
    (r_2 = 0 →
    ∀ σ_6 : Sg, σ_6 = va_up σ_1 3 (fun _ => (1 : Int32)) →
    post (0 : Int32) σ_6))
set_option maxHeartbeats 4000000 in
set_option maxRecDepth 100000 in
theorem c_X8_shift (l : Launch) (D : va_G) (cy : Nat → ClassId) (ad : Nat → Nat) (σ : Sg) (x1 : Int32) (post : Int32 → Sg → Prop) (h : wp_X8_shift x1 σ post) : Ct l yX8_shift wsX8_shift rm_X8_shift D cy [.ref (ad 0), .int x1] (mdW cy ad σ) 0 0 (Ri D (mdU cy ad) (fun r u => post r u)) := by
  refine Ct.of (cc := cX8_shift) (maxL := 2) (rt := (some .int)) (by decide) rfl (Nat.le_of_ble_eq_true rfl) ?_
  intro p e s m below meth c A C0 _ H locs ls hw hl
  obtain ⟨⟨hx, hb, hml, hown, hts⟩, hr, hlocks, hkx, hA⟩ := id C0
  have hl : lv_has ls 2 [(0, .ref (ad 0)), (1, .int x1)] := hl
  unfold wp_X8_shift at h
  refine lv_aload_n hx hb dX8_shift_0 rfl (lv_at hl 0 rfl) ?_
  refine lv_iconst (v := 0) hx hb dX8_shift_1 (by decide) ?_
  refine mp_md_thrown hx hb hts inw_X8_shift_X8 hown hkx hw (hts _ (List.mem_of_getElem? (i := 1) rfl)) dX8_shift_2 (fun σ_1 eσ_1 H locs hw => ?_)
  replace h := h σ_1 eσ_1
  refine lv_iload_n hx hb dX8_shift_5 rfl (lv_at hl 1 rfl) ?_
  refine lv_iconst (v := 0) hx hb dX8_shift_6 (by decide) ?_
  refine lv_aload_n hx hb dX8_shift_7 rfl (lv_at hl 0 rfl) ?_
  refine mg_md_pages hx hb hts inw_X8_shift_X8 hown hkx hw (hts _ (List.mem_of_getElem? (i := 2) rfl)) dX8_shift_8 ?_
  refine lv_iconst (v := 1) hx hb dX8_shift_11 (by decide) ?_
  refine lv_isub hx hb dX8_shift_12 ?_
  refine call_S0i (As := [.int x1, .int (0 : Int32), .int ((σ_1 0 0) - (1 : Int32))]) ⟨hx, hb, hml, hown, hts⟩ hkx hw hA (c_X8_in l D cy x1 (0 : Int32) ((σ_1 0 0) - (1 : Int32)) _ h) (va_cwS 3 hts gX8_shift_X8_in rfl rfl rfl hd_X8_in ⟨Nat.le_of_ble_eq_true rfl, Nat.le_of_ble_eq_true rfl⟩) rfl hl.1 rfl (Nat.le_of_ble_eq_true rfl) dX8_shift_13 ⟨Nat.zero_le _, Nat.zero_le _⟩ (fun r_2 H locs h hw => ?_)
  refine lv_if_ne (tgt := 26) hx hb dX8_shift_16 (by decide) (fun c_3 => ?_) (fun c_3 => ?_)
  · replace h := h.1 c_3
    refine lv_aload_n hx hb dX8_shift_26 rfl (lv_at hl 0 rfl) ?_
    refine md_Vv (As := []) ⟨hx, hb, hml, hown, hts⟩ hkx hw hA (c_X8_find l D cy ad σ_1 _ h) (cwV 0 hts gX8_shift_X8_find rfl rfl rfl hd_X8_find ⟨Nat.le_of_ble_eq_true rfl, Nat.le_of_ble_eq_true rfl⟩) 0 8 rfl rfl rfl hl.1 rfl (Nat.le_of_ble_eq_true rfl) dX8_shift_27 ⟨Nat.zero_le _, Nat.zero_le _⟩ (fun σ_4 H locs h hw => ?_)
    refine lv_aload_n hx hb dX8_shift_30 rfl (lv_at hl 0 rfl) ?_
    refine mg_md_shiftOf hx hb hts inw_X8_shift_X8 hown hkx hw (hts _ (List.mem_of_getElem? (i := 3) rfl)) dX8_shift_31 ?_
    refine lv_iload_n hx hb dX8_shift_34 rfl (lv_at hl 1 rfl) ?_
    obtain ⟨b_5, h⟩ := h
    refine ma_m_shiftOf hx hb hkx hw b_5 dX8_shift_35 ?_
    exact end_i (w1 := (mdU cy ad)) (u := σ_4) C0 hw h dX8_shift_36
  · replace h := h.2 c_3
    refine lv_aload_n hx hb dX8_shift_19 rfl (lv_at hl 0 rfl) ?_
    refine lv_iconst (v := 1) hx hb dX8_shift_20 (by decide) ?_
    refine mp_md_thrown hx hb hts inw_X8_shift_X8 hown hkx hw (hts _ (List.mem_of_getElem? (i := 1) rfl)) dX8_shift_21 (fun σ_6 eσ_6 H locs hw => ?_)
    replace h := h σ_6 eσ_6
    refine lv_iconst (v := 0) hx hb dX8_shift_24 (by decide) ?_
    exact end_i (w1 := (mdU cy ad)) (u := σ_6) C0 hw h dX8_shift_25
end
theorem hd_X8_span : yX8_span.cls = RX8 ∧ yX8_span.cls ≠ "java/lang/invoke/MethodHandle" ∧ yX8_span.cls ≠ "java/lang/invoke/VarHandle" ∧ (parseMethodDescriptor yX8_span.desc).map (fun d => d.parameters.length) = some 1 := by decide +kernel
section
variable {p : Program} {l : Launch} {e : Env} {s : State} {m : MethodId} {args : Array Value} {below : List Frame} {meth : Method} {c : Code} {D : va_G} {cy : Nat → ClassId} {A : Nat → Prop} {ad : Nat → Nat}
abbrev rm_X8_span : Room := { frames := 61, cells := 0, slots := 0, locals := 1854 }
theorem inw_X8_span_X8 : ∀ w ∈ u_ws RX8 TX8 35, w ∈ wsX8_span := fun _ h => List.mem_cons_of_mem _ (List.mem_append_right _ h)
def wp_X8_span (x1 : Int32) (σ : Sg) (post : Int32 → Sg → Prop) : Prop :=
    ∀ σ_1 : Sg, σ_1 = va_up σ 3 (fun _ => (0 : Int32)) →
    wp_X8_in x1 (0 : Int32) ((σ_1 0 0) - (1 : Int32)) (fun r_2 =>
    (¬ r_2 = 0 →
    wp_X8_find σ_1 (fun σ_4 =>
    vp_in x1 60 ∧
    post (σ_4 31 x1.toNatClampNeg) σ_4)) ∧
    (r_2 = 0 →
    post (-1 : Int32) σ_1))
set_option maxHeartbeats 4000000 in
set_option maxRecDepth 100000 in
theorem c_X8_span (l : Launch) (D : va_G) (cy : Nat → ClassId) (ad : Nat → Nat) (σ : Sg) (x1 : Int32) (post : Int32 → Sg → Prop) (h : wp_X8_span x1 σ post) : Ct l yX8_span wsX8_span rm_X8_span D cy [.ref (ad 0), .int x1] (mdW cy ad σ) 0 0 (Ri D (mdU cy ad) (fun r u => post r u)) := by
  refine Ct.of (cc := cX8_span) (maxL := 2) (rt := (some .int)) (by decide) rfl (Nat.le_of_ble_eq_true rfl) ?_
  intro p e s m below meth c A C0 _ H locs ls hw hl
  obtain ⟨⟨hx, hb, hml, hown, hts⟩, hr, hlocks, hkx, hA⟩ := id C0
  have hl : lv_has ls 2 [(0, .ref (ad 0)), (1, .int x1)] := hl
  unfold wp_X8_span at h
  refine lv_aload_n hx hb dX8_span_0 rfl (lv_at hl 0 rfl) ?_
  refine lv_iconst (v := 0) hx hb dX8_span_1 (by decide) ?_
  refine mp_md_thrown hx hb hts inw_X8_span_X8 hown hkx hw (hts _ (List.mem_of_getElem? (i := 1) rfl)) dX8_span_2 (fun σ_1 eσ_1 H locs hw => ?_)
  replace h := h σ_1 eσ_1
  refine lv_iload_n hx hb dX8_span_5 rfl (lv_at hl 1 rfl) ?_
  refine lv_iconst (v := 0) hx hb dX8_span_6 (by decide) ?_
  refine lv_aload_n hx hb dX8_span_7 rfl (lv_at hl 0 rfl) ?_
  refine mg_md_pages hx hb hts inw_X8_span_X8 hown hkx hw (hts _ (List.mem_of_getElem? (i := 2) rfl)) dX8_span_8 ?_
  refine lv_iconst (v := 1) hx hb dX8_span_11 (by decide) ?_
  refine lv_isub hx hb dX8_span_12 ?_
  refine call_S0i (As := [.int x1, .int (0 : Int32), .int ((σ_1 0 0) - (1 : Int32))]) ⟨hx, hb, hml, hown, hts⟩ hkx hw hA (c_X8_in l D cy x1 (0 : Int32) ((σ_1 0 0) - (1 : Int32)) _ h) (va_cwS 3 hts gX8_span_X8_in rfl rfl rfl hd_X8_in ⟨Nat.le_of_ble_eq_true rfl, Nat.le_of_ble_eq_true rfl⟩) rfl hl.1 rfl (Nat.le_of_ble_eq_true rfl) dX8_span_13 ⟨Nat.zero_le _, Nat.zero_le _⟩ (fun r_2 H locs h hw => ?_)
  refine lv_if_ne (tgt := 21) hx hb dX8_span_16 (by decide) (fun c_3 => ?_) (fun c_3 => ?_)
  · replace h := h.1 c_3
    refine lv_aload_n hx hb dX8_span_21 rfl (lv_at hl 0 rfl) ?_
    refine md_Vv (As := []) ⟨hx, hb, hml, hown, hts⟩ hkx hw hA (c_X8_find l D cy ad σ_1 _ h) (cwV 0 hts gX8_span_X8_find rfl rfl rfl hd_X8_find ⟨Nat.le_of_ble_eq_true rfl, Nat.le_of_ble_eq_true rfl⟩) 0 8 rfl rfl rfl hl.1 rfl (Nat.le_of_ble_eq_true rfl) dX8_span_22 ⟨Nat.zero_le _, Nat.zero_le _⟩ (fun σ_4 H locs h hw => ?_)
    refine lv_aload_n hx hb dX8_span_25 rfl (lv_at hl 0 rfl) ?_
    refine mg_md_spanOf hx hb hts inw_X8_span_X8 hown hkx hw (hts _ (List.mem_of_getElem? (i := 3) rfl)) dX8_span_26 ?_
    refine lv_iload_n hx hb dX8_span_29 rfl (lv_at hl 1 rfl) ?_
    obtain ⟨b_5, h⟩ := h
    refine ma_m_spanOf hx hb hkx hw b_5 dX8_span_30 ?_
    exact end_i (w1 := (mdU cy ad)) (u := σ_4) C0 hw h dX8_span_31
  · replace h := h.2 c_3
    refine lv_iconst (v := -1) hx hb dX8_span_19 (by decide) ?_
    exact end_i (w1 := (mdU cy ad)) (u := σ_1) C0 hw h dX8_span_20
end
theorem hd_X8_wrong : yX8_wrong.cls = RX8 ∧ yX8_wrong.cls ≠ "java/lang/invoke/MethodHandle" ∧ yX8_wrong.cls ≠ "java/lang/invoke/VarHandle" ∧ (parseMethodDescriptor yX8_wrong.desc).map (fun d => d.parameters.length) = some 1 := by decide +kernel
section
variable {p : Program} {l : Launch} {e : Env} {s : State} {m : MethodId} {args : Array Value} {below : List Frame} {meth : Method} {c : Code} {D : va_G} {cy : Nat → ClassId} {A : Nat → Prop} {ad : Nat → Nat}
abbrev rm_X8_wrong : Room := { frames := 61, cells := 0, slots := 0, locals := 1854 }
theorem inw_X8_wrong_X8 : ∀ w ∈ u_ws RX8 TX8 35, w ∈ wsX8_wrong := fun _ h => List.mem_cons_of_mem _ (List.mem_append_right _ h)
def wp_X8_wrong (x1 : Int32) (σ : Sg) (post : Int32 → Sg → Prop) : Prop :=
    ∀ σ_1 : Sg, σ_1 = va_up σ 3 (fun _ => (0 : Int32)) →
    wp_X8_in x1 (0 : Int32) ((σ_1 0 0) - (1 : Int32)) (fun r_2 =>
    (¬ r_2 = 0 →
    wp_X8_find σ_1 (fun σ_4 =>
    wp_X8_isWrong x1 σ_4 (fun r_5 σ_6 =>
    (r_5 = 0 →
    post (0 : Int32) σ_6) ∧
    (¬ r_5 = 0 →
    post (1 : Int32) σ_6)))) ∧
    (r_2 = 0 →
    post (-1 : Int32) σ_1))
set_option maxHeartbeats 4000000 in
set_option maxRecDepth 100000 in
theorem c_X8_wrong (l : Launch) (D : va_G) (cy : Nat → ClassId) (ad : Nat → Nat) (σ : Sg) (x1 : Int32) (post : Int32 → Sg → Prop) (h : wp_X8_wrong x1 σ post) : Ct l yX8_wrong wsX8_wrong rm_X8_wrong D cy [.ref (ad 0), .int x1] (mdW cy ad σ) 0 0 (Ri D (mdU cy ad) (fun r u => post r u)) := by
  refine Ct.of (cc := cX8_wrong) (maxL := 2) (rt := (some .int)) (by decide) rfl (Nat.le_of_ble_eq_true rfl) ?_
  intro p e s m below meth c A C0 _ H locs ls hw hl
  obtain ⟨⟨hx, hb, hml, hown, hts⟩, hr, hlocks, hkx, hA⟩ := id C0
  have hl : lv_has ls 2 [(0, .ref (ad 0)), (1, .int x1)] := hl
  unfold wp_X8_wrong at h
  refine lv_aload_n hx hb dX8_wrong_0 rfl (lv_at hl 0 rfl) ?_
  refine lv_iconst (v := 0) hx hb dX8_wrong_1 (by decide) ?_
  refine mp_md_thrown hx hb hts inw_X8_wrong_X8 hown hkx hw (hts _ (List.mem_of_getElem? (i := 1) rfl)) dX8_wrong_2 (fun σ_1 eσ_1 H locs hw => ?_)
  replace h := h σ_1 eσ_1
  refine lv_iload_n hx hb dX8_wrong_5 rfl (lv_at hl 1 rfl) ?_
  refine lv_iconst (v := 0) hx hb dX8_wrong_6 (by decide) ?_
  refine lv_aload_n hx hb dX8_wrong_7 rfl (lv_at hl 0 rfl) ?_
  refine mg_md_pages hx hb hts inw_X8_wrong_X8 hown hkx hw (hts _ (List.mem_of_getElem? (i := 2) rfl)) dX8_wrong_8 ?_
  refine lv_iconst (v := 1) hx hb dX8_wrong_11 (by decide) ?_
  refine lv_isub hx hb dX8_wrong_12 ?_
  refine call_S0i (As := [.int x1, .int (0 : Int32), .int ((σ_1 0 0) - (1 : Int32))]) ⟨hx, hb, hml, hown, hts⟩ hkx hw hA (c_X8_in l D cy x1 (0 : Int32) ((σ_1 0 0) - (1 : Int32)) _ h) (va_cwS 3 hts gX8_wrong_X8_in rfl rfl rfl hd_X8_in ⟨Nat.le_of_ble_eq_true rfl, Nat.le_of_ble_eq_true rfl⟩) rfl hl.1 rfl (Nat.le_of_ble_eq_true rfl) dX8_wrong_13 ⟨Nat.zero_le _, Nat.zero_le _⟩ (fun r_2 H locs h hw => ?_)
  refine lv_if_ne (tgt := 21) hx hb dX8_wrong_16 (by decide) (fun c_3 => ?_) (fun c_3 => ?_)
  · replace h := h.1 c_3
    refine lv_aload_n hx hb dX8_wrong_21 rfl (lv_at hl 0 rfl) ?_
    refine md_Vv (As := []) ⟨hx, hb, hml, hown, hts⟩ hkx hw hA (c_X8_find l D cy ad σ_1 _ h) (cwV 0 hts gX8_wrong_X8_find rfl rfl rfl hd_X8_find ⟨Nat.le_of_ble_eq_true rfl, Nat.le_of_ble_eq_true rfl⟩) 0 8 rfl rfl rfl hl.1 rfl (Nat.le_of_ble_eq_true rfl) dX8_wrong_22 ⟨Nat.zero_le _, Nat.zero_le _⟩ (fun σ_4 H locs h hw => ?_)
    refine lv_aload_n hx hb dX8_wrong_25 rfl (lv_at hl 0 rfl) ?_
    refine lv_iload_n hx hb dX8_wrong_26 rfl (lv_at hl 1 rfl) ?_
    refine md_Vi (As := [.int x1]) ⟨hx, hb, hml, hown, hts⟩ hkx hw hA (c_X8_isWrong l D cy ad σ_4 x1 _ h) (cwV 1 hts gX8_wrong_X8_isWrong rfl rfl rfl hd_X8_isWrong ⟨Nat.le_of_ble_eq_true rfl, Nat.le_of_ble_eq_true rfl⟩) 0 8 rfl rfl rfl hl.1 rfl (Nat.le_of_ble_eq_true rfl) dX8_wrong_27 ⟨Nat.zero_le _, Nat.zero_le _⟩ (fun r_5 σ_6 H locs h hw => ?_)
    refine lv_if_eq (tgt := 37) hx hb dX8_wrong_30 (by decide) (fun c_7 => ?_) (fun c_7 => ?_)
    · replace h := h.1 c_7
      refine lv_iconst (v := 0) hx hb dX8_wrong_37 (by decide) ?_
      exact end_i (w1 := (mdU cy ad)) (u := σ_6) C0 hw h dX8_wrong_38
    · replace h := h.2 c_7
      refine lv_iconst (v := 1) hx hb dX8_wrong_33 (by decide) ?_
      refine lv_goto (tgt := 38) hx hb dX8_wrong_34 (by decide) ?_
      exact end_i (w1 := (mdU cy ad)) (u := σ_6) C0 hw h dX8_wrong_38
  · replace h := h.2 c_3
    refine lv_iconst (v := -1) hx hb dX8_wrong_19 (by decide) ?_
    exact end_i (w1 := (mdU cy ad)) (u := σ_1) C0 hw h dX8_wrong_20
end
