theorem hd_X7_of : yX7_of.cls = RX7 ∧ yX7_of.cls ≠ "java/lang/invoke/MethodHandle" ∧ yX7_of.cls ≠ "java/lang/invoke/VarHandle" ∧ (parseMethodDescriptor yX7_of.desc).map (fun d => d.parameters.length) = some 2 := by decide +kernel
section
abbrev rm_X7_of : Room := { frames := 7, cells := 1, slots := 6, locals := 182 }
theorem inw_X7_of_X7 : ∀ w ∈ u_ws RX7 TX7 9, w ∈ wsX7_of := fun _ h => List.mem_cons_of_mem _ (List.mem_append_left _ (List.mem_append_left _ (List.mem_append_left _ (List.mem_append_left _ (List.mem_append_left _ (List.mem_append_left _ (List.mem_append_left _ (List.mem_append_right _ h))))))))
theorem inw_X7_of_X1 : ∀ w ∈ u_ws RX1 TX1 9, w ∈ wsX7_of := fun _ h => List.mem_cons_of_mem _ (List.mem_append_left _ (List.mem_append_left _ (List.mem_append_left _ (List.mem_append_left _ (List.mem_append_left _ (List.mem_append_left _ (List.mem_append_right _ h)))))))
theorem inw_X7_of_X2 : ∀ w ∈ u_ws RX2 TX2 15, w ∈ wsX7_of := fun _ h => List.mem_cons_of_mem _ (List.mem_append_left _ (List.mem_append_left _ (List.mem_append_left _ (List.mem_append_right _ h))))
theorem inw_X7_of_X3 : ∀ w ∈ u_ws RX3 TX3 2, w ∈ wsX7_of := fun _ h => List.mem_cons_of_mem _ (List.mem_append_left _ (List.mem_append_left _ (List.mem_append_left _ (List.mem_append_left _ (List.mem_append_right _ h)))))
theorem inw_X7_of_X6 : ∀ w ∈ u_ws RX6 TX6 15, w ∈ wsX7_of := fun _ h => List.mem_cons_of_mem _ (List.mem_append_left _ (List.mem_append_left _ (List.mem_append_left _ (List.mem_append_left _ (List.mem_append_left _ (List.mem_append_right _ h))))))
def wp_X7_of (x1 : Int32) (x2 : Int32) (σ : Sg) (τ : Tg) (post : Int32 → Sg → Tg → Prop) (postX : Sg → Tg → Prop) : Prop :=
    wp_X1_has x1 σ τ (fun r_1 σ_2 τ_3 =>
    (¬ r_1 = 0 →
    (x2 = (0 : Int32) →
    vp_in x1 20 ∧
    post (σ_2 19 x1.toNatClampNeg) σ_2 τ_3) ∧
    (x2 = (1 : Int32) →
    wp_X1_look x1 σ_2 τ_3 (fun r_7 σ_8 τ_9 =>
    post r_7 σ_8 τ_9)) ∧
    (x2 = (2 : Int32) →
    wp_X7_freshTree σ_2 τ_3 (fun σ_10 τ_11 =>
    vp_in x1 20 ∧
    ((σ_10 27 x1.toNatClampNeg) = 0 →
    post (0 : Int32) σ_10 τ_11) ∧
    (¬ (σ_10 27 x1.toNatClampNeg) = 0 →
    post (1 : Int32) σ_10 τ_11))) ∧
    (x2 = (3 : Int32) →
    wp_X7_freshTree σ_2 τ_3 (fun σ_14 τ_15 =>
    vp_in x1 20 ∧
    post (σ_14 28 x1.toNatClampNeg) σ_14 τ_15)) ∧
    (x2 = (4 : Int32) →
    vp_in x1 20 ∧
    post (σ_2 25 x1.toNatClampNeg) σ_2 τ_3) ∧
    (x2 = (5 : Int32) →
    wp_X7_freshTree σ_2 τ_3 (fun σ_18 τ_19 =>
    wp_X6_lastPage x1 ((σ_18 4 0) - (1 : Int32)) σ_18 τ_19 (fun r_20 σ_21 τ_22 =>
    post r_20 σ_21 τ_22))) ∧
    (x2 = (6 : Int32) →
    wp_X7_freshListing σ_2 τ_3 (fun σ_23 τ_24 =>
    vp_in x1 20 ∧
    post (σ_23 39 x1.toNatClampNeg) σ_23 τ_24)) ∧
    (x2 = (7 : Int32) →
    wp_X7_freshTree σ_2 τ_3 (fun σ_26 τ_27 =>
    wp_X6_headAbove x1 σ_26 τ_27 (fun r_28 σ_29 τ_30 =>
    post r_28 σ_29 τ_30))) ∧
    ((x2.toInt < 0 ∨ 7 < x2.toInt) →
    postX σ_2 τ_3)) ∧
    (r_1 = 0 →
    postX σ_2 τ_3))
set_option maxHeartbeats 4000000 in
set_option maxRecDepth 100000 in
theorem c_X7_of (l : Launch) (hst : l.stackTraces = false) (D : va_G) (cy : Nat → ClassId) (ad κ : Nat → Nat) (σ : Sg) (τ : Tg) (x1 : Int32) (x2 : Int32) (post : Int32 → Sg → Tg → Prop) (postX : Sg → Tg → Prop) (h : wp_X7_of x1 x2 σ τ post postX) : CtX l yX7_of wsX7_of rm_X7_of D cy [.ref (ad 0), .int x1, .int x2] (cfW cy ad κ σ τ) 1 6 (Ri D (cfU cy ad) (fun r u => post r u.2.1 u.2.2)) (Rx D (cfU cy ad) (fun u => postX u.2.1 u.2.2)) := by
  refine CtX.of (cc := cX7_of) (maxL := 3) (rt := (some .int)) (by decide) rfl (Nat.le_of_ble_eq_true rfl) ?_
  intro p e s m below meth c A C0 ht hxk hxz _ H locs ls hw hl
  obtain ⟨⟨hx, hb, hml, hown, hts⟩, hr, hlocks, hkx, hA⟩ := id C0
  have hl : lv_has ls 3 [(0, .ref (ad 0)), (1, .int x1), (2, .int x2)] := hl
  unfold wp_X7_of at h
  refine lv_aload_n hx hb dX7_of_0 rfl (lv_at hl 0 rfl) ?_
  refine cg_cf_lines hx hb hts inw_X7_of_X7 hown hkx hw (hts _ (List.mem_of_getElem? (i := 3) rfl)) dX7_of_1 ?_
  refine lv_iload_n hx hb dX7_of_4 rfl (lv_at hl 1 rfl) ?_
  refine cf_Vi (As := [.int x1]) ⟨hx, hb, hml, hown, hts⟩ hkx hw hA (c_X1_has l D cy ad κ σ τ x1 _ h) (cwV 1 hts gX7_of_X1_has rfl rfl rfl hd_X1_has ⟨Nat.le_of_ble_eq_true rfl, Nat.le_of_ble_eq_true rfl⟩) 3 1 rfl rfl rfl hl.1 rfl (Nat.le_of_ble_eq_true rfl) dX7_of_5 ⟨Nat.zero_le _, Nat.zero_le _⟩ (fun r_1 κ σ_2 τ_3 H locs h hw => ?_)
  refine lv_if_ne (tgt := 21) hx hb dX7_of_8 (by decide) (fun c_4 => ?_) (fun c_4 => ?_)
  · replace h := h.1 c_4
    refine lv_iload_n hx hb dX7_of_21 rfl (lv_at hl 2 rfl) ?_
    refine sw_all (x := x2) 7 (by decide) (fun k_5 hk_5 ek_5 => ?_) (fun hk_5 => ?_)
    · rcases (show k_5 = 0 ∨ k_5 = 1 ∨ k_5 = 2 ∨ k_5 = 3 ∨ k_5 = 4 ∨ k_5 = 5 ∨ k_5 = 6 ∨ k_5 = 7 by omega) with rfl | rfl | rfl | rfl | rfl | rfl | rfl | rfl
      · replace h := h.1 ek_5
        refine lv_tableIn (tgt := 68) hx hb dX7_of_22 (by rw [ek_5]; decide) (by rw [ek_5]; decide) (off := 46) (by rw [ek_5]; rfl) (by decide) ?_
        refine lv_aload_n hx hb dX7_of_68 rfl (lv_at hl 0 rfl) ?_
        refine cg_cf_lines hx hb hts inw_X7_of_X7 hown hkx hw (hts _ (List.mem_of_getElem? (i := 3) rfl)) dX7_of_69 ?_
        refine cg_ln_page hx hb hts inw_X7_of_X1 hown hkx hw (hts _ (List.mem_of_getElem? (i := 4) rfl)) dX7_of_72 ?_
        refine lv_iload_n hx hb dX7_of_75 rfl (lv_at hl 1 rfl) ?_
        obtain ⟨b_6, h⟩ := h
        refine ca_page hx hb hkx hw b_6 dX7_of_76 ?_
        exact W.widen (k := 1) (n := 6) (Nat.zero_le _) (Nat.zero_le _) (vx_ret (end_i (w1 := (cfU cy ad)) (u := (κ, σ_2, τ_3)) C0 hw h dX7_of_77))
      · replace h := h.2.1 ek_5
        refine lv_tableIn (tgt := 78) hx hb dX7_of_22 (by rw [ek_5]; decide) (by rw [ek_5]; decide) (off := 56) (by rw [ek_5]; rfl) (by decide) ?_
        refine lv_aload_n hx hb dX7_of_78 rfl (lv_at hl 0 rfl) ?_
        refine cg_cf_lines hx hb hts inw_X7_of_X7 hown hkx hw (hts _ (List.mem_of_getElem? (i := 3) rfl)) dX7_of_79 ?_
        refine lv_iload_n hx hb dX7_of_82 rfl (lv_at hl 1 rfl) ?_
        refine cf_Vi (As := [.int x1]) ⟨hx, hb, hml, hown, hts⟩ hkx hw hA (c_X1_look l D cy ad κ σ_2 τ_3 x1 _ h) (cwV 1 hts gX7_of_X1_look rfl rfl rfl hd_X1_look ⟨Nat.le_of_ble_eq_true rfl, Nat.le_of_ble_eq_true rfl⟩) 3 1 rfl rfl rfl hl.1 rfl (Nat.le_of_ble_eq_true rfl) dX7_of_83 ⟨Nat.zero_le _, Nat.zero_le _⟩ (fun r_7 κ σ_8 τ_9 H locs h hw => ?_)
        exact W.widen (k := 1) (n := 6) (Nat.zero_le _) (Nat.zero_le _) (vx_ret (end_i (w1 := (cfU cy ad)) (u := (κ, σ_8, τ_9)) C0 hw h dX7_of_86))
      · replace h := h.2.2.1 ek_5
        refine lv_tableIn (tgt := 87) hx hb dX7_of_22 (by rw [ek_5]; decide) (by rw [ek_5]; decide) (off := 65) (by rw [ek_5]; rfl) (by decide) ?_
        refine lv_aload_n hx hb dX7_of_87 rfl (lv_at hl 0 rfl) ?_
        refine cf_Vr (As := []) ⟨hx, hb, hml, hown, hts⟩ hkx hw hA (c_X7_freshTree l D cy ad κ σ_2 τ_3 _ h) (cwV 0 hts gX7_of_X7_freshTree rfl rfl rfl hd_X7_freshTree ⟨Nat.le_of_ble_eq_true rfl, Nat.le_of_ble_eq_true rfl⟩) 0 7 rfl rfl rfl hl.1 rfl (Nat.le_of_ble_eq_true rfl) dX7_of_88 ⟨Nat.zero_le _, Nat.zero_le _⟩ (fun κ σ_10 τ_11 H locs h hw => ?_)
        refine cg_tr_running hx hb hts inw_X7_of_X6 hown hkx hw (hts _ (List.mem_of_getElem? (i := 5) rfl)) dX7_of_91 ?_
        refine lv_iload_n hx hb dX7_of_94 rfl (lv_at hl 1 rfl) ?_
        obtain ⟨b_12, h⟩ := h
        refine ca_running hx hb hkx hw b_12 dX7_of_95 ?_
        refine lv_if_eq (tgt := 103) hx hb dX7_of_96 (by decide) (fun c_13 => ?_) (fun c_13 => ?_)
        · replace h := h.1 c_13
          refine lv_iconst (v := 0) hx hb dX7_of_103 (by decide) ?_
          exact W.widen (k := 1) (n := 6) (Nat.zero_le _) (Nat.zero_le _) (vx_ret (end_i (w1 := (cfU cy ad)) (u := (κ, σ_10, τ_11)) C0 hw h dX7_of_104))
        · replace h := h.2 c_13
          refine lv_iconst (v := 1) hx hb dX7_of_99 (by decide) ?_
          refine lv_goto (tgt := 104) hx hb dX7_of_100 (by decide) ?_
          exact W.widen (k := 1) (n := 6) (Nat.zero_le _) (Nat.zero_le _) (vx_ret (end_i (w1 := (cfU cy ad)) (u := (κ, σ_10, τ_11)) C0 hw h dX7_of_104))
      · replace h := h.2.2.2.1 ek_5
        refine lv_tableIn (tgt := 105) hx hb dX7_of_22 (by rw [ek_5]; decide) (by rw [ek_5]; decide) (off := 83) (by rw [ek_5]; rfl) (by decide) ?_
        refine lv_aload_n hx hb dX7_of_105 rfl (lv_at hl 0 rfl) ?_
        refine cf_Vr (As := []) ⟨hx, hb, hml, hown, hts⟩ hkx hw hA (c_X7_freshTree l D cy ad κ σ_2 τ_3 _ h) (cwV 0 hts gX7_of_X7_freshTree rfl rfl rfl hd_X7_freshTree ⟨Nat.le_of_ble_eq_true rfl, Nat.le_of_ble_eq_true rfl⟩) 0 7 rfl rfl rfl hl.1 rfl (Nat.le_of_ble_eq_true rfl) dX7_of_106 ⟨Nat.zero_le _, Nat.zero_le _⟩ (fun κ σ_14 τ_15 H locs h hw => ?_)
        refine cg_tr_levels hx hb hts inw_X7_of_X6 hown hkx hw (hts _ (List.mem_of_getElem? (i := 6) rfl)) dX7_of_109 ?_
        refine lv_iload_n hx hb dX7_of_112 rfl (lv_at hl 1 rfl) ?_
        obtain ⟨b_16, h⟩ := h
        refine ca_levels hx hb hkx hw b_16 dX7_of_113 ?_
        exact W.widen (k := 1) (n := 6) (Nat.zero_le _) (Nat.zero_le _) (vx_ret (end_i (w1 := (cfU cy ad)) (u := (κ, σ_14, τ_15)) C0 hw h dX7_of_114))
      · replace h := h.2.2.2.2.1 ek_5
        refine lv_tableIn (tgt := 115) hx hb dX7_of_22 (by rw [ek_5]; decide) (by rw [ek_5]; decide) (off := 93) (by rw [ek_5]; rfl) (by decide) ?_
        refine lv_aload_n hx hb dX7_of_115 rfl (lv_at hl 0 rfl) ?_
        refine cg_cf_lines hx hb hts inw_X7_of_X7 hown hkx hw (hts _ (List.mem_of_getElem? (i := 3) rfl)) dX7_of_116 ?_
        refine cg_ln_parts hx hb hts inw_X7_of_X1 hown hkx hw (hts _ (List.mem_of_getElem? (i := 7) rfl)) dX7_of_119 ?_
        refine lv_iload_n hx hb dX7_of_122 rfl (lv_at hl 1 rfl) ?_
        obtain ⟨b_17, h⟩ := h
        refine ca_parts hx hb hkx hw b_17 dX7_of_123 ?_
        exact W.widen (k := 1) (n := 6) (Nat.zero_le _) (Nat.zero_le _) (vx_ret (end_i (w1 := (cfU cy ad)) (u := (κ, σ_2, τ_3)) C0 hw h dX7_of_124))
      · replace h := h.2.2.2.2.2.1 ek_5
        refine lv_tableIn (tgt := 125) hx hb dX7_of_22 (by rw [ek_5]; decide) (by rw [ek_5]; decide) (off := 103) (by rw [ek_5]; rfl) (by decide) ?_
        refine lv_aload_n hx hb dX7_of_125 rfl (lv_at hl 0 rfl) ?_
        refine cf_Vr (As := []) ⟨hx, hb, hml, hown, hts⟩ hkx hw hA (c_X7_freshTree l D cy ad κ σ_2 τ_3 _ h) (cwV 0 hts gX7_of_X7_freshTree rfl rfl rfl hd_X7_freshTree ⟨Nat.le_of_ble_eq_true rfl, Nat.le_of_ble_eq_true rfl⟩) 0 7 rfl rfl rfl hl.1 rfl (Nat.le_of_ble_eq_true rfl) dX7_of_126 ⟨Nat.zero_le _, Nat.zero_le _⟩ (fun κ σ_18 τ_19 H locs h hw => ?_)
        refine lv_iload_n hx hb dX7_of_129 rfl (lv_at hl 1 rfl) ?_
        refine lv_aload_n hx hb dX7_of_130 rfl (lv_at hl 0 rfl) ?_
        refine cg_cf_pages hx hb hts inw_X7_of_X7 hown hkx hw (hts _ (List.mem_of_getElem? (i := 8) rfl)) dX7_of_131 ?_
        refine cg_pg_count hx hb hts inw_X7_of_X3 hown hkx hw (hts _ (List.mem_of_getElem? (i := 9) rfl)) dX7_of_134 ?_
        refine lv_iconst (v := 1) hx hb dX7_of_137 (by decide) ?_
        refine lv_isub hx hb dX7_of_138 ?_
        refine cf_Vi (As := [.int x1, .int ((σ_18 4 0) - (1 : Int32))]) ⟨hx, hb, hml, hown, hts⟩ hkx hw hA (c_X6_lastPage l D cy ad κ σ_18 τ_19 x1 ((σ_18 4 0) - (1 : Int32)) _ h) (cwV 2 hts gX7_of_X6_lastPage rfl rfl rfl hd_X6_lastPage ⟨Nat.le_of_ble_eq_true rfl, Nat.le_of_ble_eq_true rfl⟩) 4 6 rfl rfl rfl hl.1 rfl (Nat.le_of_ble_eq_true rfl) dX7_of_139 ⟨Nat.zero_le _, Nat.zero_le _⟩ (fun r_20 κ σ_21 τ_22 H locs h hw => ?_)
        exact W.widen (k := 1) (n := 6) (Nat.zero_le _) (Nat.zero_le _) (vx_ret (end_i (w1 := (cfU cy ad)) (u := (κ, σ_21, τ_22)) C0 hw h dX7_of_142))
      · replace h := h.2.2.2.2.2.2.1 ek_5
        refine lv_tableIn (tgt := 143) hx hb dX7_of_22 (by rw [ek_5]; decide) (by rw [ek_5]; decide) (off := 121) (by rw [ek_5]; rfl) (by decide) ?_
        refine lv_aload_n hx hb dX7_of_143 rfl (lv_at hl 0 rfl) ?_
        refine cf_Vr (As := []) ⟨hx, hb, hml, hown, hts⟩ hkx hw hA (c_X7_freshListing l D cy ad κ σ_2 τ_3 _ h) (cwV 0 hts gX7_of_X7_freshListing rfl rfl rfl hd_X7_freshListing ⟨Nat.le_of_ble_eq_true rfl, Nat.le_of_ble_eq_true rfl⟩) 0 7 rfl rfl rfl hl.1 rfl (Nat.le_of_ble_eq_true rfl) dX7_of_144 ⟨Nat.zero_le _, Nat.zero_le _⟩ (fun κ σ_23 τ_24 H locs h hw => ?_)
        refine cg_li_partnerOfLine hx hb hts inw_X7_of_X2 hown hkx hw (hts _ (List.mem_of_getElem? (i := 10) rfl)) dX7_of_147 ?_
        refine lv_iload_n hx hb dX7_of_150 rfl (lv_at hl 1 rfl) ?_
        obtain ⟨b_25, h⟩ := h
        refine ca_pol hx hb hkx hw b_25 dX7_of_151 ?_
        exact W.widen (k := 1) (n := 6) (Nat.zero_le _) (Nat.zero_le _) (vx_ret (end_i (w1 := (cfU cy ad)) (u := (κ, σ_23, τ_24)) C0 hw h dX7_of_152))
      · replace h := h.2.2.2.2.2.2.2.1 ek_5
        refine lv_tableIn (tgt := 153) hx hb dX7_of_22 (by rw [ek_5]; decide) (by rw [ek_5]; decide) (off := 131) (by rw [ek_5]; rfl) (by decide) ?_
        refine lv_aload_n hx hb dX7_of_153 rfl (lv_at hl 0 rfl) ?_
        refine cf_Vr (As := []) ⟨hx, hb, hml, hown, hts⟩ hkx hw hA (c_X7_freshTree l D cy ad κ σ_2 τ_3 _ h) (cwV 0 hts gX7_of_X7_freshTree rfl rfl rfl hd_X7_freshTree ⟨Nat.le_of_ble_eq_true rfl, Nat.le_of_ble_eq_true rfl⟩) 0 7 rfl rfl rfl hl.1 rfl (Nat.le_of_ble_eq_true rfl) dX7_of_154 ⟨Nat.zero_le _, Nat.zero_le _⟩ (fun κ σ_26 τ_27 H locs h hw => ?_)
        refine lv_iload_n hx hb dX7_of_157 rfl (lv_at hl 1 rfl) ?_
        refine cf_Vi (As := [.int x1]) ⟨hx, hb, hml, hown, hts⟩ hkx hw hA (c_X6_headAbove l D cy ad κ σ_26 τ_27 x1 _ h) (cwV 1 hts gX7_of_X6_headAbove rfl rfl rfl hd_X6_headAbove ⟨Nat.le_of_ble_eq_true rfl, Nat.le_of_ble_eq_true rfl⟩) 4 6 rfl rfl rfl hl.1 rfl (Nat.le_of_ble_eq_true rfl) dX7_of_158 ⟨Nat.zero_le _, Nat.zero_le _⟩ (fun r_28 κ σ_29 τ_30 H locs h hw => ?_)
        exact W.widen (k := 1) (n := 6) (Nat.zero_le _) (Nat.zero_le _) (vx_ret (end_i (w1 := (cfU cy ad)) (u := (κ, σ_29, τ_30)) C0 hw h dX7_of_161))
    · replace h := h.2.2.2.2.2.2.2.2 hk_5
      refine lv_tableOut (tgt := 162) hx hb dX7_of_22 hk_5 (by decide) ?_
      obtain ⟨sa_31, hstr⟩ := hxk.2.2.2.2.2.1
      exact x_throw (w1 := (cfU cy ad)) (u := (κ, σ_2, τ_3)) C0 hst ht hxk hxz (fun w h => hts w (List.mem_cons_of_mem _ (List.mem_append_right _ h))) (hts _ (List.mem_of_getElem? (i := 1) rfl)) (hts _ (List.mem_of_getElem? (i := 2) rfl)) hstr hw hl.1 dX7_of_162 dX7_of_165 dX7_of_166 dX7_of_168 dX7_of_171 (by decide) (by decide) (by decide) (by decide) h
  · replace h := h.2 c_4
    obtain ⟨sa_32, hstr⟩ := hxk.2.2.2.2.1
    exact x_throw (w1 := (cfU cy ad)) (u := (κ, σ_2, τ_3)) C0 hst ht hxk hxz (fun w h => hts w (List.mem_cons_of_mem _ (List.mem_append_right _ h))) (hts _ (List.mem_of_getElem? (i := 1) rfl)) (hts _ (List.mem_of_getElem? (i := 2) rfl)) hstr hw hl.1 dX7_of_11 dX7_of_14 dX7_of_15 dX7_of_17 dX7_of_20 (by decide) (by decide) (by decide) (by decide) h
end
theorem hd_X7_shift : yX7_shift.cls = RX7 ∧ yX7_shift.cls ≠ "java/lang/invoke/MethodHandle" ∧ yX7_shift.cls ≠ "java/lang/invoke/VarHandle" ∧ (parseMethodDescriptor yX7_shift.desc).map (fun d => d.parameters.length) = some 1 := by decide +kernel
section
abbrev rm_X7_shift : Room := { frames := 6, cells := 1, slots := 6, locals := 136 }
theorem inw_X7_shift_X7 : ∀ w ∈ u_ws RX7 TX7 9, w ∈ wsX7_shift := fun _ h => List.mem_cons_of_mem _ (List.mem_append_left _ (List.mem_append_left _ (List.mem_append_left _ (List.mem_append_left _ (List.mem_append_right _ h)))))
theorem inw_X7_shift_X5 : ∀ w ∈ u_ws RX5 TX5 10, w ∈ wsX7_shift := fun _ h => List.mem_cons_of_mem _ (List.mem_append_left _ (List.mem_append_left _ (List.mem_append_left _ (List.mem_append_right _ h))))
def wp_X7_shift (x1 : Int32) (σ : Sg) (τ : Tg) (post : Int32 → Sg → Tg → Prop) (postX : Sg → Tg → Prop) : Prop :=
    wp_X3_has x1 σ τ (fun r_1 σ_2 τ_3 =>
    (¬ r_1 = 0 →
    wp_X7_freshShifts σ_2 τ_3 (fun σ_5 τ_6 =>
    vp_in x1 60 ∧
    post (σ_5 42 x1.toNatClampNeg) σ_5 τ_6)) ∧
    (r_1 = 0 →
    postX σ_2 τ_3))
set_option maxHeartbeats 4000000 in
set_option maxRecDepth 100000 in
theorem c_X7_shift (l : Launch) (hst : l.stackTraces = false) (D : va_G) (cy : Nat → ClassId) (ad κ : Nat → Nat) (σ : Sg) (τ : Tg) (x1 : Int32) (post : Int32 → Sg → Tg → Prop) (postX : Sg → Tg → Prop) (h : wp_X7_shift x1 σ τ post postX) : CtX l yX7_shift wsX7_shift rm_X7_shift D cy [.ref (ad 0), .int x1] (cfW cy ad κ σ τ) 1 6 (Ri D (cfU cy ad) (fun r u => post r u.2.1 u.2.2)) (Rx D (cfU cy ad) (fun u => postX u.2.1 u.2.2)) := by
  refine CtX.of (cc := cX7_shift) (maxL := 2) (rt := (some .int)) (by decide) rfl (Nat.le_of_ble_eq_true rfl) ?_
  intro p e s m below meth c A C0 ht hxk hxz _ H locs ls hw hl
  obtain ⟨⟨hx, hb, hml, hown, hts⟩, hr, hlocks, hkx, hA⟩ := id C0
  have hl : lv_has ls 2 [(0, .ref (ad 0)), (1, .int x1)] := hl
  unfold wp_X7_shift at h
  refine lv_aload_n hx hb dX7_shift_0 rfl (lv_at hl 0 rfl) ?_
  refine cg_cf_pages hx hb hts inw_X7_shift_X7 hown hkx hw (hts _ (List.mem_of_getElem? (i := 3) rfl)) dX7_shift_1 ?_
  refine lv_iload_n hx hb dX7_shift_4 rfl (lv_at hl 1 rfl) ?_
  refine cf_Vi (As := [.int x1]) ⟨hx, hb, hml, hown, hts⟩ hkx hw hA (c_X3_has l D cy ad κ σ τ x1 _ h) (cwV 1 hts gX7_shift_X3_has rfl rfl rfl hd_X3_has ⟨Nat.le_of_ble_eq_true rfl, Nat.le_of_ble_eq_true rfl⟩) 2 3 rfl rfl rfl hl.1 rfl (Nat.le_of_ble_eq_true rfl) dX7_shift_5 ⟨Nat.zero_le _, Nat.zero_le _⟩ (fun r_1 κ σ_2 τ_3 H locs h hw => ?_)
  refine lv_if_ne (tgt := 21) hx hb dX7_shift_8 (by decide) (fun c_4 => ?_) (fun c_4 => ?_)
  · replace h := h.1 c_4
    refine lv_aload_n hx hb dX7_shift_21 rfl (lv_at hl 0 rfl) ?_
    refine cf_Vr (As := []) ⟨hx, hb, hml, hown, hts⟩ hkx hw hA (c_X7_freshShifts l D cy ad κ σ_2 τ_3 _ h) (cwV 0 hts gX7_shift_X7_freshShifts rfl rfl rfl hd_X7_freshShifts ⟨Nat.le_of_ble_eq_true rfl, Nat.le_of_ble_eq_true rfl⟩) 0 7 rfl rfl rfl hl.1 rfl (Nat.le_of_ble_eq_true rfl) dX7_shift_22 ⟨Nat.zero_le _, Nat.zero_le _⟩ (fun κ σ_5 τ_6 H locs h hw => ?_)
    refine cg_sh_shiftOfPage hx hb hts inw_X7_shift_X5 hown hkx hw (hts _ (List.mem_of_getElem? (i := 4) rfl)) dX7_shift_25 ?_
    refine lv_iload_n hx hb dX7_shift_28 rfl (lv_at hl 1 rfl) ?_
    obtain ⟨b_7, h⟩ := h
    refine ca_sop hx hb hkx hw b_7 dX7_shift_29 ?_
    exact W.widen (k := 1) (n := 6) (Nat.zero_le _) (Nat.zero_le _) (vx_ret (end_i (w1 := (cfU cy ad)) (u := (κ, σ_5, τ_6)) C0 hw h dX7_shift_30))
  · replace h := h.2 c_4
    obtain ⟨sa_8, hstr⟩ := hxk.2.2.2.2.2.2
    exact x_throw (w1 := (cfU cy ad)) (u := (κ, σ_2, τ_3)) C0 hst ht hxk hxz (fun w h => hts w (List.mem_cons_of_mem _ (List.mem_append_right _ h))) (hts _ (List.mem_of_getElem? (i := 1) rfl)) (hts _ (List.mem_of_getElem? (i := 2) rfl)) hstr hw hl.1 dX7_shift_11 dX7_shift_14 dX7_shift_15 dX7_shift_17 dX7_shift_20 (by decide) (by decide) (by decide) (by decide) h
end
