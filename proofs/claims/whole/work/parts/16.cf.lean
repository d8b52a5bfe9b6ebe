theorem hd_X7_allIsOld : yX7_allIsOld.cls = RX7 ∧ yX7_allIsOld.cls ≠ "java/lang/invoke/MethodHandle" ∧ yX7_allIsOld.cls ≠ "java/lang/invoke/VarHandle" ∧ (parseMethodDescriptor yX7_allIsOld.desc).map (fun d => d.parameters.length) = some 0 := by decide +kernel
section
variable {p : Program} {l : Launch} {e : Env} {s : State} {m : MethodId} {args : Array Value} {below : List Frame} {meth : Method} {c : Code} {D : va_G} {cy : Nat → ClassId} {A : Nat → Prop} {ad : Nat → Nat}
abbrev rm_X7_allIsOld : Room := { frames := 0, cells := 0, slots := 0, locals := 0 }
theorem inw_X7_allIsOld_X7 : ∀ w ∈ u_ws RX7 TX7 9, w ∈ wsX7_allIsOld := fun _ h => List.mem_cons_of_mem _ (List.mem_append_right _ h)
def wp_X7_allIsOld (σ : Sg) (τ : Tg) (post : Sg → Tg → Prop) : Prop :=
    ∀ σ_1 : Sg, σ_1 = va_up σ 0 (fun _ => (1 : Int32)) →
    ∀ σ_2 : Sg, σ_2 = va_up σ_1 1 (fun _ => (1 : Int32)) →
    ∀ σ_3 : Sg, σ_3 = va_up σ_2 2 (fun _ => (1 : Int32)) →
    post σ_3 τ
set_option maxHeartbeats 4000000 in
set_option maxRecDepth 100000 in
theorem c_X7_allIsOld (l : Launch) (D : va_G) (cy : Nat → ClassId) (ad κ : Nat → Nat) (σ : Sg) (τ : Tg) (post : Sg → Tg → Prop) (h : wp_X7_allIsOld σ τ post) : Ct l yX7_allIsOld wsX7_allIsOld rm_X7_allIsOld D cy [.ref (ad 0)] (cfW cy ad κ σ τ) 0 0 (Rv D (cfU cy ad) (fun u => post u.2.1 u.2.2)) := by
  refine Ct.of (cc := cX7_allIsOld) (maxL := 1) (rt := none) (by decide) rfl (Nat.le_of_ble_eq_true rfl) ?_
  intro p e s m below meth c A C0 _ H locs ls hw hl
  obtain ⟨⟨hx, hb, hml, hown, hts⟩, hr, hlocks, hkx, hA⟩ := id C0
  have hl : lv_has ls 1 [(0, .ref (ad 0))] := hl
  unfold wp_X7_allIsOld at h
  refine lv_aload_n hx hb dX7_allIsOld_0 rfl (lv_at hl 0 rfl) ?_
  refine lv_iconst (v := 1) hx hb dX7_allIsOld_1 (by decide) ?_
  refine cp_cf_treeIsOld hx hb hts inw_X7_allIsOld_X7 hown hkx hw (hts _ (List.mem_of_getElem? (i := 1) rfl)) (Or.inr rfl) dX7_allIsOld_2 (fun σ_1 eσ_1 H locs hw => ?_)
  replace h := h σ_1 eσ_1
  refine lv_aload_n hx hb dX7_allIsOld_5 rfl (lv_at hl 0 rfl) ?_
  refine lv_iconst (v := 1) hx hb dX7_allIsOld_6 (by decide) ?_
  refine cp_cf_listingIsOld hx hb hts inw_X7_allIsOld_X7 hown hkx hw (hts _ (List.mem_of_getElem? (i := 2) rfl)) (Or.inr rfl) dX7_allIsOld_7 (fun σ_2 eσ_2 H locs hw => ?_)
  replace h := h σ_2 eσ_2
  refine lv_aload_n hx hb dX7_allIsOld_10 rfl (lv_at hl 0 rfl) ?_
  refine lv_iconst (v := 1) hx hb dX7_allIsOld_11 (by decide) ?_
  refine cp_cf_shiftsAreOld hx hb hts inw_X7_allIsOld_X7 hown hkx hw (hts _ (List.mem_of_getElem? (i := 3) rfl)) (Or.inr rfl) dX7_allIsOld_12 (fun σ_3 eσ_3 H locs hw => ?_)
  replace h := h σ_3 eσ_3
  exact end_v (w1 := (cfU cy ad)) (u := (κ, σ_3, τ)) C0 hw h dX7_allIsOld_15
end
theorem hd_X7_book : yX7_book.cls = RX7 ∧ yX7_book.cls ≠ "java/lang/invoke/MethodHandle" ∧ yX7_book.cls ≠ "java/lang/invoke/VarHandle" ∧ (parseMethodDescriptor yX7_book.desc).map (fun d => d.parameters.length) = some 1 := by decide +kernel
section
variable {p : Program} {l : Launch} {e : Env} {s : State} {m : MethodId} {args : Array Value} {below : List Frame} {meth : Method} {c : Code} {D : va_G} {cy : Nat → ClassId} {A : Nat → Prop} {ad : Nat → Nat}
abbrev rm_X7_book : Room := { frames := 2, cells := 0, slots := 0, locals := 44 }
theorem inw_X7_book_X7 : ∀ w ∈ u_ws RX7 TX7 9, w ∈ wsX7_book := fun _ h => List.mem_cons_of_mem _ (List.mem_append_left _ (List.mem_append_left _ (List.mem_append_left _ (List.mem_append_right _ h))))
theorem inw_X7_book_X1 : ∀ w ∈ u_ws RX1 TX1 9, w ∈ wsX7_book := fun _ h => List.mem_cons_of_mem _ (List.mem_append_left _ (List.mem_append_left _ (List.mem_append_right _ h)))
theorem inw_X7_book_X2 : ∀ w ∈ u_ws RX2 TX2 15, w ∈ wsX7_book := fun _ h => List.mem_cons_of_mem _ (List.mem_append_left _ (List.mem_append_right _ h))
def wp_X7_book (x1 : Int32) (σ : Sg) (τ : Tg) (post : Int32 → Sg → Tg → Prop) : Prop :=
    wp_X7_isWithin x1 (1 : Int32) (60 : Int32) (fun r_1 =>
    (¬ r_1 = 0 →
    wp_X3_begin x1 σ τ (fun σ_3 τ_4 =>
    ∀ σ_5 : Sg, σ_5 = va_up σ_3 5 (fun _ => (0 : Int32)) →
    ∀ σ_6 : Sg, σ_6 = va_up σ_5 10 (fun _ => (0 : Int32)) →
    wp_X7_allIsOld σ_6 τ_4 (fun σ_7 τ_8 =>
    post (1 : Int32) σ_7 τ_8))) ∧
    (r_1 = 0 →
    post (0 : Int32) σ τ))
set_option maxHeartbeats 4000000 in
set_option maxRecDepth 100000 in
theorem c_X7_book (l : Launch) (D : va_G) (cy : Nat → ClassId) (ad κ : Nat → Nat) (σ : Sg) (τ : Tg) (x1 : Int32) (post : Int32 → Sg → Tg → Prop) (h : wp_X7_book x1 σ τ post) : Ct l yX7_book wsX7_book rm_X7_book D cy [.ref (ad 0), .int x1] (cfW cy ad κ σ τ) 0 0 (Ri D (cfU cy ad) (fun r u => post r u.2.1 u.2.2)) := by
  refine Ct.of (cc := cX7_book) (maxL := 2) (rt := (some .boolean)) (by decide) rfl (Nat.le_of_ble_eq_true rfl) ?_
  intro p e s m below meth c A C0 _ H locs ls hw hl
  obtain ⟨⟨hx, hb, hml, hown, hts⟩, hr, hlocks, hkx, hA⟩ := id C0
  have hl : lv_has ls 2 [(0, .ref (ad 0)), (1, .int x1)] := hl
  unfold wp_X7_book at h
  refine lv_iload_n hx hb dX7_book_0 rfl (lv_at hl 1 rfl) ?_
  refine lv_iconst (v := 1) hx hb dX7_book_1 (by decide) ?_
  refine lv_bipush (v := 60) hx hb dX7_book_2 (by decide) ?_
  refine call_S0i (As := [.int x1, .int (1 : Int32), .int (60 : Int32)]) ⟨hx, hb, hml, hown, hts⟩ hkx hw hA (c_X7_isWithin l D cy x1 (1 : Int32) (60 : Int32) _ h) (va_cwS 3 hts gX7_book_X7_isWithin rfl rfl rfl hd_X7_isWithin ⟨Nat.le_of_ble_eq_true rfl, Nat.le_of_ble_eq_true rfl⟩) rfl hl.1 rfl (Nat.le_of_ble_eq_true rfl) dX7_book_4 ⟨Nat.zero_le _, Nat.zero_le _⟩ (fun r_1 H locs h hw => ?_)
  refine lv_if_ne (tgt := 12) hx hb dX7_book_7 (by decide) (fun c_2 => ?_) (fun c_2 => ?_)
  · replace h := h.1 c_2
    refine lv_aload_n hx hb dX7_book_12 rfl (lv_at hl 0 rfl) ?_
    refine cg_cf_pages hx hb hts inw_X7_book_X7 hown hkx hw (hts _ (List.mem_of_getElem? (i := 1) rfl)) dX7_book_13 ?_
    refine lv_iload_n hx hb dX7_book_16 rfl (lv_at hl 1 rfl) ?_
    refine cf_Vv (As := [.int x1]) ⟨hx, hb, hml, hown, hts⟩ hkx hw hA (c_X3_begin l D cy ad κ σ τ x1 _ h) (cwV 1 hts gX7_book_X3_begin rfl rfl rfl hd_X3_begin ⟨Nat.le_of_ble_eq_true rfl, Nat.le_of_ble_eq_true rfl⟩) 2 3 rfl rfl rfl hl.1 rfl (Nat.le_of_ble_eq_true rfl) dX7_book_17 ⟨Nat.zero_le _, Nat.zero_le _⟩ (fun κ σ_3 τ_4 H locs h hw => ?_)
    refine lv_aload_n hx hb dX7_book_20 rfl (lv_at hl 0 rfl) ?_
    refine cg_cf_lines hx hb hts inw_X7_book_X7 hown hkx hw (hts _ (List.mem_of_getElem? (i := 2) rfl)) dX7_book_21 ?_
    refine lv_iconst (v := 0) hx hb dX7_book_24 (by decide) ?_
    refine cp_ln_count hx hb hts inw_X7_book_X1 hown hkx hw (hts _ (List.mem_of_getElem? (i := 3) rfl)) dX7_book_25 (fun σ_5 eσ_5 H locs hw => ?_)
    replace h := h σ_5 eσ_5
    refine lv_aload_n hx hb dX7_book_28 rfl (lv_at hl 0 rfl) ?_
    refine cg_cf_listing hx hb hts inw_X7_book_X7 hown hkx hw (hts _ (List.mem_of_getElem? (i := 4) rfl)) dX7_book_29 ?_
    refine lv_iconst (v := 0) hx hb dX7_book_32 (by decide) ?_
    refine cp_li_count hx hb hts inw_X7_book_X2 hown hkx hw (hts _ (List.mem_of_getElem? (i := 5) rfl)) dX7_book_33 (fun σ_6 eσ_6 H locs hw => ?_)
    replace h := h σ_6 eσ_6
    refine lv_aload_n hx hb dX7_book_36 rfl (lv_at hl 0 rfl) ?_
    refine cf_Vv (As := []) ⟨hx, hb, hml, hown, hts⟩ hkx hw hA (c_X7_allIsOld l D cy ad κ σ_6 τ_4 _ h) (cwV 0 hts gX7_book_X7_allIsOld rfl rfl rfl hd_X7_allIsOld ⟨Nat.le_of_ble_eq_true rfl, Nat.le_of_ble_eq_true rfl⟩) 0 7 rfl rfl rfl hl.1 rfl (Nat.le_of_ble_eq_true rfl) dX7_book_37 ⟨Nat.zero_le _, Nat.zero_le _⟩ (fun κ σ_7 τ_8 H locs h hw => ?_)
    refine lv_iconst (v := 1) hx hb dX7_book_40 (by decide) ?_
    exact end_z (w1 := (cfU cy ad)) (u := (κ, σ_7, τ_8)) C0 hw (Or.inr rfl) h dX7_book_41
  · replace h := h.2 c_2
    refine lv_iconst (v := 0) hx hb dX7_book_10 (by decide) ?_
    exact end_z (w1 := (cfU cy ad)) (u := (κ, σ, τ)) C0 hw (Or.inl rfl) h dX7_book_11
end
theorem hd_X7_read : yX7_read.cls = RX7 ∧ yX7_read.cls ≠ "java/lang/invoke/MethodHandle" ∧ yX7_read.cls ≠ "java/lang/invoke/VarHandle" ∧ (parseMethodDescriptor yX7_read.desc).map (fun d => d.parameters.length) = some 2 := by decide +kernel
section
variable {p : Program} {l : Launch} {e : Env} {s : State} {m : MethodId} {args : Array Value} {below : List Frame} {meth : Method} {c : Code} {D : va_G} {cy : Nat → ClassId} {A : Nat → Prop} {ad : Nat → Nat}
abbrev rm_X7_read : Room := { frames := 2, cells := 0, slots := 0, locals := 43 }
theorem inw_X7_read_X7 : ∀ w ∈ u_ws RX7 TX7 9, w ∈ wsX7_read := fun _ h => List.mem_cons_of_mem _ (List.mem_append_left _ (List.mem_append_right _ h))
theorem inw_X7_read_X3 : ∀ w ∈ u_ws RX3 TX3 2, w ∈ wsX7_read := fun _ h => List.mem_cons_of_mem _ (List.mem_append_right _ h)
def wp_X7_read (x1 : Int32) (x2 : Int32) (σ : Sg) (τ : Tg) (post : Int32 → Sg → Tg → Prop) : Prop :=
    wp_X3_has x1 σ τ (fun r_1 σ_2 τ_3 =>
    (r_1 = 0 →
    post (0 : Int32) σ_2 τ_3) ∧
    (¬ r_1 = 0 →
    wp_X7_isWithin x2 (0 : Int32) (999 : Int32) (fun r_5 =>
    (¬ r_5 = 0 →
    vp_in x1 60 ∧
    ∀ σ_8 : Sg, σ_8 = va_up σ_2 18 (upd (σ_2 18) x1.toNatClampNeg x2) →
    ∀ σ_9 : Sg, σ_9 = va_up σ_8 1 (fun _ => (1 : Int32)) →
    ∀ σ_10 : Sg, σ_10 = va_up σ_9 2 (fun _ => (1 : Int32)) →
    post (1 : Int32) σ_10 τ_3) ∧
    (r_5 = 0 →
    post (0 : Int32) σ_2 τ_3))))
set_option maxHeartbeats 4000000 in
set_option maxRecDepth 100000 in
theorem c_X7_read (l : Launch) (D : va_G) (cy : Nat → ClassId) (ad κ : Nat → Nat) (σ : Sg) (τ : Tg) (x1 : Int32) (x2 : Int32) (post : Int32 → Sg → Tg → Prop) (h : wp_X7_read x1 x2 σ τ post) : Ct l yX7_read wsX7_read rm_X7_read D cy [.ref (ad 0), .int x1, .int x2] (cfW cy ad κ σ τ) 0 0 (Ri D (cfU cy ad) (fun r u => post r u.2.1 u.2.2)) := by
  refine Ct.of (cc := cX7_read) (maxL := 3) (rt := (some .boolean)) (by decide) rfl (Nat.le_of_ble_eq_true rfl) ?_
  intro p e s m below meth c A C0 _ H locs ls hw hl
  obtain ⟨⟨hx, hb, hml, hown, hts⟩, hr, hlocks, hkx, hA⟩ := id C0
  have hl : lv_has ls 3 [(0, .ref (ad 0)), (1, .int x1), (2, .int x2)] := hl
  unfold wp_X7_read at h
  refine lv_aload_n hx hb dX7_read_0 rfl (lv_at hl 0 rfl) ?_
  refine cg_cf_pages hx hb hts inw_X7_read_X7 hown hkx hw (hts _ (List.mem_of_getElem? (i := 1) rfl)) dX7_read_1 ?_
  refine lv_iload_n hx hb dX7_read_4 rfl (lv_at hl 1 rfl) ?_
  refine cf_Vi (As := [.int x1]) ⟨hx, hb, hml, hown, hts⟩ hkx hw hA (c_X3_has l D cy ad κ σ τ x1 _ h) (cwV 1 hts gX7_read_X3_has rfl rfl rfl hd_X3_has ⟨Nat.le_of_ble_eq_true rfl, Nat.le_of_ble_eq_true rfl⟩) 2 3 rfl rfl rfl hl.1 rfl (Nat.le_of_ble_eq_true rfl) dX7_read_5 ⟨Nat.zero_le _, Nat.zero_le _⟩ (fun r_1 κ σ_2 τ_3 H locs h hw => ?_)
  refine lv_if_eq (tgt := 22) hx hb dX7_read_8 (by decide) (fun c_4 => ?_) (fun c_4 => ?_)
  · replace h := h.1 c_4
    refine lv_iconst (v := 0) hx hb dX7_read_22 (by decide) ?_
    exact end_z (w1 := (cfU cy ad)) (u := (κ, σ_2, τ_3)) C0 hw (Or.inl rfl) h dX7_read_23
  · replace h := h.2 c_4
    refine lv_iload_n hx hb dX7_read_11 rfl (lv_at hl 2 rfl) ?_
    refine lv_iconst (v := 0) hx hb dX7_read_12 (by decide) ?_
    refine lv_sipush (v := 999) hx hb dX7_read_13 (by decide) ?_
    refine call_S0i (As := [.int x2, .int (0 : Int32), .int (999 : Int32)]) ⟨hx, hb, hml, hown, hts⟩ hkx hw hA (c_X7_isWithin l D cy x2 (0 : Int32) (999 : Int32) _ h) (va_cwS 3 hts gX7_read_X7_isWithin rfl rfl rfl hd_X7_isWithin ⟨Nat.le_of_ble_eq_true rfl, Nat.le_of_ble_eq_true rfl⟩) rfl hl.1 rfl (Nat.le_of_ble_eq_true rfl) dX7_read_16 ⟨Nat.zero_le _, Nat.zero_le _⟩ (fun r_5 H locs h hw => ?_)
    refine lv_if_ne (tgt := 24) hx hb dX7_read_19 (by decide) (fun c_6 => ?_) (fun c_6 => ?_)
    · replace h := h.1 c_6
      refine lv_aload_n hx hb dX7_read_24 rfl (lv_at hl 0 rfl) ?_
      refine cg_cf_pages hx hb hts inw_X7_read_X7 hown hkx hw (hts _ (List.mem_of_getElem? (i := 1) rfl)) dX7_read_25 ?_
      refine cg_pg_readNumber hx hb hts inw_X7_read_X3 hown hkx hw (hts _ (List.mem_of_getElem? (i := 2) rfl)) dX7_read_28 ?_
      refine lv_iload_n hx hb dX7_read_31 rfl (lv_at hl 1 rfl) ?_
      refine lv_iload_n hx hb dX7_read_32 rfl (lv_at hl 2 rfl) ?_
      obtain ⟨b_7, h⟩ := h
      refine cs_readNumber hx hb hkx hw b_7 dX7_read_33 (fun σ_8 eσ_8 H locs hw => ?_)
      replace h := h σ_8 eσ_8
      refine lv_aload_n hx hb dX7_read_34 rfl (lv_at hl 0 rfl) ?_
      refine lv_iconst (v := 1) hx hb dX7_read_35 (by decide) ?_
      refine cp_cf_listingIsOld hx hb hts inw_X7_read_X7 hown hkx hw (hts _ (List.mem_of_getElem? (i := 3) rfl)) (Or.inr rfl) dX7_read_36 (fun σ_9 eσ_9 H locs hw => ?_)
      replace h := h σ_9 eσ_9
      refine lv_aload_n hx hb dX7_read_39 rfl (lv_at hl 0 rfl) ?_
      refine lv_iconst (v := 1) hx hb dX7_read_40 (by decide) ?_
      refine cp_cf_shiftsAreOld hx hb hts inw_X7_read_X7 hown hkx hw (hts _ (List.mem_of_getElem? (i := 4) rfl)) (Or.inr rfl) dX7_read_41 (fun σ_10 eσ_10 H locs hw => ?_)
      replace h := h σ_10 eσ_10
      refine lv_iconst (v := 1) hx hb dX7_read_44 (by decide) ?_
      exact end_z (w1 := (cfU cy ad)) (u := (κ, σ_10, τ_3)) C0 hw (Or.inr rfl) h dX7_read_45
    · replace h := h.2 c_6
      refine lv_iconst (v := 0) hx hb dX7_read_22 (by decide) ?_
      exact end_z (w1 := (cfU cy ad)) (u := (κ, σ_2, τ_3)) C0 hw (Or.inl rfl) h dX7_read_23
end
theorem hd_X7_line : yX7_line.cls = RX7 ∧ yX7_line.cls ≠ "java/lang/invoke/MethodHandle" ∧ yX7_line.cls ≠ "java/lang/invoke/VarHandle" ∧ (parseMethodDescriptor yX7_line.desc).map (fun d => d.parameters.length) = some 7 := by decide +kernel
section
variable {p : Program} {l : Launch} {e : Env} {s : State} {m : MethodId} {args : Array Value} {below : List Frame} {meth : Method} {c : Code} {D : va_G} {cy : Nat → ClassId} {A : Nat → Prop} {ad : Nat → Nat}
abbrev rm_X7_line : Room := { frames := 2, cells := 0, slots := 0, locals := 46 }
theorem inw_X7_line_X7 : ∀ w ∈ u_ws RX7 TX7 9, w ∈ wsX7_line := fun _ h => List.mem_cons_of_mem _ (List.mem_append_left _ (List.mem_append_left _ (List.mem_append_right _ h)))
theorem inw_X7_line_X1 : ∀ w ∈ u_ws RX1 TX1 9, w ∈ wsX7_line := fun _ h => List.mem_cons_of_mem _ (List.mem_append_left _ (List.mem_append_right _ h))
def wp_X7_line (x1 : Int32) (x2 : Int32) (x3 : Int32) (x4 : Int32) (x5 : Int32) (x6 : Int32) (x7 : Int32) (σ : Sg) (τ : Tg) (post : Int32 → Sg → Tg → Prop) : Prop :=
    wp_X3_has x1 σ τ (fun r_1 σ_2 τ_3 =>
    (r_1 = 0 →
    post (-1 : Int32) σ_2 τ_3) ∧
    (¬ r_1 = 0 →
    wp_X1_canFollow x1 σ_2 τ_3 (fun r_5 σ_6 τ_7 =>
    (¬ r_5 = 0 →
    wp_X7_isWithin x2 (0 : Int32) (9 : Int32) (fun r_9 =>
    (r_9 = 0 →
    post (-1 : Int32) σ_6 τ_7) ∧
    (¬ r_9 = 0 →
    wp_X7_isWithin x3 (0 : Int32) (9 : Int32) (fun r_11 =>
    (¬ r_11 = 0 →
    wp_X7_areWords x5 (fun r_13 =>
    (r_13 = 0 →
    post (-1 : Int32) σ_6 τ_7) ∧
    (¬ r_13 = 0 →
    wp_X7_areWords x6 (fun r_15 =>
    (r_15 = 0 →
    post (-1 : Int32) σ_6 τ_7) ∧
    (¬ r_15 = 0 →
    wp_X7_areNumbers x7 (fun r_17 =>
    (¬ r_17 = 0 →
    ∀ y_19 : Int32, y_19 = (σ_6 5 0) →
    vp_in y_19 20 ∧
    ∀ σ_21 : Sg, σ_21 = va_up σ_6 19 (upd (σ_6 19) y_19.toNatClampNeg x1) →
    vp_in y_19 20 ∧
    ∀ σ_23 : Sg, σ_23 = va_up σ_21 21 (upd (σ_21 21) y_19.toNatClampNeg x3) →
    vp_in y_19 20 ∧
    bz x4 ∧
    ∀ σ_26 : Sg, σ_26 = va_up σ_23 22 (upd (σ_23 22) y_19.toNatClampNeg x4) →
    vp_in y_19 20 ∧
    ∀ σ_28 : Sg, σ_28 = va_up σ_26 23 (upd (σ_26 23) y_19.toNatClampNeg x5) →
    vp_in y_19 20 ∧
    ∀ σ_30 : Sg, σ_30 = va_up σ_28 24 (upd (σ_28 24) y_19.toNatClampNeg x6) →
    wp_X1_putSizeAndNumbers y_19 x2 x7 σ_30 τ_7 (fun σ_31 τ_32 =>
    ∀ σ_33 : Sg, σ_33 = va_up σ_31 5 (fun _ => y_19 + (1 : Int32)) →
    ∀ σ_34 : Sg, σ_34 = va_up σ_33 0 (fun _ => (1 : Int32)) →
    post y_19 σ_34 τ_32)) ∧
    (r_17 = 0 →
    post (-1 : Int32) σ_6 τ_7))))))) ∧
    (r_11 = 0 →
    post (-1 : Int32) σ_6 τ_7))))) ∧
    (r_5 = 0 →
    post (-1 : Int32) σ_6 τ_7))))
set_option maxHeartbeats 4000000 in
set_option maxRecDepth 100000 in
theorem c_X7_line (l : Launch) (D : va_G) (cy : Nat → ClassId) (ad κ : Nat → Nat) (σ : Sg) (τ : Tg) (x1 : Int32) (x2 : Int32) (x3 : Int32) (x4 : Int32) (x5 : Int32) (x6 : Int32) (x7 : Int32) (post : Int32 → Sg → Tg → Prop) (h : wp_X7_line x1 x2 x3 x4 x5 x6 x7 σ τ post) : Ct l yX7_line wsX7_line rm_X7_line D cy [.ref (ad 0), .int x1, .int x2, .int x3, .int x4, .int x5, .int x6, .int x7] (cfW cy ad κ σ τ) 0 0 (Ri D (cfU cy ad) (fun r u => post r u.2.1 u.2.2)) := by
  refine Ct.of (cc := cX7_line) (maxL := 9) (rt := (some .int)) (by decide) rfl (Nat.le_of_ble_eq_true rfl) ?_
  intro p e s m below meth c A C0 _ H locs ls hw hl
  obtain ⟨⟨hx, hb, hml, hown, hts⟩, hr, hlocks, hkx, hA⟩ := id C0
  have hl : lv_has ls 9 [(0, .ref (ad 0)), (1, .int x1), (2, .int x2), (3, .int x3), (4, .int x4), (5, .int x5), (6, .int x6), (7, .int x7)] := hl
  unfold wp_X7_line at h
  refine lv_aload_n hx hb dX7_line_0 rfl (lv_at hl 0 rfl) ?_
  refine cg_cf_pages hx hb hts inw_X7_line_X7 hown hkx hw (hts _ (List.mem_of_getElem? (i := 1) rfl)) dX7_line_1 ?_
  refine lv_iload_n hx hb dX7_line_4 rfl (lv_at hl 1 rfl) ?_
  refine cf_Vi (As := [.int x1]) ⟨hx, hb, hml, hown, hts⟩ hkx hw hA (c_X3_has l D cy ad κ σ τ x1 _ h) (cwV 1 hts gX7_line_X3_has rfl rfl rfl hd_X3_has ⟨Nat.le_of_ble_eq_true rfl, Nat.le_of_ble_eq_true rfl⟩) 2 3 rfl rfl rfl hl.1 rfl (Nat.le_of_ble_eq_true rfl) dX7_line_5 ⟨Nat.zero_le _, Nat.zero_le _⟩ (fun r_1 κ σ_2 τ_3 H locs h hw => ?_)
  refine lv_if_eq (tgt := 22) hx hb dX7_line_8 (by decide) (fun c_4 => ?_) (fun c_4 => ?_)
  · replace h := h.1 c_4
    refine lv_iconst (v := -1) hx hb dX7_line_22 (by decide) ?_
    exact end_i (w1 := (cfU cy ad)) (u := (κ, σ_2, τ_3)) C0 hw h dX7_line_23
  · replace h := h.2 c_4
    refine lv_aload_n hx hb dX7_line_11 rfl (lv_at hl 0 rfl) ?_
    refine cg_cf_lines hx hb hts inw_X7_line_X7 hown hkx hw (hts _ (List.mem_of_getElem? (i := 2) rfl)) dX7_line_12 ?_
    refine lv_iload_n hx hb dX7_line_15 rfl (lv_at hl 1 rfl) ?_
    refine cf_Vi (As := [.int x1]) ⟨hx, hb, hml, hown, hts⟩ hkx hw hA (c_X1_canFollow l D cy ad κ σ_2 τ_3 x1 _ h) (cwV 1 hts gX7_line_X1_canFollow rfl rfl rfl hd_X1_canFollow ⟨Nat.le_of_ble_eq_true rfl, Nat.le_of_ble_eq_true rfl⟩) 3 1 rfl rfl rfl hl.1 rfl (Nat.le_of_ble_eq_true rfl) dX7_line_16 ⟨Nat.zero_le _, Nat.zero_le _⟩ (fun r_5 κ σ_6 τ_7 H locs h hw => ?_)
    refine lv_if_ne (tgt := 24) hx hb dX7_line_19 (by decide) (fun c_8 => ?_) (fun c_8 => ?_)
    · replace h := h.1 c_8
      refine lv_iload_n hx hb dX7_line_24 rfl (lv_at hl 2 rfl) ?_
      refine lv_iconst (v := 0) hx hb dX7_line_25 (by decide) ?_
      refine lv_bipush (v := 9) hx hb dX7_line_26 (by decide) ?_
      refine call_S0i (As := [.int x2, .int (0 : Int32), .int (9 : Int32)]) ⟨hx, hb, hml, hown, hts⟩ hkx hw hA (c_X7_isWithin l D cy x2 (0 : Int32) (9 : Int32) _ h) (va_cwS 3 hts gX7_line_X7_isWithin rfl rfl rfl hd_X7_isWithin ⟨Nat.le_of_ble_eq_true rfl, Nat.le_of_ble_eq_true rfl⟩) rfl hl.1 rfl (Nat.le_of_ble_eq_true rfl) dX7_line_28 ⟨Nat.zero_le _, Nat.zero_le _⟩ (fun r_9 H locs h hw => ?_)
      refine lv_if_eq (tgt := 44) hx hb dX7_line_31 (by decide) (fun c_10 => ?_) (fun c_10 => ?_)
      · replace h := h.1 c_10
        refine lv_iconst (v := -1) hx hb dX7_line_44 (by decide) ?_
        exact end_i (w1 := (cfU cy ad)) (u := (κ, σ_6, τ_7)) C0 hw h dX7_line_45
      · replace h := h.2 c_10
        refine lv_iload_n hx hb dX7_line_34 rfl (lv_at hl 3 rfl) ?_
        refine lv_iconst (v := 0) hx hb dX7_line_35 (by decide) ?_
        refine lv_bipush (v := 9) hx hb dX7_line_36 (by decide) ?_
        refine call_S0i (As := [.int x3, .int (0 : Int32), .int (9 : Int32)]) ⟨hx, hb, hml, hown, hts⟩ hkx hw hA (c_X7_isWithin l D cy x3 (0 : Int32) (9 : Int32) _ h) (va_cwS 3 hts gX7_line_X7_isWithin rfl rfl rfl hd_X7_isWithin ⟨Nat.le_of_ble_eq_true rfl, Nat.le_of_ble_eq_true rfl⟩) rfl hl.1 rfl (Nat.le_of_ble_eq_true rfl) dX7_line_38 ⟨Nat.zero_le _, Nat.zero_le _⟩ (fun r_11 H locs h hw => ?_)
        refine lv_if_ne (tgt := 46) hx hb dX7_line_41 (by decide) (fun c_12 => ?_) (fun c_12 => ?_)
        · replace h := h.1 c_12
          refine lv_iload hx hb dX7_line_46 (lv_at hl 5 rfl) ?_
          refine call_S0i (As := [.int x5]) ⟨hx, hb, hml, hown, hts⟩ hkx hw hA (c_X7_areWords l D cy x5 _ h) (va_cwS 1 hts gX7_line_X7_areWords rfl rfl rfl hd_X7_areWords ⟨Nat.le_of_ble_eq_true rfl, Nat.le_of_ble_eq_true rfl⟩) rfl hl.1 rfl (Nat.le_of_ble_eq_true rfl) dX7_line_48 ⟨Nat.zero_le _, Nat.zero_le _⟩ (fun r_13 H locs h hw => ?_)
          refine lv_if_eq (tgt := 70) hx hb dX7_line_51 (by decide) (fun c_14 => ?_) (fun c_14 => ?_)
          · replace h := h.1 c_14
            refine lv_iconst (v := -1) hx hb dX7_line_70 (by decide) ?_
            exact end_i (w1 := (cfU cy ad)) (u := (κ, σ_6, τ_7)) C0 hw h dX7_line_71
          · replace h := h.2 c_14
            refine lv_iload hx hb dX7_line_54 (lv_at hl 6 rfl) ?_
            refine call_S0i (As := [.int x6]) ⟨hx, hb, hml, hown, hts⟩ hkx hw hA (c_X7_areWords l D cy x6 _ h) (va_cwS 1 hts gX7_line_X7_areWords rfl rfl rfl hd_X7_areWords ⟨Nat.le_of_ble_eq_true rfl, Nat.le_of_ble_eq_true rfl⟩) rfl hl.1 rfl (Nat.le_of_ble_eq_true rfl) dX7_line_56 ⟨Nat.zero_le _, Nat.zero_le _⟩ (fun r_15 H locs h hw => ?_)
            refine lv_if_eq (tgt := 70) hx hb dX7_line_59 (by decide) (fun c_16 => ?_) (fun c_16 => ?_)
            · replace h := h.1 c_16
              refine lv_iconst (v := -1) hx hb dX7_line_70 (by decide) ?_
              exact end_i (w1 := (cfU cy ad)) (u := (κ, σ_6, τ_7)) C0 hw h dX7_line_71
            · replace h := h.2 c_16
              refine lv_iload hx hb dX7_line_62 (lv_at hl 7 rfl) ?_
              refine call_S0i (As := [.int x7]) ⟨hx, hb, hml, hown, hts⟩ hkx hw hA (c_X7_areNumbers l D cy x7 _ h) (va_cwS 1 hts gX7_line_X7_areNumbers rfl rfl rfl hd_X7_areNumbers ⟨Nat.le_of_ble_eq_true rfl, Nat.le_of_ble_eq_true rfl⟩) rfl hl.1 rfl (Nat.le_of_ble_eq_true rfl) dX7_line_64 ⟨Nat.zero_le _, Nat.zero_le _⟩ (fun r_17 H locs h hw => ?_)
              refine lv_if_ne (tgt := 72) hx hb dX7_line_67 (by decide) (fun c_18 => ?_) (fun c_18 => ?_)
              · replace h := h.1 c_18
                refine lv_aload_n hx hb dX7_line_72 rfl (lv_at hl 0 rfl) ?_
                refine cg_cf_lines hx hb hts inw_X7_line_X7 hown hkx hw (hts _ (List.mem_of_getElem? (i := 2) rfl)) dX7_line_73 ?_
                refine cg_ln_count hx hb hts inw_X7_line_X1 hown hkx hw (hts _ (List.mem_of_getElem? (i := 3) rfl)) dX7_line_76 ?_
                refine lv_topi (fun y_19 ey_19 => ?_)
                replace h := h y_19 ey_19
                refine lv_istore (lv' := [(8, .int y_19), (0, .ref (ad 0)), (1, .int x1), (2, .int x2), (3, .int x3), (4, .int x4), (5, .int x5), (6, .int x6), (7, .int x7)]) hx hb dX7_line_79 hl (by decide) rfl (fun ls hl => ?_)
                refine lv_aload_n hx hb dX7_line_81 rfl (lv_at hl 1 rfl) ?_
                refine cg_cf_lines hx hb hts inw_X7_line_X7 hown hkx hw (hts _ (List.mem_of_getElem? (i := 2) rfl)) dX7_line_82 ?_
                refine cg_ln_page hx hb hts inw_X7_line_X1 hown hkx hw (hts _ (List.mem_of_getElem? (i := 4) rfl)) dX7_line_85 ?_
                refine lv_iload hx hb dX7_line_88 (lv_at hl 0 rfl) ?_
                refine lv_iload_n hx hb dX7_line_90 rfl (lv_at hl 2 rfl) ?_
                obtain ⟨b_20, h⟩ := h
                refine cs_page hx hb hkx hw b_20 dX7_line_91 (fun σ_21 eσ_21 H locs hw => ?_)
                replace h := h σ_21 eσ_21
                refine lv_aload_n hx hb dX7_line_92 rfl (lv_at hl 1 rfl) ?_
                refine cg_cf_lines hx hb hts inw_X7_line_X7 hown hkx hw (hts _ (List.mem_of_getElem? (i := 2) rfl)) dX7_line_93 ?_
                refine cg_ln_blank hx hb hts inw_X7_line_X1 hown hkx hw (hts _ (List.mem_of_getElem? (i := 5) rfl)) dX7_line_96 ?_
                refine lv_iload hx hb dX7_line_99 (lv_at hl 0 rfl) ?_
                refine lv_iload_n hx hb dX7_line_101 rfl (lv_at hl 4 rfl) ?_
                obtain ⟨b_22, h⟩ := h
                refine cs_blank hx hb hkx hw b_22 dX7_line_102 (fun σ_23 eσ_23 H locs hw => ?_)
                replace h := h σ_23 eσ_23
                refine lv_aload_n hx hb dX7_line_103 rfl (lv_at hl 1 rfl) ?_
                refine cg_cf_lines hx hb hts inw_X7_line_X7 hown hkx hw (hts _ (List.mem_of_getElem? (i := 2) rfl)) dX7_line_104 ?_
                refine cg_ln_centred hx hb hts inw_X7_line_X1 hown hkx hw (hts _ (List.mem_of_getElem? (i := 6) rfl)) dX7_line_107 ?_
                refine lv_iload hx hb dX7_line_110 (lv_at hl 0 rfl) ?_
                refine lv_iload hx hb dX7_line_112 (lv_at hl 5 rfl) ?_
                obtain ⟨b_24, h⟩ := h
                obtain ⟨z_25, h⟩ := h
                refine cs_centred hx hb hkx hw b_24 z_25 dX7_line_114 (fun σ_26 eσ_26 H locs hw => ?_)
                replace h := h σ_26 eσ_26
                refine lv_aload_n hx hb dX7_line_115 rfl (lv_at hl 1 rfl) ?_
                refine cg_cf_lines hx hb hts inw_X7_line_X7 hown hkx hw (hts _ (List.mem_of_getElem? (i := 2) rfl)) dX7_line_116 ?_
                refine cg_ln_firstWords hx hb hts inw_X7_line_X1 hown hkx hw (hts _ (List.mem_of_getElem? (i := 7) rfl)) dX7_line_119 ?_
                refine lv_iload hx hb dX7_line_122 (lv_at hl 0 rfl) ?_
                refine lv_iload hx hb dX7_line_124 (lv_at hl 6 rfl) ?_
                obtain ⟨b_27, h⟩ := h
                refine cs_fw hx hb hkx hw b_27 dX7_line_126 (fun σ_28 eσ_28 H locs hw => ?_)
                replace h := h σ_28 eσ_28
                refine lv_aload_n hx hb dX7_line_127 rfl (lv_at hl 1 rfl) ?_
                refine cg_cf_lines hx hb hts inw_X7_line_X7 hown hkx hw (hts _ (List.mem_of_getElem? (i := 2) rfl)) dX7_line_128 ?_
                refine cg_ln_lastWords hx hb hts inw_X7_line_X1 hown hkx hw (hts _ (List.mem_of_getElem? (i := 8) rfl)) dX7_line_131 ?_
                refine lv_iload hx hb dX7_line_134 (lv_at hl 0 rfl) ?_
                refine lv_iload hx hb dX7_line_136 (lv_at hl 7 rfl) ?_
                obtain ⟨b_29, h⟩ := h
                refine cs_lw hx hb hkx hw b_29 dX7_line_138 (fun σ_30 eσ_30 H locs hw => ?_)
                replace h := h σ_30 eσ_30
                refine lv_aload_n hx hb dX7_line_139 rfl (lv_at hl 1 rfl) ?_
                refine cg_cf_lines hx hb hts inw_X7_line_X7 hown hkx hw (hts _ (List.mem_of_getElem? (i := 2) rfl)) dX7_line_140 ?_
                refine lv_iload hx hb dX7_line_143 (lv_at hl 0 rfl) ?_
                refine lv_iload_n hx hb dX7_line_145 rfl (lv_at hl 3 rfl) ?_
                refine lv_iload hx hb dX7_line_146 (lv_at hl 8 rfl) ?_
                refine cf_Vv (As := [.int y_19, .int x2, .int x7]) ⟨hx, hb, hml, hown, hts⟩ hkx hw hA (c_X1_putSizeAndNumbers l D cy ad κ σ_30 τ_7 y_19 x2 x7 _ h) (cwV 3 hts gX7_line_X1_putSizeAndNumbers rfl rfl rfl hd_X1_putSizeAndNumbers ⟨Nat.le_of_ble_eq_true rfl, Nat.le_of_ble_eq_true rfl⟩) 3 1 rfl rfl rfl hl.1 rfl (Nat.le_of_ble_eq_true rfl) dX7_line_148 ⟨Nat.zero_le _, Nat.zero_le _⟩ (fun κ σ_31 τ_32 H locs h hw => ?_)
                refine lv_aload_n hx hb dX7_line_151 rfl (lv_at hl 1 rfl) ?_
                refine cg_cf_lines hx hb hts inw_X7_line_X7 hown hkx hw (hts _ (List.mem_of_getElem? (i := 2) rfl)) dX7_line_152 ?_
                refine lv_iload hx hb dX7_line_155 (lv_at hl 0 rfl) ?_
                refine lv_iconst (v := 1) hx hb dX7_line_157 (by decide) ?_
                refine lv_iadd hx hb dX7_line_158 ?_
                refine cp_ln_count hx hb hts inw_X7_line_X1 hown hkx hw (hts _ (List.mem_of_getElem? (i := 3) rfl)) dX7_line_159 (fun σ_33 eσ_33 H locs hw => ?_)
                replace h := h σ_33 eσ_33
                refine lv_aload_n hx hb dX7_line_162 rfl (lv_at hl 1 rfl) ?_
                refine lv_iconst (v := 1) hx hb dX7_line_163 (by decide) ?_
                refine cp_cf_treeIsOld hx hb hts inw_X7_line_X7 hown hkx hw (hts _ (List.mem_of_getElem? (i := 9) rfl)) (Or.inr rfl) dX7_line_164 (fun σ_34 eσ_34 H locs hw => ?_)
                replace h := h σ_34 eσ_34
                refine lv_iload hx hb dX7_line_167 (lv_at hl 0 rfl) ?_
                exact end_i (w1 := (cfU cy ad)) (u := (κ, σ_34, τ_32)) C0 hw h dX7_line_169
              · replace h := h.2 c_18
                refine lv_iconst (v := -1) hx hb dX7_line_70 (by decide) ?_
                exact end_i (w1 := (cfU cy ad)) (u := (κ, σ_6, τ_7)) C0 hw h dX7_line_71
        · replace h := h.2 c_12
          refine lv_iconst (v := -1) hx hb dX7_line_44 (by decide) ?_
          exact end_i (w1 := (cfU cy ad)) (u := (κ, σ_6, τ_7)) C0 hw h dX7_line_45
    · replace h := h.2 c_8
      refine lv_iconst (v := -1) hx hb dX7_line_22 (by decide) ?_
      exact end_i (w1 := (cfU cy ad)) (u := (κ, σ_6, τ_7)) C0 hw h dX7_line_23
end
theorem hd_X7_right : yX7_right.cls = RX7 ∧ yX7_right.cls ≠ "java/lang/invoke/MethodHandle" ∧ yX7_right.cls ≠ "java/lang/invoke/VarHandle" ∧ (parseMethodDescriptor yX7_right.desc).map (fun d => d.parameters.length) = some 3 := by decide +kernel
section
variable {p : Program} {l : Launch} {e : Env} {s : State} {m : MethodId} {args : Array Value} {below : List Frame} {meth : Method} {c : Code} {D : va_G} {cy : Nat → ClassId} {A : Nat → Prop} {ad : Nat → Nat}
abbrev rm_X7_right : Room := { frames := 2, cells := 0, slots := 0, locals := 46 }
theorem inw_X7_right_X7 : ∀ w ∈ u_ws RX7 TX7 9, w ∈ wsX7_right := fun _ h => List.mem_cons_of_mem _ (List.mem_append_left _ (List.mem_append_right _ h))
def wp_X7_right (x1 : Int32) (x2 : Int32) (x3 : Int32) (σ : Sg) (τ : Tg) (post : Int32 → Sg → Tg → Prop) : Prop :=
    wp_X1_has x1 σ τ (fun r_1 σ_2 τ_3 =>
    (r_1 = 0 →
    post (0 : Int32) σ_2 τ_3) ∧
    (¬ r_1 = 0 →
    wp_X7_isWithin x2 (0 : Int32) (9 : Int32) (fun r_5 =>
    (r_5 = 0 →
    post (0 : Int32) σ_2 τ_3) ∧
    (¬ r_5 = 0 →
    wp_X7_areNumbers x3 (fun r_7 =>
    (¬ r_7 = 0 →
    wp_X1_putSizeAndNumbers x1 x2 x3 σ_2 τ_3 (fun σ_9 τ_10 =>
    ∀ σ_11 : Sg, σ_11 = va_up σ_9 0 (fun _ => (1 : Int32)) →
    post (1 : Int32) σ_11 τ_10)) ∧
    (r_7 = 0 →
    post (0 : Int32) σ_2 τ_3))))))
set_option maxHeartbeats 4000000 in
set_option maxRecDepth 100000 in
theorem c_X7_right (l : Launch) (D : va_G) (cy : Nat → ClassId) (ad κ : Nat → Nat) (σ : Sg) (τ : Tg) (x1 : Int32) (x2 : Int32) (x3 : Int32) (post : Int32 → Sg → Tg → Prop) (h : wp_X7_right x1 x2 x3 σ τ post) : Ct l yX7_right wsX7_right rm_X7_right D cy [.ref (ad 0), .int x1, .int x2, .int x3] (cfW cy ad κ σ τ) 0 0 (Ri D (cfU cy ad) (fun r u => post r u.2.1 u.2.2)) := by
  refine Ct.of (cc := cX7_right) (maxL := 4) (rt := (some .boolean)) (by decide) rfl (Nat.le_of_ble_eq_true rfl) ?_
  intro p e s m below meth c A C0 _ H locs ls hw hl
  obtain ⟨⟨hx, hb, hml, hown, hts⟩, hr, hlocks, hkx, hA⟩ := id C0
  have hl : lv_has ls 4 [(0, .ref (ad 0)), (1, .int x1), (2, .int x2), (3, .int x3)] := hl
  unfold wp_X7_right at h
  refine lv_aload_n hx hb dX7_right_0 rfl (lv_at hl 0 rfl) ?_
  refine cg_cf_lines hx hb hts inw_X7_right_X7 hown hkx hw (hts _ (List.mem_of_getElem? (i := 1) rfl)) dX7_right_1 ?_
  refine lv_iload_n hx hb dX7_right_4 rfl (lv_at hl 1 rfl) ?_
  refine cf_Vi (As := [.int x1]) ⟨hx, hb, hml, hown, hts⟩ hkx hw hA (c_X1_has l D cy ad κ σ τ x1 _ h) (cwV 1 hts gX7_right_X1_has rfl rfl rfl hd_X1_has ⟨Nat.le_of_ble_eq_true rfl, Nat.le_of_ble_eq_true rfl⟩) 3 1 rfl rfl rfl hl.1 rfl (Nat.le_of_ble_eq_true rfl) dX7_right_5 ⟨Nat.zero_le _, Nat.zero_le _⟩ (fun r_1 κ σ_2 τ_3 H locs h hw => ?_)
  refine lv_if_eq (tgt := 28) hx hb dX7_right_8 (by decide) (fun c_4 => ?_) (fun c_4 => ?_)
  · replace h := h.1 c_4
    refine lv_iconst (v := 0) hx hb dX7_right_28 (by decide) ?_
    exact end_z (w1 := (cfU cy ad)) (u := (κ, σ_2, τ_3)) C0 hw (Or.inl rfl) h dX7_right_29
  · replace h := h.2 c_4
    refine lv_iload_n hx hb dX7_right_11 rfl (lv_at hl 2 rfl) ?_
    refine lv_iconst (v := 0) hx hb dX7_right_12 (by decide) ?_
    refine lv_bipush (v := 9) hx hb dX7_right_13 (by decide) ?_
    refine call_S0i (As := [.int x2, .int (0 : Int32), .int (9 : Int32)]) ⟨hx, hb, hml, hown, hts⟩ hkx hw hA (c_X7_isWithin l D cy x2 (0 : Int32) (9 : Int32) _ h) (va_cwS 3 hts gX7_right_X7_isWithin rfl rfl rfl hd_X7_isWithin ⟨Nat.le_of_ble_eq_true rfl, Nat.le_of_ble_eq_true rfl⟩) rfl hl.1 rfl (Nat.le_of_ble_eq_true rfl) dX7_right_15 ⟨Nat.zero_le _, Nat.zero_le _⟩ (fun r_5 H locs h hw => ?_)
    refine lv_if_eq (tgt := 28) hx hb dX7_right_18 (by decide) (fun c_6 => ?_) (fun c_6 => ?_)
    · replace h := h.1 c_6
      refine lv_iconst (v := 0) hx hb dX7_right_28 (by decide) ?_
      exact end_z (w1 := (cfU cy ad)) (u := (κ, σ_2, τ_3)) C0 hw (Or.inl rfl) h dX7_right_29
    · replace h := h.2 c_6
      refine lv_iload_n hx hb dX7_right_21 rfl (lv_at hl 3 rfl) ?_
      refine call_S0i (As := [.int x3]) ⟨hx, hb, hml, hown, hts⟩ hkx hw hA (c_X7_areNumbers l D cy x3 _ h) (va_cwS 1 hts gX7_right_X7_areNumbers rfl rfl rfl hd_X7_areNumbers ⟨Nat.le_of_ble_eq_true rfl, Nat.le_of_ble_eq_true rfl⟩) rfl hl.1 rfl (Nat.le_of_ble_eq_true rfl) dX7_right_22 ⟨Nat.zero_le _, Nat.zero_le _⟩ (fun r_7 H locs h hw => ?_)
      refine lv_if_ne (tgt := 30) hx hb dX7_right_25 (by decide) (fun c_8 => ?_) (fun c_8 => ?_)
      · replace h := h.1 c_8
        refine lv_aload_n hx hb dX7_right_30 rfl (lv_at hl 0 rfl) ?_
        refine cg_cf_lines hx hb hts inw_X7_right_X7 hown hkx hw (hts _ (List.mem_of_getElem? (i := 1) rfl)) dX7_right_31 ?_
        refine lv_iload_n hx hb dX7_right_34 rfl (lv_at hl 1 rfl) ?_
        refine lv_iload_n hx hb dX7_right_35 rfl (lv_at hl 2 rfl) ?_
        refine lv_iload_n hx hb dX7_right_36 rfl (lv_at hl 3 rfl) ?_
        refine cf_Vv (As := [.int x1, .int x2, .int x3]) ⟨hx, hb, hml, hown, hts⟩ hkx hw hA (c_X1_putSizeAndNumbers l D cy ad κ σ_2 τ_3 x1 x2 x3 _ h) (cwV 3 hts gX7_right_X1_putSizeAndNumbers rfl rfl rfl hd_X1_putSizeAndNumbers ⟨Nat.le_of_ble_eq_true rfl, Nat.le_of_ble_eq_true rfl⟩) 3 1 rfl rfl rfl hl.1 rfl (Nat.le_of_ble_eq_true rfl) dX7_right_37 ⟨Nat.zero_le _, Nat.zero_le _⟩ (fun κ σ_9 τ_10 H locs h hw => ?_)
        refine lv_aload_n hx hb dX7_right_40 rfl (lv_at hl 0 rfl) ?_
        refine lv_iconst (v := 1) hx hb dX7_right_41 (by decide) ?_
        refine cp_cf_treeIsOld hx hb hts inw_X7_right_X7 hown hkx hw (hts _ (List.mem_of_getElem? (i := 2) rfl)) (Or.inr rfl) dX7_right_42 (fun σ_11 eσ_11 H locs hw => ?_)
        replace h := h σ_11 eσ_11
        refine lv_iconst (v := 1) hx hb dX7_right_45 (by decide) ?_
        exact end_z (w1 := (cfU cy ad)) (u := (κ, σ_11, τ_10)) C0 hw (Or.inr rfl) h dX7_right_46
      · replace h := h.2 c_8
        refine lv_iconst (v := 0) hx hb dX7_right_28 (by decide) ?_
        exact end_z (w1 := (cfU cy ad)) (u := (κ, σ_2, τ_3)) C0 hw (Or.inl rfl) h dX7_right_29
end
theorem hd_X7_drop : yX7_drop.cls = RX7 ∧ yX7_drop.cls ≠ "java/lang/invoke/MethodHandle" ∧ yX7_drop.cls ≠ "java/lang/invoke/VarHandle" ∧ (parseMethodDescriptor yX7_drop.desc).map (fun d => d.parameters.length) = some 0 := by decide +kernel
section
variable {p : Program} {l : Launch} {e : Env} {s : State} {m : MethodId} {args : Array Value} {below : List Frame} {meth : Method} {c : Code} {D : va_G} {cy : Nat → ClassId} {A : Nat → Prop} {ad : Nat → Nat}
abbrev rm_X7_drop : Room := { frames := 0, cells := 0, slots := 0, locals := 0 }
theorem inw_X7_drop_X7 : ∀ w ∈ u_ws RX7 TX7 9, w ∈ wsX7_drop := fun _ h => List.mem_cons_of_mem _ (List.mem_append_left _ (List.mem_append_right _ h))
theorem inw_X7_drop_X1 : ∀ w ∈ u_ws RX1 TX1 9, w ∈ wsX7_drop := fun _ h => List.mem_cons_of_mem _ (List.mem_append_right _ h)
def wp_X7_drop (σ : Sg) (τ : Tg) (post : Int32 → Sg → Tg → Prop) : Prop :=
    (¬ (σ 5 0) = 0 →
    ∀ σ_2 : Sg, σ_2 = va_up σ 5 (fun _ => (σ 5 0) - (1 : Int32)) →
    ∀ σ_3 : Sg, σ_3 = va_up σ_2 0 (fun _ => (1 : Int32)) →
    post (σ_3 5 0) σ_3 τ) ∧
    ((σ 5 0) = 0 →
    post (-1 : Int32) σ τ)
set_option maxHeartbeats 4000000 in
set_option maxRecDepth 100000 in
theorem c_X7_drop (l : Launch) (D : va_G) (cy : Nat → ClassId) (ad κ : Nat → Nat) (σ : Sg) (τ : Tg) (post : Int32 → Sg → Tg → Prop) (h : wp_X7_drop σ τ post) : Ct l yX7_drop wsX7_drop rm_X7_drop D cy [.ref (ad 0)] (cfW cy ad κ σ τ) 0 0 (Ri D (cfU cy ad) (fun r u => post r u.2.1 u.2.2)) := by
  refine Ct.of (cc := cX7_drop) (maxL := 1) (rt := (some .int)) (by decide) rfl (Nat.le_of_ble_eq_true rfl) ?_
  intro p e s m below meth c A C0 _ H locs ls hw hl
  obtain ⟨⟨hx, hb, hml, hown, hts⟩, hr, hlocks, hkx, hA⟩ := id C0
  have hl : lv_has ls 1 [(0, .ref (ad 0))] := hl
  unfold wp_X7_drop at h
  refine lv_aload_n hx hb dX7_drop_0 rfl (lv_at hl 0 rfl) ?_
  refine cg_cf_lines hx hb hts inw_X7_drop_X7 hown hkx hw (hts _ (List.mem_of_getElem? (i := 1) rfl)) dX7_drop_1 ?_
  refine cg_ln_count hx hb hts inw_X7_drop_X1 hown hkx hw (hts _ (List.mem_of_getElem? (i := 2) rfl)) dX7_drop_4 ?_
  refine lv_if_ne (tgt := 12) hx hb dX7_drop_7 (by decide) (fun c_1 => ?_) (fun c_1 => ?_)
  · replace h := h.1 c_1
    refine lv_aload_n hx hb dX7_drop_12 rfl (lv_at hl 0 rfl) ?_
    refine cg_cf_lines hx hb hts inw_X7_drop_X7 hown hkx hw (hts _ (List.mem_of_getElem? (i := 1) rfl)) dX7_drop_13 ?_
    refine lv_dup hx hb dX7_drop_16 rfl ?_
    refine cg_ln_count hx hb hts inw_X7_drop_X1 hown hkx hw (hts _ (List.mem_of_getElem? (i := 2) rfl)) dX7_drop_17 ?_
    refine lv_iconst (v := 1) hx hb dX7_drop_20 (by decide) ?_
    refine lv_isub hx hb dX7_drop_21 ?_
    refine cp_ln_count hx hb hts inw_X7_drop_X1 hown hkx hw (hts _ (List.mem_of_getElem? (i := 2) rfl)) dX7_drop_22 (fun σ_2 eσ_2 H locs hw => ?_)
    replace h := h σ_2 eσ_2
    refine lv_aload_n hx hb dX7_drop_25 rfl (lv_at hl 0 rfl) ?_
    refine lv_iconst (v := 1) hx hb dX7_drop_26 (by decide) ?_
    refine cp_cf_treeIsOld hx hb hts inw_X7_drop_X7 hown hkx hw (hts _ (List.mem_of_getElem? (i := 3) rfl)) (Or.inr rfl) dX7_drop_27 (fun σ_3 eσ_3 H locs hw => ?_)
    replace h := h σ_3 eσ_3
    refine lv_aload_n hx hb dX7_drop_30 rfl (lv_at hl 0 rfl) ?_
    refine cg_cf_lines hx hb hts inw_X7_drop_X7 hown hkx hw (hts _ (List.mem_of_getElem? (i := 1) rfl)) dX7_drop_31 ?_
    refine cg_ln_count hx hb hts inw_X7_drop_X1 hown hkx hw (hts _ (List.mem_of_getElem? (i := 2) rfl)) dX7_drop_34 ?_
    exact end_i (w1 := (cfU cy ad)) (u := (κ, σ_3, τ)) C0 hw h dX7_drop_37
  · replace h := h.2 c_1
    refine lv_iconst (v := -1) hx hb dX7_drop_10 (by decide) ?_
    exact end_i (w1 := (cfU cy ad)) (u := (κ, σ, τ)) C0 hw h dX7_drop_11
end
theorem hd_X7_price : yX7_price.cls = RX7 ∧ yX7_price.cls ≠ "java/lang/invoke/MethodHandle" ∧ yX7_price.cls ≠ "java/lang/invoke/VarHandle" ∧ (parseMethodDescriptor yX7_price.desc).map (fun d => d.parameters.length) = some 2 := by decide +kernel
section
variable {p : Program} {l : Launch} {e : Env} {s : State} {m : MethodId} {args : Array Value} {below : List Frame} {meth : Method} {c : Code} {D : va_G} {cy : Nat → ClassId} {A : Nat → Prop} {ad : Nat → Nat}
abbrev rm_X7_price : Room := { frames := 1, cells := 0, slots := 0, locals := 22 }
theorem inw_X7_price_X7 : ∀ w ∈ u_ws RX7 TX7 9, w ∈ wsX7_price := fun _ h => List.mem_cons_of_mem _ (List.mem_append_left _ (List.mem_append_right _ h))
theorem inw_X7_price_X4 : ∀ w ∈ u_ws RX4 TX4 3, w ∈ wsX7_price := fun _ h => List.mem_cons_of_mem _ (List.mem_append_right _ h)
def wp_X7_price (x1 : Int32) (x2 : Int32) (σ : Sg) (τ : Tg) (post : Int32 → Sg → Tg → Prop) : Prop :=
    wp_X7_isWithin x1 (0 : Int32) (9 : Int32) (fun r_1 =>
    (r_1 = 0 →
    post (-1 : Int32) σ τ) ∧
    (¬ r_1 = 0 →
    wp_X7_isWithin x2 (0 : Int32) (50 : Int32) (fun r_3 =>
    (¬ r_3 = 0 →
    vp_in x1 10 ∧
    ∀ y_6 : Int32, y_6 = (σ 16 x1.toNatClampNeg) →
    vp_in x1 10 ∧
    ∀ σ_8 : Sg, σ_8 = va_up σ 16 (upd (σ 16) x1.toNatClampNeg x2) →
    wp_X7_allIsOld σ_8 τ (fun σ_9 τ_10 =>
    post y_6 σ_9 τ_10)) ∧
    (r_3 = 0 →
    post (-1 : Int32) σ τ))))
set_option maxHeartbeats 4000000 in
set_option maxRecDepth 100000 in
theorem c_X7_price (l : Launch) (D : va_G) (cy : Nat → ClassId) (ad κ : Nat → Nat) (σ : Sg) (τ : Tg) (x1 : Int32) (x2 : Int32) (post : Int32 → Sg → Tg → Prop) (h : wp_X7_price x1 x2 σ τ post) : Ct l yX7_price wsX7_price rm_X7_price D cy [.ref (ad 0), .int x1, .int x2] (cfW cy ad κ σ τ) 0 0 (Ri D (cfU cy ad) (fun r u => post r u.2.1 u.2.2)) := by
  refine Ct.of (cc := cX7_price) (maxL := 4) (rt := (some .int)) (by decide) rfl (Nat.le_of_ble_eq_true rfl) ?_
  intro p e s m below meth c A C0 _ H locs ls hw hl
  obtain ⟨⟨hx, hb, hml, hown, hts⟩, hr, hlocks, hkx, hA⟩ := id C0
  have hl : lv_has ls 4 [(0, .ref (ad 0)), (1, .int x1), (2, .int x2)] := hl
  unfold wp_X7_price at h
  refine lv_iload_n hx hb dX7_price_0 rfl (lv_at hl 1 rfl) ?_
  refine lv_iconst (v := 0) hx hb dX7_price_1 (by decide) ?_
  refine lv_bipush (v := 9) hx hb dX7_price_2 (by decide) ?_
  refine call_S0i (As := [.int x1, .int (0 : Int32), .int (9 : Int32)]) ⟨hx, hb, hml, hown, hts⟩ hkx hw hA (c_X7_isWithin l D cy x1 (0 : Int32) (9 : Int32) _ h) (va_cwS 3 hts gX7_price_X7_isWithin rfl rfl rfl hd_X7_isWithin ⟨Nat.le_of_ble_eq_true rfl, Nat.le_of_ble_eq_true rfl⟩) rfl hl.1 rfl (Nat.le_of_ble_eq_true rfl) dX7_price_4 ⟨Nat.zero_le _, Nat.zero_le _⟩ (fun r_1 H locs h hw => ?_)
  refine lv_if_eq (tgt := 20) hx hb dX7_price_7 (by decide) (fun c_2 => ?_) (fun c_2 => ?_)
  · replace h := h.1 c_2
    refine lv_iconst (v := -1) hx hb dX7_price_20 (by decide) ?_
    exact end_i (w1 := (cfU cy ad)) (u := (κ, σ, τ)) C0 hw h dX7_price_21
  · replace h := h.2 c_2
    refine lv_iload_n hx hb dX7_price_10 rfl (lv_at hl 2 rfl) ?_
    refine lv_iconst (v := 0) hx hb dX7_price_11 (by decide) ?_
    refine lv_bipush (v := 50) hx hb dX7_price_12 (by decide) ?_
    refine call_S0i (As := [.int x2, .int (0 : Int32), .int (50 : Int32)]) ⟨hx, hb, hml, hown, hts⟩ hkx hw hA (c_X7_isWithin l D cy x2 (0 : Int32) (50 : Int32) _ h) (va_cwS 3 hts gX7_price_X7_isWithin rfl rfl rfl hd_X7_isWithin ⟨Nat.le_of_ble_eq_true rfl, Nat.le_of_ble_eq_true rfl⟩) rfl hl.1 rfl (Nat.le_of_ble_eq_true rfl) dX7_price_14 ⟨Nat.zero_le _, Nat.zero_le _⟩ (fun r_3 H locs h hw => ?_)
    refine lv_if_ne (tgt := 22) hx hb dX7_price_17 (by decide) (fun c_4 => ?_) (fun c_4 => ?_)
    · replace h := h.1 c_4
      refine lv_aload_n hx hb dX7_price_22 rfl (lv_at hl 0 rfl) ?_
      refine cg_cf_settings hx hb hts inw_X7_price_X7 hown hkx hw (hts _ (List.mem_of_getElem? (i := 1) rfl)) dX7_price_23 ?_
      refine cg_st_prices hx hb hts inw_X7_price_X4 hown hkx hw (hts _ (List.mem_of_getElem? (i := 2) rfl)) dX7_price_26 ?_
      refine lv_iload_n hx hb dX7_price_29 rfl (lv_at hl 1 rfl) ?_
      obtain ⟨b_5, h⟩ := h
      refine ca_prices hx hb hkx hw b_5 dX7_price_30 ?_
      refine lv_topi (fun y_6 ey_6 => ?_)
      replace h := h y_6 ey_6
      refine lv_istore_n (lv' := [(3, .int y_6), (0, .ref (ad 0)), (1, .int x1), (2, .int x2)]) hx hb dX7_price_31 rfl hl (by decide) rfl (fun ls hl => ?_)
      refine lv_aload_n hx hb dX7_price_32 rfl (lv_at hl 1 rfl) ?_
      refine cg_cf_settings hx hb hts inw_X7_price_X7 hown hkx hw (hts _ (List.mem_of_getElem? (i := 1) rfl)) dX7_price_33 ?_
      refine cg_st_prices hx hb hts inw_X7_price_X4 hown hkx hw (hts _ (List.mem_of_getElem? (i := 2) rfl)) dX7_price_36 ?_
      refine lv_iload_n hx hb dX7_price_39 rfl (lv_at hl 2 rfl) ?_
      refine lv_iload_n hx hb dX7_price_40 rfl (lv_at hl 3 rfl) ?_
      obtain ⟨b_7, h⟩ := h
      refine cs_prices hx hb hkx hw b_7 dX7_price_41 (fun σ_8 eσ_8 H locs hw => ?_)
      replace h := h σ_8 eσ_8
      refine lv_aload_n hx hb dX7_price_42 rfl (lv_at hl 1 rfl) ?_
      refine cf_Vv (As := []) ⟨hx, hb, hml, hown, hts⟩ hkx hw hA (c_X7_allIsOld l D cy ad κ σ_8 τ _ h) (cwV 0 hts gX7_price_X7_allIsOld rfl rfl rfl hd_X7_allIsOld ⟨Nat.le_of_ble_eq_true rfl, Nat.le_of_ble_eq_true rfl⟩) 0 7 rfl rfl rfl hl.1 rfl (Nat.le_of_ble_eq_true rfl) dX7_price_43 ⟨Nat.zero_le _, Nat.zero_le _⟩ (fun κ σ_9 τ_10 H locs h hw => ?_)
      refine lv_iload_n hx hb dX7_price_46 rfl (lv_at hl 0 rfl) ?_
      exact end_i (w1 := (cfU cy ad)) (u := (κ, σ_9, τ_10)) C0 hw h dX7_price_47
    · replace h := h.2 c_4
      refine lv_iconst (v := -1) hx hb dX7_price_20 (by decide) ?_
      exact end_i (w1 := (cfU cy ad)) (u := (κ, σ, τ)) C0 hw h dX7_price_21
end
theorem hd_X7_putMany : yX7_putMany.cls = RX7 ∧ yX7_putMany.cls ≠ "java/lang/invoke/MethodHandle" ∧ yX7_putMany.cls ≠ "java/lang/invoke/VarHandle" ∧ (parseMethodDescriptor yX7_putMany.desc).map (fun d => d.parameters.length) = some 1 := by decide +kernel
section
variable {p : Program} {l : Launch} {e : Env} {s : State} {m : MethodId} {args : Array Value} {below : List Frame} {meth : Method} {c : Code} {D : va_G} {cy : Nat → ClassId} {A : Nat → Prop} {ad : Nat → Nat}
abbrev rm_X7_putMany : Room := { frames := 1, cells := 0, slots := 0, locals := 22 }
theorem inw_X7_putMany_X7 : ∀ w ∈ u_ws RX7 TX7 9, w ∈ wsX7_putMany := fun _ h => List.mem_cons_of_mem _ (List.mem_append_left _ (List.mem_append_right _ h))
theorem inw_X7_putMany_X4 : ∀ w ∈ u_ws RX4 TX4 3, w ∈ wsX7_putMany := fun _ h => List.mem_cons_of_mem _ (List.mem_append_right _ h)
def wp_X7_putMany (x1 : Int32) (σ : Sg) (τ : Tg) (post : Int32 → Sg → Tg → Prop) : Prop :=
    wp_X7_isWithin x1 (2 : Int32) (60 : Int32) (fun r_1 =>
    (¬ r_1 = 0 →
    ∀ y_3 : Int32, y_3 = (σ 3 0) →
    ∀ σ_4 : Sg, σ_4 = va_up σ 3 (fun _ => x1) →
    ∀ σ_5 : Sg, σ_5 = va_up σ_4 0 (fun _ => (1 : Int32)) →
    post y_3 σ_5 τ) ∧
    (r_1 = 0 →
    post (-1 : Int32) σ τ))
set_option maxHeartbeats 4000000 in
set_option maxRecDepth 100000 in
theorem c_X7_putMany (l : Launch) (D : va_G) (cy : Nat → ClassId) (ad κ : Nat → Nat) (σ : Sg) (τ : Tg) (x1 : Int32) (post : Int32 → Sg → Tg → Prop) (h : wp_X7_putMany x1 σ τ post) : Ct l yX7_putMany wsX7_putMany rm_X7_putMany D cy [.ref (ad 0), .int x1] (cfW cy ad κ σ τ) 0 0 (Ri D (cfU cy ad) (fun r u => post r u.2.1 u.2.2)) := by
  refine Ct.of (cc := cX7_putMany) (maxL := 3) (rt := (some .int)) (by decide) rfl (Nat.le_of_ble_eq_true rfl) ?_
  intro p e s m below meth c A C0 _ H locs ls hw hl
  obtain ⟨⟨hx, hb, hml, hown, hts⟩, hr, hlocks, hkx, hA⟩ := id C0
  have hl : lv_has ls 3 [(0, .ref (ad 0)), (1, .int x1)] := hl
  unfold wp_X7_putMany at h
  refine lv_iload_n hx hb dX7_putMany_0 rfl (lv_at hl 1 rfl) ?_
  refine lv_iconst (v := 2) hx hb dX7_putMany_1 (by decide) ?_
  refine lv_bipush (v := 60) hx hb dX7_putMany_2 (by decide) ?_
  refine call_S0i (As := [.int x1, .int (2 : Int32), .int (60 : Int32)]) ⟨hx, hb, hml, hown, hts⟩ hkx hw hA (c_X7_isWithin l D cy x1 (2 : Int32) (60 : Int32) _ h) (va_cwS 3 hts gX7_putMany_X7_isWithin rfl rfl rfl hd_X7_isWithin ⟨Nat.le_of_ble_eq_true rfl, Nat.le_of_ble_eq_true rfl⟩) rfl hl.1 rfl (Nat.le_of_ble_eq_true rfl) dX7_putMany_4 ⟨Nat.zero_le _, Nat.zero_le _⟩ (fun r_1 H locs h hw => ?_)
  refine lv_if_ne (tgt := 12) hx hb dX7_putMany_7 (by decide) (fun c_2 => ?_) (fun c_2 => ?_)
  · replace h := h.1 c_2
    refine lv_aload_n hx hb dX7_putMany_12 rfl (lv_at hl 0 rfl) ?_
    refine cg_cf_settings hx hb hts inw_X7_putMany_X7 hown hkx hw (hts _ (List.mem_of_getElem? (i := 1) rfl)) dX7_putMany_13 ?_
    refine cg_st_many hx hb hts inw_X7_putMany_X4 hown hkx hw (hts _ (List.mem_of_getElem? (i := 2) rfl)) dX7_putMany_16 ?_
    refine lv_topi (fun y_3 ey_3 => ?_)
    replace h := h y_3 ey_3
    refine lv_istore_n (lv' := [(2, .int y_3), (0, .ref (ad 0)), (1, .int x1)]) hx hb dX7_putMany_19 rfl hl (by decide) rfl (fun ls hl => ?_)
    refine lv_aload_n hx hb dX7_putMany_20 rfl (lv_at hl 1 rfl) ?_
    refine cg_cf_settings hx hb hts inw_X7_putMany_X7 hown hkx hw (hts _ (List.mem_of_getElem? (i := 1) rfl)) dX7_putMany_21 ?_
    refine lv_iload_n hx hb dX7_putMany_24 rfl (lv_at hl 2 rfl) ?_
    refine cp_st_many hx hb hts inw_X7_putMany_X4 hown hkx hw (hts _ (List.mem_of_getElem? (i := 2) rfl)) dX7_putMany_25 (fun σ_4 eσ_4 H locs hw => ?_)
    replace h := h σ_4 eσ_4
    refine lv_aload_n hx hb dX7_putMany_28 rfl (lv_at hl 1 rfl) ?_
    refine lv_iconst (v := 1) hx hb dX7_putMany_29 (by decide) ?_
    refine cp_cf_treeIsOld hx hb hts inw_X7_putMany_X7 hown hkx hw (hts _ (List.mem_of_getElem? (i := 3) rfl)) (Or.inr rfl) dX7_putMany_30 (fun σ_5 eσ_5 H locs hw => ?_)
    replace h := h σ_5 eσ_5
    refine lv_iload_n hx hb dX7_putMany_33 rfl (lv_at hl 0 rfl) ?_
    exact end_i (w1 := (cfU cy ad)) (u := (κ, σ_5, τ)) C0 hw h dX7_putMany_34
  · replace h := h.2 c_2
    refine lv_iconst (v := -1) hx hb dX7_putMany_10 (by decide) ?_
    exact end_i (w1 := (cfU cy ad)) (u := (κ, σ, τ)) C0 hw h dX7_putMany_11
end
theorem hd_X7_want : yX7_want.cls = RX7 ∧ yX7_want.cls ≠ "java/lang/invoke/MethodHandle" ∧ yX7_want.cls ≠ "java/lang/invoke/VarHandle" ∧ (parseMethodDescriptor yX7_want.desc).map (fun d => d.parameters.length) = some 2 := by decide +kernel
section
variable {p : Program} {l : Launch} {e : Env} {s : State} {m : MethodId} {args : Array Value} {below : List Frame} {meth : Method} {c : Code} {D : va_G} {cy : Nat → ClassId} {A : Nat → Prop} {ad : Nat → Nat}
abbrev rm_X7_want : Room := { frames := 2, cells := 0, slots := 0, locals := 44 }
theorem inw_X7_want_X7 : ∀ w ∈ u_ws RX7 TX7 9, w ∈ wsX7_want := fun _ h => List.mem_cons_of_mem _ (List.mem_append_left _ (List.mem_append_right _ h))
theorem inw_X7_want_X4 : ∀ w ∈ u_ws RX4 TX4 3, w ∈ wsX7_want := fun _ h => List.mem_cons_of_mem _ (List.mem_append_right _ h)
def wp_X7_want (x1 : Int32) (x2 : Int32) (σ : Sg) (τ : Tg) (post : Int32 → Sg → Tg → Prop) : Prop :=
    (¬ x1 = 0 →
    wp_X7_isWithin x1 (1 : Int32) (3 : Int32) (fun r_2 =>
    (r_2 = 0 →
    post (-1 : Int32) σ τ) ∧
    (¬ r_2 = 0 →
    wp_X7_isWithin x2 (0 : Int32) (21 : Int32) (fun r_4 =>
    (¬ r_4 = 0 →
    vp_in x1 4 ∧
    ∀ y_7 : Int32, y_7 = (σ 17 x1.toNatClampNeg) →
    vp_in x1 4 ∧
    ∀ σ_9 : Sg, σ_9 = va_up σ 17 (upd (σ 17) x1.toNatClampNeg x2) →
    ∀ σ_10 : Sg, σ_10 = va_up σ_9 0 (fun _ => (1 : Int32)) →
    post y_7 σ_10 τ) ∧
    (r_4 = 0 →
    post (-1 : Int32) σ τ))))) ∧
    (x1 = 0 →
    wp_X7_putMany x2 σ τ (fun r_11 σ_12 τ_13 =>
    post r_11 σ_12 τ_13))
set_option maxHeartbeats 4000000 in
set_option maxRecDepth 100000 in
theorem c_X7_want (l : Launch) (D : va_G) (cy : Nat → ClassId) (ad κ : Nat → Nat) (σ : Sg) (τ : Tg) (x1 : Int32) (x2 : Int32) (post : Int32 → Sg → Tg → Prop) (h : wp_X7_want x1 x2 σ τ post) : Ct l yX7_want wsX7_want rm_X7_want D cy [.ref (ad 0), .int x1, .int x2] (cfW cy ad κ σ τ) 0 0 (Ri D (cfU cy ad) (fun r u => post r u.2.1 u.2.2)) := by
  refine Ct.of (cc := cX7_want) (maxL := 4) (rt := (some .int)) (by decide) rfl (Nat.le_of_ble_eq_true rfl) ?_
  intro p e s m below meth c A C0 _ H locs ls hw hl
  obtain ⟨⟨hx, hb, hml, hown, hts⟩, hr, hlocks, hkx, hA⟩ := id C0
  have hl : lv_has ls 4 [(0, .ref (ad 0)), (1, .int x1), (2, .int x2)] := hl
  unfold wp_X7_want at h
  refine lv_iload_n hx hb dX7_want_0 rfl (lv_at hl 1 rfl) ?_
  refine lv_if_ne (tgt := 10) hx hb dX7_want_1 (by decide) (fun c_1 => ?_) (fun c_1 => ?_)
  · replace h := h.1 c_1
    refine lv_iload_n hx hb dX7_want_10 rfl (lv_at hl 1 rfl) ?_
    refine lv_iconst (v := 1) hx hb dX7_want_11 (by decide) ?_
    refine lv_iconst (v := 3) hx hb dX7_want_12 (by decide) ?_
    refine call_S0i (As := [.int x1, .int (1 : Int32), .int (3 : Int32)]) ⟨hx, hb, hml, hown, hts⟩ hkx hw hA (c_X7_isWithin l D cy x1 (1 : Int32) (3 : Int32) _ h) (va_cwS 3 hts gX7_want_X7_isWithin rfl rfl rfl hd_X7_isWithin ⟨Nat.le_of_ble_eq_true rfl, Nat.le_of_ble_eq_true rfl⟩) rfl hl.1 rfl (Nat.le_of_ble_eq_true rfl) dX7_want_13 ⟨Nat.zero_le _, Nat.zero_le _⟩ (fun r_2 H locs h hw => ?_)
    refine lv_if_eq (tgt := 29) hx hb dX7_want_16 (by decide) (fun c_3 => ?_) (fun c_3 => ?_)
    · replace h := h.1 c_3
      refine lv_iconst (v := -1) hx hb dX7_want_29 (by decide) ?_
      exact end_i (w1 := (cfU cy ad)) (u := (κ, σ, τ)) C0 hw h dX7_want_30
    · replace h := h.2 c_3
      refine lv_iload_n hx hb dX7_want_19 rfl (lv_at hl 2 rfl) ?_
      refine lv_iconst (v := 0) hx hb dX7_want_20 (by decide) ?_
      refine lv_bipush (v := 21) hx hb dX7_want_21 (by decide) ?_
      refine call_S0i (As := [.int x2, .int (0 : Int32), .int (21 : Int32)]) ⟨hx, hb, hml, hown, hts⟩ hkx hw hA (c_X7_isWithin l D cy x2 (0 : Int32) (21 : Int32) _ h) (va_cwS 3 hts gX7_want_X7_isWithin rfl rfl rfl hd_X7_isWithin ⟨Nat.le_of_ble_eq_true rfl, Nat.le_of_ble_eq_true rfl⟩) rfl hl.1 rfl (Nat.le_of_ble_eq_true rfl) dX7_want_23 ⟨Nat.zero_le _, Nat.zero_le _⟩ (fun r_4 H locs h hw => ?_)
      refine lv_if_ne (tgt := 31) hx hb dX7_want_26 (by decide) (fun c_5 => ?_) (fun c_5 => ?_)
      · replace h := h.1 c_5
        refine lv_aload_n hx hb dX7_want_31 rfl (lv_at hl 0 rfl) ?_
        refine cg_cf_settings hx hb hts inw_X7_want_X7 hown hkx hw (hts _ (List.mem_of_getElem? (i := 1) rfl)) dX7_want_32 ?_
        refine cg_st_wants hx hb hts inw_X7_want_X4 hown hkx hw (hts _ (List.mem_of_getElem? (i := 2) rfl)) dX7_want_35 ?_
        refine lv_iload_n hx hb dX7_want_38 rfl (lv_at hl 1 rfl) ?_
        obtain ⟨b_6, h⟩ := h
        refine ca_wants hx hb hkx hw b_6 dX7_want_39 ?_
        refine lv_topi (fun y_7 ey_7 => ?_)
        replace h := h y_7 ey_7
        refine lv_istore_n (lv' := [(3, .int y_7), (0, .ref (ad 0)), (1, .int x1), (2, .int x2)]) hx hb dX7_want_40 rfl hl (by decide) rfl (fun ls hl => ?_)
        refine lv_aload_n hx hb dX7_want_41 rfl (lv_at hl 1 rfl) ?_
        refine cg_cf_settings hx hb hts inw_X7_want_X7 hown hkx hw (hts _ (List.mem_of_getElem? (i := 1) rfl)) dX7_want_42 ?_
        refine cg_st_wants hx hb hts inw_X7_want_X4 hown hkx hw (hts _ (List.mem_of_getElem? (i := 2) rfl)) dX7_want_45 ?_
        refine lv_iload_n hx hb dX7_want_48 rfl (lv_at hl 2 rfl) ?_
        refine lv_iload_n hx hb dX7_want_49 rfl (lv_at hl 3 rfl) ?_
        obtain ⟨b_8, h⟩ := h
        refine cs_wants hx hb hkx hw b_8 dX7_want_50 (fun σ_9 eσ_9 H locs hw => ?_)
        replace h := h σ_9 eσ_9
        refine lv_aload_n hx hb dX7_want_51 rfl (lv_at hl 1 rfl) ?_
        refine lv_iconst (v := 1) hx hb dX7_want_52 (by decide) ?_
        refine cp_cf_treeIsOld hx hb hts inw_X7_want_X7 hown hkx hw (hts _ (List.mem_of_getElem? (i := 3) rfl)) (Or.inr rfl) dX7_want_53 (fun σ_10 eσ_10 H locs hw => ?_)
        replace h := h σ_10 eσ_10
        refine lv_iload_n hx hb dX7_want_56 rfl (lv_at hl 0 rfl) ?_
        exact end_i (w1 := (cfU cy ad)) (u := (κ, σ_10, τ)) C0 hw h dX7_want_57
      · replace h := h.2 c_5
        refine lv_iconst (v := -1) hx hb dX7_want_29 (by decide) ?_
        exact end_i (w1 := (cfU cy ad)) (u := (κ, σ, τ)) C0 hw h dX7_want_30
  · replace h := h.2 c_1
    refine lv_aload_n hx hb dX7_want_4 rfl (lv_at hl 0 rfl) ?_
    refine lv_iload_n hx hb dX7_want_5 rfl (lv_at hl 2 rfl) ?_
    refine cf_Vi (As := [.int x2]) ⟨hx, hb, hml, hown, hts⟩ hkx hw hA (c_X7_putMany l D cy ad κ σ τ x2 _ h) (cwV 1 hts gX7_want_X7_putMany rfl rfl rfl hd_X7_putMany ⟨Nat.le_of_ble_eq_true rfl, Nat.le_of_ble_eq_true rfl⟩) 0 7 rfl rfl rfl hl.1 rfl (Nat.le_of_ble_eq_true rfl) dX7_want_6 ⟨Nat.zero_le _, Nat.zero_le _⟩ (fun r_11 κ σ_12 τ_13 H locs h hw => ?_)
    exact end_i (w1 := (cfU cy ad)) (u := (κ, σ_12, τ_13)) C0 hw h dX7_want_9
end
theorem hd_X7_freshTree : yX7_freshTree.cls = RX7 ∧ yX7_freshTree.cls ≠ "java/lang/invoke/MethodHandle" ∧ yX7_freshTree.cls ≠ "java/lang/invoke/VarHandle" ∧ (parseMethodDescriptor yX7_freshTree.desc).map (fun d => d.parameters.length) = some 0 := by decide +kernel
section
variable {p : Program} {l : Launch} {e : Env} {s : State} {m : MethodId} {args : Array Value} {below : List Frame} {meth : Method} {c : Code} {D : va_G} {cy : Nat → ClassId} {A : Nat → Prop} {ad : Nat → Nat}
abbrev rm_X7_freshTree : Room := { frames := 5, cells := 0, slots := 0, locals := 142 }
theorem inw_X7_freshTree_X7 : ∀ w ∈ u_ws RX7 TX7 9, w ∈ wsX7_freshTree := fun _ h => List.mem_cons_of_mem _ (List.mem_append_left _ (List.mem_append_left _ (List.mem_append_left _ (List.mem_append_left _ (List.mem_append_right _ h)))))
def wp_X7_freshTree (σ : Sg) (τ : Tg) (post : Sg → Tg → Prop) : Prop :=
    ((σ 0 0) = 0 →
    post σ τ) ∧
    (¬ (σ 0 0) = 0 →
    wp_X6_search σ τ (fun σ_2 τ_3 =>
    ∀ σ_4 : Sg, σ_4 = va_up σ_2 0 (fun _ => (0 : Int32)) →
    ∀ σ_5 : Sg, σ_5 = va_up σ_4 1 (fun _ => (1 : Int32)) →
    post σ_5 τ_3))
set_option maxHeartbeats 4000000 in
set_option maxRecDepth 100000 in
theorem c_X7_freshTree (l : Launch) (D : va_G) (cy : Nat → ClassId) (ad κ : Nat → Nat) (σ : Sg) (τ : Tg) (post : Sg → Tg → Prop) (h : wp_X7_freshTree σ τ post) : Ct l yX7_freshTree wsX7_freshTree rm_X7_freshTree D cy [.ref (ad 0)] (cfW cy ad κ σ τ) 0 0 (Rr D (ad 4) (cfU cy ad) (fun u => post u.2.1 u.2.2)) := by
  refine Ct.of (cc := cX7_freshTree) (maxL := 1) (rt := (some (.object "ContentsFinder$Tree"))) (by decide) rfl (Nat.le_of_ble_eq_true rfl) ?_
  intro p e s m below meth c A C0 _ H locs ls hw hl
  obtain ⟨⟨hx, hb, hml, hown, hts⟩, hr, hlocks, hkx, hA⟩ := id C0
  have hl : lv_has ls 1 [(0, .ref (ad 0))] := hl
  unfold wp_X7_freshTree at h
  refine lv_aload_n hx hb dX7_freshTree_0 rfl (lv_at hl 0 rfl) ?_
  refine cg_cf_treeIsOld hx hb hts inw_X7_freshTree_X7 hown hkx hw (hts _ (List.mem_of_getElem? (i := 1) rfl)) dX7_freshTree_1 ?_
  refine lv_if_eq (tgt := 24) hx hb dX7_freshTree_4 (by decide) (fun c_1 => ?_) (fun c_1 => ?_)
  · replace h := h.1 c_1
    refine lv_aload_n hx hb dX7_freshTree_24 rfl (lv_at hl 0 rfl) ?_
    refine cg_cf_tree hx hb hts inw_X7_freshTree_X7 hown hkx hw (hts _ (List.mem_of_getElem? (i := 2) rfl)) dX7_freshTree_25 ?_
    exact end_r (w1 := (cfU cy ad)) (u := (κ, σ, τ)) C0 hw h dX7_freshTree_28
  · replace h := h.2 c_1
    refine lv_aload_n hx hb dX7_freshTree_7 rfl (lv_at hl 0 rfl) ?_
    refine cg_cf_tree hx hb hts inw_X7_freshTree_X7 hown hkx hw (hts _ (List.mem_of_getElem? (i := 2) rfl)) dX7_freshTree_8 ?_
    refine cf_Vv (As := []) ⟨hx, hb, hml, hown, hts⟩ hkx hw hA (c_X6_search l D cy ad κ σ τ _ h) (cwV 0 hts gX7_freshTree_X6_search rfl rfl rfl hd_X6_search ⟨Nat.le_of_ble_eq_true rfl, Nat.le_of_ble_eq_true rfl⟩) 4 6 rfl rfl rfl hl.1 rfl (Nat.le_of_ble_eq_true rfl) dX7_freshTree_11 ⟨Nat.zero_le _, Nat.zero_le _⟩ (fun κ σ_2 τ_3 H locs h hw => ?_)
    refine lv_aload_n hx hb dX7_freshTree_14 rfl (lv_at hl 0 rfl) ?_
    refine lv_iconst (v := 0) hx hb dX7_freshTree_15 (by decide) ?_
    refine cp_cf_treeIsOld hx hb hts inw_X7_freshTree_X7 hown hkx hw (hts _ (List.mem_of_getElem? (i := 1) rfl)) (Or.inl rfl) dX7_freshTree_16 (fun σ_4 eσ_4 H locs hw => ?_)
    replace h := h σ_4 eσ_4
    refine lv_aload_n hx hb dX7_freshTree_19 rfl (lv_at hl 0 rfl) ?_
    refine lv_iconst (v := 1) hx hb dX7_freshTree_20 (by decide) ?_
    refine cp_cf_listingIsOld hx hb hts inw_X7_freshTree_X7 hown hkx hw (hts _ (List.mem_of_getElem? (i := 3) rfl)) (Or.inr rfl) dX7_freshTree_21 (fun σ_5 eσ_5 H locs hw => ?_)
    replace h := h σ_5 eσ_5
    refine lv_aload_n hx hb dX7_freshTree_24 rfl (lv_at hl 0 rfl) ?_
    refine cg_cf_tree hx hb hts inw_X7_freshTree_X7 hown hkx hw (hts _ (List.mem_of_getElem? (i := 2) rfl)) dX7_freshTree_25 ?_
    exact end_r (w1 := (cfU cy ad)) (u := (κ, σ_5, τ_3)) C0 hw h dX7_freshTree_28
end
theorem hd_X7_freshListing : yX7_freshListing.cls = RX7 ∧ yX7_freshListing.cls ≠ "java/lang/invoke/MethodHandle" ∧ yX7_freshListing.cls ≠ "java/lang/invoke/VarHandle" ∧ (parseMethodDescriptor yX7_freshListing.desc).map (fun d => d.parameters.length) = some 0 := by decide +kernel
section
variable {p : Program} {l : Launch} {e : Env} {s : State} {m : MethodId} {args : Array Value} {below : List Frame} {meth : Method} {c : Code} {D : va_G} {cy : Nat → ClassId} {A : Nat → Prop} {ad : Nat → Nat}
abbrev rm_X7_freshListing : Room := { frames := 6, cells := 0, slots := 0, locals := 162 }
theorem inw_X7_freshListing_X7 : ∀ w ∈ u_ws RX7 TX7 9, w ∈ wsX7_freshListing := fun _ h => List.mem_cons_of_mem _ (List.mem_append_left _ (List.mem_append_left _ (List.mem_append_left _ (List.mem_append_left _ (List.mem_append_left _ (List.mem_append_left _ (List.mem_append_right _ h)))))))
def wp_X7_freshListing (σ : Sg) (τ : Tg) (post : Sg → Tg → Prop) : Prop :=
    wp_X7_freshTree σ τ (fun σ_1 τ_2 =>
    ((σ_1 1 0) = 0 →
    post σ_1 τ_2) ∧
    (¬ (σ_1 1 0) = 0 →
    wp_X2_hold σ_1 τ_2 (fun σ_4 τ_5 =>
    ∀ σ_6 : Sg, σ_6 = va_up σ_4 1 (fun _ => (0 : Int32)) →
    post σ_6 τ_5)))
set_option maxHeartbeats 4000000 in
set_option maxRecDepth 100000 in
theorem c_X7_freshListing (l : Launch) (D : va_G) (cy : Nat → ClassId) (ad κ : Nat → Nat) (σ : Sg) (τ : Tg) (post : Sg → Tg → Prop) (h : wp_X7_freshListing σ τ post) : Ct l yX7_freshListing wsX7_freshListing rm_X7_freshListing D cy [.ref (ad 0)] (cfW cy ad κ σ τ) 0 0 (Rr D (ad 6) (cfU cy ad) (fun u => post u.2.1 u.2.2)) := by
  refine Ct.of (cc := cX7_freshListing) (maxL := 1) (rt := (some (.object "ContentsFinder$Listing"))) (by decide) rfl (Nat.le_of_ble_eq_true rfl) ?_
  intro p e s m below meth c A C0 _ H locs ls hw hl
  obtain ⟨⟨hx, hb, hml, hown, hts⟩, hr, hlocks, hkx, hA⟩ := id C0
  have hl : lv_has ls 1 [(0, .ref (ad 0))] := hl
  unfold wp_X7_freshListing at h
  refine lv_aload_n hx hb dX7_freshListing_0 rfl (lv_at hl 0 rfl) ?_
  refine cf_Vr (As := []) ⟨hx, hb, hml, hown, hts⟩ hkx hw hA (c_X7_freshTree l D cy ad κ σ τ _ h) (cwV 0 hts gX7_freshListing_X7_freshTree rfl rfl rfl hd_X7_freshTree ⟨Nat.le_of_ble_eq_true rfl, Nat.le_of_ble_eq_true rfl⟩) 0 7 rfl rfl rfl hl.1 rfl (Nat.le_of_ble_eq_true rfl) dX7_freshListing_1 ⟨Nat.zero_le _, Nat.zero_le _⟩ (fun κ σ_1 τ_2 H locs h hw => ?_)
  refine lv_pop hx hb dX7_freshListing_4 rfl ?_
  refine lv_aload_n hx hb dX7_freshListing_5 rfl (lv_at hl 0 rfl) ?_
  refine cg_cf_listingIsOld hx hb hts inw_X7_freshListing_X7 hown hkx hw (hts _ (List.mem_of_getElem? (i := 1) rfl)) dX7_freshListing_6 ?_
  refine lv_if_eq (tgt := 24) hx hb dX7_freshListing_9 (by decide) (fun c_3 => ?_) (fun c_3 => ?_)
  · replace h := h.1 c_3
    refine lv_aload_n hx hb dX7_freshListing_24 rfl (lv_at hl 0 rfl) ?_
    refine cg_cf_listing hx hb hts inw_X7_freshListing_X7 hown hkx hw (hts _ (List.mem_of_getElem? (i := 2) rfl)) dX7_freshListing_25 ?_
    exact end_r (w1 := (cfU cy ad)) (u := (κ, σ_1, τ_2)) C0 hw h dX7_freshListing_28
  · replace h := h.2 c_3
    refine lv_aload_n hx hb dX7_freshListing_12 rfl (lv_at hl 0 rfl) ?_
    refine cg_cf_listing hx hb hts inw_X7_freshListing_X7 hown hkx hw (hts _ (List.mem_of_getElem? (i := 2) rfl)) dX7_freshListing_13 ?_
    refine cf_Vv (As := []) ⟨hx, hb, hml, hown, hts⟩ hkx hw hA (c_X2_hold l D cy ad κ σ_1 τ_2 _ h) (cwV 0 hts gX7_freshListing_X2_hold rfl rfl rfl hd_X2_hold ⟨Nat.le_of_ble_eq_true rfl, Nat.le_of_ble_eq_true rfl⟩) 6 2 rfl rfl rfl hl.1 rfl (Nat.le_of_ble_eq_true rfl) dX7_freshListing_16 ⟨Nat.zero_le _, Nat.zero_le _⟩ (fun κ σ_4 τ_5 H locs h hw => ?_)
    refine lv_aload_n hx hb dX7_freshListing_19 rfl (lv_at hl 0 rfl) ?_
    refine lv_iconst (v := 0) hx hb dX7_freshListing_20 (by decide) ?_
    refine cp_cf_listingIsOld hx hb hts inw_X7_freshListing_X7 hown hkx hw (hts _ (List.mem_of_getElem? (i := 1) rfl)) (Or.inl rfl) dX7_freshListing_21 (fun σ_6 eσ_6 H locs hw => ?_)
    replace h := h σ_6 eσ_6
    refine lv_aload_n hx hb dX7_freshListing_24 rfl (lv_at hl 0 rfl) ?_
    refine cg_cf_listing hx hb hts inw_X7_freshListing_X7 hown hkx hw (hts _ (List.mem_of_getElem? (i := 2) rfl)) dX7_freshListing_25 ?_
    exact end_r (w1 := (cfU cy ad)) (u := (κ, σ_6, τ_5)) C0 hw h dX7_freshListing_28
end
theorem hd_X7_freshShifts : yX7_freshShifts.cls = RX7 ∧ yX7_freshShifts.cls ≠ "java/lang/invoke/MethodHandle" ∧ yX7_freshShifts.cls ≠ "java/lang/invoke/VarHandle" ∧ (parseMethodDescriptor yX7_freshShifts.desc).map (fun d => d.parameters.length) = some 0 := by decide +kernel
section
variable {p : Program} {l : Launch} {e : Env} {s : State} {m : MethodId} {args : Array Value} {below : List Frame} {meth : Method} {c : Code} {D : va_G} {cy : Nat → ClassId} {A : Nat → Prop} {ad : Nat → Nat}
abbrev rm_X7_freshShifts : Room := { frames := 5, cells := 0, slots := 0, locals := 116 }
theorem inw_X7_freshShifts_X7 : ∀ w ∈ u_ws RX7 TX7 9, w ∈ wsX7_freshShifts := fun _ h => List.mem_cons_of_mem _ (List.mem_append_left _ (List.mem_append_left _ (List.mem_append_left _ (List.mem_append_right _ h))))
def wp_X7_freshShifts (σ : Sg) (τ : Tg) (post : Sg → Tg → Prop) : Prop :=
    ((σ 2 0) = 0 →
    post σ τ) ∧
    (¬ (σ 2 0) = 0 →
    wp_X5_explain σ τ (fun σ_2 τ_3 =>
    ∀ σ_4 : Sg, σ_4 = va_up σ_2 2 (fun _ => (0 : Int32)) →
    post σ_4 τ_3))
set_option maxHeartbeats 4000000 in
set_option maxRecDepth 100000 in
theorem c_X7_freshShifts (l : Launch) (D : va_G) (cy : Nat → ClassId) (ad κ : Nat → Nat) (σ : Sg) (τ : Tg) (post : Sg → Tg → Prop) (h : wp_X7_freshShifts σ τ post) : Ct l yX7_freshShifts wsX7_freshShifts rm_X7_freshShifts D cy [.ref (ad 0)] (cfW cy ad κ σ τ) 0 0 (Rr D (ad 7) (cfU cy ad) (fun u => post u.2.1 u.2.2)) := by
  refine Ct.of (cc := cX7_freshShifts) (maxL := 1) (rt := (some (.object "ContentsFinder$Shifts"))) (by decide) rfl (Nat.le_of_ble_eq_true rfl) ?_
  intro p e s m below meth c A C0 _ H locs ls hw hl
  obtain ⟨⟨hx, hb, hml, hown, hts⟩, hr, hlocks, hkx, hA⟩ := id C0
  have hl : lv_has ls 1 [(0, .ref (ad 0))] := hl
  unfold wp_X7_freshShifts at h
  refine lv_aload_n hx hb dX7_freshShifts_0 rfl (lv_at hl 0 rfl) ?_
  refine cg_cf_shiftsAreOld hx hb hts inw_X7_freshShifts_X7 hown hkx hw (hts _ (List.mem_of_getElem? (i := 1) rfl)) dX7_freshShifts_1 ?_
  refine lv_if_eq (tgt := 19) hx hb dX7_freshShifts_4 (by decide) (fun c_1 => ?_) (fun c_1 => ?_)
  · replace h := h.1 c_1
    refine lv_aload_n hx hb dX7_freshShifts_19 rfl (lv_at hl 0 rfl) ?_
    refine cg_cf_shifts hx hb hts inw_X7_freshShifts_X7 hown hkx hw (hts _ (List.mem_of_getElem? (i := 2) rfl)) dX7_freshShifts_20 ?_
    exact end_r (w1 := (cfU cy ad)) (u := (κ, σ, τ)) C0 hw h dX7_freshShifts_23
  · replace h := h.2 c_1
    refine lv_aload_n hx hb dX7_freshShifts_7 rfl (lv_at hl 0 rfl) ?_
    refine cg_cf_shifts hx hb hts inw_X7_freshShifts_X7 hown hkx hw (hts _ (List.mem_of_getElem? (i := 2) rfl)) dX7_freshShifts_8 ?_
    refine cf_Vv (As := []) ⟨hx, hb, hml, hown, hts⟩ hkx hw hA (c_X5_explain l D cy ad κ σ τ _ h) (cwV 0 hts gX7_freshShifts_X5_explain rfl rfl rfl hd_X5_explain ⟨Nat.le_of_ble_eq_true rfl, Nat.le_of_ble_eq_true rfl⟩) 7 5 rfl rfl rfl hl.1 rfl (Nat.le_of_ble_eq_true rfl) dX7_freshShifts_11 ⟨Nat.zero_le _, Nat.zero_le _⟩ (fun κ σ_2 τ_3 H locs h hw => ?_)
    refine lv_aload_n hx hb dX7_freshShifts_14 rfl (lv_at hl 0 rfl) ?_
    refine lv_iconst (v := 0) hx hb dX7_freshShifts_15 (by decide) ?_
    refine cp_cf_shiftsAreOld hx hb hts inw_X7_freshShifts_X7 hown hkx hw (hts _ (List.mem_of_getElem? (i := 1) rfl)) (Or.inl rfl) dX7_freshShifts_16 (fun σ_4 eσ_4 H locs hw => ?_)
    replace h := h σ_4 eσ_4
    refine lv_aload_n hx hb dX7_freshShifts_19 rfl (lv_at hl 0 rfl) ?_
    refine cg_cf_shifts hx hb hts inw_X7_freshShifts_X7 hown hkx hw (hts _ (List.mem_of_getElem? (i := 2) rfl)) dX7_freshShifts_20 ?_
    exact end_r (w1 := (cfU cy ad)) (u := (κ, σ_4, τ_3)) C0 hw h dX7_freshShifts_23
end
theorem hd_X7_count : yX7_count.cls = RX7 ∧ yX7_count.cls ≠ "java/lang/invoke/MethodHandle" ∧ yX7_count.cls ≠ "java/lang/invoke/VarHandle" ∧ (parseMethodDescriptor yX7_count.desc).map (fun d => d.parameters.length) = some 1 := by decide +kernel
section
variable {p : Program} {l : Launch} {e : Env} {s : State} {m : MethodId} {args : Array Value} {below : List Frame} {meth : Method} {c : Code} {D : va_G} {cy : Nat → ClassId} {A : Nat → Prop} {ad : Nat → Nat}
abbrev rm_X7_count : Room := { frames := 7, cells := 0, slots := 0, locals := 182 }
theorem inw_X7_count_X7 : ∀ w ∈ u_ws RX7 TX7 9, w ∈ wsX7_count := fun _ h => List.mem_cons_of_mem _ (List.mem_append_left _ (List.mem_append_left _ (List.mem_append_left _ (List.mem_append_left _ (List.mem_append_left _ (List.mem_append_left _ (List.mem_append_left _ (List.mem_append_right _ h))))))))
theorem inw_X7_count_X1 : ∀ w ∈ u_ws RX1 TX1 9, w ∈ wsX7_count := fun _ h => List.mem_cons_of_mem _ (List.mem_append_left _ (List.mem_append_left _ (List.mem_append_left _ (List.mem_append_left _ (List.mem_append_left _ (List.mem_append_right _ h))))))
theorem inw_X7_count_X2 : ∀ w ∈ u_ws RX2 TX2 15, w ∈ wsX7_count := fun _ h => List.mem_cons_of_mem _ (List.mem_append_left _ (List.mem_append_left _ (List.mem_append_left _ (List.mem_append_left _ (List.mem_append_right _ h)))))
theorem inw_X7_count_X3 : ∀ w ∈ u_ws RX3 TX3 2, w ∈ wsX7_count := fun _ h => List.mem_cons_of_mem _ (List.mem_append_left _ (List.mem_append_left _ (List.mem_append_left _ (List.mem_append_left _ (List.mem_append_left _ (List.mem_append_left _ (List.mem_append_right _ h)))))))
theorem inw_X7_count_X5 : ∀ w ∈ u_ws RX5 TX5 10, w ∈ wsX7_count := fun _ h => List.mem_cons_of_mem _ (List.mem_append_left _ (List.mem_append_left _ (List.mem_append_right _ h)))
theorem inw_X7_count_X6 : ∀ w ∈ u_ws RX6 TX6 15, w ∈ wsX7_count := fun _ h => List.mem_cons_of_mem _ (List.mem_append_left _ (List.mem_append_left _ (List.mem_append_left _ (List.mem_append_right _ h))))
def wp_X7_count (x1 : Int32) (σ : Sg) (τ : Tg) (post : Int32 → Sg → Tg → Prop) : Prop :=
    (x1 = (0 : Int32) →
    post (σ 4 0) σ τ) ∧
    (x1 = (1 : Int32) →
    post (σ 5 0) σ τ) ∧
    (x1 = (2 : Int32) →
    post (σ 10 0) σ τ) ∧
    (x1 = (3 : Int32) →
    wp_X7_freshTree σ τ (fun σ_2 τ_3 =>
    post (σ_2 6 0) σ_2 τ_3)) ∧
    (x1 = (4 : Int32) →
    wp_X7_freshTree σ τ (fun σ_4 τ_5 =>
    post (σ_4 7 0) σ_4 τ_5)) ∧
    (x1 = (5 : Int32) →
    wp_X7_freshListing σ τ (fun σ_6 τ_7 =>
    post (σ_6 11 0) σ_6 τ_7)) ∧
    (x1 = (6 : Int32) →
    wp_X7_freshShifts σ τ (fun σ_8 τ_9 =>
    post (σ_8 13 0) σ_8 τ_9)) ∧
    (x1 = (7 : Int32) →
    wp_X7_freshShifts σ τ (fun σ_10 τ_11 =>
    post (σ_10 14 0) σ_10 τ_11)) ∧
    (x1 = (8 : Int32) →
    wp_X7_freshShifts σ τ (fun σ_12 τ_13 =>
    post (σ_12 15 0) σ_12 τ_13)) ∧
    ((x1.toInt < 0 ∨ 8 < x1.toInt) →
    post (-1 : Int32) σ τ)
set_option maxHeartbeats 4000000 in
set_option maxRecDepth 100000 in
theorem c_X7_count (l : Launch) (D : va_G) (cy : Nat → ClassId) (ad κ : Nat → Nat) (σ : Sg) (τ : Tg) (x1 : Int32) (post : Int32 → Sg → Tg → Prop) (h : wp_X7_count x1 σ τ post) : Ct l yX7_count wsX7_count rm_X7_count D cy [.ref (ad 0), .int x1] (cfW cy ad κ σ τ) 0 0 (Ri D (cfU cy ad) (fun r u => post r u.2.1 u.2.2)) := by
  refine Ct.of (cc := cX7_count) (maxL := 2) (rt := (some .int)) (by decide) rfl (Nat.le_of_ble_eq_true rfl) ?_
  intro p e s m below meth c A C0 _ H locs ls hw hl
  obtain ⟨⟨hx, hb, hml, hown, hts⟩, hr, hlocks, hkx, hA⟩ := id C0
  have hl : lv_has ls 2 [(0, .ref (ad 0)), (1, .int x1)] := hl
  unfold wp_X7_count at h
  refine lv_iload_n hx hb dX7_count_0 rfl (lv_at hl 1 rfl) ?_
  refine sw_all (x := x1) 8 (by decide) (fun k_1 hk_1 ek_1 => ?_) (fun hk_1 => ?_)
  · rcases (show k_1 = 0 ∨ k_1 = 1 ∨ k_1 = 2 ∨ k_1 = 3 ∨ k_1 = 4 ∨ k_1 = 5 ∨ k_1 = 6 ∨ k_1 = 7 ∨ k_1 = 8 by omega) with rfl | rfl | rfl | rfl | rfl | rfl | rfl | rfl | rfl
    · replace h := h.1 ek_1
      refine lv_tableIn (tgt := 52) hx hb dX7_count_1 (by rw [ek_1]; decide) (by rw [ek_1]; decide) (off := 51) (by rw [ek_1]; rfl) (by decide) ?_
      refine lv_aload_n hx hb dX7_count_52 rfl (lv_at hl 0 rfl) ?_
      refine cg_cf_pages hx hb hts inw_X7_count_X7 hown hkx hw (hts _ (List.mem_of_getElem? (i := 1) rfl)) dX7_count_53 ?_
      refine cg_pg_count hx hb hts inw_X7_count_X3 hown hkx hw (hts _ (List.mem_of_getElem? (i := 2) rfl)) dX7_count_56 ?_
      exact end_i (w1 := (cfU cy ad)) (u := (κ, σ, τ)) C0 hw h dX7_count_59
    · replace h := h.2.1 ek_1
      refine lv_tableIn (tgt := 60) hx hb dX7_count_1 (by rw [ek_1]; decide) (by rw [ek_1]; decide) (off := 59) (by rw [ek_1]; rfl) (by decide) ?_
      refine lv_aload_n hx hb dX7_count_60 rfl (lv_at hl 0 rfl) ?_
      refine cg_cf_lines hx hb hts inw_X7_count_X7 hown hkx hw (hts _ (List.mem_of_getElem? (i := 3) rfl)) dX7_count_61 ?_
      refine cg_ln_count hx hb hts inw_X7_count_X1 hown hkx hw (hts _ (List.mem_of_getElem? (i := 4) rfl)) dX7_count_64 ?_
      exact end_i (w1 := (cfU cy ad)) (u := (κ, σ, τ)) C0 hw h dX7_count_67
    · replace h := h.2.2.1 ek_1
      refine lv_tableIn (tgt := 68) hx hb dX7_count_1 (by rw [ek_1]; decide) (by rw [ek_1]; decide) (off := 67) (by rw [ek_1]; rfl) (by decide) ?_
      refine lv_aload_n hx hb dX7_count_68 rfl (lv_at hl 0 rfl) ?_
      refine cg_cf_listing hx hb hts inw_X7_count_X7 hown hkx hw (hts _ (List.mem_of_getElem? (i := 5) rfl)) dX7_count_69 ?_
      refine cg_li_count hx hb hts inw_X7_count_X2 hown hkx hw (hts _ (List.mem_of_getElem? (i := 6) rfl)) dX7_count_72 ?_
      exact end_i (w1 := (cfU cy ad)) (u := (κ, σ, τ)) C0 hw h dX7_count_75
    · replace h := h.2.2.2.1 ek_1
      refine lv_tableIn (tgt := 76) hx hb dX7_count_1 (by rw [ek_1]; decide) (by rw [ek_1]; decide) (off := 75) (by rw [ek_1]; rfl) (by decide) ?_
      refine lv_aload_n hx hb dX7_count_76 rfl (lv_at hl 0 rfl) ?_
      refine cf_Vr (As := []) ⟨hx, hb, hml, hown, hts⟩ hkx hw hA (c_X7_freshTree l D cy ad κ σ τ _ h) (cwV 0 hts gX7_count_X7_freshTree rfl rfl rfl hd_X7_freshTree ⟨Nat.le_of_ble_eq_true rfl, Nat.le_of_ble_eq_true rfl⟩) 0 7 rfl rfl rfl hl.1 rfl (Nat.le_of_ble_eq_true rfl) dX7_count_77 ⟨Nat.zero_le _, Nat.zero_le _⟩ (fun κ σ_2 τ_3 H locs h hw => ?_)
      refine cg_tr_heads hx hb hts inw_X7_count_X6 hown hkx hw (hts _ (List.mem_of_getElem? (i := 7) rfl)) dX7_count_80 ?_
      exact end_i (w1 := (cfU cy ad)) (u := (κ, σ_2, τ_3)) C0 hw h dX7_count_83
    · replace h := h.2.2.2.2.1 ek_1
      refine lv_tableIn (tgt := 84) hx hb dX7_count_1 (by rw [ek_1]; decide) (by rw [ek_1]; decide) (off := 83) (by rw [ek_1]; rfl) (by decide) ?_
      refine lv_aload_n hx hb dX7_count_84 rfl (lv_at hl 0 rfl) ?_
      refine cf_Vr (As := []) ⟨hx, hb, hml, hown, hts⟩ hkx hw hA (c_X7_freshTree l D cy ad κ σ τ _ h) (cwV 0 hts gX7_count_X7_freshTree rfl rfl rfl hd_X7_freshTree ⟨Nat.le_of_ble_eq_true rfl, Nat.le_of_ble_eq_true rfl⟩) 0 7 rfl rfl rfl hl.1 rfl (Nat.le_of_ble_eq_true rfl) dX7_count_85 ⟨Nat.zero_le _, Nat.zero_le _⟩ (fun κ σ_4 τ_5 H locs h hw => ?_)
      refine cg_tr_cost hx hb hts inw_X7_count_X6 hown hkx hw (hts _ (List.mem_of_getElem? (i := 8) rfl)) dX7_count_88 ?_
      exact end_i (w1 := (cfU cy ad)) (u := (κ, σ_4, τ_5)) C0 hw h dX7_count_91
    · replace h := h.2.2.2.2.2.1 ek_1
      refine lv_tableIn (tgt := 92) hx hb dX7_count_1 (by rw [ek_1]; decide) (by rw [ek_1]; decide) (off := 91) (by rw [ek_1]; rfl) (by decide) ?_
      refine lv_aload_n hx hb dX7_count_92 rfl (lv_at hl 0 rfl) ?_
      refine cf_Vr (As := []) ⟨hx, hb, hml, hown, hts⟩ hkx hw hA (c_X7_freshListing l D cy ad κ σ τ _ h) (cwV 0 hts gX7_count_X7_freshListing rfl rfl rfl hd_X7_freshListing ⟨Nat.le_of_ble_eq_true rfl, Nat.le_of_ble_eq_true rfl⟩) 0 7 rfl rfl rfl hl.1 rfl (Nat.le_of_ble_eq_true rfl) dX7_count_93 ⟨Nat.zero_le _, Nat.zero_le _⟩ (fun κ σ_6 τ_7 H locs h hw => ?_)
      refine cg_li_cost hx hb hts inw_X7_count_X2 hown hkx hw (hts _ (List.mem_of_getElem? (i := 9) rfl)) dX7_count_96 ?_
      exact end_i (w1 := (cfU cy ad)) (u := (κ, σ_6, τ_7)) C0 hw h dX7_count_99
    · replace h := h.2.2.2.2.2.2.1 ek_1
      refine lv_tableIn (tgt := 100) hx hb dX7_count_1 (by rw [ek_1]; decide) (by rw [ek_1]; decide) (off := 99) (by rw [ek_1]; rfl) (by decide) ?_
      refine lv_aload_n hx hb dX7_count_100 rfl (lv_at hl 0 rfl) ?_
      refine cf_Vr (As := []) ⟨hx, hb, hml, hown, hts⟩ hkx hw hA (c_X7_freshShifts l D cy ad κ σ τ _ h) (cwV 0 hts gX7_count_X7_freshShifts rfl rfl rfl hd_X7_freshShifts ⟨Nat.le_of_ble_eq_true rfl, Nat.le_of_ble_eq_true rfl⟩) 0 7 rfl rfl rfl hl.1 rfl (Nat.le_of_ble_eq_true rfl) dX7_count_101 ⟨Nat.zero_le _, Nat.zero_le _⟩ (fun κ σ_8 τ_9 H locs h hw => ?_)
      refine cg_sh_cost hx hb hts inw_X7_count_X5 hown hkx hw (hts _ (List.mem_of_getElem? (i := 10) rfl)) dX7_count_104 ?_
      exact end_i (w1 := (cfU cy ad)) (u := (κ, σ_8, τ_9)) C0 hw h dX7_count_107
    · replace h := h.2.2.2.2.2.2.2.1 ek_1
      refine lv_tableIn (tgt := 108) hx hb dX7_count_1 (by rw [ek_1]; decide) (by rw [ek_1]; decide) (off := 107) (by rw [ek_1]; rfl) (by decide) ?_
      refine lv_aload_n hx hb dX7_count_108 rfl (lv_at hl 0 rfl) ?_
      refine cf_Vr (As := []) ⟨hx, hb, hml, hown, hts⟩ hkx hw hA (c_X7_freshShifts l D cy ad κ σ τ _ h) (cwV 0 hts gX7_count_X7_freshShifts rfl rfl rfl hd_X7_freshShifts ⟨Nat.le_of_ble_eq_true rfl, Nat.le_of_ble_eq_true rfl⟩) 0 7 rfl rfl rfl hl.1 rfl (Nat.le_of_ble_eq_true rfl) dX7_count_109 ⟨Nat.zero_le _, Nat.zero_le _⟩ (fun κ σ_10 τ_11 H locs h hw => ?_)
      refine cg_sh_spans hx hb hts inw_X7_count_X5 hown hkx hw (hts _ (List.mem_of_getElem? (i := 11) rfl)) dX7_count_112 ?_
      exact end_i (w1 := (cfU cy ad)) (u := (κ, σ_10, τ_11)) C0 hw h dX7_count_115
    · replace h := h.2.2.2.2.2.2.2.2.1 ek_1
      refine lv_tableIn (tgt := 116) hx hb dX7_count_1 (by rw [ek_1]; decide) (by rw [ek_1]; decide) (off := 115) (by rw [ek_1]; rfl) (by decide) ?_
      refine lv_aload_n hx hb dX7_count_116 rfl (lv_at hl 0 rfl) ?_
      refine cf_Vr (As := []) ⟨hx, hb, hml, hown, hts⟩ hkx hw hA (c_X7_freshShifts l D cy ad κ σ τ _ h) (cwV 0 hts gX7_count_X7_freshShifts rfl rfl rfl hd_X7_freshShifts ⟨Nat.le_of_ble_eq_true rfl, Nat.le_of_ble_eq_true rfl⟩) 0 7 rfl rfl rfl hl.1 rfl (Nat.le_of_ble_eq_true rfl) dX7_count_117 ⟨Nat.zero_le _, Nat.zero_le _⟩ (fun κ σ_12 τ_13 H locs h hw => ?_)
      refine cg_sh_wrongs hx hb hts inw_X7_count_X5 hown hkx hw (hts _ (List.mem_of_getElem? (i := 12) rfl)) dX7_count_120 ?_
      exact end_i (w1 := (cfU cy ad)) (u := (κ, σ_12, τ_13)) C0 hw h dX7_count_123
  · replace h := h.2.2.2.2.2.2.2.2.2 hk_1
    refine lv_tableOut (tgt := 124) hx hb dX7_count_1 hk_1 (by decide) ?_
    refine lv_iconst (v := -1) hx hb dX7_count_124 (by decide) ?_
    exact end_i (w1 := (cfU cy ad)) (u := (κ, σ, τ)) C0 hw h dX7_count_125
end
theorem hd_X7_counter : yX7_counter.cls = RX7 ∧ yX7_counter.cls ≠ "java/lang/invoke/MethodHandle" ∧ yX7_counter.cls ≠ "java/lang/invoke/VarHandle" ∧ (parseMethodDescriptor yX7_counter.desc).map (fun d => d.parameters.length) = some 2 := by decide +kernel
section
variable {p : Program} {l : Launch} {e : Env} {s : State} {m : MethodId} {args : Array Value} {below : List Frame} {meth : Method} {c : Code} {D : va_G} {cy : Nat → ClassId} {A : Nat → Prop} {ad : Nat → Nat}
abbrev rm_X7_counter : Room := { frames := 6, cells := 0, slots := 0, locals := 162 }
theorem inw_X7_counter_X7 : ∀ w ∈ u_ws RX7 TX7 9, w ∈ wsX7_counter := fun _ h => List.mem_cons_of_mem _ (List.mem_append_left _ (List.mem_append_left _ (List.mem_append_left _ (List.mem_append_left _ (List.mem_append_right _ h)))))
theorem inw_X7_counter_X6 : ∀ w ∈ u_ws RX6 TX6 15, w ∈ wsX7_counter := fun _ h => List.mem_cons_of_mem _ (List.mem_append_left _ (List.mem_append_left _ (List.mem_append_left _ (List.mem_append_right _ h))))
def wp_X7_counter (x1 : Int32) (x2 : Int32) (σ : Sg) (τ : Tg) (post : Int32 → Sg → Tg → Prop) : Prop :=
    wp_X1_has x1 σ τ (fun r_1 σ_2 τ_3 =>
    (r_1 = 0 →
    post (-1 : Int32) σ_2 τ_3) ∧
    (¬ r_1 = 0 →
    wp_X7_isWithin x2 (1 : Int32) (3 : Int32) (fun r_5 =>
    (¬ r_5 = 0 →
    wp_X7_freshTree σ_2 τ_3 (fun σ_7 τ_8 =>
    vp_in (((x1 * (3 : Int32)) + x2) - (1 : Int32)) 60 ∧
    post (σ_7 29 (((x1 * (3 : Int32)) + x2) - (1 : Int32)).toNatClampNeg) σ_7 τ_8)) ∧
    (r_5 = 0 →
    post (-1 : Int32) σ_2 τ_3))))
set_option maxHeartbeats 4000000 in
set_option maxRecDepth 100000 in
theorem c_X7_counter (l : Launch) (D : va_G) (cy : Nat → ClassId) (ad κ : Nat → Nat) (σ : Sg) (τ : Tg) (x1 : Int32) (x2 : Int32) (post : Int32 → Sg → Tg → Prop) (h : wp_X7_counter x1 x2 σ τ post) : Ct l yX7_counter wsX7_counter rm_X7_counter D cy [.ref (ad 0), .int x1, .int x2] (cfW cy ad κ σ τ) 0 0 (Ri D (cfU cy ad) (fun r u => post r u.2.1 u.2.2)) := by
  refine Ct.of (cc := cX7_counter) (maxL := 3) (rt := (some .int)) (by decide) rfl (Nat.le_of_ble_eq_true rfl) ?_
  intro p e s m below meth c A C0 _ H locs ls hw hl
  obtain ⟨⟨hx, hb, hml, hown, hts⟩, hr, hlocks, hkx, hA⟩ := id C0
  have hl : lv_has ls 3 [(0, .ref (ad 0)), (1, .int x1), (2, .int x2)] := hl
  unfold wp_X7_counter at h
  refine lv_aload_n hx hb dX7_counter_0 rfl (lv_at hl 0 rfl) ?_
  refine cg_cf_lines hx hb hts inw_X7_counter_X7 hown hkx hw (hts _ (List.mem_of_getElem? (i := 1) rfl)) dX7_counter_1 ?_
  refine lv_iload_n hx hb dX7_counter_4 rfl (lv_at hl 1 rfl) ?_
  refine cf_Vi (As := [.int x1]) ⟨hx, hb, hml, hown, hts⟩ hkx hw hA (c_X1_has l D cy ad κ σ τ x1 _ h) (cwV 1 hts gX7_counter_X1_has rfl rfl rfl hd_X1_has ⟨Nat.le_of_ble_eq_true rfl, Nat.le_of_ble_eq_true rfl⟩) 3 1 rfl rfl rfl hl.1 rfl (Nat.le_of_ble_eq_true rfl) dX7_counter_5 ⟨Nat.zero_le _, Nat.zero_le _⟩ (fun r_1 κ σ_2 τ_3 H locs h hw => ?_)
  refine lv_if_eq (tgt := 20) hx hb dX7_counter_8 (by decide) (fun c_4 => ?_) (fun c_4 => ?_)
  · replace h := h.1 c_4
    refine lv_iconst (v := -1) hx hb dX7_counter_20 (by decide) ?_
    exact end_i (w1 := (cfU cy ad)) (u := (κ, σ_2, τ_3)) C0 hw h dX7_counter_21
  · replace h := h.2 c_4
    refine lv_iload_n hx hb dX7_counter_11 rfl (lv_at hl 2 rfl) ?_
    refine lv_iconst (v := 1) hx hb dX7_counter_12 (by decide) ?_
    refine lv_iconst (v := 3) hx hb dX7_counter_13 (by decide) ?_
    refine call_S0i (As := [.int x2, .int (1 : Int32), .int (3 : Int32)]) ⟨hx, hb, hml, hown, hts⟩ hkx hw hA (c_X7_isWithin l D cy x2 (1 : Int32) (3 : Int32) _ h) (va_cwS 3 hts gX7_counter_X7_isWithin rfl rfl rfl hd_X7_isWithin ⟨Nat.le_of_ble_eq_true rfl, Nat.le_of_ble_eq_true rfl⟩) rfl hl.1 rfl (Nat.le_of_ble_eq_true rfl) dX7_counter_14 ⟨Nat.zero_le _, Nat.zero_le _⟩ (fun r_5 H locs h hw => ?_)
    refine lv_if_ne (tgt := 22) hx hb dX7_counter_17 (by decide) (fun c_6 => ?_) (fun c_6 => ?_)
    · replace h := h.1 c_6
      refine lv_aload_n hx hb dX7_counter_22 rfl (lv_at hl 0 rfl) ?_
      refine cf_Vr (As := []) ⟨hx, hb, hml, hown, hts⟩ hkx hw hA (c_X7_freshTree l D cy ad κ σ_2 τ_3 _ h) (cwV 0 hts gX7_counter_X7_freshTree rfl rfl rfl hd_X7_freshTree ⟨Nat.le_of_ble_eq_true rfl, Nat.le_of_ble_eq_true rfl⟩) 0 7 rfl rfl rfl hl.1 rfl (Nat.le_of_ble_eq_true rfl) dX7_counter_23 ⟨Nat.zero_le _, Nat.zero_le _⟩ (fun κ σ_7 τ_8 H locs h hw => ?_)
      refine cg_tr_countersBehind hx hb hts inw_X7_counter_X6 hown hkx hw (hts _ (List.mem_of_getElem? (i := 2) rfl)) dX7_counter_26 ?_
      refine lv_iload_n hx hb dX7_counter_29 rfl (lv_at hl 1 rfl) ?_
      refine lv_iconst (v := 3) hx hb dX7_counter_30 (by decide) ?_
      refine lv_imul hx hb dX7_counter_31 ?_
      refine lv_iload_n hx hb dX7_counter_32 rfl (lv_at hl 2 rfl) ?_
      refine lv_iadd hx hb dX7_counter_33 ?_
      refine lv_iconst (v := 1) hx hb dX7_counter_34 (by decide) ?_
      refine lv_isub hx hb dX7_counter_35 ?_
      obtain ⟨b_9, h⟩ := h
      refine ca_cb hx hb hkx hw b_9 dX7_counter_36 ?_
      exact end_i (w1 := (cfU cy ad)) (u := (κ, σ_7, τ_8)) C0 hw h dX7_counter_37
    · replace h := h.2 c_6
      refine lv_iconst (v := -1) hx hb dX7_counter_20 (by decide) ?_
      exact end_i (w1 := (cfU cy ad)) (u := (κ, σ_2, τ_3)) C0 hw h dX7_counter_21
end
theorem hd_X7_entry : yX7_entry.cls = RX7 ∧ yX7_entry.cls ≠ "java/lang/invoke/MethodHandle" ∧ yX7_entry.cls ≠ "java/lang/invoke/VarHandle" ∧ (parseMethodDescriptor yX7_entry.desc).map (fun d => d.parameters.length) = some 4 := by decide +kernel
section
variable {p : Program} {l : Launch} {e : Env} {s : State} {m : MethodId} {args : Array Value} {below : List Frame} {meth : Method} {c : Code} {D : va_G} {cy : Nat → ClassId} {A : Nat → Prop} {ad : Nat → Nat}
abbrev rm_X7_entry : Room := { frames := 1, cells := 0, slots := 0, locals := 22 }
theorem inw_X7_entry_X7 : ∀ w ∈ u_ws RX7 TX7 9, w ∈ wsX7_entry := fun _ h => List.mem_cons_of_mem _ (List.mem_append_left _ (List.mem_append_right _ h))
theorem inw_X7_entry_X2 : ∀ w ∈ u_ws RX2 TX2 15, w ∈ wsX7_entry := fun _ h => List.mem_cons_of_mem _ (List.mem_append_right _ h)
def wp_X7_entry (x1 : Int32) (x2 : Int32) (x3 : Int32) (x4 : Int32) (σ : Sg) (τ : Tg) (post : Int32 → Sg → Tg → Prop) : Prop :=
    ((12 : Int32) ≤ (σ 10 0) →
    post (-1 : Int32) σ τ) ∧
    (¬ (12 : Int32) ≤ (σ 10 0) →
    wp_X7_isWithin x1 (1 : Int32) (3 : Int32) (fun r_2 =>
    (¬ r_2 = 0 →
    wp_X7_isWithin x2 (0 : Int32) (999 : Int32) (fun r_4 =>
    (r_4 = 0 →
    post (-1 : Int32) σ τ) ∧
    (¬ r_4 = 0 →
    wp_X7_areWords x3 (fun r_6 =>
    (r_6 = 0 →
    post (-1 : Int32) σ τ) ∧
    (¬ r_6 = 0 →
    wp_X7_areWords x4 (fun r_8 =>
    (¬ r_8 = 0 →
    ∀ y_10 : Int32, y_10 = (σ 10 0) →
    vp_in y_10 12 ∧
    ∀ σ_12 : Sg, σ_12 = va_up σ 34 (upd (σ 34) y_10.toNatClampNeg x1) →
    vp_in y_10 12 ∧
    ∀ σ_14 : Sg, σ_14 = va_up σ_12 35 (upd (σ_12 35) y_10.toNatClampNeg x2) →
    vp_in y_10 12 ∧
    ∀ σ_16 : Sg, σ_16 = va_up σ_14 36 (upd (σ_14 36) y_10.toNatClampNeg x3) →
    vp_in y_10 12 ∧
    ∀ σ_18 : Sg, σ_18 = va_up σ_16 37 (upd (σ_16 37) y_10.toNatClampNeg x4) →
    ∀ σ_19 : Sg, σ_19 = va_up σ_18 10 (fun _ => y_10 + (1 : Int32)) →
    ∀ σ_20 : Sg, σ_20 = va_up σ_19 1 (fun _ => (1 : Int32)) →
    post y_10 σ_20 τ) ∧
    (r_8 = 0 →
    post (-1 : Int32) σ τ))))))) ∧
    (r_2 = 0 →
    post (-1 : Int32) σ τ)))
set_option maxHeartbeats 4000000 in
set_option maxRecDepth 100000 in
theorem c_X7_entry (l : Launch) (D : va_G) (cy : Nat → ClassId) (ad κ : Nat → Nat) (σ : Sg) (τ : Tg) (x1 : Int32) (x2 : Int32) (x3 : Int32) (x4 : Int32) (post : Int32 → Sg → Tg → Prop) (h : wp_X7_entry x1 x2 x3 x4 σ τ post) : Ct l yX7_entry wsX7_entry rm_X7_entry D cy [.ref (ad 0), .int x1, .int x2, .int x3, .int x4] (cfW cy ad κ σ τ) 0 0 (Ri D (cfU cy ad) (fun r u => post r u.2.1 u.2.2)) := by
  refine Ct.of (cc := cX7_entry) (maxL := 6) (rt := (some .int)) (by decide) rfl (Nat.le_of_ble_eq_true rfl) ?_
  intro p e s m below meth c A C0 _ H locs ls hw hl
  obtain ⟨⟨hx, hb, hml, hown, hts⟩, hr, hlocks, hkx, hA⟩ := id C0
  have hl : lv_has ls 6 [(0, .ref (ad 0)), (1, .int x1), (2, .int x2), (3, .int x3), (4, .int x4)] := hl
  unfold wp_X7_entry at h
  refine lv_aload_n hx hb dX7_entry_0 rfl (lv_at hl 0 rfl) ?_
  refine cg_cf_listing hx hb hts inw_X7_entry_X7 hown hkx hw (hts _ (List.mem_of_getElem? (i := 1) rfl)) dX7_entry_1 ?_
  refine cg_li_count hx hb hts inw_X7_entry_X2 hown hkx hw (hts _ (List.mem_of_getElem? (i := 2) rfl)) dX7_entry_4 ?_
  refine lv_bipush (v := 12) hx hb dX7_entry_7 (by decide) ?_
  refine lv_icmp_ge (tgt := 21) hx hb dX7_entry_9 (by decide) (fun c_1 => ?_) (fun c_1 => ?_)
  · replace h := h.1 c_1
    refine lv_iconst (v := -1) hx hb dX7_entry_21 (by decide) ?_
    exact end_i (w1 := (cfU cy ad)) (u := (κ, σ, τ)) C0 hw h dX7_entry_22
  · replace h := h.2 c_1
    refine lv_iload_n hx hb dX7_entry_12 rfl (lv_at hl 1 rfl) ?_
    refine lv_iconst (v := 1) hx hb dX7_entry_13 (by decide) ?_
    refine lv_iconst (v := 3) hx hb dX7_entry_14 (by decide) ?_
    refine call_S0i (As := [.int x1, .int (1 : Int32), .int (3 : Int32)]) ⟨hx, hb, hml, hown, hts⟩ hkx hw hA (c_X7_isWithin l D cy x1 (1 : Int32) (3 : Int32) _ h) (va_cwS 3 hts gX7_entry_X7_isWithin rfl rfl rfl hd_X7_isWithin ⟨Nat.le_of_ble_eq_true rfl, Nat.le_of_ble_eq_true rfl⟩) rfl hl.1 rfl (Nat.le_of_ble_eq_true rfl) dX7_entry_15 ⟨Nat.zero_le _, Nat.zero_le _⟩ (fun r_2 H locs h hw => ?_)
    refine lv_if_ne (tgt := 23) hx hb dX7_entry_18 (by decide) (fun c_3 => ?_) (fun c_3 => ?_)
    · replace h := h.1 c_3
      refine lv_iload_n hx hb dX7_entry_23 rfl (lv_at hl 2 rfl) ?_
      refine lv_iconst (v := 0) hx hb dX7_entry_24 (by decide) ?_
      refine lv_sipush (v := 999) hx hb dX7_entry_25 (by decide) ?_
      refine call_S0i (As := [.int x2, .int (0 : Int32), .int (999 : Int32)]) ⟨hx, hb, hml, hown, hts⟩ hkx hw hA (c_X7_isWithin l D cy x2 (0 : Int32) (999 : Int32) _ h) (va_cwS 3 hts gX7_entry_X7_isWithin rfl rfl rfl hd_X7_isWithin ⟨Nat.le_of_ble_eq_true rfl, Nat.le_of_ble_eq_true rfl⟩) rfl hl.1 rfl (Nat.le_of_ble_eq_true rfl) dX7_entry_28 ⟨Nat.zero_le _, Nat.zero_le _⟩ (fun r_4 H locs h hw => ?_)
      refine lv_if_eq (tgt := 49) hx hb dX7_entry_31 (by decide) (fun c_5 => ?_) (fun c_5 => ?_)
      · replace h := h.1 c_5
        refine lv_iconst (v := -1) hx hb dX7_entry_49 (by decide) ?_
        exact end_i (w1 := (cfU cy ad)) (u := (κ, σ, τ)) C0 hw h dX7_entry_50
      · replace h := h.2 c_5
        refine lv_iload_n hx hb dX7_entry_34 rfl (lv_at hl 3 rfl) ?_
        refine call_S0i (As := [.int x3]) ⟨hx, hb, hml, hown, hts⟩ hkx hw hA (c_X7_areWords l D cy x3 _ h) (va_cwS 1 hts gX7_entry_X7_areWords rfl rfl rfl hd_X7_areWords ⟨Nat.le_of_ble_eq_true rfl, Nat.le_of_ble_eq_true rfl⟩) rfl hl.1 rfl (Nat.le_of_ble_eq_true rfl) dX7_entry_35 ⟨Nat.zero_le _, Nat.zero_le _⟩ (fun r_6 H locs h hw => ?_)
        refine lv_if_eq (tgt := 49) hx hb dX7_entry_38 (by decide) (fun c_7 => ?_) (fun c_7 => ?_)
        · replace h := h.1 c_7
          refine lv_iconst (v := -1) hx hb dX7_entry_49 (by decide) ?_
          exact end_i (w1 := (cfU cy ad)) (u := (κ, σ, τ)) C0 hw h dX7_entry_50
        · replace h := h.2 c_7
          refine lv_iload hx hb dX7_entry_41 (lv_at hl 4 rfl) ?_
          refine call_S0i (As := [.int x4]) ⟨hx, hb, hml, hown, hts⟩ hkx hw hA (c_X7_areWords l D cy x4 _ h) (va_cwS 1 hts gX7_entry_X7_areWords rfl rfl rfl hd_X7_areWords ⟨Nat.le_of_ble_eq_true rfl, Nat.le_of_ble_eq_true rfl⟩) rfl hl.1 rfl (Nat.le_of_ble_eq_true rfl) dX7_entry_43 ⟨Nat.zero_le _, Nat.zero_le _⟩ (fun r_8 H locs h hw => ?_)
          refine lv_if_ne (tgt := 51) hx hb dX7_entry_46 (by decide) (fun c_9 => ?_) (fun c_9 => ?_)
          · replace h := h.1 c_9
            refine lv_aload_n hx hb dX7_entry_51 rfl (lv_at hl 0 rfl) ?_
            refine cg_cf_listing hx hb hts inw_X7_entry_X7 hown hkx hw (hts _ (List.mem_of_getElem? (i := 1) rfl)) dX7_entry_52 ?_
            refine cg_li_count hx hb hts inw_X7_entry_X2 hown hkx hw (hts _ (List.mem_of_getElem? (i := 2) rfl)) dX7_entry_55 ?_
            refine lv_topi (fun y_10 ey_10 => ?_)
            replace h := h y_10 ey_10
            refine lv_istore (lv' := [(5, .int y_10), (0, .ref (ad 0)), (1, .int x1), (2, .int x2), (3, .int x3), (4, .int x4)]) hx hb dX7_entry_58 hl (by decide) rfl (fun ls hl => ?_)
            refine lv_aload_n hx hb dX7_entry_60 rfl (lv_at hl 1 rfl) ?_
            refine cg_cf_listing hx hb hts inw_X7_entry_X7 hown hkx hw (hts _ (List.mem_of_getElem? (i := 1) rfl)) dX7_entry_61 ?_
            refine cg_li_level hx hb hts inw_X7_entry_X2 hown hkx hw (hts _ (List.mem_of_getElem? (i := 3) rfl)) dX7_entry_64 ?_
            refine lv_iload hx hb dX7_entry_67 (lv_at hl 0 rfl) ?_
            refine lv_iload_n hx hb dX7_entry_69 rfl (lv_at hl 2 rfl) ?_
            obtain ⟨b_11, h⟩ := h
            refine cs_elevel hx hb hkx hw b_11 dX7_entry_70 (fun σ_12 eσ_12 H locs hw => ?_)
            replace h := h σ_12 eσ_12
            refine lv_aload_n hx hb dX7_entry_71 rfl (lv_at hl 1 rfl) ?_
            refine cg_cf_listing hx hb hts inw_X7_entry_X7 hown hkx hw (hts _ (List.mem_of_getElem? (i := 1) rfl)) dX7_entry_72 ?_
            refine cg_li_number hx hb hts inw_X7_entry_X2 hown hkx hw (hts _ (List.mem_of_getElem? (i := 4) rfl)) dX7_entry_75 ?_
            refine lv_iload hx hb dX7_entry_78 (lv_at hl 0 rfl) ?_
            refine lv_iload_n hx hb dX7_entry_80 rfl (lv_at hl 3 rfl) ?_
            obtain ⟨b_13, h⟩ := h
            refine cs_enumber hx hb hkx hw b_13 dX7_entry_81 (fun σ_14 eσ_14 H locs hw => ?_)
            replace h := h σ_14 eσ_14
            refine lv_aload_n hx hb dX7_entry_82 rfl (lv_at hl 1 rfl) ?_
            refine cg_cf_listing hx hb hts inw_X7_entry_X7 hown hkx hw (hts _ (List.mem_of_getElem? (i := 1) rfl)) dX7_entry_83 ?_
            refine cg_li_firstWords hx hb hts inw_X7_entry_X2 hown hkx hw (hts _ (List.mem_of_getElem? (i := 5) rfl)) dX7_entry_86 ?_
            refine lv_iload hx hb dX7_entry_89 (lv_at hl 0 rfl) ?_
            refine lv_iload_n hx hb dX7_entry_91 rfl (lv_at hl 4 rfl) ?_
            obtain ⟨b_15, h⟩ := h
            refine cs_efw hx hb hkx hw b_15 dX7_entry_92 (fun σ_16 eσ_16 H locs hw => ?_)
            replace h := h σ_16 eσ_16
            refine lv_aload_n hx hb dX7_entry_93 rfl (lv_at hl 1 rfl) ?_
            refine cg_cf_listing hx hb hts inw_X7_entry_X7 hown hkx hw (hts _ (List.mem_of_getElem? (i := 1) rfl)) dX7_entry_94 ?_
            refine cg_li_lastWords hx hb hts inw_X7_entry_X2 hown hkx hw (hts _ (List.mem_of_getElem? (i := 6) rfl)) dX7_entry_97 ?_
            refine lv_iload hx hb dX7_entry_100 (lv_at hl 0 rfl) ?_
            refine lv_iload hx hb dX7_entry_102 (lv_at hl 5 rfl) ?_
            obtain ⟨b_17, h⟩ := h
            refine cs_elw hx hb hkx hw b_17 dX7_entry_104 (fun σ_18 eσ_18 H locs hw => ?_)
            replace h := h σ_18 eσ_18
            refine lv_aload_n hx hb dX7_entry_105 rfl (lv_at hl 1 rfl) ?_
            refine cg_cf_listing hx hb hts inw_X7_entry_X7 hown hkx hw (hts _ (List.mem_of_getElem? (i := 1) rfl)) dX7_entry_106 ?_
            refine lv_iload hx hb dX7_entry_109 (lv_at hl 0 rfl) ?_
            refine lv_iconst (v := 1) hx hb dX7_entry_111 (by decide) ?_
            refine lv_iadd hx hb dX7_entry_112 ?_
            refine cp_li_count hx hb hts inw_X7_entry_X2 hown hkx hw (hts _ (List.mem_of_getElem? (i := 2) rfl)) dX7_entry_113 (fun σ_19 eσ_19 H locs hw => ?_)
            replace h := h σ_19 eσ_19
            refine lv_aload_n hx hb dX7_entry_116 rfl (lv_at hl 1 rfl) ?_
            refine lv_iconst (v := 1) hx hb dX7_entry_117 (by decide) ?_
            refine cp_cf_listingIsOld hx hb hts inw_X7_entry_X7 hown hkx hw (hts _ (List.mem_of_getElem? (i := 7) rfl)) (Or.inr rfl) dX7_entry_118 (fun σ_20 eσ_20 H locs hw => ?_)
            replace h := h σ_20 eσ_20
            refine lv_iload hx hb dX7_entry_121 (lv_at hl 0 rfl) ?_
            exact end_i (w1 := (cfU cy ad)) (u := (κ, σ_20, τ)) C0 hw h dX7_entry_123
          · replace h := h.2 c_9
            refine lv_iconst (v := -1) hx hb dX7_entry_49 (by decide) ?_
            exact end_i (w1 := (cfU cy ad)) (u := (κ, σ, τ)) C0 hw h dX7_entry_50
    · replace h := h.2 c_3
      refine lv_iconst (v := -1) hx hb dX7_entry_21 (by decide) ?_
      exact end_i (w1 := (cfU cy ad)) (u := (κ, σ, τ)) C0 hw h dX7_entry_22
end
theorem hd_X7_clear : yX7_clear.cls = RX7 ∧ yX7_clear.cls ≠ "java/lang/invoke/MethodHandle" ∧ yX7_clear.cls ≠ "java/lang/invoke/VarHandle" ∧ (parseMethodDescriptor yX7_clear.desc).map (fun d => d.parameters.length) = some 0 := by decide +kernel
section
variable {p : Program} {l : Launch} {e : Env} {s : State} {m : MethodId} {args : Array Value} {below : List Frame} {meth : Method} {c : Code} {D : va_G} {cy : Nat → ClassId} {A : Nat → Prop} {ad : Nat → Nat}
abbrev rm_X7_clear : Room := { frames := 0, cells := 0, slots := 0, locals := 0 }
theorem inw_X7_clear_X7 : ∀ w ∈ u_ws RX7 TX7 9, w ∈ wsX7_clear := fun _ h => List.mem_cons_of_mem _ (List.mem_append_left _ (List.mem_append_right _ h))
theorem inw_X7_clear_X2 : ∀ w ∈ u_ws RX2 TX2 15, w ∈ wsX7_clear := fun _ h => List.mem_cons_of_mem _ (List.mem_append_right _ h)
def wp_X7_clear (σ : Sg) (τ : Tg) (post : Int32 → Sg → Tg → Prop) : Prop :=
    ∀ y_1 : Int32, y_1 = (σ 10 0) →
    ∀ σ_2 : Sg, σ_2 = va_up σ 10 (fun _ => (0 : Int32)) →
    ∀ σ_3 : Sg, σ_3 = va_up σ_2 1 (fun _ => (1 : Int32)) →
    post y_1 σ_3 τ
set_option maxHeartbeats 4000000 in
set_option maxRecDepth 100000 in
theorem c_X7_clear (l : Launch) (D : va_G) (cy : Nat → ClassId) (ad κ : Nat → Nat) (σ : Sg) (τ : Tg) (post : Int32 → Sg → Tg → Prop) (h : wp_X7_clear σ τ post) : Ct l yX7_clear wsX7_clear rm_X7_clear D cy [.ref (ad 0)] (cfW cy ad κ σ τ) 0 0 (Ri D (cfU cy ad) (fun r u => post r u.2.1 u.2.2)) := by
  refine Ct.of (cc := cX7_clear) (maxL := 2) (rt := (some .int)) (by decide) rfl (Nat.le_of_ble_eq_true rfl) ?_
  intro p e s m below meth c A C0 _ H locs ls hw hl
  obtain ⟨⟨hx, hb, hml, hown, hts⟩, hr, hlocks, hkx, hA⟩ := id C0
  have hl : lv_has ls 2 [(0, .ref (ad 0))] := hl
  unfold wp_X7_clear at h
  refine lv_aload_n hx hb dX7_clear_0 rfl (lv_at hl 0 rfl) ?_
  refine cg_cf_listing hx hb hts inw_X7_clear_X7 hown hkx hw (hts _ (List.mem_of_getElem? (i := 1) rfl)) dX7_clear_1 ?_
  refine cg_li_count hx hb hts inw_X7_clear_X2 hown hkx hw (hts _ (List.mem_of_getElem? (i := 2) rfl)) dX7_clear_4 ?_
  refine lv_topi (fun y_1 ey_1 => ?_)
  replace h := h y_1 ey_1
  refine lv_istore_n (lv' := [(1, .int y_1), (0, .ref (ad 0))]) hx hb dX7_clear_7 rfl hl (by decide) rfl (fun ls hl => ?_)
  refine lv_aload_n hx hb dX7_clear_8 rfl (lv_at hl 1 rfl) ?_
  refine cg_cf_listing hx hb hts inw_X7_clear_X7 hown hkx hw (hts _ (List.mem_of_getElem? (i := 1) rfl)) dX7_clear_9 ?_
  refine lv_iconst (v := 0) hx hb dX7_clear_12 (by decide) ?_
  refine cp_li_count hx hb hts inw_X7_clear_X2 hown hkx hw (hts _ (List.mem_of_getElem? (i := 2) rfl)) dX7_clear_13 (fun σ_2 eσ_2 H locs hw => ?_)
  replace h := h σ_2 eσ_2
  refine lv_aload_n hx hb dX7_clear_16 rfl (lv_at hl 1 rfl) ?_
  refine lv_iconst (v := 1) hx hb dX7_clear_17 (by decide) ?_
  refine cp_cf_listingIsOld hx hb hts inw_X7_clear_X7 hown hkx hw (hts _ (List.mem_of_getElem? (i := 3) rfl)) (Or.inr rfl) dX7_clear_18 (fun σ_3 eσ_3 H locs hw => ?_)
  replace h := h σ_3 eσ_3
  refine lv_iload_n hx hb dX7_clear_21 rfl (lv_at hl 0 rfl) ?_
  exact end_i (w1 := (cfU cy ad)) (u := (κ, σ_3, τ)) C0 hw h dX7_clear_22
end
theorem hd_X7_partner : yX7_partner.cls = RX7 ∧ yX7_partner.cls ≠ "java/lang/invoke/MethodHandle" ∧ yX7_partner.cls ≠ "java/lang/invoke/VarHandle" ∧ (parseMethodDescriptor yX7_partner.desc).map (fun d => d.parameters.length) = some 1 := by decide +kernel
section
variable {p : Program} {l : Launch} {e : Env} {s : State} {m : MethodId} {args : Array Value} {below : List Frame} {meth : Method} {c : Code} {D : va_G} {cy : Nat → ClassId} {A : Nat → Prop} {ad : Nat → Nat}
abbrev rm_X7_partner : Room := { frames := 7, cells := 0, slots := 0, locals := 182 }
theorem inw_X7_partner_X7 : ∀ w ∈ u_ws RX7 TX7 9, w ∈ wsX7_partner := fun _ h => List.mem_cons_of_mem _ (List.mem_append_left _ (List.mem_append_left _ (List.mem_append_left _ (List.mem_append_left _ (List.mem_append_left _ (List.mem_append_left _ (List.mem_append_right _ h)))))))
theorem inw_X7_partner_X2 : ∀ w ∈ u_ws RX2 TX2 15, w ∈ wsX7_partner := fun _ h => List.mem_cons_of_mem _ (List.mem_append_left _ (List.mem_append_left _ (List.mem_append_left _ (List.mem_append_left _ (List.mem_append_left _ (List.mem_append_right _ h))))))
def wp_X7_partner (x1 : Int32) (σ : Sg) (τ : Tg) (post : Int32 → Sg → Tg → Prop) : Prop :=
    wp_X7_isWithin x1 (0 : Int32) ((σ 10 0) - (1 : Int32)) (fun r_1 =>
    (¬ r_1 = 0 →
    wp_X7_freshListing σ τ (fun σ_3 τ_4 =>
    vp_in x1 12 ∧
    post (σ_3 38 x1.toNatClampNeg) σ_3 τ_4)) ∧
    (r_1 = 0 →
    post (-1 : Int32) σ τ))
set_option maxHeartbeats 4000000 in
set_option maxRecDepth 100000 in
theorem c_X7_partner (l : Launch) (D : va_G) (cy : Nat → ClassId) (ad κ : Nat → Nat) (σ : Sg) (τ : Tg) (x1 : Int32) (post : Int32 → Sg → Tg → Prop) (h : wp_X7_partner x1 σ τ post) : Ct l yX7_partner wsX7_partner rm_X7_partner D cy [.ref (ad 0), .int x1] (cfW cy ad κ σ τ) 0 0 (Ri D (cfU cy ad) (fun r u => post r u.2.1 u.2.2)) := by
  refine Ct.of (cc := cX7_partner) (maxL := 2) (rt := (some .int)) (by decide) rfl (Nat.le_of_ble_eq_true rfl) ?_
  intro p e s m below meth c A C0 _ H locs ls hw hl
  obtain ⟨⟨hx, hb, hml, hown, hts⟩, hr, hlocks, hkx, hA⟩ := id C0
  have hl : lv_has ls 2 [(0, .ref (ad 0)), (1, .int x1)] := hl
  unfold wp_X7_partner at h
  refine lv_iload_n hx hb dX7_partner_0 rfl (lv_at hl 1 rfl) ?_
  refine lv_iconst (v := 0) hx hb dX7_partner_1 (by decide) ?_
  refine lv_aload_n hx hb dX7_partner_2 rfl (lv_at hl 0 rfl) ?_
  refine cg_cf_listing hx hb hts inw_X7_partner_X7 hown hkx hw (hts _ (List.mem_of_getElem? (i := 1) rfl)) dX7_partner_3 ?_
  refine cg_li_count hx hb hts inw_X7_partner_X2 hown hkx hw (hts _ (List.mem_of_getElem? (i := 2) rfl)) dX7_partner_6 ?_
  refine lv_iconst (v := 1) hx hb dX7_partner_9 (by decide) ?_
  refine lv_isub hx hb dX7_partner_10 ?_
  refine call_S0i (As := [.int x1, .int (0 : Int32), .int ((σ 10 0) - (1 : Int32))]) ⟨hx, hb, hml, hown, hts⟩ hkx hw hA (c_X7_isWithin l D cy x1 (0 : Int32) ((σ 10 0) - (1 : Int32)) _ h) (va_cwS 3 hts gX7_partner_X7_isWithin rfl rfl rfl hd_X7_isWithin ⟨Nat.le_of_ble_eq_true rfl, Nat.le_of_ble_eq_true rfl⟩) rfl hl.1 rfl (Nat.le_of_ble_eq_true rfl) dX7_partner_11 ⟨Nat.zero_le _, Nat.zero_le _⟩ (fun r_1 H locs h hw => ?_)
  refine lv_if_ne (tgt := 19) hx hb dX7_partner_14 (by decide) (fun c_2 => ?_) (fun c_2 => ?_)
  · replace h := h.1 c_2
    refine lv_aload_n hx hb dX7_partner_19 rfl (lv_at hl 0 rfl) ?_
    refine cf_Vr (As := []) ⟨hx, hb, hml, hown, hts⟩ hkx hw hA (c_X7_freshListing l D cy ad κ σ τ _ h) (cwV 0 hts gX7_partner_X7_freshListing rfl rfl rfl hd_X7_freshListing ⟨Nat.le_of_ble_eq_true rfl, Nat.le_of_ble_eq_true rfl⟩) 0 7 rfl rfl rfl hl.1 rfl (Nat.le_of_ble_eq_true rfl) dX7_partner_20 ⟨Nat.zero_le _, Nat.zero_le _⟩ (fun κ σ_3 τ_4 H locs h hw => ?_)
    refine cg_li_partnerOfEntry hx hb hts inw_X7_partner_X2 hown hkx hw (hts _ (List.mem_of_getElem? (i := 3) rfl)) dX7_partner_23 ?_
    refine lv_iload_n hx hb dX7_partner_26 rfl (lv_at hl 1 rfl) ?_
    obtain ⟨b_5, h⟩ := h
    refine ca_poe hx hb hkx hw b_5 dX7_partner_27 ?_
    exact end_i (w1 := (cfU cy ad)) (u := (κ, σ_3, τ_4)) C0 hw h dX7_partner_28
  · replace h := h.2 c_2
    refine lv_iconst (v := -1) hx hb dX7_partner_17 (by decide) ?_
    exact end_i (w1 := (cfU cy ad)) (u := (κ, σ, τ)) C0 hw h dX7_partner_18
end
theorem hd_X7_span : yX7_span.cls = RX7 ∧ yX7_span.cls ≠ "java/lang/invoke/MethodHandle" ∧ yX7_span.cls ≠ "java/lang/invoke/VarHandle" ∧ (parseMethodDescriptor yX7_span.desc).map (fun d => d.parameters.length) = some 1 := by decide +kernel
section
variable {p : Program} {l : Launch} {e : Env} {s : State} {m : MethodId} {args : Array Value} {below : List Frame} {meth : Method} {c : Code} {D : va_G} {cy : Nat → ClassId} {A : Nat → Prop} {ad : Nat → Nat}
abbrev rm_X7_span : Room := { frames := 6, cells := 0, slots := 0, locals := 136 }
theorem inw_X7_span_X7 : ∀ w ∈ u_ws RX7 TX7 9, w ∈ wsX7_span := fun _ h => List.mem_cons_of_mem _ (List.mem_append_left _ (List.mem_append_left _ (List.mem_append_left _ (List.mem_append_right _ h))))
theorem inw_X7_span_X5 : ∀ w ∈ u_ws RX5 TX5 10, w ∈ wsX7_span := fun _ h => List.mem_cons_of_mem _ (List.mem_append_left _ (List.mem_append_left _ (List.mem_append_right _ h)))
def wp_X7_span (x1 : Int32) (σ : Sg) (τ : Tg) (post : Int32 → Sg → Tg → Prop) : Prop :=
    wp_X3_has x1 σ τ (fun r_1 σ_2 τ_3 =>
    (¬ r_1 = 0 →
    wp_X7_freshShifts σ_2 τ_3 (fun σ_5 τ_6 =>
    vp_in x1 60 ∧
    post (σ_5 43 x1.toNatClampNeg) σ_5 τ_6)) ∧
    (r_1 = 0 →
    post (-1 : Int32) σ_2 τ_3))
set_option maxHeartbeats 4000000 in
set_option maxRecDepth 100000 in
theorem c_X7_span (l : Launch) (D : va_G) (cy : Nat → ClassId) (ad κ : Nat → Nat) (σ : Sg) (τ : Tg) (x1 : Int32) (post : Int32 → Sg → Tg → Prop) (h : wp_X7_span x1 σ τ post) : Ct l yX7_span wsX7_span rm_X7_span D cy [.ref (ad 0), .int x1] (cfW cy ad κ σ τ) 0 0 (Ri D (cfU cy ad) (fun r u => post r u.2.1 u.2.2)) := by
  refine Ct.of (cc := cX7_span) (maxL := 2) (rt := (some .int)) (by decide) rfl (Nat.le_of_ble_eq_true rfl) ?_
  intro p e s m below meth c A C0 _ H locs ls hw hl
  obtain ⟨⟨hx, hb, hml, hown, hts⟩, hr, hlocks, hkx, hA⟩ := id C0
  have hl : lv_has ls 2 [(0, .ref (ad 0)), (1, .int x1)] := hl
  unfold wp_X7_span at h
  refine lv_aload_n hx hb dX7_span_0 rfl (lv_at hl 0 rfl) ?_
  refine cg_cf_pages hx hb hts inw_X7_span_X7 hown hkx hw (hts _ (List.mem_of_getElem? (i := 1) rfl)) dX7_span_1 ?_
  refine lv_iload_n hx hb dX7_span_4 rfl (lv_at hl 1 rfl) ?_
  refine cf_Vi (As := [.int x1]) ⟨hx, hb, hml, hown, hts⟩ hkx hw hA (c_X3_has l D cy ad κ σ τ x1 _ h) (cwV 1 hts gX7_span_X3_has rfl rfl rfl hd_X3_has ⟨Nat.le_of_ble_eq_true rfl, Nat.le_of_ble_eq_true rfl⟩) 2 3 rfl rfl rfl hl.1 rfl (Nat.le_of_ble_eq_true rfl) dX7_span_5 ⟨Nat.zero_le _, Nat.zero_le _⟩ (fun r_1 κ σ_2 τ_3 H locs h hw => ?_)
  refine lv_if_ne (tgt := 13) hx hb dX7_span_8 (by decide) (fun c_4 => ?_) (fun c_4 => ?_)
  · replace h := h.1 c_4
    refine lv_aload_n hx hb dX7_span_13 rfl (lv_at hl 0 rfl) ?_
    refine cf_Vr (As := []) ⟨hx, hb, hml, hown, hts⟩ hkx hw hA (c_X7_freshShifts l D cy ad κ σ_2 τ_3 _ h) (cwV 0 hts gX7_span_X7_freshShifts rfl rfl rfl hd_X7_freshShifts ⟨Nat.le_of_ble_eq_true rfl, Nat.le_of_ble_eq_true rfl⟩) 0 7 rfl rfl rfl hl.1 rfl (Nat.le_of_ble_eq_true rfl) dX7_span_14 ⟨Nat.zero_le _, Nat.zero_le _⟩ (fun κ σ_5 τ_6 H locs h hw => ?_)
    refine cg_sh_firstOfPage hx hb hts inw_X7_span_X5 hown hkx hw (hts _ (List.mem_of_getElem? (i := 2) rfl)) dX7_span_17 ?_
    refine lv_iload_n hx hb dX7_span_20 rfl (lv_at hl 1 rfl) ?_
    obtain ⟨b_7, h⟩ := h
    refine ca_fop hx hb hkx hw b_7 dX7_span_21 ?_
    exact end_i (w1 := (cfU cy ad)) (u := (κ, σ_5, τ_6)) C0 hw h dX7_span_22
  · replace h := h.2 c_4
    refine lv_iconst (v := -1) hx hb dX7_span_11 (by decide) ?_
    exact end_i (w1 := (cfU cy ad)) (u := (κ, σ_2, τ_3)) C0 hw h dX7_span_12
end
theorem hd_X7_wrong : yX7_wrong.cls = RX7 ∧ yX7_wrong.cls ≠ "java/lang/invoke/MethodHandle" ∧ yX7_wrong.cls ≠ "java/lang/invoke/VarHandle" ∧ (parseMethodDescriptor yX7_wrong.desc).map (fun d => d.parameters.length) = some 1 := by decide +kernel
section
variable {p : Program} {l : Launch} {e : Env} {s : State} {m : MethodId} {args : Array Value} {below : List Frame} {meth : Method} {c : Code} {D : va_G} {cy : Nat → ClassId} {A : Nat → Prop} {ad : Nat → Nat}
abbrev rm_X7_wrong : Room := { frames := 6, cells := 0, slots := 0, locals := 136 }
theorem inw_X7_wrong_X7 : ∀ w ∈ u_ws RX7 TX7 9, w ∈ wsX7_wrong := fun _ h => List.mem_cons_of_mem _ (List.mem_append_left _ (List.mem_append_left _ (List.mem_append_left _ (List.mem_append_right _ h))))
def wp_X7_wrong (x1 : Int32) (σ : Sg) (τ : Tg) (post : Int32 → Sg → Tg → Prop) : Prop :=
    wp_X3_has x1 σ τ (fun r_1 σ_2 τ_3 =>
    (¬ r_1 = 0 →
    wp_X7_freshShifts σ_2 τ_3 (fun σ_5 τ_6 =>
    wp_X5_isWrong x1 σ_5 τ_6 (fun r_7 σ_8 τ_9 =>
    (r_7 = 0 →
    post (0 : Int32) σ_8 τ_9) ∧
    (¬ r_7 = 0 →
    post (1 : Int32) σ_8 τ_9)))) ∧
    (r_1 = 0 →
    post (-1 : Int32) σ_2 τ_3))
set_option maxHeartbeats 4000000 in
set_option maxRecDepth 100000 in
theorem c_X7_wrong (l : Launch) (D : va_G) (cy : Nat → ClassId) (ad κ : Nat → Nat) (σ : Sg) (τ : Tg) (x1 : Int32) (post : Int32 → Sg → Tg → Prop) (h : wp_X7_wrong x1 σ τ post) : Ct l yX7_wrong wsX7_wrong rm_X7_wrong D cy [.ref (ad 0), .int x1] (cfW cy ad κ σ τ) 0 0 (Ri D (cfU cy ad) (fun r u => post r u.2.1 u.2.2)) := by
  refine Ct.of (cc := cX7_wrong) (maxL := 2) (rt := (some .int)) (by decide) rfl (Nat.le_of_ble_eq_true rfl) ?_
  intro p e s m below meth c A C0 _ H locs ls hw hl
  obtain ⟨⟨hx, hb, hml, hown, hts⟩, hr, hlocks, hkx, hA⟩ := id C0
  have hl : lv_has ls 2 [(0, .ref (ad 0)), (1, .int x1)] := hl
  unfold wp_X7_wrong at h
  refine lv_aload_n hx hb dX7_wrong_0 rfl (lv_at hl 0 rfl) ?_
  refine cg_cf_pages hx hb hts inw_X7_wrong_X7 hown hkx hw (hts _ (List.mem_of_getElem? (i := 1) rfl)) dX7_wrong_1 ?_
  refine lv_iload_n hx hb dX7_wrong_4 rfl (lv_at hl 1 rfl) ?_
  refine cf_Vi (As := [.int x1]) ⟨hx, hb, hml, hown, hts⟩ hkx hw hA (c_X3_has l D cy ad κ σ τ x1 _ h) (cwV 1 hts gX7_wrong_X3_has rfl rfl rfl hd_X3_has ⟨Nat.le_of_ble_eq_true rfl, Nat.le_of_ble_eq_true rfl⟩) 2 3 rfl rfl rfl hl.1 rfl (Nat.le_of_ble_eq_true rfl) dX7_wrong_5 ⟨Nat.zero_le _, Nat.zero_le _⟩ (fun r_1 κ σ_2 τ_3 H locs h hw => ?_)
  refine lv_if_ne (tgt := 13) hx hb dX7_wrong_8 (by decide) (fun c_4 => ?_) (fun c_4 => ?_)
  · replace h := h.1 c_4
    refine lv_aload_n hx hb dX7_wrong_13 rfl (lv_at hl 0 rfl) ?_
    refine cf_Vr (As := []) ⟨hx, hb, hml, hown, hts⟩ hkx hw hA (c_X7_freshShifts l D cy ad κ σ_2 τ_3 _ h) (cwV 0 hts gX7_wrong_X7_freshShifts rfl rfl rfl hd_X7_freshShifts ⟨Nat.le_of_ble_eq_true rfl, Nat.le_of_ble_eq_true rfl⟩) 0 7 rfl rfl rfl hl.1 rfl (Nat.le_of_ble_eq_true rfl) dX7_wrong_14 ⟨Nat.zero_le _, Nat.zero_le _⟩ (fun κ σ_5 τ_6 H locs h hw => ?_)
    refine lv_iload_n hx hb dX7_wrong_17 rfl (lv_at hl 1 rfl) ?_
    refine cf_Vi (As := [.int x1]) ⟨hx, hb, hml, hown, hts⟩ hkx hw hA (c_X5_isWrong l D cy ad κ σ_5 τ_6 x1 _ h) (cwV 1 hts gX7_wrong_X5_isWrong rfl rfl rfl hd_X5_isWrong ⟨Nat.le_of_ble_eq_true rfl, Nat.le_of_ble_eq_true rfl⟩) 7 5 rfl rfl rfl hl.1 rfl (Nat.le_of_ble_eq_true rfl) dX7_wrong_18 ⟨Nat.zero_le _, Nat.zero_le _⟩ (fun r_7 κ σ_8 τ_9 H locs h hw => ?_)
    refine lv_if_eq (tgt := 28) hx hb dX7_wrong_21 (by decide) (fun c_10 => ?_) (fun c_10 => ?_)
    · replace h := h.1 c_10
      refine lv_iconst (v := 0) hx hb dX7_wrong_28 (by decide) ?_
      exact end_i (w1 := (cfU cy ad)) (u := (κ, σ_8, τ_9)) C0 hw h dX7_wrong_29
    · replace h := h.2 c_10
      refine lv_iconst (v := 1) hx hb dX7_wrong_24 (by decide) ?_
      refine lv_goto (tgt := 29) hx hb dX7_wrong_25 (by decide) ?_
      exact end_i (w1 := (cfU cy ad)) (u := (κ, σ_8, τ_9)) C0 hw h dX7_wrong_29
  · replace h := h.2 c_4
    refine lv_iconst (v := -1) hx hb dX7_wrong_11 (by decide) ?_
    exact end_i (w1 := (cfU cy ad)) (u := (κ, σ_2, τ_3)) C0 hw h dX7_wrong_12
end
