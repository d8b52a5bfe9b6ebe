theorem hd_X3_has : yX3_has.cls = RX3 ∧ yX3_has.cls ≠ "java/lang/invoke/MethodHandle" ∧ yX3_has.cls ≠ "java/lang/invoke/VarHandle" ∧ (parseMethodDescriptor yX3_has.desc).map (fun d => d.parameters.length) = some 1 := by decide +kernel
section
variable {p : Program} {l : Launch} {e : Env} {s : State} {m : MethodId} {args : Array Value} {below : List Frame} {meth : Method} {c : Code} {D : va_G} {cy : Nat → ClassId} {A : Nat → Prop} {ad : Nat → Nat}
abbrev rm_X3_has : Room := { frames := 1, cells := 0, slots := 0, locals := 22 }
theorem inw_X3_has_X3 : ∀ w ∈ u_ws RX3 TX3 2, w ∈ wsX3_has := fun _ h => List.mem_cons_of_mem _ (List.mem_append_right _ h)
def wp_X3_has (x1 : Int32) (σ : Sg) (τ : Tg) (post : Int32 → Sg → Tg → Prop) : Prop :=
    wp_X7_isWithin x1 (0 : Int32) ((σ 4 0) - (1 : Int32)) (fun r_1 =>
    bz r_1 ∧ post r_1 σ τ)
set_option maxHeartbeats 4000000 in
set_option maxRecDepth 100000 in
theorem c_X3_has (l : Launch) (D : va_G) (cy : Nat → ClassId) (ad κ : Nat → Nat) (σ : Sg) (τ : Tg) (x1 : Int32) (post : Int32 → Sg → Tg → Prop) (h : wp_X3_has x1 σ τ post) : Ct l yX3_has wsX3_has rm_X3_has D cy [.ref (ad 2), .int x1] (cfW cy ad κ σ τ) 0 0 (Ri D (cfU cy ad) (fun r u => post r u.2.1 u.2.2)) := by
  refine Ct.of (cc := cX3_has) (maxL := 2) (rt := (some .boolean)) (by decide) rfl (Nat.le_of_ble_eq_true rfl) ?_
  intro p e s m below meth c A C0 _ H locs ls hw hl
  obtain ⟨⟨hx, hb, hml, hown, hts⟩, hr, hlocks, hkx, hA⟩ := id C0
  have hl : lv_has ls 2 [(0, .ref (ad 2)), (1, .int x1)] := hl
  unfold wp_X3_has at h
  refine lv_iload_n hx hb dX3_has_0 rfl (lv_at hl 1 rfl) ?_
  refine lv_iconst (v := 0) hx hb dX3_has_1 (by decide) ?_
  refine lv_aload_n hx hb dX3_has_2 rfl (lv_at hl 0 rfl) ?_
  refine cg_pg_count hx hb hts inw_X3_has_X3 hown hkx hw (hts _ (List.mem_of_getElem? (i := 1) rfl)) dX3_has_3 ?_
  refine lv_iconst (v := 1) hx hb dX3_has_6 (by decide) ?_
  refine lv_isub hx hb dX3_has_7 ?_
  refine call_N0i (As := [.int x1, .int (0 : Int32), .int ((σ 4 0) - (1 : Int32))]) ⟨hx, hb, hml, hown, hts⟩ hkx hw hA (c_X7_isWithin l D cy x1 (0 : Int32) ((σ 4 0) - (1 : Int32)) _ h) ⟨va_cnB 3 hts gX3_has_X7_isWithin_n25 rfl rfl rfl hkx.2.1 (hts _ (List.mem_of_getElem? (i := 3) rfl)) hd_X7_isWithin ⟨Nat.le_of_ble_eq_true rfl, Nat.le_of_ble_eq_true rfl⟩, (hts _ (List.mem_of_getElem? (i := 2) rfl)), trivial⟩ rfl hl.1 rfl (Nat.le_of_ble_eq_true rfl) dX3_has_8 ⟨Nat.zero_le _, Nat.zero_le _⟩ (fun r_1 H locs h hw => ?_)
  exact end_z (w1 := (cfU cy ad)) (u := (κ, σ, τ)) C0 hw h.1 h.2 dX3_has_11
end
theorem hd_X3_begin : yX3_begin.cls = RX3 ∧ yX3_begin.cls ≠ "java/lang/invoke/MethodHandle" ∧ yX3_begin.cls ≠ "java/lang/invoke/VarHandle" ∧ (parseMethodDescriptor yX3_begin.desc).map (fun d => d.parameters.length) = some 1 := by decide +kernel
section
variable {p : Program} {l : Launch} {e : Env} {s : State} {m : MethodId} {args : Array Value} {below : List Frame} {meth : Method} {c : Code} {D : va_G} {cy : Nat → ClassId} {A : Nat → Prop} {ad : Nat → Nat}
abbrev rm_X3_begin : Room := { frames := 1, cells := 0, slots := 0, locals := 23 }
theorem inw_X3_begin_X3 : ∀ w ∈ u_ws RX3 TX3 2, w ∈ wsX3_begin := fun _ h => List.mem_cons_of_mem _ (List.mem_append_right _ h)
def wp_X3_begin (x1 : Int32) (σ : Sg) (τ : Tg) (post : Sg → Tg → Prop) : Prop :=
    ∀ σ_1 : Sg, σ_1 = va_up σ 4 (fun _ => x1) →
    ∀ f_3 : Nat → Int32, (∀ j, j < 60 → f_3 j = (0 : Int32)) → (∀ j, 60 ≤ j → f_3 j = σ_1 18 j) → ∀ σ_2 : Sg, σ_2 = va_up σ_1 18 f_3 →
    post σ_2 τ
set_option maxHeartbeats 4000000 in
set_option maxRecDepth 100000 in
theorem c_X3_begin (l : Launch) (D : va_G) (cy : Nat → ClassId) (ad κ : Nat → Nat) (σ : Sg) (τ : Tg) (x1 : Int32) (post : Sg → Tg → Prop) (h : wp_X3_begin x1 σ τ post) : Ct l yX3_begin wsX3_begin rm_X3_begin D cy [.ref (ad 2), .int x1] (cfW cy ad κ σ τ) 0 0 (Rv D (cfU cy ad) (fun u => post u.2.1 u.2.2)) := by
  refine Ct.of (cc := cX3_begin) (maxL := 2) (rt := none) (by decide) rfl (Nat.le_of_ble_eq_true rfl) ?_
  intro p e s m below meth c A C0 _ H locs ls hw hl
  obtain ⟨⟨hx, hb, hml, hown, hts⟩, hr, hlocks, hkx, hA⟩ := id C0
  have hl : lv_has ls 2 [(0, .ref (ad 2)), (1, .int x1)] := hl
  unfold wp_X3_begin at h
  refine lv_aload_n hx hb dX3_begin_0 rfl (lv_at hl 0 rfl) ?_
  refine lv_iload_n hx hb dX3_begin_1 rfl (lv_at hl 1 rfl) ?_
  refine cp_pg_count hx hb hts inw_X3_begin_X3 hown hkx hw (hts _ (List.mem_of_getElem? (i := 1) rfl)) dX3_begin_2 (fun σ_1 eσ_1 H locs hw => ?_)
  replace h := h σ_1 eσ_1
  refine lv_aload_n hx hb dX3_begin_5 rfl (lv_at hl 0 rfl) ?_
  refine cg_pg_readNumber hx hb hts inw_X3_begin_X3 hown hkx hw (hts _ (List.mem_of_getElem? (i := 2) rfl)) dX3_begin_6 ?_
  refine lv_iconst (v := 0) hx hb dX3_begin_9 (by decide) ?_
  refine cfill_readNumber ⟨hx, hb, hml, hown, hts⟩ hkx hw hA (va_cwS 2 hts gX3_begin_J7_fill_53178 rfl rfl rfl hd_J7_fill_53178 ⟨Nat.le_of_ble_eq_true rfl, Nat.le_of_ble_eq_true rfl⟩) hl.1 (Nat.le_of_ble_eq_true rfl) dX3_begin_10 ⟨Nat.zero_le _, Nat.zero_le _⟩ (fun f_3 h1 h2 σ_2 eσ_2 H locs hw => ?_)
  replace h := h f_3 h1 h2 σ_2 eσ_2
  exact end_v (w1 := (cfU cy ad)) (u := (κ, σ_2, τ)) C0 hw h dX3_begin_13
end
theorem hd_X1_has : yX1_has.cls = RX1 ∧ yX1_has.cls ≠ "java/lang/invoke/MethodHandle" ∧ yX1_has.cls ≠ "java/lang/invoke/VarHandle" ∧ (parseMethodDescriptor yX1_has.desc).map (fun d => d.parameters.length) = some 1 := by decide +kernel
section
variable {p : Program} {l : Launch} {e : Env} {s : State} {m : MethodId} {args : Array Value} {below : List Frame} {meth : Method} {c : Code} {D : va_G} {cy : Nat → ClassId} {A : Nat → Prop} {ad : Nat → Nat}
abbrev rm_X1_has : Room := { frames := 1, cells := 0, slots := 0, locals := 22 }
theorem inw_X1_has_X1 : ∀ w ∈ u_ws RX1 TX1 9, w ∈ wsX1_has := fun _ h => List.mem_cons_of_mem _ (List.mem_append_right _ h)
def wp_X1_has (x1 : Int32) (σ : Sg) (τ : Tg) (post : Int32 → Sg → Tg → Prop) : Prop :=
    wp_X7_isWithin x1 (0 : Int32) ((σ 5 0) - (1 : Int32)) (fun r_1 =>
    bz r_1 ∧ post r_1 σ τ)
set_option maxHeartbeats 4000000 in
set_option maxRecDepth 100000 in
theorem c_X1_has (l : Launch) (D : va_G) (cy : Nat → ClassId) (ad κ : Nat → Nat) (σ : Sg) (τ : Tg) (x1 : Int32) (post : Int32 → Sg → Tg → Prop) (h : wp_X1_has x1 σ τ post) : Ct l yX1_has wsX1_has rm_X1_has D cy [.ref (ad 3), .int x1] (cfW cy ad κ σ τ) 0 0 (Ri D (cfU cy ad) (fun r u => post r u.2.1 u.2.2)) := by
  refine Ct.of (cc := cX1_has) (maxL := 2) (rt := (some .boolean)) (by decide) rfl (Nat.le_of_ble_eq_true rfl) ?_
  intro p e s m below meth c A C0 _ H locs ls hw hl
  obtain ⟨⟨hx, hb, hml, hown, hts⟩, hr, hlocks, hkx, hA⟩ := id C0
  have hl : lv_has ls 2 [(0, .ref (ad 3)), (1, .int x1)] := hl
  unfold wp_X1_has at h
  refine lv_iload_n hx hb dX1_has_0 rfl (lv_at hl 1 rfl) ?_
  refine lv_iconst (v := 0) hx hb dX1_has_1 (by decide) ?_
  refine lv_aload_n hx hb dX1_has_2 rfl (lv_at hl 0 rfl) ?_
  refine cg_ln_count hx hb hts inw_X1_has_X1 hown hkx hw (hts _ (List.mem_of_getElem? (i := 1) rfl)) dX1_has_3 ?_
  refine lv_iconst (v := 1) hx hb dX1_has_6 (by decide) ?_
  refine lv_isub hx hb dX1_has_7 ?_
  refine call_N0i (As := [.int x1, .int (0 : Int32), .int ((σ 5 0) - (1 : Int32))]) ⟨hx, hb, hml, hown, hts⟩ hkx hw hA (c_X7_isWithin l D cy x1 (0 : Int32) ((σ 5 0) - (1 : Int32)) _ h) ⟨va_cnB 3 hts gX1_has_X7_isWithin_n41 rfl rfl rfl hkx.2.2.2.1 (hts _ (List.mem_of_getElem? (i := 3) rfl)) hd_X7_isWithin ⟨Nat.le_of_ble_eq_true rfl, Nat.le_of_ble_eq_true rfl⟩, (hts _ (List.mem_of_getElem? (i := 2) rfl)), trivial⟩ rfl hl.1 rfl (Nat.le_of_ble_eq_true rfl) dX1_has_8 ⟨Nat.zero_le _, Nat.zero_le _⟩ (fun r_1 H locs h hw => ?_)
  exact end_z (w1 := (cfU cy ad)) (u := (κ, σ, τ)) C0 hw h.1 h.2 dX1_has_11
end
theorem hd_X1_canFollow : yX1_canFollow.cls = RX1 ∧ yX1_canFollow.cls ≠ "java/lang/invoke/MethodHandle" ∧ yX1_canFollow.cls ≠ "java/lang/invoke/VarHandle" ∧ (parseMethodDescriptor yX1_canFollow.desc).map (fun d => d.parameters.length) = some 1 := by decide +kernel
section
variable {p : Program} {l : Launch} {e : Env} {s : State} {m : MethodId} {args : Array Value} {below : List Frame} {meth : Method} {c : Code} {D : va_G} {cy : Nat → ClassId} {A : Nat → Prop} {ad : Nat → Nat}
abbrev rm_X1_canFollow : Room := { frames := 0, cells := 0, slots := 0, locals := 0 }
theorem inw_X1_canFollow_X1 : ∀ w ∈ u_ws RX1 TX1 9, w ∈ wsX1_canFollow := fun _ h => List.mem_cons_of_mem _ (List.mem_append_right _ h)
def wp_X1_canFollow (x1 : Int32) (σ : Sg) (τ : Tg) (post : Int32 → Sg → Tg → Prop) : Prop :=
    ((σ 5 0) < (20 : Int32) →
    ((σ 5 0) = 0 →
    post (1 : Int32) σ τ) ∧
    (¬ (σ 5 0) = 0 →
    vp_in ((σ 5 0) - (1 : Int32)) 20 ∧
    (x1 < (σ 19 ((σ 5 0) - (1 : Int32)).toNatClampNeg) →
    post (0 : Int32) σ τ) ∧
    (¬ x1 < (σ 19 ((σ 5 0) - (1 : Int32)).toNatClampNeg) →
    post (1 : Int32) σ τ))) ∧
    (¬ (σ 5 0) < (20 : Int32) →
    post (0 : Int32) σ τ)
set_option maxHeartbeats 4000000 in
set_option maxRecDepth 100000 in
theorem c_X1_canFollow (l : Launch) (D : va_G) (cy : Nat → ClassId) (ad κ : Nat → Nat) (σ : Sg) (τ : Tg) (x1 : Int32) (post : Int32 → Sg → Tg → Prop) (h : wp_X1_canFollow x1 σ τ post) : Ct l yX1_canFollow wsX1_canFollow rm_X1_canFollow D cy [.ref (ad 3), .int x1] (cfW cy ad κ σ τ) 0 0 (Ri D (cfU cy ad) (fun r u => post r u.2.1 u.2.2)) := by
  refine Ct.of (cc := cX1_canFollow) (maxL := 2) (rt := (some .boolean)) (by decide) rfl (Nat.le_of_ble_eq_true rfl) ?_
  intro p e s m below meth c A C0 _ H locs ls hw hl
  obtain ⟨⟨hx, hb, hml, hown, hts⟩, hr, hlocks, hkx, hA⟩ := id C0
  have hl : lv_has ls 2 [(0, .ref (ad 3)), (1, .int x1)] := hl
  unfold wp_X1_canFollow at h
  refine lv_aload_n hx hb dX1_canFollow_0 rfl (lv_at hl 0 rfl) ?_
  refine cg_ln_count hx hb hts inw_X1_canFollow_X1 hown hkx hw (hts _ (List.mem_of_getElem? (i := 1) rfl)) dX1_canFollow_1 ?_
  refine lv_bipush (v := 20) hx hb dX1_canFollow_4 (by decide) ?_
  refine lv_icmp_lt (tgt := 11) hx hb dX1_canFollow_6 (by decide) (fun c_1 => ?_) (fun c_1 => ?_)
  · replace h := h.1 c_1
    refine lv_aload_n hx hb dX1_canFollow_11 rfl (lv_at hl 0 rfl) ?_
    refine cg_ln_count hx hb hts inw_X1_canFollow_X1 hown hkx hw (hts _ (List.mem_of_getElem? (i := 1) rfl)) dX1_canFollow_12 ?_
    refine lv_if_eq (tgt := 33) hx hb dX1_canFollow_15 (by decide) (fun c_2 => ?_) (fun c_2 => ?_)
    · replace h := h.1 c_2
      refine lv_iconst (v := 1) hx hb dX1_canFollow_33 (by decide) ?_
      refine lv_goto (tgt := 38) hx hb dX1_canFollow_34 (by decide) ?_
      exact end_z (w1 := (cfU cy ad)) (u := (κ, σ, τ)) C0 hw (Or.inr rfl) h dX1_canFollow_38
    · replace h := h.2 c_2
      refine lv_iload_n hx hb dX1_canFollow_18 rfl (lv_at hl 1 rfl) ?_
      refine lv_aload_n hx hb dX1_canFollow_19 rfl (lv_at hl 0 rfl) ?_
      refine cg_ln_page hx hb hts inw_X1_canFollow_X1 hown hkx hw (hts _ (List.mem_of_getElem? (i := 2) rfl)) dX1_canFollow_20 ?_
      refine lv_aload_n hx hb dX1_canFollow_23 rfl (lv_at hl 0 rfl) ?_
      refine cg_ln_count hx hb hts inw_X1_canFollow_X1 hown hkx hw (hts _ (List.mem_of_getElem? (i := 1) rfl)) dX1_canFollow_24 ?_
      refine lv_iconst (v := 1) hx hb dX1_canFollow_27 (by decide) ?_
      refine lv_isub hx hb dX1_canFollow_28 ?_
      obtain ⟨b_3, h⟩ := h
      refine ca_page hx hb hkx hw b_3 dX1_canFollow_29 ?_
      refine lv_icmp_lt (tgt := 37) hx hb dX1_canFollow_30 (by decide) (fun c_4 => ?_) (fun c_4 => ?_)
      · replace h := h.1 c_4
        refine lv_iconst (v := 0) hx hb dX1_canFollow_37 (by decide) ?_
        exact end_z (w1 := (cfU cy ad)) (u := (κ, σ, τ)) C0 hw (Or.inl rfl) h dX1_canFollow_38
      · replace h := h.2 c_4
        refine lv_iconst (v := 1) hx hb dX1_canFollow_33 (by decide) ?_
        refine lv_goto (tgt := 38) hx hb dX1_canFollow_34 (by decide) ?_
        exact end_z (w1 := (cfU cy ad)) (u := (κ, σ, τ)) C0 hw (Or.inr rfl) h dX1_canFollow_38
  · replace h := h.2 c_1
    refine lv_iconst (v := 0) hx hb dX1_canFollow_9 (by decide) ?_
    exact end_z (w1 := (cfU cy ad)) (u := (κ, σ, τ)) C0 hw (Or.inl rfl) h dX1_canFollow_10
end
theorem hd_X1_putSizeAndNumbers : yX1_putSizeAndNumbers.cls = RX1 ∧ yX1_putSizeAndNumbers.cls ≠ "java/lang/invoke/MethodHandle" ∧ yX1_putSizeAndNumbers.cls ≠ "java/lang/invoke/VarHandle" ∧ (parseMethodDescriptor yX1_putSizeAndNumbers.desc).map (fun d => d.parameters.length) = some 3 := by decide +kernel
section
variable {p : Program} {l : Launch} {e : Env} {s : State} {m : MethodId} {args : Array Value} {below : List Frame} {meth : Method} {c : Code} {D : va_G} {cy : Nat → ClassId} {A : Nat → Prop} {ad : Nat → Nat}
abbrev rm_X1_putSizeAndNumbers : Room := { frames := 1, cells := 0, slots := 0, locals := 20 }
theorem inw_X1_putSizeAndNumbers_X1 : ∀ w ∈ u_ws RX1 TX1 9, w ∈ wsX1_putSizeAndNumbers := fun _ h => List.mem_cons_of_mem _ (List.mem_append_right _ h)
abbrev G_X1_putSizeAndNumbers (p : Program) (l : Launch) (e : Env) (s : State) (m : MethodId) (args : Array Value) (below : List Frame) (meth : Method) (c : Code) (D : va_G) (A : Nat → Prop) (cy : Nat → ClassId) (ad : Nat → Nat) (post : Sg → Tg → Prop) : va_W → Nat → List (Nat × Value) → Nat → List Value → Prop := Gw p l e rm_X1_putSizeAndNumbers s m args below meth c D A (MQ below ((Rv D (cfU cy ad) (fun u => post u.2.1 u.2.2)) A) args s 0 0 A)
def wp_X1_putSizeAndNumbers_73 (post : Sg → Tg → Prop) (k23 : Int32 → Int32 → Int32 → Sg → Tg → Prop) (x1 : Int32) (x4 : Int32) (x5 : Int32) (x6 : Int32) (s0 : Int32) (s1 : Int32) (σ : Sg) (τ : Tg) : Prop :=
    vp_in s1 60 ∧
    ∀ σ_2 : Sg, σ_2 = va_up σ 26 (upd (σ 26) s1.toNatClampNeg s0) →
    (x6 = 0 →
    k23 x1 x4 (x5 + (-1 : Int32)) σ_2 τ) ∧
    (¬ x6 = 0 →
    ∀ y_4 : Int32, y_4 = (x4 / (100 : Int32)) →
    k23 x1 y_4 (x5 + (-1 : Int32)) σ_2 τ)
set_option maxHeartbeats 4000000 in
set_option maxRecDepth 100000 in
theorem w_X1_putSizeAndNumbers_73 (C0 : Mc p m c meth cX1_putSizeAndNumbers 7 s args wsX1_putSizeAndNumbers RX1 none D cy A) {post : Sg → Tg → Prop} {k23 : Int32 → Int32 → Int32 → Sg → Tg → Prop} (hk23 : ∀ (x1 : Int32) (x4 : Int32) (x5 : Int32) (σ : Sg) (τ : Tg), k23 x1 x4 x5 σ τ → ∀ κ : Nat → Nat, G_X1_putSizeAndNumbers p l e s m args below meth c D A cy ad post (cfW cy ad κ σ τ) 7 [(0, .ref (ad 3)), (1, .int x1), (4, .int x4), (5, .int x5)] 23 []) : ∀ (x1 : Int32) (x4 : Int32) (x5 : Int32) (x6 : Int32) (s0 : Int32) (s1 : Int32) (σ : Sg) (τ : Tg), wp_X1_putSizeAndNumbers_73 post k23 x1 x4 x5 x6 s0 s1 σ τ → ∀ κ : Nat → Nat, G_X1_putSizeAndNumbers p l e s m args below meth c D A cy ad post (cfW cy ad κ σ τ) 7 [(0, .ref (ad 3)), (1, .int x1), (4, .int x4), (5, .int x5), (6, .int x6)] 73 [.int s0, .int s1, .ref (ad 18)] := by
  obtain ⟨⟨hx, hb, hml, hown, hts⟩, hr, hlocks, hkx, hA⟩ := id C0
  intro x1 x4 x5 x6 s0 s1 σ τ h κ H locs ls hw hl
  unfold wp_X1_putSizeAndNumbers_73 at h
  obtain ⟨b_1, h⟩ := h
  refine cs_part hx hb hkx hw b_1 dX1_putSizeAndNumbers_73 (fun σ_2 eσ_2 H locs hw => ?_)
  replace h := h σ_2 eσ_2
  refine lv_iload hx hb dX1_putSizeAndNumbers_74 (lv_at hl 4 rfl) ?_
  refine lv_if_eq (tgt := 87) hx hb dX1_putSizeAndNumbers_76 (by decide) (fun c_3 => ?_) (fun c_3 => ?_)
  · replace h := h.1 c_3
    refine lv_iload hx hb dX1_putSizeAndNumbers_87 (lv_at hl 2 rfl) ?_
    refine lv_istore (lv' := [(4, .int x4), (0, .ref (ad 3)), (1, .int x1), (5, .int x5), (6, .int x6)]) hx hb dX1_putSizeAndNumbers_89 hl (by decide) rfl (fun ls hl => ?_)
    refine lv_iinc (v := x5 + (-1 : Int32)) (lv' := [(5, .int (x5 + (-1 : Int32))), (4, .int x4), (0, .ref (ad 3)), (1, .int x1), (6, .int x6)]) hx hb dX1_putSizeAndNumbers_91 hl (k := 3) rfl rfl (by decide) rfl (fun ls hl => ?_)
    refine lv_goto (tgt := 23) hx hb dX1_putSizeAndNumbers_94 (by decide) ?_
    exact hk23 _ _ _ _ _ h _ _ _ _ hw (lv_sub hl [2, 3, 1, 0] rfl)
  · replace h := h.2 c_3
    refine lv_iload hx hb dX1_putSizeAndNumbers_79 (lv_at hl 2 rfl) ?_
    refine lv_bipush (v := 100) hx hb dX1_putSizeAndNumbers_81 (by decide) ?_
    refine lv_idiv hx hb dX1_putSizeAndNumbers_83 (by decide) ?_
    refine lv_goto (tgt := 89) hx hb dX1_putSizeAndNumbers_84 (by decide) ?_
    refine lv_topi (fun y_4 ey_4 => ?_)
    replace h := h y_4 ey_4
    refine lv_istore (lv' := [(4, .int y_4), (0, .ref (ad 3)), (1, .int x1), (5, .int x5), (6, .int x6)]) hx hb dX1_putSizeAndNumbers_89 hl (by decide) rfl (fun ls hl => ?_)
    refine lv_iinc (v := x5 + (-1 : Int32)) (lv' := [(5, .int (x5 + (-1 : Int32))), (4, .int y_4), (0, .ref (ad 3)), (1, .int x1), (6, .int x6)]) hx hb dX1_putSizeAndNumbers_91 hl (k := 3) rfl rfl (by decide) rfl (fun ls hl => ?_)
    refine lv_goto (tgt := 23) hx hb dX1_putSizeAndNumbers_94 (by decide) ?_
    exact hk23 _ _ _ _ _ h _ _ _ _ hw (lv_sub hl [2, 3, 1, 0] rfl)
def wp_X1_putSizeAndNumbers_45 (post : Sg → Tg → Prop) (k23 : Int32 → Int32 → Int32 → Sg → Tg → Prop) (x1 : Int32) (x4 : Int32) (x5 : Int32) (s0 : Int32) (σ : Sg) (τ : Tg) : Prop :=
    (s0 = 0 →
    wp_X1_putSizeAndNumbers_73 post k23 x1 x4 x5 s0 (0 : Int32) (((x1 * (3 : Int32)) + x5) - (1 : Int32)) σ τ) ∧
    (¬ s0 = 0 →
    wp_X1_putSizeAndNumbers_73 post k23 x1 x4 x5 s0 (x4 - x4 / (100 : Int32) * (100 : Int32)) (((x1 * (3 : Int32)) + x5) - (1 : Int32)) σ τ)
set_option maxHeartbeats 4000000 in
set_option maxRecDepth 100000 in
theorem w_X1_putSizeAndNumbers_45 (C0 : Mc p m c meth cX1_putSizeAndNumbers 7 s args wsX1_putSizeAndNumbers RX1 none D cy A) {post : Sg → Tg → Prop} {k23 : Int32 → Int32 → Int32 → Sg → Tg → Prop} (hk23 : ∀ (x1 : Int32) (x4 : Int32) (x5 : Int32) (σ : Sg) (τ : Tg), k23 x1 x4 x5 σ τ → ∀ κ : Nat → Nat, G_X1_putSizeAndNumbers p l e s m args below meth c D A cy ad post (cfW cy ad κ σ τ) 7 [(0, .ref (ad 3)), (1, .int x1), (4, .int x4), (5, .int x5)] 23 []) : ∀ (x1 : Int32) (x4 : Int32) (x5 : Int32) (s0 : Int32) (σ : Sg) (τ : Tg), wp_X1_putSizeAndNumbers_45 post k23 x1 x4 x5 s0 σ τ → ∀ κ : Nat → Nat, G_X1_putSizeAndNumbers p l e s m args below meth c D A cy ad post (cfW cy ad κ σ τ) 7 [(0, .ref (ad 3)), (1, .int x1), (4, .int x4), (5, .int x5)] 45 [.int s0] := by
  obtain ⟨⟨hx, hb, hml, hown, hts⟩, hr, hlocks, hkx, hA⟩ := id C0
  intro x1 x4 x5 s0 σ τ h κ H locs ls hw hl
  unfold wp_X1_putSizeAndNumbers_45 at h
  refine lv_istore (lv' := [(6, .int s0), (0, .ref (ad 3)), (1, .int x1), (4, .int x4), (5, .int x5)]) hx hb dX1_putSizeAndNumbers_45 hl (by decide) rfl (fun ls hl => ?_)
  refine lv_aload_n hx hb dX1_putSizeAndNumbers_47 rfl (lv_at hl 1 rfl) ?_
  refine cg_ln_part hx hb hts inw_X1_putSizeAndNumbers_X1 hown hkx hw (hts _ (List.mem_of_getElem? (i := 3) rfl)) dX1_putSizeAndNumbers_48 ?_
  refine lv_iload_n hx hb dX1_putSizeAndNumbers_51 rfl (lv_at hl 2 rfl) ?_
  refine lv_iconst (v := 3) hx hb dX1_putSizeAndNumbers_52 (by decide) ?_
  refine lv_imul hx hb dX1_putSizeAndNumbers_53 ?_
  refine lv_iload hx hb dX1_putSizeAndNumbers_54 (lv_at hl 4 rfl) ?_
  refine lv_iadd hx hb dX1_putSizeAndNumbers_56 ?_
  refine lv_iconst (v := 1) hx hb dX1_putSizeAndNumbers_57 (by decide) ?_
  refine lv_isub hx hb dX1_putSizeAndNumbers_58 ?_
  refine lv_iload hx hb dX1_putSizeAndNumbers_59 (lv_at hl 0 rfl) ?_
  refine lv_if_eq (tgt := 72) hx hb dX1_putSizeAndNumbers_61 (by decide) (fun c_1 => ?_) (fun c_1 => ?_)
  · replace h := h.1 c_1
    refine lv_iconst (v := 0) hx hb dX1_putSizeAndNumbers_72 (by decide) ?_
    exact w_X1_putSizeAndNumbers_73 C0 hk23 _ _ _ _ _ _ _ _ h _ _ _ _ hw (lv_sub hl [1, 2, 3, 4, 0] rfl)
  · replace h := h.2 c_1
    refine lv_iload hx hb dX1_putSizeAndNumbers_64 (lv_at hl 3 rfl) ?_
    refine lv_bipush (v := 100) hx hb dX1_putSizeAndNumbers_66 (by decide) ?_
    refine lv_irem hx hb dX1_putSizeAndNumbers_68 (by decide) ?_
    refine lv_goto (tgt := 73) hx hb dX1_putSizeAndNumbers_69 (by decide) ?_
    exact w_X1_putSizeAndNumbers_73 C0 hk23 _ _ _ _ _ _ _ _ h _ _ _ _ hw (lv_sub hl [1, 2, 3, 4, 0] rfl)
def wp_X1_putSizeAndNumbers_23 (post : Sg → Tg → Prop) : Nat → Int32 → Int32 → Int32 → Sg → Tg → Prop
  | 0, _, _, _, _, _ => False
  | n + 1, x1, x4, x5, σ, τ =>
    (x5 < (1 : Int32) →
    post σ τ) ∧
    (¬ x5 < (1 : Int32) →
    vp_in x1 20 ∧
    ((σ 25 x1.toNatClampNeg) < x5 →
    wp_X1_putSizeAndNumbers_45 post (fun zx1 zx4 zx5 zσ zτ => wp_X1_putSizeAndNumbers_23 post n zx1 zx4 zx5 zσ zτ) x1 x4 x5 (0 : Int32) σ τ) ∧
    (¬ (σ 25 x1.toNatClampNeg) < x5 →
    wp_X1_putSizeAndNumbers_45 post (fun zx1 zx4 zx5 zσ zτ => wp_X1_putSizeAndNumbers_23 post n zx1 zx4 zx5 zσ zτ) x1 x4 x5 (1 : Int32) σ τ))
set_option maxHeartbeats 4000000 in
set_option maxRecDepth 100000 in
theorem w_X1_putSizeAndNumbers_23 (C0 : Mc p m c meth cX1_putSizeAndNumbers 7 s args wsX1_putSizeAndNumbers RX1 none D cy A) {post : Sg → Tg → Prop} : ∀ (n : Nat) (x1 : Int32) (x4 : Int32) (x5 : Int32) (σ : Sg) (τ : Tg), wp_X1_putSizeAndNumbers_23 post n x1 x4 x5 σ τ → ∀ κ : Nat → Nat, G_X1_putSizeAndNumbers p l e s m args below meth c D A cy ad post (cfW cy ad κ σ τ) 7 [(0, .ref (ad 3)), (1, .int x1), (4, .int x4), (5, .int x5)] 23 [] := by
  obtain ⟨⟨hx, hb, hml, hown, hts⟩, hr, hlocks, hkx, hA⟩ := id C0
  intro n
  induction n with
  | zero => intro x1 x4 x5 σ τ h; exact False.elim h
  | succ n ih =>
    intro x1 x4 x5 σ τ h κ H locs ls hw hl
    unfold wp_X1_putSizeAndNumbers_23 at h
    refine lv_iload hx hb dX1_putSizeAndNumbers_23 (lv_at hl 3 rfl) ?_
    refine lv_iconst (v := 1) hx hb dX1_putSizeAndNumbers_25 (by decide) ?_
    refine lv_icmp_lt (tgt := 97) hx hb dX1_putSizeAndNumbers_26 (by decide) (fun c_1 => ?_) (fun c_1 => ?_)
    · replace h := h.1 c_1
      exact end_v (w1 := (cfU cy ad)) (u := (κ, σ, τ)) C0 hw h dX1_putSizeAndNumbers_97
    · replace h := h.2 c_1
      refine lv_iload hx hb dX1_putSizeAndNumbers_29 (lv_at hl 3 rfl) ?_
      refine lv_aload_n hx hb dX1_putSizeAndNumbers_31 rfl (lv_at hl 0 rfl) ?_
      refine cg_ln_parts hx hb hts inw_X1_putSizeAndNumbers_X1 hown hkx hw (hts _ (List.mem_of_getElem? (i := 2) rfl)) dX1_putSizeAndNumbers_32 ?_
      refine lv_iload_n hx hb dX1_putSizeAndNumbers_35 rfl (lv_at hl 1 rfl) ?_
      obtain ⟨b_2, h⟩ := h
      refine ca_parts hx hb hkx hw b_2 dX1_putSizeAndNumbers_36 ?_
      refine lv_icmp_gt (tgt := 44) hx hb dX1_putSizeAndNumbers_37 (by decide) (fun c_3 => ?_) (fun c_3 => ?_)
      · replace h := h.1 c_3
        refine lv_iconst (v := 0) hx hb dX1_putSizeAndNumbers_44 (by decide) ?_
        exact w_X1_putSizeAndNumbers_45 C0 ih _ _ _ _ _ _ h _ _ _ _ hw (lv_sub hl [0, 1, 2, 3] rfl)
      · replace h := h.2 c_3
        refine lv_iconst (v := 1) hx hb dX1_putSizeAndNumbers_40 (by decide) ?_
        refine lv_goto (tgt := 45) hx hb dX1_putSizeAndNumbers_41 (by decide) ?_
        exact w_X1_putSizeAndNumbers_45 C0 ih _ _ _ _ _ _ h _ _ _ _ hw (lv_sub hl [0, 1, 2, 3] rfl)
def wp_X1_putSizeAndNumbers (x1 : Int32) (x2 : Int32) (x3 : Int32) (σ : Sg) (τ : Tg) (post : Sg → Tg → Prop) : Prop :=
    vp_in x1 20 ∧
    ∀ σ_2 : Sg, σ_2 = va_up σ 20 (upd (σ 20) x1.toNatClampNeg x2) →
    wp_X7_countParts x3 (fun r_3 =>
    vp_in x1 20 ∧
    ∀ σ_5 : Sg, σ_5 = va_up σ_2 25 (upd (σ_2 25) x1.toNatClampNeg r_3) →
    ∃ fu, wp_X1_putSizeAndNumbers_23 post fu x1 x3 (3 : Int32) σ_5 τ)
set_option maxHeartbeats 4000000 in
set_option maxRecDepth 100000 in
theorem c_X1_putSizeAndNumbers (l : Launch) (D : va_G) (cy : Nat → ClassId) (ad κ : Nat → Nat) (σ : Sg) (τ : Tg) (x1 : Int32) (x2 : Int32) (x3 : Int32) (post : Sg → Tg → Prop) (h : wp_X1_putSizeAndNumbers x1 x2 x3 σ τ post) : Ct l yX1_putSizeAndNumbers wsX1_putSizeAndNumbers rm_X1_putSizeAndNumbers D cy [.ref (ad 3), .int x1, .int x2, .int x3] (cfW cy ad κ σ τ) 0 0 (Rv D (cfU cy ad) (fun u => post u.2.1 u.2.2)) := by
  refine Ct.of (cc := cX1_putSizeAndNumbers) (maxL := 7) (rt := none) (by decide) rfl (Nat.le_of_ble_eq_true rfl) ?_
  intro p e s m below meth c A C0 _ H locs ls hw hl
  obtain ⟨⟨hx, hb, hml, hown, hts⟩, hr, hlocks, hkx, hA⟩ := id C0
  have hl : lv_has ls 7 [(0, .ref (ad 3)), (1, .int x1), (2, .int x2), (3, .int x3)] := hl
  unfold wp_X1_putSizeAndNumbers at h
  refine lv_aload_n hx hb dX1_putSizeAndNumbers_0 rfl (lv_at hl 0 rfl) ?_
  refine cg_ln_size hx hb hts inw_X1_putSizeAndNumbers_X1 hown hkx hw (hts _ (List.mem_of_getElem? (i := 1) rfl)) dX1_putSizeAndNumbers_1 ?_
  refine lv_iload_n hx hb dX1_putSizeAndNumbers_4 rfl (lv_at hl 1 rfl) ?_
  refine lv_iload_n hx hb dX1_putSizeAndNumbers_5 rfl (lv_at hl 2 rfl) ?_
  obtain ⟨b_1, h⟩ := h
  refine cs_size hx hb hkx hw b_1 dX1_putSizeAndNumbers_6 (fun σ_2 eσ_2 H locs hw => ?_)
  replace h := h σ_2 eσ_2
  refine lv_aload_n hx hb dX1_putSizeAndNumbers_7 rfl (lv_at hl 0 rfl) ?_
  refine cg_ln_parts hx hb hts inw_X1_putSizeAndNumbers_X1 hown hkx hw (hts _ (List.mem_of_getElem? (i := 2) rfl)) dX1_putSizeAndNumbers_8 ?_
  refine lv_iload_n hx hb dX1_putSizeAndNumbers_11 rfl (lv_at hl 1 rfl) ?_
  refine lv_iload_n hx hb dX1_putSizeAndNumbers_12 rfl (lv_at hl 3 rfl) ?_
  refine call_N0i (As := [.int x3]) ⟨hx, hb, hml, hown, hts⟩ hkx hw hA (c_X7_countParts l D cy x3 _ h) ⟨va_cnB 1 hts gX1_putSizeAndNumbers_X7_countParts_n45 rfl rfl rfl hkx.2.2.1 (hts _ (List.mem_of_getElem? (i := 5) rfl)) hd_X7_countParts ⟨Nat.le_of_ble_eq_true rfl, Nat.le_of_ble_eq_true rfl⟩, (hts _ (List.mem_of_getElem? (i := 4) rfl)), trivial⟩ rfl hl.1 rfl (Nat.le_of_ble_eq_true rfl) dX1_putSizeAndNumbers_13 ⟨Nat.zero_le _, Nat.zero_le _⟩ (fun r_3 H locs h hw => ?_)
  obtain ⟨b_4, h⟩ := h
  refine cs_parts hx hb hkx hw b_4 dX1_putSizeAndNumbers_16 (fun σ_5 eσ_5 H locs hw => ?_)
  replace h := h σ_5 eσ_5
  refine lv_iload_n hx hb dX1_putSizeAndNumbers_17 rfl (lv_at hl 3 rfl) ?_
  refine lv_istore (lv' := [(4, .int x3), (0, .ref (ad 3)), (1, .int x1), (2, .int x2), (3, .int x3)]) hx hb dX1_putSizeAndNumbers_18 hl (by decide) rfl (fun ls hl => ?_)
  refine lv_iconst (v := 3) hx hb dX1_putSizeAndNumbers_20 (by decide) ?_
  refine lv_istore (lv' := [(5, .int (3 : Int32)), (4, .int x3), (0, .ref (ad 3)), (1, .int x1), (2, .int x2), (3, .int x3)]) hx hb dX1_putSizeAndNumbers_21 hl (by decide) rfl (fun ls hl => ?_)
  obtain ⟨n_6, h⟩ := h
  exact w_X1_putSizeAndNumbers_23 C0 n_6 _ _ _ _ _ h _ _ _ _ hw (lv_sub hl [2, 3, 1, 0] rfl)
end
theorem hd_X1_partAt : yX1_partAt.cls = RX1 ∧ yX1_partAt.cls ≠ "java/lang/invoke/MethodHandle" ∧ yX1_partAt.cls ≠ "java/lang/invoke/VarHandle" ∧ (parseMethodDescriptor yX1_partAt.desc).map (fun d => d.parameters.length) = some 2 := by decide +kernel
section
variable {p : Program} {l : Launch} {e : Env} {s : State} {m : MethodId} {args : Array Value} {below : List Frame} {meth : Method} {c : Code} {D : va_G} {cy : Nat → ClassId} {A : Nat → Prop} {ad : Nat → Nat}
abbrev rm_X1_partAt : Room := { frames := 0, cells := 0, slots := 0, locals := 0 }
theorem inw_X1_partAt_X1 : ∀ w ∈ u_ws RX1 TX1 9, w ∈ wsX1_partAt := fun _ h => List.mem_cons_of_mem _ (List.mem_append_right _ h)
def wp_X1_partAt (x1 : Int32) (x2 : Int32) (σ : Sg) (τ : Tg) (post : Int32 → Sg → Tg → Prop) : Prop :=
    vp_in (((x1 * (3 : Int32)) + x2) - (1 : Int32)) 60 ∧
    post (σ 26 (((x1 * (3 : Int32)) + x2) - (1 : Int32)).toNatClampNeg) σ τ
set_option maxHeartbeats 4000000 in
set_option maxRecDepth 100000 in
theorem c_X1_partAt (l : Launch) (D : va_G) (cy : Nat → ClassId) (ad κ : Nat → Nat) (σ : Sg) (τ : Tg) (x1 : Int32) (x2 : Int32) (post : Int32 → Sg → Tg → Prop) (h : wp_X1_partAt x1 x2 σ τ post) : Ct l yX1_partAt wsX1_partAt rm_X1_partAt D cy [.ref (ad 3), .int x1, .int x2] (cfW cy ad κ σ τ) 0 0 (Ri D (cfU cy ad) (fun r u => post r u.2.1 u.2.2)) := by
  refine Ct.of (cc := cX1_partAt) (maxL := 3) (rt := (some .int)) (by decide) rfl (Nat.le_of_ble_eq_true rfl) ?_
  intro p e s m below meth c A C0 _ H locs ls hw hl
  obtain ⟨⟨hx, hb, hml, hown, hts⟩, hr, hlocks, hkx, hA⟩ := id C0
  have hl : lv_has ls 3 [(0, .ref (ad 3)), (1, .int x1), (2, .int x2)] := hl
  unfold wp_X1_partAt at h
  refine lv_aload_n hx hb dX1_partAt_0 rfl (lv_at hl 0 rfl) ?_
  refine cg_ln_part hx hb hts inw_X1_partAt_X1 hown hkx hw (hts _ (List.mem_of_getElem? (i := 1) rfl)) dX1_partAt_1 ?_
  refine lv_iload_n hx hb dX1_partAt_4 rfl (lv_at hl 1 rfl) ?_
  refine lv_iconst (v := 3) hx hb dX1_partAt_5 (by decide) ?_
  refine lv_imul hx hb dX1_partAt_6 ?_
  refine lv_iload_n hx hb dX1_partAt_7 rfl (lv_at hl 2 rfl) ?_
  refine lv_iadd hx hb dX1_partAt_8 ?_
  refine lv_iconst (v := 1) hx hb dX1_partAt_9 (by decide) ?_
  refine lv_isub hx hb dX1_partAt_10 ?_
  obtain ⟨b_1, h⟩ := h
  refine ca_part hx hb hkx hw b_1 dX1_partAt_11 ?_
  exact end_i (w1 := (cfU cy ad)) (u := (κ, σ, τ)) C0 hw h dX1_partAt_12
end
theorem hd_X1_look : yX1_look.cls = RX1 ∧ yX1_look.cls ≠ "java/lang/invoke/MethodHandle" ∧ yX1_look.cls ≠ "java/lang/invoke/VarHandle" ∧ (parseMethodDescriptor yX1_look.desc).map (fun d => d.parameters.length) = some 1 := by decide +kernel
section
variable {p : Program} {l : Launch} {e : Env} {s : State} {m : MethodId} {args : Array Value} {below : List Frame} {meth : Method} {c : Code} {D : va_G} {cy : Nat → ClassId} {A : Nat → Prop} {ad : Nat → Nat}
abbrev rm_X1_look : Room := { frames := 0, cells := 0, slots := 0, locals := 0 }
theorem inw_X1_look_X1 : ∀ w ∈ u_ws RX1 TX1 9, w ∈ wsX1_look := fun _ h => List.mem_cons_of_mem _ (List.mem_append_right _ h)
def wp_X1_look (x1 : Int32) (σ : Sg) (τ : Tg) (post : Int32 → Sg → Tg → Prop) : Prop :=
    vp_in x1 20 ∧
    vp_in x1 20 ∧
    vp_in x1 20 ∧
    ((σ 22 x1.toNatClampNeg) = 0 →
    post (((σ 20 x1.toNatClampNeg) + (σ 21 x1.toNatClampNeg)) + (0 : Int32)) σ τ) ∧
    (¬ (σ 22 x1.toNatClampNeg) = 0 →
    post (((σ 20 x1.toNatClampNeg) + (σ 21 x1.toNatClampNeg)) + (3 : Int32)) σ τ)
set_option maxHeartbeats 4000000 in
set_option maxRecDepth 100000 in
theorem c_X1_look (l : Launch) (D : va_G) (cy : Nat → ClassId) (ad κ : Nat → Nat) (σ : Sg) (τ : Tg) (x1 : Int32) (post : Int32 → Sg → Tg → Prop) (h : wp_X1_look x1 σ τ post) : Ct l yX1_look wsX1_look rm_X1_look D cy [.ref (ad 3), .int x1] (cfW cy ad κ σ τ) 0 0 (Ri D (cfU cy ad) (fun r u => post r u.2.1 u.2.2)) := by
  refine Ct.of (cc := cX1_look) (maxL := 2) (rt := (some .int)) (by decide) rfl (Nat.le_of_ble_eq_true rfl) ?_
  intro p e s m below meth c A C0 _ H locs ls hw hl
  obtain ⟨⟨hx, hb, hml, hown, hts⟩, hr, hlocks, hkx, hA⟩ := id C0
  have hl : lv_has ls 2 [(0, .ref (ad 3)), (1, .int x1)] := hl
  unfold wp_X1_look at h
  refine lv_aload_n hx hb dX1_look_0 rfl (lv_at hl 0 rfl) ?_
  refine cg_ln_size hx hb hts inw_X1_look_X1 hown hkx hw (hts _ (List.mem_of_getElem? (i := 1) rfl)) dX1_look_1 ?_
  refine lv_iload_n hx hb dX1_look_4 rfl (lv_at hl 1 rfl) ?_
  obtain ⟨b_1, h⟩ := h
  refine ca_size hx hb hkx hw b_1 dX1_look_5 ?_
  refine lv_aload_n hx hb dX1_look_6 rfl (lv_at hl 0 rfl) ?_
  refine cg_ln_blank hx hb hts inw_X1_look_X1 hown hkx hw (hts _ (List.mem_of_getElem? (i := 2) rfl)) dX1_look_7 ?_
  refine lv_iload_n hx hb dX1_look_10 rfl (lv_at hl 1 rfl) ?_
  obtain ⟨b_2, h⟩ := h
  refine ca_blank hx hb hkx hw b_2 dX1_look_11 ?_
  refine lv_iadd hx hb dX1_look_12 ?_
  refine lv_aload_n hx hb dX1_look_13 rfl (lv_at hl 0 rfl) ?_
  refine cg_ln_centred hx hb hts inw_X1_look_X1 hown hkx hw (hts _ (List.mem_of_getElem? (i := 3) rfl)) dX1_look_14 ?_
  refine lv_iload_n hx hb dX1_look_17 rfl (lv_at hl 1 rfl) ?_
  obtain ⟨b_3, h⟩ := h
  refine ca_centred hx hb hkx hw b_3 dX1_look_18 ?_
  refine lv_if_eq (tgt := 26) hx hb dX1_look_19 (by decide) (fun c_4 => ?_) (fun c_4 => ?_)
  · replace h := h.1 c_4
    refine lv_iconst (v := 0) hx hb dX1_look_26 (by decide) ?_
    refine lv_iadd hx hb dX1_look_27 ?_
    exact end_i (w1 := (cfU cy ad)) (u := (κ, σ, τ)) C0 hw h dX1_look_28
  · replace h := h.2 c_4
    refine lv_iconst (v := 3) hx hb dX1_look_22 (by decide) ?_
    refine lv_goto (tgt := 27) hx hb dX1_look_23 (by decide) ?_
    refine lv_iadd hx hb dX1_look_27 ?_
    exact end_i (w1 := (cfU cy ad)) (u := (κ, σ, τ)) C0 hw h dX1_look_28
end
theorem hd_X1_areAlike : yX1_areAlike.cls = RX1 ∧ yX1_areAlike.cls ≠ "java/lang/invoke/MethodHandle" ∧ yX1_areAlike.cls ≠ "java/lang/invoke/VarHandle" ∧ (parseMethodDescriptor yX1_areAlike.desc).map (fun d => d.parameters.length) = some 2 := by decide +kernel
section
variable {p : Program} {l : Launch} {e : Env} {s : State} {m : MethodId} {args : Array Value} {below : List Frame} {meth : Method} {c : Code} {D : va_G} {cy : Nat → ClassId} {A : Nat → Prop} {ad : Nat → Nat}
abbrev rm_X1_areAlike : Room := { frames := 0, cells := 0, slots := 0, locals := 0 }
theorem inw_X1_areAlike_X1 : ∀ w ∈ u_ws RX1 TX1 9, w ∈ wsX1_areAlike := fun _ h => List.mem_cons_of_mem _ (List.mem_append_right _ h)
def wp_X1_areAlike (x1 : Int32) (x2 : Int32) (σ : Sg) (τ : Tg) (post : Int32 → Sg → Tg → Prop) : Prop :=
    vp_in x1 20 ∧
    vp_in x2 20 ∧
    (¬ (σ 20 x1.toNatClampNeg) = (σ 20 x2.toNatClampNeg) →
    post (0 : Int32) σ τ) ∧
    ((σ 20 x1.toNatClampNeg) = (σ 20 x2.toNatClampNeg) →
    vp_in x1 20 ∧
    vp_in x2 20 ∧
    (¬ (σ 23 x1.toNatClampNeg) = (σ 23 x2.toNatClampNeg) →
    post (0 : Int32) σ τ) ∧
    ((σ 23 x1.toNatClampNeg) = (σ 23 x2.toNatClampNeg) →
    vp_in x1 20 ∧
    vp_in x2 20 ∧
    (¬ (σ 24 x1.toNatClampNeg) = (σ 24 x2.toNatClampNeg) →
    post (0 : Int32) σ τ) ∧
    ((σ 24 x1.toNatClampNeg) = (σ 24 x2.toNatClampNeg) →
    post (1 : Int32) σ τ)))
set_option maxHeartbeats 4000000 in
set_option maxRecDepth 100000 in
theorem c_X1_areAlike (l : Launch) (D : va_G) (cy : Nat → ClassId) (ad κ : Nat → Nat) (σ : Sg) (τ : Tg) (x1 : Int32) (x2 : Int32) (post : Int32 → Sg → Tg → Prop) (h : wp_X1_areAlike x1 x2 σ τ post) : Ct l yX1_areAlike wsX1_areAlike rm_X1_areAlike D cy [.ref (ad 3), .int x1, .int x2] (cfW cy ad κ σ τ) 0 0 (Ri D (cfU cy ad) (fun r u => post r u.2.1 u.2.2)) := by
  refine Ct.of (cc := cX1_areAlike) (maxL := 3) (rt := (some .boolean)) (by decide) rfl (Nat.le_of_ble_eq_true rfl) ?_
  intro p e s m below meth c A C0 _ H locs ls hw hl
  obtain ⟨⟨hx, hb, hml, hown, hts⟩, hr, hlocks, hkx, hA⟩ := id C0
  have hl : lv_has ls 3 [(0, .ref (ad 3)), (1, .int x1), (2, .int x2)] := hl
  unfold wp_X1_areAlike at h
  refine lv_aload_n hx hb dX1_areAlike_0 rfl (lv_at hl 0 rfl) ?_
  refine cg_ln_size hx hb hts inw_X1_areAlike_X1 hown hkx hw (hts _ (List.mem_of_getElem? (i := 1) rfl)) dX1_areAlike_1 ?_
  refine lv_iload_n hx hb dX1_areAlike_4 rfl (lv_at hl 1 rfl) ?_
  obtain ⟨b_1, h⟩ := h
  refine ca_size hx hb hkx hw b_1 dX1_areAlike_5 ?_
  refine lv_aload_n hx hb dX1_areAlike_6 rfl (lv_at hl 0 rfl) ?_
  refine cg_ln_size hx hb hts inw_X1_areAlike_X1 hown hkx hw (hts _ (List.mem_of_getElem? (i := 1) rfl)) dX1_areAlike_7 ?_
  refine lv_iload_n hx hb dX1_areAlike_10 rfl (lv_at hl 2 rfl) ?_
  obtain ⟨b_2, h⟩ := h
  refine ca_size hx hb hkx hw b_2 dX1_areAlike_11 ?_
  refine lv_icmp_ne (tgt := 49) hx hb dX1_areAlike_12 (by decide) (fun c_3 => ?_) (fun c_3 => ?_)
  · replace h := h.1 c_3
    refine lv_iconst (v := 0) hx hb dX1_areAlike_49 (by decide) ?_
    exact end_z (w1 := (cfU cy ad)) (u := (κ, σ, τ)) C0 hw (Or.inl rfl) h dX1_areAlike_50
  · replace h := h.2 c_3
    refine lv_aload_n hx hb dX1_areAlike_15 rfl (lv_at hl 0 rfl) ?_
    refine cg_ln_firstWords hx hb hts inw_X1_areAlike_X1 hown hkx hw (hts _ (List.mem_of_getElem? (i := 2) rfl)) dX1_areAlike_16 ?_
    refine lv_iload_n hx hb dX1_areAlike_19 rfl (lv_at hl 1 rfl) ?_
    obtain ⟨b_4, h⟩ := h
    refine ca_fw hx hb hkx hw b_4 dX1_areAlike_20 ?_
    refine lv_aload_n hx hb dX1_areAlike_21 rfl (lv_at hl 0 rfl) ?_
    refine cg_ln_firstWords hx hb hts inw_X1_areAlike_X1 hown hkx hw (hts _ (List.mem_of_getElem? (i := 2) rfl)) dX1_areAlike_22 ?_
    refine lv_iload_n hx hb dX1_areAlike_25 rfl (lv_at hl 2 rfl) ?_
    obtain ⟨b_5, h⟩ := h
    refine ca_fw hx hb hkx hw b_5 dX1_areAlike_26 ?_
    refine lv_icmp_ne (tgt := 49) hx hb dX1_areAlike_27 (by decide) (fun c_6 => ?_) (fun c_6 => ?_)
    · replace h := h.1 c_6
      refine lv_iconst (v := 0) hx hb dX1_areAlike_49 (by decide) ?_
      exact end_z (w1 := (cfU cy ad)) (u := (κ, σ, τ)) C0 hw (Or.inl rfl) h dX1_areAlike_50
    · replace h := h.2 c_6
      refine lv_aload_n hx hb dX1_areAlike_30 rfl (lv_at hl 0 rfl) ?_
      refine cg_ln_lastWords hx hb hts inw_X1_areAlike_X1 hown hkx hw (hts _ (List.mem_of_getElem? (i := 3) rfl)) dX1_areAlike_31 ?_
      refine lv_iload_n hx hb dX1_areAlike_34 rfl (lv_at hl 1 rfl) ?_
      obtain ⟨b_7, h⟩ := h
      refine ca_lw hx hb hkx hw b_7 dX1_areAlike_35 ?_
      refine lv_aload_n hx hb dX1_areAlike_36 rfl (lv_at hl 0 rfl) ?_
      refine cg_ln_lastWords hx hb hts inw_X1_areAlike_X1 hown hkx hw (hts _ (List.mem_of_getElem? (i := 3) rfl)) dX1_areAlike_37 ?_
      refine lv_iload_n hx hb dX1_areAlike_40 rfl (lv_at hl 2 rfl) ?_
      obtain ⟨b_8, h⟩ := h
      refine ca_lw hx hb hkx hw b_8 dX1_areAlike_41 ?_
      refine lv_icmp_ne (tgt := 49) hx hb dX1_areAlike_42 (by decide) (fun c_9 => ?_) (fun c_9 => ?_)
      · replace h := h.1 c_9
        refine lv_iconst (v := 0) hx hb dX1_areAlike_49 (by decide) ?_
        exact end_z (w1 := (cfU cy ad)) (u := (κ, σ, τ)) C0 hw (Or.inl rfl) h dX1_areAlike_50
      · replace h := h.2 c_9
        refine lv_iconst (v := 1) hx hb dX1_areAlike_45 (by decide) ?_
        refine lv_goto (tgt := 50) hx hb dX1_areAlike_46 (by decide) ?_
        exact end_z (w1 := (cfU cy ad)) (u := (κ, σ, τ)) C0 hw (Or.inr rfl) h dX1_areAlike_50
end
theorem hd_X1_isRunning : yX1_isRunning.cls = RX1 ∧ yX1_isRunning.cls ≠ "java/lang/invoke/MethodHandle" ∧ yX1_isRunning.cls ≠ "java/lang/invoke/VarHandle" ∧ (parseMethodDescriptor yX1_isRunning.desc).map (fun d => d.parameters.length) = some 2 := by decide +kernel
section
variable {p : Program} {l : Launch} {e : Env} {s : State} {m : MethodId} {args : Array Value} {below : List Frame} {meth : Method} {c : Code} {D : va_G} {cy : Nat → ClassId} {A : Nat → Prop} {ad : Nat → Nat}
abbrev rm_X1_isRunning : Room := { frames := 1, cells := 0, slots := 0, locals := 22 }
theorem inw_X1_isRunning_X1 : ∀ w ∈ u_ws RX1 TX1 9, w ∈ wsX1_isRunning := fun _ h => List.mem_cons_of_mem _ (List.mem_append_right _ h)
abbrev G_X1_isRunning (p : Program) (l : Launch) (e : Env) (s : State) (m : MethodId) (args : Array Value) (below : List Frame) (meth : Method) (c : Code) (D : va_G) (A : Nat → Prop) (cy : Nat → ClassId) (ad : Nat → Nat) (post : Int32 → Sg → Tg → Prop) : va_W → Nat → List (Nat × Value) → Nat → List Value → Prop := Gw p l e rm_X1_isRunning s m args below meth c D A (MQ below ((Ri D (cfU cy ad) (fun r u => post r u.2.1 u.2.2)) A) args s 0 0 A)
def wp_X1_isRunning_28 (post : Int32 → Sg → Tg → Prop) : Nat → Int32 → Int32 → Int32 → Int32 → Int32 → Sg → Tg → Prop
  | 0, _, _, _, _, _, _, _ => False
  | n + 1, x1, x2, x3, x4, x5, σ, τ =>
    ((σ 5 0) ≤ x5 →
    (x3 < x2 →
    post (0 : Int32) σ τ) ∧
    (¬ x3 < x2 →
    post (1 : Int32) σ τ)) ∧
    (¬ (σ 5 0) ≤ x5 →
    wp_X1_areAlike x1 x5 σ τ (fun r_3 σ_4 τ_5 =>
    (r_3 = 0 →
    wp_X1_isRunning_28 post n x1 x2 x3 x4 (x5 + (1 : Int32)) σ_4 τ_5) ∧
    (¬ r_3 = 0 →
    vp_in x5 20 ∧
    ((σ_4 19 x5.toNatClampNeg) = x4 →
    wp_X1_isRunning_28 post n x1 x2 x3 x4 (x5 + (1 : Int32)) σ_4 τ_5) ∧
    (¬ (σ_4 19 x5.toNatClampNeg) = x4 →
    vp_in x5 20 ∧
    ∀ y_10 : Int32, y_10 = (σ_4 19 x5.toNatClampNeg) →
    wp_X1_isRunning_28 post n x1 x2 (x3 + (1 : Int32)) y_10 (x5 + (1 : Int32)) σ_4 τ_5))))
set_option maxHeartbeats 4000000 in
set_option maxRecDepth 100000 in
theorem w_X1_isRunning_28 (C0 : Mc p m c meth cX1_isRunning 6 s args wsX1_isRunning RX1 (some .boolean) D cy A) {post : Int32 → Sg → Tg → Prop} : ∀ (n : Nat) (x1 : Int32) (x2 : Int32) (x3 : Int32) (x4 : Int32) (x5 : Int32) (σ : Sg) (τ : Tg), wp_X1_isRunning_28 post n x1 x2 x3 x4 x5 σ τ → ∀ κ : Nat → Nat, G_X1_isRunning p l e s m args below meth c D A cy ad post (cfW cy ad κ σ τ) 6 [(0, .ref (ad 3)), (1, .int x1), (2, .int x2), (3, .int x3), (4, .int x4), (5, .int x5)] 28 [] := by
  obtain ⟨⟨hx, hb, hml, hown, hts⟩, hr, hlocks, hkx, hA⟩ := id C0
  intro n
  induction n with
  | zero => intro x1 x2 x3 x4 x5 σ τ h; exact False.elim h
  | succ n ih =>
    intro x1 x2 x3 x4 x5 σ τ h κ H locs ls hw hl
    unfold wp_X1_isRunning_28 at h
    refine lv_iload hx hb dX1_isRunning_28 (lv_at hl 5 rfl) ?_
    refine lv_aload_n hx hb dX1_isRunning_30 rfl (lv_at hl 0 rfl) ?_
    refine cg_ln_count hx hb hts inw_X1_isRunning_X1 hown hkx hw (hts _ (List.mem_of_getElem? (i := 3) rfl)) dX1_isRunning_31 ?_
    refine lv_icmp_ge (tgt := 77) hx hb dX1_isRunning_34 (by decide) (fun c_1 => ?_) (fun c_1 => ?_)
    · replace h := h.1 c_1
      refine lv_iload_n hx hb dX1_isRunning_77 rfl (lv_at hl 3 rfl) ?_
      refine lv_iload_n hx hb dX1_isRunning_78 rfl (lv_at hl 2 rfl) ?_
      refine lv_icmp_lt (tgt := 86) hx hb dX1_isRunning_79 (by decide) (fun c_2 => ?_) (fun c_2 => ?_)
      · replace h := h.1 c_2
        refine lv_iconst (v := 0) hx hb dX1_isRunning_86 (by decide) ?_
        exact end_z (w1 := (cfU cy ad)) (u := (κ, σ, τ)) C0 hw (Or.inl rfl) h dX1_isRunning_87
      · replace h := h.2 c_2
        refine lv_iconst (v := 1) hx hb dX1_isRunning_82 (by decide) ?_
        refine lv_goto (tgt := 87) hx hb dX1_isRunning_83 (by decide) ?_
        exact end_z (w1 := (cfU cy ad)) (u := (κ, σ, τ)) C0 hw (Or.inr rfl) h dX1_isRunning_87
    · replace h := h.2 c_1
      refine lv_aload_n hx hb dX1_isRunning_37 rfl (lv_at hl 0 rfl) ?_
      refine lv_iload_n hx hb dX1_isRunning_38 rfl (lv_at hl 1 rfl) ?_
      refine lv_iload hx hb dX1_isRunning_39 (lv_at hl 5 rfl) ?_
      refine cf_Vi (As := [.int x1, .int x5]) ⟨hx, hb, hml, hown, hts⟩ hkx hw hA (c_X1_areAlike l D cy ad κ σ τ x1 x5 _ h) (cwV 2 hts gX1_isRunning_X1_areAlike rfl rfl rfl hd_X1_areAlike ⟨Nat.le_of_ble_eq_true rfl, Nat.le_of_ble_eq_true rfl⟩) 3 1 rfl rfl rfl hl.1 rfl (Nat.le_of_ble_eq_true rfl) dX1_isRunning_41 ⟨Nat.zero_le _, Nat.zero_le _⟩ (fun r_3 κ σ_4 τ_5 H locs h hw => ?_)
      refine lv_if_eq (tgt := 71) hx hb dX1_isRunning_44 (by decide) (fun c_6 => ?_) (fun c_6 => ?_)
      · replace h := h.1 c_6
        refine lv_iinc (v := x5 + (1 : Int32)) (lv' := [(5, .int (x5 + (1 : Int32))), (0, .ref (ad 3)), (1, .int x1), (2, .int x2), (3, .int x3), (4, .int x4)]) hx hb dX1_isRunning_71 hl (k := 5) rfl rfl (by decide) rfl (fun ls hl => ?_)
        refine lv_goto (tgt := 28) hx hb dX1_isRunning_74 (by decide) ?_
        exact ih _ _ _ _ _ _ _ h _ _ _ _ hw (lv_sub hl [1, 2, 3, 4, 5, 0] rfl)
      · replace h := h.2 c_6
        refine lv_aload_n hx hb dX1_isRunning_47 rfl (lv_at hl 0 rfl) ?_
        refine cg_ln_page hx hb hts inw_X1_isRunning_X1 hown hkx hw (hts _ (List.mem_of_getElem? (i := 4) rfl)) dX1_isRunning_48 ?_
        refine lv_iload hx hb dX1_isRunning_51 (lv_at hl 5 rfl) ?_
        obtain ⟨b_7, h⟩ := h
        refine ca_page hx hb hkx hw b_7 dX1_isRunning_53 ?_
        refine lv_iload hx hb dX1_isRunning_54 (lv_at hl 4 rfl) ?_
        refine lv_icmp_eq (tgt := 71) hx hb dX1_isRunning_56 (by decide) (fun c_8 => ?_) (fun c_8 => ?_)
        · replace h := h.1 c_8
          refine lv_iinc (v := x5 + (1 : Int32)) (lv' := [(5, .int (x5 + (1 : Int32))), (0, .ref (ad 3)), (1, .int x1), (2, .int x2), (3, .int x3), (4, .int x4)]) hx hb dX1_isRunning_71 hl (k := 5) rfl rfl (by decide) rfl (fun ls hl => ?_)
          refine lv_goto (tgt := 28) hx hb dX1_isRunning_74 (by decide) ?_
          exact ih _ _ _ _ _ _ _ h _ _ _ _ hw (lv_sub hl [1, 2, 3, 4, 5, 0] rfl)
        · replace h := h.2 c_8
          refine lv_aload_n hx hb dX1_isRunning_59 rfl (lv_at hl 0 rfl) ?_
          refine cg_ln_page hx hb hts inw_X1_isRunning_X1 hown hkx hw (hts _ (List.mem_of_getElem? (i := 4) rfl)) dX1_isRunning_60 ?_
          refine lv_iload hx hb dX1_isRunning_63 (lv_at hl 5 rfl) ?_
          obtain ⟨b_9, h⟩ := h
          refine ca_page hx hb hkx hw b_9 dX1_isRunning_65 ?_
          refine lv_topi (fun y_10 ey_10 => ?_)
          replace h := h y_10 ey_10
          refine lv_istore (lv' := [(4, .int y_10), (0, .ref (ad 3)), (1, .int x1), (2, .int x2), (3, .int x3), (5, .int x5)]) hx hb dX1_isRunning_66 hl (by decide) rfl (fun ls hl => ?_)
          refine lv_iinc (v := x3 + (1 : Int32)) (lv' := [(3, .int (x3 + (1 : Int32))), (4, .int y_10), (0, .ref (ad 3)), (1, .int x1), (2, .int x2), (5, .int x5)]) hx hb dX1_isRunning_68 hl (k := 4) rfl rfl (by decide) rfl (fun ls hl => ?_)
          refine lv_iinc (v := x5 + (1 : Int32)) (lv' := [(5, .int (x5 + (1 : Int32))), (3, .int (x3 + (1 : Int32))), (4, .int y_10), (0, .ref (ad 3)), (1, .int x1), (2, .int x2)]) hx hb dX1_isRunning_71 hl (k := 5) rfl rfl (by decide) rfl (fun ls hl => ?_)
          refine lv_goto (tgt := 28) hx hb dX1_isRunning_74 (by decide) ?_
          exact ih _ _ _ _ _ _ _ h _ _ _ _ hw (lv_sub hl [3, 4, 5, 1, 2, 0] rfl)
def wp_X1_isRunning_20 (post : Int32 → Sg → Tg → Prop) (x1 : Int32) (x2 : Int32) (σ : Sg) (τ : Tg) : Prop :=
    ∃ fu, wp_X1_isRunning_28 post fu x1 x2 (0 : Int32) (-1 : Int32) (0 : Int32) σ τ
set_option maxHeartbeats 4000000 in
set_option maxRecDepth 100000 in
theorem w_X1_isRunning_20 (C0 : Mc p m c meth cX1_isRunning 6 s args wsX1_isRunning RX1 (some .boolean) D cy A) {post : Int32 → Sg → Tg → Prop} : ∀ (x1 : Int32) (x2 : Int32) (σ : Sg) (τ : Tg), wp_X1_isRunning_20 post x1 x2 σ τ → ∀ κ : Nat → Nat, G_X1_isRunning p l e s m args below meth c D A cy ad post (cfW cy ad κ σ τ) 6 [(0, .ref (ad 3)), (1, .int x1), (2, .int x2)] 20 [] := by
  obtain ⟨⟨hx, hb, hml, hown, hts⟩, hr, hlocks, hkx, hA⟩ := id C0
  intro x1 x2 σ τ h κ H locs ls hw hl
  unfold wp_X1_isRunning_20 at h
  refine lv_iconst (v := 0) hx hb dX1_isRunning_20 (by decide) ?_
  refine lv_istore_n (lv' := [(3, .int (0 : Int32)), (0, .ref (ad 3)), (1, .int x1), (2, .int x2)]) hx hb dX1_isRunning_21 rfl hl (by decide) rfl (fun ls hl => ?_)
  refine lv_iconst (v := -1) hx hb dX1_isRunning_22 (by decide) ?_
  refine lv_istore (lv' := [(4, .int (-1 : Int32)), (3, .int (0 : Int32)), (0, .ref (ad 3)), (1, .int x1), (2, .int x2)]) hx hb dX1_isRunning_23 hl (by decide) rfl (fun ls hl => ?_)
  refine lv_iconst (v := 0) hx hb dX1_isRunning_25 (by decide) ?_
  refine lv_istore (lv' := [(5, .int (0 : Int32)), (4, .int (-1 : Int32)), (3, .int (0 : Int32)), (0, .ref (ad 3)), (1, .int x1), (2, .int x2)]) hx hb dX1_isRunning_26 hl (by decide) rfl (fun ls hl => ?_)
  obtain ⟨n_1, h⟩ := h
  exact w_X1_isRunning_28 C0 n_1 _ _ _ _ _ _ _ h _ _ _ _ hw (lv_sub hl [3, 4, 5, 2, 1, 0] rfl)
def wp_X1_isRunning (x1 : Int32) (x2 : Int32) (σ : Sg) (τ : Tg) (post : Int32 → Sg → Tg → Prop) : Prop :=
    vp_in x1 20 ∧
    (¬ (σ 23 x1.toNatClampNeg) = 0 →
    wp_X1_isRunning_20 post x1 x2 σ τ) ∧
    ((σ 23 x1.toNatClampNeg) = 0 →
    vp_in x1 20 ∧
    (¬ (σ 24 x1.toNatClampNeg) = 0 →
    wp_X1_isRunning_20 post x1 x2 σ τ) ∧
    ((σ 24 x1.toNatClampNeg) = 0 →
    post (0 : Int32) σ τ))
set_option maxHeartbeats 4000000 in
set_option maxRecDepth 100000 in
theorem c_X1_isRunning (l : Launch) (D : va_G) (cy : Nat → ClassId) (ad κ : Nat → Nat) (σ : Sg) (τ : Tg) (x1 : Int32) (x2 : Int32) (post : Int32 → Sg → Tg → Prop) (h : wp_X1_isRunning x1 x2 σ τ post) : Ct l yX1_isRunning wsX1_isRunning rm_X1_isRunning D cy [.ref (ad 3), .int x1, .int x2] (cfW cy ad κ σ τ) 0 0 (Ri D (cfU cy ad) (fun r u => post r u.2.1 u.2.2)) := by
  refine Ct.of (cc := cX1_isRunning) (maxL := 6) (rt := (some .boolean)) (by decide) rfl (Nat.le_of_ble_eq_true rfl) ?_
  intro p e s m below meth c A C0 _ H locs ls hw hl
  obtain ⟨⟨hx, hb, hml, hown, hts⟩, hr, hlocks, hkx, hA⟩ := id C0
  have hl : lv_has ls 6 [(0, .ref (ad 3)), (1, .int x1), (2, .int x2)] := hl
  unfold wp_X1_isRunning at h
  refine lv_aload_n hx hb dX1_isRunning_0 rfl (lv_at hl 0 rfl) ?_
  refine cg_ln_firstWords hx hb hts inw_X1_isRunning_X1 hown hkx hw (hts _ (List.mem_of_getElem? (i := 1) rfl)) dX1_isRunning_1 ?_
  refine lv_iload_n hx hb dX1_isRunning_4 rfl (lv_at hl 1 rfl) ?_
  obtain ⟨b_1, h⟩ := h
  refine ca_fw hx hb hkx hw b_1 dX1_isRunning_5 ?_
  refine lv_if_ne (tgt := 20) hx hb dX1_isRunning_6 (by decide) (fun c_2 => ?_) (fun c_2 => ?_)
  · replace h := h.1 c_2
    exact w_X1_isRunning_20 C0 _ _ _ _ h _ _ _ _ hw (lv_sub hl [0, 1, 2] rfl)
  · replace h := h.2 c_2
    refine lv_aload_n hx hb dX1_isRunning_9 rfl (lv_at hl 0 rfl) ?_
    refine cg_ln_lastWords hx hb hts inw_X1_isRunning_X1 hown hkx hw (hts _ (List.mem_of_getElem? (i := 2) rfl)) dX1_isRunning_10 ?_
    refine lv_iload_n hx hb dX1_isRunning_13 rfl (lv_at hl 1 rfl) ?_
    obtain ⟨b_3, h⟩ := h
    refine ca_lw hx hb hkx hw b_3 dX1_isRunning_14 ?_
    refine lv_if_ne (tgt := 20) hx hb dX1_isRunning_15 (by decide) (fun c_4 => ?_) (fun c_4 => ?_)
    · replace h := h.1 c_4
      exact w_X1_isRunning_20 C0 _ _ _ _ h _ _ _ _ hw (lv_sub hl [0, 1, 2] rfl)
    · replace h := h.2 c_4
      refine lv_iconst (v := 0) hx hb dX1_isRunning_18 (by decide) ?_
      exact end_z (w1 := (cfU cy ad)) (u := (κ, σ, τ)) C0 hw (Or.inl rfl) h dX1_isRunning_19
end
