theorem hd_X0_unpack : yX0_unpack.cls = RX0 ∧ yX0_unpack.cls ≠ "java/lang/invoke/MethodHandle" ∧ yX0_unpack.cls ≠ "java/lang/invoke/VarHandle" ∧ (parseMethodDescriptor yX0_unpack.desc).map (fun d => d.parameters.length) = some 1 := by decide +kernel
section
variable {p : Program} {l : Launch} {e : Env} {s : State} {m : MethodId} {args : Array Value} {below : List Frame} {meth : Method} {c : Code} {D : va_G} {cy : Nat → ClassId} {A : Nat → Prop} {ad : Nat → Nat}
abbrev rm_X0_unpack : Room := { frames := 0, cells := 0, slots := 0, locals := 0 }
theorem inw_X0_unpack_X0 : ∀ w ∈ u_ws RX0 TX0 2, w ∈ wsX0_unpack := fun _ h => List.mem_cons_of_mem _ (List.mem_append_right _ h)
def wp_X0_unpack (x1 : Int32) (σ : Sg) (τ : Tg) (post : Sg → Tg → Prop) : Prop :=
    ∀ σ_2 : Sg, σ_2 = va_up σ 33 (upd (σ 33) (1 : Int32).toNatClampNeg (x1 / (196 : Int32))) →
    ∀ σ_4 : Sg, σ_4 = va_up σ_2 33 (upd (σ_2 33) (2 : Int32).toNatClampNeg ((x1 / (14 : Int32)) - (x1 / (14 : Int32)) / (14 : Int32) * (14 : Int32))) →
    ∀ σ_6 : Sg, σ_6 = va_up σ_4 33 (upd (σ_4 33) (3 : Int32).toNatClampNeg (x1 - x1 / (14 : Int32) * (14 : Int32))) →
    post σ_6 τ
set_option maxHeartbeats 4000000 in
set_option maxRecDepth 100000 in
theorem c_X0_unpack (l : Launch) (D : va_G) (cy : Nat → ClassId) (ad κ : Nat → Nat) (σ : Sg) (τ : Tg) (x1 : Int32) (post : Sg → Tg → Prop) (h : wp_X0_unpack x1 σ τ post) : Ct l yX0_unpack wsX0_unpack rm_X0_unpack D cy [.ref (ad 5), .int x1] (cfW cy ad κ σ τ) 0 0 (Rv D (cfU cy ad) (fun u => post u.2.1 u.2.2)) := by
  refine Ct.of (cc := cX0_unpack) (maxL := 2) (rt := none) (by decide) rfl (Nat.le_of_ble_eq_true rfl) ?_
  intro p e s m below meth c A C0 _ H locs ls hw hl
  obtain ⟨⟨hx, hb, hml, hown, hts⟩, hr, hlocks, hkx, hA⟩ := id C0
  have hl : lv_has ls 2 [(0, .ref (ad 5)), (1, .int x1)] := hl
  unfold wp_X0_unpack at h
  refine lv_aload_n hx hb dX0_unpack_0 rfl (lv_at hl 0 rfl) ?_
  refine cg_co_at hx hb hts inw_X0_unpack_X0 hown hkx hw (hts _ (List.mem_of_getElem? (i := 1) rfl)) dX0_unpack_1 ?_
  refine lv_iconst (v := 1) hx hb dX0_unpack_4 (by decide) ?_
  refine lv_iload_n hx hb dX0_unpack_5 rfl (lv_at hl 1 rfl) ?_
  refine lv_sipush (v := 196) hx hb dX0_unpack_6 (by decide) ?_
  refine lv_idiv hx hb dX0_unpack_9 (by decide) ?_
  refine cs_at hx hb hkx hw (by unfold vp_in; decide) dX0_unpack_10 (fun σ_2 eσ_2 H locs hw => ?_)
  replace h := h σ_2 eσ_2
  refine lv_aload_n hx hb dX0_unpack_11 rfl (lv_at hl 0 rfl) ?_
  refine cg_co_at hx hb hts inw_X0_unpack_X0 hown hkx hw (hts _ (List.mem_of_getElem? (i := 1) rfl)) dX0_unpack_12 ?_
  refine lv_iconst (v := 2) hx hb dX0_unpack_15 (by decide) ?_
  refine lv_iload_n hx hb dX0_unpack_16 rfl (lv_at hl 1 rfl) ?_
  refine lv_bipush (v := 14) hx hb dX0_unpack_17 (by decide) ?_
  refine lv_idiv hx hb dX0_unpack_19 (by decide) ?_
  refine lv_bipush (v := 14) hx hb dX0_unpack_20 (by decide) ?_
  refine lv_irem hx hb dX0_unpack_22 (by decide) ?_
  refine cs_at hx hb hkx hw (by unfold vp_in; decide) dX0_unpack_23 (fun σ_4 eσ_4 H locs hw => ?_)
  replace h := h σ_4 eσ_4
  refine lv_aload_n hx hb dX0_unpack_24 rfl (lv_at hl 0 rfl) ?_
  refine cg_co_at hx hb hts inw_X0_unpack_X0 hown hkx hw (hts _ (List.mem_of_getElem? (i := 1) rfl)) dX0_unpack_25 ?_
  refine lv_iconst (v := 3) hx hb dX0_unpack_28 (by decide) ?_
  refine lv_iload_n hx hb dX0_unpack_29 rfl (lv_at hl 1 rfl) ?_
  refine lv_bipush (v := 14) hx hb dX0_unpack_30 (by decide) ?_
  refine lv_irem hx hb dX0_unpack_32 (by decide) ?_
  refine cs_at hx hb hkx hw (by unfold vp_in; decide) dX0_unpack_33 (fun σ_6 eσ_6 H locs hw => ?_)
  replace h := h σ_6 eσ_6
  exact end_v (w1 := (cfU cy ad)) (u := (κ, σ_6, τ)) C0 hw h dX0_unpack_34
end
theorem hd_X0_pack : yX0_pack.cls = RX0 ∧ yX0_pack.cls ≠ "java/lang/invoke/MethodHandle" ∧ yX0_pack.cls ≠ "java/lang/invoke/VarHandle" ∧ (parseMethodDescriptor yX0_pack.desc).map (fun d => d.parameters.length) = some 1 := by decide +kernel
section
variable {p : Program} {l : Launch} {e : Env} {s : State} {m : MethodId} {args : Array Value} {below : List Frame} {meth : Method} {c : Code} {D : va_G} {cy : Nat → ClassId} {A : Nat → Prop} {ad : Nat → Nat}
abbrev rm_X0_pack_caps : Room := { frames := 0, cells := 0, slots := 0, locals := 0 }
theorem inw_X0_pack_X0 : ∀ w ∈ u_ws RX0 TX0 2, w ∈ wsX0_pack := fun _ h => List.mem_cons_of_mem _ (List.mem_append_right _ h)
abbrev G_X0_pack_caps (p : Program) (l : Launch) (e : Env) (s : State) (m : MethodId) (args : Array Value) (below : List Frame) (meth : Method) (c : Code) (D : va_G) (A : Nat → Prop) (cy : Nat → ClassId) (ad : Nat → Nat) (post : Int32 → Sg → Tg → Prop) : va_W → Nat → List (Nat × Value) → Nat → List Value → Prop := Gw p l e rm_X0_pack_caps s m args below meth c D A (MQ below ((Ri D (cfU cy ad) (fun r u => post r u.2.1 u.2.2)) A) args s 0 0 A)
def wp_X0_pack_caps_4 (post : Int32 → Sg → Tg → Prop) : Nat → Int32 → Int32 → Sg → Tg → Prop
  | 0, _, _, _, _ => False
  | n + 1, x2, x3, σ, τ =>
    ((3 : Int32) < x3 →
    post x2 σ τ) ∧
    (¬ (3 : Int32) < x3 →
    vp_in x3 4 ∧
    vp_in x3 4 ∧
    ((σ 30 x3.toNatClampNeg) ≤ (σ 33 x3.toNatClampNeg) →
    vp_in x3 4 ∧
    ∀ y_6 : Int32, y_6 = ((x2 * (14 : Int32)) + (σ 30 x3.toNatClampNeg)) →
    wp_X0_pack_caps_4 post n y_6 (x3 + (1 : Int32)) σ τ) ∧
    (¬ (σ 30 x3.toNatClampNeg) ≤ (σ 33 x3.toNatClampNeg) →
    vp_in x3 4 ∧
    ∀ y_8 : Int32, y_8 = ((x2 * (14 : Int32)) + (σ 33 x3.toNatClampNeg)) →
    wp_X0_pack_caps_4 post n y_8 (x3 + (1 : Int32)) σ τ))
set_option maxHeartbeats 4000000 in
set_option maxRecDepth 100000 in
theorem w_X0_pack_caps_4 (C0 : Mc p m c meth cX0_pack 4 s args wsX0_pack RX0 (some .int) D cy A) {post : Int32 → Sg → Tg → Prop} : ∀ (n : Nat) (x2 : Int32) (x3 : Int32) (σ : Sg) (τ : Tg), wp_X0_pack_caps_4 post n x2 x3 σ τ → ∀ κ : Nat → Nat, G_X0_pack_caps p l e s m args below meth c D A cy ad post (cfW cy ad κ σ τ) 4 [(0, .ref (ad 5)), (1, .ref (ad 22)), (2, .int x2), (3, .int x3)] 4 [] := by
  obtain ⟨⟨hx, hb, hml, hown, hts⟩, hr, hlocks, hkx, hA⟩ := id C0
  intro n
  induction n with
  | zero => intro x2 x3 σ τ h; exact False.elim h
  | succ n ih =>
    intro x2 x3 σ τ h κ H locs ls hw hl
    unfold wp_X0_pack_caps_4 at h
    refine lv_iload_n hx hb dX0_pack_4 rfl (lv_at hl 3 rfl) ?_
    refine lv_iconst (v := 3) hx hb dX0_pack_5 (by decide) ?_
    refine lv_icmp_gt (tgt := 45) hx hb dX0_pack_6 (by decide) (fun c_1 => ?_) (fun c_1 => ?_)
    · replace h := h.1 c_1
      refine lv_iload_n hx hb dX0_pack_45 rfl (lv_at hl 2 rfl) ?_
      exact end_i (w1 := (cfU cy ad)) (u := (κ, σ, τ)) C0 hw h dX0_pack_46
    · replace h := h.2 c_1
      refine lv_iload_n hx hb dX0_pack_9 rfl (lv_at hl 2 rfl) ?_
      refine lv_bipush (v := 14) hx hb dX0_pack_10 (by decide) ?_
      refine lv_imul hx hb dX0_pack_12 ?_
      refine lv_aload_n hx hb dX0_pack_13 rfl (lv_at hl 0 rfl) ?_
      refine cg_co_at hx hb hts inw_X0_pack_X0 hown hkx hw (hts _ (List.mem_of_getElem? (i := 1) rfl)) dX0_pack_14 ?_
      refine lv_iload_n hx hb dX0_pack_17 rfl (lv_at hl 3 rfl) ?_
      obtain ⟨b_2, h⟩ := h
      refine ca_at hx hb hkx hw b_2 dX0_pack_18 ?_
      refine lv_aload_n hx hb dX0_pack_19 rfl (lv_at hl 1 rfl) ?_
      refine lv_iload_n hx hb dX0_pack_20 rfl (lv_at hl 3 rfl) ?_
      obtain ⟨b_3, h⟩ := h
      refine ca_caps hx hb hkx hw b_3 dX0_pack_21 ?_
      refine lv_icmp_ge (tgt := 34) hx hb dX0_pack_22 (by decide) (fun c_4 => ?_) (fun c_4 => ?_)
      · replace h := h.1 c_4
        refine lv_aload_n hx hb dX0_pack_34 rfl (lv_at hl 1 rfl) ?_
        refine lv_iload_n hx hb dX0_pack_35 rfl (lv_at hl 3 rfl) ?_
        obtain ⟨b_5, h⟩ := h
        refine ca_caps hx hb hkx hw b_5 dX0_pack_36 ?_
        refine lv_iadd hx hb dX0_pack_37 ?_
        refine lv_topi (fun y_6 ey_6 => ?_)
        replace h := h y_6 ey_6
        refine lv_istore_n (lv' := [(2, .int y_6), (0, .ref (ad 5)), (1, .ref (ad 22)), (3, .int x3)]) hx hb dX0_pack_38 rfl hl (by decide) rfl (fun ls hl => ?_)
        refine lv_iinc (v := x3 + (1 : Int32)) (lv' := [(3, .int (x3 + (1 : Int32))), (2, .int y_6), (0, .ref (ad 5)), (1, .ref (ad 22))]) hx hb dX0_pack_39 hl (k := 3) rfl rfl (by decide) rfl (fun ls hl => ?_)
        refine lv_goto (tgt := 4) hx hb dX0_pack_42 (by decide) ?_
        exact ih _ _ _ _ h _ _ _ _ hw (lv_sub hl [2, 3, 1, 0] rfl)
      · replace h := h.2 c_4
        refine lv_aload_n hx hb dX0_pack_25 rfl (lv_at hl 0 rfl) ?_
        refine cg_co_at hx hb hts inw_X0_pack_X0 hown hkx hw (hts _ (List.mem_of_getElem? (i := 1) rfl)) dX0_pack_26 ?_
        refine lv_iload_n hx hb dX0_pack_29 rfl (lv_at hl 3 rfl) ?_
        obtain ⟨b_7, h⟩ := h
        refine ca_at hx hb hkx hw b_7 dX0_pack_30 ?_
        refine lv_goto (tgt := 37) hx hb dX0_pack_31 (by decide) ?_
        refine lv_iadd hx hb dX0_pack_37 ?_
        refine lv_topi (fun y_8 ey_8 => ?_)
        replace h := h y_8 ey_8
        refine lv_istore_n (lv' := [(2, .int y_8), (0, .ref (ad 5)), (1, .ref (ad 22)), (3, .int x3)]) hx hb dX0_pack_38 rfl hl (by decide) rfl (fun ls hl => ?_)
        refine lv_iinc (v := x3 + (1 : Int32)) (lv' := [(3, .int (x3 + (1 : Int32))), (2, .int y_8), (0, .ref (ad 5)), (1, .ref (ad 22))]) hx hb dX0_pack_39 hl (k := 3) rfl rfl (by decide) rfl (fun ls hl => ?_)
        refine lv_goto (tgt := 4) hx hb dX0_pack_42 (by decide) ?_
        exact ih _ _ _ _ h _ _ _ _ hw (lv_sub hl [2, 3, 1, 0] rfl)
def wp_X0_pack_caps (σ : Sg) (τ : Tg) (post : Int32 → Sg → Tg → Prop) : Prop :=
    ∃ fu, wp_X0_pack_caps_4 post fu (0 : Int32) (1 : Int32) σ τ
set_option maxHeartbeats 4000000 in
set_option maxRecDepth 100000 in
theorem c_X0_pack_caps (l : Launch) (D : va_G) (cy : Nat → ClassId) (ad κ : Nat → Nat) (σ : Sg) (τ : Tg) (post : Int32 → Sg → Tg → Prop) (h : wp_X0_pack_caps σ τ post) : Ct l yX0_pack wsX0_pack rm_X0_pack_caps D cy [.ref (ad 5), .ref (ad 22)] (cfW cy ad κ σ τ) 0 0 (Ri D (cfU cy ad) (fun r u => post r u.2.1 u.2.2)) := by
  refine Ct.of (cc := cX0_pack) (maxL := 4) (rt := (some .int)) (by decide) rfl (Nat.le_of_ble_eq_true rfl) ?_
  intro p e s m below meth c A C0 _ H locs ls hw hl
  obtain ⟨⟨hx, hb, hml, hown, hts⟩, hr, hlocks, hkx, hA⟩ := id C0
  have hl : lv_has ls 4 [(0, .ref (ad 5)), (1, .ref (ad 22))] := hl
  unfold wp_X0_pack_caps at h
  refine lv_iconst (v := 0) hx hb dX0_pack_0 (by decide) ?_
  refine lv_istore_n (lv' := [(2, .int (0 : Int32)), (0, .ref (ad 5)), (1, .ref (ad 22))]) hx hb dX0_pack_1 rfl hl (by decide) rfl (fun ls hl => ?_)
  refine lv_iconst (v := 1) hx hb dX0_pack_2 (by decide) ?_
  refine lv_istore_n (lv' := [(3, .int (1 : Int32)), (2, .int (0 : Int32)), (0, .ref (ad 5)), (1, .ref (ad 22))]) hx hb dX0_pack_3 rfl hl (by decide) rfl (fun ls hl => ?_)
  obtain ⟨n_1, h⟩ := h
  exact w_X0_pack_caps_4 C0 n_1 _ _ _ _ h _ _ _ _ hw (lv_sub hl [2, 3, 1, 0] rfl)
end
theorem hd_X0_allowHead : yX0_allowHead.cls = RX0 ∧ yX0_allowHead.cls ≠ "java/lang/invoke/MethodHandle" ∧ yX0_allowHead.cls ≠ "java/lang/invoke/VarHandle" ∧ (parseMethodDescriptor yX0_allowHead.desc).map (fun d => d.parameters.length) = some 2 := by decide +kernel
section
variable {p : Program} {l : Launch} {e : Env} {s : State} {m : MethodId} {args : Array Value} {below : List Frame} {meth : Method} {c : Code} {D : va_G} {cy : Nat → ClassId} {A : Nat → Prop} {ad : Nat → Nat}
abbrev rm_X0_allowHead : Room := { frames := 1, cells := 0, slots := 0, locals := 22 }
theorem inw_X0_allowHead_X0 : ∀ w ∈ u_ws RX0 TX0 2, w ∈ wsX0_allowHead := fun _ h => List.mem_cons_of_mem _ (List.mem_append_left _ (List.mem_append_right _ h))
theorem inw_X0_allowHead_X1 : ∀ w ∈ u_ws RX1 TX1 9, w ∈ wsX0_allowHead := fun _ h => List.mem_cons_of_mem _ (List.mem_append_right _ h)
abbrev G_X0_allowHead (p : Program) (l : Launch) (e : Env) (s : State) (m : MethodId) (args : Array Value) (below : List Frame) (meth : Method) (c : Code) (D : va_G) (A : Nat → Prop) (cy : Nat → ClassId) (ad : Nat → Nat) (post : Int32 → Sg → Tg → Prop) : va_W → Nat → List (Nat × Value) → Nat → List Value → Prop := Gw p l e rm_X0_allowHead s m args below meth c D A (MQ below ((Ri D (cfU cy ad) (fun r u => post r u.2.1 u.2.2)) A) args s 0 0 A)
def wp_X0_allowHead_39 (post : Int32 → Sg → Tg → Prop) : Nat → Int32 → Int32 → Int32 → Sg → Tg → Prop
  | 0, _, _, _, _, _ => False
  | n + 1, x1, x2, x4, σ, τ =>
    (x2 ≤ x4 →
    wp_X1_partAt x1 x2 σ τ (fun r_2 σ_3 τ_4 =>
    vp_in x2 4 ∧
    (r_2 ≤ (σ_3 33 x2.toNatClampNeg) →
    post (0 : Int32) σ_3 τ_4) ∧
    (¬ r_2 ≤ (σ_3 33 x2.toNatClampNeg) →
    post (1 : Int32) σ_3 τ_4))) ∧
    (¬ x2 ≤ x4 →
    wp_X1_partAt x1 x4 σ τ (fun r_7 σ_8 τ_9 =>
    vp_in x4 4 ∧
    (r_7 = (σ_8 33 x4.toNatClampNeg) →
    wp_X0_allowHead_39 post n x1 x2 (x4 + (1 : Int32)) σ_8 τ_9) ∧
    (¬ r_7 = (σ_8 33 x4.toNatClampNeg) →
    post (0 : Int32) σ_8 τ_9)))
set_option maxHeartbeats 4000000 in
set_option maxRecDepth 100000 in
theorem w_X0_allowHead_39 (C0 : Mc p m c meth cX0_allowHead 5 s args wsX0_allowHead RX0 (some .boolean) D cy A) {post : Int32 → Sg → Tg → Prop} : ∀ (n : Nat) (x1 : Int32) (x2 : Int32) (x4 : Int32) (σ : Sg) (τ : Tg), wp_X0_allowHead_39 post n x1 x2 x4 σ τ → ∀ κ : Nat → Nat, G_X0_allowHead p l e s m args below meth c D A cy ad post (cfW cy ad κ σ τ) 5 [(0, .ref (ad 5)), (1, .int x1), (2, .int x2), (4, .int x4)] 39 [] := by
  obtain ⟨⟨hx, hb, hml, hown, hts⟩, hr, hlocks, hkx, hA⟩ := id C0
  intro n
  induction n with
  | zero => intro x1 x2 x4 σ τ h; exact False.elim h
  | succ n ih =>
    intro x1 x2 x4 σ τ h κ H locs ls hw hl
    unfold wp_X0_allowHead_39 at h
    refine lv_iload hx hb dX0_allowHead_39 (lv_at hl 3 rfl) ?_
    refine lv_iload_n hx hb dX0_allowHead_41 rfl (lv_at hl 2 rfl) ?_
    refine lv_icmp_ge (tgt := 73) hx hb dX0_allowHead_42 (by decide) (fun c_1 => ?_) (fun c_1 => ?_)
    · replace h := h.1 c_1
      refine lv_aload_n hx hb dX0_allowHead_73 rfl (lv_at hl 0 rfl) ?_
      refine cg_co_lines hx hb hts inw_X0_allowHead_X0 hown hkx hw (hts _ (List.mem_of_getElem? (i := 2) rfl)) dX0_allowHead_74 ?_
      refine lv_iload_n hx hb dX0_allowHead_77 rfl (lv_at hl 1 rfl) ?_
      refine lv_iload_n hx hb dX0_allowHead_78 rfl (lv_at hl 2 rfl) ?_
      refine cf_Vi (As := [.int x1, .int x2]) ⟨hx, hb, hml, hown, hts⟩ hkx hw hA (c_X1_partAt l D cy ad κ σ τ x1 x2 _ h) (cwV 2 hts gX0_allowHead_X1_partAt rfl rfl rfl hd_X1_partAt ⟨Nat.le_of_ble_eq_true rfl, Nat.le_of_ble_eq_true rfl⟩) 3 1 rfl rfl rfl hl.1 rfl (Nat.le_of_ble_eq_true rfl) dX0_allowHead_79 ⟨Nat.zero_le _, Nat.zero_le _⟩ (fun r_2 κ σ_3 τ_4 H locs h hw => ?_)
      refine lv_aload_n hx hb dX0_allowHead_82 rfl (lv_at hl 0 rfl) ?_
      refine cg_co_at hx hb hts inw_X0_allowHead_X0 hown hkx hw (hts _ (List.mem_of_getElem? (i := 1) rfl)) dX0_allowHead_83 ?_
      refine lv_iload_n hx hb dX0_allowHead_86 rfl (lv_at hl 2 rfl) ?_
      obtain ⟨b_5, h⟩ := h
      refine ca_at hx hb hkx hw b_5 dX0_allowHead_87 ?_
      refine lv_icmp_le (tgt := 95) hx hb dX0_allowHead_88 (by decide) (fun c_6 => ?_) (fun c_6 => ?_)
      · replace h := h.1 c_6
        refine lv_iconst (v := 0) hx hb dX0_allowHead_95 (by decide) ?_
        exact end_z (w1 := (cfU cy ad)) (u := (κ, σ_3, τ_4)) C0 hw (Or.inl rfl) h dX0_allowHead_96
      · replace h := h.2 c_6
        refine lv_iconst (v := 1) hx hb dX0_allowHead_91 (by decide) ?_
        refine lv_goto (tgt := 96) hx hb dX0_allowHead_92 (by decide) ?_
        exact end_z (w1 := (cfU cy ad)) (u := (κ, σ_3, τ_4)) C0 hw (Or.inr rfl) h dX0_allowHead_96
    · replace h := h.2 c_1
      refine lv_aload_n hx hb dX0_allowHead_45 rfl (lv_at hl 0 rfl) ?_
      refine cg_co_lines hx hb hts inw_X0_allowHead_X0 hown hkx hw (hts _ (List.mem_of_getElem? (i := 2) rfl)) dX0_allowHead_46 ?_
      refine lv_iload_n hx hb dX0_allowHead_49 rfl (lv_at hl 1 rfl) ?_
      refine lv_iload hx hb dX0_allowHead_50 (lv_at hl 3 rfl) ?_
      refine cf_Vi (As := [.int x1, .int x4]) ⟨hx, hb, hml, hown, hts⟩ hkx hw hA (c_X1_partAt l D cy ad κ σ τ x1 x4 _ h) (cwV 2 hts gX0_allowHead_X1_partAt rfl rfl rfl hd_X1_partAt ⟨Nat.le_of_ble_eq_true rfl, Nat.le_of_ble_eq_true rfl⟩) 3 1 rfl rfl rfl hl.1 rfl (Nat.le_of_ble_eq_true rfl) dX0_allowHead_52 ⟨Nat.zero_le _, Nat.zero_le _⟩ (fun r_7 κ σ_8 τ_9 H locs h hw => ?_)
      refine lv_aload_n hx hb dX0_allowHead_55 rfl (lv_at hl 0 rfl) ?_
      refine cg_co_at hx hb hts inw_X0_allowHead_X0 hown hkx hw (hts _ (List.mem_of_getElem? (i := 1) rfl)) dX0_allowHead_56 ?_
      refine lv_iload hx hb dX0_allowHead_59 (lv_at hl 3 rfl) ?_
      obtain ⟨b_10, h⟩ := h
      refine ca_at hx hb hkx hw b_10 dX0_allowHead_61 ?_
      refine lv_icmp_eq (tgt := 67) hx hb dX0_allowHead_62 (by decide) (fun c_11 => ?_) (fun c_11 => ?_)
      · replace h := h.1 c_11
        refine lv_iinc (v := x4 + (1 : Int32)) (lv' := [(4, .int (x4 + (1 : Int32))), (0, .ref (ad 5)), (1, .int x1), (2, .int x2)]) hx hb dX0_allowHead_67 hl (k := 3) rfl rfl (by decide) rfl (fun ls hl => ?_)
        refine lv_goto (tgt := 39) hx hb dX0_allowHead_70 (by decide) ?_
        exact ih _ _ _ _ _ h _ _ _ _ hw (lv_sub hl [1, 2, 3, 0] rfl)
      · replace h := h.2 c_11
        refine lv_iconst (v := 0) hx hb dX0_allowHead_65 (by decide) ?_
        exact end_z (w1 := (cfU cy ad)) (u := (κ, σ_8, τ_9)) C0 hw (Or.inl rfl) h dX0_allowHead_66
def wp_X0_allowHead (x1 : Int32) (x2 : Int32) (σ : Sg) (τ : Tg) (post : Int32 → Sg → Tg → Prop) : Prop :=
    vp_in (x2 - (1 : Int32)) 4 ∧
    (¬ (σ 33 (x2 - (1 : Int32)).toNatClampNeg) = 0 →
    vp_in x1 20 ∧
    ∀ y_4 : Int32, y_4 = (σ 25 x1.toNatClampNeg) →
    (¬ y_4 = 0 →
    (y_4 = x2 →
    ∃ fu, wp_X0_allowHead_39 post fu x1 x2 (1 : Int32) σ τ) ∧
    (¬ y_4 = x2 →
    post (0 : Int32) σ τ)) ∧
    (y_4 = 0 →
    post (1 : Int32) σ τ)) ∧
    ((σ 33 (x2 - (1 : Int32)).toNatClampNeg) = 0 →
    post (0 : Int32) σ τ)
set_option maxHeartbeats 4000000 in
set_option maxRecDepth 100000 in
theorem c_X0_allowHead (l : Launch) (D : va_G) (cy : Nat → ClassId) (ad κ : Nat → Nat) (σ : Sg) (τ : Tg) (x1 : Int32) (x2 : Int32) (post : Int32 → Sg → Tg → Prop) (h : wp_X0_allowHead x1 x2 σ τ post) : Ct l yX0_allowHead wsX0_allowHead rm_X0_allowHead D cy [.ref (ad 5), .int x1, .int x2] (cfW cy ad κ σ τ) 0 0 (Ri D (cfU cy ad) (fun r u => post r u.2.1 u.2.2)) := by
  refine Ct.of (cc := cX0_allowHead) (maxL := 5) (rt := (some .boolean)) (by decide) rfl (Nat.le_of_ble_eq_true rfl) ?_
  intro p e s m below meth c A C0 _ H locs ls hw hl
  obtain ⟨⟨hx, hb, hml, hown, hts⟩, hr, hlocks, hkx, hA⟩ := id C0
  have hl : lv_has ls 5 [(0, .ref (ad 5)), (1, .int x1), (2, .int x2)] := hl
  unfold wp_X0_allowHead at h
  refine lv_aload_n hx hb dX0_allowHead_0 rfl (lv_at hl 0 rfl) ?_
  refine cg_co_at hx hb hts inw_X0_allowHead_X0 hown hkx hw (hts _ (List.mem_of_getElem? (i := 1) rfl)) dX0_allowHead_1 ?_
  refine lv_iload_n hx hb dX0_allowHead_4 rfl (lv_at hl 2 rfl) ?_
  refine lv_iconst (v := 1) hx hb dX0_allowHead_5 (by decide) ?_
  refine lv_isub hx hb dX0_allowHead_6 ?_
  obtain ⟨b_1, h⟩ := h
  refine ca_at hx hb hkx hw b_1 dX0_allowHead_7 ?_
  refine lv_if_ne (tgt := 13) hx hb dX0_allowHead_8 (by decide) (fun c_2 => ?_) (fun c_2 => ?_)
  · replace h := h.1 c_2
    refine lv_aload_n hx hb dX0_allowHead_13 rfl (lv_at hl 0 rfl) ?_
    refine cg_co_lines hx hb hts inw_X0_allowHead_X0 hown hkx hw (hts _ (List.mem_of_getElem? (i := 2) rfl)) dX0_allowHead_14 ?_
    refine cg_ln_parts hx hb hts inw_X0_allowHead_X1 hown hkx hw (hts _ (List.mem_of_getElem? (i := 3) rfl)) dX0_allowHead_17 ?_
    refine lv_iload_n hx hb dX0_allowHead_20 rfl (lv_at hl 1 rfl) ?_
    obtain ⟨b_3, h⟩ := h
    refine ca_parts hx hb hkx hw b_3 dX0_allowHead_21 ?_
    refine lv_topi (fun y_4 ey_4 => ?_)
    replace h := h y_4 ey_4
    refine lv_istore_n (lv' := [(3, .int y_4), (0, .ref (ad 5)), (1, .int x1), (2, .int x2)]) hx hb dX0_allowHead_22 rfl hl (by decide) rfl (fun ls hl => ?_)
    refine lv_iload_n hx hb dX0_allowHead_23 rfl (lv_at hl 0 rfl) ?_
    refine lv_if_ne (tgt := 29) hx hb dX0_allowHead_24 (by decide) (fun c_5 => ?_) (fun c_5 => ?_)
    · replace h := h.1 c_5
      refine lv_iload_n hx hb dX0_allowHead_29 rfl (lv_at hl 0 rfl) ?_
      refine lv_iload_n hx hb dX0_allowHead_30 rfl (lv_at hl 3 rfl) ?_
      refine lv_icmp_eq (tgt := 36) hx hb dX0_allowHead_31 (by decide) (fun c_6 => ?_) (fun c_6 => ?_)
      · replace h := h.1 c_6
        refine lv_iconst (v := 1) hx hb dX0_allowHead_36 (by decide) ?_
        refine lv_istore (lv' := [(4, .int (1 : Int32)), (3, .int y_4), (0, .ref (ad 5)), (1, .int x1), (2, .int x2)]) hx hb dX0_allowHead_37 hl (by decide) rfl (fun ls hl => ?_)
        obtain ⟨n_7, h⟩ := h
        exact w_X0_allowHead_39 C0 n_7 _ _ _ _ _ h _ _ _ _ hw (lv_sub hl [2, 3, 4, 0] rfl)
      · replace h := h.2 c_6
        refine lv_iconst (v := 0) hx hb dX0_allowHead_34 (by decide) ?_
        exact end_z (w1 := (cfU cy ad)) (u := (κ, σ, τ)) C0 hw (Or.inl rfl) h dX0_allowHead_35
    · replace h := h.2 c_5
      refine lv_iconst (v := 1) hx hb dX0_allowHead_27 (by decide) ?_
      exact end_z (w1 := (cfU cy ad)) (u := (κ, σ, τ)) C0 hw (Or.inr rfl) h dX0_allowHead_28
  · replace h := h.2 c_2
    refine lv_iconst (v := 0) hx hb dX0_allowHead_11 (by decide) ?_
    exact end_z (w1 := (cfU cy ad)) (u := (κ, σ, τ)) C0 hw (Or.inl rfl) h dX0_allowHead_12
end
theorem hd_X0_passHead : yX0_passHead.cls = RX0 ∧ yX0_passHead.cls ≠ "java/lang/invoke/MethodHandle" ∧ yX0_passHead.cls ≠ "java/lang/invoke/VarHandle" ∧ (parseMethodDescriptor yX0_passHead.desc).map (fun d => d.parameters.length) = some 2 := by decide +kernel
section
variable {p : Program} {l : Launch} {e : Env} {s : State} {m : MethodId} {args : Array Value} {below : List Frame} {meth : Method} {c : Code} {D : va_G} {cy : Nat → ClassId} {A : Nat → Prop} {ad : Nat → Nat}
abbrev rm_X0_passHead : Room := { frames := 1, cells := 0, slots := 0, locals := 22 }
theorem inw_X0_passHead_X0 : ∀ w ∈ u_ws RX0 TX0 2, w ∈ wsX0_passHead := fun _ h => List.mem_cons_of_mem _ (List.mem_append_left _ (List.mem_append_right _ h))
theorem inw_X0_passHead_X1 : ∀ w ∈ u_ws RX1 TX1 9, w ∈ wsX0_passHead := fun _ h => List.mem_cons_of_mem _ (List.mem_append_right _ h)
abbrev G_X0_passHead (p : Program) (l : Launch) (e : Env) (s : State) (m : MethodId) (args : Array Value) (below : List Frame) (meth : Method) (c : Code) (D : va_G) (A : Nat → Prop) (cy : Nat → ClassId) (ad : Nat → Nat) (post : Sg → Tg → Prop) : va_W → Nat → List (Nat × Value) → Nat → List Value → Prop := Gw p l e rm_X0_passHead s m args below meth c D A (MQ below ((Rv D (cfU cy ad) (fun u => post u.2.1 u.2.2)) A) args s 0 0 A)
def wp_X0_passHead_42 (post : Sg → Tg → Prop) : Nat → Int32 → Sg → Tg → Prop
  | 0, _, _, _ => False
  | n + 1, x3, σ, τ =>
    ((3 : Int32) < x3 →
    post σ τ) ∧
    (¬ (3 : Int32) < x3 →
    vp_in x3 4 ∧
    ∀ σ_3 : Sg, σ_3 = va_up σ 33 (upd (σ 33) x3.toNatClampNeg (0 : Int32)) →
    wp_X0_passHead_42 post n (x3 + (1 : Int32)) σ_3 τ)
set_option maxHeartbeats 4000000 in
set_option maxRecDepth 100000 in
theorem w_X0_passHead_42 (C0 : Mc p m c meth cX0_passHead 4 s args wsX0_passHead RX0 none D cy A) {post : Sg → Tg → Prop} : ∀ (n : Nat) (x3 : Int32) (σ : Sg) (τ : Tg), wp_X0_passHead_42 post n x3 σ τ → ∀ κ : Nat → Nat, G_X0_passHead p l e s m args below meth c D A cy ad post (cfW cy ad κ σ τ) 4 [(0, .ref (ad 5)), (3, .int x3)] 42 [] := by
  obtain ⟨⟨hx, hb, hml, hown, hts⟩, hr, hlocks, hkx, hA⟩ := id C0
  intro n
  induction n with
  | zero => intro x3 σ τ h; exact False.elim h
  | succ n ih =>
    intro x3 σ τ h κ H locs ls hw hl
    unfold wp_X0_passHead_42 at h
    refine lv_iload_n hx hb dX0_passHead_42 rfl (lv_at hl 1 rfl) ?_
    refine lv_iconst (v := 3) hx hb dX0_passHead_43 (by decide) ?_
    refine lv_icmp_gt (tgt := 60) hx hb dX0_passHead_44 (by decide) (fun c_1 => ?_) (fun c_1 => ?_)
    · replace h := h.1 c_1
      exact end_v (w1 := (cfU cy ad)) (u := (κ, σ, τ)) C0 hw h dX0_passHead_60
    · replace h := h.2 c_1
      refine lv_aload_n hx hb dX0_passHead_47 rfl (lv_at hl 0 rfl) ?_
      refine cg_co_at hx hb hts inw_X0_passHead_X0 hown hkx hw (hts _ (List.mem_of_getElem? (i := 1) rfl)) dX0_passHead_48 ?_
      refine lv_iload_n hx hb dX0_passHead_51 rfl (lv_at hl 1 rfl) ?_
      refine lv_iconst (v := 0) hx hb dX0_passHead_52 (by decide) ?_
      obtain ⟨b_2, h⟩ := h
      refine cs_at hx hb hkx hw b_2 dX0_passHead_53 (fun σ_3 eσ_3 H locs hw => ?_)
      replace h := h σ_3 eσ_3
      refine lv_iinc (v := x3 + (1 : Int32)) (lv' := [(3, .int (x3 + (1 : Int32))), (0, .ref (ad 5))]) hx hb dX0_passHead_54 hl (k := 1) rfl rfl (by decide) rfl (fun ls hl => ?_)
      refine lv_goto (tgt := 42) hx hb dX0_passHead_57 (by decide) ?_
      exact ih _ _ _ h _ _ _ _ hw (lv_sub hl [1, 0] rfl)
def wp_X0_passHead (x1 : Int32) (x2 : Int32) (σ : Sg) (τ : Tg) (post : Sg → Tg → Prop) : Prop :=
    vp_in x1 20 ∧
    (¬ (σ 25 x1.toNatClampNeg) = 0 →
    wp_X1_partAt x1 x2 σ τ (fun r_3 σ_4 τ_5 =>
    vp_in x2 4 ∧
    ∀ σ_7 : Sg, σ_7 = va_up σ_4 33 (upd (σ_4 33) x2.toNatClampNeg r_3) →
    ∀ y_8 : Int32, y_8 = (x2 + (1 : Int32)) →
    ∃ fu, wp_X0_passHead_42 post fu y_8 σ_7 τ_5)) ∧
    ((σ 25 x1.toNatClampNeg) = 0 →
    vp_in x2 4 ∧
    vp_in x2 4 ∧
    ∀ σ_12 : Sg, σ_12 = va_up σ 33 (upd (σ 33) x2.toNatClampNeg ((σ 33 x2.toNatClampNeg) + (1 : Int32))) →
    ∀ y_13 : Int32, y_13 = (x2 + (1 : Int32)) →
    ∃ fu, wp_X0_passHead_42 post fu y_13 σ_12 τ)
set_option maxHeartbeats 4000000 in
set_option maxRecDepth 100000 in
theorem c_X0_passHead (l : Launch) (D : va_G) (cy : Nat → ClassId) (ad κ : Nat → Nat) (σ : Sg) (τ : Tg) (x1 : Int32) (x2 : Int32) (post : Sg → Tg → Prop) (h : wp_X0_passHead x1 x2 σ τ post) : Ct l yX0_passHead wsX0_passHead rm_X0_passHead D cy [.ref (ad 5), .int x1, .int x2] (cfW cy ad κ σ τ) 0 0 (Rv D (cfU cy ad) (fun u => post u.2.1 u.2.2)) := by
  refine Ct.of (cc := cX0_passHead) (maxL := 4) (rt := none) (by decide) rfl (Nat.le_of_ble_eq_true rfl) ?_
  intro p e s m below meth c A C0 _ H locs ls hw hl
  obtain ⟨⟨hx, hb, hml, hown, hts⟩, hr, hlocks, hkx, hA⟩ := id C0
  have hl : lv_has ls 4 [(0, .ref (ad 5)), (1, .int x1), (2, .int x2)] := hl
  unfold wp_X0_passHead at h
  refine lv_aload_n hx hb dX0_passHead_0 rfl (lv_at hl 0 rfl) ?_
  refine cg_co_at hx hb hts inw_X0_passHead_X0 hown hkx hw (hts _ (List.mem_of_getElem? (i := 1) rfl)) dX0_passHead_1 ?_
  refine lv_iload_n hx hb dX0_passHead_4 rfl (lv_at hl 2 rfl) ?_
  refine lv_aload_n hx hb dX0_passHead_5 rfl (lv_at hl 0 rfl) ?_
  refine cg_co_lines hx hb hts inw_X0_passHead_X0 hown hkx hw (hts _ (List.mem_of_getElem? (i := 2) rfl)) dX0_passHead_6 ?_
  refine cg_ln_parts hx hb hts inw_X0_passHead_X1 hown hkx hw (hts _ (List.mem_of_getElem? (i := 3) rfl)) dX0_passHead_9 ?_
  refine lv_iload_n hx hb dX0_passHead_12 rfl (lv_at hl 1 rfl) ?_
  obtain ⟨b_1, h⟩ := h
  refine ca_parts hx hb hkx hw b_1 dX0_passHead_13 ?_
  refine lv_if_ne (tgt := 28) hx hb dX0_passHead_14 (by decide) (fun c_2 => ?_) (fun c_2 => ?_)
  · replace h := h.1 c_2
    refine lv_aload_n hx hb dX0_passHead_28 rfl (lv_at hl 0 rfl) ?_
    refine cg_co_lines hx hb hts inw_X0_passHead_X0 hown hkx hw (hts _ (List.mem_of_getElem? (i := 2) rfl)) dX0_passHead_29 ?_
    refine lv_iload_n hx hb dX0_passHead_32 rfl (lv_at hl 1 rfl) ?_
    refine lv_iload_n hx hb dX0_passHead_33 rfl (lv_at hl 2 rfl) ?_
    refine cf_Vi (As := [.int x1, .int x2]) ⟨hx, hb, hml, hown, hts⟩ hkx hw hA (c_X1_partAt l D cy ad κ σ τ x1 x2 _ h) (cwV 2 hts gX0_passHead_X1_partAt rfl rfl rfl hd_X1_partAt ⟨Nat.le_of_ble_eq_true rfl, Nat.le_of_ble_eq_true rfl⟩) 3 1 rfl rfl rfl hl.1 rfl (Nat.le_of_ble_eq_true rfl) dX0_passHead_34 ⟨Nat.zero_le _, Nat.zero_le _⟩ (fun r_3 κ σ_4 τ_5 H locs h hw => ?_)
    obtain ⟨b_6, h⟩ := h
    refine cs_at hx hb hkx hw b_6 dX0_passHead_37 (fun σ_7 eσ_7 H locs hw => ?_)
    replace h := h σ_7 eσ_7
    refine lv_iload_n hx hb dX0_passHead_38 rfl (lv_at hl 2 rfl) ?_
    refine lv_iconst (v := 1) hx hb dX0_passHead_39 (by decide) ?_
    refine lv_iadd hx hb dX0_passHead_40 ?_
    refine lv_topi (fun y_8 ey_8 => ?_)
    replace h := h y_8 ey_8
    refine lv_istore_n (lv' := [(3, .int y_8), (0, .ref (ad 5)), (1, .int x1), (2, .int x2)]) hx hb dX0_passHead_41 rfl hl (by decide) rfl (fun ls hl => ?_)
    obtain ⟨n_9, h⟩ := h
    exact w_X0_passHead_42 C0 n_9 _ _ _ h _ _ _ _ hw (lv_sub hl [1, 0] rfl)
  · replace h := h.2 c_2
    refine lv_aload_n hx hb dX0_passHead_17 rfl (lv_at hl 0 rfl) ?_
    refine cg_co_at hx hb hts inw_X0_passHead_X0 hown hkx hw (hts _ (List.mem_of_getElem? (i := 1) rfl)) dX0_passHead_18 ?_
    refine lv_iload_n hx hb dX0_passHead_21 rfl (lv_at hl 2 rfl) ?_
    obtain ⟨b_10, h⟩ := h
    refine ca_at hx hb hkx hw b_10 dX0_passHead_22 ?_
    refine lv_iconst (v := 1) hx hb dX0_passHead_23 (by decide) ?_
    refine lv_iadd hx hb dX0_passHead_24 ?_
    refine lv_goto (tgt := 37) hx hb dX0_passHead_25 (by decide) ?_
    obtain ⟨b_11, h⟩ := h
    refine cs_at hx hb hkx hw b_11 dX0_passHead_37 (fun σ_12 eσ_12 H locs hw => ?_)
    replace h := h σ_12 eσ_12
    refine lv_iload_n hx hb dX0_passHead_38 rfl (lv_at hl 2 rfl) ?_
    refine lv_iconst (v := 1) hx hb dX0_passHead_39 (by decide) ?_
    refine lv_iadd hx hb dX0_passHead_40 ?_
    refine lv_topi (fun y_13 ey_13 => ?_)
    replace h := h y_13 ey_13
    refine lv_istore_n (lv' := [(3, .int y_13), (0, .ref (ad 5)), (1, .int x1), (2, .int x2)]) hx hb dX0_passHead_41 rfl hl (by decide) rfl (fun ls hl => ?_)
    obtain ⟨n_14, h⟩ := h
    exact w_X0_passHead_42 C0 n_14 _ _ _ h _ _ _ _ hw (lv_sub hl [1, 0] rfl)
end
