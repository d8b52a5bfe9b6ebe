theorem hd_X8_look : yX8_look.cls = RX8 ∧ yX8_look.cls ≠ "java/lang/invoke/MethodHandle" ∧ yX8_look.cls ≠ "java/lang/invoke/VarHandle" ∧ (parseMethodDescriptor yX8_look.desc).map (fun d => d.parameters.length) = some 1 := by decide +kernel
section
variable {p : Program} {l : Launch} {e : Env} {s : State} {m : MethodId} {args : Array Value} {below : List Frame} {meth : Method} {c : Code} {D : va_G} {cy : Nat → ClassId} {A : Nat → Prop} {ad : Nat → Nat}
abbrev rm_X8_look : Room := { frames := 0, cells := 0, slots := 0, locals := 0 }
theorem inw_X8_look_X8 : ∀ w ∈ u_ws RX8 TX8 35, w ∈ wsX8_look := fun _ h => List.mem_cons_of_mem _ (List.mem_append_right _ h)
def wp_X8_look (x1 : Int32) (σ : Sg) (post : Int32 → Sg → Prop) : Prop :=
    vp_in x1 20 ∧
    vp_in x1 20 ∧
    vp_in x1 20 ∧
    ((σ 13 x1.toNatClampNeg) = 0 →
    post (((σ 11 x1.toNatClampNeg) + (σ 12 x1.toNatClampNeg)) + (0 : Int32)) σ) ∧
    (¬ (σ 13 x1.toNatClampNeg) = 0 →
    post (((σ 11 x1.toNatClampNeg) + (σ 12 x1.toNatClampNeg)) + (3 : Int32)) σ)
set_option maxHeartbeats 4000000 in
set_option maxRecDepth 100000 in
theorem c_X8_look (l : Launch) (D : va_G) (cy : Nat → ClassId) (ad : Nat → Nat) (σ : Sg) (x1 : Int32) (post : Int32 → Sg → Prop) (h : wp_X8_look x1 σ post) : Ct l yX8_look wsX8_look rm_X8_look D cy [.ref (ad 0), .int x1] (mdW cy ad σ) 0 0 (Ri D (mdU cy ad) (fun r u => post r u)) := by
  refine Ct.of (cc := cX8_look) (maxL := 2) (rt := (some .int)) (by decide) rfl (Nat.le_of_ble_eq_true rfl) ?_
  intro p e s m below meth c A C0 _ H locs ls hw hl
  obtain ⟨⟨hx, hb, hml, hown, hts⟩, hr, hlocks, hkx, hA⟩ := id C0
  have hl : lv_has ls 2 [(0, .ref (ad 0)), (1, .int x1)] := hl
  unfold wp_X8_look at h
  refine lv_aload_n hx hb dX8_look_0 rfl (lv_at hl 0 rfl) ?_
  refine mg_md_size hx hb hts inw_X8_look_X8 hown hkx hw (hts _ (List.mem_of_getElem? (i := 1) rfl)) dX8_look_1 ?_
  refine lv_iload_n hx hb dX8_look_4 rfl (lv_at hl 1 rfl) ?_
  obtain ⟨b_1, h⟩ := h
  refine ma_m_size hx hb hkx hw b_1 dX8_look_5 ?_
  refine lv_aload_n hx hb dX8_look_6 rfl (lv_at hl 0 rfl) ?_
  refine mg_md_blank hx hb hts inw_X8_look_X8 hown hkx hw (hts _ (List.mem_of_getElem? (i := 2) rfl)) dX8_look_7 ?_
  refine lv_iload_n hx hb dX8_look_10 rfl (lv_at hl 1 rfl) ?_
  obtain ⟨b_2, h⟩ := h
  refine ma_m_blank hx hb hkx hw b_2 dX8_look_11 ?_
  refine lv_iadd hx hb dX8_look_12 ?_
  refine lv_aload_n hx hb dX8_look_13 rfl (lv_at hl 0 rfl) ?_
  refine mg_md_isCentred hx hb hts inw_X8_look_X8 hown hkx hw (hts _ (List.mem_of_getElem? (i := 3) rfl)) dX8_look_14 ?_
  refine lv_iload_n hx hb dX8_look_17 rfl (lv_at hl 1 rfl) ?_
  obtain ⟨b_3, h⟩ := h
  refine ma_m_isCentred hx hb hkx hw b_3 dX8_look_18 ?_
  refine lv_if_eq (tgt := 26) hx hb dX8_look_19 (by decide) (fun c_4 => ?_) (fun c_4 => ?_)
  · replace h := h.1 c_4
    refine lv_iconst (v := 0) hx hb dX8_look_26 (by decide) ?_
    refine lv_iadd hx hb dX8_look_27 ?_
    exact end_i (w1 := (mdU cy ad)) (u := σ) C0 hw h dX8_look_28
  · replace h := h.2 c_4
    refine lv_iconst (v := 3) hx hb dX8_look_22 (by decide) ?_
    refine lv_goto (tgt := 27) hx hb dX8_look_23 (by decide) ?_
    refine lv_iadd hx hb dX8_look_27 ?_
    exact end_i (w1 := (mdU cy ad)) (u := σ) C0 hw h dX8_look_28
end
theorem hd_X8_areLike : yX8_areLike.cls = RX8 ∧ yX8_areLike.cls ≠ "java/lang/invoke/MethodHandle" ∧ yX8_areLike.cls ≠ "java/lang/invoke/VarHandle" ∧ (parseMethodDescriptor yX8_areLike.desc).map (fun d => d.parameters.length) = some 2 := by decide +kernel
section
variable {p : Program} {l : Launch} {e : Env} {s : State} {m : MethodId} {args : Array Value} {below : List Frame} {meth : Method} {c : Code} {D : va_G} {cy : Nat → ClassId} {A : Nat → Prop} {ad : Nat → Nat}
abbrev rm_X8_areLike : Room := { frames := 0, cells := 0, slots := 0, locals := 0 }
theorem inw_X8_areLike_X8 : ∀ w ∈ u_ws RX8 TX8 35, w ∈ wsX8_areLike := fun _ h => List.mem_cons_of_mem _ (List.mem_append_right _ h)
abbrev G_X8_areLike (p : Program) (l : Launch) (e : Env) (s : State) (m : MethodId) (args : Array Value) (below : List Frame) (meth : Method) (c : Code) (D : va_G) (A : Nat → Prop) (cy : Nat → ClassId) (ad : Nat → Nat) (post : Int32 → Sg → Prop) : va_W → Nat → List (Nat × Value) → Nat → List Value → Prop := Gw p l e rm_X8_areLike s m args below meth c D A (MQ below ((Ri D (mdU cy ad) (fun r u => post r u)) A) args s 0 0 A)
def wp_X8_areLike_19 (post : Int32 → Sg → Prop) : Nat → Int32 → Int32 → Int32 → Sg → Prop
  | 0, _, _, _, _ => False
  | n + 1, x1, x2, x3, σ =>
    ((8 : Int32) ≤ x3 →
    post (1 : Int32) σ) ∧
    (¬ (8 : Int32) ≤ x3 →
    vp_in (((8 : Int32) * x1) + x3) 160 ∧
    vp_in (((8 : Int32) * x2) + x3) 160 ∧
    ((σ 14 (((8 : Int32) * x1) + x3).toNatClampNeg) = (σ 14 (((8 : Int32) * x2) + x3).toNatClampNeg) →
    wp_X8_areLike_19 post n x1 x2 (x3 + (1 : Int32)) σ) ∧
    (¬ (σ 14 (((8 : Int32) * x1) + x3).toNatClampNeg) = (σ 14 (((8 : Int32) * x2) + x3).toNatClampNeg) →
    post (0 : Int32) σ))
set_option maxHeartbeats 4000000 in
set_option maxRecDepth 100000 in
theorem w_X8_areLike_19 (C0 : Mc p m c meth cX8_areLike 4 s args wsX8_areLike RX8 (some .boolean) D cy A) {post : Int32 → Sg → Prop} : ∀ (n : Nat) (x1 : Int32) (x2 : Int32) (x3 : Int32) (σ : Sg), wp_X8_areLike_19 post n x1 x2 x3 σ → G_X8_areLike p l e s m args below meth c D A cy ad post (mdW cy ad σ) 4 [(0, .ref (ad 0)), (1, .int x1), (2, .int x2), (3, .int x3)] 19 [] := by
  obtain ⟨⟨hx, hb, hml, hown, hts⟩, hr, hlocks, hkx, hA⟩ := id C0
  intro n
  induction n with
  | zero => intro x1 x2 x3 σ h; exact False.elim h
  | succ n ih =>
    intro x1 x2 x3 σ h H locs ls hw hl
    unfold wp_X8_areLike_19 at h
    refine lv_iload_n hx hb dX8_areLike_19 rfl (lv_at hl 3 rfl) ?_
    refine lv_bipush (v := 8) hx hb dX8_areLike_20 (by decide) ?_
    refine lv_icmp_ge (tgt := 58) hx hb dX8_areLike_22 (by decide) (fun c_1 => ?_) (fun c_1 => ?_)
    · replace h := h.1 c_1
      refine lv_iconst (v := 1) hx hb dX8_areLike_58 (by decide) ?_
      exact end_z (w1 := (mdU cy ad)) (u := σ) C0 hw (Or.inr rfl) h dX8_areLike_59
    · replace h := h.2 c_1
      refine lv_aload_n hx hb dX8_areLike_25 rfl (lv_at hl 0 rfl) ?_
      refine mg_md_words hx hb hts inw_X8_areLike_X8 hown hkx hw (hts _ (List.mem_of_getElem? (i := 2) rfl)) dX8_areLike_26 ?_
      refine lv_bipush (v := 8) hx hb dX8_areLike_29 (by decide) ?_
      refine lv_iload_n hx hb dX8_areLike_31 rfl (lv_at hl 1 rfl) ?_
      refine lv_imul hx hb dX8_areLike_32 ?_
      refine lv_iload_n hx hb dX8_areLike_33 rfl (lv_at hl 3 rfl) ?_
      refine lv_iadd hx hb dX8_areLike_34 ?_
      obtain ⟨b_2, h⟩ := h
      refine ma_m_words hx hb hkx hw b_2 dX8_areLike_35 ?_
      refine lv_aload_n hx hb dX8_areLike_36 rfl (lv_at hl 0 rfl) ?_
      refine mg_md_words hx hb hts inw_X8_areLike_X8 hown hkx hw (hts _ (List.mem_of_getElem? (i := 2) rfl)) dX8_areLike_37 ?_
      refine lv_bipush (v := 8) hx hb dX8_areLike_40 (by decide) ?_
      refine lv_iload_n hx hb dX8_areLike_42 rfl (lv_at hl 2 rfl) ?_
      refine lv_imul hx hb dX8_areLike_43 ?_
      refine lv_iload_n hx hb dX8_areLike_44 rfl (lv_at hl 3 rfl) ?_
      refine lv_iadd hx hb dX8_areLike_45 ?_
      obtain ⟨b_3, h⟩ := h
      refine ma_m_words hx hb hkx hw b_3 dX8_areLike_46 ?_
      refine lv_icmp_eq (tgt := 52) hx hb dX8_areLike_47 (by decide) (fun c_4 => ?_) (fun c_4 => ?_)
      · replace h := h.1 c_4
        refine lv_iinc (v := x3 + (1 : Int32)) (lv' := [(3, .int (x3 + (1 : Int32))), (0, .ref (ad 0)), (1, .int x1), (2, .int x2)]) hx hb dX8_areLike_52 hl (k := 3) rfl rfl (by decide) rfl (fun ls hl => ?_)
        refine lv_goto (tgt := 19) hx hb dX8_areLike_55 (by decide) ?_
        exact ih _ _ _ _ h _ _ _ hw (lv_sub hl [1, 2, 3, 0] rfl)
      · replace h := h.2 c_4
        refine lv_iconst (v := 0) hx hb dX8_areLike_50 (by decide) ?_
        exact end_z (w1 := (mdU cy ad)) (u := σ) C0 hw (Or.inl rfl) h dX8_areLike_51
def wp_X8_areLike (x1 : Int32) (x2 : Int32) (σ : Sg) (post : Int32 → Sg → Prop) : Prop :=
    vp_in x1 20 ∧
    vp_in x2 20 ∧
    ((σ 11 x1.toNatClampNeg) = (σ 11 x2.toNatClampNeg) →
    ∃ fu, wp_X8_areLike_19 post fu x1 x2 (0 : Int32) σ) ∧
    (¬ (σ 11 x1.toNatClampNeg) = (σ 11 x2.toNatClampNeg) →
    post (0 : Int32) σ)
set_option maxHeartbeats 4000000 in
set_option maxRecDepth 100000 in
theorem c_X8_areLike (l : Launch) (D : va_G) (cy : Nat → ClassId) (ad : Nat → Nat) (σ : Sg) (x1 : Int32) (x2 : Int32) (post : Int32 → Sg → Prop) (h : wp_X8_areLike x1 x2 σ post) : Ct l yX8_areLike wsX8_areLike rm_X8_areLike D cy [.ref (ad 0), .int x1, .int x2] (mdW cy ad σ) 0 0 (Ri D (mdU cy ad) (fun r u => post r u)) := by
  refine Ct.of (cc := cX8_areLike) (maxL := 4) (rt := (some .boolean)) (by decide) rfl (Nat.le_of_ble_eq_true rfl) ?_
  intro p e s m below meth c A C0 _ H locs ls hw hl
  obtain ⟨⟨hx, hb, hml, hown, hts⟩, hr, hlocks, hkx, hA⟩ := id C0
  have hl : lv_has ls 4 [(0, .ref (ad 0)), (1, .int x1), (2, .int x2)] := hl
  unfold wp_X8_areLike at h
  refine lv_aload_n hx hb dX8_areLike_0 rfl (lv_at hl 0 rfl) ?_
  refine mg_md_size hx hb hts inw_X8_areLike_X8 hown hkx hw (hts _ (List.mem_of_getElem? (i := 1) rfl)) dX8_areLike_1 ?_
  refine lv_iload_n hx hb dX8_areLike_4 rfl (lv_at hl 1 rfl) ?_
  obtain ⟨b_1, h⟩ := h
  refine ma_m_size hx hb hkx hw b_1 dX8_areLike_5 ?_
  refine lv_aload_n hx hb dX8_areLike_6 rfl (lv_at hl 0 rfl) ?_
  refine mg_md_size hx hb hts inw_X8_areLike_X8 hown hkx hw (hts _ (List.mem_of_getElem? (i := 1) rfl)) dX8_areLike_7 ?_
  refine lv_iload_n hx hb dX8_areLike_10 rfl (lv_at hl 2 rfl) ?_
  obtain ⟨b_2, h⟩ := h
  refine ma_m_size hx hb hkx hw b_2 dX8_areLike_11 ?_
  refine lv_icmp_eq (tgt := 17) hx hb dX8_areLike_12 (by decide) (fun c_3 => ?_) (fun c_3 => ?_)
  · replace h := h.1 c_3
    refine lv_iconst (v := 0) hx hb dX8_areLike_17 (by decide) ?_
    refine lv_istore_n (lv' := [(3, .int (0 : Int32)), (0, .ref (ad 0)), (1, .int x1), (2, .int x2)]) hx hb dX8_areLike_18 rfl hl (by decide) rfl (fun ls hl => ?_)
    obtain ⟨n_4, h⟩ := h
    exact w_X8_areLike_19 C0 n_4 _ _ _ _ h _ _ _ hw (lv_sub hl [1, 2, 3, 0] rfl)
  · replace h := h.2 c_3
    refine lv_iconst (v := 0) hx hb dX8_areLike_15 (by decide) ?_
    exact end_z (w1 := (mdU cy ad)) (u := σ) C0 hw (Or.inl rfl) h dX8_areLike_16
end
theorem hd_X8_isRunning : yX8_isRunning.cls = RX8 ∧ yX8_isRunning.cls ≠ "java/lang/invoke/MethodHandle" ∧ yX8_isRunning.cls ≠ "java/lang/invoke/VarHandle" ∧ (parseMethodDescriptor yX8_isRunning.desc).map (fun d => d.parameters.length) = some 1 := by decide +kernel
section
variable {p : Program} {l : Launch} {e : Env} {s : State} {m : MethodId} {args : Array Value} {below : List Frame} {meth : Method} {c : Code} {D : va_G} {cy : Nat → ClassId} {A : Nat → Prop} {ad : Nat → Nat}
abbrev rm_X8_isRunning : Room := { frames := 1, cells := 0, slots := 0, locals := 23 }
theorem inw_X8_isRunning_X8 : ∀ w ∈ u_ws RX8 TX8 35, w ∈ wsX8_isRunning := fun _ h => List.mem_cons_of_mem _ (List.mem_append_right _ h)
abbrev G_X8_isRunning (p : Program) (l : Launch) (e : Env) (s : State) (m : MethodId) (args : Array Value) (below : List Frame) (meth : Method) (c : Code) (D : va_G) (A : Nat → Prop) (cy : Nat → ClassId) (ad : Nat → Nat) (post : Int32 → Sg → Prop) : va_W → Nat → List (Nat × Value) → Nat → List Value → Prop := Gw p l e rm_X8_isRunning s m args below meth c D A (MQ below ((Ri D (mdU cy ad) (fun r u => post r u)) A) args s 0 0 A)
def wp_X8_isRunning_44 (post : Int32 → Sg → Prop) : Nat → Int32 → Int32 → Int32 → Int32 → Sg → Prop
  | 0, _, _, _, _, _ => False
  | n + 1, x1, x3, x4, x5, σ =>
    ((σ 1 0) ≤ x5 →
    (x3 < (σ 18 (0 : Int32).toNatClampNeg) →
    post (0 : Int32) σ) ∧
    (¬ x3 < (σ 18 (0 : Int32).toNatClampNeg) →
    post (1 : Int32) σ)) ∧
    (¬ (σ 1 0) ≤ x5 →
    wp_X8_areLike x5 x1 σ (fun r_4 σ_5 =>
    (r_4 = 0 →
    wp_X8_isRunning_44 post n x1 x3 x4 (x5 + (1 : Int32)) σ_5) ∧
    (¬ r_4 = 0 →
    vp_in x5 20 ∧
    (¬ (σ_5 10 x5.toNatClampNeg) = x4 →
    vp_in x5 20 ∧
    ∀ y_10 : Int32, y_10 = (σ_5 10 x5.toNatClampNeg) →
    wp_X8_isRunning_44 post n x1 (x3 + (1 : Int32)) y_10 (x5 + (1 : Int32)) σ_5) ∧
    ((σ_5 10 x5.toNatClampNeg) = x4 →
    wp_X8_isRunning_44 post n x1 x3 x4 (x5 + (1 : Int32)) σ_5))))
set_option maxHeartbeats 4000000 in
set_option maxRecDepth 100000 in
theorem w_X8_isRunning_44 (C0 : Mc p m c meth cX8_isRunning 6 s args wsX8_isRunning RX8 (some .boolean) D cy A) {post : Int32 → Sg → Prop} : ∀ (n : Nat) (x1 : Int32) (x3 : Int32) (x4 : Int32) (x5 : Int32) (σ : Sg), wp_X8_isRunning_44 post n x1 x3 x4 x5 σ → G_X8_isRunning p l e s m args below meth c D A cy ad post (mdW cy ad σ) 6 [(0, .ref (ad 0)), (1, .int x1), (3, .int x3), (4, .int x4), (5, .int x5)] 44 [] := by
  obtain ⟨⟨hx, hb, hml, hown, hts⟩, hr, hlocks, hkx, hA⟩ := id C0
  intro n
  induction n with
  | zero => intro x1 x3 x4 x5 σ h; exact False.elim h
  | succ n ih =>
    intro x1 x3 x4 x5 σ h H locs ls hw hl
    unfold wp_X8_isRunning_44 at h
    refine lv_iload hx hb dX8_isRunning_44 (lv_at hl 4 rfl) ?_
    refine lv_aload_n hx hb dX8_isRunning_46 rfl (lv_at hl 0 rfl) ?_
    refine mg_md_lines hx hb hts inw_X8_isRunning_X8 hown hkx hw (hts _ (List.mem_of_getElem? (i := 2) rfl)) dX8_isRunning_47 ?_
    refine lv_icmp_ge (tgt := 96) hx hb dX8_isRunning_50 (by decide) (fun c_1 => ?_) (fun c_1 => ?_)
    · replace h := h.1 c_1
      refine lv_iload_n hx hb dX8_isRunning_96 rfl (lv_at hl 2 rfl) ?_
      refine lv_aload_n hx hb dX8_isRunning_97 rfl (lv_at hl 0 rfl) ?_
      refine mg_md_wants hx hb hts inw_X8_isRunning_X8 hown hkx hw (hts _ (List.mem_of_getElem? (i := 4) rfl)) dX8_isRunning_98 ?_
      refine lv_iconst (v := 0) hx hb dX8_isRunning_101 (by decide) ?_
      refine ma_m_wants hx hb hkx hw (by unfold vp_in; decide) dX8_isRunning_102 ?_
      refine lv_icmp_lt (tgt := 110) hx hb dX8_isRunning_103 (by decide) (fun c_3 => ?_) (fun c_3 => ?_)
      · replace h := h.1 c_3
        refine lv_iconst (v := 0) hx hb dX8_isRunning_110 (by decide) ?_
        exact end_z (w1 := (mdU cy ad)) (u := σ) C0 hw (Or.inl rfl) h dX8_isRunning_111
      · replace h := h.2 c_3
        refine lv_iconst (v := 1) hx hb dX8_isRunning_106 (by decide) ?_
        refine lv_goto (tgt := 111) hx hb dX8_isRunning_107 (by decide) ?_
        exact end_z (w1 := (mdU cy ad)) (u := σ) C0 hw (Or.inr rfl) h dX8_isRunning_111
    · replace h := h.2 c_1
      refine lv_aload_n hx hb dX8_isRunning_53 rfl (lv_at hl 0 rfl) ?_
      refine lv_iload hx hb dX8_isRunning_54 (lv_at hl 4 rfl) ?_
      refine lv_iload_n hx hb dX8_isRunning_56 rfl (lv_at hl 1 rfl) ?_
      refine md_Vi (As := [.int x5, .int x1]) ⟨hx, hb, hml, hown, hts⟩ hkx hw hA (c_X8_areLike l D cy ad σ x5 x1 _ h) (cwV 2 hts gX8_isRunning_X8_areLike rfl rfl rfl hd_X8_areLike ⟨Nat.le_of_ble_eq_true rfl, Nat.le_of_ble_eq_true rfl⟩) 0 8 rfl rfl rfl hl.1 rfl (Nat.le_of_ble_eq_true rfl) dX8_isRunning_57 ⟨Nat.zero_le _, Nat.zero_le _⟩ (fun r_4 σ_5 H locs h hw => ?_)
      refine lv_if_eq (tgt := 90) hx hb dX8_isRunning_60 (by decide) (fun c_6 => ?_) (fun c_6 => ?_)
      · replace h := h.1 c_6
        refine lv_iinc (v := x5 + (1 : Int32)) (lv' := [(5, .int (x5 + (1 : Int32))), (0, .ref (ad 0)), (1, .int x1), (3, .int x3), (4, .int x4)]) hx hb dX8_isRunning_90 hl (k := 4) rfl rfl (by decide) rfl (fun ls hl => ?_)
        refine lv_goto (tgt := 44) hx hb dX8_isRunning_93 (by decide) ?_
        exact ih _ _ _ _ _ h _ _ _ hw (lv_sub hl [1, 2, 3, 4, 0] rfl)
      · replace h := h.2 c_6
        refine lv_aload_n hx hb dX8_isRunning_63 rfl (lv_at hl 0 rfl) ?_
        refine mg_md_page hx hb hts inw_X8_isRunning_X8 hown hkx hw (hts _ (List.mem_of_getElem? (i := 3) rfl)) dX8_isRunning_64 ?_
        refine lv_iload hx hb dX8_isRunning_67 (lv_at hl 4 rfl) ?_
        obtain ⟨b_7, h⟩ := h
        refine ma_m_page hx hb hkx hw b_7 dX8_isRunning_69 ?_
        refine lv_iload hx hb dX8_isRunning_70 (lv_at hl 3 rfl) ?_
        refine lv_icmp_ne (tgt := 78) hx hb dX8_isRunning_72 (by decide) (fun c_8 => ?_) (fun c_8 => ?_)
        · replace h := h.1 c_8
          refine lv_aload_n hx hb dX8_isRunning_78 rfl (lv_at hl 0 rfl) ?_
          refine mg_md_page hx hb hts inw_X8_isRunning_X8 hown hkx hw (hts _ (List.mem_of_getElem? (i := 3) rfl)) dX8_isRunning_79 ?_
          refine lv_iload hx hb dX8_isRunning_82 (lv_at hl 4 rfl) ?_
          obtain ⟨b_9, h⟩ := h
          refine ma_m_page hx hb hkx hw b_9 dX8_isRunning_84 ?_
          refine lv_topi (fun y_10 ey_10 => ?_)
          replace h := h y_10 ey_10
          refine lv_istore (lv' := [(4, .int y_10), (0, .ref (ad 0)), (1, .int x1), (3, .int x3), (5, .int x5)]) hx hb dX8_isRunning_85 hl (by decide) rfl (fun ls hl => ?_)
          refine lv_iinc (v := x3 + (1 : Int32)) (lv' := [(3, .int (x3 + (1 : Int32))), (4, .int y_10), (0, .ref (ad 0)), (1, .int x1), (5, .int x5)]) hx hb dX8_isRunning_87 hl (k := 3) rfl rfl (by decide) rfl (fun ls hl => ?_)
          refine lv_iinc (v := x5 + (1 : Int32)) (lv' := [(5, .int (x5 + (1 : Int32))), (3, .int (x3 + (1 : Int32))), (4, .int y_10), (0, .ref (ad 0)), (1, .int x1)]) hx hb dX8_isRunning_90 hl (k := 4) rfl rfl (by decide) rfl (fun ls hl => ?_)
          refine lv_goto (tgt := 44) hx hb dX8_isRunning_93 (by decide) ?_
          exact ih _ _ _ _ _ h _ _ _ hw (lv_sub hl [3, 4, 1, 2, 0] rfl)
        · replace h := h.2 c_8
          refine lv_goto (tgt := 90) hx hb dX8_isRunning_75 (by decide) ?_
          refine lv_iinc (v := x5 + (1 : Int32)) (lv' := [(5, .int (x5 + (1 : Int32))), (0, .ref (ad 0)), (1, .int x1), (3, .int x3), (4, .int x4)]) hx hb dX8_isRunning_90 hl (k := 4) rfl rfl (by decide) rfl (fun ls hl => ?_)
          refine lv_goto (tgt := 44) hx hb dX8_isRunning_93 (by decide) ?_
          exact ih _ _ _ _ _ h _ _ _ hw (lv_sub hl [1, 2, 3, 4, 0] rfl)
def wp_X8_isRunning_4 (post : Int32 → Sg → Prop) : Nat → Int32 → Int32 → Int32 → Sg → Prop
  | 0, _, _, _, _ => False
  | n + 1, x1, x2, x3, σ =>
    ((8 : Int32) ≤ x3 →
    (¬ x2 = 0 →
    ∃ fu, wp_X8_isRunning_44 post fu x1 (0 : Int32) (-1 : Int32) (0 : Int32) σ) ∧
    (x2 = 0 →
    post (0 : Int32) σ)) ∧
    (¬ (8 : Int32) ≤ x3 →
    vp_in (((8 : Int32) * x1) + x3) 160 ∧
    ∀ y_5 : Int32, y_5 = (x2 ||| (σ 14 (((8 : Int32) * x1) + x3).toNatClampNeg)) →
    wp_X8_isRunning_4 post n x1 y_5 (x3 + (1 : Int32)) σ)
set_option maxHeartbeats 4000000 in
set_option maxRecDepth 100000 in
theorem w_X8_isRunning_4 (C0 : Mc p m c meth cX8_isRunning 6 s args wsX8_isRunning RX8 (some .boolean) D cy A) {post : Int32 → Sg → Prop} : ∀ (n : Nat) (x1 : Int32) (x2 : Int32) (x3 : Int32) (σ : Sg), wp_X8_isRunning_4 post n x1 x2 x3 σ → G_X8_isRunning p l e s m args below meth c D A cy ad post (mdW cy ad σ) 6 [(0, .ref (ad 0)), (1, .int x1), (2, .int x2), (3, .int x3)] 4 [] := by
  obtain ⟨⟨hx, hb, hml, hown, hts⟩, hr, hlocks, hkx, hA⟩ := id C0
  intro n
  induction n with
  | zero => intro x1 x2 x3 σ h; exact False.elim h
  | succ n ih =>
    intro x1 x2 x3 σ h H locs ls hw hl
    unfold wp_X8_isRunning_4 at h
    refine lv_iload_n hx hb dX8_isRunning_4 rfl (lv_at hl 3 rfl) ?_
    refine lv_bipush (v := 8) hx hb dX8_isRunning_5 (by decide) ?_
    refine lv_icmp_ge (tgt := 30) hx hb dX8_isRunning_7 (by decide) (fun c_1 => ?_) (fun c_1 => ?_)
    · replace h := h.1 c_1
      refine lv_iload_n hx hb dX8_isRunning_30 rfl (lv_at hl 2 rfl) ?_
      refine lv_if_ne (tgt := 36) hx hb dX8_isRunning_31 (by decide) (fun c_2 => ?_) (fun c_2 => ?_)
      · replace h := h.1 c_2
        refine lv_iconst (v := 0) hx hb dX8_isRunning_36 (by decide) ?_
        refine lv_istore_n (lv' := [(3, .int (0 : Int32)), (0, .ref (ad 0)), (1, .int x1), (2, .int x2)]) hx hb dX8_isRunning_37 rfl hl (by decide) rfl (fun ls hl => ?_)
        refine lv_iconst (v := -1) hx hb dX8_isRunning_38 (by decide) ?_
        refine lv_istore (lv' := [(4, .int (-1 : Int32)), (3, .int (0 : Int32)), (0, .ref (ad 0)), (1, .int x1), (2, .int x2)]) hx hb dX8_isRunning_39 hl (by decide) rfl (fun ls hl => ?_)
        refine lv_iconst (v := 0) hx hb dX8_isRunning_41 (by decide) ?_
        refine lv_istore (lv' := [(5, .int (0 : Int32)), (4, .int (-1 : Int32)), (3, .int (0 : Int32)), (0, .ref (ad 0)), (1, .int x1), (2, .int x2)]) hx hb dX8_isRunning_42 hl (by decide) rfl (fun ls hl => ?_)
        obtain ⟨n_3, h⟩ := h
        exact w_X8_isRunning_44 C0 n_3 _ _ _ _ _ h _ _ _ hw (lv_sub hl [3, 4, 2, 1, 0] rfl)
      · replace h := h.2 c_2
        refine lv_iconst (v := 0) hx hb dX8_isRunning_34 (by decide) ?_
        exact end_z (w1 := (mdU cy ad)) (u := σ) C0 hw (Or.inl rfl) h dX8_isRunning_35
    · replace h := h.2 c_1
      refine lv_iload_n hx hb dX8_isRunning_10 rfl (lv_at hl 2 rfl) ?_
      refine lv_aload_n hx hb dX8_isRunning_11 rfl (lv_at hl 0 rfl) ?_
      refine mg_md_words hx hb hts inw_X8_isRunning_X8 hown hkx hw (hts _ (List.mem_of_getElem? (i := 1) rfl)) dX8_isRunning_12 ?_
      refine lv_bipush (v := 8) hx hb dX8_isRunning_15 (by decide) ?_
      refine lv_iload_n hx hb dX8_isRunning_17 rfl (lv_at hl 1 rfl) ?_
      refine lv_imul hx hb dX8_isRunning_18 ?_
      refine lv_iload_n hx hb dX8_isRunning_19 rfl (lv_at hl 3 rfl) ?_
      refine lv_iadd hx hb dX8_isRunning_20 ?_
      obtain ⟨b_4, h⟩ := h
      refine ma_m_words hx hb hkx hw b_4 dX8_isRunning_21 ?_
      refine lv_ior hx hb dX8_isRunning_22 ?_
      refine lv_topi (fun y_5 ey_5 => ?_)
      replace h := h y_5 ey_5
      refine lv_istore_n (lv' := [(2, .int y_5), (0, .ref (ad 0)), (1, .int x1), (3, .int x3)]) hx hb dX8_isRunning_23 rfl hl (by decide) rfl (fun ls hl => ?_)
      refine lv_iinc (v := x3 + (1 : Int32)) (lv' := [(3, .int (x3 + (1 : Int32))), (2, .int y_5), (0, .ref (ad 0)), (1, .int x1)]) hx hb dX8_isRunning_24 hl (k := 3) rfl rfl (by decide) rfl (fun ls hl => ?_)
      refine lv_goto (tgt := 4) hx hb dX8_isRunning_27 (by decide) ?_
      exact ih _ _ _ _ h _ _ _ hw (lv_sub hl [2, 3, 1, 0] rfl)
def wp_X8_isRunning (x1 : Int32) (σ : Sg) (post : Int32 → Sg → Prop) : Prop :=
    ∃ fu, wp_X8_isRunning_4 post fu x1 (0 : Int32) (0 : Int32) σ
set_option maxHeartbeats 4000000 in
set_option maxRecDepth 100000 in
theorem c_X8_isRunning (l : Launch) (D : va_G) (cy : Nat → ClassId) (ad : Nat → Nat) (σ : Sg) (x1 : Int32) (post : Int32 → Sg → Prop) (h : wp_X8_isRunning x1 σ post) : Ct l yX8_isRunning wsX8_isRunning rm_X8_isRunning D cy [.ref (ad 0), .int x1] (mdW cy ad σ) 0 0 (Ri D (mdU cy ad) (fun r u => post r u)) := by
  refine Ct.of (cc := cX8_isRunning) (maxL := 6) (rt := (some .boolean)) (by decide) rfl (Nat.le_of_ble_eq_true rfl) ?_
  intro p e s m below meth c A C0 _ H locs ls hw hl
  obtain ⟨⟨hx, hb, hml, hown, hts⟩, hr, hlocks, hkx, hA⟩ := id C0
  have hl : lv_has ls 6 [(0, .ref (ad 0)), (1, .int x1)] := hl
  unfold wp_X8_isRunning at h
  refine lv_iconst (v := 0) hx hb dX8_isRunning_0 (by decide) ?_
  refine lv_istore_n (lv' := [(2, .int (0 : Int32)), (0, .ref (ad 0)), (1, .int x1)]) hx hb dX8_isRunning_1 rfl hl (by decide) rfl (fun ls hl => ?_)
  refine lv_iconst (v := 0) hx hb dX8_isRunning_2 (by decide) ?_
  refine lv_istore_n (lv' := [(3, .int (0 : Int32)), (2, .int (0 : Int32)), (0, .ref (ad 0)), (1, .int x1)]) hx hb dX8_isRunning_3 rfl hl (by decide) rfl (fun ls hl => ?_)
  obtain ⟨n_1, h⟩ := h
  exact w_X8_isRunning_4 C0 n_1 _ _ _ _ h _ _ _ hw (lv_sub hl [2, 3, 1, 0] rfl)
end
theorem hd_X8_behind : yX8_behind.cls = RX8 ∧ yX8_behind.cls ≠ "java/lang/invoke/MethodHandle" ∧ yX8_behind.cls ≠ "java/lang/invoke/VarHandle" ∧ (parseMethodDescriptor yX8_behind.desc).map (fun d => d.parameters.length) = some 3 := by decide +kernel
section
variable {p : Program} {l : Launch} {e : Env} {s : State} {m : MethodId} {args : Array Value} {below : List Frame} {meth : Method} {c : Code} {D : va_G} {cy : Nat → ClassId} {A : Nat → Prop} {ad : Nat → Nat}
abbrev rm_X8_behind : Room := { frames := 1, cells := 0, slots := 0, locals := 21 }
theorem inw_X8_behind_X8 : ∀ w ∈ u_ws RX8 TX8 35, w ∈ wsX8_behind := fun _ h => List.mem_cons_of_mem _ (List.mem_append_right _ h)
abbrev G_X8_behind (p : Program) (l : Launch) (e : Env) (s : State) (m : MethodId) (args : Array Value) (below : List Frame) (meth : Method) (c : Code) (D : va_G) (A : Nat → Prop) (cy : Nat → ClassId) (ad : Nat → Nat) (post : Int32 → Sg → Prop) : va_W → Nat → List (Nat × Value) → Nat → List Value → Prop := Gw p l e rm_X8_behind s m args below meth c D A (MQ below ((Ri D (mdU cy ad) (fun r u => post r u)) A) args s 0 0 A)
def wp_X8_behind_176 (post : Int32 → Sg → Prop) (x6 : Int32) (x7 : Int32) (s0 : Int32) (σ : Sg) : Prop :=
    post (((((33 : Int32) * x6) + x7) * (33 : Int32)) + s0) σ
set_option maxHeartbeats 4000000 in
set_option maxRecDepth 100000 in
theorem w_X8_behind_176 (C0 : Mc p m c meth cX8_behind 9 s args wsX8_behind RX8 (some .int) D cy A) {post : Int32 → Sg → Prop} : ∀ (x6 : Int32) (x7 : Int32) (s0 : Int32) (σ : Sg), wp_X8_behind_176 post x6 x7 s0 σ → G_X8_behind p l e s m args below meth c D A cy ad post (mdW cy ad σ) 9 [(6, .int x6), (7, .int x7)] 176 [.int s0] := by
  obtain ⟨⟨hx, hb, hml, hown, hts⟩, hr, hlocks, hkx, hA⟩ := id C0
  intro x6 x7 s0 σ h H locs ls hw hl
  unfold wp_X8_behind_176 at h
  refine lv_istore (lv' := [(8, .int s0), (6, .int x6), (7, .int x7)]) hx hb dX8_behind_176 hl (by decide) rfl (fun ls hl => ?_)
  refine lv_bipush (v := 33) hx hb dX8_behind_178 (by decide) ?_
  refine lv_iload hx hb dX8_behind_180 (lv_at hl 1 rfl) ?_
  refine lv_imul hx hb dX8_behind_182 ?_
  refine lv_iload hx hb dX8_behind_183 (lv_at hl 2 rfl) ?_
  refine lv_iadd hx hb dX8_behind_185 ?_
  refine lv_bipush (v := 33) hx hb dX8_behind_186 (by decide) ?_
  refine lv_imul hx hb dX8_behind_188 ?_
  refine lv_iload hx hb dX8_behind_189 (lv_at hl 0 rfl) ?_
  refine lv_iadd hx hb dX8_behind_191 ?_
  exact end_i (w1 := (mdU cy ad)) (u := σ) C0 hw h dX8_behind_192
def wp_X8_behind_163 (post : Int32 → Sg → Prop) (x3 : Int32) (x5 : Int32) (x6 : Int32) (s0 : Int32) (σ : Sg) : Prop :=
    (¬ x3 = (3 : Int32) →
    wp_X8_behind_176 post x6 s0 (0 : Int32) σ) ∧
    (x3 = (3 : Int32) →
    wp_X8_behind_176 post x6 s0 x5 σ)
set_option maxHeartbeats 4000000 in
set_option maxRecDepth 100000 in
theorem w_X8_behind_163 (C0 : Mc p m c meth cX8_behind 9 s args wsX8_behind RX8 (some .int) D cy A) {post : Int32 → Sg → Prop} : ∀ (x3 : Int32) (x5 : Int32) (x6 : Int32) (s0 : Int32) (σ : Sg), wp_X8_behind_163 post x3 x5 x6 s0 σ → G_X8_behind p l e s m args below meth c D A cy ad post (mdW cy ad σ) 9 [(3, .int x3), (5, .int x5), (6, .int x6)] 163 [.int s0] := by
  obtain ⟨⟨hx, hb, hml, hown, hts⟩, hr, hlocks, hkx, hA⟩ := id C0
  intro x3 x5 x6 s0 σ h H locs ls hw hl
  unfold wp_X8_behind_163 at h
  refine lv_istore (lv' := [(7, .int s0), (3, .int x3), (5, .int x5), (6, .int x6)]) hx hb dX8_behind_163 hl (by decide) rfl (fun ls hl => ?_)
  refine lv_iload_n hx hb dX8_behind_165 rfl (lv_at hl 1 rfl) ?_
  refine lv_iconst (v := 3) hx hb dX8_behind_166 (by decide) ?_
  refine lv_icmp_ne (tgt := 175) hx hb dX8_behind_167 (by decide) (fun c_1 => ?_) (fun c_1 => ?_)
  · replace h := h.1 c_1
    refine lv_iconst (v := 0) hx hb dX8_behind_175 (by decide) ?_
    exact w_X8_behind_176 C0 _ _ _ _ h _ _ _ hw (lv_sub hl [3, 0] rfl)
  · replace h := h.2 c_1
    refine lv_iload hx hb dX8_behind_170 (lv_at hl 2 rfl) ?_
    refine lv_goto (tgt := 176) hx hb dX8_behind_172 (by decide) ?_
    exact w_X8_behind_176 C0 _ _ _ _ h _ _ _ hw (lv_sub hl [3, 0] rfl)
def wp_X8_behind_137 (post : Int32 → Sg → Prop) (x1 : Int32) (x3 : Int32) (x5 : Int32) (s0 : Int32) (σ : Sg) : Prop :=
    (¬ x3 = (2 : Int32) →
    ((2 : Int32) ≤ x3 →
    wp_X8_counterOf x1 (2 : Int32) (fun r_3 =>
    wp_X8_behind_163 post x3 x5 s0 r_3 σ)) ∧
    (¬ (2 : Int32) ≤ x3 →
    wp_X8_behind_163 post x3 x5 s0 (0 : Int32) σ)) ∧
    (x3 = (2 : Int32) →
    wp_X8_behind_163 post x3 x5 s0 x5 σ)
set_option maxHeartbeats 4000000 in
set_option maxRecDepth 100000 in
theorem w_X8_behind_137 (C0 : Mc p m c meth cX8_behind 9 s args wsX8_behind RX8 (some .int) D cy A) {post : Int32 → Sg → Prop} : ∀ (x1 : Int32) (x3 : Int32) (x5 : Int32) (s0 : Int32) (σ : Sg), wp_X8_behind_137 post x1 x3 x5 s0 σ → G_X8_behind p l e s m args below meth c D A cy ad post (mdW cy ad σ) 9 [(1, .int x1), (3, .int x3), (5, .int x5)] 137 [.int s0] := by
  obtain ⟨⟨hx, hb, hml, hown, hts⟩, hr, hlocks, hkx, hA⟩ := id C0
  intro x1 x3 x5 s0 σ h H locs ls hw hl
  unfold wp_X8_behind_137 at h
  refine lv_istore (lv' := [(6, .int s0), (1, .int x1), (3, .int x3), (5, .int x5)]) hx hb dX8_behind_137 hl (by decide) rfl (fun ls hl => ?_)
  refine lv_iload_n hx hb dX8_behind_139 rfl (lv_at hl 2 rfl) ?_
  refine lv_iconst (v := 2) hx hb dX8_behind_140 (by decide) ?_
  refine lv_icmp_ne (tgt := 149) hx hb dX8_behind_141 (by decide) (fun c_1 => ?_) (fun c_1 => ?_)
  · replace h := h.1 c_1
    refine lv_iload_n hx hb dX8_behind_149 rfl (lv_at hl 2 rfl) ?_
    refine lv_iconst (v := 2) hx hb dX8_behind_150 (by decide) ?_
    refine lv_icmp_ge (tgt := 158) hx hb dX8_behind_151 (by decide) (fun c_2 => ?_) (fun c_2 => ?_)
    · replace h := h.1 c_2
      refine lv_iload_n hx hb dX8_behind_158 rfl (lv_at hl 1 rfl) ?_
      refine lv_iconst (v := 2) hx hb dX8_behind_159 (by decide) ?_
      refine call_S0i (As := [.int x1, .int (2 : Int32)]) ⟨hx, hb, hml, hown, hts⟩ hkx hw hA (c_X8_counterOf l D cy x1 (2 : Int32) _ h) (va_cwS 2 hts gX8_behind_X8_counterOf rfl rfl rfl hd_X8_counterOf ⟨Nat.le_of_ble_eq_true rfl, Nat.le_of_ble_eq_true rfl⟩) rfl hl.1 rfl (Nat.le_of_ble_eq_true rfl) dX8_behind_160 ⟨Nat.zero_le _, Nat.zero_le _⟩ (fun r_3 H locs h hw => ?_)
      exact w_X8_behind_163 C0 _ _ _ _ _ h _ _ _ hw (lv_sub hl [2, 3, 0] rfl)
    · replace h := h.2 c_2
      refine lv_iconst (v := 0) hx hb dX8_behind_154 (by decide) ?_
      refine lv_goto (tgt := 163) hx hb dX8_behind_155 (by decide) ?_
      exact w_X8_behind_163 C0 _ _ _ _ _ h _ _ _ hw (lv_sub hl [2, 3, 0] rfl)
  · replace h := h.2 c_1
    refine lv_iload hx hb dX8_behind_144 (lv_at hl 3 rfl) ?_
    refine lv_goto (tgt := 163) hx hb dX8_behind_146 (by decide) ?_
    exact w_X8_behind_163 C0 _ _ _ _ _ h _ _ _ hw (lv_sub hl [2, 3, 0] rfl)
def wp_X8_behind_113 (post : Int32 → Sg → Prop) (x1 : Int32) (x3 : Int32) (x5 : Int32) (σ : Sg) : Prop :=
    (x5 < (33 : Int32) →
    (¬ x3 = (1 : Int32) →
    wp_X8_counterOf x1 (1 : Int32) (fun r_3 =>
    wp_X8_behind_137 post x1 x3 x5 r_3 σ)) ∧
    (x3 = (1 : Int32) →
    wp_X8_behind_137 post x1 x3 x5 x5 σ)) ∧
    (¬ x5 < (33 : Int32) →
    post (-1 : Int32) σ)
set_option maxHeartbeats 4000000 in
set_option maxRecDepth 100000 in
theorem w_X8_behind_113 (C0 : Mc p m c meth cX8_behind 9 s args wsX8_behind RX8 (some .int) D cy A) {post : Int32 → Sg → Prop} : ∀ (x1 : Int32) (x3 : Int32) (x5 : Int32) (σ : Sg), wp_X8_behind_113 post x1 x3 x5 σ → G_X8_behind p l e s m args below meth c D A cy ad post (mdW cy ad σ) 9 [(1, .int x1), (3, .int x3), (5, .int x5)] 113 [] := by
  obtain ⟨⟨hx, hb, hml, hown, hts⟩, hr, hlocks, hkx, hA⟩ := id C0
  intro x1 x3 x5 σ h H locs ls hw hl
  unfold wp_X8_behind_113 at h
  refine lv_iload hx hb dX8_behind_113 (lv_at hl 2 rfl) ?_
  refine lv_bipush (v := 33) hx hb dX8_behind_115 (by decide) ?_
  refine lv_icmp_lt (tgt := 122) hx hb dX8_behind_117 (by decide) (fun c_1 => ?_) (fun c_1 => ?_)
  · replace h := h.1 c_1
    refine lv_iload_n hx hb dX8_behind_122 rfl (lv_at hl 1 rfl) ?_
    refine lv_iconst (v := 1) hx hb dX8_behind_123 (by decide) ?_
    refine lv_icmp_ne (tgt := 132) hx hb dX8_behind_124 (by decide) (fun c_2 => ?_) (fun c_2 => ?_)
    · replace h := h.1 c_2
      refine lv_iload_n hx hb dX8_behind_132 rfl (lv_at hl 0 rfl) ?_
      refine lv_iconst (v := 1) hx hb dX8_behind_133 (by decide) ?_
      refine call_S0i (As := [.int x1, .int (1 : Int32)]) ⟨hx, hb, hml, hown, hts⟩ hkx hw hA (c_X8_counterOf l D cy x1 (1 : Int32) _ h) (va_cwS 2 hts gX8_behind_X8_counterOf rfl rfl rfl hd_X8_counterOf ⟨Nat.le_of_ble_eq_true rfl, Nat.le_of_ble_eq_true rfl⟩) rfl hl.1 rfl (Nat.le_of_ble_eq_true rfl) dX8_behind_134 ⟨Nat.zero_le _, Nat.zero_le _⟩ (fun r_3 H locs h hw => ?_)
      exact w_X8_behind_137 C0 _ _ _ _ _ h _ _ _ hw (lv_sub hl [0, 1, 2] rfl)
    · replace h := h.2 c_2
      refine lv_iload hx hb dX8_behind_127 (lv_at hl 2 rfl) ?_
      refine lv_goto (tgt := 137) hx hb dX8_behind_129 (by decide) ?_
      exact w_X8_behind_137 C0 _ _ _ _ _ h _ _ _ hw (lv_sub hl [0, 1, 2] rfl)
  · replace h := h.2 c_1
    refine lv_iconst (v := -1) hx hb dX8_behind_120 (by decide) ?_
    exact end_i (w1 := (mdU cy ad)) (u := σ) C0 hw h dX8_behind_121
def wp_X8_behind_54 (post : Int32 → Sg → Prop) : Nat → Int32 → Int32 → Int32 → Int32 → Int32 → Sg → Prop
  | 0, _, _, _, _, _, _ => False
  | n + 1, x1, x2, x3, x4, x6, σ =>
    (x3 ≤ x6 →
    vp_in ((((3 : Int32) * x2) + x3) - (1 : Int32)) 60 ∧
    ∀ y_3 : Int32, y_3 = (σ 16 ((((3 : Int32) * x2) + x3) - (1 : Int32)).toNatClampNeg) →
    (x4 < y_3 →
    wp_X8_behind_113 post x1 x3 y_3 σ) ∧
    (¬ x4 < y_3 →
    post (-1 : Int32) σ)) ∧
    (¬ x3 ≤ x6 →
    vp_in ((((3 : Int32) * x2) + x6) - (1 : Int32)) 60 ∧
    wp_X8_counterOf x1 x6 (fun r_6 =>
    ((σ 16 ((((3 : Int32) * x2) + x6) - (1 : Int32)).toNatClampNeg) = r_6 →
    wp_X8_behind_54 post n x1 x2 x3 x4 (x6 + (1 : Int32)) σ) ∧
    (¬ (σ 16 ((((3 : Int32) * x2) + x6) - (1 : Int32)).toNatClampNeg) = r_6 →
    post (-1 : Int32) σ)))
set_option maxHeartbeats 4000000 in
set_option maxRecDepth 100000 in
theorem w_X8_behind_54 (C0 : Mc p m c meth cX8_behind 9 s args wsX8_behind RX8 (some .int) D cy A) {post : Int32 → Sg → Prop} : ∀ (n : Nat) (x1 : Int32) (x2 : Int32) (x3 : Int32) (x4 : Int32) (x6 : Int32) (σ : Sg), wp_X8_behind_54 post n x1 x2 x3 x4 x6 σ → G_X8_behind p l e s m args below meth c D A cy ad post (mdW cy ad σ) 9 [(0, .ref (ad 0)), (1, .int x1), (2, .int x2), (3, .int x3), (4, .int x4), (6, .int x6)] 54 [] := by
  obtain ⟨⟨hx, hb, hml, hown, hts⟩, hr, hlocks, hkx, hA⟩ := id C0
  intro n
  induction n with
  | zero => intro x1 x2 x3 x4 x6 σ h; exact False.elim h
  | succ n ih =>
    intro x1 x2 x3 x4 x6 σ h H locs ls hw hl
    unfold wp_X8_behind_54 at h
    refine lv_iload hx hb dX8_behind_54 (lv_at hl 5 rfl) ?_
    refine lv_iload_n hx hb dX8_behind_56 rfl (lv_at hl 3 rfl) ?_
    refine lv_icmp_ge (tgt := 90) hx hb dX8_behind_57 (by decide) (fun c_1 => ?_) (fun c_1 => ?_)
    · replace h := h.1 c_1
      refine lv_aload_n hx hb dX8_behind_90 rfl (lv_at hl 0 rfl) ?_
      refine mg_md_numbers hx hb hts inw_X8_behind_X8 hown hkx hw (hts _ (List.mem_of_getElem? (i := 2) rfl)) dX8_behind_91 ?_
      refine lv_iconst (v := 3) hx hb dX8_behind_94 (by decide) ?_
      refine lv_iload_n hx hb dX8_behind_95 rfl (lv_at hl 2 rfl) ?_
      refine lv_imul hx hb dX8_behind_96 ?_
      refine lv_iload_n hx hb dX8_behind_97 rfl (lv_at hl 3 rfl) ?_
      refine lv_iadd hx hb dX8_behind_98 ?_
      refine lv_iconst (v := 1) hx hb dX8_behind_99 (by decide) ?_
      refine lv_isub hx hb dX8_behind_100 ?_
      obtain ⟨b_2, h⟩ := h
      refine ma_m_numbers hx hb hkx hw b_2 dX8_behind_101 ?_
      refine lv_topi (fun y_3 ey_3 => ?_)
      replace h := h y_3 ey_3
      refine lv_istore (lv' := [(5, .int y_3), (0, .ref (ad 0)), (1, .int x1), (2, .int x2), (3, .int x3), (4, .int x4), (6, .int x6)]) hx hb dX8_behind_102 hl (by decide) rfl (fun ls hl => ?_)
      refine lv_iload hx hb dX8_behind_104 (lv_at hl 0 rfl) ?_
      refine lv_iload hx hb dX8_behind_106 (lv_at hl 5 rfl) ?_
      refine lv_icmp_gt (tgt := 113) hx hb dX8_behind_108 (by decide) (fun c_4 => ?_) (fun c_4 => ?_)
      · replace h := h.1 c_4
        exact w_X8_behind_113 C0 _ _ _ _ h _ _ _ hw (lv_sub hl [2, 4, 0] rfl)
      · replace h := h.2 c_4
        refine lv_iconst (v := -1) hx hb dX8_behind_111 (by decide) ?_
        exact end_i (w1 := (mdU cy ad)) (u := σ) C0 hw h dX8_behind_112
    · replace h := h.2 c_1
      refine lv_aload_n hx hb dX8_behind_60 rfl (lv_at hl 0 rfl) ?_
      refine mg_md_numbers hx hb hts inw_X8_behind_X8 hown hkx hw (hts _ (List.mem_of_getElem? (i := 2) rfl)) dX8_behind_61 ?_
      refine lv_iconst (v := 3) hx hb dX8_behind_64 (by decide) ?_
      refine lv_iload_n hx hb dX8_behind_65 rfl (lv_at hl 2 rfl) ?_
      refine lv_imul hx hb dX8_behind_66 ?_
      refine lv_iload hx hb dX8_behind_67 (lv_at hl 5 rfl) ?_
      refine lv_iadd hx hb dX8_behind_69 ?_
      refine lv_iconst (v := 1) hx hb dX8_behind_70 (by decide) ?_
      refine lv_isub hx hb dX8_behind_71 ?_
      obtain ⟨b_5, h⟩ := h
      refine ma_m_numbers hx hb hkx hw b_5 dX8_behind_72 ?_
      refine lv_iload_n hx hb dX8_behind_73 rfl (lv_at hl 1 rfl) ?_
      refine lv_iload hx hb dX8_behind_74 (lv_at hl 5 rfl) ?_
      refine call_S0i (As := [.int x1, .int x6]) ⟨hx, hb, hml, hown, hts⟩ hkx hw hA (c_X8_counterOf l D cy x1 x6 _ h) (va_cwS 2 hts gX8_behind_X8_counterOf rfl rfl rfl hd_X8_counterOf ⟨Nat.le_of_ble_eq_true rfl, Nat.le_of_ble_eq_true rfl⟩) rfl hl.1 rfl (Nat.le_of_ble_eq_true rfl) dX8_behind_76 ⟨Nat.zero_le _, Nat.zero_le _⟩ (fun r_6 H locs h hw => ?_)
      refine lv_icmp_eq (tgt := 84) hx hb dX8_behind_79 (by decide) (fun c_7 => ?_) (fun c_7 => ?_)
      · replace h := h.1 c_7
        refine lv_iinc (v := x6 + (1 : Int32)) (lv' := [(6, .int (x6 + (1 : Int32))), (0, .ref (ad 0)), (1, .int x1), (2, .int x2), (3, .int x3), (4, .int x4)]) hx hb dX8_behind_84 hl (k := 5) rfl rfl (by decide) rfl (fun ls hl => ?_)
        refine lv_goto (tgt := 54) hx hb dX8_behind_87 (by decide) ?_
        exact ih _ _ _ _ _ _ h _ _ _ hw (lv_sub hl [1, 2, 3, 4, 5, 0] rfl)
      · replace h := h.2 c_7
        refine lv_iconst (v := -1) hx hb dX8_behind_82 (by decide) ?_
        exact end_i (w1 := (mdU cy ad)) (u := σ) C0 hw h dX8_behind_83
def wp_X8_behind_17 (post : Int32 → Sg → Prop) (x1 : Int32) (x2 : Int32) (x3 : Int32) (σ : Sg) : Prop :=
    wp_X8_counterOf x1 x3 (fun r_1 =>
    ∀ y_2 : Int32, y_2 = (r_1 + (1 : Int32)) →
    vp_in x2 20 ∧
    ((σ 15 x2.toNatClampNeg) ≤ 0 →
    wp_X8_behind_113 post x1 x3 y_2 σ) ∧
    (¬ (σ 15 x2.toNatClampNeg) ≤ 0 →
    vp_in x2 20 ∧
    ((σ 15 x2.toNatClampNeg) = x3 →
    ∃ fu, wp_X8_behind_54 post fu x1 x2 x3 r_1 (1 : Int32) σ) ∧
    (¬ (σ 15 x2.toNatClampNeg) = x3 →
    post (-1 : Int32) σ)))
set_option maxHeartbeats 4000000 in
set_option maxRecDepth 100000 in
theorem w_X8_behind_17 (C0 : Mc p m c meth cX8_behind 9 s args wsX8_behind RX8 (some .int) D cy A) {post : Int32 → Sg → Prop} : ∀ (x1 : Int32) (x2 : Int32) (x3 : Int32) (σ : Sg), wp_X8_behind_17 post x1 x2 x3 σ → G_X8_behind p l e s m args below meth c D A cy ad post (mdW cy ad σ) 9 [(0, .ref (ad 0)), (1, .int x1), (2, .int x2), (3, .int x3)] 17 [] := by
  obtain ⟨⟨hx, hb, hml, hown, hts⟩, hr, hlocks, hkx, hA⟩ := id C0
  intro x1 x2 x3 σ h H locs ls hw hl
  unfold wp_X8_behind_17 at h
  refine lv_iload_n hx hb dX8_behind_17 rfl (lv_at hl 1 rfl) ?_
  refine lv_iload_n hx hb dX8_behind_18 rfl (lv_at hl 3 rfl) ?_
  refine call_S0i (As := [.int x1, .int x3]) ⟨hx, hb, hml, hown, hts⟩ hkx hw hA (c_X8_counterOf l D cy x1 x3 _ h) (va_cwS 2 hts gX8_behind_X8_counterOf rfl rfl rfl hd_X8_counterOf ⟨Nat.le_of_ble_eq_true rfl, Nat.le_of_ble_eq_true rfl⟩) rfl hl.1 rfl (Nat.le_of_ble_eq_true rfl) dX8_behind_19 ⟨Nat.zero_le _, Nat.zero_le _⟩ (fun r_1 H locs h hw => ?_)
  refine lv_istore (lv' := [(4, .int r_1), (0, .ref (ad 0)), (1, .int x1), (2, .int x2), (3, .int x3)]) hx hb dX8_behind_22 hl (by decide) rfl (fun ls hl => ?_)
  refine lv_iload hx hb dX8_behind_24 (lv_at hl 0 rfl) ?_
  refine lv_iconst (v := 1) hx hb dX8_behind_26 (by decide) ?_
  refine lv_iadd hx hb dX8_behind_27 ?_
  refine lv_topi (fun y_2 ey_2 => ?_)
  replace h := h y_2 ey_2
  refine lv_istore (lv' := [(5, .int y_2), (4, .int r_1), (0, .ref (ad 0)), (1, .int x1), (2, .int x2), (3, .int x3)]) hx hb dX8_behind_28 hl (by decide) rfl (fun ls hl => ?_)
  refine lv_aload_n hx hb dX8_behind_30 rfl (lv_at hl 2 rfl) ?_
  refine mg_md_parts hx hb hts inw_X8_behind_X8 hown hkx hw (hts _ (List.mem_of_getElem? (i := 1) rfl)) dX8_behind_31 ?_
  refine lv_iload_n hx hb dX8_behind_34 rfl (lv_at hl 4 rfl) ?_
  obtain ⟨b_3, h⟩ := h
  refine ma_m_parts hx hb hkx hw b_3 dX8_behind_35 ?_
  refine lv_if_le (tgt := 113) hx hb dX8_behind_36 (by decide) (fun c_4 => ?_) (fun c_4 => ?_)
  · replace h := h.1 c_4
    exact w_X8_behind_113 C0 _ _ _ _ h _ _ _ hw (lv_sub hl [3, 5, 0] rfl)
  · replace h := h.2 c_4
    refine lv_aload_n hx hb dX8_behind_39 rfl (lv_at hl 2 rfl) ?_
    refine mg_md_parts hx hb hts inw_X8_behind_X8 hown hkx hw (hts _ (List.mem_of_getElem? (i := 1) rfl)) dX8_behind_40 ?_
    refine lv_iload_n hx hb dX8_behind_43 rfl (lv_at hl 4 rfl) ?_
    obtain ⟨b_5, h⟩ := h
    refine ma_m_parts hx hb hkx hw b_5 dX8_behind_44 ?_
    refine lv_iload_n hx hb dX8_behind_45 rfl (lv_at hl 5 rfl) ?_
    refine lv_icmp_eq (tgt := 51) hx hb dX8_behind_46 (by decide) (fun c_6 => ?_) (fun c_6 => ?_)
    · replace h := h.1 c_6
      refine lv_iconst (v := 1) hx hb dX8_behind_51 (by decide) ?_
      refine lv_istore (lv' := [(6, .int (1 : Int32)), (5, .int y_2), (4, .int r_1), (0, .ref (ad 0)), (1, .int x1), (2, .int x2), (3, .int x3)]) hx hb dX8_behind_52 hl (by decide) rfl (fun ls hl => ?_)
      obtain ⟨n_7, h⟩ := h
      exact w_X8_behind_54 C0 n_7 _ _ _ _ _ _ h _ _ _ hw (lv_sub hl [3, 4, 5, 6, 2, 0] rfl)
    · replace h := h.2 c_6
      refine lv_iconst (v := -1) hx hb dX8_behind_49 (by decide) ?_
      exact end_i (w1 := (mdU cy ad)) (u := σ) C0 hw h dX8_behind_50
def wp_X8_behind (x1 : Int32) (x2 : Int32) (x3 : Int32) (σ : Sg) (post : Int32 → Sg → Prop) : Prop :=
    (x3 ≤ (1 : Int32) →
    wp_X8_behind_17 post x1 x2 x3 σ) ∧
    (¬ x3 ≤ (1 : Int32) →
    wp_X8_counterOf x1 (x3 - (1 : Int32)) (fun r_2 =>
    (¬ r_2 = 0 →
    wp_X8_behind_17 post x1 x2 x3 σ) ∧
    (r_2 = 0 →
    post (-1 : Int32) σ)))
set_option maxHeartbeats 4000000 in
set_option maxRecDepth 100000 in
theorem c_X8_behind (l : Launch) (D : va_G) (cy : Nat → ClassId) (ad : Nat → Nat) (σ : Sg) (x1 : Int32) (x2 : Int32) (x3 : Int32) (post : Int32 → Sg → Prop) (h : wp_X8_behind x1 x2 x3 σ post) : Ct l yX8_behind wsX8_behind rm_X8_behind D cy [.ref (ad 0), .int x1, .int x2, .int x3] (mdW cy ad σ) 0 0 (Ri D (mdU cy ad) (fun r u => post r u)) := by
  refine Ct.of (cc := cX8_behind) (maxL := 9) (rt := (some .int)) (by decide) rfl (Nat.le_of_ble_eq_true rfl) ?_
  intro p e s m below meth c A C0 _ H locs ls hw hl
  obtain ⟨⟨hx, hb, hml, hown, hts⟩, hr, hlocks, hkx, hA⟩ := id C0
  have hl : lv_has ls 9 [(0, .ref (ad 0)), (1, .int x1), (2, .int x2), (3, .int x3)] := hl
  unfold wp_X8_behind at h
  refine lv_iload_n hx hb dX8_behind_0 rfl (lv_at hl 3 rfl) ?_
  refine lv_iconst (v := 1) hx hb dX8_behind_1 (by decide) ?_
  refine lv_icmp_le (tgt := 17) hx hb dX8_behind_2 (by decide) (fun c_1 => ?_) (fun c_1 => ?_)
  · replace h := h.1 c_1
    exact w_X8_behind_17 C0 _ _ _ _ h _ _ _ hw (lv_sub hl [0, 1, 2, 3] rfl)
  · replace h := h.2 c_1
    refine lv_iload_n hx hb dX8_behind_5 rfl (lv_at hl 1 rfl) ?_
    refine lv_iload_n hx hb dX8_behind_6 rfl (lv_at hl 3 rfl) ?_
    refine lv_iconst (v := 1) hx hb dX8_behind_7 (by decide) ?_
    refine lv_isub hx hb dX8_behind_8 ?_
    refine call_S0i (As := [.int x1, .int (x3 - (1 : Int32))]) ⟨hx, hb, hml, hown, hts⟩ hkx hw hA (c_X8_counterOf l D cy x1 (x3 - (1 : Int32)) _ h) (va_cwS 2 hts gX8_behind_X8_counterOf rfl rfl rfl hd_X8_counterOf ⟨Nat.le_of_ble_eq_true rfl, Nat.le_of_ble_eq_true rfl⟩) rfl hl.1 rfl (Nat.le_of_ble_eq_true rfl) dX8_behind_9 ⟨Nat.zero_le _, Nat.zero_le _⟩ (fun r_2 H locs h hw => ?_)
    refine lv_if_ne (tgt := 17) hx hb dX8_behind_12 (by decide) (fun c_3 => ?_) (fun c_3 => ?_)
    · replace h := h.1 c_3
      exact w_X8_behind_17 C0 _ _ _ _ h _ _ _ hw (lv_sub hl [0, 1, 2, 3] rfl)
    · replace h := h.2 c_3
      refine lv_iconst (v := -1) hx hb dX8_behind_15 (by decide) ?_
      exact end_i (w1 := (mdU cy ad)) (u := σ) C0 hw h dX8_behind_16
end
theorem hd_X8_costOf : yX8_costOf.cls = RX8 ∧ yX8_costOf.cls ≠ "java/lang/invoke/MethodHandle" ∧ yX8_costOf.cls ≠ "java/lang/invoke/VarHandle" ∧ (parseMethodDescriptor yX8_costOf.desc).map (fun d => d.parameters.length) = some 3 := by decide +kernel
section
variable {p : Program} {l : Launch} {e : Env} {s : State} {m : MethodId} {args : Array Value} {below : List Frame} {meth : Method} {c : Code} {D : va_G} {cy : Nat → ClassId} {A : Nat → Prop} {ad : Nat → Nat}
abbrev rm_X8_costOf : Room := { frames := 1, cells := 0, slots := 0, locals := 40 }
theorem inw_X8_costOf_X8 : ∀ w ∈ u_ws RX8 TX8 35, w ∈ wsX8_costOf := fun _ h => List.mem_cons_of_mem _ (List.mem_append_right _ h)
def wp_X8_costOf (x1 : Int32) (x2 : Int32) (x3 : Int32) (σ : Sg) (post : Int32 → Sg → Prop) : Prop :=
    (¬ x3 = 0 →
    wp_X8_look x2 σ (fun r_3 σ_4 =>
    vp_in x3 4 ∧
    ∀ y_6 : Int32, y_6 = ((σ 17 (1 : Int32).toNatClampNeg) * (if 0 ≤ (r_3 - (σ_4 18 x3.toNatClampNeg)) then (r_3 - (σ_4 18 x3.toNatClampNeg)) else 0 - (r_3 - (σ_4 18 x3.toNatClampNeg)))) →
    vp_in x2 20 ∧
    (¬ (σ_4 15 x2.toNatClampNeg) = 0 →
    vp_in ((((3 : Int32) * x2) + x3) - (1 : Int32)) 60 ∧
    wp_X8_counterOf x1 x3 (fun r_10 =>
    (¬ (σ_4 16 ((((3 : Int32) * x2) + x3) - (1 : Int32)).toNatClampNeg) = (r_10 + (1 : Int32)) →
    post (y_6 + (σ_4 17 (2 : Int32).toNatClampNeg)) σ_4) ∧
    ((σ_4 16 ((((3 : Int32) * x2) + x3) - (1 : Int32)).toNatClampNeg) = (r_10 + (1 : Int32)) →
    post y_6 σ_4))) ∧
    ((σ_4 15 x2.toNatClampNeg) = 0 →
    post (y_6 + (σ_4 17 (3 : Int32).toNatClampNeg)) σ_4))) ∧
    (x3 = 0 →
    vp_in x2 20 ∧
    ((σ 33 x2.toNatClampNeg) = 0 →
    wp_X8_look x2 σ (fun r_16 σ_17 =>
    post (r_16 * (σ_17 17 (0 : Int32).toNatClampNeg)) σ_17)) ∧
    (¬ (σ 33 x2.toNatClampNeg) = 0 →
    post (0 : Int32) σ))
set_option maxHeartbeats 4000000 in
set_option maxRecDepth 100000 in
theorem c_X8_costOf (l : Launch) (D : va_G) (cy : Nat → ClassId) (ad : Nat → Nat) (σ : Sg) (x1 : Int32) (x2 : Int32) (x3 : Int32) (post : Int32 → Sg → Prop) (h : wp_X8_costOf x1 x2 x3 σ post) : Ct l yX8_costOf wsX8_costOf rm_X8_costOf D cy [.ref (ad 0), .int x1, .int x2, .int x3] (mdW cy ad σ) 0 0 (Ri D (mdU cy ad) (fun r u => post r u)) := by
  refine Ct.of (cc := cX8_costOf) (maxL := 5) (rt := (some .int)) (by decide) rfl (Nat.le_of_ble_eq_true rfl) ?_
  intro p e s m below meth c A C0 _ H locs ls hw hl
  obtain ⟨⟨hx, hb, hml, hown, hts⟩, hr, hlocks, hkx, hA⟩ := id C0
  have hl : lv_has ls 5 [(0, .ref (ad 0)), (1, .int x1), (2, .int x2), (3, .int x3)] := hl
  unfold wp_X8_costOf at h
  refine lv_iload_n hx hb dX8_costOf_0 rfl (lv_at hl 3 rfl) ?_
  refine lv_if_ne (tgt := 30) hx hb dX8_costOf_1 (by decide) (fun c_1 => ?_) (fun c_1 => ?_)
  · replace h := h.1 c_1
    refine lv_aload_n hx hb dX8_costOf_30 rfl (lv_at hl 0 rfl) ?_
    refine mg_md_prices hx hb hts inw_X8_costOf_X8 hown hkx hw (hts _ (List.mem_of_getElem? (i := 2) rfl)) dX8_costOf_31 ?_
    refine lv_iconst (v := 1) hx hb dX8_costOf_34 (by decide) ?_
    refine ma_m_prices hx hb hkx hw (by unfold vp_in; decide) dX8_costOf_35 ?_
    refine lv_aload_n hx hb dX8_costOf_36 rfl (lv_at hl 0 rfl) ?_
    refine lv_iload_n hx hb dX8_costOf_37 rfl (lv_at hl 2 rfl) ?_
    refine md_Vi (As := [.int x2]) ⟨hx, hb, hml, hown, hts⟩ hkx hw hA (c_X8_look l D cy ad σ x2 _ h) (cwV 1 hts gX8_costOf_X8_look rfl rfl rfl hd_X8_look ⟨Nat.le_of_ble_eq_true rfl, Nat.le_of_ble_eq_true rfl⟩) 0 8 rfl rfl rfl hl.1 rfl (Nat.le_of_ble_eq_true rfl) dX8_costOf_38 ⟨Nat.zero_le _, Nat.zero_le _⟩ (fun r_3 σ_4 H locs h hw => ?_)
    refine lv_aload_n hx hb dX8_costOf_41 rfl (lv_at hl 0 rfl) ?_
    refine mg_md_wants hx hb hts inw_X8_costOf_X8 hown hkx hw (hts _ (List.mem_of_getElem? (i := 3) rfl)) dX8_costOf_42 ?_
    refine lv_iload_n hx hb dX8_costOf_45 rfl (lv_at hl 3 rfl) ?_
    obtain ⟨b_5, h⟩ := h
    refine ma_m_wants hx hb hkx hw b_5 dX8_costOf_46 ?_
    refine lv_isub hx hb dX8_costOf_47 ?_
    refine va_mabs hx hb (hml.trans hl.1.symm) hown (hts _ (List.mem_of_getElem? (i := 4) rfl)) (hts _ (List.mem_of_getElem? (i := 5) rfl)) (hts _ (List.mem_of_getElem? (i := 6) rfl)) (hts _ (List.mem_of_getElem? (i := 7) rfl)) (Nat.le_of_ble_eq_true rfl) (Nat.le_of_ble_eq_true rfl) (Nat.zero_le _) (Nat.zero_le _) dX8_costOf_48 ?_
    refine lv_imul hx hb dX8_costOf_51 ?_
    refine lv_topi (fun y_6 ey_6 => ?_)
    replace h := h y_6 ey_6
    refine lv_istore (lv' := [(4, .int y_6), (0, .ref (ad 0)), (1, .int x1), (2, .int x2), (3, .int x3)]) hx hb dX8_costOf_52 hl (by decide) rfl (fun ls hl => ?_)
    refine lv_aload_n hx hb dX8_costOf_54 rfl (lv_at hl 1 rfl) ?_
    refine mg_md_parts hx hb hts inw_X8_costOf_X8 hown hkx hw (hts _ (List.mem_of_getElem? (i := 8) rfl)) dX8_costOf_55 ?_
    refine lv_iload_n hx hb dX8_costOf_58 rfl (lv_at hl 3 rfl) ?_
    obtain ⟨b_7, h⟩ := h
    refine ma_m_parts hx hb hkx hw b_7 dX8_costOf_59 ?_
    refine lv_if_ne (tgt := 73) hx hb dX8_costOf_60 (by decide) (fun c_8 => ?_) (fun c_8 => ?_)
    · replace h := h.1 c_8
      refine lv_aload_n hx hb dX8_costOf_73 rfl (lv_at hl 1 rfl) ?_
      refine mg_md_numbers hx hb hts inw_X8_costOf_X8 hown hkx hw (hts _ (List.mem_of_getElem? (i := 9) rfl)) dX8_costOf_74 ?_
      refine lv_iconst (v := 3) hx hb dX8_costOf_77 (by decide) ?_
      refine lv_iload_n hx hb dX8_costOf_78 rfl (lv_at hl 3 rfl) ?_
      refine lv_imul hx hb dX8_costOf_79 ?_
      refine lv_iload_n hx hb dX8_costOf_80 rfl (lv_at hl 4 rfl) ?_
      refine lv_iadd hx hb dX8_costOf_81 ?_
      refine lv_iconst (v := 1) hx hb dX8_costOf_82 (by decide) ?_
      refine lv_isub hx hb dX8_costOf_83 ?_
      obtain ⟨b_9, h⟩ := h
      refine ma_m_numbers hx hb hkx hw b_9 dX8_costOf_84 ?_
      refine lv_iload_n hx hb dX8_costOf_85 rfl (lv_at hl 2 rfl) ?_
      refine lv_iload_n hx hb dX8_costOf_86 rfl (lv_at hl 4 rfl) ?_
      refine call_S0i (As := [.int x1, .int x3]) ⟨hx, hb, hml, hown, hts⟩ hkx hw hA (c_X8_counterOf l D cy x1 x3 _ h) (va_cwS 2 hts gX8_costOf_X8_counterOf rfl rfl rfl hd_X8_counterOf ⟨Nat.le_of_ble_eq_true rfl, Nat.le_of_ble_eq_true rfl⟩) rfl hl.1 rfl (Nat.le_of_ble_eq_true rfl) dX8_costOf_87 ⟨Nat.zero_le _, Nat.zero_le _⟩ (fun r_10 H locs h hw => ?_)
      refine lv_iconst (v := 1) hx hb dX8_costOf_90 (by decide) ?_
      refine lv_iadd hx hb dX8_costOf_91 ?_
      refine lv_icmp_ne (tgt := 100) hx hb dX8_costOf_92 (by decide) (fun c_11 => ?_) (fun c_11 => ?_)
      · replace h := h.1 c_11
        refine lv_iload hx hb dX8_costOf_100 (lv_at hl 0 rfl) ?_
        refine lv_aload_n hx hb dX8_costOf_102 rfl (lv_at hl 1 rfl) ?_
        refine mg_md_prices hx hb hts inw_X8_costOf_X8 hown hkx hw (hts _ (List.mem_of_getElem? (i := 2) rfl)) dX8_costOf_103 ?_
        refine lv_iconst (v := 2) hx hb dX8_costOf_106 (by decide) ?_
        refine ma_m_prices hx hb hkx hw (by unfold vp_in; decide) dX8_costOf_107 ?_
        refine lv_iadd hx hb dX8_costOf_108 ?_
        exact end_i (w1 := (mdU cy ad)) (u := σ_4) C0 hw h dX8_costOf_109
      · replace h := h.2 c_11
        refine lv_iload hx hb dX8_costOf_95 (lv_at hl 0 rfl) ?_
        refine lv_goto (tgt := 109) hx hb dX8_costOf_97 (by decide) ?_
        exact end_i (w1 := (mdU cy ad)) (u := σ_4) C0 hw h dX8_costOf_109
    · replace h := h.2 c_8
      refine lv_iload hx hb dX8_costOf_63 (lv_at hl 0 rfl) ?_
      refine lv_aload_n hx hb dX8_costOf_65 rfl (lv_at hl 1 rfl) ?_
      refine mg_md_prices hx hb hts inw_X8_costOf_X8 hown hkx hw (hts _ (List.mem_of_getElem? (i := 2) rfl)) dX8_costOf_66 ?_
      refine lv_iconst (v := 3) hx hb dX8_costOf_69 (by decide) ?_
      refine ma_m_prices hx hb hkx hw (by unfold vp_in; decide) dX8_costOf_70 ?_
      refine lv_iadd hx hb dX8_costOf_71 ?_
      exact end_i (w1 := (mdU cy ad)) (u := σ_4) C0 hw h dX8_costOf_72
  · replace h := h.2 c_1
    refine lv_aload_n hx hb dX8_costOf_4 rfl (lv_at hl 0 rfl) ?_
    refine mg_md_isRun hx hb hts inw_X8_costOf_X8 hown hkx hw (hts _ (List.mem_of_getElem? (i := 1) rfl)) dX8_costOf_5 ?_
    refine lv_iload_n hx hb dX8_costOf_8 rfl (lv_at hl 2 rfl) ?_
    obtain ⟨b_14, h⟩ := h
    refine ma_m_isRun hx hb hkx hw b_14 dX8_costOf_9 ?_
    refine lv_if_eq (tgt := 17) hx hb dX8_costOf_10 (by decide) (fun c_15 => ?_) (fun c_15 => ?_)
    · replace h := h.1 c_15
      refine lv_aload_n hx hb dX8_costOf_17 rfl (lv_at hl 0 rfl) ?_
      refine lv_iload_n hx hb dX8_costOf_18 rfl (lv_at hl 2 rfl) ?_
      refine md_Vi (As := [.int x2]) ⟨hx, hb, hml, hown, hts⟩ hkx hw hA (c_X8_look l D cy ad σ x2 _ h) (cwV 1 hts gX8_costOf_X8_look rfl rfl rfl hd_X8_look ⟨Nat.le_of_ble_eq_true rfl, Nat.le_of_ble_eq_true rfl⟩) 0 8 rfl rfl rfl hl.1 rfl (Nat.le_of_ble_eq_true rfl) dX8_costOf_19 ⟨Nat.zero_le _, Nat.zero_le _⟩ (fun r_16 σ_17 H locs h hw => ?_)
      refine lv_aload_n hx hb dX8_costOf_22 rfl (lv_at hl 0 rfl) ?_
      refine mg_md_prices hx hb hts inw_X8_costOf_X8 hown hkx hw (hts _ (List.mem_of_getElem? (i := 2) rfl)) dX8_costOf_23 ?_
      refine lv_iconst (v := 0) hx hb dX8_costOf_26 (by decide) ?_
      refine ma_m_prices hx hb hkx hw (by unfold vp_in; decide) dX8_costOf_27 ?_
      refine lv_imul hx hb dX8_costOf_28 ?_
      exact end_i (w1 := (mdU cy ad)) (u := σ_17) C0 hw h dX8_costOf_29
    · replace h := h.2 c_15
      refine lv_iconst (v := 0) hx hb dX8_costOf_13 (by decide) ?_
      refine lv_goto (tgt := 29) hx hb dX8_costOf_14 (by decide) ?_
      exact end_i (w1 := (mdU cy ad)) (u := σ) C0 hw h dX8_costOf_29
end
abbrev WL : Type := Int32 → Int32 → Sg → (Int32 → Sg → Prop) → Prop
abbrev rm_X8_leastFrom (d : Nat) : Room := { frames := 2 * d + 8, cells := 0, slots := 0, locals := 64 * d + 200 }
abbrev rm_X8_costWithLevel (d : Nat) : Room := { frames := 2 * d + 9, cells := 0, slots := 0, locals := 64 * d + 230 }
abbrev HLt (l : Launch) (D : va_G) (cy : Nat → ClassId) (ad : Nat → Nat) (wl : WL) (d : Nat) : Prop := ∀ (a b : Int32) (σ : Sg) (post : Int32 → Sg → Prop), wl a b σ post → Ct l yX8_leastFrom wsX8_leastFrom (rm_X8_leastFrom d) D cy [.ref (ad 0), .int a, .int b] (mdW cy ad σ) 0 0 (Ri D (mdU cy ad) (fun r u => post r u))
theorem hd_X8_leastFrom : yX8_leastFrom.cls = RX8 ∧ yX8_leastFrom.cls ≠ "java/lang/invoke/MethodHandle" ∧ yX8_leastFrom.cls ≠ "java/lang/invoke/VarHandle" ∧ (parseMethodDescriptor yX8_leastFrom.desc).map (fun d => d.parameters.length) = some 2 := by decide +kernel
theorem hd_X8_costWithLevel : yX8_costWithLevel.cls = RX8 ∧ yX8_costWithLevel.cls ≠ "java/lang/invoke/MethodHandle" ∧ yX8_costWithLevel.cls ≠ "java/lang/invoke/VarHandle" ∧ (parseMethodDescriptor yX8_costWithLevel.desc).map (fun d => d.parameters.length) = some 3 := by decide +kernel
section
variable {p : Program} {l : Launch} {e : Env} {s : State} {m : MethodId} {args : Array Value} {below : List Frame} {meth : Method} {c : Code} {D : va_G} {cy : Nat → ClassId} {A : Nat → Prop} {ad : Nat → Nat}
theorem inw_X8_costWithLevel_X8 : ∀ w ∈ u_ws RX8 TX8 35, w ∈ wsX8_costWithLevel := fun _ h => List.mem_cons_of_mem _ (List.mem_append_right _ h)
abbrev G_X8_costWithLevel (d : Nat) (p : Program) (l : Launch) (e : Env) (s : State) (m : MethodId) (args : Array Value) (below : List Frame) (meth : Method) (c : Code) (D : va_G) (A : Nat → Prop) (cy : Nat → ClassId) (ad : Nat → Nat) (post : Int32 → Sg → Prop) : va_W → Nat → List (Nat × Value) → Nat → List Value → Prop := Gw p l e (rm_X8_costWithLevel d) s m args below meth c D A (MQ below ((Ri D (mdU cy ad) (fun r u => post r u)) A) args s 0 0 A)
def wp_X8_costWithLevel_28 (wl : WL) (post : Int32 → Sg → Prop) (x1 : Int32) (x2 : Int32) (x3 : Int32) (s0 : Int32) (σ : Sg) : Prop :=
    (¬ s0 = (-1 : Int32) →
    wp_X8_costOf x2 x1 x3 σ (fun r_2 σ_3 =>
    wl (x1 + (1 : Int32)) s0 σ_3 (fun r_4 σ_5 =>
    post (r_2 + r_4) σ_5))) ∧
    (s0 = (-1 : Int32) →
    post (1000000 : Int32) σ)
set_option maxHeartbeats 4000000 in
set_option maxRecDepth 100000 in
theorem w_X8_costWithLevel_28 {wl : WL} {d : Nat} (HL : HLt l D cy ad wl d) (C0 : Mc p m c meth cX8_costWithLevel 5 s args wsX8_costWithLevel RX8 (some .int) D cy A) {post : Int32 → Sg → Prop} : ∀ (x1 : Int32) (x2 : Int32) (x3 : Int32) (s0 : Int32) (σ : Sg), wp_X8_costWithLevel_28 wl post x1 x2 x3 s0 σ → G_X8_costWithLevel d p l e s m args below meth c D A cy ad post (mdW cy ad σ) 5 [(0, .ref (ad 0)), (1, .int x1), (2, .int x2), (3, .int x3)] 28 [.int s0] := by
  obtain ⟨⟨hx, hb, hml, hown, hts⟩, hr, hlocks, hkx, hA⟩ := id C0
  intro x1 x2 x3 s0 σ h H locs ls hw hl
  unfold wp_X8_costWithLevel_28 at h
  refine lv_istore (lv' := [(4, .int s0), (0, .ref (ad 0)), (1, .int x1), (2, .int x2), (3, .int x3)]) hx hb dX8_costWithLevel_28 hl (by decide) rfl (fun ls hl => ?_)
  refine lv_iload hx hb dX8_costWithLevel_30 (lv_at hl 0 rfl) ?_
  refine lv_iconst (v := -1) hx hb dX8_costWithLevel_32 (by decide) ?_
  refine lv_icmp_ne (tgt := 41) hx hb dX8_costWithLevel_33 (by decide) (fun c_1 => ?_) (fun c_1 => ?_)
  · replace h := h.1 c_1
    refine lv_aload_n hx hb dX8_costWithLevel_41 rfl (lv_at hl 1 rfl) ?_
    refine lv_iload_n hx hb dX8_costWithLevel_42 rfl (lv_at hl 3 rfl) ?_
    refine lv_iload_n hx hb dX8_costWithLevel_43 rfl (lv_at hl 2 rfl) ?_
    refine lv_iload_n hx hb dX8_costWithLevel_44 rfl (lv_at hl 4 rfl) ?_
    refine md_Vi (As := [.int x2, .int x1, .int x3]) ⟨hx, hb, hml, hown, hts⟩ hkx hw hA (c_X8_costOf l D cy ad σ x2 x1 x3 _ h) (cwV 3 hts gX8_costWithLevel_X8_costOf rfl rfl rfl hd_X8_costOf ⟨by dsimp only; omega, by dsimp only; omega⟩) 0 8 rfl rfl rfl hl.1 rfl (Nat.le_of_ble_eq_true rfl) dX8_costWithLevel_45 ⟨Nat.zero_le _, Nat.zero_le _⟩ (fun r_2 σ_3 H locs h hw => ?_)
    refine lv_aload_n hx hb dX8_costWithLevel_48 rfl (lv_at hl 1 rfl) ?_
    refine lv_iload_n hx hb dX8_costWithLevel_49 rfl (lv_at hl 2 rfl) ?_
    refine lv_iconst (v := 1) hx hb dX8_costWithLevel_50 (by decide) ?_
    refine lv_iadd hx hb dX8_costWithLevel_51 ?_
    refine lv_iload hx hb dX8_costWithLevel_52 (lv_at hl 0 rfl) ?_
    refine md_Vi (As := [.int (x1 + (1 : Int32)), .int s0]) ⟨hx, hb, hml, hown, hts⟩ hkx hw hA (HL (x1 + (1 : Int32)) s0 σ_3 _ h) (cwV 2 hts gX8_costWithLevel_X8_leastFrom rfl rfl rfl hd_X8_leastFrom ⟨by dsimp only; omega, by dsimp only; omega⟩) 0 8 rfl rfl rfl hl.1 rfl (Nat.le_of_ble_eq_true rfl) dX8_costWithLevel_54 ⟨Nat.zero_le _, Nat.zero_le _⟩ (fun r_4 σ_5 H locs h hw => ?_)
    refine lv_iadd hx hb dX8_costWithLevel_57 ?_
    exact end_i (w1 := (mdU cy ad)) (u := σ_5) C0 hw h dX8_costWithLevel_58
  · replace h := h.2 c_1
    refine lv_ldc hx hb hown (hts _ (List.mem_of_getElem? (i := 2) rfl)) dX8_costWithLevel_36 ?_
    refine lv_goto (tgt := 58) hx hb dX8_costWithLevel_38 (by decide) ?_
    exact end_i (w1 := (mdU cy ad)) (u := σ) C0 hw h dX8_costWithLevel_58
def wp_X8_costWithLevel (wl : WL) (x1 : Int32) (x2 : Int32) (x3 : Int32) (σ : Sg) (post : Int32 → Sg → Prop) : Prop :=
    (¬ x3 = 0 →
    vp_in x1 20 ∧
    ((σ 33 x1.toNatClampNeg) = 0 →
    wp_X8_behind x2 x1 x3 σ (fun r_4 σ_5 =>
    wp_X8_costWithLevel_28 wl post x1 x2 x3 r_4 σ_5)) ∧
    (¬ (σ 33 x1.toNatClampNeg) = 0 →
    wp_X8_costWithLevel_28 wl post x1 x2 x3 (-1 : Int32) σ)) ∧
    (x3 = 0 →
    wp_X8_costWithLevel_28 wl post x1 x2 x3 x2 σ)
set_option maxHeartbeats 4000000 in
set_option maxRecDepth 100000 in
theorem c_X8_costWithLevel (l : Launch) (D : va_G) (cy : Nat → ClassId) (ad : Nat → Nat) (wl : WL) (d : Nat) (HL : HLt l D cy ad wl d) (σ : Sg) (x1 : Int32) (x2 : Int32) (x3 : Int32) (post : Int32 → Sg → Prop) (h : wp_X8_costWithLevel wl x1 x2 x3 σ post) : Ct l yX8_costWithLevel wsX8_costWithLevel (rm_X8_costWithLevel d) D cy [.ref (ad 0), .int x1, .int x2, .int x3] (mdW cy ad σ) 0 0 (Ri D (mdU cy ad) (fun r u => post r u)) := by
  refine Ct.of (cc := cX8_costWithLevel) (maxL := 5) (rt := (some .int)) (by decide) rfl (Nat.le_of_ble_eq_true rfl) ?_
  intro p e s m below meth c A C0 _ H locs ls hw hl
  obtain ⟨⟨hx, hb, hml, hown, hts⟩, hr, hlocks, hkx, hA⟩ := id C0
  have hl : lv_has ls 5 [(0, .ref (ad 0)), (1, .int x1), (2, .int x2), (3, .int x3)] := hl
  unfold wp_X8_costWithLevel at h
  refine lv_iload_n hx hb dX8_costWithLevel_0 rfl (lv_at hl 3 rfl) ?_
  refine lv_if_ne (tgt := 8) hx hb dX8_costWithLevel_1 (by decide) (fun c_1 => ?_) (fun c_1 => ?_)
  · replace h := h.1 c_1
    refine lv_aload_n hx hb dX8_costWithLevel_8 rfl (lv_at hl 0 rfl) ?_
    refine mg_md_isRun hx hb hts inw_X8_costWithLevel_X8 hown hkx hw (hts _ (List.mem_of_getElem? (i := 1) rfl)) dX8_costWithLevel_9 ?_
    refine lv_iload_n hx hb dX8_costWithLevel_12 rfl (lv_at hl 1 rfl) ?_
    obtain ⟨b_2, h⟩ := h
    refine ma_m_isRun hx hb hkx hw b_2 dX8_costWithLevel_13 ?_
    refine lv_if_eq (tgt := 21) hx hb dX8_costWithLevel_14 (by decide) (fun c_3 => ?_) (fun c_3 => ?_)
    · replace h := h.1 c_3
      refine lv_aload_n hx hb dX8_costWithLevel_21 rfl (lv_at hl 0 rfl) ?_
      refine lv_iload_n hx hb dX8_costWithLevel_22 rfl (lv_at hl 2 rfl) ?_
      refine lv_iload_n hx hb dX8_costWithLevel_23 rfl (lv_at hl 1 rfl) ?_
      refine lv_iload_n hx hb dX8_costWithLevel_24 rfl (lv_at hl 3 rfl) ?_
      refine md_Vi (As := [.int x2, .int x1, .int x3]) ⟨hx, hb, hml, hown, hts⟩ hkx hw hA (c_X8_behind l D cy ad σ x2 x1 x3 _ h) (cwV 3 hts gX8_costWithLevel_X8_behind rfl rfl rfl hd_X8_behind ⟨by dsimp only; omega, by dsimp only; omega⟩) 0 8 rfl rfl rfl hl.1 rfl (Nat.le_of_ble_eq_true rfl) dX8_costWithLevel_25 ⟨Nat.zero_le _, Nat.zero_le _⟩ (fun r_4 σ_5 H locs h hw => ?_)
      exact w_X8_costWithLevel_28 HL C0 _ _ _ _ _ h _ _ _ hw (lv_sub hl [0, 1, 2, 3] rfl)
    · replace h := h.2 c_3
      refine lv_iconst (v := -1) hx hb dX8_costWithLevel_17 (by decide) ?_
      refine lv_goto (tgt := 28) hx hb dX8_costWithLevel_18 (by decide) ?_
      exact w_X8_costWithLevel_28 HL C0 _ _ _ _ _ h _ _ _ hw (lv_sub hl [0, 1, 2, 3] rfl)
  · replace h := h.2 c_1
    refine lv_iload_n hx hb dX8_costWithLevel_4 rfl (lv_at hl 2 rfl) ?_
    refine lv_goto (tgt := 28) hx hb dX8_costWithLevel_5 (by decide) ?_
    exact w_X8_costWithLevel_28 HL C0 _ _ _ _ _ h _ _ _ hw (lv_sub hl [0, 1, 2, 3] rfl)
end
section
variable {p : Program} {l : Launch} {e : Env} {s : State} {m : MethodId} {args : Array Value} {below : List Frame} {meth : Method} {c : Code} {D : va_G} {cy : Nat → ClassId} {A : Nat → Prop} {ad : Nat → Nat}
theorem inw_X8_leastFrom_X8 : ∀ w ∈ u_ws RX8 TX8 35, w ∈ wsX8_leastFrom := fun _ h => List.mem_cons_of_mem _ (List.mem_append_right _ h)
abbrev G_X8_leastFrom (d : Nat) (p : Program) (l : Launch) (e : Env) (s : State) (m : MethodId) (args : Array Value) (below : List Frame) (meth : Method) (c : Code) (D : va_G) (A : Nat → Prop) (cy : Nat → ClassId) (ad : Nat → Nat) (post : Int32 → Sg → Prop) : va_W → Nat → List (Nat × Value) → Nat → List Value → Prop := Gw p l e (rm_X8_leastFrom (d + 1)) s m args below meth c D A (MQ below ((Ri D (mdU cy ad) (fun r u => post r u)) A) args s 0 0 A)
def wp_X8_leastFrom_44 (wl : WL) (post : Int32 → Sg → Prop) : Nat → Int32 → Int32 → Int32 → Int32 → Int32 → Sg → Prop
  | 0, _, _, _, _, _, _ => False
  | n + 1, x1, x2, x3, x4, x5, σ =>
    ((4 : Int32) ≤ x5 →
    vp_in x3 718740 ∧
    ∀ σ_3 : Sg, σ_3 = va_up σ 34 (upd (σ 34) x3.toNatClampNeg (σ 7 0)) →
    vp_in x3 718740 ∧
    ∀ σ_5 : Sg, σ_5 = va_up σ_3 22 (upd (σ_3 22) x3.toNatClampNeg x4) →
    post x4 σ_5) ∧
    (¬ (4 : Int32) ≤ x5 →
    wp_X8_costWithLevel wl x1 x2 x5 σ (fun r_6 σ_7 =>
    ∀ y_8 : Int32, y_8 = (if r_6 < x4 then r_6 else x4) →
    wp_X8_leastFrom_44 wl post n x1 x2 x3 y_8 (x5 + (1 : Int32)) σ_7))
set_option maxHeartbeats 4000000 in
set_option maxRecDepth 100000 in
theorem w_X8_leastFrom_44 {wl : WL} {d : Nat} (HL : HLt l D cy ad wl d) (C0 : Mc p m c meth cX8_leastFrom 6 s args wsX8_leastFrom RX8 (some .int) D cy A) {post : Int32 → Sg → Prop} : ∀ (n : Nat) (x1 : Int32) (x2 : Int32) (x3 : Int32) (x4 : Int32) (x5 : Int32) (σ : Sg), wp_X8_leastFrom_44 wl post n x1 x2 x3 x4 x5 σ → G_X8_leastFrom d p l e s m args below meth c D A cy ad post (mdW cy ad σ) 6 [(0, .ref (ad 0)), (1, .int x1), (2, .int x2), (3, .int x3), (4, .int x4), (5, .int x5)] 44 [] := by
  obtain ⟨⟨hx, hb, hml, hown, hts⟩, hr, hlocks, hkx, hA⟩ := id C0
  intro n
  induction n with
  | zero => intro x1 x2 x3 x4 x5 σ h; exact False.elim h
  | succ n ih =>
    intro x1 x2 x3 x4 x5 σ h H locs ls hw hl
    unfold wp_X8_leastFrom_44 at h
    refine lv_iload hx hb dX8_leastFrom_44 (lv_at hl 5 rfl) ?_
    refine lv_iconst (v := 4) hx hb dX8_leastFrom_46 (by decide) ?_
    refine lv_icmp_ge (tgt := 71) hx hb dX8_leastFrom_47 (by decide) (fun c_1 => ?_) (fun c_1 => ?_)
    · replace h := h.1 c_1
      refine lv_aload_n hx hb dX8_leastFrom_71 rfl (lv_at hl 0 rfl) ?_
      refine mg_md_asked hx hb hts inw_X8_leastFrom_X8 hown hkx hw (hts _ (List.mem_of_getElem? (i := 3) rfl)) dX8_leastFrom_72 ?_
      refine lv_iload_n hx hb dX8_leastFrom_75 rfl (lv_at hl 3 rfl) ?_
      refine lv_aload_n hx hb dX8_leastFrom_76 rfl (lv_at hl 0 rfl) ?_
      refine mg_md_turn hx hb hts inw_X8_leastFrom_X8 hown hkx hw (hts _ (List.mem_of_getElem? (i := 4) rfl)) dX8_leastFrom_77 ?_
      obtain ⟨b_2, h⟩ := h
      refine ms_m_asked hx hb hkx hw b_2 dX8_leastFrom_80 (fun σ_3 eσ_3 H locs hw => ?_)
      replace h := h σ_3 eσ_3
      refine lv_aload_n hx hb dX8_leastFrom_81 rfl (lv_at hl 0 rfl) ?_
      refine mg_md_least hx hb hts inw_X8_leastFrom_X8 hown hkx hw (hts _ (List.mem_of_getElem? (i := 5) rfl)) dX8_leastFrom_82 ?_
      refine lv_iload_n hx hb dX8_leastFrom_85 rfl (lv_at hl 3 rfl) ?_
      refine lv_iload hx hb dX8_leastFrom_86 (lv_at hl 4 rfl) ?_
      obtain ⟨b_4, h⟩ := h
      refine ms_m_least hx hb hkx hw b_4 dX8_leastFrom_88 (fun σ_5 eσ_5 H locs hw => ?_)
      replace h := h σ_5 eσ_5
      refine lv_iload hx hb dX8_leastFrom_89 (lv_at hl 4 rfl) ?_
      exact end_i (w1 := (mdU cy ad)) (u := σ_5) C0 hw h dX8_leastFrom_91
    · replace h := h.2 c_1
      refine lv_iload hx hb dX8_leastFrom_50 (lv_at hl 4 rfl) ?_
      refine lv_aload_n hx hb dX8_leastFrom_52 rfl (lv_at hl 0 rfl) ?_
      refine lv_iload_n hx hb dX8_leastFrom_53 rfl (lv_at hl 1 rfl) ?_
      refine lv_iload_n hx hb dX8_leastFrom_54 rfl (lv_at hl 2 rfl) ?_
      refine lv_iload hx hb dX8_leastFrom_55 (lv_at hl 5 rfl) ?_
      refine md_Vi (As := [.int x1, .int x2, .int x5]) ⟨hx, hb, hml, hown, hts⟩ hkx hw hA (c_X8_costWithLevel l D cy ad wl d HL σ x1 x2 x5 _ h) (cwV 3 hts gX8_leastFrom_X8_costWithLevel rfl rfl rfl hd_X8_costWithLevel ⟨by dsimp only; omega, by dsimp only; omega⟩) 0 8 rfl rfl rfl hl.1 rfl (Nat.le_of_ble_eq_true rfl) dX8_leastFrom_57 ⟨Nat.zero_le _, Nat.zero_le _⟩ (fun r_6 σ_7 H locs h hw => ?_)
      refine va_mmin hx hb (hml.trans hl.1.symm) hown (hts _ (List.mem_of_getElem? (i := 7) rfl)) (hts _ (List.mem_of_getElem? (i := 8) rfl)) (hts _ (List.mem_of_getElem? (i := 9) rfl)) (hts _ (List.mem_of_getElem? (i := 10) rfl)) (by dsimp only; omega) (by dsimp only [List.map, List.sum_cons, List.sum_nil, Value.category]; omega) (Nat.zero_le _) (Nat.zero_le _) dX8_leastFrom_60 ?_
      refine lv_topi (fun y_8 ey_8 => ?_)
      replace h := h y_8 ey_8
      refine lv_istore (lv' := [(4, .int y_8), (0, .ref (ad 0)), (1, .int x1), (2, .int x2), (3, .int x3), (5, .int x5)]) hx hb dX8_leastFrom_63 hl (by decide) rfl (fun ls hl => ?_)
      refine lv_iinc (v := x5 + (1 : Int32)) (lv' := [(5, .int (x5 + (1 : Int32))), (4, .int y_8), (0, .ref (ad 0)), (1, .int x1), (2, .int x2), (3, .int x3)]) hx hb dX8_leastFrom_65 hl (k := 5) rfl rfl (by decide) rfl (fun ls hl => ?_)
      refine lv_goto (tgt := 44) hx hb dX8_leastFrom_68 (by decide) ?_
      exact ih _ _ _ _ _ _ h _ _ _ hw (lv_sub hl [2, 3, 4, 5, 1, 0] rfl)
def wq_X8_leastFrom (wl : WL) (x1 : Int32) (x2 : Int32) (σ : Sg) (post : Int32 → Sg → Prop) : Prop :=
    (¬ x1 = (σ 1 0) →
    ∀ y_2 : Int32, y_2 = (((35937 : Int32) * x1) + x2) →
    vp_in y_2 718740 ∧
    (¬ (σ 34 y_2.toNatClampNeg) = (σ 7 0) →
    ∃ fu, wp_X8_leastFrom_44 wl post fu x1 x2 y_2 (1000000 : Int32) (0 : Int32) σ) ∧
    ((σ 34 y_2.toNatClampNeg) = (σ 7 0) →
    vp_in y_2 718740 ∧
    post (σ 22 y_2.toNatClampNeg) σ)) ∧
    (x1 = (σ 1 0) →
    post (0 : Int32) σ)
set_option maxHeartbeats 4000000 in
set_option maxRecDepth 100000 in
theorem cq_X8_leastFrom (l : Launch) (D : va_G) (cy : Nat → ClassId) (ad : Nat → Nat) (wl : WL) (d : Nat) (HL : HLt l D cy ad wl d) (σ : Sg) (x1 : Int32) (x2 : Int32) (post : Int32 → Sg → Prop) (h : wq_X8_leastFrom wl x1 x2 σ post) : Ct l yX8_leastFrom wsX8_leastFrom (rm_X8_leastFrom (d + 1)) D cy [.ref (ad 0), .int x1, .int x2] (mdW cy ad σ) 0 0 (Ri D (mdU cy ad) (fun r u => post r u)) := by
  refine Ct.of (cc := cX8_leastFrom) (maxL := 6) (rt := (some .int)) (by decide) rfl (Nat.le_of_ble_eq_true rfl) ?_
  intro p e s m below meth c A C0 _ H locs ls hw hl
  obtain ⟨⟨hx, hb, hml, hown, hts⟩, hr, hlocks, hkx, hA⟩ := id C0
  have hl : lv_has ls 6 [(0, .ref (ad 0)), (1, .int x1), (2, .int x2)] := hl
  unfold wq_X8_leastFrom at h
  refine lv_iload_n hx hb dX8_leastFrom_0 rfl (lv_at hl 1 rfl) ?_
  refine lv_aload_n hx hb dX8_leastFrom_1 rfl (lv_at hl 0 rfl) ?_
  refine mg_md_lines hx hb hts inw_X8_leastFrom_X8 hown hkx hw (hts _ (List.mem_of_getElem? (i := 1) rfl)) dX8_leastFrom_2 ?_
  refine lv_icmp_ne (tgt := 10) hx hb dX8_leastFrom_5 (by decide) (fun c_1 => ?_) (fun c_1 => ?_)
  · replace h := h.1 c_1
    refine lv_ldc hx hb hown (hts _ (List.mem_of_getElem? (i := 2) rfl)) dX8_leastFrom_10 ?_
    refine lv_iload_n hx hb dX8_leastFrom_12 rfl (lv_at hl 1 rfl) ?_
    refine lv_imul hx hb dX8_leastFrom_13 ?_
    refine lv_iload_n hx hb dX8_leastFrom_14 rfl (lv_at hl 2 rfl) ?_
    refine lv_iadd hx hb dX8_leastFrom_15 ?_
    refine lv_topi (fun y_2 ey_2 => ?_)
    replace h := h y_2 ey_2
    refine lv_istore_n (lv' := [(3, .int y_2), (0, .ref (ad 0)), (1, .int x1), (2, .int x2)]) hx hb dX8_leastFrom_16 rfl hl (by decide) rfl (fun ls hl => ?_)
    refine lv_aload_n hx hb dX8_leastFrom_17 rfl (lv_at hl 1 rfl) ?_
    refine mg_md_asked hx hb hts inw_X8_leastFrom_X8 hown hkx hw (hts _ (List.mem_of_getElem? (i := 3) rfl)) dX8_leastFrom_18 ?_
    refine lv_iload_n hx hb dX8_leastFrom_21 rfl (lv_at hl 0 rfl) ?_
    obtain ⟨b_3, h⟩ := h
    refine ma_m_asked hx hb hkx hw b_3 dX8_leastFrom_22 ?_
    refine lv_aload_n hx hb dX8_leastFrom_23 rfl (lv_at hl 1 rfl) ?_
    refine mg_md_turn hx hb hts inw_X8_leastFrom_X8 hown hkx hw (hts _ (List.mem_of_getElem? (i := 4) rfl)) dX8_leastFrom_24 ?_
    refine lv_icmp_ne (tgt := 37) hx hb dX8_leastFrom_27 (by decide) (fun c_4 => ?_) (fun c_4 => ?_)
    · replace h := h.1 c_4
      refine lv_ldc hx hb hown (hts _ (List.mem_of_getElem? (i := 6) rfl)) dX8_leastFrom_37 ?_
      refine lv_istore (lv' := [(4, .int (1000000 : Int32)), (3, .int y_2), (0, .ref (ad 0)), (1, .int x1), (2, .int x2)]) hx hb dX8_leastFrom_39 hl (by decide) rfl (fun ls hl => ?_)
      refine lv_iconst (v := 0) hx hb dX8_leastFrom_41 (by decide) ?_
      refine lv_istore (lv' := [(5, .int (0 : Int32)), (4, .int (1000000 : Int32)), (3, .int y_2), (0, .ref (ad 0)), (1, .int x1), (2, .int x2)]) hx hb dX8_leastFrom_42 hl (by decide) rfl (fun ls hl => ?_)
      obtain ⟨n_5, h⟩ := h
      exact w_X8_leastFrom_44 HL C0 n_5 _ _ _ _ _ _ h _ _ _ hw (lv_sub hl [3, 4, 5, 2, 1, 0] rfl)
    · replace h := h.2 c_4
      refine lv_aload_n hx hb dX8_leastFrom_30 rfl (lv_at hl 1 rfl) ?_
      refine mg_md_least hx hb hts inw_X8_leastFrom_X8 hown hkx hw (hts _ (List.mem_of_getElem? (i := 5) rfl)) dX8_leastFrom_31 ?_
      refine lv_iload_n hx hb dX8_leastFrom_34 rfl (lv_at hl 0 rfl) ?_
      obtain ⟨b_6, h⟩ := h
      refine ma_m_least hx hb hkx hw b_6 dX8_leastFrom_35 ?_
      exact end_i (w1 := (mdU cy ad)) (u := σ) C0 hw h dX8_leastFrom_36
  · replace h := h.2 c_1
    refine lv_iconst (v := 0) hx hb dX8_leastFrom_8 (by decide) ?_
    exact end_i (w1 := (mdU cy ad)) (u := σ) C0 hw h dX8_leastFrom_9
end
def wp_X8_leastFrom : Nat → Int32 → Int32 → Sg → (Int32 → Sg → Prop) → Prop
  | 0, _, _, _, _ => False
  | d + 1, a, b, σ, post => wq_X8_leastFrom (fun a b σ post => wp_X8_leastFrom d a b σ post) a b σ post
theorem c_X8_leastFrom (l : Launch) (D : va_G) (cy : Nat → ClassId) (ad : Nat → Nat) : ∀ d : Nat, HLt l D cy ad (wp_X8_leastFrom d) d := by
  intro d
  induction d with
  | zero => intro a b σ post h; exact False.elim h
  | succ d ih => intro a b σ post h; exact cq_X8_leastFrom l D cy ad _ d ih σ a b post h
theorem hd_X8_findTree : yX8_findTree.cls = RX8 ∧ yX8_findTree.cls ≠ "java/lang/invoke/MethodHandle" ∧ yX8_findTree.cls ≠ "java/lang/invoke/VarHandle" ∧ (parseMethodDescriptor yX8_findTree.desc).map (fun d => d.parameters.length) = some 0 := by decide +kernel
section
variable {p : Program} {l : Launch} {e : Env} {s : State} {m : MethodId} {args : Array Value} {below : List Frame} {meth : Method} {c : Code} {D : va_G} {cy : Nat → ClassId} {A : Nat → Prop} {ad : Nat → Nat}
abbrev rm_X8_findTree : Room := { frames := 59, cells := 0, slots := 0, locals := 1810 }
theorem inw_X8_findTree_X8 : ∀ w ∈ u_ws RX8 TX8 35, w ∈ wsX8_findTree := fun _ h => List.mem_cons_of_mem _ (List.mem_append_right _ h)
abbrev G_X8_findTree (p : Program) (l : Launch) (e : Env) (s : State) (m : MethodId) (args : Array Value) (below : List Frame) (meth : Method) (c : Code) (D : va_G) (A : Nat → Prop) (cy : Nat → ClassId) (ad : Nat → Nat) (post : Sg → Prop) : va_W → Nat → List (Nat × Value) → Nat → List Value → Prop := Gw p l e rm_X8_findTree s m args below meth c D A (MQ below ((Rv D (mdU cy ad) (fun u => post u)) A) args s 0 0 A)
def wp_X8_findTree_114 (post : Sg → Prop) (k56 : Int32 → Int32 → Sg → Prop) : Nat → Int32 → Int32 → Int32 → Int32 → Sg → Prop
  | 0, _, _, _, _, _ => False
  | n + 1, x1, x2, x3, x4, σ =>
    ((3 : Int32) ≤ x4 →
    (¬ x3 = 0 →
    vp_in (σ 6 0) 20 ∧
    ∀ σ_4 : Sg, σ_4 = va_up σ 25 (upd (σ 25) (σ 6 0).toNatClampNeg x2) →
    ∀ σ_5 : Sg, σ_5 = va_up σ_4 6 (fun _ => (σ_4 6 0) + (1 : Int32)) →
    k56 x1 (x2 + (1 : Int32)) σ_5) ∧
    (x3 = 0 →
    k56 x1 (x2 + (1 : Int32)) σ)) ∧
    (¬ (3 : Int32) ≤ x4 →
    wp_X8_counterOf x1 (x4 + (1 : Int32)) (fun r_6 =>
    vp_in (((3 : Int32) * x2) + x4) 60 ∧
    ∀ σ_8 : Sg, σ_8 = va_up σ 24 (upd (σ 24) (((3 : Int32) * x2) + x4).toNatClampNeg r_6) →
    wp_X8_findTree_114 post k56 n x1 x2 x3 (x4 + (1 : Int32)) σ_8))
set_option maxHeartbeats 4000000 in
set_option maxRecDepth 100000 in
theorem w_X8_findTree_114 (C0 : Mc p m c meth cX8_findTree 5 s args wsX8_findTree RX8 none D cy A) {post : Sg → Prop} {k56 : Int32 → Int32 → Sg → Prop} (hk56 : ∀ (x1 : Int32) (x2 : Int32) (σ : Sg), k56 x1 x2 σ → G_X8_findTree p l e s m args below meth c D A cy ad post (mdW cy ad σ) 5 [(0, .ref (ad 0)), (1, .int x1), (2, .int x2)] 56 []) : ∀ (n : Nat) (x1 : Int32) (x2 : Int32) (x3 : Int32) (x4 : Int32) (σ : Sg), wp_X8_findTree_114 post k56 n x1 x2 x3 x4 σ → G_X8_findTree p l e s m args below meth c D A cy ad post (mdW cy ad σ) 5 [(0, .ref (ad 0)), (1, .int x1), (2, .int x2), (3, .int x3), (4, .int x4)] 114 [] := by
  obtain ⟨⟨hx, hb, hml, hown, hts⟩, hr, hlocks, hkx, hA⟩ := id C0
  intro n
  induction n with
  | zero => intro x1 x2 x3 x4 σ h; exact False.elim h
  | succ n ih =>
    intro x1 x2 x3 x4 σ h H locs ls hw hl
    unfold wp_X8_findTree_114 at h
    refine lv_iload hx hb dX8_findTree_114 (lv_at hl 4 rfl) ?_
    refine lv_iconst (v := 3) hx hb dX8_findTree_116 (by decide) ?_
    refine lv_icmp_ge (tgt := 145) hx hb dX8_findTree_117 (by decide) (fun c_1 => ?_) (fun c_1 => ?_)
    · replace h := h.1 c_1
      refine lv_iload_n hx hb dX8_findTree_145 rfl (lv_at hl 3 rfl) ?_
      refine lv_if_ne (tgt := 152) hx hb dX8_findTree_146 (by decide) (fun c_2 => ?_) (fun c_2 => ?_)
      · replace h := h.1 c_2
        refine lv_aload_n hx hb dX8_findTree_152 rfl (lv_at hl 0 rfl) ?_
        refine mg_md_heads hx hb hts inw_X8_findTree_X8 hown hkx hw (hts _ (List.mem_of_getElem? (i := 8) rfl)) dX8_findTree_153 ?_
        refine lv_aload_n hx hb dX8_findTree_156 rfl (lv_at hl 0 rfl) ?_
        refine mg_md_headMany hx hb hts inw_X8_findTree_X8 hown hkx hw (hts _ (List.mem_of_getElem? (i := 5) rfl)) dX8_findTree_157 ?_
        refine lv_iload_n hx hb dX8_findTree_160 rfl (lv_at hl 2 rfl) ?_
        obtain ⟨b_3, h⟩ := h
        refine ms_m_heads hx hb hkx hw b_3 dX8_findTree_161 (fun σ_4 eσ_4 H locs hw => ?_)
        replace h := h σ_4 eσ_4
        refine lv_aload_n hx hb dX8_findTree_162 rfl (lv_at hl 0 rfl) ?_
        refine lv_dup hx hb dX8_findTree_163 rfl ?_
        refine mg_md_headMany hx hb hts inw_X8_findTree_X8 hown hkx hw (hts _ (List.mem_of_getElem? (i := 5) rfl)) dX8_findTree_164 ?_
        refine lv_iconst (v := 1) hx hb dX8_findTree_167 (by decide) ?_
        refine lv_iadd hx hb dX8_findTree_168 ?_
        refine mp_md_headMany hx hb hts inw_X8_findTree_X8 hown hkx hw (hts _ (List.mem_of_getElem? (i := 5) rfl)) dX8_findTree_169 (fun σ_5 eσ_5 H locs hw => ?_)
        replace h := h σ_5 eσ_5
        refine lv_iinc (v := x2 + (1 : Int32)) (lv' := [(2, .int (x2 + (1 : Int32))), (0, .ref (ad 0)), (1, .int x1), (3, .int x3), (4, .int x4)]) hx hb dX8_findTree_172 hl (k := 2) rfl rfl (by decide) rfl (fun ls hl => ?_)
        refine lv_goto (tgt := 56) hx hb dX8_findTree_175 (by decide) ?_
        exact hk56 _ _ _ h _ _ _ hw (lv_sub hl [1, 2, 0] rfl)
      · replace h := h.2 c_2
        refine lv_goto (tgt := 172) hx hb dX8_findTree_149 (by decide) ?_
        refine lv_iinc (v := x2 + (1 : Int32)) (lv' := [(2, .int (x2 + (1 : Int32))), (0, .ref (ad 0)), (1, .int x1), (3, .int x3), (4, .int x4)]) hx hb dX8_findTree_172 hl (k := 2) rfl rfl (by decide) rfl (fun ls hl => ?_)
        refine lv_goto (tgt := 56) hx hb dX8_findTree_175 (by decide) ?_
        exact hk56 _ _ _ h _ _ _ hw (lv_sub hl [1, 2, 0] rfl)
    · replace h := h.2 c_1
      refine lv_aload_n hx hb dX8_findTree_120 rfl (lv_at hl 0 rfl) ?_
      refine mg_md_counters hx hb hts inw_X8_findTree_X8 hown hkx hw (hts _ (List.mem_of_getElem? (i := 7) rfl)) dX8_findTree_121 ?_
      refine lv_iconst (v := 3) hx hb dX8_findTree_124 (by decide) ?_
      refine lv_iload_n hx hb dX8_findTree_125 rfl (lv_at hl 2 rfl) ?_
      refine lv_imul hx hb dX8_findTree_126 ?_
      refine lv_iload hx hb dX8_findTree_127 (lv_at hl 4 rfl) ?_
      refine lv_iadd hx hb dX8_findTree_129 ?_
      refine lv_iload_n hx hb dX8_findTree_130 rfl (lv_at hl 1 rfl) ?_
      refine lv_iload hx hb dX8_findTree_131 (lv_at hl 4 rfl) ?_
      refine lv_iconst (v := 1) hx hb dX8_findTree_133 (by decide) ?_
      refine lv_iadd hx hb dX8_findTree_134 ?_
      refine call_S0i (As := [.int x1, .int (x4 + (1 : Int32))]) ⟨hx, hb, hml, hown, hts⟩ hkx hw hA (c_X8_counterOf l D cy x1 (x4 + (1 : Int32)) _ h) (va_cwS 2 hts gX8_findTree_X8_counterOf rfl rfl rfl hd_X8_counterOf ⟨Nat.le_of_ble_eq_true rfl, Nat.le_of_ble_eq_true rfl⟩) rfl hl.1 rfl (Nat.le_of_ble_eq_true rfl) dX8_findTree_135 ⟨Nat.zero_le _, Nat.zero_le _⟩ (fun r_6 H locs h hw => ?_)
      obtain ⟨b_7, h⟩ := h
      refine ms_m_counters hx hb hkx hw b_7 dX8_findTree_138 (fun σ_8 eσ_8 H locs hw => ?_)
      replace h := h σ_8 eσ_8
      refine lv_iinc (v := x4 + (1 : Int32)) (lv' := [(4, .int (x4 + (1 : Int32))), (0, .ref (ad 0)), (1, .int x1), (2, .int x2), (3, .int x3)]) hx hb dX8_findTree_139 hl (k := 4) rfl rfl (by decide) rfl (fun ls hl => ?_)
      refine lv_goto (tgt := 114) hx hb dX8_findTree_142 (by decide) ?_
      exact ih _ _ _ _ _ h _ _ _ hw (lv_sub hl [1, 2, 3, 4, 0] rfl)
def wp_X8_findTree_66 (post : Sg → Prop) (k56 : Int32 → Int32 → Sg → Prop) : Nat → Int32 → Int32 → Int32 → Sg → Prop
  | 0, _, _, _, _ => False
  | n + 1, x1, x2, x3, σ =>
    wp_X8_costWithLevel (wp_X8_leastFrom 24) x2 x1 x3 σ (fun r_1 σ_2 =>
    wp_X8_leastFrom 24 x2 x1 σ_2 (fun r_3 σ_4 =>
    (r_1 = r_3 →
    vp_in x2 20 ∧
    ∀ σ_7 : Sg, σ_7 = va_up σ_4 23 (upd (σ_4 23) x2.toNatClampNeg x3) →
    (¬ x3 = 0 →
    wp_X8_behind x1 x2 x3 σ_7 (fun r_9 σ_10 =>
    ∃ fu, wp_X8_findTree_114 post k56 fu r_9 x2 x3 (0 : Int32) σ_10)) ∧
    (x3 = 0 →
    ∃ fu, wp_X8_findTree_114 post k56 fu x1 x2 x3 (0 : Int32) σ_7)) ∧
    (¬ r_1 = r_3 →
    wp_X8_findTree_66 post k56 n x1 x2 (x3 + (1 : Int32)) σ_4)))
set_option maxHeartbeats 4000000 in
set_option maxRecDepth 100000 in
theorem w_X8_findTree_66 (C0 : Mc p m c meth cX8_findTree 5 s args wsX8_findTree RX8 none D cy A) {post : Sg → Prop} {k56 : Int32 → Int32 → Sg → Prop} (hk56 : ∀ (x1 : Int32) (x2 : Int32) (σ : Sg), k56 x1 x2 σ → G_X8_findTree p l e s m args below meth c D A cy ad post (mdW cy ad σ) 5 [(0, .ref (ad 0)), (1, .int x1), (2, .int x2)] 56 []) : ∀ (n : Nat) (x1 : Int32) (x2 : Int32) (x3 : Int32) (σ : Sg), wp_X8_findTree_66 post k56 n x1 x2 x3 σ → G_X8_findTree p l e s m args below meth c D A cy ad post (mdW cy ad σ) 5 [(0, .ref (ad 0)), (1, .int x1), (2, .int x2), (3, .int x3)] 66 [] := by
  obtain ⟨⟨hx, hb, hml, hown, hts⟩, hr, hlocks, hkx, hA⟩ := id C0
  intro n
  induction n with
  | zero => intro x1 x2 x3 σ h; exact False.elim h
  | succ n ih =>
    intro x1 x2 x3 σ h H locs ls hw hl
    unfold wp_X8_findTree_66 at h
    refine lv_aload_n hx hb dX8_findTree_66 rfl (lv_at hl 0 rfl) ?_
    refine lv_iload_n hx hb dX8_findTree_67 rfl (lv_at hl 2 rfl) ?_
    refine lv_iload_n hx hb dX8_findTree_68 rfl (lv_at hl 1 rfl) ?_
    refine lv_iload_n hx hb dX8_findTree_69 rfl (lv_at hl 3 rfl) ?_
    refine md_Vi (As := [.int x2, .int x1, .int x3]) ⟨hx, hb, hml, hown, hts⟩ hkx hw hA (c_X8_costWithLevel l D cy ad (wp_X8_leastFrom 24) 24 (c_X8_leastFrom l D cy ad 24) σ x2 x1 x3 _ h) (cwV 3 hts gX8_findTree_X8_costWithLevel rfl rfl rfl hd_X8_costWithLevel ⟨by dsimp only; omega, by dsimp only; omega⟩) 0 8 rfl rfl rfl hl.1 rfl (Nat.le_of_ble_eq_true rfl) dX8_findTree_70 ⟨Nat.zero_le _, Nat.zero_le _⟩ (fun r_1 σ_2 H locs h hw => ?_)
    refine lv_aload_n hx hb dX8_findTree_73 rfl (lv_at hl 0 rfl) ?_
    refine lv_iload_n hx hb dX8_findTree_74 rfl (lv_at hl 2 rfl) ?_
    refine lv_iload_n hx hb dX8_findTree_75 rfl (lv_at hl 1 rfl) ?_
    refine md_Vi (As := [.int x2, .int x1]) ⟨hx, hb, hml, hown, hts⟩ hkx hw hA (c_X8_leastFrom l D cy ad 24 x2 x1 σ_2 _ h) (cwV 2 hts gX8_findTree_X8_leastFrom rfl rfl rfl hd_X8_leastFrom ⟨by dsimp only; omega, by dsimp only; omega⟩) 0 8 rfl rfl rfl hl.1 rfl (Nat.le_of_ble_eq_true rfl) dX8_findTree_76 ⟨Nat.zero_le _, Nat.zero_le _⟩ (fun r_3 σ_4 H locs h hw => ?_)
    refine lv_icmp_eq (tgt := 88) hx hb dX8_findTree_79 (by decide) (fun c_5 => ?_) (fun c_5 => ?_)
    · replace h := h.1 c_5
      refine lv_aload_n hx hb dX8_findTree_88 rfl (lv_at hl 0 rfl) ?_
      refine mg_md_level hx hb hts inw_X8_findTree_X8 hown hkx hw (hts _ (List.mem_of_getElem? (i := 6) rfl)) dX8_findTree_89 ?_
      refine lv_iload_n hx hb dX8_findTree_92 rfl (lv_at hl 2 rfl) ?_
      refine lv_iload_n hx hb dX8_findTree_93 rfl (lv_at hl 3 rfl) ?_
      obtain ⟨b_6, h⟩ := h
      refine ms_m_level hx hb hkx hw b_6 dX8_findTree_94 (fun σ_7 eσ_7 H locs hw => ?_)
      replace h := h σ_7 eσ_7
      refine lv_iload_n hx hb dX8_findTree_95 rfl (lv_at hl 3 rfl) ?_
      refine lv_if_ne (tgt := 103) hx hb dX8_findTree_96 (by decide) (fun c_8 => ?_) (fun c_8 => ?_)
      · replace h := h.1 c_8
        refine lv_aload_n hx hb dX8_findTree_103 rfl (lv_at hl 0 rfl) ?_
        refine lv_iload_n hx hb dX8_findTree_104 rfl (lv_at hl 1 rfl) ?_
        refine lv_iload_n hx hb dX8_findTree_105 rfl (lv_at hl 2 rfl) ?_
        refine lv_iload_n hx hb dX8_findTree_106 rfl (lv_at hl 3 rfl) ?_
        refine md_Vi (As := [.int x1, .int x2, .int x3]) ⟨hx, hb, hml, hown, hts⟩ hkx hw hA (c_X8_behind l D cy ad σ_7 x1 x2 x3 _ h) (cwV 3 hts gX8_findTree_X8_behind rfl rfl rfl hd_X8_behind ⟨Nat.le_of_ble_eq_true rfl, Nat.le_of_ble_eq_true rfl⟩) 0 8 rfl rfl rfl hl.1 rfl (Nat.le_of_ble_eq_true rfl) dX8_findTree_107 ⟨Nat.zero_le _, Nat.zero_le _⟩ (fun r_9 σ_10 H locs h hw => ?_)
        refine lv_istore_n (lv' := [(1, .int r_9), (0, .ref (ad 0)), (2, .int x2), (3, .int x3)]) hx hb dX8_findTree_110 rfl hl (by decide) rfl (fun ls hl => ?_)
        refine lv_iconst (v := 0) hx hb dX8_findTree_111 (by decide) ?_
        refine lv_istore (lv' := [(4, .int (0 : Int32)), (1, .int r_9), (0, .ref (ad 0)), (2, .int x2), (3, .int x3)]) hx hb dX8_findTree_112 hl (by decide) rfl (fun ls hl => ?_)
        obtain ⟨n_11, h⟩ := h
        exact w_X8_findTree_114 C0 hk56 n_11 _ _ _ _ _ h _ _ _ hw (lv_sub hl [2, 1, 3, 4, 0] rfl)
      · replace h := h.2 c_8
        refine lv_iload_n hx hb dX8_findTree_99 rfl (lv_at hl 1 rfl) ?_
        refine lv_goto (tgt := 110) hx hb dX8_findTree_100 (by decide) ?_
        refine lv_istore_n (lv' := [(1, .int x1), (0, .ref (ad 0)), (2, .int x2), (3, .int x3)]) hx hb dX8_findTree_110 rfl hl (by decide) rfl (fun ls hl => ?_)
        refine lv_iconst (v := 0) hx hb dX8_findTree_111 (by decide) ?_
        refine lv_istore (lv' := [(4, .int (0 : Int32)), (1, .int x1), (0, .ref (ad 0)), (2, .int x2), (3, .int x3)]) hx hb dX8_findTree_112 hl (by decide) rfl (fun ls hl => ?_)
        obtain ⟨n_12, h⟩ := h
        exact w_X8_findTree_114 C0 hk56 n_12 _ _ _ _ _ h _ _ _ hw (lv_sub hl [2, 1, 3, 4, 0] rfl)
    · replace h := h.2 c_5
      refine lv_iinc (v := x3 + (1 : Int32)) (lv' := [(3, .int (x3 + (1 : Int32))), (0, .ref (ad 0)), (1, .int x1), (2, .int x2)]) hx hb dX8_findTree_82 hl (k := 3) rfl rfl (by decide) rfl (fun ls hl => ?_)
      refine lv_goto (tgt := 66) hx hb dX8_findTree_85 (by decide) ?_
      exact ih _ _ _ _ h _ _ _ hw (lv_sub hl [1, 2, 3, 0] rfl)
def wp_X8_findTree_56 (post : Sg → Prop) : Nat → Int32 → Int32 → Sg → Prop
  | 0, _, _, _ => False
  | n + 1, x1, x2, σ =>
    ((σ 1 0) ≤ x2 →
    post σ) ∧
    (¬ (σ 1 0) ≤ x2 →
    ∃ fu, wp_X8_findTree_66 post (fun zx1 zx2 zσ => wp_X8_findTree_56 post n zx1 zx2 zσ) fu x1 x2 (0 : Int32) σ)
set_option maxHeartbeats 4000000 in
set_option maxRecDepth 100000 in
theorem w_X8_findTree_56 (C0 : Mc p m c meth cX8_findTree 5 s args wsX8_findTree RX8 none D cy A) {post : Sg → Prop} : ∀ (n : Nat) (x1 : Int32) (x2 : Int32) (σ : Sg), wp_X8_findTree_56 post n x1 x2 σ → G_X8_findTree p l e s m args below meth c D A cy ad post (mdW cy ad σ) 5 [(0, .ref (ad 0)), (1, .int x1), (2, .int x2)] 56 [] := by
  obtain ⟨⟨hx, hb, hml, hown, hts⟩, hr, hlocks, hkx, hA⟩ := id C0
  intro n
  induction n with
  | zero => intro x1 x2 σ h; exact False.elim h
  | succ n ih =>
    intro x1 x2 σ h H locs ls hw hl
    unfold wp_X8_findTree_56 at h
    refine lv_iload_n hx hb dX8_findTree_56 rfl (lv_at hl 2 rfl) ?_
    refine lv_aload_n hx hb dX8_findTree_57 rfl (lv_at hl 0 rfl) ?_
    refine mg_md_lines hx hb hts inw_X8_findTree_X8 hown hkx hw (hts _ (List.mem_of_getElem? (i := 1) rfl)) dX8_findTree_58 ?_
    refine lv_icmp_ge (tgt := 178) hx hb dX8_findTree_61 (by decide) (fun c_1 => ?_) (fun c_1 => ?_)
    · replace h := h.1 c_1
      exact end_v (w1 := (mdU cy ad)) (u := σ) C0 hw h dX8_findTree_178
    · replace h := h.2 c_1
      refine lv_iconst (v := 0) hx hb dX8_findTree_64 (by decide) ?_
      refine lv_istore_n (lv' := [(3, .int (0 : Int32)), (0, .ref (ad 0)), (1, .int x1), (2, .int x2)]) hx hb dX8_findTree_65 rfl hl (by decide) rfl (fun ls hl => ?_)
      obtain ⟨n_2, h⟩ := h
      exact w_X8_findTree_66 C0 ih n_2 _ _ _ _ h _ _ _ hw (lv_sub hl [1, 2, 3, 0] rfl)
def wp_X8_findTree_2 (post : Sg → Prop) : Nat → Int32 → Sg → Prop
  | 0, _, _ => False
  | n + 1, x1, σ =>
    ((σ 1 0) ≤ x1 →
    ∀ σ_2 : Sg, σ_2 = va_up σ 7 (fun _ => (σ 7 0) + (1 : Int32)) →
    wp_X8_leastFrom 24 (0 : Int32) (0 : Int32) σ_2 (fun r_3 σ_4 =>
    ∀ σ_5 : Sg, σ_5 = va_up σ_4 5 (fun _ => r_3) →
    ∀ σ_6 : Sg, σ_6 = va_up σ_5 6 (fun _ => (0 : Int32)) →
    ∃ fu, wp_X8_findTree_56 post fu (0 : Int32) (0 : Int32) σ_6)) ∧
    (¬ (σ 1 0) ≤ x1 →
    wp_X8_isRunning x1 σ (fun r_8 σ_9 =>
    vp_in x1 20 ∧
    bz r_8 ∧
    ∀ σ_12 : Sg, σ_12 = va_up σ_9 33 (upd (σ_9 33) x1.toNatClampNeg r_8) →
    wp_X8_findTree_2 post n (x1 + (1 : Int32)) σ_12))
set_option maxHeartbeats 4000000 in
set_option maxRecDepth 100000 in
theorem w_X8_findTree_2 (C0 : Mc p m c meth cX8_findTree 5 s args wsX8_findTree RX8 none D cy A) {post : Sg → Prop} : ∀ (n : Nat) (x1 : Int32) (σ : Sg), wp_X8_findTree_2 post n x1 σ → G_X8_findTree p l e s m args below meth c D A cy ad post (mdW cy ad σ) 5 [(0, .ref (ad 0)), (1, .int x1)] 2 [] := by
  obtain ⟨⟨hx, hb, hml, hown, hts⟩, hr, hlocks, hkx, hA⟩ := id C0
  intro n
  induction n with
  | zero => intro x1 σ h; exact False.elim h
  | succ n ih =>
    intro x1 σ h H locs ls hw hl
    unfold wp_X8_findTree_2 at h
    refine lv_iload_n hx hb dX8_findTree_2 rfl (lv_at hl 1 rfl) ?_
    refine lv_aload_n hx hb dX8_findTree_3 rfl (lv_at hl 0 rfl) ?_
    refine mg_md_lines hx hb hts inw_X8_findTree_X8 hown hkx hw (hts _ (List.mem_of_getElem? (i := 1) rfl)) dX8_findTree_4 ?_
    refine lv_icmp_ge (tgt := 27) hx hb dX8_findTree_7 (by decide) (fun c_1 => ?_) (fun c_1 => ?_)
    · replace h := h.1 c_1
      refine lv_aload_n hx hb dX8_findTree_27 rfl (lv_at hl 0 rfl) ?_
      refine lv_dup hx hb dX8_findTree_28 rfl ?_
      refine mg_md_turn hx hb hts inw_X8_findTree_X8 hown hkx hw (hts _ (List.mem_of_getElem? (i := 3) rfl)) dX8_findTree_29 ?_
      refine lv_iconst (v := 1) hx hb dX8_findTree_32 (by decide) ?_
      refine lv_iadd hx hb dX8_findTree_33 ?_
      refine mp_md_turn hx hb hts inw_X8_findTree_X8 hown hkx hw (hts _ (List.mem_of_getElem? (i := 3) rfl)) dX8_findTree_34 (fun σ_2 eσ_2 H locs hw => ?_)
      replace h := h σ_2 eσ_2
      refine lv_aload_n hx hb dX8_findTree_37 rfl (lv_at hl 0 rfl) ?_
      refine lv_aload_n hx hb dX8_findTree_38 rfl (lv_at hl 0 rfl) ?_
      refine lv_iconst (v := 0) hx hb dX8_findTree_39 (by decide) ?_
      refine lv_iconst (v := 0) hx hb dX8_findTree_40 (by decide) ?_
      refine md_Vi (As := [.int (0 : Int32), .int (0 : Int32)]) ⟨hx, hb, hml, hown, hts⟩ hkx hw hA (c_X8_leastFrom l D cy ad 24 (0 : Int32) (0 : Int32) σ_2 _ h) (cwV 2 hts gX8_findTree_X8_leastFrom rfl rfl rfl hd_X8_leastFrom ⟨by dsimp only; omega, by dsimp only; omega⟩) 0 8 rfl rfl rfl hl.1 rfl (Nat.le_of_ble_eq_true rfl) dX8_findTree_41 ⟨Nat.zero_le _, Nat.zero_le _⟩ (fun r_3 σ_4 H locs h hw => ?_)
      refine mp_md_treeCost hx hb hts inw_X8_findTree_X8 hown hkx hw (hts _ (List.mem_of_getElem? (i := 4) rfl)) dX8_findTree_44 (fun σ_5 eσ_5 H locs hw => ?_)
      replace h := h σ_5 eσ_5
      refine lv_aload_n hx hb dX8_findTree_47 rfl (lv_at hl 0 rfl) ?_
      refine lv_iconst (v := 0) hx hb dX8_findTree_48 (by decide) ?_
      refine mp_md_headMany hx hb hts inw_X8_findTree_X8 hown hkx hw (hts _ (List.mem_of_getElem? (i := 5) rfl)) dX8_findTree_49 (fun σ_6 eσ_6 H locs hw => ?_)
      replace h := h σ_6 eσ_6
      refine lv_iconst (v := 0) hx hb dX8_findTree_52 (by decide) ?_
      refine lv_istore_n (lv' := [(1, .int (0 : Int32)), (0, .ref (ad 0))]) hx hb dX8_findTree_53 rfl hl (by decide) rfl (fun ls hl => ?_)
      refine lv_iconst (v := 0) hx hb dX8_findTree_54 (by decide) ?_
      refine lv_istore_n (lv' := [(2, .int (0 : Int32)), (1, .int (0 : Int32)), (0, .ref (ad 0))]) hx hb dX8_findTree_55 rfl hl (by decide) rfl (fun ls hl => ?_)
      obtain ⟨n_7, h⟩ := h
      exact w_X8_findTree_56 C0 n_7 _ _ _ h _ _ _ hw (lv_sub hl [2, 1, 0] rfl)
    · replace h := h.2 c_1
      refine lv_aload_n hx hb dX8_findTree_10 rfl (lv_at hl 0 rfl) ?_
      refine mg_md_isRun hx hb hts inw_X8_findTree_X8 hown hkx hw (hts _ (List.mem_of_getElem? (i := 2) rfl)) dX8_findTree_11 ?_
      refine lv_iload_n hx hb dX8_findTree_14 rfl (lv_at hl 1 rfl) ?_
      refine lv_aload_n hx hb dX8_findTree_15 rfl (lv_at hl 0 rfl) ?_
      refine lv_iload_n hx hb dX8_findTree_16 rfl (lv_at hl 1 rfl) ?_
      refine md_Vi (As := [.int x1]) ⟨hx, hb, hml, hown, hts⟩ hkx hw hA (c_X8_isRunning l D cy ad σ x1 _ h) (cwV 1 hts gX8_findTree_X8_isRunning rfl rfl rfl hd_X8_isRunning ⟨Nat.le_of_ble_eq_true rfl, Nat.le_of_ble_eq_true rfl⟩) 0 8 rfl rfl rfl hl.1 rfl (Nat.le_of_ble_eq_true rfl) dX8_findTree_17 ⟨Nat.zero_le _, Nat.zero_le _⟩ (fun r_8 σ_9 H locs h hw => ?_)
      obtain ⟨b_10, h⟩ := h
      obtain ⟨z_11, h⟩ := h
      refine ms_m_isRun hx hb hkx hw b_10 z_11 dX8_findTree_20 (fun σ_12 eσ_12 H locs hw => ?_)
      replace h := h σ_12 eσ_12
      refine lv_iinc (v := x1 + (1 : Int32)) (lv' := [(1, .int (x1 + (1 : Int32))), (0, .ref (ad 0))]) hx hb dX8_findTree_21 hl (k := 1) rfl rfl (by decide) rfl (fun ls hl => ?_)
      refine lv_goto (tgt := 2) hx hb dX8_findTree_24 (by decide) ?_
      exact ih _ _ h _ _ _ hw (lv_sub hl [1, 0] rfl)
def wp_X8_findTree (σ : Sg) (post : Sg → Prop) : Prop :=
    ∃ fu, wp_X8_findTree_2 post fu (0 : Int32) σ
set_option maxHeartbeats 4000000 in
set_option maxRecDepth 100000 in
theorem c_X8_findTree (l : Launch) (D : va_G) (cy : Nat → ClassId) (ad : Nat → Nat) (σ : Sg) (post : Sg → Prop) (h : wp_X8_findTree σ post) : Ct l yX8_findTree wsX8_findTree rm_X8_findTree D cy [.ref (ad 0)] (mdW cy ad σ) 0 0 (Rv D (mdU cy ad) (fun u => post u)) := by
  refine Ct.of (cc := cX8_findTree) (maxL := 5) (rt := none) (by decide) rfl (Nat.le_of_ble_eq_true rfl) ?_
  intro p e s m below meth c A C0 _ H locs ls hw hl
  obtain ⟨⟨hx, hb, hml, hown, hts⟩, hr, hlocks, hkx, hA⟩ := id C0
  have hl : lv_has ls 5 [(0, .ref (ad 0))] := hl
  unfold wp_X8_findTree at h
  refine lv_iconst (v := 0) hx hb dX8_findTree_0 (by decide) ?_
  refine lv_istore_n (lv' := [(1, .int (0 : Int32)), (0, .ref (ad 0))]) hx hb dX8_findTree_1 rfl hl (by decide) rfl (fun ls hl => ?_)
  obtain ⟨n_1, h⟩ := h
  exact w_X8_findTree_2 C0 n_1 _ _ h _ _ _ hw (lv_sub hl [1, 0] rfl)
end
