theorem hd_X6_findCapsBehind : yX6_findCapsBehind.cls = RX6 ∧ yX6_findCapsBehind.cls ≠ "java/lang/invoke/MethodHandle" ∧ yX6_findCapsBehind.cls ≠ "java/lang/invoke/VarHandle" ∧ (parseMethodDescriptor yX6_findCapsBehind.desc).map (fun d => d.parameters.length) = some 1 := by decide +kernel
section
variable {p : Program} {l : Launch} {e : Env} {s : State} {m : MethodId} {args : Array Value} {below : List Frame} {meth : Method} {c : Code} {D : va_G} {cy : Nat → ClassId} {A : Nat → Prop} {ad : Nat → Nat}
abbrev rm_X6_findCapsBehind : Room := { frames := 1, cells := 0, slots := 0, locals := 40 }
theorem inw_X6_findCapsBehind_X1 : ∀ w ∈ u_ws RX1 TX1 9, w ∈ wsX6_findCapsBehind := fun _ h => List.mem_cons_of_mem _ (List.mem_append_right _ h)
theorem inw_X6_findCapsBehind_X6 : ∀ w ∈ u_ws RX6 TX6 15, w ∈ wsX6_findCapsBehind := fun _ h => List.mem_cons_of_mem _ (List.mem_append_left _ (List.mem_append_right _ h))
abbrev G_X6_findCapsBehind (p : Program) (l : Launch) (e : Env) (s : State) (m : MethodId) (args : Array Value) (below : List Frame) (meth : Method) (c : Code) (D : va_G) (A : Nat → Prop) (cy : Nat → ClassId) (ad : Nat → Nat) (post : Sg → Tg → Prop) : va_W → Nat → List (Nat × Value) → Nat → List Value → Prop := Gw p l e rm_X6_findCapsBehind s m args below meth c D A (MQ below ((Rv D (cfU cy ad) (fun u => post u.2.1 u.2.2)) A) args s 0 0 A)
def wp_X6_findCapsBehind_14 (post : Sg → Tg → Prop) (k2 : Int32 → Int32 → Sg → Tg → Prop) : Nat → Int32 → Int32 → Int32 → Int32 → Sg → Tg → Prop
  | 0, _, _, _, _, _, _ => False
  | n + 1, x1, x2, x3, x4, σ, τ =>
    ((σ 5 0) ≤ x4 →
    vp_in x2 4 ∧
    ∀ σ_3 : Sg, σ_3 = va_up σ 30 (upd (σ 30) x2.toNatClampNeg (x3 + (1 : Int32))) →
    k2 x1 (x2 + (1 : Int32)) σ_3 τ) ∧
    (¬ (σ 5 0) ≤ x4 →
    wp_X1_partAt x4 x2 σ τ (fun r_4 σ_5 τ_6 =>
    ∀ y_7 : Int32, y_7 = (if x3 < r_4 then r_4 else x3) →
    wp_X6_findCapsBehind_14 post k2 n x1 x2 y_7 (x4 + (1 : Int32)) σ_5 τ_6))
set_option maxHeartbeats 4000000 in
set_option maxRecDepth 100000 in
theorem w_X6_findCapsBehind_14 (C0 : Mc p m c meth cX6_findCapsBehind 5 s args wsX6_findCapsBehind RX6 none D cy A) {post : Sg → Tg → Prop} {k2 : Int32 → Int32 → Sg → Tg → Prop} (hk2 : ∀ (x1 : Int32) (x2 : Int32) (σ : Sg) (τ : Tg), k2 x1 x2 σ τ → ∀ κ : Nat → Nat, G_X6_findCapsBehind p l e s m args below meth c D A cy ad post (cfW cy ad κ σ τ) 5 [(0, .ref (ad 4)), (1, .int x1), (2, .int x2)] 2 []) : ∀ (n : Nat) (x1 : Int32) (x2 : Int32) (x3 : Int32) (x4 : Int32) (σ : Sg) (τ : Tg), wp_X6_findCapsBehind_14 post k2 n x1 x2 x3 x4 σ τ → ∀ κ : Nat → Nat, G_X6_findCapsBehind p l e s m args below meth c D A cy ad post (cfW cy ad κ σ τ) 5 [(0, .ref (ad 4)), (1, .int x1), (2, .int x2), (3, .int x3), (4, .int x4)] 14 [] := by
  obtain ⟨⟨hx, hb, hml, hown, hts⟩, hr, hlocks, hkx, hA⟩ := id C0
  intro n
  induction n with
  | zero => intro x1 x2 x3 x4 σ τ h; exact False.elim h
  | succ n ih =>
    intro x1 x2 x3 x4 σ τ h κ H locs ls hw hl
    unfold wp_X6_findCapsBehind_14 at h
    refine lv_iload hx hb dX6_findCapsBehind_14 (lv_at hl 4 rfl) ?_
    refine lv_aload_n hx hb dX6_findCapsBehind_16 rfl (lv_at hl 0 rfl) ?_
    refine cg_tr_lines hx hb hts inw_X6_findCapsBehind_X6 hown hkx hw (hts _ (List.mem_of_getElem? (i := 1) rfl)) dX6_findCapsBehind_17 ?_
    refine cg_ln_count hx hb hts inw_X6_findCapsBehind_X1 hown hkx hw (hts _ (List.mem_of_getElem? (i := 2) rfl)) dX6_findCapsBehind_20 ?_
    refine lv_icmp_ge (tgt := 47) hx hb dX6_findCapsBehind_23 (by decide) (fun c_1 => ?_) (fun c_1 => ?_)
    · replace h := h.1 c_1
      refine lv_aload_n hx hb dX6_findCapsBehind_47 rfl (lv_at hl 0 rfl) ?_
      refine cg_tr_caps hx hb hts inw_X6_findCapsBehind_X6 hown hkx hw (hts _ (List.mem_of_getElem? (i := 7) rfl)) dX6_findCapsBehind_48 ?_
      refine lv_iload_n hx hb dX6_findCapsBehind_51 rfl (lv_at hl 2 rfl) ?_
      refine lv_iload_n hx hb dX6_findCapsBehind_52 rfl (lv_at hl 3 rfl) ?_
      refine lv_iconst (v := 1) hx hb dX6_findCapsBehind_53 (by decide) ?_
      refine lv_iadd hx hb dX6_findCapsBehind_54 ?_
      obtain ⟨b_2, h⟩ := h
      refine cs_caps hx hb hkx hw b_2 dX6_findCapsBehind_55 (fun σ_3 eσ_3 H locs hw => ?_)
      replace h := h σ_3 eσ_3
      refine lv_iinc (v := x2 + (1 : Int32)) (lv' := [(2, .int (x2 + (1 : Int32))), (0, .ref (ad 4)), (1, .int x1), (3, .int x3), (4, .int x4)]) hx hb dX6_findCapsBehind_56 hl (k := 2) rfl rfl (by decide) rfl (fun ls hl => ?_)
      refine lv_goto (tgt := 2) hx hb dX6_findCapsBehind_59 (by decide) ?_
      exact hk2 _ _ _ _ h _ _ _ _ hw (lv_sub hl [1, 2, 0] rfl)
    · replace h := h.2 c_1
      refine lv_iload_n hx hb dX6_findCapsBehind_26 rfl (lv_at hl 3 rfl) ?_
      refine lv_aload_n hx hb dX6_findCapsBehind_27 rfl (lv_at hl 0 rfl) ?_
      refine cg_tr_lines hx hb hts inw_X6_findCapsBehind_X6 hown hkx hw (hts _ (List.mem_of_getElem? (i := 1) rfl)) dX6_findCapsBehind_28 ?_
      refine lv_iload hx hb dX6_findCapsBehind_31 (lv_at hl 4 rfl) ?_
      refine lv_iload_n hx hb dX6_findCapsBehind_33 rfl (lv_at hl 2 rfl) ?_
      refine cf_Vi (As := [.int x4, .int x2]) ⟨hx, hb, hml, hown, hts⟩ hkx hw hA (c_X1_partAt l D cy ad κ σ τ x4 x2 _ h) (cwV 2 hts gX6_findCapsBehind_X1_partAt rfl rfl rfl hd_X1_partAt ⟨Nat.le_of_ble_eq_true rfl, Nat.le_of_ble_eq_true rfl⟩) 3 1 rfl rfl rfl hl.1 rfl (Nat.le_of_ble_eq_true rfl) dX6_findCapsBehind_34 ⟨Nat.zero_le _, Nat.zero_le _⟩ (fun r_4 κ σ_5 τ_6 H locs h hw => ?_)
      refine va_mmax hx hb (hml.trans hl.1.symm) hown (hts _ (List.mem_of_getElem? (i := 3) rfl)) (hts _ (List.mem_of_getElem? (i := 4) rfl)) (hts _ (List.mem_of_getElem? (i := 5) rfl)) (hts _ (List.mem_of_getElem? (i := 6) rfl)) (Nat.le_of_ble_eq_true rfl) (Nat.le_of_ble_eq_true rfl) (Nat.zero_le _) (Nat.zero_le _) dX6_findCapsBehind_37 ?_
      refine lv_topi (fun y_7 ey_7 => ?_)
      replace h := h y_7 ey_7
      refine lv_istore_n (lv' := [(3, .int y_7), (0, .ref (ad 4)), (1, .int x1), (2, .int x2), (4, .int x4)]) hx hb dX6_findCapsBehind_40 rfl hl (by decide) rfl (fun ls hl => ?_)
      refine lv_iinc (v := x4 + (1 : Int32)) (lv' := [(4, .int (x4 + (1 : Int32))), (3, .int y_7), (0, .ref (ad 4)), (1, .int x1), (2, .int x2)]) hx hb dX6_findCapsBehind_41 hl (k := 4) rfl rfl (by decide) rfl (fun ls hl => ?_)
      refine lv_goto (tgt := 14) hx hb dX6_findCapsBehind_44 (by decide) ?_
      exact ih _ _ _ _ _ _ h _ _ _ _ hw (lv_sub hl [2, 3, 4, 1, 0] rfl)
def wp_X6_findCapsBehind_2 (post : Sg → Tg → Prop) : Nat → Int32 → Int32 → Sg → Tg → Prop
  | 0, _, _, _, _ => False
  | n + 1, x1, x2, σ, τ =>
    ((3 : Int32) < x2 →
    post σ τ) ∧
    (¬ (3 : Int32) < x2 →
    ∀ y_2 : Int32, y_2 = (x1 + (1 : Int32)) →
    ∃ fu, wp_X6_findCapsBehind_14 post (fun zx1 zx2 zσ zτ => wp_X6_findCapsBehind_2 post n zx1 zx2 zσ zτ) fu x1 x2 (0 : Int32) y_2 σ τ)
set_option maxHeartbeats 4000000 in
set_option maxRecDepth 100000 in
theorem w_X6_findCapsBehind_2 (C0 : Mc p m c meth cX6_findCapsBehind 5 s args wsX6_findCapsBehind RX6 none D cy A) {post : Sg → Tg → Prop} : ∀ (n : Nat) (x1 : Int32) (x2 : Int32) (σ : Sg) (τ : Tg), wp_X6_findCapsBehind_2 post n x1 x2 σ τ → ∀ κ : Nat → Nat, G_X6_findCapsBehind p l e s m args below meth c D A cy ad post (cfW cy ad κ σ τ) 5 [(0, .ref (ad 4)), (1, .int x1), (2, .int x2)] 2 [] := by
  obtain ⟨⟨hx, hb, hml, hown, hts⟩, hr, hlocks, hkx, hA⟩ := id C0
  intro n
  induction n with
  | zero => intro x1 x2 σ τ h; exact False.elim h
  | succ n ih =>
    intro x1 x2 σ τ h κ H locs ls hw hl
    unfold wp_X6_findCapsBehind_2 at h
    refine lv_iload_n hx hb dX6_findCapsBehind_2 rfl (lv_at hl 2 rfl) ?_
    refine lv_iconst (v := 3) hx hb dX6_findCapsBehind_3 (by decide) ?_
    refine lv_icmp_gt (tgt := 62) hx hb dX6_findCapsBehind_4 (by decide) (fun c_1 => ?_) (fun c_1 => ?_)
    · replace h := h.1 c_1
      exact end_v (w1 := (cfU cy ad)) (u := (κ, σ, τ)) C0 hw h dX6_findCapsBehind_62
    · replace h := h.2 c_1
      refine lv_iconst (v := 0) hx hb dX6_findCapsBehind_7 (by decide) ?_
      refine lv_istore_n (lv' := [(3, .int (0 : Int32)), (0, .ref (ad 4)), (1, .int x1), (2, .int x2)]) hx hb dX6_findCapsBehind_8 rfl hl (by decide) rfl (fun ls hl => ?_)
      refine lv_iload_n hx hb dX6_findCapsBehind_9 rfl (lv_at hl 2 rfl) ?_
      refine lv_iconst (v := 1) hx hb dX6_findCapsBehind_10 (by decide) ?_
      refine lv_iadd hx hb dX6_findCapsBehind_11 ?_
      refine lv_topi (fun y_2 ey_2 => ?_)
      replace h := h y_2 ey_2
      refine lv_istore (lv' := [(4, .int y_2), (3, .int (0 : Int32)), (0, .ref (ad 4)), (1, .int x1), (2, .int x2)]) hx hb dX6_findCapsBehind_12 hl (by decide) rfl (fun ls hl => ?_)
      obtain ⟨n_3, h⟩ := h
      exact w_X6_findCapsBehind_14 C0 ih n_3 _ _ _ _ _ _ h _ _ _ _ hw (lv_sub hl [2, 3, 4, 1, 0] rfl)
def wp_X6_findCapsBehind (x1 : Int32) (σ : Sg) (τ : Tg) (post : Sg → Tg → Prop) : Prop :=
    ∃ fu, wp_X6_findCapsBehind_2 post fu x1 (1 : Int32) σ τ
set_option maxHeartbeats 4000000 in
set_option maxRecDepth 100000 in
theorem c_X6_findCapsBehind (l : Launch) (D : va_G) (cy : Nat → ClassId) (ad κ : Nat → Nat) (σ : Sg) (τ : Tg) (x1 : Int32) (post : Sg → Tg → Prop) (h : wp_X6_findCapsBehind x1 σ τ post) : Ct l yX6_findCapsBehind wsX6_findCapsBehind rm_X6_findCapsBehind D cy [.ref (ad 4), .int x1] (cfW cy ad κ σ τ) 0 0 (Rv D (cfU cy ad) (fun u => post u.2.1 u.2.2)) := by
  refine Ct.of (cc := cX6_findCapsBehind) (maxL := 5) (rt := none) (by decide) rfl (Nat.le_of_ble_eq_true rfl) ?_
  intro p e s m below meth c A C0 _ H locs ls hw hl
  obtain ⟨⟨hx, hb, hml, hown, hts⟩, hr, hlocks, hkx, hA⟩ := id C0
  have hl : lv_has ls 5 [(0, .ref (ad 4)), (1, .int x1)] := hl
  unfold wp_X6_findCapsBehind at h
  refine lv_iconst (v := 1) hx hb dX6_findCapsBehind_0 (by decide) ?_
  refine lv_istore_n (lv' := [(2, .int (1 : Int32)), (0, .ref (ad 4)), (1, .int x1)]) hx hb dX6_findCapsBehind_1 rfl hl (by decide) rfl (fun ls hl => ?_)
  obtain ⟨n_1, h⟩ := h
  exact w_X6_findCapsBehind_2 C0 n_1 _ _ _ _ h _ _ _ _ hw (lv_sub hl [1, 2, 0] rfl)
end
theorem hd_X6_textCost : yX6_textCost.cls = RX6 ∧ yX6_textCost.cls ≠ "java/lang/invoke/MethodHandle" ∧ yX6_textCost.cls ≠ "java/lang/invoke/VarHandle" ∧ (parseMethodDescriptor yX6_textCost.desc).map (fun d => d.parameters.length) = some 1 := by decide +kernel
section
variable {p : Program} {l : Launch} {e : Env} {s : State} {m : MethodId} {args : Array Value} {below : List Frame} {meth : Method} {c : Code} {D : va_G} {cy : Nat → ClassId} {A : Nat → Prop} {ad : Nat → Nat}
abbrev rm_X6_textCost : Room := { frames := 1, cells := 0, slots := 0, locals := 21 }
theorem inw_X6_textCost_X4 : ∀ w ∈ u_ws RX4 TX4 3, w ∈ wsX6_textCost := fun _ h => List.mem_cons_of_mem _ (List.mem_append_left _ (List.mem_append_right _ h))
theorem inw_X6_textCost_X6 : ∀ w ∈ u_ws RX6 TX6 15, w ∈ wsX6_textCost := fun _ h => List.mem_cons_of_mem _ (List.mem_append_left _ (List.mem_append_left _ (List.mem_append_right _ h)))
def wp_X6_textCost (x1 : Int32) (σ : Sg) (τ : Tg) (post : Int32 → Sg → Tg → Prop) : Prop :=
    vp_in x1 20 ∧
    ((σ 27 x1.toNatClampNeg) = 0 →
    wp_X1_look x1 σ τ (fun r_3 σ_4 τ_5 =>
    post (r_3 * (σ_4 16 (0 : Int32).toNatClampNeg)) σ_4 τ_5)) ∧
    (¬ (σ 27 x1.toNatClampNeg) = 0 →
    post (0 : Int32) σ τ)
set_option maxHeartbeats 4000000 in
set_option maxRecDepth 100000 in
theorem c_X6_textCost (l : Launch) (D : va_G) (cy : Nat → ClassId) (ad κ : Nat → Nat) (σ : Sg) (τ : Tg) (x1 : Int32) (post : Int32 → Sg → Tg → Prop) (h : wp_X6_textCost x1 σ τ post) : Ct l yX6_textCost wsX6_textCost rm_X6_textCost D cy [.ref (ad 4), .int x1] (cfW cy ad κ σ τ) 0 0 (Ri D (cfU cy ad) (fun r u => post r u.2.1 u.2.2)) := by
  refine Ct.of (cc := cX6_textCost) (maxL := 2) (rt := (some .int)) (by decide) rfl (Nat.le_of_ble_eq_true rfl) ?_
  intro p e s m below meth c A C0 _ H locs ls hw hl
  obtain ⟨⟨hx, hb, hml, hown, hts⟩, hr, hlocks, hkx, hA⟩ := id C0
  have hl : lv_has ls 2 [(0, .ref (ad 4)), (1, .int x1)] := hl
  unfold wp_X6_textCost at h
  refine lv_aload_n hx hb dX6_textCost_0 rfl (lv_at hl 0 rfl) ?_
  refine cg_tr_running hx hb hts inw_X6_textCost_X6 hown hkx hw (hts _ (List.mem_of_getElem? (i := 1) rfl)) dX6_textCost_1 ?_
  refine lv_iload_n hx hb dX6_textCost_4 rfl (lv_at hl 1 rfl) ?_
  obtain ⟨b_1, h⟩ := h
  refine ca_running hx hb hkx hw b_1 dX6_textCost_5 ?_
  refine lv_if_eq (tgt := 13) hx hb dX6_textCost_6 (by decide) (fun c_2 => ?_) (fun c_2 => ?_)
  · replace h := h.1 c_2
    refine lv_aload_n hx hb dX6_textCost_13 rfl (lv_at hl 0 rfl) ?_
    refine cg_tr_lines hx hb hts inw_X6_textCost_X6 hown hkx hw (hts _ (List.mem_of_getElem? (i := 2) rfl)) dX6_textCost_14 ?_
    refine lv_iload_n hx hb dX6_textCost_17 rfl (lv_at hl 1 rfl) ?_
    refine cf_Vi (As := [.int x1]) ⟨hx, hb, hml, hown, hts⟩ hkx hw hA (c_X1_look l D cy ad κ σ τ x1 _ h) (cwV 1 hts gX6_textCost_X1_look rfl rfl rfl hd_X1_look ⟨Nat.le_of_ble_eq_true rfl, Nat.le_of_ble_eq_true rfl⟩) 3 1 rfl rfl rfl hl.1 rfl (Nat.le_of_ble_eq_true rfl) dX6_textCost_18 ⟨Nat.zero_le _, Nat.zero_le _⟩ (fun r_3 κ σ_4 τ_5 H locs h hw => ?_)
    refine lv_aload_n hx hb dX6_textCost_21 rfl (lv_at hl 0 rfl) ?_
    refine cg_tr_settings hx hb hts inw_X6_textCost_X6 hown hkx hw (hts _ (List.mem_of_getElem? (i := 3) rfl)) dX6_textCost_22 ?_
    refine cg_st_prices hx hb hts inw_X6_textCost_X4 hown hkx hw (hts _ (List.mem_of_getElem? (i := 4) rfl)) dX6_textCost_25 ?_
    refine lv_iconst (v := 0) hx hb dX6_textCost_28 (by decide) ?_
    refine ca_prices hx hb hkx hw (by unfold vp_in; decide) dX6_textCost_29 ?_
    refine lv_imul hx hb dX6_textCost_30 ?_
    exact end_i (w1 := (cfU cy ad)) (u := (κ, σ_4, τ_5)) C0 hw h dX6_textCost_31
  · replace h := h.2 c_2
    refine lv_iconst (v := 0) hx hb dX6_textCost_9 (by decide) ?_
    refine lv_goto (tgt := 31) hx hb dX6_textCost_10 (by decide) ?_
    exact end_i (w1 := (cfU cy ad)) (u := (κ, σ, τ)) C0 hw h dX6_textCost_31
end
theorem hd_X6_headCost : yX6_headCost.cls = RX6 ∧ yX6_headCost.cls ≠ "java/lang/invoke/MethodHandle" ∧ yX6_headCost.cls ≠ "java/lang/invoke/VarHandle" ∧ (parseMethodDescriptor yX6_headCost.desc).map (fun d => d.parameters.length) = some 2 := by decide +kernel
section
variable {p : Program} {l : Launch} {e : Env} {s : State} {m : MethodId} {args : Array Value} {below : List Frame} {meth : Method} {c : Code} {D : va_G} {cy : Nat → ClassId} {A : Nat → Prop} {ad : Nat → Nat}
abbrev rm_X6_headCost : Room := { frames := 1, cells := 0, slots := 0, locals := 40 }
theorem inw_X6_headCost_X0 : ∀ w ∈ u_ws RX0 TX0 2, w ∈ wsX6_headCost := fun _ h => List.mem_cons_of_mem _ (List.mem_append_right _ h)
theorem inw_X6_headCost_X1 : ∀ w ∈ u_ws RX1 TX1 9, w ∈ wsX6_headCost := fun _ h => List.mem_cons_of_mem _ (List.mem_append_left _ (List.mem_append_right _ h))
theorem inw_X6_headCost_X4 : ∀ w ∈ u_ws RX4 TX4 3, w ∈ wsX6_headCost := fun _ h => List.mem_cons_of_mem _ (List.mem_append_left _ (List.mem_append_left _ (List.mem_append_right _ h)))
theorem inw_X6_headCost_X6 : ∀ w ∈ u_ws RX6 TX6 15, w ∈ wsX6_headCost := fun _ h => List.mem_cons_of_mem _ (List.mem_append_left _ (List.mem_append_left _ (List.mem_append_left _ (List.mem_append_right _ h))))
abbrev G_X6_headCost (p : Program) (l : Launch) (e : Env) (s : State) (m : MethodId) (args : Array Value) (below : List Frame) (meth : Method) (c : Code) (D : va_G) (A : Nat → Prop) (cy : Nat → ClassId) (ad : Nat → Nat) (post : Int32 → Sg → Tg → Prop) : va_W → Nat → List (Nat × Value) → Nat → List Value → Prop := Gw p l e rm_X6_headCost s m args below meth c D A (MQ below ((Ri D (cfU cy ad) (fun r u => post r u.2.1 u.2.2)) A) args s 0 0 A)
def wp_X6_headCost_88 (post : Int32 → Sg → Tg → Prop) (x4 : Int32) (s0 : Int32) (σ : Sg) (τ : Tg) : Prop :=
    (s0 = 0 →
    post (x4 + (σ 16 (2 : Int32).toNatClampNeg)) σ τ) ∧
    (¬ s0 = 0 →
    post x4 σ τ)
set_option maxHeartbeats 4000000 in
set_option maxRecDepth 100000 in
theorem w_X6_headCost_88 (C0 : Mc p m c meth cX6_headCost 6 s args wsX6_headCost RX6 (some .int) D cy A) {post : Int32 → Sg → Tg → Prop} : ∀ (x4 : Int32) (s0 : Int32) (σ : Sg) (τ : Tg), wp_X6_headCost_88 post x4 s0 σ τ → ∀ κ : Nat → Nat, G_X6_headCost p l e s m args below meth c D A cy ad post (cfW cy ad κ σ τ) 6 [(0, .ref (ad 4)), (4, .int x4)] 88 [.int s0] := by
  obtain ⟨⟨hx, hb, hml, hown, hts⟩, hr, hlocks, hkx, hA⟩ := id C0
  intro x4 s0 σ τ h κ H locs ls hw hl
  unfold wp_X6_headCost_88 at h
  refine lv_istore (lv' := [(5, .int s0), (0, .ref (ad 4)), (4, .int x4)]) hx hb dX6_headCost_88 hl (by decide) rfl (fun ls hl => ?_)
  refine lv_iload hx hb dX6_headCost_90 (lv_at hl 0 rfl) ?_
  refine lv_if_eq (tgt := 100) hx hb dX6_headCost_92 (by decide) (fun c_1 => ?_) (fun c_1 => ?_)
  · replace h := h.1 c_1
    refine lv_iload hx hb dX6_headCost_100 (lv_at hl 2 rfl) ?_
    refine lv_aload_n hx hb dX6_headCost_102 rfl (lv_at hl 1 rfl) ?_
    refine cg_tr_settings hx hb hts inw_X6_headCost_X6 hown hkx hw (hts _ (List.mem_of_getElem? (i := 2) rfl)) dX6_headCost_103 ?_
    refine cg_st_prices hx hb hts inw_X6_headCost_X4 hown hkx hw (hts _ (List.mem_of_getElem? (i := 8) rfl)) dX6_headCost_106 ?_
    refine lv_iconst (v := 2) hx hb dX6_headCost_109 (by decide) ?_
    refine ca_prices hx hb hkx hw (by unfold vp_in; decide) dX6_headCost_110 ?_
    refine lv_iadd hx hb dX6_headCost_111 ?_
    exact end_i (w1 := (cfU cy ad)) (u := (κ, σ, τ)) C0 hw h dX6_headCost_112
  · replace h := h.2 c_1
    refine lv_iload hx hb dX6_headCost_95 (lv_at hl 2 rfl) ?_
    refine lv_goto (tgt := 112) hx hb dX6_headCost_97 (by decide) ?_
    exact end_i (w1 := (cfU cy ad)) (u := (κ, σ, τ)) C0 hw h dX6_headCost_112
def wp_X6_headCost (x1 : Int32) (x2 : Int32) (σ : Sg) (τ : Tg) (post : Int32 → Sg → Tg → Prop) : Prop :=
    wp_X1_look x1 σ τ (fun r_1 σ_2 τ_3 =>
    vp_in x2 4 ∧
    ∀ y_5 : Int32, y_5 = (if 0 ≤ (r_1 - (σ_2 17 x2.toNatClampNeg)) then (r_1 - (σ_2 17 x2.toNatClampNeg)) else 0 - (r_1 - (σ_2 17 x2.toNatClampNeg))) →
    ∀ y_7 : Int32, y_7 = ((σ_2 16 (1 : Int32).toNatClampNeg) * y_5) →
    vp_in x1 20 ∧
    (¬ (σ_2 25 x1.toNatClampNeg) = 0 →
    wp_X1_partAt x1 x2 σ_2 τ_3 (fun r_10 σ_11 τ_12 =>
    vp_in x2 4 ∧
    (¬ r_10 = ((σ_11 33 x2.toNatClampNeg) + (1 : Int32)) →
    wp_X6_headCost_88 post y_7 (0 : Int32) σ_11 τ_12) ∧
    (r_10 = ((σ_11 33 x2.toNatClampNeg) + (1 : Int32)) →
    wp_X6_headCost_88 post y_7 (1 : Int32) σ_11 τ_12))) ∧
    ((σ_2 25 x1.toNatClampNeg) = 0 →
    post (y_7 + (σ_2 16 (3 : Int32).toNatClampNeg)) σ_2 τ_3))
set_option maxHeartbeats 4000000 in
set_option maxRecDepth 100000 in
theorem c_X6_headCost (l : Launch) (D : va_G) (cy : Nat → ClassId) (ad κ : Nat → Nat) (σ : Sg) (τ : Tg) (x1 : Int32) (x2 : Int32) (post : Int32 → Sg → Tg → Prop) (h : wp_X6_headCost x1 x2 σ τ post) : Ct l yX6_headCost wsX6_headCost rm_X6_headCost D cy [.ref (ad 4), .int x1, .int x2] (cfW cy ad κ σ τ) 0 0 (Ri D (cfU cy ad) (fun r u => post r u.2.1 u.2.2)) := by
  refine Ct.of (cc := cX6_headCost) (maxL := 6) (rt := (some .int)) (by decide) rfl (Nat.le_of_ble_eq_true rfl) ?_
  intro p e s m below meth c A C0 _ H locs ls hw hl
  obtain ⟨⟨hx, hb, hml, hown, hts⟩, hr, hlocks, hkx, hA⟩ := id C0
  have hl : lv_has ls 6 [(0, .ref (ad 4)), (1, .int x1), (2, .int x2)] := hl
  unfold wp_X6_headCost at h
  refine lv_aload_n hx hb dX6_headCost_0 rfl (lv_at hl 0 rfl) ?_
  refine cg_tr_lines hx hb hts inw_X6_headCost_X6 hown hkx hw (hts _ (List.mem_of_getElem? (i := 1) rfl)) dX6_headCost_1 ?_
  refine lv_iload_n hx hb dX6_headCost_4 rfl (lv_at hl 1 rfl) ?_
  refine cf_Vi (As := [.int x1]) ⟨hx, hb, hml, hown, hts⟩ hkx hw hA (c_X1_look l D cy ad κ σ τ x1 _ h) (cwV 1 hts gX6_headCost_X1_look rfl rfl rfl hd_X1_look ⟨Nat.le_of_ble_eq_true rfl, Nat.le_of_ble_eq_true rfl⟩) 3 1 rfl rfl rfl hl.1 rfl (Nat.le_of_ble_eq_true rfl) dX6_headCost_5 ⟨Nat.zero_le _, Nat.zero_le _⟩ (fun r_1 κ σ_2 τ_3 H locs h hw => ?_)
  refine lv_aload_n hx hb dX6_headCost_8 rfl (lv_at hl 0 rfl) ?_
  refine cg_tr_settings hx hb hts inw_X6_headCost_X6 hown hkx hw (hts _ (List.mem_of_getElem? (i := 2) rfl)) dX6_headCost_9 ?_
  refine cg_st_wants hx hb hts inw_X6_headCost_X4 hown hkx hw (hts _ (List.mem_of_getElem? (i := 3) rfl)) dX6_headCost_12 ?_
  refine lv_iload_n hx hb dX6_headCost_15 rfl (lv_at hl 2 rfl) ?_
  obtain ⟨b_4, h⟩ := h
  refine ca_wants hx hb hkx hw b_4 dX6_headCost_16 ?_
  refine lv_isub hx hb dX6_headCost_17 ?_
  refine va_mabs hx hb (hml.trans hl.1.symm) hown (hts _ (List.mem_of_getElem? (i := 4) rfl)) (hts _ (List.mem_of_getElem? (i := 5) rfl)) (hts _ (List.mem_of_getElem? (i := 6) rfl)) (hts _ (List.mem_of_getElem? (i := 7) rfl)) (Nat.le_of_ble_eq_true rfl) (Nat.le_of_ble_eq_true rfl) (Nat.zero_le _) (Nat.zero_le _) dX6_headCost_18 ?_
  refine lv_topi (fun y_5 ey_5 => ?_)
  replace h := h y_5 ey_5
  refine lv_istore_n (lv' := [(3, .int y_5), (0, .ref (ad 4)), (1, .int x1), (2, .int x2)]) hx hb dX6_headCost_21 rfl hl (by decide) rfl (fun ls hl => ?_)
  refine lv_aload_n hx hb dX6_headCost_22 rfl (lv_at hl 1 rfl) ?_
  refine cg_tr_settings hx hb hts inw_X6_headCost_X6 hown hkx hw (hts _ (List.mem_of_getElem? (i := 2) rfl)) dX6_headCost_23 ?_
  refine cg_st_prices hx hb hts inw_X6_headCost_X4 hown hkx hw (hts _ (List.mem_of_getElem? (i := 8) rfl)) dX6_headCost_26 ?_
  refine lv_iconst (v := 1) hx hb dX6_headCost_29 (by decide) ?_
  refine ca_prices hx hb hkx hw (by unfold vp_in; decide) dX6_headCost_30 ?_
  refine lv_iload_n hx hb dX6_headCost_31 rfl (lv_at hl 0 rfl) ?_
  refine lv_imul hx hb dX6_headCost_32 ?_
  refine lv_topi (fun y_7 ey_7 => ?_)
  replace h := h y_7 ey_7
  refine lv_istore (lv' := [(4, .int y_7), (3, .int y_5), (0, .ref (ad 4)), (1, .int x1), (2, .int x2)]) hx hb dX6_headCost_33 hl (by decide) rfl (fun ls hl => ?_)
  refine lv_aload_n hx hb dX6_headCost_35 rfl (lv_at hl 2 rfl) ?_
  refine cg_tr_lines hx hb hts inw_X6_headCost_X6 hown hkx hw (hts _ (List.mem_of_getElem? (i := 1) rfl)) dX6_headCost_36 ?_
  refine cg_ln_parts hx hb hts inw_X6_headCost_X1 hown hkx hw (hts _ (List.mem_of_getElem? (i := 9) rfl)) dX6_headCost_39 ?_
  refine lv_iload_n hx hb dX6_headCost_42 rfl (lv_at hl 3 rfl) ?_
  obtain ⟨b_8, h⟩ := h
  refine ca_parts hx hb hkx hw b_8 dX6_headCost_43 ?_
  refine lv_if_ne (tgt := 60) hx hb dX6_headCost_44 (by decide) (fun c_9 => ?_) (fun c_9 => ?_)
  · replace h := h.1 c_9
    refine lv_aload_n hx hb dX6_headCost_60 rfl (lv_at hl 2 rfl) ?_
    refine cg_tr_lines hx hb hts inw_X6_headCost_X6 hown hkx hw (hts _ (List.mem_of_getElem? (i := 1) rfl)) dX6_headCost_61 ?_
    refine lv_iload_n hx hb dX6_headCost_64 rfl (lv_at hl 3 rfl) ?_
    refine lv_iload_n hx hb dX6_headCost_65 rfl (lv_at hl 4 rfl) ?_
    refine cf_Vi (As := [.int x1, .int x2]) ⟨hx, hb, hml, hown, hts⟩ hkx hw hA (c_X1_partAt l D cy ad κ σ_2 τ_3 x1 x2 _ h) (cwV 2 hts gX6_headCost_X1_partAt rfl rfl rfl hd_X1_partAt ⟨Nat.le_of_ble_eq_true rfl, Nat.le_of_ble_eq_true rfl⟩) 3 1 rfl rfl rfl hl.1 rfl (Nat.le_of_ble_eq_true rfl) dX6_headCost_66 ⟨Nat.zero_le _, Nat.zero_le _⟩ (fun r_10 κ σ_11 τ_12 H locs h hw => ?_)
    refine lv_aload_n hx hb dX6_headCost_69 rfl (lv_at hl 2 rfl) ?_
    refine cg_tr_counters hx hb hts inw_X6_headCost_X6 hown hkx hw (hts _ (List.mem_of_getElem? (i := 10) rfl)) dX6_headCost_70 ?_
    refine cg_co_at hx hb hts inw_X6_headCost_X0 hown hkx hw (hts _ (List.mem_of_getElem? (i := 11) rfl)) dX6_headCost_73 ?_
    refine lv_iload_n hx hb dX6_headCost_76 rfl (lv_at hl 4 rfl) ?_
    obtain ⟨b_13, h⟩ := h
    refine ca_at hx hb hkx hw b_13 dX6_headCost_77 ?_
    refine lv_iconst (v := 1) hx hb dX6_headCost_78 (by decide) ?_
    refine lv_iadd hx hb dX6_headCost_79 ?_
    refine lv_icmp_ne (tgt := 87) hx hb dX6_headCost_80 (by decide) (fun c_14 => ?_) (fun c_14 => ?_)
    · replace h := h.1 c_14
      refine lv_iconst (v := 0) hx hb dX6_headCost_87 (by decide) ?_
      exact w_X6_headCost_88 C0 _ _ _ _ h _ _ _ _ hw (lv_sub hl [2, 0] rfl)
    · replace h := h.2 c_14
      refine lv_iconst (v := 1) hx hb dX6_headCost_83 (by decide) ?_
      refine lv_goto (tgt := 88) hx hb dX6_headCost_84 (by decide) ?_
      exact w_X6_headCost_88 C0 _ _ _ _ h _ _ _ _ hw (lv_sub hl [2, 0] rfl)
  · replace h := h.2 c_9
    refine lv_iload hx hb dX6_headCost_47 (lv_at hl 0 rfl) ?_
    refine lv_aload_n hx hb dX6_headCost_49 rfl (lv_at hl 2 rfl) ?_
    refine cg_tr_settings hx hb hts inw_X6_headCost_X6 hown hkx hw (hts _ (List.mem_of_getElem? (i := 2) rfl)) dX6_headCost_50 ?_
    refine cg_st_prices hx hb hts inw_X6_headCost_X4 hown hkx hw (hts _ (List.mem_of_getElem? (i := 8) rfl)) dX6_headCost_53 ?_
    refine lv_iconst (v := 3) hx hb dX6_headCost_56 (by decide) ?_
    refine ca_prices hx hb hkx hw (by unfold vp_in; decide) dX6_headCost_57 ?_
    refine lv_iadd hx hb dX6_headCost_58 ?_
    exact end_i (w1 := (cfU cy ad)) (u := (κ, σ_2, τ_3)) C0 hw h dX6_headCost_59
end
theorem hd_X6_offer : yX6_offer.cls = RX6 ∧ yX6_offer.cls ≠ "java/lang/invoke/MethodHandle" ∧ yX6_offer.cls ≠ "java/lang/invoke/VarHandle" ∧ (parseMethodDescriptor yX6_offer.desc).map (fun d => d.parameters.length) = some 3 := by decide +kernel
section
variable {p : Program} {l : Launch} {e : Env} {s : State} {m : MethodId} {args : Array Value} {below : List Frame} {meth : Method} {c : Code} {D : va_G} {cy : Nat → ClassId} {A : Nat → Prop} {ad : Nat → Nat}
abbrev rm_X6_offer : Room := { frames := 2, cells := 0, slots := 0, locals := 65 }
theorem inw_X6_offer_X6 : ∀ w ∈ u_ws RX6 TX6 15, w ∈ wsX6_offer := fun _ h => List.mem_cons_of_mem _ (List.mem_append_left _ (List.mem_append_left _ (List.mem_append_left _ (List.mem_append_right _ h))))
abbrev G_X6_offer (p : Program) (l : Launch) (e : Env) (s : State) (m : MethodId) (args : Array Value) (below : List Frame) (meth : Method) (c : Code) (D : va_G) (A : Nat → Prop) (cy : Nat → ClassId) (ad : Nat → Nat) (post : Sg → Tg → Prop) : va_W → Nat → List (Nat × Value) → Nat → List Value → Prop := Gw p l e rm_X6_offer s m args below meth c D A (MQ below ((Rv D (cfU cy ad) (fun u => post u.2.1 u.2.2)) A) args s 0 0 A)
def wp_X6_offer_94 (post : Sg → Tg → Prop) (x3 : Int64) (x5 : Int64) (x7 : Int64) (x9 : Int32) (σ : Sg) (τ : Tg) : Prop :=
    vp_in x9 2744 ∧
    vp_in x9 2744 ∧
    ∀ τ_3 : Tg, τ_3 = va_up τ 1 (vp_updL (τ 1) x9.toNatClampNeg (if ((x3 + (x5 <<< ((40 : Int32).toInt64 &&& 63))) + x7) < (τ 1 x9.toNatClampNeg) then ((x3 + (x5 <<< ((40 : Int32).toInt64 &&& 63))) + x7) else (τ 1 x9.toNatClampNeg))) →
    post σ τ_3
set_option maxHeartbeats 4000000 in
set_option maxRecDepth 100000 in
theorem w_X6_offer_94 (C0 : Mc p m c meth cX6_offer 10 s args wsX6_offer RX6 none D cy A) {post : Sg → Tg → Prop} : ∀ (x3 : Int64) (x5 : Int64) (x7 : Int64) (x9 : Int32) (σ : Sg) (τ : Tg), wp_X6_offer_94 post x3 x5 x7 x9 σ τ → ∀ κ : Nat → Nat, G_X6_offer p l e s m args below meth c D A cy ad post (cfW cy ad κ σ τ) 10 [(0, .ref (ad 4)), (3, .long x3), (5, .long x5), (7, .long x7), (9, .int x9)] 94 [] := by
  obtain ⟨⟨hx, hb, hml, hown, hts⟩, hr, hlocks, hkx, hA⟩ := id C0
  intro x3 x5 x7 x9 σ τ h κ H locs ls hw hl
  unfold wp_X6_offer_94 at h
  refine lv_aload_n hx hb dX6_offer_94 rfl (lv_at hl 0 rfl) ?_
  refine cg_tr_nextKeys hx hb hts inw_X6_offer_X6 hown hkx hw (hts _ (List.mem_of_getElem? (i := 3) rfl)) dX6_offer_95 ?_
  refine lv_iload hx hb dX6_offer_98 (lv_at hl 4 rfl) ?_
  refine lv_aload_n hx hb dX6_offer_100 rfl (lv_at hl 0 rfl) ?_
  refine cg_tr_nextKeys hx hb hts inw_X6_offer_X6 hown hkx hw (hts _ (List.mem_of_getElem? (i := 3) rfl)) dX6_offer_101 ?_
  refine lv_iload hx hb dX6_offer_104 (lv_at hl 4 rfl) ?_
  obtain ⟨b_1, h⟩ := h
  refine ca_nkeys hx hb hkx hw b_1 dX6_offer_106 ?_
  refine lv_lload_n hx hb dX6_offer_107 rfl (lv_at hl 1 rfl) ?_
  refine lv_lload hx hb dX6_offer_108 (lv_at hl 2 rfl) ?_
  refine lv_bipush (v := 40) hx hb dX6_offer_110 (by decide) ?_
  refine lv_lshl hx hb dX6_offer_112 rfl ?_
  refine lv_ladd hx hb dX6_offer_113 ?_
  refine lv_lload hx hb dX6_offer_114 (lv_at hl 3 rfl) ?_
  refine lv_ladd hx hb dX6_offer_116 ?_
  refine va_mmin_long hx hb (hml.trans hl.1.symm) hown (hts _ (List.mem_of_getElem? (i := 7) rfl)) (hts _ (List.mem_of_getElem? (i := 8) rfl)) (hts _ (List.mem_of_getElem? (i := 9) rfl)) (hts _ (List.mem_of_getElem? (i := 10) rfl)) (Nat.le_of_ble_eq_true rfl) (Nat.le_of_ble_eq_true rfl) (Nat.zero_le _) (Nat.zero_le _) dX6_offer_117 ?_
  obtain ⟨b_2, h⟩ := h
  refine cs_nkeys hx hb hkx hw b_2 dX6_offer_120 (fun τ_3 eτ_3 H locs hw => ?_)
  replace h := h τ_3 eτ_3
  exact end_v (w1 := (cfU cy ad)) (u := (κ, σ, τ_3)) C0 hw h dX6_offer_121
def wp_X6_offer_46 (post : Sg → Tg → Prop) (x3 : Int64) (x5 : Int64) (x7 : Int64) (σ : Sg) (τ : Tg) : Prop :=
    wp_X0_pack_caps σ τ (fun r_1 σ_2 τ_3 =>
    vp_in r_1 2744 ∧
    (¬ (lg_cmp (τ_3 1 r_1.toNatClampNeg) (1152921504606846976 : Int64)) = 0 →
    wp_X6_offer_94 post x3 x5 x7 r_1 σ_2 τ_3) ∧
    ((lg_cmp (τ_3 1 r_1.toNatClampNeg) (1152921504606846976 : Int64)) = 0 →
    vp_in (σ_2 9 0) 2744 ∧
    ∀ σ_7 : Sg, σ_7 = va_up σ_2 32 (upd (σ_2 32) (σ_2 9 0).toNatClampNeg r_1) →
    ∀ σ_8 : Sg, σ_8 = va_up σ_7 9 (fun _ => (σ_7 9 0) + (1 : Int32)) →
    wp_X6_offer_94 post x3 x5 x7 r_1 σ_8 τ_3))
set_option maxHeartbeats 4000000 in
set_option maxRecDepth 100000 in
theorem w_X6_offer_46 (C0 : Mc p m c meth cX6_offer 10 s args wsX6_offer RX6 none D cy A) {post : Sg → Tg → Prop} : ∀ (x3 : Int64) (x5 : Int64) (x7 : Int64) (σ : Sg) (τ : Tg), wp_X6_offer_46 post x3 x5 x7 σ τ → ∀ κ : Nat → Nat, G_X6_offer p l e s m args below meth c D A cy ad post (cfW cy ad κ σ τ) 10 [(0, .ref (ad 4)), (3, .long x3), (5, .long x5), (7, .long x7)] 46 [] := by
  obtain ⟨⟨hx, hb, hml, hown, hts⟩, hr, hlocks, hkx, hA⟩ := id C0
  intro x3 x5 x7 σ τ h κ H locs ls hw hl
  unfold wp_X6_offer_46 at h
  refine lv_aload_n hx hb dX6_offer_46 rfl (lv_at hl 0 rfl) ?_
  refine cg_tr_counters hx hb hts inw_X6_offer_X6 hown hkx hw (hts _ (List.mem_of_getElem? (i := 1) rfl)) dX6_offer_47 ?_
  refine lv_aload_n hx hb dX6_offer_50 rfl (lv_at hl 0 rfl) ?_
  refine cg_tr_caps hx hb hts inw_X6_offer_X6 hown hkx hw (hts _ (List.mem_of_getElem? (i := 2) rfl)) dX6_offer_51 ?_
  refine cf_Vi (As := [.ref (ad 22)]) ⟨hx, hb, hml, hown, hts⟩ hkx hw hA (c_X0_pack_caps l D cy ad κ σ τ _ h) (cwV 1 hts gX6_offer_X0_pack rfl rfl rfl hd_X0_pack ⟨Nat.le_of_ble_eq_true rfl, Nat.le_of_ble_eq_true rfl⟩) 5 0 rfl rfl rfl hl.1 rfl (Nat.le_of_ble_eq_true rfl) dX6_offer_54 ⟨Nat.zero_le _, Nat.zero_le _⟩ (fun r_1 κ σ_2 τ_3 H locs h hw => ?_)
  refine lv_istore (lv' := [(9, .int r_1), (0, .ref (ad 4)), (3, .long x3), (5, .long x5), (7, .long x7)]) hx hb dX6_offer_57 hl (by decide) rfl (fun ls hl => ?_)
  refine lv_aload_n hx hb dX6_offer_59 rfl (lv_at hl 1 rfl) ?_
  refine cg_tr_nextKeys hx hb hts inw_X6_offer_X6 hown hkx hw (hts _ (List.mem_of_getElem? (i := 3) rfl)) dX6_offer_60 ?_
  refine lv_iload hx hb dX6_offer_63 (lv_at hl 0 rfl) ?_
  obtain ⟨b_4, h⟩ := h
  refine ca_nkeys hx hb hkx hw b_4 dX6_offer_65 ?_
  refine lv_ldc2 hx hb hown (hts _ (List.mem_of_getElem? (i := 4) rfl)) dX6_offer_66 ?_
  refine W.lcmp hx hb dX6_offer_69 ?_
  refine lv_if_ne (tgt := 94) hx hb dX6_offer_70 (by decide) (fun c_5 => ?_) (fun c_5 => ?_)
  · replace h := h.1 c_5
    exact w_X6_offer_94 C0 _ _ _ _ _ _ h _ _ _ _ hw (lv_sub hl [1, 2, 3, 4, 0] rfl)
  · replace h := h.2 c_5
    refine lv_aload_n hx hb dX6_offer_73 rfl (lv_at hl 1 rfl) ?_
    refine cg_tr_nextStates hx hb hts inw_X6_offer_X6 hown hkx hw (hts _ (List.mem_of_getElem? (i := 5) rfl)) dX6_offer_74 ?_
    refine lv_aload_n hx hb dX6_offer_77 rfl (lv_at hl 1 rfl) ?_
    refine cg_tr_nextReached hx hb hts inw_X6_offer_X6 hown hkx hw (hts _ (List.mem_of_getElem? (i := 6) rfl)) dX6_offer_78 ?_
    refine lv_iload hx hb dX6_offer_81 (lv_at hl 0 rfl) ?_
    obtain ⟨b_6, h⟩ := h
    refine cs_nstates hx hb hkx hw b_6 dX6_offer_83 (fun σ_7 eσ_7 H locs hw => ?_)
    replace h := h σ_7 eσ_7
    refine lv_aload_n hx hb dX6_offer_84 rfl (lv_at hl 1 rfl) ?_
    refine lv_dup hx hb dX6_offer_85 rfl ?_
    refine cg_tr_nextReached hx hb hts inw_X6_offer_X6 hown hkx hw (hts _ (List.mem_of_getElem? (i := 6) rfl)) dX6_offer_86 ?_
    refine lv_iconst (v := 1) hx hb dX6_offer_89 (by decide) ?_
    refine lv_iadd hx hb dX6_offer_90 ?_
    refine cp_tr_nextReached hx hb hts inw_X6_offer_X6 hown hkx hw (hts _ (List.mem_of_getElem? (i := 6) rfl)) dX6_offer_91 (fun σ_8 eσ_8 H locs hw => ?_)
    replace h := h σ_8 eσ_8
    exact w_X6_offer_94 C0 _ _ _ _ _ _ h _ _ _ _ hw (lv_sub hl [1, 2, 3, 4, 0] rfl)
def wp_X6_offer_20 (post : Sg → Tg → Prop) (x1 : Int32) (x2 : Int32) (x3 : Int64) (s0 : Int64) (σ : Sg) (τ : Tg) : Prop :=
    ∀ y_1 : Int64, y_1 = ((x2.toInt64) <<< (((2 : Int32) * ((19 : Int32) - x1)).toInt64 &&& 63)) →
    (x2 ≤ 0 →
    wp_X6_offer_46 post x3 s0 y_1 σ τ) ∧
    (¬ x2 ≤ 0 →
    wp_X0_passHead x1 x2 σ τ (fun σ_3 τ_4 =>
    wp_X6_offer_46 post x3 s0 y_1 σ_3 τ_4))
set_option maxHeartbeats 4000000 in
set_option maxRecDepth 100000 in
theorem w_X6_offer_20 (C0 : Mc p m c meth cX6_offer 10 s args wsX6_offer RX6 none D cy A) {post : Sg → Tg → Prop} : ∀ (x1 : Int32) (x2 : Int32) (x3 : Int64) (s0 : Int64) (σ : Sg) (τ : Tg), wp_X6_offer_20 post x1 x2 x3 s0 σ τ → ∀ κ : Nat → Nat, G_X6_offer p l e s m args below meth c D A cy ad post (cfW cy ad κ σ τ) 10 [(0, .ref (ad 4)), (1, .int x1), (2, .int x2), (3, .long x3)] 20 [.long s0] := by
  obtain ⟨⟨hx, hb, hml, hown, hts⟩, hr, hlocks, hkx, hA⟩ := id C0
  intro x1 x2 x3 s0 σ τ h κ H locs ls hw hl
  unfold wp_X6_offer_20 at h
  refine lv_lstore (lv' := [(5, .long s0), (0, .ref (ad 4)), (1, .int x1), (2, .int x2), (3, .long x3)]) hx hb dX6_offer_20 hl (by decide) rfl (fun ls hl => ?_)
  refine lv_iload_n hx hb dX6_offer_22 rfl (lv_at hl 3 rfl) ?_
  refine lv_i2l hx hb dX6_offer_23 rfl ?_
  refine lv_iconst (v := 2) hx hb dX6_offer_24 (by decide) ?_
  refine lv_bipush (v := 19) hx hb dX6_offer_25 (by decide) ?_
  refine lv_iload_n hx hb dX6_offer_27 rfl (lv_at hl 2 rfl) ?_
  refine lv_isub hx hb dX6_offer_28 ?_
  refine lv_imul hx hb dX6_offer_29 ?_
  refine lv_lshl hx hb dX6_offer_30 rfl ?_
  refine lv_topl (fun y_1 ey_1 => ?_)
  replace h := h y_1 ey_1
  refine lv_lstore (lv' := [(7, .long y_1), (5, .long s0), (0, .ref (ad 4)), (1, .int x1), (2, .int x2), (3, .long x3)]) hx hb dX6_offer_31 hl (by decide) rfl (fun ls hl => ?_)
  refine lv_iload_n hx hb dX6_offer_33 rfl (lv_at hl 4 rfl) ?_
  refine lv_if_le (tgt := 46) hx hb dX6_offer_34 (by decide) (fun c_2 => ?_) (fun c_2 => ?_)
  · replace h := h.1 c_2
    exact w_X6_offer_46 C0 _ _ _ _ _ h _ _ _ _ hw (lv_sub hl [2, 5, 1, 0] rfl)
  · replace h := h.2 c_2
    refine lv_aload_n hx hb dX6_offer_37 rfl (lv_at hl 2 rfl) ?_
    refine cg_tr_counters hx hb hts inw_X6_offer_X6 hown hkx hw (hts _ (List.mem_of_getElem? (i := 1) rfl)) dX6_offer_38 ?_
    refine lv_iload_n hx hb dX6_offer_41 rfl (lv_at hl 3 rfl) ?_
    refine lv_iload_n hx hb dX6_offer_42 rfl (lv_at hl 4 rfl) ?_
    refine cf_Vv (As := [.int x1, .int x2]) ⟨hx, hb, hml, hown, hts⟩ hkx hw hA (c_X0_passHead l D cy ad κ σ τ x1 x2 _ h) (cwV 2 hts gX6_offer_X0_passHead rfl rfl rfl hd_X0_passHead ⟨Nat.le_of_ble_eq_true rfl, Nat.le_of_ble_eq_true rfl⟩) 5 0 rfl rfl rfl hl.1 rfl (Nat.le_of_ble_eq_true rfl) dX6_offer_43 ⟨Nat.zero_le _, Nat.zero_le _⟩ (fun κ σ_3 τ_4 H locs h hw => ?_)
    exact w_X6_offer_46 C0 _ _ _ _ _ h _ _ _ _ hw (lv_sub hl [2, 5, 1, 0] rfl)
def wp_X6_offer (x1 : Int32) (x2 : Int32) (x3 : Int64) (σ : Sg) (τ : Tg) (post : Sg → Tg → Prop) : Prop :=
    (¬ x2 = 0 →
    wp_X6_headCost x1 x2 σ τ (fun r_2 σ_3 τ_4 =>
    wp_X6_offer_20 post x1 x2 x3 (r_2.toInt64) σ_3 τ_4)) ∧
    (x2 = 0 →
    wp_X6_textCost x1 σ τ (fun r_5 σ_6 τ_7 =>
    wp_X6_offer_20 post x1 x2 x3 (r_5.toInt64) σ_6 τ_7))
set_option maxHeartbeats 4000000 in
set_option maxRecDepth 100000 in
theorem c_X6_offer (l : Launch) (D : va_G) (cy : Nat → ClassId) (ad κ : Nat → Nat) (σ : Sg) (τ : Tg) (x1 : Int32) (x2 : Int32) (x3 : Int64) (post : Sg → Tg → Prop) (h : wp_X6_offer x1 x2 x3 σ τ post) : Ct l yX6_offer wsX6_offer rm_X6_offer D cy [.ref (ad 4), .int x1, .int x2, .long x3] (cfW cy ad κ σ τ) 0 0 (Rv D (cfU cy ad) (fun u => post u.2.1 u.2.2)) := by
  refine Ct.of (cc := cX6_offer) (maxL := 10) (rt := none) (by decide) rfl (Nat.le_of_ble_eq_true rfl) ?_
  intro p e s m below meth c A C0 _ H locs ls hw hl
  obtain ⟨⟨hx, hb, hml, hown, hts⟩, hr, hlocks, hkx, hA⟩ := id C0
  have hl : lv_has ls 10 [(0, .ref (ad 4)), (1, .int x1), (2, .int x2), (3, .long x3)] := hl
  unfold wp_X6_offer at h
  refine lv_iload_n hx hb dX6_offer_0 rfl (lv_at hl 2 rfl) ?_
  refine lv_if_ne (tgt := 13) hx hb dX6_offer_1 (by decide) (fun c_1 => ?_) (fun c_1 => ?_)
  · replace h := h.1 c_1
    refine lv_aload_n hx hb dX6_offer_13 rfl (lv_at hl 0 rfl) ?_
    refine lv_iload_n hx hb dX6_offer_14 rfl (lv_at hl 1 rfl) ?_
    refine lv_iload_n hx hb dX6_offer_15 rfl (lv_at hl 2 rfl) ?_
    refine cf_Vi (As := [.int x1, .int x2]) ⟨hx, hb, hml, hown, hts⟩ hkx hw hA (c_X6_headCost l D cy ad κ σ τ x1 x2 _ h) (cwV 2 hts gX6_offer_X6_headCost rfl rfl rfl hd_X6_headCost ⟨Nat.le_of_ble_eq_true rfl, Nat.le_of_ble_eq_true rfl⟩) 4 6 rfl rfl rfl hl.1 rfl (Nat.le_of_ble_eq_true rfl) dX6_offer_16 ⟨Nat.zero_le _, Nat.zero_le _⟩ (fun r_2 κ σ_3 τ_4 H locs h hw => ?_)
    refine lv_i2l hx hb dX6_offer_19 rfl ?_
    exact w_X6_offer_20 C0 _ _ _ _ _ _ h _ _ _ _ hw (lv_sub hl [0, 1, 2, 3] rfl)
  · replace h := h.2 c_1
    refine lv_aload_n hx hb dX6_offer_4 rfl (lv_at hl 0 rfl) ?_
    refine lv_iload_n hx hb dX6_offer_5 rfl (lv_at hl 1 rfl) ?_
    refine cf_Vi (As := [.int x1]) ⟨hx, hb, hml, hown, hts⟩ hkx hw hA (c_X6_textCost l D cy ad κ σ τ x1 _ h) (cwV 1 hts gX6_offer_X6_textCost rfl rfl rfl hd_X6_textCost ⟨Nat.le_of_ble_eq_true rfl, Nat.le_of_ble_eq_true rfl⟩) 4 6 rfl rfl rfl hl.1 rfl (Nat.le_of_ble_eq_true rfl) dX6_offer_6 ⟨Nat.zero_le _, Nat.zero_le _⟩ (fun r_5 κ σ_6 τ_7 H locs h hw => ?_)
    refine lv_i2l hx hb dX6_offer_9 rfl ?_
    refine lv_goto (tgt := 20) hx hb dX6_offer_10 (by decide) ?_
    exact w_X6_offer_20 C0 _ _ _ _ _ _ h _ _ _ _ hw (lv_sub hl [0, 1, 2, 3] rfl)
end
theorem hd_X6_passLine : yX6_passLine.cls = RX6 ∧ yX6_passLine.cls ≠ "java/lang/invoke/MethodHandle" ∧ yX6_passLine.cls ≠ "java/lang/invoke/VarHandle" ∧ (parseMethodDescriptor yX6_passLine.desc).map (fun d => d.parameters.length) = some 1 := by decide +kernel
section
variable {p : Program} {l : Launch} {e : Env} {s : State} {m : MethodId} {args : Array Value} {below : List Frame} {meth : Method} {c : Code} {D : va_G} {cy : Nat → ClassId} {A : Nat → Prop} {ad : Nat → Nat}
abbrev rm_X6_passLine : Room := { frames := 3, cells := 0, slots := 0, locals := 94 }
theorem inw_X6_passLine_X6 : ∀ w ∈ u_ws RX6 TX6 15, w ∈ wsX6_passLine := fun _ h => List.mem_cons_of_mem _ (List.mem_append_left _ (List.mem_append_left _ (List.mem_append_left _ (List.mem_append_right _ h))))
abbrev G_X6_passLine (p : Program) (l : Launch) (e : Env) (s : State) (m : MethodId) (args : Array Value) (below : List Frame) (meth : Method) (c : Code) (D : va_G) (A : Nat → Prop) (cy : Nat → ClassId) (ad : Nat → Nat) (post : Sg → Tg → Prop) : va_W → Nat → List (Nat × Value) → Nat → List Value → Prop := Gw p l e rm_X6_passLine s m args below meth c D A (MQ below ((Rv D (cfU cy ad) (fun u => post u.2.1 u.2.2)) A) args s 0 0 A)
def wp_X6_passLine_93 (post : Sg → Tg → Prop) (k60 : Int32 → Int32 → Int32 → Int32 → Int64 → Int32 → Sg → Tg → Prop) (x1 : Int32) (x2 : Int32) (x3 : Int32) (x4 : Int32) (x5 : Int64) (x7 : Int32) (σ : Sg) (τ : Tg) : Prop :=
    wp_X6_offer x1 x7 x5 σ τ (fun σ_1 τ_2 =>
    k60 x1 x2 x3 x4 x5 (x7 + (1 : Int32)) σ_1 τ_2)
set_option maxHeartbeats 4000000 in
set_option maxRecDepth 100000 in
theorem w_X6_passLine_93 (C0 : Mc p m c meth cX6_passLine 8 s args wsX6_passLine RX6 none D cy A) {post : Sg → Tg → Prop} {k60 : Int32 → Int32 → Int32 → Int32 → Int64 → Int32 → Sg → Tg → Prop} (hk60 : ∀ (x1 : Int32) (x2 : Int32) (x3 : Int32) (x4 : Int32) (x5 : Int64) (x7 : Int32) (σ : Sg) (τ : Tg), k60 x1 x2 x3 x4 x5 x7 σ τ → ∀ κ : Nat → Nat, G_X6_passLine p l e s m args below meth c D A cy ad post (cfW cy ad κ σ τ) 8 [(0, .ref (ad 4)), (1, .int x1), (2, .int x2), (3, .int x3), (4, .int x4), (5, .long x5), (7, .int x7)] 60 []) : ∀ (x1 : Int32) (x2 : Int32) (x3 : Int32) (x4 : Int32) (x5 : Int64) (x7 : Int32) (σ : Sg) (τ : Tg), wp_X6_passLine_93 post k60 x1 x2 x3 x4 x5 x7 σ τ → ∀ κ : Nat → Nat, G_X6_passLine p l e s m args below meth c D A cy ad post (cfW cy ad κ σ τ) 8 [(0, .ref (ad 4)), (1, .int x1), (2, .int x2), (3, .int x3), (4, .int x4), (5, .long x5), (7, .int x7)] 93 [] := by
  obtain ⟨⟨hx, hb, hml, hown, hts⟩, hr, hlocks, hkx, hA⟩ := id C0
  intro x1 x2 x3 x4 x5 x7 σ τ h κ H locs ls hw hl
  unfold wp_X6_passLine_93 at h
  refine lv_aload_n hx hb dX6_passLine_93 rfl (lv_at hl 0 rfl) ?_
  refine lv_iload_n hx hb dX6_passLine_94 rfl (lv_at hl 1 rfl) ?_
  refine lv_iload hx hb dX6_passLine_95 (lv_at hl 6 rfl) ?_
  refine lv_lload hx hb dX6_passLine_97 (lv_at hl 5 rfl) ?_
  refine cf_Vv (As := [.int x1, .int x7, .long x5]) ⟨hx, hb, hml, hown, hts⟩ hkx hw hA (c_X6_offer l D cy ad κ σ τ x1 x7 x5 _ h) (cwV 3 hts gX6_passLine_X6_offer rfl rfl rfl hd_X6_offer ⟨Nat.le_of_ble_eq_true rfl, Nat.le_of_ble_eq_true rfl⟩) 4 6 rfl rfl rfl hl.1 rfl (Nat.le_of_ble_eq_true rfl) dX6_passLine_99 ⟨Nat.zero_le _, Nat.zero_le _⟩ (fun κ σ_1 τ_2 H locs h hw => ?_)
  refine lv_iinc (v := x7 + (1 : Int32)) (lv' := [(7, .int (x7 + (1 : Int32))), (0, .ref (ad 4)), (1, .int x1), (2, .int x2), (3, .int x3), (4, .int x4), (5, .long x5)]) hx hb dX6_passLine_102 hl (k := 6) rfl rfl (by decide) rfl (fun ls hl => ?_)
  refine lv_goto (tgt := 60) hx hb dX6_passLine_105 (by decide) ?_
  exact hk60 _ _ _ _ _ _ _ _ h _ _ _ _ hw (lv_sub hl [1, 2, 3, 4, 5, 6, 0] rfl)
def wp_X6_passLine_60 (post : Sg → Tg → Prop) (k22 : Int32 → Int32 → Int32 → Sg → Tg → Prop) : Nat → Int32 → Int32 → Int32 → Int32 → Int64 → Int32 → Sg → Tg → Prop
  | 0, _, _, _, _, _, _, _, _ => False
  | n + 1, x1, x2, x3, x4, x5, x7, σ, τ =>
    (x2 < x7 →
    k22 x1 x2 (x3 + (1 : Int32)) σ τ) ∧
    (¬ x2 < x7 →
    wp_X0_unpack x4 σ τ (fun σ_2 τ_3 =>
    (x7 = 0 →
    wp_X6_passLine_93 post (fun zx1 zx2 zx3 zx4 zx5 zx7 zσ zτ => wp_X6_passLine_60 post k22 n zx1 zx2 zx3 zx4 zx5 zx7 zσ zτ) x1 x2 x3 x4 x5 x7 σ_2 τ_3) ∧
    (¬ x7 = 0 →
    wp_X0_allowHead x1 x7 σ_2 τ_3 (fun r_5 σ_6 τ_7 =>
    (r_5 = 0 →
    wp_X6_passLine_60 post k22 n x1 x2 x3 x4 x5 (x7 + (1 : Int32)) σ_6 τ_7) ∧
    (¬ r_5 = 0 →
    wp_X6_passLine_93 post (fun zx1 zx2 zx3 zx4 zx5 zx7 zσ zτ => wp_X6_passLine_60 post k22 n zx1 zx2 zx3 zx4 zx5 zx7 zσ zτ) x1 x2 x3 x4 x5 x7 σ_6 τ_7)))))
set_option maxHeartbeats 4000000 in
set_option maxRecDepth 100000 in
theorem w_X6_passLine_60 (C0 : Mc p m c meth cX6_passLine 8 s args wsX6_passLine RX6 none D cy A) {post : Sg → Tg → Prop} {k22 : Int32 → Int32 → Int32 → Sg → Tg → Prop} (hk22 : ∀ (x1 : Int32) (x2 : Int32) (x3 : Int32) (σ : Sg) (τ : Tg), k22 x1 x2 x3 σ τ → ∀ κ : Nat → Nat, G_X6_passLine p l e s m args below meth c D A cy ad post (cfW cy ad κ σ τ) 8 [(0, .ref (ad 4)), (1, .int x1), (2, .int x2), (3, .int x3)] 22 []) : ∀ (n : Nat) (x1 : Int32) (x2 : Int32) (x3 : Int32) (x4 : Int32) (x5 : Int64) (x7 : Int32) (σ : Sg) (τ : Tg), wp_X6_passLine_60 post k22 n x1 x2 x3 x4 x5 x7 σ τ → ∀ κ : Nat → Nat, G_X6_passLine p l e s m args below meth c D A cy ad post (cfW cy ad κ σ τ) 8 [(0, .ref (ad 4)), (1, .int x1), (2, .int x2), (3, .int x3), (4, .int x4), (5, .long x5), (7, .int x7)] 60 [] := by
  obtain ⟨⟨hx, hb, hml, hown, hts⟩, hr, hlocks, hkx, hA⟩ := id C0
  intro n
  induction n with
  | zero => intro x1 x2 x3 x4 x5 x7 σ τ h; exact False.elim h
  | succ n ih =>
    intro x1 x2 x3 x4 x5 x7 σ τ h κ H locs ls hw hl
    unfold wp_X6_passLine_60 at h
    refine lv_iload hx hb dX6_passLine_60 (lv_at hl 6 rfl) ?_
    refine lv_iload_n hx hb dX6_passLine_62 rfl (lv_at hl 2 rfl) ?_
    refine lv_icmp_gt (tgt := 108) hx hb dX6_passLine_63 (by decide) (fun c_1 => ?_) (fun c_1 => ?_)
    · replace h := h.1 c_1
      refine lv_iinc (v := x3 + (1 : Int32)) (lv' := [(3, .int (x3 + (1 : Int32))), (0, .ref (ad 4)), (1, .int x1), (2, .int x2), (4, .int x4), (5, .long x5), (7, .int x7)]) hx hb dX6_passLine_108 hl (k := 3) rfl rfl (by decide) rfl (fun ls hl => ?_)
      refine lv_goto (tgt := 22) hx hb dX6_passLine_111 (by decide) ?_
      exact hk22 _ _ _ _ _ h _ _ _ _ hw (lv_sub hl [1, 2, 3, 0] rfl)
    · replace h := h.2 c_1
      refine lv_aload_n hx hb dX6_passLine_66 rfl (lv_at hl 0 rfl) ?_
      refine cg_tr_counters hx hb hts inw_X6_passLine_X6 hown hkx hw (hts _ (List.mem_of_getElem? (i := 7) rfl)) dX6_passLine_67 ?_
      refine lv_iload hx hb dX6_passLine_70 (lv_at hl 4 rfl) ?_
      refine cf_Vv (As := [.int x4]) ⟨hx, hb, hml, hown, hts⟩ hkx hw hA (c_X0_unpack l D cy ad κ σ τ x4 _ h) (cwV 1 hts gX6_passLine_X0_unpack rfl rfl rfl hd_X0_unpack ⟨Nat.le_of_ble_eq_true rfl, Nat.le_of_ble_eq_true rfl⟩) 5 0 rfl rfl rfl hl.1 rfl (Nat.le_of_ble_eq_true rfl) dX6_passLine_72 ⟨Nat.zero_le _, Nat.zero_le _⟩ (fun κ σ_2 τ_3 H locs h hw => ?_)
      refine lv_iload hx hb dX6_passLine_75 (lv_at hl 6 rfl) ?_
      refine lv_if_eq (tgt := 93) hx hb dX6_passLine_77 (by decide) (fun c_4 => ?_) (fun c_4 => ?_)
      · replace h := h.1 c_4
        exact w_X6_passLine_93 C0 ih _ _ _ _ _ _ _ _ h _ _ _ _ hw (lv_sub hl [0, 1, 2, 3, 4, 5, 6] rfl)
      · replace h := h.2 c_4
        refine lv_aload_n hx hb dX6_passLine_80 rfl (lv_at hl 0 rfl) ?_
        refine cg_tr_counters hx hb hts inw_X6_passLine_X6 hown hkx hw (hts _ (List.mem_of_getElem? (i := 7) rfl)) dX6_passLine_81 ?_
        refine lv_iload_n hx hb dX6_passLine_84 rfl (lv_at hl 1 rfl) ?_
        refine lv_iload hx hb dX6_passLine_85 (lv_at hl 6 rfl) ?_
        refine cf_Vi (As := [.int x1, .int x7]) ⟨hx, hb, hml, hown, hts⟩ hkx hw hA (c_X0_allowHead l D cy ad κ σ_2 τ_3 x1 x7 _ h) (cwV 2 hts gX6_passLine_X0_allowHead rfl rfl rfl hd_X0_allowHead ⟨Nat.le_of_ble_eq_true rfl, Nat.le_of_ble_eq_true rfl⟩) 5 0 rfl rfl rfl hl.1 rfl (Nat.le_of_ble_eq_true rfl) dX6_passLine_87 ⟨Nat.zero_le _, Nat.zero_le _⟩ (fun r_5 κ σ_6 τ_7 H locs h hw => ?_)
        refine lv_if_eq (tgt := 102) hx hb dX6_passLine_90 (by decide) (fun c_8 => ?_) (fun c_8 => ?_)
        · replace h := h.1 c_8
          refine lv_iinc (v := x7 + (1 : Int32)) (lv' := [(7, .int (x7 + (1 : Int32))), (0, .ref (ad 4)), (1, .int x1), (2, .int x2), (3, .int x3), (4, .int x4), (5, .long x5)]) hx hb dX6_passLine_102 hl (k := 6) rfl rfl (by decide) rfl (fun ls hl => ?_)
          refine lv_goto (tgt := 60) hx hb dX6_passLine_105 (by decide) ?_
          exact ih _ _ _ _ _ _ _ _ h _ _ _ _ hw (lv_sub hl [1, 2, 3, 4, 5, 6, 0] rfl)
        · replace h := h.2 c_8
          exact w_X6_passLine_93 C0 ih _ _ _ _ _ _ _ _ h _ _ _ _ hw (lv_sub hl [0, 1, 2, 3, 4, 5, 6] rfl)
def wp_X6_passLine_22 (post : Sg → Tg → Prop) : Nat → Int32 → Int32 → Int32 → Sg → Tg → Prop
  | 0, _, _, _, _, _ => False
  | n + 1, x1, x2, x3, σ, τ =>
    ((σ 8 0) ≤ x3 →
    wp_X6_swapRows σ τ (fun σ_2 τ_3 =>
    post σ_2 τ_3)) ∧
    (¬ (σ 8 0) ≤ x3 →
    vp_in x3 2744 ∧
    ∀ y_5 : Int32, y_5 = (σ 31 x3.toNatClampNeg) →
    vp_in y_5 2744 ∧
    ∀ y_7 : Int64, y_7 = (τ 0 y_5.toNatClampNeg) →
    vp_in y_5 2744 ∧
    ∀ τ_9 : Tg, τ_9 = va_up τ 0 (vp_updL (τ 0) y_5.toNatClampNeg (1152921504606846976 : Int64)) →
    ∃ fu, wp_X6_passLine_60 post (fun zx1 zx2 zx3 zσ zτ => wp_X6_passLine_22 post n zx1 zx2 zx3 zσ zτ) fu x1 x2 x3 y_5 y_7 (0 : Int32) σ τ_9)
set_option maxHeartbeats 4000000 in
set_option maxRecDepth 100000 in
theorem w_X6_passLine_22 (C0 : Mc p m c meth cX6_passLine 8 s args wsX6_passLine RX6 none D cy A) {post : Sg → Tg → Prop} : ∀ (n : Nat) (x1 : Int32) (x2 : Int32) (x3 : Int32) (σ : Sg) (τ : Tg), wp_X6_passLine_22 post n x1 x2 x3 σ τ → ∀ κ : Nat → Nat, G_X6_passLine p l e s m args below meth c D A cy ad post (cfW cy ad κ σ τ) 8 [(0, .ref (ad 4)), (1, .int x1), (2, .int x2), (3, .int x3)] 22 [] := by
  obtain ⟨⟨hx, hb, hml, hown, hts⟩, hr, hlocks, hkx, hA⟩ := id C0
  intro n
  induction n with
  | zero => intro x1 x2 x3 σ τ h; exact False.elim h
  | succ n ih =>
    intro x1 x2 x3 σ τ h κ H locs ls hw hl
    unfold wp_X6_passLine_22 at h
    refine lv_iload_n hx hb dX6_passLine_22 rfl (lv_at hl 3 rfl) ?_
    refine lv_aload_n hx hb dX6_passLine_23 rfl (lv_at hl 0 rfl) ?_
    refine cg_tr_reached hx hb hts inw_X6_passLine_X6 hown hkx hw (hts _ (List.mem_of_getElem? (i := 3) rfl)) dX6_passLine_24 ?_
    refine lv_icmp_ge (tgt := 114) hx hb dX6_passLine_27 (by decide) (fun c_1 => ?_) (fun c_1 => ?_)
    · replace h := h.1 c_1
      refine lv_aload_n hx hb dX6_passLine_114 rfl (lv_at hl 0 rfl) ?_
      refine cf_Vv (As := []) ⟨hx, hb, hml, hown, hts⟩ hkx hw hA (c_X6_swapRows l D cy ad κ σ τ _ h) (cwV 0 hts gX6_passLine_X6_swapRows rfl rfl rfl hd_X6_swapRows ⟨Nat.le_of_ble_eq_true rfl, Nat.le_of_ble_eq_true rfl⟩) 4 6 rfl rfl rfl hl.1 rfl (Nat.le_of_ble_eq_true rfl) dX6_passLine_115 ⟨Nat.zero_le _, Nat.zero_le _⟩ (fun κ σ_2 τ_3 H locs h hw => ?_)
      exact end_v (w1 := (cfU cy ad)) (u := (κ, σ_2, τ_3)) C0 hw h dX6_passLine_118
    · replace h := h.2 c_1
      refine lv_aload_n hx hb dX6_passLine_30 rfl (lv_at hl 0 rfl) ?_
      refine cg_tr_states hx hb hts inw_X6_passLine_X6 hown hkx hw (hts _ (List.mem_of_getElem? (i := 4) rfl)) dX6_passLine_31 ?_
      refine lv_iload_n hx hb dX6_passLine_34 rfl (lv_at hl 3 rfl) ?_
      obtain ⟨b_4, h⟩ := h
      refine ca_states hx hb hkx hw b_4 dX6_passLine_35 ?_
      refine lv_topi (fun y_5 ey_5 => ?_)
      replace h := h y_5 ey_5
      refine lv_istore (lv' := [(4, .int y_5), (0, .ref (ad 4)), (1, .int x1), (2, .int x2), (3, .int x3)]) hx hb dX6_passLine_36 hl (by decide) rfl (fun ls hl => ?_)
      refine lv_aload_n hx hb dX6_passLine_38 rfl (lv_at hl 1 rfl) ?_
      refine cg_tr_keys hx hb hts inw_X6_passLine_X6 hown hkx hw (hts _ (List.mem_of_getElem? (i := 5) rfl)) dX6_passLine_39 ?_
      refine lv_iload hx hb dX6_passLine_42 (lv_at hl 0 rfl) ?_
      obtain ⟨b_6, h⟩ := h
      refine ca_keys hx hb hkx hw b_6 dX6_passLine_44 ?_
      refine lv_topl (fun y_7 ey_7 => ?_)
      replace h := h y_7 ey_7
      refine lv_lstore (lv' := [(5, .long y_7), (4, .int y_5), (0, .ref (ad 4)), (1, .int x1), (2, .int x2), (3, .int x3)]) hx hb dX6_passLine_45 hl (by decide) rfl (fun ls hl => ?_)
      refine lv_aload_n hx hb dX6_passLine_47 rfl (lv_at hl 2 rfl) ?_
      refine cg_tr_keys hx hb hts inw_X6_passLine_X6 hown hkx hw (hts _ (List.mem_of_getElem? (i := 5) rfl)) dX6_passLine_48 ?_
      refine lv_iload hx hb dX6_passLine_51 (lv_at hl 1 rfl) ?_
      refine lv_ldc2 hx hb hown (hts _ (List.mem_of_getElem? (i := 6) rfl)) dX6_passLine_53 ?_
      obtain ⟨b_8, h⟩ := h
      refine cs_keys hx hb hkx hw b_8 dX6_passLine_56 (fun τ_9 eτ_9 H locs hw => ?_)
      replace h := h τ_9 eτ_9
      refine lv_iconst (v := 0) hx hb dX6_passLine_57 (by decide) ?_
      refine lv_istore (lv' := [(7, .int (0 : Int32)), (5, .long y_7), (4, .int y_5), (0, .ref (ad 4)), (1, .int x1), (2, .int x2), (3, .int x3)]) hx hb dX6_passLine_58 hl (by decide) rfl (fun ls hl => ?_)
      obtain ⟨n_10, h⟩ := h
      exact w_X6_passLine_60 C0 ih n_10 _ _ _ _ _ _ _ _ h _ _ _ _ hw (lv_sub hl [3, 4, 5, 6, 2, 1, 0] rfl)
def wp_X6_passLine_14 (post : Sg → Tg → Prop) (x1 : Int32) (s0 : Int32) (σ : Sg) (τ : Tg) : Prop :=
    ∀ σ_1 : Sg, σ_1 = va_up σ 9 (fun _ => (0 : Int32)) →
    ∃ fu, wp_X6_passLine_22 post fu x1 s0 (0 : Int32) σ_1 τ
set_option maxHeartbeats 4000000 in
set_option maxRecDepth 100000 in
theorem w_X6_passLine_14 (C0 : Mc p m c meth cX6_passLine 8 s args wsX6_passLine RX6 none D cy A) {post : Sg → Tg → Prop} : ∀ (x1 : Int32) (s0 : Int32) (σ : Sg) (τ : Tg), wp_X6_passLine_14 post x1 s0 σ τ → ∀ κ : Nat → Nat, G_X6_passLine p l e s m args below meth c D A cy ad post (cfW cy ad κ σ τ) 8 [(0, .ref (ad 4)), (1, .int x1)] 14 [.int s0] := by
  obtain ⟨⟨hx, hb, hml, hown, hts⟩, hr, hlocks, hkx, hA⟩ := id C0
  intro x1 s0 σ τ h κ H locs ls hw hl
  unfold wp_X6_passLine_14 at h
  refine lv_istore_n (lv' := [(2, .int s0), (0, .ref (ad 4)), (1, .int x1)]) hx hb dX6_passLine_14 rfl hl (by decide) rfl (fun ls hl => ?_)
  refine lv_aload_n hx hb dX6_passLine_15 rfl (lv_at hl 1 rfl) ?_
  refine lv_iconst (v := 0) hx hb dX6_passLine_16 (by decide) ?_
  refine cp_tr_nextReached hx hb hts inw_X6_passLine_X6 hown hkx hw (hts _ (List.mem_of_getElem? (i := 2) rfl)) dX6_passLine_17 (fun σ_1 eσ_1 H locs hw => ?_)
  replace h := h σ_1 eσ_1
  refine lv_iconst (v := 0) hx hb dX6_passLine_20 (by decide) ?_
  refine lv_istore_n (lv' := [(3, .int (0 : Int32)), (2, .int s0), (0, .ref (ad 4)), (1, .int x1)]) hx hb dX6_passLine_21 rfl hl (by decide) rfl (fun ls hl => ?_)
  obtain ⟨n_2, h⟩ := h
  exact w_X6_passLine_22 C0 n_2 _ _ _ _ _ h _ _ _ _ hw (lv_sub hl [2, 3, 1, 0] rfl)
def wp_X6_passLine (x1 : Int32) (σ : Sg) (τ : Tg) (post : Sg → Tg → Prop) : Prop :=
    vp_in x1 20 ∧
    ((σ 27 x1.toNatClampNeg) = 0 →
    wp_X6_passLine_14 post x1 (3 : Int32) σ τ) ∧
    (¬ (σ 27 x1.toNatClampNeg) = 0 →
    wp_X6_passLine_14 post x1 (0 : Int32) σ τ)
set_option maxHeartbeats 4000000 in
set_option maxRecDepth 100000 in
theorem c_X6_passLine (l : Launch) (D : va_G) (cy : Nat → ClassId) (ad κ : Nat → Nat) (σ : Sg) (τ : Tg) (x1 : Int32) (post : Sg → Tg → Prop) (h : wp_X6_passLine x1 σ τ post) : Ct l yX6_passLine wsX6_passLine rm_X6_passLine D cy [.ref (ad 4), .int x1] (cfW cy ad κ σ τ) 0 0 (Rv D (cfU cy ad) (fun u => post u.2.1 u.2.2)) := by
  refine Ct.of (cc := cX6_passLine) (maxL := 8) (rt := none) (by decide) rfl (Nat.le_of_ble_eq_true rfl) ?_
  intro p e s m below meth c A C0 _ H locs ls hw hl
  obtain ⟨⟨hx, hb, hml, hown, hts⟩, hr, hlocks, hkx, hA⟩ := id C0
  have hl : lv_has ls 8 [(0, .ref (ad 4)), (1, .int x1)] := hl
  unfold wp_X6_passLine at h
  refine lv_aload_n hx hb dX6_passLine_0 rfl (lv_at hl 0 rfl) ?_
  refine cg_tr_running hx hb hts inw_X6_passLine_X6 hown hkx hw (hts _ (List.mem_of_getElem? (i := 1) rfl)) dX6_passLine_1 ?_
  refine lv_iload_n hx hb dX6_passLine_4 rfl (lv_at hl 1 rfl) ?_
  obtain ⟨b_1, h⟩ := h
  refine ca_running hx hb hkx hw b_1 dX6_passLine_5 ?_
  refine lv_if_eq (tgt := 13) hx hb dX6_passLine_6 (by decide) (fun c_2 => ?_) (fun c_2 => ?_)
  · replace h := h.1 c_2
    refine lv_iconst (v := 3) hx hb dX6_passLine_13 (by decide) ?_
    exact w_X6_passLine_14 C0 _ _ _ _ h _ _ _ _ hw (lv_sub hl [0, 1] rfl)
  · replace h := h.2 c_2
    refine lv_iconst (v := 0) hx hb dX6_passLine_9 (by decide) ?_
    refine lv_goto (tgt := 14) hx hb dX6_passLine_10 (by decide) ?_
    exact w_X6_passLine_14 C0 _ _ _ _ h _ _ _ _ hw (lv_sub hl [0, 1] rfl)
end
theorem hd_X6_takeLeastKey : yX6_takeLeastKey.cls = RX6 ∧ yX6_takeLeastKey.cls ≠ "java/lang/invoke/MethodHandle" ∧ yX6_takeLeastKey.cls ≠ "java/lang/invoke/VarHandle" ∧ (parseMethodDescriptor yX6_takeLeastKey.desc).map (fun d => d.parameters.length) = some 0 := by decide +kernel
section
variable {p : Program} {l : Launch} {e : Env} {s : State} {m : MethodId} {args : Array Value} {below : List Frame} {meth : Method} {c : Code} {D : va_G} {cy : Nat → ClassId} {A : Nat → Prop} {ad : Nat → Nat}
abbrev rm_X6_takeLeastKey : Room := { frames := 1, cells := 0, slots := 0, locals := 40 }
theorem inw_X6_takeLeastKey_X6 : ∀ w ∈ u_ws RX6 TX6 15, w ∈ wsX6_takeLeastKey := fun _ h => List.mem_cons_of_mem _ (List.mem_append_right _ h)
abbrev G_X6_takeLeastKey (p : Program) (l : Launch) (e : Env) (s : State) (m : MethodId) (args : Array Value) (below : List Frame) (meth : Method) (c : Code) (D : va_G) (A : Nat → Prop) (cy : Nat → ClassId) (ad : Nat → Nat) (post : Int64 → Sg → Tg → Prop) : va_W → Nat → List (Nat × Value) → Nat → List Value → Prop := Gw p l e rm_X6_takeLeastKey s m args below meth c D A (MQ below ((Rl D (cfU cy ad) (fun r u => post r u.2.1 u.2.2)) A) args s 0 0 A)
def wp_X6_takeLeastKey_6 (post : Int64 → Sg → Tg → Prop) : Nat → Int64 → Int32 → Sg → Tg → Prop
  | 0, _, _, _, _ => False
  | n + 1, x1, x3, σ, τ =>
    ((σ 8 0) ≤ x3 →
    post x1 σ τ) ∧
    (¬ (σ 8 0) ≤ x3 →
    vp_in x3 2744 ∧
    vp_in (σ 31 x3.toNatClampNeg) 2744 ∧
    ∀ y_4 : Int64, y_4 = (if (τ 0 (σ 31 x3.toNatClampNeg).toNatClampNeg) < x1 then (τ 0 (σ 31 x3.toNatClampNeg).toNatClampNeg) else x1) →
    vp_in x3 2744 ∧
    vp_in (σ 31 x3.toNatClampNeg) 2744 ∧
    ∀ τ_7 : Tg, τ_7 = va_up τ 0 (vp_updL (τ 0) (σ 31 x3.toNatClampNeg).toNatClampNeg (1152921504606846976 : Int64)) →
    wp_X6_takeLeastKey_6 post n y_4 (x3 + (1 : Int32)) σ τ_7)
set_option maxHeartbeats 4000000 in
set_option maxRecDepth 100000 in
theorem w_X6_takeLeastKey_6 (C0 : Mc p m c meth cX6_takeLeastKey 4 s args wsX6_takeLeastKey RX6 (some .long) D cy A) {post : Int64 → Sg → Tg → Prop} : ∀ (n : Nat) (x1 : Int64) (x3 : Int32) (σ : Sg) (τ : Tg), wp_X6_takeLeastKey_6 post n x1 x3 σ τ → ∀ κ : Nat → Nat, G_X6_takeLeastKey p l e s m args below meth c D A cy ad post (cfW cy ad κ σ τ) 4 [(0, .ref (ad 4)), (1, .long x1), (3, .int x3)] 6 [] := by
  obtain ⟨⟨hx, hb, hml, hown, hts⟩, hr, hlocks, hkx, hA⟩ := id C0
  intro n
  induction n with
  | zero => intro x1 x3 σ τ h; exact False.elim h
  | succ n ih =>
    intro x1 x3 σ τ h κ H locs ls hw hl
    unfold wp_X6_takeLeastKey_6 at h
    refine lv_iload_n hx hb dX6_takeLeastKey_6 rfl (lv_at hl 2 rfl) ?_
    refine lv_aload_n hx hb dX6_takeLeastKey_7 rfl (lv_at hl 0 rfl) ?_
    refine cg_tr_reached hx hb hts inw_X6_takeLeastKey_X6 hown hkx hw (hts _ (List.mem_of_getElem? (i := 2) rfl)) dX6_takeLeastKey_8 ?_
    refine lv_icmp_ge (tgt := 50) hx hb dX6_takeLeastKey_11 (by decide) (fun c_1 => ?_) (fun c_1 => ?_)
    · replace h := h.1 c_1
      refine lv_lload_n hx hb dX6_takeLeastKey_50 rfl (lv_at hl 1 rfl) ?_
      exact end_l (w1 := (cfU cy ad)) (u := (κ, σ, τ)) C0 hw h dX6_takeLeastKey_51
    · replace h := h.2 c_1
      refine lv_lload_n hx hb dX6_takeLeastKey_14 rfl (lv_at hl 1 rfl) ?_
      refine lv_aload_n hx hb dX6_takeLeastKey_15 rfl (lv_at hl 0 rfl) ?_
      refine cg_tr_keys hx hb hts inw_X6_takeLeastKey_X6 hown hkx hw (hts _ (List.mem_of_getElem? (i := 3) rfl)) dX6_takeLeastKey_16 ?_
      refine lv_aload_n hx hb dX6_takeLeastKey_19 rfl (lv_at hl 0 rfl) ?_
      refine cg_tr_states hx hb hts inw_X6_takeLeastKey_X6 hown hkx hw (hts _ (List.mem_of_getElem? (i := 4) rfl)) dX6_takeLeastKey_20 ?_
      refine lv_iload_n hx hb dX6_takeLeastKey_23 rfl (lv_at hl 2 rfl) ?_
      obtain ⟨b_2, h⟩ := h
      refine ca_states hx hb hkx hw b_2 dX6_takeLeastKey_24 ?_
      obtain ⟨b_3, h⟩ := h
      refine ca_keys hx hb hkx hw b_3 dX6_takeLeastKey_25 ?_
      refine va_mmin_long hx hb (hml.trans hl.1.symm) hown (hts _ (List.mem_of_getElem? (i := 5) rfl)) (hts _ (List.mem_of_getElem? (i := 6) rfl)) (hts _ (List.mem_of_getElem? (i := 7) rfl)) (hts _ (List.mem_of_getElem? (i := 8) rfl)) (Nat.le_of_ble_eq_true rfl) (Nat.le_of_ble_eq_true rfl) (Nat.zero_le _) (Nat.zero_le _) dX6_takeLeastKey_26 ?_
      refine lv_topl (fun y_4 ey_4 => ?_)
      replace h := h y_4 ey_4
      refine lv_lstore_n (lv' := [(1, .long y_4), (0, .ref (ad 4)), (3, .int x3)]) hx hb dX6_takeLeastKey_29 rfl hl (by decide) rfl (fun ls hl => ?_)
      refine lv_aload_n hx hb dX6_takeLeastKey_30 rfl (lv_at hl 1 rfl) ?_
      refine cg_tr_keys hx hb hts inw_X6_takeLeastKey_X6 hown hkx hw (hts _ (List.mem_of_getElem? (i := 3) rfl)) dX6_takeLeastKey_31 ?_
      refine lv_aload_n hx hb dX6_takeLeastKey_34 rfl (lv_at hl 1 rfl) ?_
      refine cg_tr_states hx hb hts inw_X6_takeLeastKey_X6 hown hkx hw (hts _ (List.mem_of_getElem? (i := 4) rfl)) dX6_takeLeastKey_35 ?_
      refine lv_iload_n hx hb dX6_takeLeastKey_38 rfl (lv_at hl 2 rfl) ?_
      obtain ⟨b_5, h⟩ := h
      refine ca_states hx hb hkx hw b_5 dX6_takeLeastKey_39 ?_
      refine lv_ldc2 hx hb hown (hts _ (List.mem_of_getElem? (i := 1) rfl)) dX6_takeLeastKey_40 ?_
      obtain ⟨b_6, h⟩ := h
      refine cs_keys hx hb hkx hw b_6 dX6_takeLeastKey_43 (fun τ_7 eτ_7 H locs hw => ?_)
      replace h := h τ_7 eτ_7
      refine lv_iinc (v := x3 + (1 : Int32)) (lv' := [(3, .int (x3 + (1 : Int32))), (1, .long y_4), (0, .ref (ad 4))]) hx hb dX6_takeLeastKey_44 hl (k := 2) rfl rfl (by decide) rfl (fun ls hl => ?_)
      refine lv_goto (tgt := 6) hx hb dX6_takeLeastKey_47 (by decide) ?_
      exact ih _ _ _ _ h _ _ _ _ hw (lv_sub hl [2, 1, 0] rfl)
def wp_X6_takeLeastKey (σ : Sg) (τ : Tg) (post : Int64 → Sg → Tg → Prop) : Prop :=
    ∃ fu, wp_X6_takeLeastKey_6 post fu (1152921504606846976 : Int64) (0 : Int32) σ τ
set_option maxHeartbeats 4000000 in
set_option maxRecDepth 100000 in
theorem c_X6_takeLeastKey (l : Launch) (D : va_G) (cy : Nat → ClassId) (ad κ : Nat → Nat) (σ : Sg) (τ : Tg) (post : Int64 → Sg → Tg → Prop) (h : wp_X6_takeLeastKey σ τ post) : Ct l yX6_takeLeastKey wsX6_takeLeastKey rm_X6_takeLeastKey D cy [.ref (ad 4)] (cfW cy ad κ σ τ) 0 0 (Rl D (cfU cy ad) (fun r u => post r u.2.1 u.2.2)) := by
  refine Ct.of (cc := cX6_takeLeastKey) (maxL := 4) (rt := (some .long)) (by decide) rfl (Nat.le_of_ble_eq_true rfl) ?_
  intro p e s m below meth c A C0 _ H locs ls hw hl
  obtain ⟨⟨hx, hb, hml, hown, hts⟩, hr, hlocks, hkx, hA⟩ := id C0
  have hl : lv_has ls 4 [(0, .ref (ad 4))] := hl
  unfold wp_X6_takeLeastKey at h
  refine lv_ldc2 hx hb hown (hts _ (List.mem_of_getElem? (i := 1) rfl)) dX6_takeLeastKey_0 ?_
  refine lv_lstore_n (lv' := [(1, .long (1152921504606846976 : Int64)), (0, .ref (ad 4))]) hx hb dX6_takeLeastKey_3 rfl hl (by decide) rfl (fun ls hl => ?_)
  refine lv_iconst (v := 0) hx hb dX6_takeLeastKey_4 (by decide) ?_
  refine lv_istore_n (lv' := [(3, .int (0 : Int32)), (1, .long (1152921504606846976 : Int64)), (0, .ref (ad 4))]) hx hb dX6_takeLeastKey_5 rfl hl (by decide) rfl (fun ls hl => ?_)
  obtain ⟨n_1, h⟩ := h
  exact w_X6_takeLeastKey_6 C0 n_1 _ _ _ _ h _ _ _ _ hw (lv_sub hl [2, 1, 0] rfl)
end
theorem hd_X6_tellLevels : yX6_tellLevels.cls = RX6 ∧ yX6_tellLevels.cls ≠ "java/lang/invoke/MethodHandle" ∧ yX6_tellLevels.cls ≠ "java/lang/invoke/VarHandle" ∧ (parseMethodDescriptor yX6_tellLevels.desc).map (fun d => d.parameters.length) = some 1 := by decide +kernel
section
variable {p : Program} {l : Launch} {e : Env} {s : State} {m : MethodId} {args : Array Value} {below : List Frame} {meth : Method} {c : Code} {D : va_G} {cy : Nat → ClassId} {A : Nat → Prop} {ad : Nat → Nat}
abbrev rm_X6_tellLevels : Room := { frames := 0, cells := 0, slots := 0, locals := 0 }
theorem inw_X6_tellLevels_X1 : ∀ w ∈ u_ws RX1 TX1 9, w ∈ wsX6_tellLevels := fun _ h => List.mem_cons_of_mem _ (List.mem_append_right _ h)
theorem inw_X6_tellLevels_X6 : ∀ w ∈ u_ws RX6 TX6 15, w ∈ wsX6_tellLevels := fun _ h => List.mem_cons_of_mem _ (List.mem_append_left _ (List.mem_append_right _ h))
abbrev G_X6_tellLevels (p : Program) (l : Launch) (e : Env) (s : State) (m : MethodId) (args : Array Value) (below : List Frame) (meth : Method) (c : Code) (D : va_G) (A : Nat → Prop) (cy : Nat → ClassId) (ad : Nat → Nat) (post : Sg → Tg → Prop) : va_W → Nat → List (Nat × Value) → Nat → List Value → Prop := Gw p l e rm_X6_tellLevels s m args below meth c D A (MQ below ((Rv D (cfU cy ad) (fun u => post u.2.1 u.2.2)) A) args s 0 0 A)
def wp_X6_tellLevels_16 (post : Sg → Tg → Prop) : Nat → Int64 → Int32 → Sg → Tg → Prop
  | 0, _, _, _, _ => False
  | n + 1, x1, x3, σ, τ =>
    ((σ 5 0) ≤ x3 →
    post σ τ) ∧
    (¬ (σ 5 0) ≤ x3 →
    vp_in x3 20 ∧
    ∀ σ_3 : Sg, σ_3 = va_up σ 28 (upd (σ 28) x3.toNatClampNeg (((x1 >>> (((2 : Int32) * ((19 : Int32) - x3)).toInt64 &&& 63)) &&& (3 : Int64)).toInt32)) →
    vp_in x3 20 ∧
    ((σ_3 28 x3.toNatClampNeg) ≤ 0 →
    ∀ σ_6 : Sg, σ_6 = va_up σ_3 6 (fun _ => (σ_3 6 0) + (0 : Int32)) →
    wp_X6_tellLevels_16 post n x1 (x3 + (1 : Int32)) σ_6 τ) ∧
    (¬ (σ_3 28 x3.toNatClampNeg) ≤ 0 →
    ∀ σ_7 : Sg, σ_7 = va_up σ_3 6 (fun _ => (σ_3 6 0) + (1 : Int32)) →
    wp_X6_tellLevels_16 post n x1 (x3 + (1 : Int32)) σ_7 τ))
set_option maxHeartbeats 4000000 in
set_option maxRecDepth 100000 in
theorem w_X6_tellLevels_16 (C0 : Mc p m c meth cX6_tellLevels 4 s args wsX6_tellLevels RX6 none D cy A) {post : Sg → Tg → Prop} : ∀ (n : Nat) (x1 : Int64) (x3 : Int32) (σ : Sg) (τ : Tg), wp_X6_tellLevels_16 post n x1 x3 σ τ → ∀ κ : Nat → Nat, G_X6_tellLevels p l e s m args below meth c D A cy ad post (cfW cy ad κ σ τ) 4 [(0, .ref (ad 4)), (1, .long x1), (3, .int x3)] 16 [] := by
  obtain ⟨⟨hx, hb, hml, hown, hts⟩, hr, hlocks, hkx, hA⟩ := id C0
  intro n
  induction n with
  | zero => intro x1 x3 σ τ h; exact False.elim h
  | succ n ih =>
    intro x1 x3 σ τ h κ H locs ls hw hl
    unfold wp_X6_tellLevels_16 at h
    refine lv_iload_n hx hb dX6_tellLevels_16 rfl (lv_at hl 2 rfl) ?_
    refine lv_aload_n hx hb dX6_tellLevels_17 rfl (lv_at hl 0 rfl) ?_
    refine cg_tr_lines hx hb hts inw_X6_tellLevels_X6 hown hkx hw (hts _ (List.mem_of_getElem? (i := 3) rfl)) dX6_tellLevels_18 ?_
    refine cg_ln_count hx hb hts inw_X6_tellLevels_X1 hown hkx hw (hts _ (List.mem_of_getElem? (i := 4) rfl)) dX6_tellLevels_21 ?_
    refine lv_icmp_ge (tgt := 75) hx hb dX6_tellLevels_24 (by decide) (fun c_1 => ?_) (fun c_1 => ?_)
    · replace h := h.1 c_1
      exact end_v (w1 := (cfU cy ad)) (u := (κ, σ, τ)) C0 hw h dX6_tellLevels_75
    · replace h := h.2 c_1
      refine lv_aload_n hx hb dX6_tellLevels_27 rfl (lv_at hl 0 rfl) ?_
      refine cg_tr_levels hx hb hts inw_X6_tellLevels_X6 hown hkx hw (hts _ (List.mem_of_getElem? (i := 5) rfl)) dX6_tellLevels_28 ?_
      refine lv_iload_n hx hb dX6_tellLevels_31 rfl (lv_at hl 2 rfl) ?_
      refine lv_lload_n hx hb dX6_tellLevels_32 rfl (lv_at hl 1 rfl) ?_
      refine lv_iconst (v := 2) hx hb dX6_tellLevels_33 (by decide) ?_
      refine lv_bipush (v := 19) hx hb dX6_tellLevels_34 (by decide) ?_
      refine lv_iload_n hx hb dX6_tellLevels_36 rfl (lv_at hl 2 rfl) ?_
      refine lv_isub hx hb dX6_tellLevels_37 ?_
      refine lv_imul hx hb dX6_tellLevels_38 ?_
      refine lv_lshr hx hb dX6_tellLevels_39 rfl ?_
      refine lv_ldc2 hx hb hown (hts _ (List.mem_of_getElem? (i := 6) rfl)) dX6_tellLevels_40 ?_
      refine lv_land hx hb dX6_tellLevels_43 ?_
      refine lv_l2i hx hb dX6_tellLevels_44 rfl ?_
      obtain ⟨b_2, h⟩ := h
      refine cs_levels hx hb hkx hw b_2 dX6_tellLevels_45 (fun σ_3 eσ_3 H locs hw => ?_)
      replace h := h σ_3 eσ_3
      refine lv_aload_n hx hb dX6_tellLevels_46 rfl (lv_at hl 0 rfl) ?_
      refine lv_dup hx hb dX6_tellLevels_47 rfl ?_
      refine cg_tr_heads hx hb hts inw_X6_tellLevels_X6 hown hkx hw (hts _ (List.mem_of_getElem? (i := 2) rfl)) dX6_tellLevels_48 ?_
      refine lv_aload_n hx hb dX6_tellLevels_51 rfl (lv_at hl 0 rfl) ?_
      refine cg_tr_levels hx hb hts inw_X6_tellLevels_X6 hown hkx hw (hts _ (List.mem_of_getElem? (i := 5) rfl)) dX6_tellLevels_52 ?_
      refine lv_iload_n hx hb dX6_tellLevels_55 rfl (lv_at hl 2 rfl) ?_
      obtain ⟨b_4, h⟩ := h
      refine ca_levels hx hb hkx hw b_4 dX6_tellLevels_56 ?_
      refine lv_if_le (tgt := 64) hx hb dX6_tellLevels_57 (by decide) (fun c_5 => ?_) (fun c_5 => ?_)
      · replace h := h.1 c_5
        refine lv_iconst (v := 0) hx hb dX6_tellLevels_64 (by decide) ?_
        refine lv_iadd hx hb dX6_tellLevels_65 ?_
        refine cp_tr_heads hx hb hts inw_X6_tellLevels_X6 hown hkx hw (hts _ (List.mem_of_getElem? (i := 2) rfl)) dX6_tellLevels_66 (fun σ_6 eσ_6 H locs hw => ?_)
        replace h := h σ_6 eσ_6
        refine lv_iinc (v := x3 + (1 : Int32)) (lv' := [(3, .int (x3 + (1 : Int32))), (0, .ref (ad 4)), (1, .long x1)]) hx hb dX6_tellLevels_69 hl (k := 2) rfl rfl (by decide) rfl (fun ls hl => ?_)
        refine lv_goto (tgt := 16) hx hb dX6_tellLevels_72 (by decide) ?_
        exact ih _ _ _ _ h _ _ _ _ hw (lv_sub hl [1, 2, 0] rfl)
      · replace h := h.2 c_5
        refine lv_iconst (v := 1) hx hb dX6_tellLevels_60 (by decide) ?_
        refine lv_goto (tgt := 65) hx hb dX6_tellLevels_61 (by decide) ?_
        refine lv_iadd hx hb dX6_tellLevels_65 ?_
        refine cp_tr_heads hx hb hts inw_X6_tellLevels_X6 hown hkx hw (hts _ (List.mem_of_getElem? (i := 2) rfl)) dX6_tellLevels_66 (fun σ_7 eσ_7 H locs hw => ?_)
        replace h := h σ_7 eσ_7
        refine lv_iinc (v := x3 + (1 : Int32)) (lv' := [(3, .int (x3 + (1 : Int32))), (0, .ref (ad 4)), (1, .long x1)]) hx hb dX6_tellLevels_69 hl (k := 2) rfl rfl (by decide) rfl (fun ls hl => ?_)
        refine lv_goto (tgt := 16) hx hb dX6_tellLevels_72 (by decide) ?_
        exact ih _ _ _ _ h _ _ _ _ hw (lv_sub hl [1, 2, 0] rfl)
def wp_X6_tellLevels (x1 : Int64) (σ : Sg) (τ : Tg) (post : Sg → Tg → Prop) : Prop :=
    ∀ σ_1 : Sg, σ_1 = va_up σ 7 (fun _ => (x1 >>> ((40 : Int32).toInt64 &&& 63)).toInt32) →
    ∀ σ_2 : Sg, σ_2 = va_up σ_1 6 (fun _ => (0 : Int32)) →
    ∃ fu, wp_X6_tellLevels_16 post fu x1 (0 : Int32) σ_2 τ
set_option maxHeartbeats 4000000 in
set_option maxRecDepth 100000 in
theorem c_X6_tellLevels (l : Launch) (D : va_G) (cy : Nat → ClassId) (ad κ : Nat → Nat) (σ : Sg) (τ : Tg) (x1 : Int64) (post : Sg → Tg → Prop) (h : wp_X6_tellLevels x1 σ τ post) : Ct l yX6_tellLevels wsX6_tellLevels rm_X6_tellLevels D cy [.ref (ad 4), .long x1] (cfW cy ad κ σ τ) 0 0 (Rv D (cfU cy ad) (fun u => post u.2.1 u.2.2)) := by
  refine Ct.of (cc := cX6_tellLevels) (maxL := 4) (rt := none) (by decide) rfl (Nat.le_of_ble_eq_true rfl) ?_
  intro p e s m below meth c A C0 _ H locs ls hw hl
  obtain ⟨⟨hx, hb, hml, hown, hts⟩, hr, hlocks, hkx, hA⟩ := id C0
  have hl : lv_has ls 4 [(0, .ref (ad 4)), (1, .long x1)] := hl
  unfold wp_X6_tellLevels at h
  refine lv_aload_n hx hb dX6_tellLevels_0 rfl (lv_at hl 0 rfl) ?_
  refine lv_lload_n hx hb dX6_tellLevels_1 rfl (lv_at hl 1 rfl) ?_
  refine lv_bipush (v := 40) hx hb dX6_tellLevels_2 (by decide) ?_
  refine lv_lshr hx hb dX6_tellLevels_4 rfl ?_
  refine lv_l2i hx hb dX6_tellLevels_5 rfl ?_
  refine cp_tr_cost hx hb hts inw_X6_tellLevels_X6 hown hkx hw (hts _ (List.mem_of_getElem? (i := 1) rfl)) dX6_tellLevels_6 (fun σ_1 eσ_1 H locs hw => ?_)
  replace h := h σ_1 eσ_1
  refine lv_aload_n hx hb dX6_tellLevels_9 rfl (lv_at hl 0 rfl) ?_
  refine lv_iconst (v := 0) hx hb dX6_tellLevels_10 (by decide) ?_
  refine cp_tr_heads hx hb hts inw_X6_tellLevels_X6 hown hkx hw (hts _ (List.mem_of_getElem? (i := 2) rfl)) dX6_tellLevels_11 (fun σ_2 eσ_2 H locs hw => ?_)
  replace h := h σ_2 eσ_2
  refine lv_iconst (v := 0) hx hb dX6_tellLevels_14 (by decide) ?_
  refine lv_istore_n (lv' := [(3, .int (0 : Int32)), (0, .ref (ad 4)), (1, .long x1)]) hx hb dX6_tellLevels_15 rfl hl (by decide) rfl (fun ls hl => ?_)
  obtain ⟨n_3, h⟩ := h
  exact w_X6_tellLevels_16 C0 n_3 _ _ _ _ h _ _ _ _ hw (lv_sub hl [1, 2, 0] rfl)
end
theorem hd_X6_tellCounters : yX6_tellCounters.cls = RX6 ∧ yX6_tellCounters.cls ≠ "java/lang/invoke/MethodHandle" ∧ yX6_tellCounters.cls ≠ "java/lang/invoke/VarHandle" ∧ (parseMethodDescriptor yX6_tellCounters.desc).map (fun d => d.parameters.length) = some 0 := by decide +kernel
section
variable {p : Program} {l : Launch} {e : Env} {s : State} {m : MethodId} {args : Array Value} {below : List Frame} {meth : Method} {c : Code} {D : va_G} {cy : Nat → ClassId} {A : Nat → Prop} {ad : Nat → Nat}
abbrev rm_X6_tellCounters : Room := { frames := 2, cells := 0, slots := 0, locals := 45 }
theorem inw_X6_tellCounters_X0 : ∀ w ∈ u_ws RX0 TX0 2, w ∈ wsX6_tellCounters := fun _ h => List.mem_cons_of_mem _ (List.mem_append_right _ h)
theorem inw_X6_tellCounters_X1 : ∀ w ∈ u_ws RX1 TX1 9, w ∈ wsX6_tellCounters := fun _ h => List.mem_cons_of_mem _ (List.mem_append_left _ (List.mem_append_right _ h))
theorem inw_X6_tellCounters_X6 : ∀ w ∈ u_ws RX6 TX6 15, w ∈ wsX6_tellCounters := fun _ h => List.mem_cons_of_mem _ (List.mem_append_left _ (List.mem_append_left _ (List.mem_append_right _ h)))
abbrev G_X6_tellCounters (p : Program) (l : Launch) (e : Env) (s : State) (m : MethodId) (args : Array Value) (below : List Frame) (meth : Method) (c : Code) (D : va_G) (A : Nat → Prop) (cy : Nat → ClassId) (ad : Nat → Nat) (post : Sg → Tg → Prop) : va_W → Nat → List (Nat × Value) → Nat → List Value → Prop := Gw p l e rm_X6_tellCounters s m args below meth c D A (MQ below ((Rv D (cfU cy ad) (fun u => post u.2.1 u.2.2)) A) args s 0 0 A)
def wp_X6_tellCounters_46 (post : Sg → Tg → Prop) (k10 : Int32 → Sg → Tg → Prop) : Nat → Int32 → Int32 → Sg → Tg → Prop
  | 0, _, _, _, _ => False
  | n + 1, x1, x2, σ, τ =>
    ((3 : Int32) < x2 →
    k10 (x1 + (1 : Int32)) σ τ) ∧
    (¬ (3 : Int32) < x2 →
    vp_in x2 4 ∧
    vp_in (((x1 * (3 : Int32)) + x2) - (1 : Int32)) 60 ∧
    ∀ σ_4 : Sg, σ_4 = va_up σ 29 (upd (σ 29) (((x1 * (3 : Int32)) + x2) - (1 : Int32)).toNatClampNeg (σ 33 x2.toNatClampNeg)) →
    wp_X6_tellCounters_46 post k10 n x1 (x2 + (1 : Int32)) σ_4 τ)
set_option maxHeartbeats 4000000 in
set_option maxRecDepth 100000 in
theorem w_X6_tellCounters_46 (C0 : Mc p m c meth cX6_tellCounters 3 s args wsX6_tellCounters RX6 none D cy A) {post : Sg → Tg → Prop} {k10 : Int32 → Sg → Tg → Prop} (hk10 : ∀ (x1 : Int32) (σ : Sg) (τ : Tg), k10 x1 σ τ → ∀ κ : Nat → Nat, G_X6_tellCounters p l e s m args below meth c D A cy ad post (cfW cy ad κ σ τ) 3 [(0, .ref (ad 4)), (1, .int x1)] 10 []) : ∀ (n : Nat) (x1 : Int32) (x2 : Int32) (σ : Sg) (τ : Tg), wp_X6_tellCounters_46 post k10 n x1 x2 σ τ → ∀ κ : Nat → Nat, G_X6_tellCounters p l e s m args below meth c D A cy ad post (cfW cy ad κ σ τ) 3 [(0, .ref (ad 4)), (1, .int x1), (2, .int x2)] 46 [] := by
  obtain ⟨⟨hx, hb, hml, hown, hts⟩, hr, hlocks, hkx, hA⟩ := id C0
  intro n
  induction n with
  | zero => intro x1 x2 σ τ h; exact False.elim h
  | succ n ih =>
    intro x1 x2 σ τ h κ H locs ls hw hl
    unfold wp_X6_tellCounters_46 at h
    refine lv_iload_n hx hb dX6_tellCounters_46 rfl (lv_at hl 2 rfl) ?_
    refine lv_iconst (v := 3) hx hb dX6_tellCounters_47 (by decide) ?_
    refine lv_icmp_gt (tgt := 78) hx hb dX6_tellCounters_48 (by decide) (fun c_1 => ?_) (fun c_1 => ?_)
    · replace h := h.1 c_1
      refine lv_iinc (v := x1 + (1 : Int32)) (lv' := [(1, .int (x1 + (1 : Int32))), (0, .ref (ad 4)), (2, .int x2)]) hx hb dX6_tellCounters_78 hl (k := 1) rfl rfl (by decide) rfl (fun ls hl => ?_)
      refine lv_goto (tgt := 10) hx hb dX6_tellCounters_81 (by decide) ?_
      exact hk10 _ _ _ h _ _ _ _ hw (lv_sub hl [1, 0] rfl)
    · replace h := h.2 c_1
      refine lv_aload_n hx hb dX6_tellCounters_51 rfl (lv_at hl 0 rfl) ?_
      refine cg_tr_countersBehind hx hb hts inw_X6_tellCounters_X6 hown hkx hw (hts _ (List.mem_of_getElem? (i := 5) rfl)) dX6_tellCounters_52 ?_
      refine lv_iload_n hx hb dX6_tellCounters_55 rfl (lv_at hl 1 rfl) ?_
      refine lv_iconst (v := 3) hx hb dX6_tellCounters_56 (by decide) ?_
      refine lv_imul hx hb dX6_tellCounters_57 ?_
      refine lv_iload_n hx hb dX6_tellCounters_58 rfl (lv_at hl 2 rfl) ?_
      refine lv_iadd hx hb dX6_tellCounters_59 ?_
      refine lv_iconst (v := 1) hx hb dX6_tellCounters_60 (by decide) ?_
      refine lv_isub hx hb dX6_tellCounters_61 ?_
      refine lv_aload_n hx hb dX6_tellCounters_62 rfl (lv_at hl 0 rfl) ?_
      refine cg_tr_counters hx hb hts inw_X6_tellCounters_X6 hown hkx hw (hts _ (List.mem_of_getElem? (i := 1) rfl)) dX6_tellCounters_63 ?_
      refine cg_co_at hx hb hts inw_X6_tellCounters_X0 hown hkx hw (hts _ (List.mem_of_getElem? (i := 6) rfl)) dX6_tellCounters_66 ?_
      refine lv_iload_n hx hb dX6_tellCounters_69 rfl (lv_at hl 2 rfl) ?_
      obtain ⟨b_2, h⟩ := h
      refine ca_at hx hb hkx hw b_2 dX6_tellCounters_70 ?_
      obtain ⟨b_3, h⟩ := h
      refine cs_cb hx hb hkx hw b_3 dX6_tellCounters_71 (fun σ_4 eσ_4 H locs hw => ?_)
      replace h := h σ_4 eσ_4
      refine lv_iinc (v := x2 + (1 : Int32)) (lv' := [(2, .int (x2 + (1 : Int32))), (0, .ref (ad 4)), (1, .int x1)]) hx hb dX6_tellCounters_72 hl (k := 2) rfl rfl (by decide) rfl (fun ls hl => ?_)
      refine lv_goto (tgt := 46) hx hb dX6_tellCounters_75 (by decide) ?_
      exact ih _ _ _ _ h _ _ _ _ hw (lv_sub hl [1, 2, 0] rfl)
def wp_X6_tellCounters_10 (post : Sg → Tg → Prop) : Nat → Int32 → Sg → Tg → Prop
  | 0, _, _, _ => False
  | n + 1, x1, σ, τ =>
    ((σ 5 0) ≤ x1 →
    post σ τ) ∧
    (¬ (σ 5 0) ≤ x1 →
    vp_in x1 20 ∧
    ((σ 28 x1.toNatClampNeg) ≤ 0 →
    ∃ fu, wp_X6_tellCounters_46 post (fun zx1 zσ zτ => wp_X6_tellCounters_10 post n zx1 zσ zτ) fu x1 (1 : Int32) σ τ) ∧
    (¬ (σ 28 x1.toNatClampNeg) ≤ 0 →
    vp_in x1 20 ∧
    wp_X0_passHead x1 (σ 28 x1.toNatClampNeg) σ τ (fun σ_6 τ_7 =>
    ∃ fu, wp_X6_tellCounters_46 post (fun zx1 zσ zτ => wp_X6_tellCounters_10 post n zx1 zσ zτ) fu x1 (1 : Int32) σ_6 τ_7)))
set_option maxHeartbeats 4000000 in
set_option maxRecDepth 100000 in
theorem w_X6_tellCounters_10 (C0 : Mc p m c meth cX6_tellCounters 3 s args wsX6_tellCounters RX6 none D cy A) {post : Sg → Tg → Prop} : ∀ (n : Nat) (x1 : Int32) (σ : Sg) (τ : Tg), wp_X6_tellCounters_10 post n x1 σ τ → ∀ κ : Nat → Nat, G_X6_tellCounters p l e s m args below meth c D A cy ad post (cfW cy ad κ σ τ) 3 [(0, .ref (ad 4)), (1, .int x1)] 10 [] := by
  obtain ⟨⟨hx, hb, hml, hown, hts⟩, hr, hlocks, hkx, hA⟩ := id C0
  intro n
  induction n with
  | zero => intro x1 σ τ h; exact False.elim h
  | succ n ih =>
    intro x1 σ τ h κ H locs ls hw hl
    unfold wp_X6_tellCounters_10 at h
    refine lv_iload_n hx hb dX6_tellCounters_10 rfl (lv_at hl 1 rfl) ?_
    refine lv_aload_n hx hb dX6_tellCounters_11 rfl (lv_at hl 0 rfl) ?_
    refine cg_tr_lines hx hb hts inw_X6_tellCounters_X6 hown hkx hw (hts _ (List.mem_of_getElem? (i := 2) rfl)) dX6_tellCounters_12 ?_
    refine cg_ln_count hx hb hts inw_X6_tellCounters_X1 hown hkx hw (hts _ (List.mem_of_getElem? (i := 3) rfl)) dX6_tellCounters_15 ?_
    refine lv_icmp_ge (tgt := 84) hx hb dX6_tellCounters_18 (by decide) (fun c_1 => ?_) (fun c_1 => ?_)
    · replace h := h.1 c_1
      exact end_v (w1 := (cfU cy ad)) (u := (κ, σ, τ)) C0 hw h dX6_tellCounters_84
    · replace h := h.2 c_1
      refine lv_aload_n hx hb dX6_tellCounters_21 rfl (lv_at hl 0 rfl) ?_
      refine cg_tr_levels hx hb hts inw_X6_tellCounters_X6 hown hkx hw (hts _ (List.mem_of_getElem? (i := 4) rfl)) dX6_tellCounters_22 ?_
      refine lv_iload_n hx hb dX6_tellCounters_25 rfl (lv_at hl 1 rfl) ?_
      obtain ⟨b_2, h⟩ := h
      refine ca_levels hx hb hkx hw b_2 dX6_tellCounters_26 ?_
      refine lv_if_le (tgt := 44) hx hb dX6_tellCounters_27 (by decide) (fun c_3 => ?_) (fun c_3 => ?_)
      · replace h := h.1 c_3
        refine lv_iconst (v := 1) hx hb dX6_tellCounters_44 (by decide) ?_
        refine lv_istore_n (lv' := [(2, .int (1 : Int32)), (0, .ref (ad 4)), (1, .int x1)]) hx hb dX6_tellCounters_45 rfl hl (by decide) rfl (fun ls hl => ?_)
        obtain ⟨n_4, h⟩ := h
        exact w_X6_tellCounters_46 C0 ih n_4 _ _ _ _ h _ _ _ _ hw (lv_sub hl [1, 2, 0] rfl)
      · replace h := h.2 c_3
        refine lv_aload_n hx hb dX6_tellCounters_30 rfl (lv_at hl 0 rfl) ?_
        refine cg_tr_counters hx hb hts inw_X6_tellCounters_X6 hown hkx hw (hts _ (List.mem_of_getElem? (i := 1) rfl)) dX6_tellCounters_31 ?_
        refine lv_iload_n hx hb dX6_tellCounters_34 rfl (lv_at hl 1 rfl) ?_
        refine lv_aload_n hx hb dX6_tellCounters_35 rfl (lv_at hl 0 rfl) ?_
        refine cg_tr_levels hx hb hts inw_X6_tellCounters_X6 hown hkx hw (hts _ (List.mem_of_getElem? (i := 4) rfl)) dX6_tellCounters_36 ?_
        refine lv_iload_n hx hb dX6_tellCounters_39 rfl (lv_at hl 1 rfl) ?_
        obtain ⟨b_5, h⟩ := h
        refine ca_levels hx hb hkx hw b_5 dX6_tellCounters_40 ?_
        refine cf_Vv (As := [.int x1, .int (σ 28 x1.toNatClampNeg)]) ⟨hx, hb, hml, hown, hts⟩ hkx hw hA (c_X0_passHead l D cy ad κ σ τ x1 (σ 28 x1.toNatClampNeg) _ h) (cwV 2 hts gX6_tellCounters_X0_passHead rfl rfl rfl hd_X0_passHead ⟨Nat.le_of_ble_eq_true rfl, Nat.le_of_ble_eq_true rfl⟩) 5 0 rfl rfl rfl hl.1 rfl (Nat.le_of_ble_eq_true rfl) dX6_tellCounters_41 ⟨Nat.zero_le _, Nat.zero_le _⟩ (fun κ σ_6 τ_7 H locs h hw => ?_)
        refine lv_iconst (v := 1) hx hb dX6_tellCounters_44 (by decide) ?_
        refine lv_istore_n (lv' := [(2, .int (1 : Int32)), (0, .ref (ad 4)), (1, .int x1)]) hx hb dX6_tellCounters_45 rfl hl (by decide) rfl (fun ls hl => ?_)
        obtain ⟨n_8, h⟩ := h
        exact w_X6_tellCounters_46 C0 ih n_8 _ _ _ _ h _ _ _ _ hw (lv_sub hl [1, 2, 0] rfl)
def wp_X6_tellCounters (σ : Sg) (τ : Tg) (post : Sg → Tg → Prop) : Prop :=
    wp_X0_unpack (0 : Int32) σ τ (fun σ_1 τ_2 =>
    ∃ fu, wp_X6_tellCounters_10 post fu (0 : Int32) σ_1 τ_2)
set_option maxHeartbeats 4000000 in
set_option maxRecDepth 100000 in
theorem c_X6_tellCounters (l : Launch) (D : va_G) (cy : Nat → ClassId) (ad κ : Nat → Nat) (σ : Sg) (τ : Tg) (post : Sg → Tg → Prop) (h : wp_X6_tellCounters σ τ post) : Ct l yX6_tellCounters wsX6_tellCounters rm_X6_tellCounters D cy [.ref (ad 4)] (cfW cy ad κ σ τ) 0 0 (Rv D (cfU cy ad) (fun u => post u.2.1 u.2.2)) := by
  refine Ct.of (cc := cX6_tellCounters) (maxL := 3) (rt := none) (by decide) rfl (Nat.le_of_ble_eq_true rfl) ?_
  intro p e s m below meth c A C0 _ H locs ls hw hl
  obtain ⟨⟨hx, hb, hml, hown, hts⟩, hr, hlocks, hkx, hA⟩ := id C0
  have hl : lv_has ls 3 [(0, .ref (ad 4))] := hl
  unfold wp_X6_tellCounters at h
  refine lv_aload_n hx hb dX6_tellCounters_0 rfl (lv_at hl 0 rfl) ?_
  refine cg_tr_counters hx hb hts inw_X6_tellCounters_X6 hown hkx hw (hts _ (List.mem_of_getElem? (i := 1) rfl)) dX6_tellCounters_1 ?_
  refine lv_iconst (v := 0) hx hb dX6_tellCounters_4 (by decide) ?_
  refine cf_Vv (As := [.int (0 : Int32)]) ⟨hx, hb, hml, hown, hts⟩ hkx hw hA (c_X0_unpack l D cy ad κ σ τ (0 : Int32) _ h) (cwV 1 hts gX6_tellCounters_X0_unpack rfl rfl rfl hd_X0_unpack ⟨Nat.le_of_ble_eq_true rfl, Nat.le_of_ble_eq_true rfl⟩) 5 0 rfl rfl rfl hl.1 rfl (Nat.le_of_ble_eq_true rfl) dX6_tellCounters_5 ⟨Nat.zero_le _, Nat.zero_le _⟩ (fun κ σ_1 τ_2 H locs h hw => ?_)
  refine lv_iconst (v := 0) hx hb dX6_tellCounters_8 (by decide) ?_
  refine lv_istore_n (lv' := [(1, .int (0 : Int32)), (0, .ref (ad 4))]) hx hb dX6_tellCounters_9 rfl hl (by decide) rfl (fun ls hl => ?_)
  obtain ⟨n_3, h⟩ := h
  exact w_X6_tellCounters_10 C0 n_3 _ _ _ h _ _ _ _ hw (lv_sub hl [1, 0] rfl)
end
theorem hd_X6_search : yX6_search.cls = RX6 ∧ yX6_search.cls ≠ "java/lang/invoke/MethodHandle" ∧ yX6_search.cls ≠ "java/lang/invoke/VarHandle" ∧ (parseMethodDescriptor yX6_search.desc).map (fun d => d.parameters.length) = some 0 := by decide +kernel
section
variable {p : Program} {l : Launch} {e : Env} {s : State} {m : MethodId} {args : Array Value} {below : List Frame} {meth : Method} {c : Code} {D : va_G} {cy : Nat → ClassId} {A : Nat → Prop} {ad : Nat → Nat}
abbrev rm_X6_search : Room := { frames := 4, cells := 0, slots := 0, locals := 121 }
theorem inw_X6_search_X1 : ∀ w ∈ u_ws RX1 TX1 9, w ∈ wsX6_search := fun _ h => List.mem_cons_of_mem _ (List.mem_append_left _ (List.mem_append_left _ (List.mem_append_right _ h)))
theorem inw_X6_search_X4 : ∀ w ∈ u_ws RX4 TX4 3, w ∈ wsX6_search := fun _ h => List.mem_cons_of_mem _ (List.mem_append_left _ (List.mem_append_right _ h))
theorem inw_X6_search_X6 : ∀ w ∈ u_ws RX6 TX6 15, w ∈ wsX6_search := fun _ h => List.mem_cons_of_mem _ (List.mem_append_left _ (List.mem_append_left _ (List.mem_append_left _ (List.mem_append_right _ h))))
abbrev G_X6_search (p : Program) (l : Launch) (e : Env) (s : State) (m : MethodId) (args : Array Value) (below : List Frame) (meth : Method) (c : Code) (D : va_G) (A : Nat → Prop) (cy : Nat → ClassId) (ad : Nat → Nat) (post : Sg → Tg → Prop) : va_W → Nat → List (Nat × Value) → Nat → List Value → Prop := Gw p l e rm_X6_search s m args below meth c D A (MQ below ((Rv D (cfU cy ad) (fun u => post u.2.1 u.2.2)) A) args s 0 0 A)
def wp_X6_search_61 (post : Sg → Tg → Prop) : Nat → Int32 → Sg → Tg → Prop
  | 0, _, _, _ => False
  | n + 1, x1, σ, τ =>
    ((σ 5 0) ≤ x1 →
    wp_X6_takeLeastKey σ τ (fun r_2 σ_3 τ_4 =>
    wp_X6_tellLevels r_2 σ_3 τ_4 (fun σ_5 τ_6 =>
    wp_X6_tellCounters σ_5 τ_6 (fun σ_7 τ_8 =>
    post σ_7 τ_8)))) ∧
    (¬ (σ 5 0) ≤ x1 →
    wp_X6_findCapsBehind x1 σ τ (fun σ_9 τ_10 =>
    wp_X6_passLine x1 σ_9 τ_10 (fun σ_11 τ_12 =>
    wp_X6_search_61 post n (x1 + (1 : Int32)) σ_11 τ_12)))
set_option maxHeartbeats 4000000 in
set_option maxRecDepth 100000 in
theorem w_X6_search_61 (C0 : Mc p m c meth cX6_search 2 s args wsX6_search RX6 none D cy A) {post : Sg → Tg → Prop} : ∀ (n : Nat) (x1 : Int32) (σ : Sg) (τ : Tg), wp_X6_search_61 post n x1 σ τ → ∀ κ : Nat → Nat, G_X6_search p l e s m args below meth c D A cy ad post (cfW cy ad κ σ τ) 2 [(0, .ref (ad 4)), (1, .int x1)] 61 [] := by
  obtain ⟨⟨hx, hb, hml, hown, hts⟩, hr, hlocks, hkx, hA⟩ := id C0
  intro n
  induction n with
  | zero => intro x1 σ τ h; exact False.elim h
  | succ n ih =>
    intro x1 σ τ h κ H locs ls hw hl
    unfold wp_X6_search_61 at h
    refine lv_iload_n hx hb dX6_search_61 rfl (lv_at hl 1 rfl) ?_
    refine lv_aload_n hx hb dX6_search_62 rfl (lv_at hl 0 rfl) ?_
    refine cg_tr_lines hx hb hts inw_X6_search_X6 hown hkx hw (hts _ (List.mem_of_getElem? (i := 1) rfl)) dX6_search_63 ?_
    refine cg_ln_count hx hb hts inw_X6_search_X1 hown hkx hw (hts _ (List.mem_of_getElem? (i := 2) rfl)) dX6_search_66 ?_
    refine lv_icmp_ge (tgt := 88) hx hb dX6_search_69 (by decide) (fun c_1 => ?_) (fun c_1 => ?_)
    · replace h := h.1 c_1
      refine lv_aload_n hx hb dX6_search_88 rfl (lv_at hl 0 rfl) ?_
      refine lv_aload_n hx hb dX6_search_89 rfl (lv_at hl 0 rfl) ?_
      refine cf_Vl (As := []) ⟨hx, hb, hml, hown, hts⟩ hkx hw hA (c_X6_takeLeastKey l D cy ad κ σ τ _ h) (cwV 0 hts gX6_search_X6_takeLeastKey rfl rfl rfl hd_X6_takeLeastKey ⟨Nat.le_of_ble_eq_true rfl, Nat.le_of_ble_eq_true rfl⟩) 4 6 rfl rfl rfl hl.1 rfl (Nat.le_of_ble_eq_true rfl) dX6_search_90 ⟨Nat.zero_le _, Nat.zero_le _⟩ (fun r_2 κ σ_3 τ_4 H locs h hw => ?_)
      refine cf_Vv (As := [.long r_2]) ⟨hx, hb, hml, hown, hts⟩ hkx hw hA (c_X6_tellLevels l D cy ad κ σ_3 τ_4 r_2 _ h) (cwV 1 hts gX6_search_X6_tellLevels rfl rfl rfl hd_X6_tellLevels ⟨Nat.le_of_ble_eq_true rfl, Nat.le_of_ble_eq_true rfl⟩) 4 6 rfl rfl rfl hl.1 rfl (Nat.le_of_ble_eq_true rfl) dX6_search_93 ⟨Nat.zero_le _, Nat.zero_le _⟩ (fun κ σ_5 τ_6 H locs h hw => ?_)
      refine lv_aload_n hx hb dX6_search_96 rfl (lv_at hl 0 rfl) ?_
      refine cf_Vv (As := []) ⟨hx, hb, hml, hown, hts⟩ hkx hw hA (c_X6_tellCounters l D cy ad κ σ_5 τ_6 _ h) (cwV 0 hts gX6_search_X6_tellCounters rfl rfl rfl hd_X6_tellCounters ⟨Nat.le_of_ble_eq_true rfl, Nat.le_of_ble_eq_true rfl⟩) 4 6 rfl rfl rfl hl.1 rfl (Nat.le_of_ble_eq_true rfl) dX6_search_97 ⟨Nat.zero_le _, Nat.zero_le _⟩ (fun κ σ_7 τ_8 H locs h hw => ?_)
      exact end_v (w1 := (cfU cy ad)) (u := (κ, σ_7, τ_8)) C0 hw h dX6_search_100
    · replace h := h.2 c_1
      refine lv_aload_n hx hb dX6_search_72 rfl (lv_at hl 0 rfl) ?_
      refine lv_iload_n hx hb dX6_search_73 rfl (lv_at hl 1 rfl) ?_
      refine cf_Vv (As := [.int x1]) ⟨hx, hb, hml, hown, hts⟩ hkx hw hA (c_X6_findCapsBehind l D cy ad κ σ τ x1 _ h) (cwV 1 hts gX6_search_X6_findCapsBehind rfl rfl rfl hd_X6_findCapsBehind ⟨Nat.le_of_ble_eq_true rfl, Nat.le_of_ble_eq_true rfl⟩) 4 6 rfl rfl rfl hl.1 rfl (Nat.le_of_ble_eq_true rfl) dX6_search_74 ⟨Nat.zero_le _, Nat.zero_le _⟩ (fun κ σ_9 τ_10 H locs h hw => ?_)
      refine lv_aload_n hx hb dX6_search_77 rfl (lv_at hl 0 rfl) ?_
      refine lv_iload_n hx hb dX6_search_78 rfl (lv_at hl 1 rfl) ?_
      refine cf_Vv (As := [.int x1]) ⟨hx, hb, hml, hown, hts⟩ hkx hw hA (c_X6_passLine l D cy ad κ σ_9 τ_10 x1 _ h) (cwV 1 hts gX6_search_X6_passLine rfl rfl rfl hd_X6_passLine ⟨Nat.le_of_ble_eq_true rfl, Nat.le_of_ble_eq_true rfl⟩) 4 6 rfl rfl rfl hl.1 rfl (Nat.le_of_ble_eq_true rfl) dX6_search_79 ⟨Nat.zero_le _, Nat.zero_le _⟩ (fun κ σ_11 τ_12 H locs h hw => ?_)
      refine lv_iinc (v := x1 + (1 : Int32)) (lv' := [(1, .int (x1 + (1 : Int32))), (0, .ref (ad 4))]) hx hb dX6_search_82 hl (k := 1) rfl rfl (by decide) rfl (fun ls hl => ?_)
      refine lv_goto (tgt := 61) hx hb dX6_search_85 (by decide) ?_
      exact ih _ _ _ h _ _ _ _ hw (lv_sub hl [1, 0] rfl)
def wp_X6_search_2 (post : Sg → Tg → Prop) : Nat → Int32 → Sg → Tg → Prop
  | 0, _, _, _ => False
  | n + 1, x1, σ, τ =>
    ((σ 5 0) ≤ x1 →
    ∀ σ_2 : Sg, σ_2 = va_up σ 8 (fun _ => (1 : Int32)) →
    ∀ σ_4 : Sg, σ_4 = va_up σ_2 31 (upd (σ_2 31) (0 : Int32).toNatClampNeg (0 : Int32)) →
    ∀ τ_6 : Tg, τ_6 = va_up τ 0 (vp_updL (τ 0) (0 : Int32).toNatClampNeg (0 : Int64)) →
    ∃ fu, wp_X6_search_61 post fu (0 : Int32) σ_4 τ_6) ∧
    (¬ (σ 5 0) ≤ x1 →
    wp_X1_isRunning x1 (σ 3 0) σ τ (fun r_8 σ_9 τ_10 =>
    vp_in x1 20 ∧
    bz r_8 ∧
    ∀ σ_13 : Sg, σ_13 = va_up σ_9 27 (upd (σ_9 27) x1.toNatClampNeg r_8) →
    wp_X6_search_2 post n (x1 + (1 : Int32)) σ_13 τ_10))
set_option maxHeartbeats 4000000 in
set_option maxRecDepth 100000 in
theorem w_X6_search_2 (C0 : Mc p m c meth cX6_search 2 s args wsX6_search RX6 none D cy A) {post : Sg → Tg → Prop} : ∀ (n : Nat) (x1 : Int32) (σ : Sg) (τ : Tg), wp_X6_search_2 post n x1 σ τ → ∀ κ : Nat → Nat, G_X6_search p l e s m args below meth c D A cy ad post (cfW cy ad κ σ τ) 2 [(0, .ref (ad 4)), (1, .int x1)] 2 [] := by
  obtain ⟨⟨hx, hb, hml, hown, hts⟩, hr, hlocks, hkx, hA⟩ := id C0
  intro n
  induction n with
  | zero => intro x1 σ τ h; exact False.elim h
  | succ n ih =>
    intro x1 σ τ h κ H locs ls hw hl
    unfold wp_X6_search_2 at h
    refine lv_iload_n hx hb dX6_search_2 rfl (lv_at hl 1 rfl) ?_
    refine lv_aload_n hx hb dX6_search_3 rfl (lv_at hl 0 rfl) ?_
    refine cg_tr_lines hx hb hts inw_X6_search_X6 hown hkx hw (hts _ (List.mem_of_getElem? (i := 1) rfl)) dX6_search_4 ?_
    refine cg_ln_count hx hb hts inw_X6_search_X1 hown hkx hw (hts _ (List.mem_of_getElem? (i := 2) rfl)) dX6_search_7 ?_
    refine lv_icmp_ge (tgt := 40) hx hb dX6_search_10 (by decide) (fun c_1 => ?_) (fun c_1 => ?_)
    · replace h := h.1 c_1
      refine lv_aload_n hx hb dX6_search_40 rfl (lv_at hl 0 rfl) ?_
      refine lv_iconst (v := 1) hx hb dX6_search_41 (by decide) ?_
      refine cp_tr_reached hx hb hts inw_X6_search_X6 hown hkx hw (hts _ (List.mem_of_getElem? (i := 6) rfl)) dX6_search_42 (fun σ_2 eσ_2 H locs hw => ?_)
      replace h := h σ_2 eσ_2
      refine lv_aload_n hx hb dX6_search_45 rfl (lv_at hl 0 rfl) ?_
      refine cg_tr_states hx hb hts inw_X6_search_X6 hown hkx hw (hts _ (List.mem_of_getElem? (i := 7) rfl)) dX6_search_46 ?_
      refine lv_iconst (v := 0) hx hb dX6_search_49 (by decide) ?_
      refine lv_iconst (v := 0) hx hb dX6_search_50 (by decide) ?_
      refine cs_states hx hb hkx hw (by unfold vp_in; decide) dX6_search_51 (fun σ_4 eσ_4 H locs hw => ?_)
      replace h := h σ_4 eσ_4
      refine lv_aload_n hx hb dX6_search_52 rfl (lv_at hl 0 rfl) ?_
      refine cg_tr_keys hx hb hts inw_X6_search_X6 hown hkx hw (hts _ (List.mem_of_getElem? (i := 8) rfl)) dX6_search_53 ?_
      refine lv_iconst (v := 0) hx hb dX6_search_56 (by decide) ?_
      refine lv_lconst (v := 0) hx hb dX6_search_57 (by decide) ?_
      refine cs_keys hx hb hkx hw (by unfold vp_in; decide) dX6_search_58 (fun τ_6 eτ_6 H locs hw => ?_)
      replace h := h τ_6 eτ_6
      refine lv_iconst (v := 0) hx hb dX6_search_59 (by decide) ?_
      refine lv_istore_n (lv' := [(1, .int (0 : Int32)), (0, .ref (ad 4))]) hx hb dX6_search_60 rfl hl (by decide) rfl (fun ls hl => ?_)
      obtain ⟨n_7, h⟩ := h
      exact w_X6_search_61 C0 n_7 _ _ _ h _ _ _ _ hw (lv_sub hl [1, 0] rfl)
    · replace h := h.2 c_1
      refine lv_aload_n hx hb dX6_search_13 rfl (lv_at hl 0 rfl) ?_
      refine cg_tr_running hx hb hts inw_X6_search_X6 hown hkx hw (hts _ (List.mem_of_getElem? (i := 3) rfl)) dX6_search_14 ?_
      refine lv_iload_n hx hb dX6_search_17 rfl (lv_at hl 1 rfl) ?_
      refine lv_aload_n hx hb dX6_search_18 rfl (lv_at hl 0 rfl) ?_
      refine cg_tr_lines hx hb hts inw_X6_search_X6 hown hkx hw (hts _ (List.mem_of_getElem? (i := 1) rfl)) dX6_search_19 ?_
      refine lv_iload_n hx hb dX6_search_22 rfl (lv_at hl 1 rfl) ?_
      refine lv_aload_n hx hb dX6_search_23 rfl (lv_at hl 0 rfl) ?_
      refine cg_tr_settings hx hb hts inw_X6_search_X6 hown hkx hw (hts _ (List.mem_of_getElem? (i := 4) rfl)) dX6_search_24 ?_
      refine cg_st_many hx hb hts inw_X6_search_X4 hown hkx hw (hts _ (List.mem_of_getElem? (i := 5) rfl)) dX6_search_27 ?_
      refine cf_Vi (As := [.int x1, .int (σ 3 0)]) ⟨hx, hb, hml, hown, hts⟩ hkx hw hA (c_X1_isRunning l D cy ad κ σ τ x1 (σ 3 0) _ h) (cwV 2 hts gX6_search_X1_isRunning rfl rfl rfl hd_X1_isRunning ⟨Nat.le_of_ble_eq_true rfl, Nat.le_of_ble_eq_true rfl⟩) 3 1 rfl rfl rfl hl.1 rfl (Nat.le_of_ble_eq_true rfl) dX6_search_30 ⟨Nat.zero_le _, Nat.zero_le _⟩ (fun r_8 κ σ_9 τ_10 H locs h hw => ?_)
      obtain ⟨b_11, h⟩ := h
      obtain ⟨z_12, h⟩ := h
      refine cs_running hx hb hkx hw b_11 z_12 dX6_search_33 (fun σ_13 eσ_13 H locs hw => ?_)
      replace h := h σ_13 eσ_13
      refine lv_iinc (v := x1 + (1 : Int32)) (lv' := [(1, .int (x1 + (1 : Int32))), (0, .ref (ad 4))]) hx hb dX6_search_34 hl (k := 1) rfl rfl (by decide) rfl (fun ls hl => ?_)
      refine lv_goto (tgt := 2) hx hb dX6_search_37 (by decide) ?_
      exact ih _ _ _ h _ _ _ _ hw (lv_sub hl [1, 0] rfl)
def wp_X6_search (σ : Sg) (τ : Tg) (post : Sg → Tg → Prop) : Prop :=
    ∃ fu, wp_X6_search_2 post fu (0 : Int32) σ τ
set_option maxHeartbeats 4000000 in
set_option maxRecDepth 100000 in
theorem c_X6_search (l : Launch) (D : va_G) (cy : Nat → ClassId) (ad κ : Nat → Nat) (σ : Sg) (τ : Tg) (post : Sg → Tg → Prop) (h : wp_X6_search σ τ post) : Ct l yX6_search wsX6_search rm_X6_search D cy [.ref (ad 4)] (cfW cy ad κ σ τ) 0 0 (Rv D (cfU cy ad) (fun u => post u.2.1 u.2.2)) := by
  refine Ct.of (cc := cX6_search) (maxL := 2) (rt := none) (by decide) rfl (Nat.le_of_ble_eq_true rfl) ?_
  intro p e s m below meth c A C0 _ H locs ls hw hl
  obtain ⟨⟨hx, hb, hml, hown, hts⟩, hr, hlocks, hkx, hA⟩ := id C0
  have hl : lv_has ls 2 [(0, .ref (ad 4))] := hl
  unfold wp_X6_search at h
  refine lv_iconst (v := 0) hx hb dX6_search_0 (by decide) ?_
  refine lv_istore_n (lv' := [(1, .int (0 : Int32)), (0, .ref (ad 4))]) hx hb dX6_search_1 rfl hl (by decide) rfl (fun ls hl => ?_)
  obtain ⟨n_1, h⟩ := h
  exact w_X6_search_2 C0 n_1 _ _ _ h _ _ _ _ hw (lv_sub hl [1, 0] rfl)
end
theorem hd_X6_lastPage : yX6_lastPage.cls = RX6 ∧ yX6_lastPage.cls ≠ "java/lang/invoke/MethodHandle" ∧ yX6_lastPage.cls ≠ "java/lang/invoke/VarHandle" ∧ (parseMethodDescriptor yX6_lastPage.desc).map (fun d => d.parameters.length) = some 2 := by decide +kernel
section
variable {p : Program} {l : Launch} {e : Env} {s : State} {m : MethodId} {args : Array Value} {below : List Frame} {meth : Method} {c : Code} {D : va_G} {cy : Nat → ClassId} {A : Nat → Prop} {ad : Nat → Nat}
abbrev rm_X6_lastPage : Room := { frames := 0, cells := 0, slots := 0, locals := 0 }
theorem inw_X6_lastPage_X1 : ∀ w ∈ u_ws RX1 TX1 9, w ∈ wsX6_lastPage := fun _ h => List.mem_cons_of_mem _ (List.mem_append_right _ h)
theorem inw_X6_lastPage_X6 : ∀ w ∈ u_ws RX6 TX6 15, w ∈ wsX6_lastPage := fun _ h => List.mem_cons_of_mem _ (List.mem_append_left _ (List.mem_append_right _ h))
abbrev G_X6_lastPage (p : Program) (l : Launch) (e : Env) (s : State) (m : MethodId) (args : Array Value) (below : List Frame) (meth : Method) (c : Code) (D : va_G) (A : Nat → Prop) (cy : Nat → ClassId) (ad : Nat → Nat) (post : Int32 → Sg → Tg → Prop) : va_W → Nat → List (Nat × Value) → Nat → List Value → Prop := Gw p l e rm_X6_lastPage s m args below meth c D A (MQ below ((Ri D (cfU cy ad) (fun r u => post r u.2.1 u.2.2)) A) args s 0 0 A)
def wp_X6_lastPage_15 (post : Int32 → Sg → Tg → Prop) : Nat → Int32 → Int32 → Int32 → Sg → Tg → Prop
  | 0, _, _, _, _, _ => False
  | n + 1, x1, x2, x3, σ, τ =>
    ((σ 5 0) ≤ x3 →
    post x2 σ τ) ∧
    (¬ (σ 5 0) ≤ x3 →
    vp_in x3 20 ∧
    ((σ 28 x3.toNatClampNeg) ≤ 0 →
    wp_X6_lastPage_15 post n x1 x2 (x3 + (1 : Int32)) σ τ) ∧
    (¬ (σ 28 x3.toNatClampNeg) ≤ 0 →
    vp_in x3 20 ∧
    vp_in x1 20 ∧
    ((σ 28 x1.toNatClampNeg) < (σ 28 x3.toNatClampNeg) →
    wp_X6_lastPage_15 post n x1 x2 (x3 + (1 : Int32)) σ τ) ∧
    (¬ (σ 28 x1.toNatClampNeg) < (σ 28 x3.toNatClampNeg) →
    vp_in x3 20 ∧
    post (σ 19 x3.toNatClampNeg) σ τ)))
set_option maxHeartbeats 4000000 in
set_option maxRecDepth 100000 in
theorem w_X6_lastPage_15 (C0 : Mc p m c meth cX6_lastPage 4 s args wsX6_lastPage RX6 (some .int) D cy A) {post : Int32 → Sg → Tg → Prop} : ∀ (n : Nat) (x1 : Int32) (x2 : Int32) (x3 : Int32) (σ : Sg) (τ : Tg), wp_X6_lastPage_15 post n x1 x2 x3 σ τ → ∀ κ : Nat → Nat, G_X6_lastPage p l e s m args below meth c D A cy ad post (cfW cy ad κ σ τ) 4 [(0, .ref (ad 4)), (1, .int x1), (2, .int x2), (3, .int x3)] 15 [] := by
  obtain ⟨⟨hx, hb, hml, hown, hts⟩, hr, hlocks, hkx, hA⟩ := id C0
  intro n
  induction n with
  | zero => intro x1 x2 x3 σ τ h; exact False.elim h
  | succ n ih =>
    intro x1 x2 x3 σ τ h κ H locs ls hw hl
    unfold wp_X6_lastPage_15 at h
    refine lv_iload_n hx hb dX6_lastPage_15 rfl (lv_at hl 3 rfl) ?_
    refine lv_aload_n hx hb dX6_lastPage_16 rfl (lv_at hl 0 rfl) ?_
    refine cg_tr_lines hx hb hts inw_X6_lastPage_X6 hown hkx hw (hts _ (List.mem_of_getElem? (i := 2) rfl)) dX6_lastPage_17 ?_
    refine cg_ln_count hx hb hts inw_X6_lastPage_X1 hown hkx hw (hts _ (List.mem_of_getElem? (i := 3) rfl)) dX6_lastPage_20 ?_
    refine lv_icmp_ge (tgt := 66) hx hb dX6_lastPage_23 (by decide) (fun c_1 => ?_) (fun c_1 => ?_)
    · replace h := h.1 c_1
      refine lv_iload_n hx hb dX6_lastPage_66 rfl (lv_at hl 2 rfl) ?_
      exact end_i (w1 := (cfU cy ad)) (u := (κ, σ, τ)) C0 hw h dX6_lastPage_67
    · replace h := h.2 c_1
      refine lv_aload_n hx hb dX6_lastPage_26 rfl (lv_at hl 0 rfl) ?_
      refine cg_tr_levels hx hb hts inw_X6_lastPage_X6 hown hkx hw (hts _ (List.mem_of_getElem? (i := 1) rfl)) dX6_lastPage_27 ?_
      refine lv_iload_n hx hb dX6_lastPage_30 rfl (lv_at hl 3 rfl) ?_
      obtain ⟨b_2, h⟩ := h
      refine ca_levels hx hb hkx hw b_2 dX6_lastPage_31 ?_
      refine lv_if_le (tgt := 60) hx hb dX6_lastPage_32 (by decide) (fun c_3 => ?_) (fun c_3 => ?_)
      · replace h := h.1 c_3
        refine lv_iinc (v := x3 + (1 : Int32)) (lv' := [(3, .int (x3 + (1 : Int32))), (0, .ref (ad 4)), (1, .int x1), (2, .int x2)]) hx hb dX6_lastPage_60 hl (k := 3) rfl rfl (by decide) rfl (fun ls hl => ?_)
        refine lv_goto (tgt := 15) hx hb dX6_lastPage_63 (by decide) ?_
        exact ih _ _ _ _ _ h _ _ _ _ hw (lv_sub hl [1, 2, 3, 0] rfl)
      · replace h := h.2 c_3
        refine lv_aload_n hx hb dX6_lastPage_35 rfl (lv_at hl 0 rfl) ?_
        refine cg_tr_levels hx hb hts inw_X6_lastPage_X6 hown hkx hw (hts _ (List.mem_of_getElem? (i := 1) rfl)) dX6_lastPage_36 ?_
        refine lv_iload_n hx hb dX6_lastPage_39 rfl (lv_at hl 3 rfl) ?_
        obtain ⟨b_4, h⟩ := h
        refine ca_levels hx hb hkx hw b_4 dX6_lastPage_40 ?_
        refine lv_aload_n hx hb dX6_lastPage_41 rfl (lv_at hl 0 rfl) ?_
        refine cg_tr_levels hx hb hts inw_X6_lastPage_X6 hown hkx hw (hts _ (List.mem_of_getElem? (i := 1) rfl)) dX6_lastPage_42 ?_
        refine lv_iload_n hx hb dX6_lastPage_45 rfl (lv_at hl 1 rfl) ?_
        obtain ⟨b_5, h⟩ := h
        refine ca_levels hx hb hkx hw b_5 dX6_lastPage_46 ?_
        refine lv_icmp_gt (tgt := 60) hx hb dX6_lastPage_47 (by decide) (fun c_6 => ?_) (fun c_6 => ?_)
        · replace h := h.1 c_6
          refine lv_iinc (v := x3 + (1 : Int32)) (lv' := [(3, .int (x3 + (1 : Int32))), (0, .ref (ad 4)), (1, .int x1), (2, .int x2)]) hx hb dX6_lastPage_60 hl (k := 3) rfl rfl (by decide) rfl (fun ls hl => ?_)
          refine lv_goto (tgt := 15) hx hb dX6_lastPage_63 (by decide) ?_
          exact ih _ _ _ _ _ h _ _ _ _ hw (lv_sub hl [1, 2, 3, 0] rfl)
        · replace h := h.2 c_6
          refine lv_aload_n hx hb dX6_lastPage_50 rfl (lv_at hl 0 rfl) ?_
          refine cg_tr_lines hx hb hts inw_X6_lastPage_X6 hown hkx hw (hts _ (List.mem_of_getElem? (i := 2) rfl)) dX6_lastPage_51 ?_
          refine cg_ln_page hx hb hts inw_X6_lastPage_X1 hown hkx hw (hts _ (List.mem_of_getElem? (i := 4) rfl)) dX6_lastPage_54 ?_
          refine lv_iload_n hx hb dX6_lastPage_57 rfl (lv_at hl 3 rfl) ?_
          obtain ⟨b_7, h⟩ := h
          refine ca_page hx hb hkx hw b_7 dX6_lastPage_58 ?_
          exact end_i (w1 := (cfU cy ad)) (u := (κ, σ, τ)) C0 hw h dX6_lastPage_59
def wp_X6_lastPage (x1 : Int32) (x2 : Int32) (σ : Sg) (τ : Tg) (post : Int32 → Sg → Tg → Prop) : Prop :=
    vp_in x1 20 ∧
    (¬ (σ 28 x1.toNatClampNeg) = 0 →
    ∀ y_3 : Int32, y_3 = (x1 + (1 : Int32)) →
    ∃ fu, wp_X6_lastPage_15 post fu x1 x2 y_3 σ τ) ∧
    ((σ 28 x1.toNatClampNeg) = 0 →
    post (-1 : Int32) σ τ)
set_option maxHeartbeats 4000000 in
set_option maxRecDepth 100000 in
theorem c_X6_lastPage (l : Launch) (D : va_G) (cy : Nat → ClassId) (ad κ : Nat → Nat) (σ : Sg) (τ : Tg) (x1 : Int32) (x2 : Int32) (post : Int32 → Sg → Tg → Prop) (h : wp_X6_lastPage x1 x2 σ τ post) : Ct l yX6_lastPage wsX6_lastPage rm_X6_lastPage D cy [.ref (ad 4), .int x1, .int x2] (cfW cy ad κ σ τ) 0 0 (Ri D (cfU cy ad) (fun r u => post r u.2.1 u.2.2)) := by
  refine Ct.of (cc := cX6_lastPage) (maxL := 4) (rt := (some .int)) (by decide) rfl (Nat.le_of_ble_eq_true rfl) ?_
  intro p e s m below meth c A C0 _ H locs ls hw hl
  obtain ⟨⟨hx, hb, hml, hown, hts⟩, hr, hlocks, hkx, hA⟩ := id C0
  have hl : lv_has ls 4 [(0, .ref (ad 4)), (1, .int x1), (2, .int x2)] := hl
  unfold wp_X6_lastPage at h
  refine lv_aload_n hx hb dX6_lastPage_0 rfl (lv_at hl 0 rfl) ?_
  refine cg_tr_levels hx hb hts inw_X6_lastPage_X6 hown hkx hw (hts _ (List.mem_of_getElem? (i := 1) rfl)) dX6_lastPage_1 ?_
  refine lv_iload_n hx hb dX6_lastPage_4 rfl (lv_at hl 1 rfl) ?_
  obtain ⟨b_1, h⟩ := h
  refine ca_levels hx hb hkx hw b_1 dX6_lastPage_5 ?_
  refine lv_if_ne (tgt := 11) hx hb dX6_lastPage_6 (by decide) (fun c_2 => ?_) (fun c_2 => ?_)
  · replace h := h.1 c_2
    refine lv_iload_n hx hb dX6_lastPage_11 rfl (lv_at hl 1 rfl) ?_
    refine lv_iconst (v := 1) hx hb dX6_lastPage_12 (by decide) ?_
    refine lv_iadd hx hb dX6_lastPage_13 ?_
    refine lv_topi (fun y_3 ey_3 => ?_)
    replace h := h y_3 ey_3
    refine lv_istore_n (lv' := [(3, .int y_3), (0, .ref (ad 4)), (1, .int x1), (2, .int x2)]) hx hb dX6_lastPage_14 rfl hl (by decide) rfl (fun ls hl => ?_)
    obtain ⟨n_4, h⟩ := h
    exact w_X6_lastPage_15 C0 n_4 _ _ _ _ _ h _ _ _ _ hw (lv_sub hl [1, 2, 3, 0] rfl)
  · replace h := h.2 c_2
    refine lv_iconst (v := -1) hx hb dX6_lastPage_9 (by decide) ?_
    exact end_i (w1 := (cfU cy ad)) (u := (κ, σ, τ)) C0 hw h dX6_lastPage_10
end
theorem hd_X6_headAbove : yX6_headAbove.cls = RX6 ∧ yX6_headAbove.cls ≠ "java/lang/invoke/MethodHandle" ∧ yX6_headAbove.cls ≠ "java/lang/invoke/VarHandle" ∧ (parseMethodDescriptor yX6_headAbove.desc).map (fun d => d.parameters.length) = some 1 := by decide +kernel
section
variable {p : Program} {l : Launch} {e : Env} {s : State} {m : MethodId} {args : Array Value} {below : List Frame} {meth : Method} {c : Code} {D : va_G} {cy : Nat → ClassId} {A : Nat → Prop} {ad : Nat → Nat}
abbrev rm_X6_headAbove : Room := { frames := 0, cells := 0, slots := 0, locals := 0 }
theorem inw_X6_headAbove_X6 : ∀ w ∈ u_ws RX6 TX6 15, w ∈ wsX6_headAbove := fun _ h => List.mem_cons_of_mem _ (List.mem_append_right _ h)
abbrev G_X6_headAbove (p : Program) (l : Launch) (e : Env) (s : State) (m : MethodId) (args : Array Value) (below : List Frame) (meth : Method) (c : Code) (D : va_G) (A : Nat → Prop) (cy : Nat → ClassId) (ad : Nat → Nat) (post : Int32 → Sg → Tg → Prop) : va_W → Nat → List (Nat × Value) → Nat → List Value → Prop := Gw p l e rm_X6_headAbove s m args below meth c D A (MQ below ((Ri D (cfU cy ad) (fun r u => post r u.2.1 u.2.2)) A) args s 0 0 A)
def wp_X6_headAbove_4 (post : Int32 → Sg → Tg → Prop) : Nat → Int32 → Int32 → Sg → Tg → Prop
  | 0, _, _, _, _ => False
  | n + 1, x1, x2, σ, τ =>
    (x2 < 0 →
    post (-1 : Int32) σ τ) ∧
    (¬ x2 < 0 →
    vp_in x2 20 ∧
    ((σ 28 x2.toNatClampNeg) ≤ 0 →
    wp_X6_headAbove_4 post n x1 (x2 + (-1 : Int32)) σ τ) ∧
    (¬ (σ 28 x2.toNatClampNeg) ≤ 0 →
    vp_in x2 20 ∧
    vp_in x1 20 ∧
    ((σ 28 x1.toNatClampNeg) ≤ (σ 28 x2.toNatClampNeg) →
    wp_X6_headAbove_4 post n x1 (x2 + (-1 : Int32)) σ τ) ∧
    (¬ (σ 28 x1.toNatClampNeg) ≤ (σ 28 x2.toNatClampNeg) →
    post x2 σ τ)))
set_option maxHeartbeats 4000000 in
set_option maxRecDepth 100000 in
theorem w_X6_headAbove_4 (C0 : Mc p m c meth cX6_headAbove 3 s args wsX6_headAbove RX6 (some .int) D cy A) {post : Int32 → Sg → Tg → Prop} : ∀ (n : Nat) (x1 : Int32) (x2 : Int32) (σ : Sg) (τ : Tg), wp_X6_headAbove_4 post n x1 x2 σ τ → ∀ κ : Nat → Nat, G_X6_headAbove p l e s m args below meth c D A cy ad post (cfW cy ad κ σ τ) 3 [(0, .ref (ad 4)), (1, .int x1), (2, .int x2)] 4 [] := by
  obtain ⟨⟨hx, hb, hml, hown, hts⟩, hr, hlocks, hkx, hA⟩ := id C0
  intro n
  induction n with
  | zero => intro x1 x2 σ τ h; exact False.elim h
  | succ n ih =>
    intro x1 x2 σ τ h κ H locs ls hw hl
    unfold wp_X6_headAbove_4 at h
    refine lv_iload_n hx hb dX6_headAbove_4 rfl (lv_at hl 2 rfl) ?_
    refine lv_if_lt (tgt := 40) hx hb dX6_headAbove_5 (by decide) (fun c_1 => ?_) (fun c_1 => ?_)
    · replace h := h.1 c_1
      refine lv_iconst (v := -1) hx hb dX6_headAbove_40 (by decide) ?_
      exact end_i (w1 := (cfU cy ad)) (u := (κ, σ, τ)) C0 hw h dX6_headAbove_41
    · replace h := h.2 c_1
      refine lv_aload_n hx hb dX6_headAbove_8 rfl (lv_at hl 0 rfl) ?_
      refine cg_tr_levels hx hb hts inw_X6_headAbove_X6 hown hkx hw (hts _ (List.mem_of_getElem? (i := 1) rfl)) dX6_headAbove_9 ?_
      refine lv_iload_n hx hb dX6_headAbove_12 rfl (lv_at hl 2 rfl) ?_
      obtain ⟨b_2, h⟩ := h
      refine ca_levels hx hb hkx hw b_2 dX6_headAbove_13 ?_
      refine lv_if_le (tgt := 34) hx hb dX6_headAbove_14 (by decide) (fun c_3 => ?_) (fun c_3 => ?_)
      · replace h := h.1 c_3
        refine lv_iinc (v := x2 + (-1 : Int32)) (lv' := [(2, .int (x2 + (-1 : Int32))), (0, .ref (ad 4)), (1, .int x1)]) hx hb dX6_headAbove_34 hl (k := 2) rfl rfl (by decide) rfl (fun ls hl => ?_)
        refine lv_goto (tgt := 4) hx hb dX6_headAbove_37 (by decide) ?_
        exact ih _ _ _ _ h _ _ _ _ hw (lv_sub hl [1, 2, 0] rfl)
      · replace h := h.2 c_3
        refine lv_aload_n hx hb dX6_headAbove_17 rfl (lv_at hl 0 rfl) ?_
        refine cg_tr_levels hx hb hts inw_X6_headAbove_X6 hown hkx hw (hts _ (List.mem_of_getElem? (i := 1) rfl)) dX6_headAbove_18 ?_
        refine lv_iload_n hx hb dX6_headAbove_21 rfl (lv_at hl 2 rfl) ?_
        obtain ⟨b_4, h⟩ := h
        refine ca_levels hx hb hkx hw b_4 dX6_headAbove_22 ?_
        refine lv_aload_n hx hb dX6_headAbove_23 rfl (lv_at hl 0 rfl) ?_
        refine cg_tr_levels hx hb hts inw_X6_headAbove_X6 hown hkx hw (hts _ (List.mem_of_getElem? (i := 1) rfl)) dX6_headAbove_24 ?_
        refine lv_iload_n hx hb dX6_headAbove_27 rfl (lv_at hl 1 rfl) ?_
        obtain ⟨b_5, h⟩ := h
        refine ca_levels hx hb hkx hw b_5 dX6_headAbove_28 ?_
        refine lv_icmp_ge (tgt := 34) hx hb dX6_headAbove_29 (by decide) (fun c_6 => ?_) (fun c_6 => ?_)
        · replace h := h.1 c_6
          refine lv_iinc (v := x2 + (-1 : Int32)) (lv' := [(2, .int (x2 + (-1 : Int32))), (0, .ref (ad 4)), (1, .int x1)]) hx hb dX6_headAbove_34 hl (k := 2) rfl rfl (by decide) rfl (fun ls hl => ?_)
          refine lv_goto (tgt := 4) hx hb dX6_headAbove_37 (by decide) ?_
          exact ih _ _ _ _ h _ _ _ _ hw (lv_sub hl [1, 2, 0] rfl)
        · replace h := h.2 c_6
          refine lv_iload_n hx hb dX6_headAbove_32 rfl (lv_at hl 2 rfl) ?_
          exact end_i (w1 := (cfU cy ad)) (u := (κ, σ, τ)) C0 hw h dX6_headAbove_33
def wp_X6_headAbove (x1 : Int32) (σ : Sg) (τ : Tg) (post : Int32 → Sg → Tg → Prop) : Prop :=
    ∀ y_1 : Int32, y_1 = (x1 - (1 : Int32)) →
    ∃ fu, wp_X6_headAbove_4 post fu x1 y_1 σ τ
set_option maxHeartbeats 4000000 in
set_option maxRecDepth 100000 in
theorem c_X6_headAbove (l : Launch) (D : va_G) (cy : Nat → ClassId) (ad κ : Nat → Nat) (σ : Sg) (τ : Tg) (x1 : Int32) (post : Int32 → Sg → Tg → Prop) (h : wp_X6_headAbove x1 σ τ post) : Ct l yX6_headAbove wsX6_headAbove rm_X6_headAbove D cy [.ref (ad 4), .int x1] (cfW cy ad κ σ τ) 0 0 (Ri D (cfU cy ad) (fun r u => post r u.2.1 u.2.2)) := by
  refine Ct.of (cc := cX6_headAbove) (maxL := 3) (rt := (some .int)) (by decide) rfl (Nat.le_of_ble_eq_true rfl) ?_
  intro p e s m below meth c A C0 _ H locs ls hw hl
  obtain ⟨⟨hx, hb, hml, hown, hts⟩, hr, hlocks, hkx, hA⟩ := id C0
  have hl : lv_has ls 3 [(0, .ref (ad 4)), (1, .int x1)] := hl
  unfold wp_X6_headAbove at h
  refine lv_iload_n hx hb dX6_headAbove_0 rfl (lv_at hl 1 rfl) ?_
  refine lv_iconst (v := 1) hx hb dX6_headAbove_1 (by decide) ?_
  refine lv_isub hx hb dX6_headAbove_2 ?_
  refine lv_topi (fun y_1 ey_1 => ?_)
  replace h := h y_1 ey_1
  refine lv_istore_n (lv' := [(2, .int y_1), (0, .ref (ad 4)), (1, .int x1)]) hx hb dX6_headAbove_3 rfl hl (by decide) rfl (fun ls hl => ?_)
  obtain ⟨n_2, h⟩ := h
  exact w_X6_headAbove_4 C0 n_2 _ _ _ _ h _ _ _ _ hw (lv_sub hl [1, 2, 0] rfl)
end
