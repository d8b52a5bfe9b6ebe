theorem hd_X2_gatherHeads : yX2_gatherHeads.cls = RX2 ∧ yX2_gatherHeads.cls ≠ "java/lang/invoke/MethodHandle" ∧ yX2_gatherHeads.cls ≠ "java/lang/invoke/VarHandle" ∧ (parseMethodDescriptor yX2_gatherHeads.desc).map (fun d => d.parameters.length) = some 0 := by decide +kernel
section
variable {p : Program} {l : Launch} {e : Env} {s : State} {m : MethodId} {args : Array Value} {below : List Frame} {meth : Method} {c : Code} {D : va_G} {cy : Nat → ClassId} {A : Nat → Prop} {ad : Nat → Nat}
abbrev rm_X2_gatherHeads : Room := { frames := 0, cells := 0, slots := 0, locals := 0 }
theorem inw_X2_gatherHeads_X1 : ∀ w ∈ u_ws RX1 TX1 9, w ∈ wsX2_gatherHeads := fun _ h => List.mem_cons_of_mem _ (List.mem_append_left _ (List.mem_append_right _ h))
theorem inw_X2_gatherHeads_X2 : ∀ w ∈ u_ws RX2 TX2 15, w ∈ wsX2_gatherHeads := fun _ h => List.mem_cons_of_mem _ (List.mem_append_left _ (List.mem_append_left _ (List.mem_append_right _ h)))
theorem inw_X2_gatherHeads_X6 : ∀ w ∈ u_ws RX6 TX6 15, w ∈ wsX2_gatherHeads := fun _ h => List.mem_cons_of_mem _ (List.mem_append_right _ h)
abbrev G_X2_gatherHeads (p : Program) (l : Launch) (e : Env) (s : State) (m : MethodId) (args : Array Value) (below : List Frame) (meth : Method) (c : Code) (D : va_G) (A : Nat → Prop) (cy : Nat → ClassId) (ad : Nat → Nat) (post : Sg → Tg → Prop) : va_W → Nat → List (Nat × Value) → Nat → List Value → Prop := Gw p l e rm_X2_gatherHeads s m args below meth c D A (MQ below ((Rv D (cfU cy ad) (fun u => post u.2.1 u.2.2)) A) args s 0 0 A)
def wp_X2_gatherHeads_7 (post : Sg → Tg → Prop) : Nat → Int32 → Sg → Tg → Prop
  | 0, _, _, _ => False
  | n + 1, x1, σ, τ =>
    ((σ 5 0) ≤ x1 →
    post σ τ) ∧
    (¬ (σ 5 0) ≤ x1 →
    vp_in x1 20 ∧
    ((σ 28 x1.toNatClampNeg) ≤ 0 →
    wp_X2_gatherHeads_7 post n (x1 + (1 : Int32)) σ τ) ∧
    (¬ (σ 28 x1.toNatClampNeg) ≤ 0 →
    vp_in (σ 12 0) 20 ∧
    ∀ σ_5 : Sg, σ_5 = va_up σ 40 (upd (σ 40) (σ 12 0).toNatClampNeg x1) →
    ∀ σ_6 : Sg, σ_6 = va_up σ_5 12 (fun _ => (σ_5 12 0) + (1 : Int32)) →
    wp_X2_gatherHeads_7 post n (x1 + (1 : Int32)) σ_6 τ))
set_option maxHeartbeats 4000000 in
set_option maxRecDepth 100000 in
theorem w_X2_gatherHeads_7 (C0 : Mc p m c meth cX2_gatherHeads 2 s args wsX2_gatherHeads RX2 none D cy A) {post : Sg → Tg → Prop} : ∀ (n : Nat) (x1 : Int32) (σ : Sg) (τ : Tg), wp_X2_gatherHeads_7 post n x1 σ τ → ∀ κ : Nat → Nat, G_X2_gatherHeads p l e s m args below meth c D A cy ad post (cfW cy ad κ σ τ) 2 [(0, .ref (ad 6)), (1, .int x1)] 7 [] := by
  obtain ⟨⟨hx, hb, hml, hown, hts⟩, hr, hlocks, hkx, hA⟩ := id C0
  intro n
  induction n with
  | zero => intro x1 σ τ h; exact False.elim h
  | succ n ih =>
    intro x1 σ τ h κ H locs ls hw hl
    unfold wp_X2_gatherHeads_7 at h
    refine lv_iload_n hx hb dX2_gatherHeads_7 rfl (lv_at hl 1 rfl) ?_
    refine lv_aload_n hx hb dX2_gatherHeads_8 rfl (lv_at hl 0 rfl) ?_
    refine cg_li_lines hx hb hts inw_X2_gatherHeads_X2 hown hkx hw (hts _ (List.mem_of_getElem? (i := 2) rfl)) dX2_gatherHeads_9 ?_
    refine cg_ln_count hx hb hts inw_X2_gatherHeads_X1 hown hkx hw (hts _ (List.mem_of_getElem? (i := 3) rfl)) dX2_gatherHeads_12 ?_
    refine lv_icmp_ge (tgt := 56) hx hb dX2_gatherHeads_15 (by decide) (fun c_1 => ?_) (fun c_1 => ?_)
    · replace h := h.1 c_1
      exact end_v (w1 := (cfU cy ad)) (u := (κ, σ, τ)) C0 hw h dX2_gatherHeads_56
    · replace h := h.2 c_1
      refine lv_aload_n hx hb dX2_gatherHeads_18 rfl (lv_at hl 0 rfl) ?_
      refine cg_li_tree hx hb hts inw_X2_gatherHeads_X2 hown hkx hw (hts _ (List.mem_of_getElem? (i := 4) rfl)) dX2_gatherHeads_19 ?_
      refine cg_tr_levels hx hb hts inw_X2_gatherHeads_X6 hown hkx hw (hts _ (List.mem_of_getElem? (i := 5) rfl)) dX2_gatherHeads_22 ?_
      refine lv_iload_n hx hb dX2_gatherHeads_25 rfl (lv_at hl 1 rfl) ?_
      obtain ⟨b_2, h⟩ := h
      refine ca_levels hx hb hkx hw b_2 dX2_gatherHeads_26 ?_
      refine lv_if_le (tgt := 50) hx hb dX2_gatherHeads_27 (by decide) (fun c_3 => ?_) (fun c_3 => ?_)
      · replace h := h.1 c_3
        refine lv_iinc (v := x1 + (1 : Int32)) (lv' := [(1, .int (x1 + (1 : Int32))), (0, .ref (ad 6))]) hx hb dX2_gatherHeads_50 hl (k := 1) rfl rfl (by decide) rfl (fun ls hl => ?_)
        refine lv_goto (tgt := 7) hx hb dX2_gatherHeads_53 (by decide) ?_
        exact ih _ _ _ h _ _ _ _ hw (lv_sub hl [1, 0] rfl)
      · replace h := h.2 c_3
        refine lv_aload_n hx hb dX2_gatherHeads_30 rfl (lv_at hl 0 rfl) ?_
        refine cg_li_heads hx hb hts inw_X2_gatherHeads_X2 hown hkx hw (hts _ (List.mem_of_getElem? (i := 6) rfl)) dX2_gatherHeads_31 ?_
        refine lv_aload_n hx hb dX2_gatherHeads_34 rfl (lv_at hl 0 rfl) ?_
        refine cg_li_headCount hx hb hts inw_X2_gatherHeads_X2 hown hkx hw (hts _ (List.mem_of_getElem? (i := 1) rfl)) dX2_gatherHeads_35 ?_
        refine lv_iload_n hx hb dX2_gatherHeads_38 rfl (lv_at hl 1 rfl) ?_
        obtain ⟨b_4, h⟩ := h
        refine cs_lheads hx hb hkx hw b_4 dX2_gatherHeads_39 (fun σ_5 eσ_5 H locs hw => ?_)
        replace h := h σ_5 eσ_5
        refine lv_aload_n hx hb dX2_gatherHeads_40 rfl (lv_at hl 0 rfl) ?_
        refine lv_dup hx hb dX2_gatherHeads_41 rfl ?_
        refine cg_li_headCount hx hb hts inw_X2_gatherHeads_X2 hown hkx hw (hts _ (List.mem_of_getElem? (i := 1) rfl)) dX2_gatherHeads_42 ?_
        refine lv_iconst (v := 1) hx hb dX2_gatherHeads_45 (by decide) ?_
        refine lv_iadd hx hb dX2_gatherHeads_46 ?_
        refine cp_li_headCount hx hb hts inw_X2_gatherHeads_X2 hown hkx hw (hts _ (List.mem_of_getElem? (i := 1) rfl)) dX2_gatherHeads_47 (fun σ_6 eσ_6 H locs hw => ?_)
        replace h := h σ_6 eσ_6
        refine lv_iinc (v := x1 + (1 : Int32)) (lv' := [(1, .int (x1 + (1 : Int32))), (0, .ref (ad 6))]) hx hb dX2_gatherHeads_50 hl (k := 1) rfl rfl (by decide) rfl (fun ls hl => ?_)
        refine lv_goto (tgt := 7) hx hb dX2_gatherHeads_53 (by decide) ?_
        exact ih _ _ _ h _ _ _ _ hw (lv_sub hl [1, 0] rfl)
def wp_X2_gatherHeads (σ : Sg) (τ : Tg) (post : Sg → Tg → Prop) : Prop :=
    ∀ σ_1 : Sg, σ_1 = va_up σ 12 (fun _ => (0 : Int32)) →
    ∃ fu, wp_X2_gatherHeads_7 post fu (0 : Int32) σ_1 τ
set_option maxHeartbeats 4000000 in
set_option maxRecDepth 100000 in
theorem c_X2_gatherHeads (l : Launch) (D : va_G) (cy : Nat → ClassId) (ad κ : Nat → Nat) (σ : Sg) (τ : Tg) (post : Sg → Tg → Prop) (h : wp_X2_gatherHeads σ τ post) : Ct l yX2_gatherHeads wsX2_gatherHeads rm_X2_gatherHeads D cy [.ref (ad 6)] (cfW cy ad κ σ τ) 0 0 (Rv D (cfU cy ad) (fun u => post u.2.1 u.2.2)) := by
  refine Ct.of (cc := cX2_gatherHeads) (maxL := 2) (rt := none) (by decide) rfl (Nat.le_of_ble_eq_true rfl) ?_
  intro p e s m below meth c A C0 _ H locs ls hw hl
  obtain ⟨⟨hx, hb, hml, hown, hts⟩, hr, hlocks, hkx, hA⟩ := id C0
  have hl : lv_has ls 2 [(0, .ref (ad 6))] := hl
  unfold wp_X2_gatherHeads at h
  refine lv_aload_n hx hb dX2_gatherHeads_0 rfl (lv_at hl 0 rfl) ?_
  refine lv_iconst (v := 0) hx hb dX2_gatherHeads_1 (by decide) ?_
  refine cp_li_headCount hx hb hts inw_X2_gatherHeads_X2 hown hkx hw (hts _ (List.mem_of_getElem? (i := 1) rfl)) dX2_gatherHeads_2 (fun σ_1 eσ_1 H locs hw => ?_)
  replace h := h σ_1 eσ_1
  refine lv_iconst (v := 0) hx hb dX2_gatherHeads_5 (by decide) ?_
  refine lv_istore_n (lv' := [(1, .int (0 : Int32)), (0, .ref (ad 6))]) hx hb dX2_gatherHeads_6 rfl hl (by decide) rfl (fun ls hl => ?_)
  obtain ⟨n_2, h⟩ := h
  exact w_X2_gatherHeads_7 C0 n_2 _ _ _ h _ _ _ _ hw (lv_sub hl [1, 0] rfl)
end
theorem hd_X2_pairCost : yX2_pairCost.cls = RX2 ∧ yX2_pairCost.cls ≠ "java/lang/invoke/MethodHandle" ∧ yX2_pairCost.cls ≠ "java/lang/invoke/VarHandle" ∧ (parseMethodDescriptor yX2_pairCost.desc).map (fun d => d.parameters.length) = some 2 := by decide +kernel
section
variable {p : Program} {l : Launch} {e : Env} {s : State} {m : MethodId} {args : Array Value} {below : List Frame} {meth : Method} {c : Code} {D : va_G} {cy : Nat → ClassId} {A : Nat → Prop} {ad : Nat → Nat}
abbrev rm_X2_pairCost : Room := { frames := 1, cells := 0, slots := 0, locals := 40 }
theorem inw_X2_pairCost_X1 : ∀ w ∈ u_ws RX1 TX1 9, w ∈ wsX2_pairCost := fun _ h => List.mem_cons_of_mem _ (List.mem_append_left _ (List.mem_append_left _ (List.mem_append_left _ (List.mem_append_right _ h))))
theorem inw_X2_pairCost_X2 : ∀ w ∈ u_ws RX2 TX2 15, w ∈ wsX2_pairCost := fun _ h => List.mem_cons_of_mem _ (List.mem_append_left _ (List.mem_append_left _ (List.mem_append_left _ (List.mem_append_left _ (List.mem_append_right _ h)))))
theorem inw_X2_pairCost_X3 : ∀ w ∈ u_ws RX3 TX3 2, w ∈ wsX2_pairCost := fun _ h => List.mem_cons_of_mem _ (List.mem_append_left _ (List.mem_append_right _ h))
theorem inw_X2_pairCost_X4 : ∀ w ∈ u_ws RX4 TX4 3, w ∈ wsX2_pairCost := fun _ h => List.mem_cons_of_mem _ (List.mem_append_right _ h)
theorem inw_X2_pairCost_X6 : ∀ w ∈ u_ws RX6 TX6 15, w ∈ wsX2_pairCost := fun _ h => List.mem_cons_of_mem _ (List.mem_append_left _ (List.mem_append_left _ (List.mem_append_right _ h)))
abbrev G_X2_pairCost (p : Program) (l : Launch) (e : Env) (s : State) (m : MethodId) (args : Array Value) (below : List Frame) (meth : Method) (c : Code) (D : va_G) (A : Nat → Prop) (cy : Nat → ClassId) (ad : Nat → Nat) (post : Int32 → Sg → Tg → Prop) : va_W → Nat → List (Nat × Value) → Nat → List Value → Prop := Gw p l e rm_X2_pairCost s m args below meth c D A (MQ below ((Ri D (cfU cy ad) (fun r u => post r u.2.1 u.2.2)) A) args s 0 0 A)
def wp_X2_pairCost_98 (post : Int32 → Sg → Tg → Prop) (x4 : Int32) (x5 : Int32) (s0 : Int32) (σ : Sg) (τ : Tg) : Prop :=
    (s0 = 0 →
    post ((((σ 16 (4 : Int32).toNatClampNeg) * x4) + ((σ 16 (5 : Int32).toNatClampNeg) * x5)) + (σ 16 (6 : Int32).toNatClampNeg)) σ τ) ∧
    (¬ s0 = 0 →
    post ((((σ 16 (4 : Int32).toNatClampNeg) * x4) + ((σ 16 (5 : Int32).toNatClampNeg) * x5)) + (0 : Int32)) σ τ)
set_option maxHeartbeats 4000000 in
set_option maxRecDepth 100000 in
theorem w_X2_pairCost_98 (C0 : Mc p m c meth cX2_pairCost 7 s args wsX2_pairCost RX2 (some .int) D cy A) {post : Int32 → Sg → Tg → Prop} : ∀ (x4 : Int32) (x5 : Int32) (s0 : Int32) (σ : Sg) (τ : Tg), wp_X2_pairCost_98 post x4 x5 s0 σ τ → ∀ κ : Nat → Nat, G_X2_pairCost p l e s m args below meth c D A cy ad post (cfW cy ad κ σ τ) 7 [(0, .ref (ad 6)), (4, .int x4), (5, .int x5)] 98 [.int s0] := by
  obtain ⟨⟨hx, hb, hml, hown, hts⟩, hr, hlocks, hkx, hA⟩ := id C0
  intro x4 x5 s0 σ τ h κ H locs ls hw hl
  unfold wp_X2_pairCost_98 at h
  refine lv_istore (lv' := [(6, .int s0), (0, .ref (ad 6)), (4, .int x4), (5, .int x5)]) hx hb dX2_pairCost_98 hl (by decide) rfl (fun ls hl => ?_)
  refine lv_aload_n hx hb dX2_pairCost_100 rfl (lv_at hl 1 rfl) ?_
  refine cg_li_settings hx hb hts inw_X2_pairCost_X2 hown hkx hw (hts _ (List.mem_of_getElem? (i := 18) rfl)) dX2_pairCost_101 ?_
  refine cg_st_prices hx hb hts inw_X2_pairCost_X4 hown hkx hw (hts _ (List.mem_of_getElem? (i := 19) rfl)) dX2_pairCost_104 ?_
  refine lv_iconst (v := 4) hx hb dX2_pairCost_107 (by decide) ?_
  refine ca_prices hx hb hkx hw (by unfold vp_in; decide) dX2_pairCost_108 ?_
  refine lv_iload hx hb dX2_pairCost_109 (lv_at hl 2 rfl) ?_
  refine lv_imul hx hb dX2_pairCost_111 ?_
  refine lv_aload_n hx hb dX2_pairCost_112 rfl (lv_at hl 1 rfl) ?_
  refine cg_li_settings hx hb hts inw_X2_pairCost_X2 hown hkx hw (hts _ (List.mem_of_getElem? (i := 18) rfl)) dX2_pairCost_113 ?_
  refine cg_st_prices hx hb hts inw_X2_pairCost_X4 hown hkx hw (hts _ (List.mem_of_getElem? (i := 19) rfl)) dX2_pairCost_116 ?_
  refine lv_iconst (v := 5) hx hb dX2_pairCost_119 (by decide) ?_
  refine ca_prices hx hb hkx hw (by unfold vp_in; decide) dX2_pairCost_120 ?_
  refine lv_iload hx hb dX2_pairCost_121 (lv_at hl 3 rfl) ?_
  refine lv_imul hx hb dX2_pairCost_123 ?_
  refine lv_iadd hx hb dX2_pairCost_124 ?_
  refine lv_iload hx hb dX2_pairCost_125 (lv_at hl 0 rfl) ?_
  refine lv_if_eq (tgt := 134) hx hb dX2_pairCost_127 (by decide) (fun c_3 => ?_) (fun c_3 => ?_)
  · replace h := h.1 c_3
    refine lv_aload_n hx hb dX2_pairCost_134 rfl (lv_at hl 1 rfl) ?_
    refine cg_li_settings hx hb hts inw_X2_pairCost_X2 hown hkx hw (hts _ (List.mem_of_getElem? (i := 18) rfl)) dX2_pairCost_135 ?_
    refine cg_st_prices hx hb hts inw_X2_pairCost_X4 hown hkx hw (hts _ (List.mem_of_getElem? (i := 19) rfl)) dX2_pairCost_138 ?_
    refine lv_bipush (v := 6) hx hb dX2_pairCost_141 (by decide) ?_
    refine ca_prices hx hb hkx hw (by unfold vp_in; decide) dX2_pairCost_143 ?_
    refine lv_iadd hx hb dX2_pairCost_144 ?_
    exact end_i (w1 := (cfU cy ad)) (u := (κ, σ, τ)) C0 hw h dX2_pairCost_145
  · replace h := h.2 c_3
    refine lv_iconst (v := 0) hx hb dX2_pairCost_130 (by decide) ?_
    refine lv_goto (tgt := 144) hx hb dX2_pairCost_131 (by decide) ?_
    refine lv_iadd hx hb dX2_pairCost_144 ?_
    exact end_i (w1 := (cfU cy ad)) (u := (κ, σ, τ)) C0 hw h dX2_pairCost_145
def wp_X2_pairCost (x1 : Int32) (x2 : Int32) (σ : Sg) (τ : Tg) (post : Int32 → Sg → Tg → Prop) : Prop :=
    vp_in x2 20 ∧
    ∀ y_2 : Int32, y_2 = (σ 40 x2.toNatClampNeg) →
    vp_in x1 12 ∧
    vp_in y_2 20 ∧
    wp_X2_unlikePlaces (σ 36 x1.toNatClampNeg) (σ 23 y_2.toNatClampNeg) (fun r_5 =>
    vp_in x1 12 ∧
    vp_in y_2 20 ∧
    wp_X2_unlikePlaces (σ 37 x1.toNatClampNeg) (σ 24 y_2.toNatClampNeg) (fun r_8 =>
    ∀ y_9 : Int32, y_9 = (r_5 + r_8) →
    vp_in x1 12 ∧
    vp_in y_2 20 ∧
    ∀ y_12 : Int32, y_12 = (if 0 ≤ ((σ 34 x1.toNatClampNeg) - (σ 28 y_2.toNatClampNeg)) then ((σ 34 x1.toNatClampNeg) - (σ 28 y_2.toNatClampNeg)) else 0 - ((σ 34 x1.toNatClampNeg) - (σ 28 y_2.toNatClampNeg))) →
    vp_in y_2 20 ∧
    vp_in (σ 19 y_2.toNatClampNeg) 60 ∧
    vp_in x1 12 ∧
    (¬ (σ 18 (σ 19 y_2.toNatClampNeg).toNatClampNeg) = (σ 35 x1.toNatClampNeg) →
    wp_X2_pairCost_98 post y_9 y_12 (0 : Int32) σ τ) ∧
    ((σ 18 (σ 19 y_2.toNatClampNeg).toNatClampNeg) = (σ 35 x1.toNatClampNeg) →
    wp_X2_pairCost_98 post y_9 y_12 (1 : Int32) σ τ)))
set_option maxHeartbeats 4000000 in
set_option maxRecDepth 100000 in
theorem c_X2_pairCost (l : Launch) (D : va_G) (cy : Nat → ClassId) (ad κ : Nat → Nat) (σ : Sg) (τ : Tg) (x1 : Int32) (x2 : Int32) (post : Int32 → Sg → Tg → Prop) (h : wp_X2_pairCost x1 x2 σ τ post) : Ct l yX2_pairCost wsX2_pairCost rm_X2_pairCost D cy [.ref (ad 6), .int x1, .int x2] (cfW cy ad κ σ τ) 0 0 (Ri D (cfU cy ad) (fun r u => post r u.2.1 u.2.2)) := by
  refine Ct.of (cc := cX2_pairCost) (maxL := 7) (rt := (some .int)) (by decide) rfl (Nat.le_of_ble_eq_true rfl) ?_
  intro p e s m below meth c A C0 _ H locs ls hw hl
  obtain ⟨⟨hx, hb, hml, hown, hts⟩, hr, hlocks, hkx, hA⟩ := id C0
  have hl : lv_has ls 7 [(0, .ref (ad 6)), (1, .int x1), (2, .int x2)] := hl
  unfold wp_X2_pairCost at h
  refine lv_aload_n hx hb dX2_pairCost_0 rfl (lv_at hl 0 rfl) ?_
  refine cg_li_heads hx hb hts inw_X2_pairCost_X2 hown hkx hw (hts _ (List.mem_of_getElem? (i := 1) rfl)) dX2_pairCost_1 ?_
  refine lv_iload_n hx hb dX2_pairCost_4 rfl (lv_at hl 2 rfl) ?_
  obtain ⟨b_1, h⟩ := h
  refine ca_lheads hx hb hkx hw b_1 dX2_pairCost_5 ?_
  refine lv_topi (fun y_2 ey_2 => ?_)
  replace h := h y_2 ey_2
  refine lv_istore_n (lv' := [(3, .int y_2), (0, .ref (ad 6)), (1, .int x1), (2, .int x2)]) hx hb dX2_pairCost_6 rfl hl (by decide) rfl (fun ls hl => ?_)
  refine lv_aload_n hx hb dX2_pairCost_7 rfl (lv_at hl 1 rfl) ?_
  refine cg_li_firstWords hx hb hts inw_X2_pairCost_X2 hown hkx hw (hts _ (List.mem_of_getElem? (i := 2) rfl)) dX2_pairCost_8 ?_
  refine lv_iload_n hx hb dX2_pairCost_11 rfl (lv_at hl 2 rfl) ?_
  obtain ⟨b_3, h⟩ := h
  refine ca_efw hx hb hkx hw b_3 dX2_pairCost_12 ?_
  refine lv_aload_n hx hb dX2_pairCost_13 rfl (lv_at hl 1 rfl) ?_
  refine cg_li_lines hx hb hts inw_X2_pairCost_X2 hown hkx hw (hts _ (List.mem_of_getElem? (i := 3) rfl)) dX2_pairCost_14 ?_
  refine cg_ln_firstWords hx hb hts inw_X2_pairCost_X1 hown hkx hw (hts _ (List.mem_of_getElem? (i := 4) rfl)) dX2_pairCost_17 ?_
  refine lv_iload_n hx hb dX2_pairCost_20 rfl (lv_at hl 0 rfl) ?_
  obtain ⟨b_4, h⟩ := h
  refine ca_fw hx hb hkx hw b_4 dX2_pairCost_21 ?_
  refine call_S0i (As := [.int (σ 36 x1.toNatClampNeg), .int (σ 23 y_2.toNatClampNeg)]) ⟨hx, hb, hml, hown, hts⟩ hkx hw hA (c_X2_unlikePlaces l D cy (σ 36 x1.toNatClampNeg) (σ 23 y_2.toNatClampNeg) _ h) (va_cwS 2 hts gX2_pairCost_X2_unlikePlaces rfl rfl rfl hd_X2_unlikePlaces ⟨Nat.le_of_ble_eq_true rfl, Nat.le_of_ble_eq_true rfl⟩) rfl hl.1 rfl (Nat.le_of_ble_eq_true rfl) dX2_pairCost_22 ⟨Nat.zero_le _, Nat.zero_le _⟩ (fun r_5 H locs h hw => ?_)
  refine lv_aload_n hx hb dX2_pairCost_25 rfl (lv_at hl 1 rfl) ?_
  refine cg_li_lastWords hx hb hts inw_X2_pairCost_X2 hown hkx hw (hts _ (List.mem_of_getElem? (i := 5) rfl)) dX2_pairCost_26 ?_
  refine lv_iload_n hx hb dX2_pairCost_29 rfl (lv_at hl 2 rfl) ?_
  obtain ⟨b_6, h⟩ := h
  refine ca_elw hx hb hkx hw b_6 dX2_pairCost_30 ?_
  refine lv_aload_n hx hb dX2_pairCost_31 rfl (lv_at hl 1 rfl) ?_
  refine cg_li_lines hx hb hts inw_X2_pairCost_X2 hown hkx hw (hts _ (List.mem_of_getElem? (i := 3) rfl)) dX2_pairCost_32 ?_
  refine cg_ln_lastWords hx hb hts inw_X2_pairCost_X1 hown hkx hw (hts _ (List.mem_of_getElem? (i := 6) rfl)) dX2_pairCost_35 ?_
  refine lv_iload_n hx hb dX2_pairCost_38 rfl (lv_at hl 0 rfl) ?_
  obtain ⟨b_7, h⟩ := h
  refine ca_lw hx hb hkx hw b_7 dX2_pairCost_39 ?_
  refine call_S0i (As := [.int (σ 37 x1.toNatClampNeg), .int (σ 24 y_2.toNatClampNeg)]) ⟨hx, hb, hml, hown, hts⟩ hkx hw hA (c_X2_unlikePlaces l D cy (σ 37 x1.toNatClampNeg) (σ 24 y_2.toNatClampNeg) _ h) (va_cwS 2 hts gX2_pairCost_X2_unlikePlaces rfl rfl rfl hd_X2_unlikePlaces ⟨Nat.le_of_ble_eq_true rfl, Nat.le_of_ble_eq_true rfl⟩) rfl hl.1 rfl (Nat.le_of_ble_eq_true rfl) dX2_pairCost_40 ⟨Nat.zero_le _, Nat.zero_le _⟩ (fun r_8 H locs h hw => ?_)
  refine lv_iadd hx hb dX2_pairCost_43 ?_
  refine lv_topi (fun y_9 ey_9 => ?_)
  replace h := h y_9 ey_9
  refine lv_istore (lv' := [(4, .int y_9), (3, .int y_2), (0, .ref (ad 6)), (1, .int x1), (2, .int x2)]) hx hb dX2_pairCost_44 hl (by decide) rfl (fun ls hl => ?_)
  refine lv_aload_n hx hb dX2_pairCost_46 rfl (lv_at hl 2 rfl) ?_
  refine cg_li_level hx hb hts inw_X2_pairCost_X2 hown hkx hw (hts _ (List.mem_of_getElem? (i := 7) rfl)) dX2_pairCost_47 ?_
  refine lv_iload_n hx hb dX2_pairCost_50 rfl (lv_at hl 3 rfl) ?_
  obtain ⟨b_10, h⟩ := h
  refine ca_elevel hx hb hkx hw b_10 dX2_pairCost_51 ?_
  refine lv_aload_n hx hb dX2_pairCost_52 rfl (lv_at hl 2 rfl) ?_
  refine cg_li_tree hx hb hts inw_X2_pairCost_X2 hown hkx hw (hts _ (List.mem_of_getElem? (i := 8) rfl)) dX2_pairCost_53 ?_
  refine cg_tr_levels hx hb hts inw_X2_pairCost_X6 hown hkx hw (hts _ (List.mem_of_getElem? (i := 9) rfl)) dX2_pairCost_56 ?_
  refine lv_iload_n hx hb dX2_pairCost_59 rfl (lv_at hl 1 rfl) ?_
  obtain ⟨b_11, h⟩ := h
  refine ca_levels hx hb hkx hw b_11 dX2_pairCost_60 ?_
  refine lv_isub hx hb dX2_pairCost_61 ?_
  refine va_mabs hx hb (hml.trans hl.1.symm) hown (hts _ (List.mem_of_getElem? (i := 10) rfl)) (hts _ (List.mem_of_getElem? (i := 11) rfl)) (hts _ (List.mem_of_getElem? (i := 12) rfl)) (hts _ (List.mem_of_getElem? (i := 13) rfl)) (Nat.le_of_ble_eq_true rfl) (Nat.le_of_ble_eq_true rfl) (Nat.zero_le _) (Nat.zero_le _) dX2_pairCost_62 ?_
  refine lv_topi (fun y_12 ey_12 => ?_)
  replace h := h y_12 ey_12
  refine lv_istore (lv' := [(5, .int y_12), (4, .int y_9), (3, .int y_2), (0, .ref (ad 6)), (1, .int x1), (2, .int x2)]) hx hb dX2_pairCost_65 hl (by decide) rfl (fun ls hl => ?_)
  refine lv_aload_n hx hb dX2_pairCost_67 rfl (lv_at hl 3 rfl) ?_
  refine cg_li_pages hx hb hts inw_X2_pairCost_X2 hown hkx hw (hts _ (List.mem_of_getElem? (i := 14) rfl)) dX2_pairCost_68 ?_
  refine cg_pg_readNumber hx hb hts inw_X2_pairCost_X3 hown hkx hw (hts _ (List.mem_of_getElem? (i := 15) rfl)) dX2_pairCost_71 ?_
  refine lv_aload_n hx hb dX2_pairCost_74 rfl (lv_at hl 3 rfl) ?_
  refine cg_li_lines hx hb hts inw_X2_pairCost_X2 hown hkx hw (hts _ (List.mem_of_getElem? (i := 3) rfl)) dX2_pairCost_75 ?_
  refine cg_ln_page hx hb hts inw_X2_pairCost_X1 hown hkx hw (hts _ (List.mem_of_getElem? (i := 16) rfl)) dX2_pairCost_78 ?_
  refine lv_iload_n hx hb dX2_pairCost_81 rfl (lv_at hl 2 rfl) ?_
  obtain ⟨b_13, h⟩ := h
  refine ca_page hx hb hkx hw b_13 dX2_pairCost_82 ?_
  obtain ⟨b_14, h⟩ := h
  refine ca_readNumber hx hb hkx hw b_14 dX2_pairCost_83 ?_
  refine lv_aload_n hx hb dX2_pairCost_84 rfl (lv_at hl 3 rfl) ?_
  refine cg_li_number hx hb hts inw_X2_pairCost_X2 hown hkx hw (hts _ (List.mem_of_getElem? (i := 17) rfl)) dX2_pairCost_85 ?_
  refine lv_iload_n hx hb dX2_pairCost_88 rfl (lv_at hl 4 rfl) ?_
  obtain ⟨b_15, h⟩ := h
  refine ca_enumber hx hb hkx hw b_15 dX2_pairCost_89 ?_
  refine lv_icmp_ne (tgt := 97) hx hb dX2_pairCost_90 (by decide) (fun c_16 => ?_) (fun c_16 => ?_)
  · replace h := h.1 c_16
    refine lv_iconst (v := 0) hx hb dX2_pairCost_97 (by decide) ?_
    exact w_X2_pairCost_98 C0 _ _ _ _ _ h _ _ _ _ hw (lv_sub hl [3, 1, 0] rfl)
  · replace h := h.2 c_16
    refine lv_iconst (v := 1) hx hb dX2_pairCost_93 (by decide) ?_
    refine lv_goto (tgt := 98) hx hb dX2_pairCost_94 (by decide) ?_
    exact w_X2_pairCost_98 C0 _ _ _ _ _ h _ _ _ _ hw (lv_sub hl [3, 1, 0] rfl)
end
theorem hd_X2_leastFrom : yX2_leastFrom.cls = RX2 ∧ yX2_leastFrom.cls ≠ "java/lang/invoke/MethodHandle" ∧ yX2_leastFrom.cls ≠ "java/lang/invoke/VarHandle" ∧ (parseMethodDescriptor yX2_leastFrom.desc).map (fun d => d.parameters.length) = some 2 := by decide +kernel
section
variable {p : Program} {l : Launch} {e : Env} {s : State} {m : MethodId} {args : Array Value} {below : List Frame} {meth : Method} {c : Code} {D : va_G} {cy : Nat → ClassId} {A : Nat → Prop} {ad : Nat → Nat}
abbrev rm_X2_leastFrom : Room := { frames := 2, cells := 0, slots := 0, locals := 66 }
theorem inw_X2_leastFrom_X2 : ∀ w ∈ u_ws RX2 TX2 15, w ∈ wsX2_leastFrom := fun _ h => List.mem_cons_of_mem _ (List.mem_append_left _ (List.mem_append_left _ (List.mem_append_left _ (List.mem_append_left _ (List.mem_append_right _ h)))))
theorem inw_X2_leastFrom_X4 : ∀ w ∈ u_ws RX4 TX4 3, w ∈ wsX2_leastFrom := fun _ h => List.mem_cons_of_mem _ (List.mem_append_left _ (List.mem_append_left _ (List.mem_append_left _ (List.mem_append_right _ h))))
def wp_X2_leastFrom (x1 : Int32) (x2 : Int32) (σ : Sg) (τ : Tg) (post : Int32 → Sg → Tg → Prop) : Prop :=
    ∀ y_2 : Int32, y_2 = (σ 16 (7 : Int32).toNatClampNeg) →
    (¬ x1 = (σ 10 0) →
    (¬ x2 = (σ 12 0) →
    ∀ y_5 : Int32, y_5 = ((x1 * (21 : Int32)) + x2) →
    vp_in (y_5 + (21 : Int32)) 273 ∧
    vp_in (y_5 + (1 : Int32)) 273 ∧
    ∀ y_8 : Int32, y_8 = (y_2 + (if (σ 41 (y_5 + (1 : Int32)).toNatClampNeg) < (σ 41 (y_5 + (21 : Int32)).toNatClampNeg) then (σ 41 (y_5 + (1 : Int32)).toNatClampNeg) else (σ 41 (y_5 + (21 : Int32)).toNatClampNeg))) →
    wp_X2_pairCost x1 x2 σ τ (fun r_9 σ_10 τ_11 =>
    vp_in ((y_5 + (21 : Int32)) + (1 : Int32)) 273 ∧
    post (if (r_9 + (σ_10 41 ((y_5 + (21 : Int32)) + (1 : Int32)).toNatClampNeg)) < y_8 then (r_9 + (σ_10 41 ((y_5 + (21 : Int32)) + (1 : Int32)).toNatClampNeg)) else y_8) σ_10 τ_11)) ∧
    (x2 = (σ 12 0) →
    post (y_2 * ((σ 10 0) - x1)) σ τ)) ∧
    (x1 = (σ 10 0) →
    post (y_2 * ((σ 12 0) - x2)) σ τ)
set_option maxHeartbeats 4000000 in
set_option maxRecDepth 100000 in
theorem c_X2_leastFrom (l : Launch) (D : va_G) (cy : Nat → ClassId) (ad κ : Nat → Nat) (σ : Sg) (τ : Tg) (x1 : Int32) (x2 : Int32) (post : Int32 → Sg → Tg → Prop) (h : wp_X2_leastFrom x1 x2 σ τ post) : Ct l yX2_leastFrom wsX2_leastFrom rm_X2_leastFrom D cy [.ref (ad 6), .int x1, .int x2] (cfW cy ad κ σ τ) 0 0 (Ri D (cfU cy ad) (fun r u => post r u.2.1 u.2.2)) := by
  refine Ct.of (cc := cX2_leastFrom) (maxL := 6) (rt := (some .int)) (by decide) rfl (Nat.le_of_ble_eq_true rfl) ?_
  intro p e s m below meth c A C0 _ H locs ls hw hl
  obtain ⟨⟨hx, hb, hml, hown, hts⟩, hr, hlocks, hkx, hA⟩ := id C0
  have hl : lv_has ls 6 [(0, .ref (ad 6)), (1, .int x1), (2, .int x2)] := hl
  unfold wp_X2_leastFrom at h
  refine lv_aload_n hx hb dX2_leastFrom_0 rfl (lv_at hl 0 rfl) ?_
  refine cg_li_settings hx hb hts inw_X2_leastFrom_X2 hown hkx hw (hts _ (List.mem_of_getElem? (i := 1) rfl)) dX2_leastFrom_1 ?_
  refine cg_st_prices hx hb hts inw_X2_leastFrom_X4 hown hkx hw (hts _ (List.mem_of_getElem? (i := 2) rfl)) dX2_leastFrom_4 ?_
  refine lv_bipush (v := 7) hx hb dX2_leastFrom_7 (by decide) ?_
  refine ca_prices hx hb hkx hw (by unfold vp_in; decide) dX2_leastFrom_9 ?_
  refine lv_topi (fun y_2 ey_2 => ?_)
  replace h := h y_2 ey_2
  refine lv_istore_n (lv' := [(3, .int y_2), (0, .ref (ad 6)), (1, .int x1), (2, .int x2)]) hx hb dX2_leastFrom_10 rfl hl (by decide) rfl (fun ls hl => ?_)
  refine lv_iload_n hx hb dX2_leastFrom_11 rfl (lv_at hl 2 rfl) ?_
  refine lv_aload_n hx hb dX2_leastFrom_12 rfl (lv_at hl 1 rfl) ?_
  refine cg_li_count hx hb hts inw_X2_leastFrom_X2 hown hkx hw (hts _ (List.mem_of_getElem? (i := 3) rfl)) dX2_leastFrom_13 ?_
  refine lv_icmp_ne (tgt := 28) hx hb dX2_leastFrom_16 (by decide) (fun c_3 => ?_) (fun c_3 => ?_)
  · replace h := h.1 c_3
    refine lv_iload_n hx hb dX2_leastFrom_28 rfl (lv_at hl 3 rfl) ?_
    refine lv_aload_n hx hb dX2_leastFrom_29 rfl (lv_at hl 1 rfl) ?_
    refine cg_li_headCount hx hb hts inw_X2_leastFrom_X2 hown hkx hw (hts _ (List.mem_of_getElem? (i := 4) rfl)) dX2_leastFrom_30 ?_
    refine lv_icmp_ne (tgt := 45) hx hb dX2_leastFrom_33 (by decide) (fun c_4 => ?_) (fun c_4 => ?_)
    · replace h := h.1 c_4
      refine lv_iload_n hx hb dX2_leastFrom_45 rfl (lv_at hl 2 rfl) ?_
      refine lv_bipush (v := 21) hx hb dX2_leastFrom_46 (by decide) ?_
      refine lv_imul hx hb dX2_leastFrom_48 ?_
      refine lv_iload_n hx hb dX2_leastFrom_49 rfl (lv_at hl 3 rfl) ?_
      refine lv_iadd hx hb dX2_leastFrom_50 ?_
      refine lv_topi (fun y_5 ey_5 => ?_)
      replace h := h y_5 ey_5
      refine lv_istore (lv' := [(4, .int y_5), (3, .int y_2), (0, .ref (ad 6)), (1, .int x1), (2, .int x2)]) hx hb dX2_leastFrom_51 hl (by decide) rfl (fun ls hl => ?_)
      refine lv_iload_n hx hb dX2_leastFrom_53 rfl (lv_at hl 1 rfl) ?_
      refine lv_aload_n hx hb dX2_leastFrom_54 rfl (lv_at hl 2 rfl) ?_
      refine cg_li_least hx hb hts inw_X2_leastFrom_X2 hown hkx hw (hts _ (List.mem_of_getElem? (i := 5) rfl)) dX2_leastFrom_55 ?_
      refine lv_iload hx hb dX2_leastFrom_58 (lv_at hl 0 rfl) ?_
      refine lv_bipush (v := 21) hx hb dX2_leastFrom_60 (by decide) ?_
      refine lv_iadd hx hb dX2_leastFrom_62 ?_
      obtain ⟨b_6, h⟩ := h
      refine ca_lleast hx hb hkx hw b_6 dX2_leastFrom_63 ?_
      refine lv_aload_n hx hb dX2_leastFrom_64 rfl (lv_at hl 2 rfl) ?_
      refine cg_li_least hx hb hts inw_X2_leastFrom_X2 hown hkx hw (hts _ (List.mem_of_getElem? (i := 5) rfl)) dX2_leastFrom_65 ?_
      refine lv_iload hx hb dX2_leastFrom_68 (lv_at hl 0 rfl) ?_
      refine lv_iconst (v := 1) hx hb dX2_leastFrom_70 (by decide) ?_
      refine lv_iadd hx hb dX2_leastFrom_71 ?_
      obtain ⟨b_7, h⟩ := h
      refine ca_lleast hx hb hkx hw b_7 dX2_leastFrom_72 ?_
      refine va_mmin hx hb (hml.trans hl.1.symm) hown (hts _ (List.mem_of_getElem? (i := 6) rfl)) (hts _ (List.mem_of_getElem? (i := 7) rfl)) (hts _ (List.mem_of_getElem? (i := 8) rfl)) (hts _ (List.mem_of_getElem? (i := 9) rfl)) (Nat.le_of_ble_eq_true rfl) (Nat.le_of_ble_eq_true rfl) (Nat.zero_le _) (Nat.zero_le _) dX2_leastFrom_73 ?_
      refine lv_iadd hx hb dX2_leastFrom_76 ?_
      refine lv_topi (fun y_8 ey_8 => ?_)
      replace h := h y_8 ey_8
      refine lv_istore (lv' := [(5, .int y_8), (4, .int y_5), (3, .int y_2), (0, .ref (ad 6)), (1, .int x1), (2, .int x2)]) hx hb dX2_leastFrom_77 hl (by decide) rfl (fun ls hl => ?_)
      refine lv_iload hx hb dX2_leastFrom_79 (lv_at hl 0 rfl) ?_
      refine lv_aload_n hx hb dX2_leastFrom_81 rfl (lv_at hl 3 rfl) ?_
      refine lv_iload_n hx hb dX2_leastFrom_82 rfl (lv_at hl 4 rfl) ?_
      refine lv_iload_n hx hb dX2_leastFrom_83 rfl (lv_at hl 5 rfl) ?_
      refine cf_Vi (As := [.int x1, .int x2]) ⟨hx, hb, hml, hown, hts⟩ hkx hw hA (c_X2_pairCost l D cy ad κ σ τ x1 x2 _ h) (cwV 2 hts gX2_leastFrom_X2_pairCost rfl rfl rfl hd_X2_pairCost ⟨Nat.le_of_ble_eq_true rfl, Nat.le_of_ble_eq_true rfl⟩) 6 2 rfl rfl rfl hl.1 rfl (Nat.le_of_ble_eq_true rfl) dX2_leastFrom_84 ⟨Nat.zero_le _, Nat.zero_le _⟩ (fun r_9 κ σ_10 τ_11 H locs h hw => ?_)
      refine lv_aload_n hx hb dX2_leastFrom_87 rfl (lv_at hl 3 rfl) ?_
      refine cg_li_least hx hb hts inw_X2_leastFrom_X2 hown hkx hw (hts _ (List.mem_of_getElem? (i := 5) rfl)) dX2_leastFrom_88 ?_
      refine lv_iload hx hb dX2_leastFrom_91 (lv_at hl 1 rfl) ?_
      refine lv_bipush (v := 21) hx hb dX2_leastFrom_93 (by decide) ?_
      refine lv_iadd hx hb dX2_leastFrom_95 ?_
      refine lv_iconst (v := 1) hx hb dX2_leastFrom_96 (by decide) ?_
      refine lv_iadd hx hb dX2_leastFrom_97 ?_
      obtain ⟨b_12, h⟩ := h
      refine ca_lleast hx hb hkx hw b_12 dX2_leastFrom_98 ?_
      refine lv_iadd hx hb dX2_leastFrom_99 ?_
      refine va_mmin hx hb (hml.trans hl.1.symm) hown (hts _ (List.mem_of_getElem? (i := 6) rfl)) (hts _ (List.mem_of_getElem? (i := 7) rfl)) (hts _ (List.mem_of_getElem? (i := 8) rfl)) (hts _ (List.mem_of_getElem? (i := 9) rfl)) (Nat.le_of_ble_eq_true rfl) (Nat.le_of_ble_eq_true rfl) (Nat.zero_le _) (Nat.zero_le _) dX2_leastFrom_100 ?_
      exact end_i (w1 := (cfU cy ad)) (u := (κ, σ_10, τ_11)) C0 hw h dX2_leastFrom_103
    · replace h := h.2 c_4
      refine lv_iload_n hx hb dX2_leastFrom_36 rfl (lv_at hl 0 rfl) ?_
      refine lv_aload_n hx hb dX2_leastFrom_37 rfl (lv_at hl 1 rfl) ?_
      refine cg_li_count hx hb hts inw_X2_leastFrom_X2 hown hkx hw (hts _ (List.mem_of_getElem? (i := 3) rfl)) dX2_leastFrom_38 ?_
      refine lv_iload_n hx hb dX2_leastFrom_41 rfl (lv_at hl 2 rfl) ?_
      refine lv_isub hx hb dX2_leastFrom_42 ?_
      refine lv_imul hx hb dX2_leastFrom_43 ?_
      exact end_i (w1 := (cfU cy ad)) (u := (κ, σ, τ)) C0 hw h dX2_leastFrom_44
  · replace h := h.2 c_3
    refine lv_iload_n hx hb dX2_leastFrom_19 rfl (lv_at hl 0 rfl) ?_
    refine lv_aload_n hx hb dX2_leastFrom_20 rfl (lv_at hl 1 rfl) ?_
    refine cg_li_headCount hx hb hts inw_X2_leastFrom_X2 hown hkx hw (hts _ (List.mem_of_getElem? (i := 4) rfl)) dX2_leastFrom_21 ?_
    refine lv_iload_n hx hb dX2_leastFrom_24 rfl (lv_at hl 3 rfl) ?_
    refine lv_isub hx hb dX2_leastFrom_25 ?_
    refine lv_imul hx hb dX2_leastFrom_26 ?_
    exact end_i (w1 := (cfU cy ad)) (u := (κ, σ, τ)) C0 hw h dX2_leastFrom_27
end
theorem hd_X2_firstCheapHead : yX2_firstCheapHead.cls = RX2 ∧ yX2_firstCheapHead.cls ≠ "java/lang/invoke/MethodHandle" ∧ yX2_firstCheapHead.cls ≠ "java/lang/invoke/VarHandle" ∧ (parseMethodDescriptor yX2_firstCheapHead.desc).map (fun d => d.parameters.length) = some 2 := by decide +kernel
section
variable {p : Program} {l : Launch} {e : Env} {s : State} {m : MethodId} {args : Array Value} {below : List Frame} {meth : Method} {c : Code} {D : va_G} {cy : Nat → ClassId} {A : Nat → Prop} {ad : Nat → Nat}
abbrev rm_X2_firstCheapHead : Room := { frames := 2, cells := 0, slots := 0, locals := 66 }
theorem inw_X2_firstCheapHead_X2 : ∀ w ∈ u_ws RX2 TX2 15, w ∈ wsX2_firstCheapHead := fun _ h => List.mem_cons_of_mem _ (List.mem_append_left _ (List.mem_append_left _ (List.mem_append_left _ (List.mem_append_left _ (List.mem_append_right _ h)))))
theorem inw_X2_firstCheapHead_X4 : ∀ w ∈ u_ws RX4 TX4 3, w ∈ wsX2_firstCheapHead := fun _ h => List.mem_cons_of_mem _ (List.mem_append_left _ (List.mem_append_left _ (List.mem_append_left _ (List.mem_append_right _ h))))
abbrev G_X2_firstCheapHead (p : Program) (l : Launch) (e : Env) (s : State) (m : MethodId) (args : Array Value) (below : List Frame) (meth : Method) (c : Code) (D : va_G) (A : Nat → Prop) (cy : Nat → ClassId) (ad : Nat → Nat) (post : Int32 → Sg → Tg → Prop) : va_W → Nat → List (Nat × Value) → Nat → List Value → Prop := Gw p l e rm_X2_firstCheapHead s m args below meth c D A (MQ below ((Ri D (cfU cy ad) (fun r u => post r u.2.1 u.2.2)) A) args s 0 0 A)
def wp_X2_firstCheapHead_18 (post : Int32 → Sg → Tg → Prop) : Nat → Int32 → Int32 → Int32 → Int32 → Sg → Tg → Prop
  | 0, _, _, _, _, _, _ => False
  | n + 1, x1, x3, x4, x5, σ, τ =>
    ((σ 12 0) ≤ x5 →
    post (-1 : Int32) σ τ) ∧
    (¬ (σ 12 0) ≤ x5 →
    vp_in ((((x1 + (1 : Int32)) * (21 : Int32)) + x5) + (1 : Int32)) 273 ∧
    ∀ y_3 : Int32, y_3 = (σ 41 ((((x1 + (1 : Int32)) * (21 : Int32)) + x5) + (1 : Int32)).toNatClampNeg) →
    wp_X2_pairCost x1 x5 σ τ (fun r_4 σ_5 τ_6 =>
    (¬ ((x4 + r_4) + y_3) = x3 →
    ∀ y_9 : Int32, y_9 = (x4 + (σ_5 16 (7 : Int32).toNatClampNeg)) →
    wp_X2_firstCheapHead_18 post n x1 x3 y_9 (x5 + (1 : Int32)) σ_5 τ_6) ∧
    (((x4 + r_4) + y_3) = x3 →
    post x5 σ_5 τ_6)))
set_option maxHeartbeats 4000000 in
set_option maxRecDepth 100000 in
theorem w_X2_firstCheapHead_18 (C0 : Mc p m c meth cX2_firstCheapHead 7 s args wsX2_firstCheapHead RX2 (some .int) D cy A) {post : Int32 → Sg → Tg → Prop} : ∀ (n : Nat) (x1 : Int32) (x3 : Int32) (x4 : Int32) (x5 : Int32) (σ : Sg) (τ : Tg), wp_X2_firstCheapHead_18 post n x1 x3 x4 x5 σ τ → ∀ κ : Nat → Nat, G_X2_firstCheapHead p l e s m args below meth c D A cy ad post (cfW cy ad κ σ τ) 7 [(0, .ref (ad 6)), (1, .int x1), (3, .int x3), (4, .int x4), (5, .int x5)] 18 [] := by
  obtain ⟨⟨hx, hb, hml, hown, hts⟩, hr, hlocks, hkx, hA⟩ := id C0
  intro n
  induction n with
  | zero => intro x1 x3 x4 x5 σ τ h; exact False.elim h
  | succ n ih =>
    intro x1 x3 x4 x5 σ τ h κ H locs ls hw hl
    unfold wp_X2_firstCheapHead_18 at h
    refine lv_iload hx hb dX2_firstCheapHead_18 (lv_at hl 4 rfl) ?_
    refine lv_aload_n hx hb dX2_firstCheapHead_20 rfl (lv_at hl 0 rfl) ?_
    refine cg_li_headCount hx hb hts inw_X2_firstCheapHead_X2 hown hkx hw (hts _ (List.mem_of_getElem? (i := 2) rfl)) dX2_firstCheapHead_21 ?_
    refine lv_icmp_ge (tgt := 86) hx hb dX2_firstCheapHead_24 (by decide) (fun c_1 => ?_) (fun c_1 => ?_)
    · replace h := h.1 c_1
      refine lv_iconst (v := -1) hx hb dX2_firstCheapHead_86 (by decide) ?_
      exact end_i (w1 := (cfU cy ad)) (u := (κ, σ, τ)) C0 hw h dX2_firstCheapHead_87
    · replace h := h.2 c_1
      refine lv_aload_n hx hb dX2_firstCheapHead_27 rfl (lv_at hl 0 rfl) ?_
      refine cg_li_least hx hb hts inw_X2_firstCheapHead_X2 hown hkx hw (hts _ (List.mem_of_getElem? (i := 1) rfl)) dX2_firstCheapHead_28 ?_
      refine lv_iload_n hx hb dX2_firstCheapHead_31 rfl (lv_at hl 1 rfl) ?_
      refine lv_iconst (v := 1) hx hb dX2_firstCheapHead_32 (by decide) ?_
      refine lv_iadd hx hb dX2_firstCheapHead_33 ?_
      refine lv_bipush (v := 21) hx hb dX2_firstCheapHead_34 (by decide) ?_
      refine lv_imul hx hb dX2_firstCheapHead_36 ?_
      refine lv_iload hx hb dX2_firstCheapHead_37 (lv_at hl 4 rfl) ?_
      refine lv_iadd hx hb dX2_firstCheapHead_39 ?_
      refine lv_iconst (v := 1) hx hb dX2_firstCheapHead_40 (by decide) ?_
      refine lv_iadd hx hb dX2_firstCheapHead_41 ?_
      obtain ⟨b_2, h⟩ := h
      refine ca_lleast hx hb hkx hw b_2 dX2_firstCheapHead_42 ?_
      refine lv_topi (fun y_3 ey_3 => ?_)
      replace h := h y_3 ey_3
      refine lv_istore (lv' := [(6, .int y_3), (0, .ref (ad 6)), (1, .int x1), (3, .int x3), (4, .int x4), (5, .int x5)]) hx hb dX2_firstCheapHead_43 hl (by decide) rfl (fun ls hl => ?_)
      refine lv_iload hx hb dX2_firstCheapHead_45 (lv_at hl 4 rfl) ?_
      refine lv_aload_n hx hb dX2_firstCheapHead_47 rfl (lv_at hl 1 rfl) ?_
      refine lv_iload_n hx hb dX2_firstCheapHead_48 rfl (lv_at hl 2 rfl) ?_
      refine lv_iload hx hb dX2_firstCheapHead_49 (lv_at hl 5 rfl) ?_
      refine cf_Vi (As := [.int x1, .int x5]) ⟨hx, hb, hml, hown, hts⟩ hkx hw hA (c_X2_pairCost l D cy ad κ σ τ x1 x5 _ h) (cwV 2 hts gX2_firstCheapHead_X2_pairCost rfl rfl rfl hd_X2_pairCost ⟨Nat.le_of_ble_eq_true rfl, Nat.le_of_ble_eq_true rfl⟩) 6 2 rfl rfl rfl hl.1 rfl (Nat.le_of_ble_eq_true rfl) dX2_firstCheapHead_51 ⟨Nat.zero_le _, Nat.zero_le _⟩ (fun r_4 κ σ_5 τ_6 H locs h hw => ?_)
      refine lv_iadd hx hb dX2_firstCheapHead_54 ?_
      refine lv_iload hx hb dX2_firstCheapHead_55 (lv_at hl 0 rfl) ?_
      refine lv_iadd hx hb dX2_firstCheapHead_57 ?_
      refine lv_iload_n hx hb dX2_firstCheapHead_58 rfl (lv_at hl 3 rfl) ?_
      refine lv_icmp_ne (tgt := 65) hx hb dX2_firstCheapHead_59 (by decide) (fun c_7 => ?_) (fun c_7 => ?_)
      · replace h := h.1 c_7
        refine lv_iload hx hb dX2_firstCheapHead_65 (lv_at hl 4 rfl) ?_
        refine lv_aload_n hx hb dX2_firstCheapHead_67 rfl (lv_at hl 1 rfl) ?_
        refine cg_li_settings hx hb hts inw_X2_firstCheapHead_X2 hown hkx hw (hts _ (List.mem_of_getElem? (i := 3) rfl)) dX2_firstCheapHead_68 ?_
        refine cg_st_prices hx hb hts inw_X2_firstCheapHead_X4 hown hkx hw (hts _ (List.mem_of_getElem? (i := 4) rfl)) dX2_firstCheapHead_71 ?_
        refine lv_bipush (v := 7) hx hb dX2_firstCheapHead_74 (by decide) ?_
        refine ca_prices hx hb hkx hw (by unfold vp_in; decide) dX2_firstCheapHead_76 ?_
        refine lv_iadd hx hb dX2_firstCheapHead_77 ?_
        refine lv_topi (fun y_9 ey_9 => ?_)
        replace h := h y_9 ey_9
        refine lv_istore (lv' := [(4, .int y_9), (6, .int y_3), (0, .ref (ad 6)), (1, .int x1), (3, .int x3), (5, .int x5)]) hx hb dX2_firstCheapHead_78 hl (by decide) rfl (fun ls hl => ?_)
        refine lv_iinc (v := x5 + (1 : Int32)) (lv' := [(5, .int (x5 + (1 : Int32))), (4, .int y_9), (6, .int y_3), (0, .ref (ad 6)), (1, .int x1), (3, .int x3)]) hx hb dX2_firstCheapHead_80 hl (k := 5) rfl rfl (by decide) rfl (fun ls hl => ?_)
        refine lv_goto (tgt := 18) hx hb dX2_firstCheapHead_83 (by decide) ?_
        exact ih _ _ _ _ _ _ h _ _ _ _ hw (lv_sub hl [3, 4, 5, 1, 0] rfl)
      · replace h := h.2 c_7
        refine lv_iload hx hb dX2_firstCheapHead_62 (lv_at hl 5 rfl) ?_
        exact end_i (w1 := (cfU cy ad)) (u := (κ, σ_5, τ_6)) C0 hw h dX2_firstCheapHead_64
def wp_X2_firstCheapHead (x1 : Int32) (x2 : Int32) (σ : Sg) (τ : Tg) (post : Int32 → Sg → Tg → Prop) : Prop :=
    vp_in ((x1 * (21 : Int32)) + x2) 273 ∧
    ∀ y_2 : Int32, y_2 = (σ 41 ((x1 * (21 : Int32)) + x2).toNatClampNeg) →
    ∃ fu, wp_X2_firstCheapHead_18 post fu x1 y_2 (0 : Int32) x2 σ τ
set_option maxHeartbeats 4000000 in
set_option maxRecDepth 100000 in
theorem c_X2_firstCheapHead (l : Launch) (D : va_G) (cy : Nat → ClassId) (ad κ : Nat → Nat) (σ : Sg) (τ : Tg) (x1 : Int32) (x2 : Int32) (post : Int32 → Sg → Tg → Prop) (h : wp_X2_firstCheapHead x1 x2 σ τ post) : Ct l yX2_firstCheapHead wsX2_firstCheapHead rm_X2_firstCheapHead D cy [.ref (ad 6), .int x1, .int x2] (cfW cy ad κ σ τ) 0 0 (Ri D (cfU cy ad) (fun r u => post r u.2.1 u.2.2)) := by
  refine Ct.of (cc := cX2_firstCheapHead) (maxL := 7) (rt := (some .int)) (by decide) rfl (Nat.le_of_ble_eq_true rfl) ?_
  intro p e s m below meth c A C0 _ H locs ls hw hl
  obtain ⟨⟨hx, hb, hml, hown, hts⟩, hr, hlocks, hkx, hA⟩ := id C0
  have hl : lv_has ls 7 [(0, .ref (ad 6)), (1, .int x1), (2, .int x2)] := hl
  unfold wp_X2_firstCheapHead at h
  refine lv_aload_n hx hb dX2_firstCheapHead_0 rfl (lv_at hl 0 rfl) ?_
  refine cg_li_least hx hb hts inw_X2_firstCheapHead_X2 hown hkx hw (hts _ (List.mem_of_getElem? (i := 1) rfl)) dX2_firstCheapHead_1 ?_
  refine lv_iload_n hx hb dX2_firstCheapHead_4 rfl (lv_at hl 1 rfl) ?_
  refine lv_bipush (v := 21) hx hb dX2_firstCheapHead_5 (by decide) ?_
  refine lv_imul hx hb dX2_firstCheapHead_7 ?_
  refine lv_iload_n hx hb dX2_firstCheapHead_8 rfl (lv_at hl 2 rfl) ?_
  refine lv_iadd hx hb dX2_firstCheapHead_9 ?_
  obtain ⟨b_1, h⟩ := h
  refine ca_lleast hx hb hkx hw b_1 dX2_firstCheapHead_10 ?_
  refine lv_topi (fun y_2 ey_2 => ?_)
  replace h := h y_2 ey_2
  refine lv_istore_n (lv' := [(3, .int y_2), (0, .ref (ad 6)), (1, .int x1), (2, .int x2)]) hx hb dX2_firstCheapHead_11 rfl hl (by decide) rfl (fun ls hl => ?_)
  refine lv_iconst (v := 0) hx hb dX2_firstCheapHead_12 (by decide) ?_
  refine lv_istore (lv' := [(4, .int (0 : Int32)), (3, .int y_2), (0, .ref (ad 6)), (1, .int x1), (2, .int x2)]) hx hb dX2_firstCheapHead_13 hl (by decide) rfl (fun ls hl => ?_)
  refine lv_iload_n hx hb dX2_firstCheapHead_15 rfl (lv_at hl 4 rfl) ?_
  refine lv_istore (lv' := [(5, .int x2), (4, .int (0 : Int32)), (3, .int y_2), (0, .ref (ad 6)), (1, .int x1), (2, .int x2)]) hx hb dX2_firstCheapHead_16 hl (by decide) rfl (fun ls hl => ?_)
  obtain ⟨n_3, h⟩ := h
  exact w_X2_firstCheapHead_18 C0 n_3 _ _ _ _ _ _ h _ _ _ _ hw (lv_sub hl [3, 4, 2, 1, 0] rfl)
end
theorem hd_X2_tellPartners : yX2_tellPartners.cls = RX2 ∧ yX2_tellPartners.cls ≠ "java/lang/invoke/MethodHandle" ∧ yX2_tellPartners.cls ≠ "java/lang/invoke/VarHandle" ∧ (parseMethodDescriptor yX2_tellPartners.desc).map (fun d => d.parameters.length) = some 0 := by decide +kernel
section
variable {p : Program} {l : Launch} {e : Env} {s : State} {m : MethodId} {args : Array Value} {below : List Frame} {meth : Method} {c : Code} {D : va_G} {cy : Nat → ClassId} {A : Nat → Prop} {ad : Nat → Nat}
abbrev rm_X2_tellPartners : Room := { frames := 3, cells := 0, slots := 0, locals := 92 }
theorem inw_X2_tellPartners_X2 : ∀ w ∈ u_ws RX2 TX2 15, w ∈ wsX2_tellPartners := fun _ h => List.mem_cons_of_mem _ (List.mem_append_left _ (List.mem_append_left _ (List.mem_append_left _ (List.mem_append_left _ (List.mem_append_right _ h)))))
abbrev G_X2_tellPartners (p : Program) (l : Launch) (e : Env) (s : State) (m : MethodId) (args : Array Value) (below : List Frame) (meth : Method) (c : Code) (D : va_G) (A : Nat → Prop) (cy : Nat → ClassId) (ad : Nat → Nat) (post : Sg → Tg → Prop) : va_W → Nat → List (Nat × Value) → Nat → List Value → Prop := Gw p l e rm_X2_tellPartners s m args below meth c D A (MQ below ((Rv D (cfU cy ad) (fun u => post u.2.1 u.2.2)) A) args s 0 0 A)
def wp_X2_tellPartners_20 (post : Sg → Tg → Prop) : Nat → Int32 → Int32 → Sg → Tg → Prop
  | 0, _, _, _, _ => False
  | n + 1, x1, x2, σ, τ =>
    ((σ 10 0) ≤ x2 →
    post σ τ) ∧
    (¬ (σ 10 0) ≤ x2 →
    wp_X2_firstCheapHead x2 x1 σ τ (fun r_2 σ_3 τ_4 =>
    (r_2 = (-1 : Int32) →
    wp_X2_tellPartners_20 post n x1 (x2 + (1 : Int32)) σ_3 τ_4) ∧
    (¬ r_2 = (-1 : Int32) →
    vp_in r_2 20 ∧
    vp_in x2 12 ∧
    ∀ σ_8 : Sg, σ_8 = va_up σ_3 38 (upd (σ_3 38) x2.toNatClampNeg (σ_3 40 r_2.toNatClampNeg)) →
    vp_in r_2 20 ∧
    vp_in (σ_8 40 r_2.toNatClampNeg) 20 ∧
    ∀ σ_11 : Sg, σ_11 = va_up σ_8 39 (upd (σ_8 39) (σ_8 40 r_2.toNatClampNeg).toNatClampNeg x2) →
    ∀ y_12 : Int32, y_12 = (r_2 + (1 : Int32)) →
    wp_X2_tellPartners_20 post n y_12 (x2 + (1 : Int32)) σ_11 τ_4)))
set_option maxHeartbeats 4000000 in
set_option maxRecDepth 100000 in
theorem w_X2_tellPartners_20 (C0 : Mc p m c meth cX2_tellPartners 4 s args wsX2_tellPartners RX2 none D cy A) {post : Sg → Tg → Prop} : ∀ (n : Nat) (x1 : Int32) (x2 : Int32) (σ : Sg) (τ : Tg), wp_X2_tellPartners_20 post n x1 x2 σ τ → ∀ κ : Nat → Nat, G_X2_tellPartners p l e s m args below meth c D A cy ad post (cfW cy ad κ σ τ) 4 [(0, .ref (ad 6)), (1, .int x1), (2, .int x2)] 20 [] := by
  obtain ⟨⟨hx, hb, hml, hown, hts⟩, hr, hlocks, hkx, hA⟩ := id C0
  intro n
  induction n with
  | zero => intro x1 x2 σ τ h; exact False.elim h
  | succ n ih =>
    intro x1 x2 σ τ h κ H locs ls hw hl
    unfold wp_X2_tellPartners_20 at h
    refine lv_iload_n hx hb dX2_tellPartners_20 rfl (lv_at hl 2 rfl) ?_
    refine lv_aload_n hx hb dX2_tellPartners_21 rfl (lv_at hl 0 rfl) ?_
    refine cg_li_count hx hb hts inw_X2_tellPartners_X2 hown hkx hw (hts _ (List.mem_of_getElem? (i := 3) rfl)) dX2_tellPartners_22 ?_
    refine lv_icmp_ge (tgt := 74) hx hb dX2_tellPartners_25 (by decide) (fun c_1 => ?_) (fun c_1 => ?_)
    · replace h := h.1 c_1
      exact end_v (w1 := (cfU cy ad)) (u := (κ, σ, τ)) C0 hw h dX2_tellPartners_74
    · replace h := h.2 c_1
      refine lv_aload_n hx hb dX2_tellPartners_28 rfl (lv_at hl 0 rfl) ?_
      refine lv_iload_n hx hb dX2_tellPartners_29 rfl (lv_at hl 2 rfl) ?_
      refine lv_iload_n hx hb dX2_tellPartners_30 rfl (lv_at hl 1 rfl) ?_
      refine cf_Vi (As := [.int x2, .int x1]) ⟨hx, hb, hml, hown, hts⟩ hkx hw hA (c_X2_firstCheapHead l D cy ad κ σ τ x2 x1 _ h) (cwV 2 hts gX2_tellPartners_X2_firstCheapHead rfl rfl rfl hd_X2_firstCheapHead ⟨Nat.le_of_ble_eq_true rfl, Nat.le_of_ble_eq_true rfl⟩) 6 2 rfl rfl rfl hl.1 rfl (Nat.le_of_ble_eq_true rfl) dX2_tellPartners_31 ⟨Nat.zero_le _, Nat.zero_le _⟩ (fun r_2 κ σ_3 τ_4 H locs h hw => ?_)
      refine lv_istore_n (lv' := [(3, .int r_2), (0, .ref (ad 6)), (1, .int x1), (2, .int x2)]) hx hb dX2_tellPartners_34 rfl hl (by decide) rfl (fun ls hl => ?_)
      refine lv_iload_n hx hb dX2_tellPartners_35 rfl (lv_at hl 0 rfl) ?_
      refine lv_iconst (v := -1) hx hb dX2_tellPartners_36 (by decide) ?_
      refine lv_icmp_eq (tgt := 68) hx hb dX2_tellPartners_37 (by decide) (fun c_5 => ?_) (fun c_5 => ?_)
      · replace h := h.1 c_5
        refine lv_iinc (v := x2 + (1 : Int32)) (lv' := [(2, .int (x2 + (1 : Int32))), (3, .int r_2), (0, .ref (ad 6)), (1, .int x1)]) hx hb dX2_tellPartners_68 hl (k := 3) rfl rfl (by decide) rfl (fun ls hl => ?_)
        refine lv_goto (tgt := 20) hx hb dX2_tellPartners_71 (by decide) ?_
        exact ih _ _ _ _ h _ _ _ _ hw (lv_sub hl [2, 3, 0] rfl)
      · replace h := h.2 c_5
        refine lv_aload_n hx hb dX2_tellPartners_40 rfl (lv_at hl 1 rfl) ?_
        refine cg_li_partnerOfEntry hx hb hts inw_X2_tellPartners_X2 hown hkx hw (hts _ (List.mem_of_getElem? (i := 1) rfl)) dX2_tellPartners_41 ?_
        refine lv_iload_n hx hb dX2_tellPartners_44 rfl (lv_at hl 3 rfl) ?_
        refine lv_aload_n hx hb dX2_tellPartners_45 rfl (lv_at hl 1 rfl) ?_
        refine cg_li_heads hx hb hts inw_X2_tellPartners_X2 hown hkx hw (hts _ (List.mem_of_getElem? (i := 4) rfl)) dX2_tellPartners_46 ?_
        refine lv_iload_n hx hb dX2_tellPartners_49 rfl (lv_at hl 0 rfl) ?_
        obtain ⟨b_6, h⟩ := h
        refine ca_lheads hx hb hkx hw b_6 dX2_tellPartners_50 ?_
        obtain ⟨b_7, h⟩ := h
        refine cs_poe hx hb hkx hw b_7 dX2_tellPartners_51 (fun σ_8 eσ_8 H locs hw => ?_)
        replace h := h σ_8 eσ_8
        refine lv_aload_n hx hb dX2_tellPartners_52 rfl (lv_at hl 1 rfl) ?_
        refine cg_li_partnerOfLine hx hb hts inw_X2_tellPartners_X2 hown hkx hw (hts _ (List.mem_of_getElem? (i := 2) rfl)) dX2_tellPartners_53 ?_
        refine lv_aload_n hx hb dX2_tellPartners_56 rfl (lv_at hl 1 rfl) ?_
        refine cg_li_heads hx hb hts inw_X2_tellPartners_X2 hown hkx hw (hts _ (List.mem_of_getElem? (i := 4) rfl)) dX2_tellPartners_57 ?_
        refine lv_iload_n hx hb dX2_tellPartners_60 rfl (lv_at hl 0 rfl) ?_
        obtain ⟨b_9, h⟩ := h
        refine ca_lheads hx hb hkx hw b_9 dX2_tellPartners_61 ?_
        refine lv_iload_n hx hb dX2_tellPartners_62 rfl (lv_at hl 3 rfl) ?_
        obtain ⟨b_10, h⟩ := h
        refine cs_pol hx hb hkx hw b_10 dX2_tellPartners_63 (fun σ_11 eσ_11 H locs hw => ?_)
        replace h := h σ_11 eσ_11
        refine lv_iload_n hx hb dX2_tellPartners_64 rfl (lv_at hl 0 rfl) ?_
        refine lv_iconst (v := 1) hx hb dX2_tellPartners_65 (by decide) ?_
        refine lv_iadd hx hb dX2_tellPartners_66 ?_
        refine lv_topi (fun y_12 ey_12 => ?_)
        replace h := h y_12 ey_12
        refine lv_istore_n (lv' := [(1, .int y_12), (3, .int r_2), (0, .ref (ad 6)), (2, .int x2)]) hx hb dX2_tellPartners_67 rfl hl (by decide) rfl (fun ls hl => ?_)
        refine lv_iinc (v := x2 + (1 : Int32)) (lv' := [(2, .int (x2 + (1 : Int32))), (1, .int y_12), (3, .int r_2), (0, .ref (ad 6))]) hx hb dX2_tellPartners_68 hl (k := 3) rfl rfl (by decide) rfl (fun ls hl => ?_)
        refine lv_goto (tgt := 20) hx hb dX2_tellPartners_71 (by decide) ?_
        exact ih _ _ _ _ h _ _ _ _ hw (lv_sub hl [3, 1, 0] rfl)
def wp_X2_tellPartners (σ : Sg) (τ : Tg) (post : Sg → Tg → Prop) : Prop :=
    ∀ f_2 : Nat → Int32, (∀ j, j < 12 → f_2 j = (-1 : Int32)) → (∀ j, 12 ≤ j → f_2 j = σ 38 j) → ∀ σ_1 : Sg, σ_1 = va_up σ 38 f_2 →
    ∀ f_4 : Nat → Int32, (∀ j, j < 20 → f_4 j = (-1 : Int32)) → (∀ j, 20 ≤ j → f_4 j = σ_1 39 j) → ∀ σ_3 : Sg, σ_3 = va_up σ_1 39 f_4 →
    ∃ fu, wp_X2_tellPartners_20 post fu (0 : Int32) (0 : Int32) σ_3 τ
set_option maxHeartbeats 4000000 in
set_option maxRecDepth 100000 in
theorem c_X2_tellPartners (l : Launch) (D : va_G) (cy : Nat → ClassId) (ad κ : Nat → Nat) (σ : Sg) (τ : Tg) (post : Sg → Tg → Prop) (h : wp_X2_tellPartners σ τ post) : Ct l yX2_tellPartners wsX2_tellPartners rm_X2_tellPartners D cy [.ref (ad 6)] (cfW cy ad κ σ τ) 0 0 (Rv D (cfU cy ad) (fun u => post u.2.1 u.2.2)) := by
  refine Ct.of (cc := cX2_tellPartners) (maxL := 4) (rt := none) (by decide) rfl (Nat.le_of_ble_eq_true rfl) ?_
  intro p e s m below meth c A C0 _ H locs ls hw hl
  obtain ⟨⟨hx, hb, hml, hown, hts⟩, hr, hlocks, hkx, hA⟩ := id C0
  have hl : lv_has ls 4 [(0, .ref (ad 6))] := hl
  unfold wp_X2_tellPartners at h
  refine lv_aload_n hx hb dX2_tellPartners_0 rfl (lv_at hl 0 rfl) ?_
  refine cg_li_partnerOfEntry hx hb hts inw_X2_tellPartners_X2 hown hkx hw (hts _ (List.mem_of_getElem? (i := 1) rfl)) dX2_tellPartners_1 ?_
  refine lv_iconst (v := -1) hx hb dX2_tellPartners_4 (by decide) ?_
  refine cfill_poe ⟨hx, hb, hml, hown, hts⟩ hkx hw hA (va_cwS 2 hts gX2_tellPartners_J7_fill_53178 rfl rfl rfl hd_J7_fill_53178 ⟨Nat.le_of_ble_eq_true rfl, Nat.le_of_ble_eq_true rfl⟩) hl.1 (Nat.le_of_ble_eq_true rfl) dX2_tellPartners_5 ⟨Nat.zero_le _, Nat.zero_le _⟩ (fun f_2 h1 h2 σ_1 eσ_1 H locs hw => ?_)
  replace h := h f_2 h1 h2 σ_1 eσ_1
  refine lv_aload_n hx hb dX2_tellPartners_8 rfl (lv_at hl 0 rfl) ?_
  refine cg_li_partnerOfLine hx hb hts inw_X2_tellPartners_X2 hown hkx hw (hts _ (List.mem_of_getElem? (i := 2) rfl)) dX2_tellPartners_9 ?_
  refine lv_iconst (v := -1) hx hb dX2_tellPartners_12 (by decide) ?_
  refine cfill_pol ⟨hx, hb, hml, hown, hts⟩ hkx hw hA (va_cwS 2 hts gX2_tellPartners_J7_fill_53178 rfl rfl rfl hd_J7_fill_53178 ⟨Nat.le_of_ble_eq_true rfl, Nat.le_of_ble_eq_true rfl⟩) hl.1 (Nat.le_of_ble_eq_true rfl) dX2_tellPartners_13 ⟨Nat.zero_le _, Nat.zero_le _⟩ (fun f_4 h1 h2 σ_3 eσ_3 H locs hw => ?_)
  replace h := h f_4 h1 h2 σ_3 eσ_3
  refine lv_iconst (v := 0) hx hb dX2_tellPartners_16 (by decide) ?_
  refine lv_istore_n (lv' := [(1, .int (0 : Int32)), (0, .ref (ad 6))]) hx hb dX2_tellPartners_17 rfl hl (by decide) rfl (fun ls hl => ?_)
  refine lv_iconst (v := 0) hx hb dX2_tellPartners_18 (by decide) ?_
  refine lv_istore_n (lv' := [(2, .int (0 : Int32)), (1, .int (0 : Int32)), (0, .ref (ad 6))]) hx hb dX2_tellPartners_19 rfl hl (by decide) rfl (fun ls hl => ?_)
  obtain ⟨n_5, h⟩ := h
  exact w_X2_tellPartners_20 C0 n_5 _ _ _ _ h _ _ _ _ hw (lv_sub hl [2, 1, 0] rfl)
end
theorem hd_X2_hold : yX2_hold.cls = RX2 ∧ yX2_hold.cls ≠ "java/lang/invoke/MethodHandle" ∧ yX2_hold.cls ≠ "java/lang/invoke/VarHandle" ∧ (parseMethodDescriptor yX2_hold.desc).map (fun d => d.parameters.length) = some 0 := by decide +kernel
section
variable {p : Program} {l : Launch} {e : Env} {s : State} {m : MethodId} {args : Array Value} {below : List Frame} {meth : Method} {c : Code} {D : va_G} {cy : Nat → ClassId} {A : Nat → Prop} {ad : Nat → Nat}
abbrev rm_X2_hold : Room := { frames := 4, cells := 0, slots := 0, locals := 115 }
theorem inw_X2_hold_X2 : ∀ w ∈ u_ws RX2 TX2 15, w ∈ wsX2_hold := fun _ h => List.mem_cons_of_mem _ (List.mem_append_left _ (List.mem_append_left _ (List.mem_append_left _ (List.mem_append_left _ (List.mem_append_right _ h)))))
abbrev G_X2_hold (p : Program) (l : Launch) (e : Env) (s : State) (m : MethodId) (args : Array Value) (below : List Frame) (meth : Method) (c : Code) (D : va_G) (A : Nat → Prop) (cy : Nat → ClassId) (ad : Nat → Nat) (post : Sg → Tg → Prop) : va_W → Nat → List (Nat × Value) → Nat → List Value → Prop := Gw p l e rm_X2_hold s m args below meth c D A (MQ below ((Rv D (cfU cy ad) (fun u => post u.2.1 u.2.2)) A) args s 0 0 A)
def wp_X2_hold_18 (post : Sg → Tg → Prop) (k9 : Int32 → Sg → Tg → Prop) : Nat → Int32 → Int32 → Sg → Tg → Prop
  | 0, _, _, _, _ => False
  | n + 1, x1, x2, σ, τ =>
    (x2 < 0 →
    k9 (x1 + (-1 : Int32)) σ τ) ∧
    (¬ x2 < 0 →
    wp_X2_leastFrom x1 x2 σ τ (fun r_2 σ_3 τ_4 =>
    vp_in ((x1 * (21 : Int32)) + x2) 273 ∧
    ∀ σ_6 : Sg, σ_6 = va_up σ_3 41 (upd (σ_3 41) ((x1 * (21 : Int32)) + x2).toNatClampNeg r_2) →
    wp_X2_hold_18 post k9 n x1 (x2 + (-1 : Int32)) σ_6 τ_4))
set_option maxHeartbeats 4000000 in
set_option maxRecDepth 100000 in
theorem w_X2_hold_18 (C0 : Mc p m c meth cX2_hold 3 s args wsX2_hold RX2 none D cy A) {post : Sg → Tg → Prop} {k9 : Int32 → Sg → Tg → Prop} (hk9 : ∀ (x1 : Int32) (σ : Sg) (τ : Tg), k9 x1 σ τ → ∀ κ : Nat → Nat, G_X2_hold p l e s m args below meth c D A cy ad post (cfW cy ad κ σ τ) 3 [(0, .ref (ad 6)), (1, .int x1)] 9 []) : ∀ (n : Nat) (x1 : Int32) (x2 : Int32) (σ : Sg) (τ : Tg), wp_X2_hold_18 post k9 n x1 x2 σ τ → ∀ κ : Nat → Nat, G_X2_hold p l e s m args below meth c D A cy ad post (cfW cy ad κ σ τ) 3 [(0, .ref (ad 6)), (1, .int x1), (2, .int x2)] 18 [] := by
  obtain ⟨⟨hx, hb, hml, hown, hts⟩, hr, hlocks, hkx, hA⟩ := id C0
  intro n
  induction n with
  | zero => intro x1 x2 σ τ h; exact False.elim h
  | succ n ih =>
    intro x1 x2 σ τ h κ H locs ls hw hl
    unfold wp_X2_hold_18 at h
    refine lv_iload_n hx hb dX2_hold_18 rfl (lv_at hl 2 rfl) ?_
    refine lv_if_lt (tgt := 45) hx hb dX2_hold_19 (by decide) (fun c_1 => ?_) (fun c_1 => ?_)
    · replace h := h.1 c_1
      refine lv_iinc (v := x1 + (-1 : Int32)) (lv' := [(1, .int (x1 + (-1 : Int32))), (0, .ref (ad 6)), (2, .int x2)]) hx hb dX2_hold_45 hl (k := 1) rfl rfl (by decide) rfl (fun ls hl => ?_)
      refine lv_goto (tgt := 9) hx hb dX2_hold_48 (by decide) ?_
      exact hk9 _ _ _ h _ _ _ _ hw (lv_sub hl [1, 0] rfl)
    · replace h := h.2 c_1
      refine lv_aload_n hx hb dX2_hold_22 rfl (lv_at hl 0 rfl) ?_
      refine cg_li_least hx hb hts inw_X2_hold_X2 hown hkx hw (hts _ (List.mem_of_getElem? (i := 3) rfl)) dX2_hold_23 ?_
      refine lv_iload_n hx hb dX2_hold_26 rfl (lv_at hl 1 rfl) ?_
      refine lv_bipush (v := 21) hx hb dX2_hold_27 (by decide) ?_
      refine lv_imul hx hb dX2_hold_29 ?_
      refine lv_iload_n hx hb dX2_hold_30 rfl (lv_at hl 2 rfl) ?_
      refine lv_iadd hx hb dX2_hold_31 ?_
      refine lv_aload_n hx hb dX2_hold_32 rfl (lv_at hl 0 rfl) ?_
      refine lv_iload_n hx hb dX2_hold_33 rfl (lv_at hl 1 rfl) ?_
      refine lv_iload_n hx hb dX2_hold_34 rfl (lv_at hl 2 rfl) ?_
      refine cf_Vi (As := [.int x1, .int x2]) ⟨hx, hb, hml, hown, hts⟩ hkx hw hA (c_X2_leastFrom l D cy ad κ σ τ x1 x2 _ h) (cwV 2 hts gX2_hold_X2_leastFrom rfl rfl rfl hd_X2_leastFrom ⟨Nat.le_of_ble_eq_true rfl, Nat.le_of_ble_eq_true rfl⟩) 6 2 rfl rfl rfl hl.1 rfl (Nat.le_of_ble_eq_true rfl) dX2_hold_35 ⟨Nat.zero_le _, Nat.zero_le _⟩ (fun r_2 κ σ_3 τ_4 H locs h hw => ?_)
      obtain ⟨b_5, h⟩ := h
      refine cs_lleast hx hb hkx hw b_5 dX2_hold_38 (fun σ_6 eσ_6 H locs hw => ?_)
      replace h := h σ_6 eσ_6
      refine lv_iinc (v := x2 + (-1 : Int32)) (lv' := [(2, .int (x2 + (-1 : Int32))), (0, .ref (ad 6)), (1, .int x1)]) hx hb dX2_hold_39 hl (k := 2) rfl rfl (by decide) rfl (fun ls hl => ?_)
      refine lv_goto (tgt := 18) hx hb dX2_hold_42 (by decide) ?_
      exact ih _ _ _ _ h _ _ _ _ hw (lv_sub hl [1, 2, 0] rfl)
def wp_X2_hold_9 (post : Sg → Tg → Prop) : Nat → Int32 → Sg → Tg → Prop
  | 0, _, _, _ => False
  | n + 1, x1, σ, τ =>
    (x1 < 0 →
    ∀ σ_3 : Sg, σ_3 = va_up σ 11 (fun _ => σ 41 (0 : Int32).toNatClampNeg) →
    wp_X2_tellPartners σ_3 τ (fun σ_4 τ_5 =>
    post σ_4 τ_5)) ∧
    (¬ x1 < 0 →
    ∀ y_6 : Int32, y_6 = (σ 12 0) →
    ∃ fu, wp_X2_hold_18 post (fun zx1 zσ zτ => wp_X2_hold_9 post n zx1 zσ zτ) fu x1 y_6 σ τ)
set_option maxHeartbeats 4000000 in
set_option maxRecDepth 100000 in
theorem w_X2_hold_9 (C0 : Mc p m c meth cX2_hold 3 s args wsX2_hold RX2 none D cy A) {post : Sg → Tg → Prop} : ∀ (n : Nat) (x1 : Int32) (σ : Sg) (τ : Tg), wp_X2_hold_9 post n x1 σ τ → ∀ κ : Nat → Nat, G_X2_hold p l e s m args below meth c D A cy ad post (cfW cy ad κ σ τ) 3 [(0, .ref (ad 6)), (1, .int x1)] 9 [] := by
  obtain ⟨⟨hx, hb, hml, hown, hts⟩, hr, hlocks, hkx, hA⟩ := id C0
  intro n
  induction n with
  | zero => intro x1 σ τ h; exact False.elim h
  | succ n ih =>
    intro x1 σ τ h κ H locs ls hw hl
    unfold wp_X2_hold_9 at h
    refine lv_iload_n hx hb dX2_hold_9 rfl (lv_at hl 1 rfl) ?_
    refine lv_if_lt (tgt := 51) hx hb dX2_hold_10 (by decide) (fun c_1 => ?_) (fun c_1 => ?_)
    · replace h := h.1 c_1
      refine lv_aload_n hx hb dX2_hold_51 rfl (lv_at hl 0 rfl) ?_
      refine lv_aload_n hx hb dX2_hold_52 rfl (lv_at hl 0 rfl) ?_
      refine cg_li_least hx hb hts inw_X2_hold_X2 hown hkx hw (hts _ (List.mem_of_getElem? (i := 3) rfl)) dX2_hold_53 ?_
      refine lv_iconst (v := 0) hx hb dX2_hold_56 (by decide) ?_
      refine ca_lleast hx hb hkx hw (by unfold vp_in; decide) dX2_hold_57 ?_
      refine cp_li_cost hx hb hts inw_X2_hold_X2 hown hkx hw (hts _ (List.mem_of_getElem? (i := 4) rfl)) dX2_hold_58 (fun σ_3 eσ_3 H locs hw => ?_)
      replace h := h σ_3 eσ_3
      refine lv_aload_n hx hb dX2_hold_61 rfl (lv_at hl 0 rfl) ?_
      refine cf_Vv (As := []) ⟨hx, hb, hml, hown, hts⟩ hkx hw hA (c_X2_tellPartners l D cy ad κ σ_3 τ _ h) (cwV 0 hts gX2_hold_X2_tellPartners rfl rfl rfl hd_X2_tellPartners ⟨Nat.le_of_ble_eq_true rfl, Nat.le_of_ble_eq_true rfl⟩) 6 2 rfl rfl rfl hl.1 rfl (Nat.le_of_ble_eq_true rfl) dX2_hold_62 ⟨Nat.zero_le _, Nat.zero_le _⟩ (fun κ σ_4 τ_5 H locs h hw => ?_)
      exact end_v (w1 := (cfU cy ad)) (u := (κ, σ_4, τ_5)) C0 hw h dX2_hold_65
    · replace h := h.2 c_1
      refine lv_aload_n hx hb dX2_hold_13 rfl (lv_at hl 0 rfl) ?_
      refine cg_li_headCount hx hb hts inw_X2_hold_X2 hown hkx hw (hts _ (List.mem_of_getElem? (i := 2) rfl)) dX2_hold_14 ?_
      refine lv_topi (fun y_6 ey_6 => ?_)
      replace h := h y_6 ey_6
      refine lv_istore_n (lv' := [(2, .int y_6), (0, .ref (ad 6)), (1, .int x1)]) hx hb dX2_hold_17 rfl hl (by decide) rfl (fun ls hl => ?_)
      obtain ⟨n_7, h⟩ := h
      exact w_X2_hold_18 C0 ih n_7 _ _ _ _ h _ _ _ _ hw (lv_sub hl [1, 2, 0] rfl)
def wp_X2_hold (σ : Sg) (τ : Tg) (post : Sg → Tg → Prop) : Prop :=
    wp_X2_gatherHeads σ τ (fun σ_1 τ_2 =>
    ∀ y_3 : Int32, y_3 = (σ_1 10 0) →
    ∃ fu, wp_X2_hold_9 post fu y_3 σ_1 τ_2)
set_option maxHeartbeats 4000000 in
set_option maxRecDepth 100000 in
theorem c_X2_hold (l : Launch) (D : va_G) (cy : Nat → ClassId) (ad κ : Nat → Nat) (σ : Sg) (τ : Tg) (post : Sg → Tg → Prop) (h : wp_X2_hold σ τ post) : Ct l yX2_hold wsX2_hold rm_X2_hold D cy [.ref (ad 6)] (cfW cy ad κ σ τ) 0 0 (Rv D (cfU cy ad) (fun u => post u.2.1 u.2.2)) := by
  refine Ct.of (cc := cX2_hold) (maxL := 3) (rt := none) (by decide) rfl (Nat.le_of_ble_eq_true rfl) ?_
  intro p e s m below meth c A C0 _ H locs ls hw hl
  obtain ⟨⟨hx, hb, hml, hown, hts⟩, hr, hlocks, hkx, hA⟩ := id C0
  have hl : lv_has ls 3 [(0, .ref (ad 6))] := hl
  unfold wp_X2_hold at h
  refine lv_aload_n hx hb dX2_hold_0 rfl (lv_at hl 0 rfl) ?_
  refine cf_Vv (As := []) ⟨hx, hb, hml, hown, hts⟩ hkx hw hA (c_X2_gatherHeads l D cy ad κ σ τ _ h) (cwV 0 hts gX2_hold_X2_gatherHeads rfl rfl rfl hd_X2_gatherHeads ⟨Nat.le_of_ble_eq_true rfl, Nat.le_of_ble_eq_true rfl⟩) 6 2 rfl rfl rfl hl.1 rfl (Nat.le_of_ble_eq_true rfl) dX2_hold_1 ⟨Nat.zero_le _, Nat.zero_le _⟩ (fun κ σ_1 τ_2 H locs h hw => ?_)
  refine lv_aload_n hx hb dX2_hold_4 rfl (lv_at hl 0 rfl) ?_
  refine cg_li_count hx hb hts inw_X2_hold_X2 hown hkx hw (hts _ (List.mem_of_getElem? (i := 1) rfl)) dX2_hold_5 ?_
  refine lv_topi (fun y_3 ey_3 => ?_)
  replace h := h y_3 ey_3
  refine lv_istore_n (lv' := [(1, .int y_3), (0, .ref (ad 6))]) hx hb dX2_hold_8 rfl hl (by decide) rfl (fun ls hl => ?_)
  obtain ⟨n_4, h⟩ := h
  exact w_X2_hold_9 C0 n_4 _ _ _ h _ _ _ _ hw (lv_sub hl [1, 0] rfl)
end
