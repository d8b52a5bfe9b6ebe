theorem hd_X8_partnerCost : yX8_partnerCost.cls = RX8 ∧ yX8_partnerCost.cls ≠ "java/lang/invoke/MethodHandle" ∧ yX8_partnerCost.cls ≠ "java/lang/invoke/VarHandle" ∧ (parseMethodDescriptor yX8_partnerCost.desc).map (fun d => d.parameters.length) = some 2 := by decide +kernel
section
variable {p : Program} {l : Launch} {e : Env} {s : State} {m : MethodId} {args : Array Value} {below : List Frame} {meth : Method} {c : Code} {D : va_G} {cy : Nat → ClassId} {A : Nat → Prop} {ad : Nat → Nat}
abbrev rm_X8_partnerCost : Room := { frames := 1, cells := 0, slots := 0, locals := 40 }
theorem inw_X8_partnerCost_X8 : ∀ w ∈ u_ws RX8 TX8 35, w ∈ wsX8_partnerCost := fun _ h => List.mem_cons_of_mem _ (List.mem_append_right _ h)
abbrev G_X8_partnerCost (p : Program) (l : Launch) (e : Env) (s : State) (m : MethodId) (args : Array Value) (below : List Frame) (meth : Method) (c : Code) (D : va_G) (A : Nat → Prop) (cy : Nat → ClassId) (ad : Nat → Nat) (post : Int32 → Sg → Prop) : va_W → Nat → List (Nat × Value) → Nat → List Value → Prop := Gw p l e rm_X8_partnerCost s m args below meth c D A (MQ below ((Ri D (mdU cy ad) (fun r u => post r u)) A) args s 0 0 A)
def wp_X8_partnerCost_5 (post : Int32 → Sg → Prop) : Nat → Int32 → Int32 → Int32 → Int32 → Sg → Prop
  | 0, _, _, _, _, _ => False
  | n + 1, x1, x2, x3, x4, σ =>
    ((8 : Int32) ≤ x4 →
    vp_in x1 12 ∧
    vp_in x2 20 ∧
    ∀ y_5 : Int32, y_5 = (x3 + ((σ 17 (5 : Int32).toNatClampNeg) * (if 0 ≤ ((σ 19 x1.toNatClampNeg) - (σ 23 x2.toNatClampNeg)) then ((σ 19 x1.toNatClampNeg) - (σ 23 x2.toNatClampNeg)) else 0 - ((σ 19 x1.toNatClampNeg) - (σ 23 x2.toNatClampNeg))))) →
    vp_in x1 12 ∧
    vp_in x2 20 ∧
    vp_in (σ 10 x2.toNatClampNeg) 60 ∧
    (¬ (σ 20 x1.toNatClampNeg) = (σ 9 (σ 10 x2.toNatClampNeg).toNatClampNeg) →
    post (y_5 + (σ 17 (6 : Int32).toNatClampNeg)) σ) ∧
    ((σ 20 x1.toNatClampNeg) = (σ 9 (σ 10 x2.toNatClampNeg).toNatClampNeg) →
    post y_5 σ)) ∧
    (¬ (8 : Int32) ≤ x4 →
    vp_in (((8 : Int32) * x1) + x4) 96 ∧
    vp_in (((8 : Int32) * x2) + x4) 160 ∧
    ((σ 21 (((8 : Int32) * x1) + x4).toNatClampNeg) = (σ 14 (((8 : Int32) * x2) + x4).toNatClampNeg) →
    wp_X8_partnerCost_5 post n x1 x2 x3 (x4 + (1 : Int32)) σ) ∧
    (¬ (σ 21 (((8 : Int32) * x1) + x4).toNatClampNeg) = (σ 14 (((8 : Int32) * x2) + x4).toNatClampNeg) →
    ∀ y_15 : Int32, y_15 = (x3 + (σ 17 (4 : Int32).toNatClampNeg)) →
    wp_X8_partnerCost_5 post n x1 x2 y_15 (x4 + (1 : Int32)) σ))
set_option maxHeartbeats 4000000 in
set_option maxRecDepth 100000 in
theorem w_X8_partnerCost_5 (C0 : Mc p m c meth cX8_partnerCost 5 s args wsX8_partnerCost RX8 (some .int) D cy A) {post : Int32 → Sg → Prop} : ∀ (n : Nat) (x1 : Int32) (x2 : Int32) (x3 : Int32) (x4 : Int32) (σ : Sg), wp_X8_partnerCost_5 post n x1 x2 x3 x4 σ → G_X8_partnerCost p l e s m args below meth c D A cy ad post (mdW cy ad σ) 5 [(0, .ref (ad 0)), (1, .int x1), (2, .int x2), (3, .int x3), (4, .int x4)] 5 [] := by
  obtain ⟨⟨hx, hb, hml, hown, hts⟩, hr, hlocks, hkx, hA⟩ := id C0
  intro n
  induction n with
  | zero => intro x1 x2 x3 x4 σ h; exact False.elim h
  | succ n ih =>
    intro x1 x2 x3 x4 σ h H locs ls hw hl
    unfold wp_X8_partnerCost_5 at h
    refine lv_iload hx hb dX8_partnerCost_5 (lv_at hl 4 rfl) ?_
    refine lv_bipush (v := 8) hx hb dX8_partnerCost_7 (by decide) ?_
    refine lv_icmp_ge (tgt := 54) hx hb dX8_partnerCost_9 (by decide) (fun c_1 => ?_) (fun c_1 => ?_)
    · replace h := h.1 c_1
      refine lv_iload_n hx hb dX8_partnerCost_54 rfl (lv_at hl 3 rfl) ?_
      refine lv_aload_n hx hb dX8_partnerCost_55 rfl (lv_at hl 0 rfl) ?_
      refine mg_md_prices hx hb hts inw_X8_partnerCost_X8 hown hkx hw (hts _ (List.mem_of_getElem? (i := 3) rfl)) dX8_partnerCost_56 ?_
      refine lv_iconst (v := 5) hx hb dX8_partnerCost_59 (by decide) ?_
      refine ma_m_prices hx hb hkx hw (by unfold vp_in; decide) dX8_partnerCost_60 ?_
      refine lv_aload_n hx hb dX8_partnerCost_61 rfl (lv_at hl 0 rfl) ?_
      refine mg_md_entryLevel hx hb hts inw_X8_partnerCost_X8 hown hkx hw (hts _ (List.mem_of_getElem? (i := 4) rfl)) dX8_partnerCost_62 ?_
      refine lv_iload_n hx hb dX8_partnerCost_65 rfl (lv_at hl 1 rfl) ?_
      obtain ⟨b_3, h⟩ := h
      refine ma_m_entryLevel hx hb hkx hw b_3 dX8_partnerCost_66 ?_
      refine lv_aload_n hx hb dX8_partnerCost_67 rfl (lv_at hl 0 rfl) ?_
      refine mg_md_level hx hb hts inw_X8_partnerCost_X8 hown hkx hw (hts _ (List.mem_of_getElem? (i := 5) rfl)) dX8_partnerCost_68 ?_
      refine lv_iload_n hx hb dX8_partnerCost_71 rfl (lv_at hl 2 rfl) ?_
      obtain ⟨b_4, h⟩ := h
      refine ma_m_level hx hb hkx hw b_4 dX8_partnerCost_72 ?_
      refine lv_isub hx hb dX8_partnerCost_73 ?_
      refine va_mabs hx hb (hml.trans hl.1.symm) hown (hts _ (List.mem_of_getElem? (i := 6) rfl)) (hts _ (List.mem_of_getElem? (i := 7) rfl)) (hts _ (List.mem_of_getElem? (i := 8) rfl)) (hts _ (List.mem_of_getElem? (i := 9) rfl)) (Nat.le_of_ble_eq_true rfl) (Nat.le_of_ble_eq_true rfl) (Nat.zero_le _) (Nat.zero_le _) dX8_partnerCost_74 ?_
      refine lv_imul hx hb dX8_partnerCost_77 ?_
      refine lv_iadd hx hb dX8_partnerCost_78 ?_
      refine lv_topi (fun y_5 ey_5 => ?_)
      replace h := h y_5 ey_5
      refine lv_istore_n (lv' := [(3, .int y_5), (0, .ref (ad 0)), (1, .int x1), (2, .int x2), (4, .int x4)]) hx hb dX8_partnerCost_79 rfl hl (by decide) rfl (fun ls hl => ?_)
      refine lv_aload_n hx hb dX8_partnerCost_80 rfl (lv_at hl 1 rfl) ?_
      refine mg_md_entryNumber hx hb hts inw_X8_partnerCost_X8 hown hkx hw (hts _ (List.mem_of_getElem? (i := 10) rfl)) dX8_partnerCost_81 ?_
      refine lv_iload_n hx hb dX8_partnerCost_84 rfl (lv_at hl 2 rfl) ?_
      obtain ⟨b_6, h⟩ := h
      refine ma_m_entryNumber hx hb hkx hw b_6 dX8_partnerCost_85 ?_
      refine lv_aload_n hx hb dX8_partnerCost_86 rfl (lv_at hl 1 rfl) ?_
      refine mg_md_read hx hb hts inw_X8_partnerCost_X8 hown hkx hw (hts _ (List.mem_of_getElem? (i := 11) rfl)) dX8_partnerCost_87 ?_
      refine lv_aload_n hx hb dX8_partnerCost_90 rfl (lv_at hl 1 rfl) ?_
      refine mg_md_page hx hb hts inw_X8_partnerCost_X8 hown hkx hw (hts _ (List.mem_of_getElem? (i := 12) rfl)) dX8_partnerCost_91 ?_
      refine lv_iload_n hx hb dX8_partnerCost_94 rfl (lv_at hl 3 rfl) ?_
      obtain ⟨b_7, h⟩ := h
      refine ma_m_page hx hb hkx hw b_7 dX8_partnerCost_95 ?_
      obtain ⟨b_8, h⟩ := h
      refine ma_m_read hx hb hkx hw b_8 dX8_partnerCost_96 ?_
      refine lv_icmp_ne (tgt := 104) hx hb dX8_partnerCost_97 (by decide) (fun c_9 => ?_) (fun c_9 => ?_)
      · replace h := h.1 c_9
        refine lv_iload_n hx hb dX8_partnerCost_104 rfl (lv_at hl 0 rfl) ?_
        refine lv_aload_n hx hb dX8_partnerCost_105 rfl (lv_at hl 1 rfl) ?_
        refine mg_md_prices hx hb hts inw_X8_partnerCost_X8 hown hkx hw (hts _ (List.mem_of_getElem? (i := 3) rfl)) dX8_partnerCost_106 ?_
        refine lv_bipush (v := 6) hx hb dX8_partnerCost_109 (by decide) ?_
        refine ma_m_prices hx hb hkx hw (by unfold vp_in; decide) dX8_partnerCost_111 ?_
        refine lv_iadd hx hb dX8_partnerCost_112 ?_
        exact end_i (w1 := (mdU cy ad)) (u := σ) C0 hw h dX8_partnerCost_113
      · replace h := h.2 c_9
        refine lv_iload_n hx hb dX8_partnerCost_100 rfl (lv_at hl 0 rfl) ?_
        refine lv_goto (tgt := 113) hx hb dX8_partnerCost_101 (by decide) ?_
        exact end_i (w1 := (mdU cy ad)) (u := σ) C0 hw h dX8_partnerCost_113
    · replace h := h.2 c_1
      refine lv_aload_n hx hb dX8_partnerCost_12 rfl (lv_at hl 0 rfl) ?_
      refine mg_md_entryWords hx hb hts inw_X8_partnerCost_X8 hown hkx hw (hts _ (List.mem_of_getElem? (i := 1) rfl)) dX8_partnerCost_13 ?_
      refine lv_bipush (v := 8) hx hb dX8_partnerCost_16 (by decide) ?_
      refine lv_iload_n hx hb dX8_partnerCost_18 rfl (lv_at hl 1 rfl) ?_
      refine lv_imul hx hb dX8_partnerCost_19 ?_
      refine lv_iload hx hb dX8_partnerCost_20 (lv_at hl 4 rfl) ?_
      refine lv_iadd hx hb dX8_partnerCost_22 ?_
      obtain ⟨b_11, h⟩ := h
      refine ma_m_entryWords hx hb hkx hw b_11 dX8_partnerCost_23 ?_
      refine lv_aload_n hx hb dX8_partnerCost_24 rfl (lv_at hl 0 rfl) ?_
      refine mg_md_words hx hb hts inw_X8_partnerCost_X8 hown hkx hw (hts _ (List.mem_of_getElem? (i := 2) rfl)) dX8_partnerCost_25 ?_
      refine lv_bipush (v := 8) hx hb dX8_partnerCost_28 (by decide) ?_
      refine lv_iload_n hx hb dX8_partnerCost_30 rfl (lv_at hl 2 rfl) ?_
      refine lv_imul hx hb dX8_partnerCost_31 ?_
      refine lv_iload hx hb dX8_partnerCost_32 (lv_at hl 4 rfl) ?_
      refine lv_iadd hx hb dX8_partnerCost_34 ?_
      obtain ⟨b_12, h⟩ := h
      refine ma_m_words hx hb hkx hw b_12 dX8_partnerCost_35 ?_
      refine lv_icmp_eq (tgt := 48) hx hb dX8_partnerCost_36 (by decide) (fun c_13 => ?_) (fun c_13 => ?_)
      · replace h := h.1 c_13
        refine lv_iinc (v := x4 + (1 : Int32)) (lv' := [(4, .int (x4 + (1 : Int32))), (0, .ref (ad 0)), (1, .int x1), (2, .int x2), (3, .int x3)]) hx hb dX8_partnerCost_48 hl (k := 4) rfl rfl (by decide) rfl (fun ls hl => ?_)
        refine lv_goto (tgt := 5) hx hb dX8_partnerCost_51 (by decide) ?_
        exact ih _ _ _ _ _ h _ _ _ hw (lv_sub hl [1, 2, 3, 4, 0] rfl)
      · replace h := h.2 c_13
        refine lv_iload_n hx hb dX8_partnerCost_39 rfl (lv_at hl 3 rfl) ?_
        refine lv_aload_n hx hb dX8_partnerCost_40 rfl (lv_at hl 0 rfl) ?_
        refine mg_md_prices hx hb hts inw_X8_partnerCost_X8 hown hkx hw (hts _ (List.mem_of_getElem? (i := 3) rfl)) dX8_partnerCost_41 ?_
        refine lv_iconst (v := 4) hx hb dX8_partnerCost_44 (by decide) ?_
        refine ma_m_prices hx hb hkx hw (by unfold vp_in; decide) dX8_partnerCost_45 ?_
        refine lv_iadd hx hb dX8_partnerCost_46 ?_
        refine lv_topi (fun y_15 ey_15 => ?_)
        replace h := h y_15 ey_15
        refine lv_istore_n (lv' := [(3, .int y_15), (0, .ref (ad 0)), (1, .int x1), (2, .int x2), (4, .int x4)]) hx hb dX8_partnerCost_47 rfl hl (by decide) rfl (fun ls hl => ?_)
        refine lv_iinc (v := x4 + (1 : Int32)) (lv' := [(4, .int (x4 + (1 : Int32))), (3, .int y_15), (0, .ref (ad 0)), (1, .int x1), (2, .int x2)]) hx hb dX8_partnerCost_48 hl (k := 4) rfl rfl (by decide) rfl (fun ls hl => ?_)
        refine lv_goto (tgt := 5) hx hb dX8_partnerCost_51 (by decide) ?_
        exact ih _ _ _ _ _ h _ _ _ hw (lv_sub hl [2, 3, 4, 1, 0] rfl)
def wp_X8_partnerCost (x1 : Int32) (x2 : Int32) (σ : Sg) (post : Int32 → Sg → Prop) : Prop :=
    ∃ fu, wp_X8_partnerCost_5 post fu x1 x2 (0 : Int32) (0 : Int32) σ
set_option maxHeartbeats 4000000 in
set_option maxRecDepth 100000 in
theorem c_X8_partnerCost (l : Launch) (D : va_G) (cy : Nat → ClassId) (ad : Nat → Nat) (σ : Sg) (x1 : Int32) (x2 : Int32) (post : Int32 → Sg → Prop) (h : wp_X8_partnerCost x1 x2 σ post) : Ct l yX8_partnerCost wsX8_partnerCost rm_X8_partnerCost D cy [.ref (ad 0), .int x1, .int x2] (mdW cy ad σ) 0 0 (Ri D (mdU cy ad) (fun r u => post r u)) := by
  refine Ct.of (cc := cX8_partnerCost) (maxL := 5) (rt := (some .int)) (by decide) rfl (Nat.le_of_ble_eq_true rfl) ?_
  intro p e s m below meth c A C0 _ H locs ls hw hl
  obtain ⟨⟨hx, hb, hml, hown, hts⟩, hr, hlocks, hkx, hA⟩ := id C0
  have hl : lv_has ls 5 [(0, .ref (ad 0)), (1, .int x1), (2, .int x2)] := hl
  unfold wp_X8_partnerCost at h
  refine lv_iconst (v := 0) hx hb dX8_partnerCost_0 (by decide) ?_
  refine lv_istore_n (lv' := [(3, .int (0 : Int32)), (0, .ref (ad 0)), (1, .int x1), (2, .int x2)]) hx hb dX8_partnerCost_1 rfl hl (by decide) rfl (fun ls hl => ?_)
  refine lv_iconst (v := 0) hx hb dX8_partnerCost_2 (by decide) ?_
  refine lv_istore (lv' := [(4, .int (0 : Int32)), (3, .int (0 : Int32)), (0, .ref (ad 0)), (1, .int x1), (2, .int x2)]) hx hb dX8_partnerCost_3 hl (by decide) rfl (fun ls hl => ?_)
  obtain ⟨n_1, h⟩ := h
  exact w_X8_partnerCost_5 C0 n_1 _ _ _ _ _ h _ _ _ hw (lv_sub hl [2, 3, 4, 1, 0] rfl)
end
theorem hd_X8_costWith : yX8_costWith.cls = RX8 ∧ yX8_costWith.cls ≠ "java/lang/invoke/MethodHandle" ∧ yX8_costWith.cls ≠ "java/lang/invoke/VarHandle" ∧ (parseMethodDescriptor yX8_costWith.desc).map (fun d => d.parameters.length) = some 3 := by decide +kernel
section
variable {p : Program} {l : Launch} {e : Env} {s : State} {m : MethodId} {args : Array Value} {below : List Frame} {meth : Method} {c : Code} {D : va_G} {cy : Nat → ClassId} {A : Nat → Prop} {ad : Nat → Nat}
abbrev rm_X8_costWith : Room := { frames := 2, cells := 0, slots := 0, locals := 64 }
theorem inw_X8_costWith_X8 : ∀ w ∈ u_ws RX8 TX8 35, w ∈ wsX8_costWith := fun _ h => List.mem_cons_of_mem _ (List.mem_append_right _ h)
def wp_X8_costWith (x1 : Int32) (x2 : Int32) (x3 : Int32) (σ : Sg) (post : Int32 → Sg → Prop) : Prop :=
    (¬ x3 = (σ 6 0) →
    vp_in x3 20 ∧
    wp_X8_partnerCost x1 (σ 25 x3.toNatClampNeg) σ (fun r_4 σ_5 =>
    vp_in ((((21 : Int32) * (x1 + (1 : Int32))) + x3) + (1 : Int32)) 273 ∧
    post ((((σ 17 (7 : Int32).toNatClampNeg) * (x3 - x2)) + r_4) + (σ_5 26 ((((21 : Int32) * (x1 + (1 : Int32))) + x3) + (1 : Int32)).toNatClampNeg)) σ_5)) ∧
    (x3 = (σ 6 0) →
    vp_in (((21 : Int32) * (x1 + (1 : Int32))) + x2) 273 ∧
    post ((σ 17 (7 : Int32).toNatClampNeg) + (σ 26 (((21 : Int32) * (x1 + (1 : Int32))) + x2).toNatClampNeg)) σ)
set_option maxHeartbeats 4000000 in
set_option maxRecDepth 100000 in
theorem c_X8_costWith (l : Launch) (D : va_G) (cy : Nat → ClassId) (ad : Nat → Nat) (σ : Sg) (x1 : Int32) (x2 : Int32) (x3 : Int32) (post : Int32 → Sg → Prop) (h : wp_X8_costWith x1 x2 x3 σ post) : Ct l yX8_costWith wsX8_costWith rm_X8_costWith D cy [.ref (ad 0), .int x1, .int x2, .int x3] (mdW cy ad σ) 0 0 (Ri D (mdU cy ad) (fun r u => post r u)) := by
  refine Ct.of (cc := cX8_costWith) (maxL := 5) (rt := (some .int)) (by decide) rfl (Nat.le_of_ble_eq_true rfl) ?_
  intro p e s m below meth c A C0 _ H locs ls hw hl
  obtain ⟨⟨hx, hb, hml, hown, hts⟩, hr, hlocks, hkx, hA⟩ := id C0
  have hl : lv_has ls 5 [(0, .ref (ad 0)), (1, .int x1), (2, .int x2), (3, .int x3)] := hl
  unfold wp_X8_costWith at h
  refine lv_bipush (v := 21) hx hb dX8_costWith_0 (by decide) ?_
  refine lv_istore (lv' := [(4, .int (21 : Int32)), (0, .ref (ad 0)), (1, .int x1), (2, .int x2), (3, .int x3)]) hx hb dX8_costWith_2 hl (by decide) rfl (fun ls hl => ?_)
  refine lv_iload_n hx hb dX8_costWith_4 rfl (lv_at hl 4 rfl) ?_
  refine lv_aload_n hx hb dX8_costWith_5 rfl (lv_at hl 1 rfl) ?_
  refine mg_md_headMany hx hb hts inw_X8_costWith_X8 hown hkx hw (hts _ (List.mem_of_getElem? (i := 1) rfl)) dX8_costWith_6 ?_
  refine lv_icmp_ne (tgt := 34) hx hb dX8_costWith_9 (by decide) (fun c_1 => ?_) (fun c_1 => ?_)
  · replace h := h.1 c_1
    refine lv_aload_n hx hb dX8_costWith_34 rfl (lv_at hl 1 rfl) ?_
    refine mg_md_prices hx hb hts inw_X8_costWith_X8 hown hkx hw (hts _ (List.mem_of_getElem? (i := 2) rfl)) dX8_costWith_35 ?_
    refine lv_bipush (v := 7) hx hb dX8_costWith_38 (by decide) ?_
    refine ma_m_prices hx hb hkx hw (by unfold vp_in; decide) dX8_costWith_40 ?_
    refine lv_iload_n hx hb dX8_costWith_41 rfl (lv_at hl 4 rfl) ?_
    refine lv_iload_n hx hb dX8_costWith_42 rfl (lv_at hl 3 rfl) ?_
    refine lv_isub hx hb dX8_costWith_43 ?_
    refine lv_imul hx hb dX8_costWith_44 ?_
    refine lv_aload_n hx hb dX8_costWith_45 rfl (lv_at hl 1 rfl) ?_
    refine lv_iload_n hx hb dX8_costWith_46 rfl (lv_at hl 2 rfl) ?_
    refine lv_aload_n hx hb dX8_costWith_47 rfl (lv_at hl 1 rfl) ?_
    refine mg_md_heads hx hb hts inw_X8_costWith_X8 hown hkx hw (hts _ (List.mem_of_getElem? (i := 4) rfl)) dX8_costWith_48 ?_
    refine lv_iload_n hx hb dX8_costWith_51 rfl (lv_at hl 4 rfl) ?_
    obtain ⟨b_3, h⟩ := h
    refine ma_m_heads hx hb hkx hw b_3 dX8_costWith_52 ?_
    refine md_Vi (As := [.int x1, .int (σ 25 x3.toNatClampNeg)]) ⟨hx, hb, hml, hown, hts⟩ hkx hw hA (c_X8_partnerCost l D cy ad σ x1 (σ 25 x3.toNatClampNeg) _ h) (cwV 2 hts gX8_costWith_X8_partnerCost rfl rfl rfl hd_X8_partnerCost ⟨Nat.le_of_ble_eq_true rfl, Nat.le_of_ble_eq_true rfl⟩) 0 8 rfl rfl rfl hl.1 rfl (Nat.le_of_ble_eq_true rfl) dX8_costWith_53 ⟨Nat.zero_le _, Nat.zero_le _⟩ (fun r_4 σ_5 H locs h hw => ?_)
    refine lv_iadd hx hb dX8_costWith_56 ?_
    refine lv_aload_n hx hb dX8_costWith_57 rfl (lv_at hl 1 rfl) ?_
    refine mg_md_held hx hb hts inw_X8_costWith_X8 hown hkx hw (hts _ (List.mem_of_getElem? (i := 3) rfl)) dX8_costWith_58 ?_
    refine lv_iload hx hb dX8_costWith_61 (lv_at hl 0 rfl) ?_
    refine lv_iload_n hx hb dX8_costWith_63 rfl (lv_at hl 2 rfl) ?_
    refine lv_iconst (v := 1) hx hb dX8_costWith_64 (by decide) ?_
    refine lv_iadd hx hb dX8_costWith_65 ?_
    refine lv_imul hx hb dX8_costWith_66 ?_
    refine lv_iload_n hx hb dX8_costWith_67 rfl (lv_at hl 4 rfl) ?_
    refine lv_iadd hx hb dX8_costWith_68 ?_
    refine lv_iconst (v := 1) hx hb dX8_costWith_69 (by decide) ?_
    refine lv_iadd hx hb dX8_costWith_70 ?_
    obtain ⟨b_6, h⟩ := h
    refine ma_m_held hx hb hkx hw b_6 dX8_costWith_71 ?_
    refine lv_iadd hx hb dX8_costWith_72 ?_
    exact end_i (w1 := (mdU cy ad)) (u := σ_5) C0 hw h dX8_costWith_73
  · replace h := h.2 c_1
    refine lv_aload_n hx hb dX8_costWith_12 rfl (lv_at hl 1 rfl) ?_
    refine mg_md_prices hx hb hts inw_X8_costWith_X8 hown hkx hw (hts _ (List.mem_of_getElem? (i := 2) rfl)) dX8_costWith_13 ?_
    refine lv_bipush (v := 7) hx hb dX8_costWith_16 (by decide) ?_
    refine ma_m_prices hx hb hkx hw (by unfold vp_in; decide) dX8_costWith_18 ?_
    refine lv_aload_n hx hb dX8_costWith_19 rfl (lv_at hl 1 rfl) ?_
    refine mg_md_held hx hb hts inw_X8_costWith_X8 hown hkx hw (hts _ (List.mem_of_getElem? (i := 3) rfl)) dX8_costWith_20 ?_
    refine lv_iload hx hb dX8_costWith_23 (lv_at hl 0 rfl) ?_
    refine lv_iload_n hx hb dX8_costWith_25 rfl (lv_at hl 2 rfl) ?_
    refine lv_iconst (v := 1) hx hb dX8_costWith_26 (by decide) ?_
    refine lv_iadd hx hb dX8_costWith_27 ?_
    refine lv_imul hx hb dX8_costWith_28 ?_
    refine lv_iload_n hx hb dX8_costWith_29 rfl (lv_at hl 3 rfl) ?_
    refine lv_iadd hx hb dX8_costWith_30 ?_
    obtain ⟨b_8, h⟩ := h
    refine ma_m_held hx hb hkx hw b_8 dX8_costWith_31 ?_
    refine lv_iadd hx hb dX8_costWith_32 ?_
    exact end_i (w1 := (mdU cy ad)) (u := σ) C0 hw h dX8_costWith_33
end
theorem hd_X8_hold : yX8_hold.cls = RX8 ∧ yX8_hold.cls ≠ "java/lang/invoke/MethodHandle" ∧ yX8_hold.cls ≠ "java/lang/invoke/VarHandle" ∧ (parseMethodDescriptor yX8_hold.desc).map (fun d => d.parameters.length) = some 0 := by decide +kernel
section
variable {p : Program} {l : Launch} {e : Env} {s : State} {m : MethodId} {args : Array Value} {below : List Frame} {meth : Method} {c : Code} {D : va_G} {cy : Nat → ClassId} {A : Nat → Prop} {ad : Nat → Nat}
abbrev rm_X8_hold : Room := { frames := 3, cells := 0, slots := 0, locals := 88 }
theorem inw_X8_hold_X8 : ∀ w ∈ u_ws RX8 TX8 35, w ∈ wsX8_hold := fun _ h => List.mem_cons_of_mem _ (List.mem_append_right _ h)
abbrev G_X8_hold (p : Program) (l : Launch) (e : Env) (s : State) (m : MethodId) (args : Array Value) (below : List Frame) (meth : Method) (c : Code) (D : va_G) (A : Nat → Prop) (cy : Nat → ClassId) (ad : Nat → Nat) (post : Sg → Prop) : va_W → Nat → List (Nat × Value) → Nat → List Value → Prop := Gw p l e rm_X8_hold s m args below meth c D A (MQ below ((Rv D (mdU cy ad) (fun u => post u)) A) args s 0 0 A)
def wp_X8_hold_195 (post : Sg → Prop) (k132 : Int32 → Int32 → Int32 → Sg → Prop) (x1 : Int32) (x2 : Int32) (x3 : Int32) (x4 : Int32) (s0 : Int32) (s1 : Int32) (σ : Sg) : Prop :=
    vp_in s1 12 ∧
    ∀ σ_2 : Sg, σ_2 = va_up σ 27 (upd (σ 27) s1.toNatClampNeg s0) →
    ((σ_2 6 0) ≤ x4 →
    k132 x1 x2 (x3 + (1 : Int32)) σ_2) ∧
    (¬ (σ_2 6 0) ≤ x4 →
    ∀ y_4 : Int32, y_4 = (x4 + (1 : Int32)) →
    k132 x1 y_4 (x3 + (1 : Int32)) σ_2)
set_option maxHeartbeats 4000000 in
set_option maxRecDepth 100000 in
theorem w_X8_hold_195 (C0 : Mc p m c meth cX8_hold 6 s args wsX8_hold RX8 none D cy A) {post : Sg → Prop} {k132 : Int32 → Int32 → Int32 → Sg → Prop} (hk132 : ∀ (x1 : Int32) (x2 : Int32) (x3 : Int32) (σ : Sg), k132 x1 x2 x3 σ → G_X8_hold p l e s m args below meth c D A cy ad post (mdW cy ad σ) 6 [(0, .ref (ad 0)), (1, .int x1), (2, .int x2), (3, .int x3)] 132 []) : ∀ (x1 : Int32) (x2 : Int32) (x3 : Int32) (x4 : Int32) (s0 : Int32) (s1 : Int32) (σ : Sg), wp_X8_hold_195 post k132 x1 x2 x3 x4 s0 s1 σ → G_X8_hold p l e s m args below meth c D A cy ad post (mdW cy ad σ) 6 [(0, .ref (ad 0)), (1, .int x1), (2, .int x2), (3, .int x3), (4, .int x4)] 195 [.int s0, .int s1, .ref (ad 19)] := by
  obtain ⟨⟨hx, hb, hml, hown, hts⟩, hr, hlocks, hkx, hA⟩ := id C0
  intro x1 x2 x3 x4 s0 s1 σ h H locs ls hw hl
  unfold wp_X8_hold_195 at h
  obtain ⟨b_1, h⟩ := h
  refine ms_m_partnerOf hx hb hkx hw b_1 dX8_hold_195 (fun σ_2 eσ_2 H locs hw => ?_)
  replace h := h σ_2 eσ_2
  refine lv_iload hx hb dX8_hold_196 (lv_at hl 4 rfl) ?_
  refine lv_aload_n hx hb dX8_hold_198 rfl (lv_at hl 0 rfl) ?_
  refine mg_md_headMany hx hb hts inw_X8_hold_X8 hown hkx hw (hts _ (List.mem_of_getElem? (i := 1) rfl)) dX8_hold_199 ?_
  refine lv_icmp_ge (tgt := 210) hx hb dX8_hold_202 (by decide) (fun c_3 => ?_) (fun c_3 => ?_)
  · replace h := h.1 c_3
    refine lv_iinc (v := x3 + (1 : Int32)) (lv' := [(3, .int (x3 + (1 : Int32))), (0, .ref (ad 0)), (1, .int x1), (2, .int x2), (4, .int x4)]) hx hb dX8_hold_210 hl (k := 3) rfl rfl (by decide) rfl (fun ls hl => ?_)
    refine lv_goto (tgt := 132) hx hb dX8_hold_213 (by decide) ?_
    exact hk132 _ _ _ _ h _ _ _ hw (lv_sub hl [1, 2, 3, 0] rfl)
  · replace h := h.2 c_3
    refine lv_iload hx hb dX8_hold_205 (lv_at hl 4 rfl) ?_
    refine lv_iconst (v := 1) hx hb dX8_hold_207 (by decide) ?_
    refine lv_iadd hx hb dX8_hold_208 ?_
    refine lv_topi (fun y_4 ey_4 => ?_)
    replace h := h y_4 ey_4
    refine lv_istore_n (lv' := [(2, .int y_4), (0, .ref (ad 0)), (1, .int x1), (3, .int x3), (4, .int x4)]) hx hb dX8_hold_209 rfl hl (by decide) rfl (fun ls hl => ?_)
    refine lv_iinc (v := x3 + (1 : Int32)) (lv' := [(3, .int (x3 + (1 : Int32))), (2, .int y_4), (0, .ref (ad 0)), (1, .int x1), (4, .int x4)]) hx hb dX8_hold_210 hl (k := 3) rfl rfl (by decide) rfl (fun ls hl => ?_)
    refine lv_goto (tgt := 132) hx hb dX8_hold_213 (by decide) ?_
    exact hk132 _ _ _ _ h _ _ _ hw (lv_sub hl [2, 3, 1, 0] rfl)
def wp_X8_hold_143 (post : Sg → Prop) (k132 : Int32 → Int32 → Int32 → Sg → Prop) : Nat → Int32 → Int32 → Int32 → Int32 → Sg → Prop
  | 0, _, _, _, _, _ => False
  | n + 1, x1, x2, x3, x4, σ =>
    wp_X8_costWith x3 x2 x4 σ (fun r_1 σ_2 =>
    vp_in ((x1 * x3) + x2) 273 ∧
    (r_1 = (σ_2 26 ((x1 * x3) + x2).toNatClampNeg) →
    (¬ x4 = (σ_2 6 0) →
    vp_in x4 20 ∧
    wp_X8_hold_195 post k132 x1 x2 x3 x4 (σ_2 25 x4.toNatClampNeg) x3 σ_2) ∧
    (x4 = (σ_2 6 0) →
    wp_X8_hold_195 post k132 x1 x2 x3 x4 (-1 : Int32) x3 σ_2)) ∧
    (¬ r_1 = (σ_2 26 ((x1 * x3) + x2).toNatClampNeg) →
    wp_X8_hold_143 post k132 n x1 x2 x3 (x4 + (1 : Int32)) σ_2))
set_option maxHeartbeats 4000000 in
set_option maxRecDepth 100000 in
theorem w_X8_hold_143 (C0 : Mc p m c meth cX8_hold 6 s args wsX8_hold RX8 none D cy A) {post : Sg → Prop} {k132 : Int32 → Int32 → Int32 → Sg → Prop} (hk132 : ∀ (x1 : Int32) (x2 : Int32) (x3 : Int32) (σ : Sg), k132 x1 x2 x3 σ → G_X8_hold p l e s m args below meth c D A cy ad post (mdW cy ad σ) 6 [(0, .ref (ad 0)), (1, .int x1), (2, .int x2), (3, .int x3)] 132 []) : ∀ (n : Nat) (x1 : Int32) (x2 : Int32) (x3 : Int32) (x4 : Int32) (σ : Sg), wp_X8_hold_143 post k132 n x1 x2 x3 x4 σ → G_X8_hold p l e s m args below meth c D A cy ad post (mdW cy ad σ) 6 [(0, .ref (ad 0)), (1, .int x1), (2, .int x2), (3, .int x3), (4, .int x4)] 143 [] := by
  obtain ⟨⟨hx, hb, hml, hown, hts⟩, hr, hlocks, hkx, hA⟩ := id C0
  intro n
  induction n with
  | zero => intro x1 x2 x3 x4 σ h; exact False.elim h
  | succ n ih =>
    intro x1 x2 x3 x4 σ h H locs ls hw hl
    unfold wp_X8_hold_143 at h
    refine lv_aload_n hx hb dX8_hold_143 rfl (lv_at hl 0 rfl) ?_
    refine lv_iload_n hx hb dX8_hold_144 rfl (lv_at hl 3 rfl) ?_
    refine lv_iload_n hx hb dX8_hold_145 rfl (lv_at hl 2 rfl) ?_
    refine lv_iload hx hb dX8_hold_146 (lv_at hl 4 rfl) ?_
    refine md_Vi (As := [.int x3, .int x2, .int x4]) ⟨hx, hb, hml, hown, hts⟩ hkx hw hA (c_X8_costWith l D cy ad σ x3 x2 x4 _ h) (cwV 3 hts gX8_hold_X8_costWith rfl rfl rfl hd_X8_costWith ⟨Nat.le_of_ble_eq_true rfl, Nat.le_of_ble_eq_true rfl⟩) 0 8 rfl rfl rfl hl.1 rfl (Nat.le_of_ble_eq_true rfl) dX8_hold_148 ⟨Nat.zero_le _, Nat.zero_le _⟩ (fun r_1 σ_2 H locs h hw => ?_)
    refine lv_aload_n hx hb dX8_hold_151 rfl (lv_at hl 0 rfl) ?_
    refine mg_md_held hx hb hts inw_X8_hold_X8 hown hkx hw (hts _ (List.mem_of_getElem? (i := 2) rfl)) dX8_hold_152 ?_
    refine lv_iload_n hx hb dX8_hold_155 rfl (lv_at hl 1 rfl) ?_
    refine lv_iload_n hx hb dX8_hold_156 rfl (lv_at hl 3 rfl) ?_
    refine lv_imul hx hb dX8_hold_157 ?_
    refine lv_iload_n hx hb dX8_hold_158 rfl (lv_at hl 2 rfl) ?_
    refine lv_iadd hx hb dX8_hold_159 ?_
    obtain ⟨b_3, h⟩ := h
    refine ma_m_held hx hb hkx hw b_3 dX8_hold_160 ?_
    refine lv_icmp_eq (tgt := 170) hx hb dX8_hold_161 (by decide) (fun c_4 => ?_) (fun c_4 => ?_)
    · replace h := h.1 c_4
      refine lv_aload_n hx hb dX8_hold_170 rfl (lv_at hl 0 rfl) ?_
      refine mg_md_partnerOf hx hb hts inw_X8_hold_X8 hown hkx hw (hts _ (List.mem_of_getElem? (i := 10) rfl)) dX8_hold_171 ?_
      refine lv_iload_n hx hb dX8_hold_174 rfl (lv_at hl 3 rfl) ?_
      refine lv_iload hx hb dX8_hold_175 (lv_at hl 4 rfl) ?_
      refine lv_aload_n hx hb dX8_hold_177 rfl (lv_at hl 0 rfl) ?_
      refine mg_md_headMany hx hb hts inw_X8_hold_X8 hown hkx hw (hts _ (List.mem_of_getElem? (i := 1) rfl)) dX8_hold_178 ?_
      refine lv_icmp_ne (tgt := 188) hx hb dX8_hold_181 (by decide) (fun c_5 => ?_) (fun c_5 => ?_)
      · replace h := h.1 c_5
        refine lv_aload_n hx hb dX8_hold_188 rfl (lv_at hl 0 rfl) ?_
        refine mg_md_heads hx hb hts inw_X8_hold_X8 hown hkx hw (hts _ (List.mem_of_getElem? (i := 11) rfl)) dX8_hold_189 ?_
        refine lv_iload hx hb dX8_hold_192 (lv_at hl 4 rfl) ?_
        obtain ⟨b_6, h⟩ := h
        refine ma_m_heads hx hb hkx hw b_6 dX8_hold_194 ?_
        exact w_X8_hold_195 C0 hk132 _ _ _ _ _ _ _ h _ _ _ hw (lv_sub hl [0, 1, 2, 3, 4] rfl)
      · replace h := h.2 c_5
        refine lv_iconst (v := -1) hx hb dX8_hold_184 (by decide) ?_
        refine lv_goto (tgt := 195) hx hb dX8_hold_185 (by decide) ?_
        exact w_X8_hold_195 C0 hk132 _ _ _ _ _ _ _ h _ _ _ hw (lv_sub hl [0, 1, 2, 3, 4] rfl)
    · replace h := h.2 c_4
      refine lv_iinc (v := x4 + (1 : Int32)) (lv' := [(4, .int (x4 + (1 : Int32))), (0, .ref (ad 0)), (1, .int x1), (2, .int x2), (3, .int x3)]) hx hb dX8_hold_164 hl (k := 4) rfl rfl (by decide) rfl (fun ls hl => ?_)
      refine lv_goto (tgt := 143) hx hb dX8_hold_167 (by decide) ?_
      exact ih _ _ _ _ _ h _ _ _ hw (lv_sub hl [1, 2, 3, 4, 0] rfl)
def wp_X8_hold_132 (post : Sg → Prop) : Nat → Int32 → Int32 → Int32 → Sg → Prop
  | 0, _, _, _, _ => False
  | n + 1, x1, x2, x3, σ =>
    ((σ 2 0) ≤ x3 →
    post σ) ∧
    (¬ (σ 2 0) ≤ x3 →
    ∃ fu, wp_X8_hold_143 post (fun zx1 zx2 zx3 zσ => wp_X8_hold_132 post n zx1 zx2 zx3 zσ) fu x1 x2 x3 x2 σ)
set_option maxHeartbeats 4000000 in
set_option maxRecDepth 100000 in
theorem w_X8_hold_132 (C0 : Mc p m c meth cX8_hold 6 s args wsX8_hold RX8 none D cy A) {post : Sg → Prop} : ∀ (n : Nat) (x1 : Int32) (x2 : Int32) (x3 : Int32) (σ : Sg), wp_X8_hold_132 post n x1 x2 x3 σ → G_X8_hold p l e s m args below meth c D A cy ad post (mdW cy ad σ) 6 [(0, .ref (ad 0)), (1, .int x1), (2, .int x2), (3, .int x3)] 132 [] := by
  obtain ⟨⟨hx, hb, hml, hown, hts⟩, hr, hlocks, hkx, hA⟩ := id C0
  intro n
  induction n with
  | zero => intro x1 x2 x3 σ h; exact False.elim h
  | succ n ih =>
    intro x1 x2 x3 σ h H locs ls hw hl
    unfold wp_X8_hold_132 at h
    refine lv_iload_n hx hb dX8_hold_132 rfl (lv_at hl 3 rfl) ?_
    refine lv_aload_n hx hb dX8_hold_133 rfl (lv_at hl 0 rfl) ?_
    refine mg_md_entries hx hb hts inw_X8_hold_X8 hown hkx hw (hts _ (List.mem_of_getElem? (i := 3) rfl)) dX8_hold_134 ?_
    refine lv_icmp_ge (tgt := 216) hx hb dX8_hold_137 (by decide) (fun c_1 => ?_) (fun c_1 => ?_)
    · replace h := h.1 c_1
      exact end_v (w1 := (mdU cy ad)) (u := σ) C0 hw h dX8_hold_216
    · replace h := h.2 c_1
      refine lv_iload_n hx hb dX8_hold_140 rfl (lv_at hl 2 rfl) ?_
      refine lv_istore (lv' := [(4, .int x2), (0, .ref (ad 0)), (1, .int x1), (2, .int x2), (3, .int x3)]) hx hb dX8_hold_141 hl (by decide) rfl (fun ls hl => ?_)
      obtain ⟨n_2, h⟩ := h
      exact w_X8_hold_143 C0 ih n_2 _ _ _ _ _ h _ _ _ hw (lv_sub hl [1, 2, 3, 4, 0] rfl)
def wp_X8_hold_74 (post : Sg → Prop) (k59 : Int32 → Int32 → Int32 → Sg → Prop) : Nat → Int32 → Int32 → Int32 → Int32 → Int32 → Sg → Prop
  | 0, _, _, _, _, _, _ => False
  | n + 1, x1, x2, x3, x4, x5, σ =>
    ((σ 6 0) < x5 →
    vp_in ((x1 * x2) + x3) 273 ∧
    ∀ σ_3 : Sg, σ_3 = va_up σ 26 (upd (σ 26) ((x1 * x2) + x3).toNatClampNeg x4) →
    k59 x1 x2 (x3 + (1 : Int32)) σ_3) ∧
    (¬ (σ 6 0) < x5 →
    wp_X8_costWith x2 x3 x5 σ (fun r_4 σ_5 =>
    ∀ y_6 : Int32, y_6 = (if r_4 < x4 then r_4 else x4) →
    wp_X8_hold_74 post k59 n x1 x2 x3 y_6 (x5 + (1 : Int32)) σ_5))
set_option maxHeartbeats 4000000 in
set_option maxRecDepth 100000 in
theorem w_X8_hold_74 (C0 : Mc p m c meth cX8_hold 6 s args wsX8_hold RX8 none D cy A) {post : Sg → Prop} {k59 : Int32 → Int32 → Int32 → Sg → Prop} (hk59 : ∀ (x1 : Int32) (x2 : Int32) (x3 : Int32) (σ : Sg), k59 x1 x2 x3 σ → G_X8_hold p l e s m args below meth c D A cy ad post (mdW cy ad σ) 6 [(0, .ref (ad 0)), (1, .int x1), (2, .int x2), (3, .int x3)] 59 []) : ∀ (n : Nat) (x1 : Int32) (x2 : Int32) (x3 : Int32) (x4 : Int32) (x5 : Int32) (σ : Sg), wp_X8_hold_74 post k59 n x1 x2 x3 x4 x5 σ → G_X8_hold p l e s m args below meth c D A cy ad post (mdW cy ad σ) 6 [(0, .ref (ad 0)), (1, .int x1), (2, .int x2), (3, .int x3), (4, .int x4), (5, .int x5)] 74 [] := by
  obtain ⟨⟨hx, hb, hml, hown, hts⟩, hr, hlocks, hkx, hA⟩ := id C0
  intro n
  induction n with
  | zero => intro x1 x2 x3 x4 x5 σ h; exact False.elim h
  | succ n ih =>
    intro x1 x2 x3 x4 x5 σ h H locs ls hw hl
    unfold wp_X8_hold_74 at h
    refine lv_iload hx hb dX8_hold_74 (lv_at hl 5 rfl) ?_
    refine lv_aload_n hx hb dX8_hold_76 rfl (lv_at hl 0 rfl) ?_
    refine mg_md_headMany hx hb hts inw_X8_hold_X8 hown hkx hw (hts _ (List.mem_of_getElem? (i := 1) rfl)) dX8_hold_77 ?_
    refine lv_icmp_gt (tgt := 104) hx hb dX8_hold_80 (by decide) (fun c_1 => ?_) (fun c_1 => ?_)
    · replace h := h.1 c_1
      refine lv_aload_n hx hb dX8_hold_104 rfl (lv_at hl 0 rfl) ?_
      refine mg_md_held hx hb hts inw_X8_hold_X8 hown hkx hw (hts _ (List.mem_of_getElem? (i := 2) rfl)) dX8_hold_105 ?_
      refine lv_iload_n hx hb dX8_hold_108 rfl (lv_at hl 1 rfl) ?_
      refine lv_iload_n hx hb dX8_hold_109 rfl (lv_at hl 2 rfl) ?_
      refine lv_imul hx hb dX8_hold_110 ?_
      refine lv_iload_n hx hb dX8_hold_111 rfl (lv_at hl 3 rfl) ?_
      refine lv_iadd hx hb dX8_hold_112 ?_
      refine lv_iload hx hb dX8_hold_113 (lv_at hl 4 rfl) ?_
      obtain ⟨b_2, h⟩ := h
      refine ms_m_held hx hb hkx hw b_2 dX8_hold_115 (fun σ_3 eσ_3 H locs hw => ?_)
      replace h := h σ_3 eσ_3
      refine lv_iinc (v := x3 + (1 : Int32)) (lv' := [(3, .int (x3 + (1 : Int32))), (0, .ref (ad 0)), (1, .int x1), (2, .int x2), (4, .int x4), (5, .int x5)]) hx hb dX8_hold_116 hl (k := 3) rfl rfl (by decide) rfl (fun ls hl => ?_)
      refine lv_goto (tgt := 59) hx hb dX8_hold_119 (by decide) ?_
      exact hk59 _ _ _ _ h _ _ _ hw (lv_sub hl [1, 2, 3, 0] rfl)
    · replace h := h.2 c_1
      refine lv_iload hx hb dX8_hold_83 (lv_at hl 4 rfl) ?_
      refine lv_aload_n hx hb dX8_hold_85 rfl (lv_at hl 0 rfl) ?_
      refine lv_iload_n hx hb dX8_hold_86 rfl (lv_at hl 2 rfl) ?_
      refine lv_iload_n hx hb dX8_hold_87 rfl (lv_at hl 3 rfl) ?_
      refine lv_iload hx hb dX8_hold_88 (lv_at hl 5 rfl) ?_
      refine md_Vi (As := [.int x2, .int x3, .int x5]) ⟨hx, hb, hml, hown, hts⟩ hkx hw hA (c_X8_costWith l D cy ad σ x2 x3 x5 _ h) (cwV 3 hts gX8_hold_X8_costWith rfl rfl rfl hd_X8_costWith ⟨Nat.le_of_ble_eq_true rfl, Nat.le_of_ble_eq_true rfl⟩) 0 8 rfl rfl rfl hl.1 rfl (Nat.le_of_ble_eq_true rfl) dX8_hold_90 ⟨Nat.zero_le _, Nat.zero_le _⟩ (fun r_4 σ_5 H locs h hw => ?_)
      refine va_mmin hx hb (hml.trans hl.1.symm) hown (hts _ (List.mem_of_getElem? (i := 6) rfl)) (hts _ (List.mem_of_getElem? (i := 7) rfl)) (hts _ (List.mem_of_getElem? (i := 8) rfl)) (hts _ (List.mem_of_getElem? (i := 9) rfl)) (Nat.le_of_ble_eq_true rfl) (Nat.le_of_ble_eq_true rfl) (Nat.zero_le _) (Nat.zero_le _) dX8_hold_93 ?_
      refine lv_topi (fun y_6 ey_6 => ?_)
      replace h := h y_6 ey_6
      refine lv_istore (lv' := [(4, .int y_6), (0, .ref (ad 0)), (1, .int x1), (2, .int x2), (3, .int x3), (5, .int x5)]) hx hb dX8_hold_96 hl (by decide) rfl (fun ls hl => ?_)
      refine lv_iinc (v := x5 + (1 : Int32)) (lv' := [(5, .int (x5 + (1 : Int32))), (4, .int y_6), (0, .ref (ad 0)), (1, .int x1), (2, .int x2), (3, .int x3)]) hx hb dX8_hold_98 hl (k := 5) rfl rfl (by decide) rfl (fun ls hl => ?_)
      refine lv_goto (tgt := 74) hx hb dX8_hold_101 (by decide) ?_
      exact ih _ _ _ _ _ _ h _ _ _ hw (lv_sub hl [2, 3, 4, 5, 1, 0] rfl)
def wp_X8_hold_59 (post : Sg → Prop) (k53 : Int32 → Int32 → Sg → Prop) : Nat → Int32 → Int32 → Int32 → Sg → Prop
  | 0, _, _, _, _ => False
  | n + 1, x1, x2, x3, σ =>
    ((σ 6 0) < x3 →
    k53 x1 (x2 + (-1 : Int32)) σ) ∧
    (¬ (σ 6 0) < x3 →
    ∃ fu, wp_X8_hold_74 post (fun zx1 zx2 zx3 zσ => wp_X8_hold_59 post k53 n zx1 zx2 zx3 zσ) fu x1 x2 x3 (1000000 : Int32) x3 σ)
set_option maxHeartbeats 4000000 in
set_option maxRecDepth 100000 in
theorem w_X8_hold_59 (C0 : Mc p m c meth cX8_hold 6 s args wsX8_hold RX8 none D cy A) {post : Sg → Prop} {k53 : Int32 → Int32 → Sg → Prop} (hk53 : ∀ (x1 : Int32) (x2 : Int32) (σ : Sg), k53 x1 x2 σ → G_X8_hold p l e s m args below meth c D A cy ad post (mdW cy ad σ) 6 [(0, .ref (ad 0)), (1, .int x1), (2, .int x2)] 53 []) : ∀ (n : Nat) (x1 : Int32) (x2 : Int32) (x3 : Int32) (σ : Sg), wp_X8_hold_59 post k53 n x1 x2 x3 σ → G_X8_hold p l e s m args below meth c D A cy ad post (mdW cy ad σ) 6 [(0, .ref (ad 0)), (1, .int x1), (2, .int x2), (3, .int x3)] 59 [] := by
  obtain ⟨⟨hx, hb, hml, hown, hts⟩, hr, hlocks, hkx, hA⟩ := id C0
  intro n
  induction n with
  | zero => intro x1 x2 x3 σ h; exact False.elim h
  | succ n ih =>
    intro x1 x2 x3 σ h H locs ls hw hl
    unfold wp_X8_hold_59 at h
    refine lv_iload_n hx hb dX8_hold_59 rfl (lv_at hl 3 rfl) ?_
    refine lv_aload_n hx hb dX8_hold_60 rfl (lv_at hl 0 rfl) ?_
    refine mg_md_headMany hx hb hts inw_X8_hold_X8 hown hkx hw (hts _ (List.mem_of_getElem? (i := 1) rfl)) dX8_hold_61 ?_
    refine lv_icmp_gt (tgt := 122) hx hb dX8_hold_64 (by decide) (fun c_1 => ?_) (fun c_1 => ?_)
    · replace h := h.1 c_1
      refine lv_iinc (v := x2 + (-1 : Int32)) (lv' := [(2, .int (x2 + (-1 : Int32))), (0, .ref (ad 0)), (1, .int x1), (3, .int x3)]) hx hb dX8_hold_122 hl (k := 2) rfl rfl (by decide) rfl (fun ls hl => ?_)
      refine lv_goto (tgt := 53) hx hb dX8_hold_125 (by decide) ?_
      exact hk53 _ _ _ h _ _ _ hw (lv_sub hl [1, 2, 0] rfl)
    · replace h := h.2 c_1
      refine lv_ldc hx hb hown (hts _ (List.mem_of_getElem? (i := 5) rfl)) dX8_hold_67 ?_
      refine lv_istore (lv' := [(4, .int (1000000 : Int32)), (0, .ref (ad 0)), (1, .int x1), (2, .int x2), (3, .int x3)]) hx hb dX8_hold_69 hl (by decide) rfl (fun ls hl => ?_)
      refine lv_iload_n hx hb dX8_hold_71 rfl (lv_at hl 4 rfl) ?_
      refine lv_istore (lv' := [(5, .int x3), (4, .int (1000000 : Int32)), (0, .ref (ad 0)), (1, .int x1), (2, .int x2), (3, .int x3)]) hx hb dX8_hold_72 hl (by decide) rfl (fun ls hl => ?_)
      obtain ⟨n_2, h⟩ := h
      exact w_X8_hold_74 C0 ih n_2 _ _ _ _ _ _ h _ _ _ hw (lv_sub hl [2, 3, 4, 5, 1, 0] rfl)
def wp_X8_hold_53 (post : Sg → Prop) : Nat → Int32 → Int32 → Sg → Prop
  | 0, _, _, _ => False
  | n + 1, x1, x2, σ =>
    (x2 < 0 →
    ∃ fu, wp_X8_hold_132 post fu x1 (0 : Int32) (0 : Int32) σ) ∧
    (¬ x2 < 0 →
    ∃ fu, wp_X8_hold_59 post (fun zx1 zx2 zσ => wp_X8_hold_53 post n zx1 zx2 zσ) fu x1 x2 (0 : Int32) σ)
set_option maxHeartbeats 4000000 in
set_option maxRecDepth 100000 in
theorem w_X8_hold_53 (C0 : Mc p m c meth cX8_hold 6 s args wsX8_hold RX8 none D cy A) {post : Sg → Prop} : ∀ (n : Nat) (x1 : Int32) (x2 : Int32) (σ : Sg), wp_X8_hold_53 post n x1 x2 σ → G_X8_hold p l e s m args below meth c D A cy ad post (mdW cy ad σ) 6 [(0, .ref (ad 0)), (1, .int x1), (2, .int x2)] 53 [] := by
  obtain ⟨⟨hx, hb, hml, hown, hts⟩, hr, hlocks, hkx, hA⟩ := id C0
  intro n
  induction n with
  | zero => intro x1 x2 σ h; exact False.elim h
  | succ n ih =>
    intro x1 x2 σ h H locs ls hw hl
    unfold wp_X8_hold_53 at h
    refine lv_iload_n hx hb dX8_hold_53 rfl (lv_at hl 2 rfl) ?_
    refine lv_if_lt (tgt := 128) hx hb dX8_hold_54 (by decide) (fun c_1 => ?_) (fun c_1 => ?_)
    · replace h := h.1 c_1
      refine lv_iconst (v := 0) hx hb dX8_hold_128 (by decide) ?_
      refine lv_istore_n (lv' := [(2, .int (0 : Int32)), (0, .ref (ad 0)), (1, .int x1)]) hx hb dX8_hold_129 rfl hl (by decide) rfl (fun ls hl => ?_)
      refine lv_iconst (v := 0) hx hb dX8_hold_130 (by decide) ?_
      refine lv_istore_n (lv' := [(3, .int (0 : Int32)), (2, .int (0 : Int32)), (0, .ref (ad 0)), (1, .int x1)]) hx hb dX8_hold_131 rfl hl (by decide) rfl (fun ls hl => ?_)
      obtain ⟨n_2, h⟩ := h
      exact w_X8_hold_132 C0 n_2 _ _ _ _ h _ _ _ hw (lv_sub hl [2, 3, 1, 0] rfl)
    · replace h := h.2 c_1
      refine lv_iconst (v := 0) hx hb dX8_hold_57 (by decide) ?_
      refine lv_istore_n (lv' := [(3, .int (0 : Int32)), (0, .ref (ad 0)), (1, .int x1), (2, .int x2)]) hx hb dX8_hold_58 rfl hl (by decide) rfl (fun ls hl => ?_)
      obtain ⟨n_3, h⟩ := h
      exact w_X8_hold_59 C0 ih n_3 _ _ _ _ h _ _ _ hw (lv_sub hl [1, 2, 3, 0] rfl)
def wp_X8_hold_5 (post : Sg → Prop) : Nat → Int32 → Int32 → Sg → Prop
  | 0, _, _, _ => False
  | n + 1, x1, x2, σ =>
    ((σ 6 0) < x2 →
    ∀ y_2 : Int32, y_2 = ((σ 2 0) - (1 : Int32)) →
    ∃ fu, wp_X8_hold_53 post fu x1 y_2 σ) ∧
    (¬ (σ 6 0) < x2 →
    vp_in ((x1 * (σ 2 0)) + x2) 273 ∧
    ∀ σ_6 : Sg, σ_6 = va_up σ 26 (upd (σ 26) ((x1 * (σ 2 0)) + x2).toNatClampNeg ((σ 17 (7 : Int32).toNatClampNeg) * ((σ 6 0) - x2))) →
    wp_X8_hold_5 post n x1 (x2 + (1 : Int32)) σ_6)
set_option maxHeartbeats 4000000 in
set_option maxRecDepth 100000 in
theorem w_X8_hold_5 (C0 : Mc p m c meth cX8_hold 6 s args wsX8_hold RX8 none D cy A) {post : Sg → Prop} : ∀ (n : Nat) (x1 : Int32) (x2 : Int32) (σ : Sg), wp_X8_hold_5 post n x1 x2 σ → G_X8_hold p l e s m args below meth c D A cy ad post (mdW cy ad σ) 6 [(0, .ref (ad 0)), (1, .int x1), (2, .int x2)] 5 [] := by
  obtain ⟨⟨hx, hb, hml, hown, hts⟩, hr, hlocks, hkx, hA⟩ := id C0
  intro n
  induction n with
  | zero => intro x1 x2 σ h; exact False.elim h
  | succ n ih =>
    intro x1 x2 σ h H locs ls hw hl
    unfold wp_X8_hold_5 at h
    refine lv_iload_n hx hb dX8_hold_5 rfl (lv_at hl 2 rfl) ?_
    refine lv_aload_n hx hb dX8_hold_6 rfl (lv_at hl 0 rfl) ?_
    refine mg_md_headMany hx hb hts inw_X8_hold_X8 hown hkx hw (hts _ (List.mem_of_getElem? (i := 1) rfl)) dX8_hold_7 ?_
    refine lv_icmp_gt (tgt := 46) hx hb dX8_hold_10 (by decide) (fun c_1 => ?_) (fun c_1 => ?_)
    · replace h := h.1 c_1
      refine lv_aload_n hx hb dX8_hold_46 rfl (lv_at hl 0 rfl) ?_
      refine mg_md_entries hx hb hts inw_X8_hold_X8 hown hkx hw (hts _ (List.mem_of_getElem? (i := 3) rfl)) dX8_hold_47 ?_
      refine lv_iconst (v := 1) hx hb dX8_hold_50 (by decide) ?_
      refine lv_isub hx hb dX8_hold_51 ?_
      refine lv_topi (fun y_2 ey_2 => ?_)
      replace h := h y_2 ey_2
      refine lv_istore_n (lv' := [(2, .int y_2), (0, .ref (ad 0)), (1, .int x1)]) hx hb dX8_hold_52 rfl hl (by decide) rfl (fun ls hl => ?_)
      obtain ⟨n_3, h⟩ := h
      exact w_X8_hold_53 C0 n_3 _ _ _ h _ _ _ hw (lv_sub hl [1, 2, 0] rfl)
    · replace h := h.2 c_1
      refine lv_aload_n hx hb dX8_hold_13 rfl (lv_at hl 0 rfl) ?_
      refine mg_md_held hx hb hts inw_X8_hold_X8 hown hkx hw (hts _ (List.mem_of_getElem? (i := 2) rfl)) dX8_hold_14 ?_
      refine lv_iload_n hx hb dX8_hold_17 rfl (lv_at hl 1 rfl) ?_
      refine lv_aload_n hx hb dX8_hold_18 rfl (lv_at hl 0 rfl) ?_
      refine mg_md_entries hx hb hts inw_X8_hold_X8 hown hkx hw (hts _ (List.mem_of_getElem? (i := 3) rfl)) dX8_hold_19 ?_
      refine lv_imul hx hb dX8_hold_22 ?_
      refine lv_iload_n hx hb dX8_hold_23 rfl (lv_at hl 2 rfl) ?_
      refine lv_iadd hx hb dX8_hold_24 ?_
      refine lv_aload_n hx hb dX8_hold_25 rfl (lv_at hl 0 rfl) ?_
      refine mg_md_prices hx hb hts inw_X8_hold_X8 hown hkx hw (hts _ (List.mem_of_getElem? (i := 4) rfl)) dX8_hold_26 ?_
      refine lv_bipush (v := 7) hx hb dX8_hold_29 (by decide) ?_
      refine ma_m_prices hx hb hkx hw (by unfold vp_in; decide) dX8_hold_31 ?_
      refine lv_aload_n hx hb dX8_hold_32 rfl (lv_at hl 0 rfl) ?_
      refine mg_md_headMany hx hb hts inw_X8_hold_X8 hown hkx hw (hts _ (List.mem_of_getElem? (i := 1) rfl)) dX8_hold_33 ?_
      refine lv_iload_n hx hb dX8_hold_36 rfl (lv_at hl 2 rfl) ?_
      refine lv_isub hx hb dX8_hold_37 ?_
      refine lv_imul hx hb dX8_hold_38 ?_
      obtain ⟨b_5, h⟩ := h
      refine ms_m_held hx hb hkx hw b_5 dX8_hold_39 (fun σ_6 eσ_6 H locs hw => ?_)
      replace h := h σ_6 eσ_6
      refine lv_iinc (v := x2 + (1 : Int32)) (lv' := [(2, .int (x2 + (1 : Int32))), (0, .ref (ad 0)), (1, .int x1)]) hx hb dX8_hold_40 hl (k := 2) rfl rfl (by decide) rfl (fun ls hl => ?_)
      refine lv_goto (tgt := 5) hx hb dX8_hold_43 (by decide) ?_
      exact ih _ _ _ h _ _ _ hw (lv_sub hl [1, 2, 0] rfl)
def wp_X8_hold (σ : Sg) (post : Sg → Prop) : Prop :=
    ∃ fu, wp_X8_hold_5 post fu (21 : Int32) (0 : Int32) σ
set_option maxHeartbeats 4000000 in
set_option maxRecDepth 100000 in
theorem c_X8_hold (l : Launch) (D : va_G) (cy : Nat → ClassId) (ad : Nat → Nat) (σ : Sg) (post : Sg → Prop) (h : wp_X8_hold σ post) : Ct l yX8_hold wsX8_hold rm_X8_hold D cy [.ref (ad 0)] (mdW cy ad σ) 0 0 (Rv D (mdU cy ad) (fun u => post u)) := by
  refine Ct.of (cc := cX8_hold) (maxL := 6) (rt := none) (by decide) rfl (Nat.le_of_ble_eq_true rfl) ?_
  intro p e s m below meth c A C0 _ H locs ls hw hl
  obtain ⟨⟨hx, hb, hml, hown, hts⟩, hr, hlocks, hkx, hA⟩ := id C0
  have hl : lv_has ls 6 [(0, .ref (ad 0))] := hl
  unfold wp_X8_hold at h
  refine lv_bipush (v := 21) hx hb dX8_hold_0 (by decide) ?_
  refine lv_istore_n (lv' := [(1, .int (21 : Int32)), (0, .ref (ad 0))]) hx hb dX8_hold_2 rfl hl (by decide) rfl (fun ls hl => ?_)
  refine lv_iconst (v := 0) hx hb dX8_hold_3 (by decide) ?_
  refine lv_istore_n (lv' := [(2, .int (0 : Int32)), (1, .int (21 : Int32)), (0, .ref (ad 0))]) hx hb dX8_hold_4 rfl hl (by decide) rfl (fun ls hl => ?_)
  obtain ⟨n_1, h⟩ := h
  exact w_X8_hold_5 C0 n_1 _ _ _ h _ _ _ hw (lv_sub hl [2, 1, 0] rfl)
end
theorem hd_X8_wrongIn : yX8_wrongIn.cls = RX8 ∧ yX8_wrongIn.cls ≠ "java/lang/invoke/MethodHandle" ∧ yX8_wrongIn.cls ≠ "java/lang/invoke/VarHandle" ∧ (parseMethodDescriptor yX8_wrongIn.desc).map (fun d => d.parameters.length) = some 2 := by decide +kernel
section
variable {p : Program} {l : Launch} {e : Env} {s : State} {m : MethodId} {args : Array Value} {below : List Frame} {meth : Method} {c : Code} {D : va_G} {cy : Nat → ClassId} {A : Nat → Prop} {ad : Nat → Nat}
abbrev rm_X8_wrongIn : Room := { frames := 0, cells := 0, slots := 0, locals := 0 }
theorem inw_X8_wrongIn_X8 : ∀ w ∈ u_ws RX8 TX8 35, w ∈ wsX8_wrongIn := fun _ h => List.mem_cons_of_mem _ (List.mem_append_right _ h)
abbrev G_X8_wrongIn (p : Program) (l : Launch) (e : Env) (s : State) (m : MethodId) (args : Array Value) (below : List Frame) (meth : Method) (c : Code) (D : va_G) (A : Nat → Prop) (cy : Nat → ClassId) (ad : Nat → Nat) (post : Int32 → Sg → Prop) : va_W → Nat → List (Nat × Value) → Nat → List Value → Prop := Gw p l e rm_X8_wrongIn s m args below meth c D A (MQ below ((Ri D (mdU cy ad) (fun r u => post r u)) A) args s 0 0 A)
def wp_X8_wrongIn_116 (post : Int32 → Sg → Prop) (k13 : Int32 → Int32 → Int32 → Int32 → Int32 → Sg → Prop) (x1 : Int32) (x2 : Int32) (x3 : Int32) (x5 : Int32) (x6 : Int32) (x7 : Int32) (σ : Sg) : Prop :=
    ∀ σ_1 : Sg, σ_1 = va_up σ 8 (fun _ => x6) →
    k13 x1 x2 x3 x7 (x5 + (1 : Int32)) σ_1
set_option maxHeartbeats 4000000 in
set_option maxRecDepth 100000 in
theorem w_X8_wrongIn_116 (C0 : Mc p m c meth cX8_wrongIn 9 s args wsX8_wrongIn RX8 (some .int) D cy A) {post : Int32 → Sg → Prop} {k13 : Int32 → Int32 → Int32 → Int32 → Int32 → Sg → Prop} (hk13 : ∀ (x1 : Int32) (x2 : Int32) (x3 : Int32) (x4 : Int32) (x5 : Int32) (σ : Sg), k13 x1 x2 x3 x4 x5 σ → G_X8_wrongIn p l e s m args below meth c D A cy ad post (mdW cy ad σ) 9 [(0, .ref (ad 0)), (1, .int x1), (2, .int x2), (3, .int x3), (4, .int x4), (5, .int x5)] 13 []) : ∀ (x1 : Int32) (x2 : Int32) (x3 : Int32) (x5 : Int32) (x6 : Int32) (x7 : Int32) (σ : Sg), wp_X8_wrongIn_116 post k13 x1 x2 x3 x5 x6 x7 σ → G_X8_wrongIn p l e s m args below meth c D A cy ad post (mdW cy ad σ) 9 [(0, .ref (ad 0)), (1, .int x1), (2, .int x2), (3, .int x3), (5, .int x5), (6, .int x6), (7, .int x7)] 116 [] := by
  obtain ⟨⟨hx, hb, hml, hown, hts⟩, hr, hlocks, hkx, hA⟩ := id C0
  intro x1 x2 x3 x5 x6 x7 σ h H locs ls hw hl
  unfold wp_X8_wrongIn_116 at h
  refine lv_iload hx hb dX8_wrongIn_116 (lv_at hl 6 rfl) ?_
  refine lv_istore (lv' := [(4, .int x7), (0, .ref (ad 0)), (1, .int x1), (2, .int x2), (3, .int x3), (5, .int x5), (6, .int x6), (7, .int x7)]) hx hb dX8_wrongIn_118 hl (by decide) rfl (fun ls hl => ?_)
  refine lv_aload_n hx hb dX8_wrongIn_120 rfl (lv_at hl 1 rfl) ?_
  refine lv_iload hx hb dX8_wrongIn_121 (lv_at hl 6 rfl) ?_
  refine mp_md_bestShift hx hb hts inw_X8_wrongIn_X8 hown hkx hw (hts _ (List.mem_of_getElem? (i := 1) rfl)) dX8_wrongIn_123 (fun σ_1 eσ_1 H locs hw => ?_)
  replace h := h σ_1 eσ_1
  refine lv_iinc (v := x5 + (1 : Int32)) (lv' := [(5, .int (x5 + (1 : Int32))), (4, .int x7), (0, .ref (ad 0)), (1, .int x1), (2, .int x2), (3, .int x3), (6, .int x6), (7, .int x7)]) hx hb dX8_wrongIn_126 hl (k := 5) rfl rfl (by decide) rfl (fun ls hl => ?_)
  refine lv_goto (tgt := 13) hx hb dX8_wrongIn_129 (by decide) ?_
  exact hk13 _ _ _ _ _ _ h _ _ _ hw (lv_sub hl [2, 3, 4, 5, 1, 0] rfl)
def wp_X8_wrongIn_53 (post : Int32 → Sg → Prop) (k13 : Int32 → Int32 → Int32 → Int32 → Int32 → Sg → Prop) : Nat → Int32 → Int32 → Int32 → Int32 → Int32 → Int32 → Int32 → Int32 → Sg → Prop
  | 0, _, _, _, _, _, _, _, _, _ => False
  | n + 1, x1, x2, x3, x4, x5, x6, x7, x8, σ =>
    (x2 ≤ x8 →
    (x4 < x7 →
    wp_X8_wrongIn_116 post k13 x1 x2 x3 x5 x6 x7 σ) ∧
    (¬ x4 < x7 →
    (¬ x7 = x4 →
    k13 x1 x2 x3 x4 (x5 + (1 : Int32)) σ) ∧
    (x7 = x4 →
    ((σ 8 0) ≤ x6 →
    k13 x1 x2 x3 x4 (x5 + (1 : Int32)) σ) ∧
    (¬ (σ 8 0) ≤ x6 →
    wp_X8_wrongIn_116 post k13 x1 x2 x3 x5 x6 x7 σ)))) ∧
    (¬ x2 ≤ x8 →
    vp_in x8 60 ∧
    ((σ 9 x8.toNatClampNeg) ≤ 0 →
    wp_X8_wrongIn_53 post k13 n x1 x2 x3 x4 x5 x6 x7 (x8 + (1 : Int32)) σ) ∧
    (¬ (σ 9 x8.toNatClampNeg) ≤ 0 →
    vp_in x8 60 ∧
    (¬ ((σ 9 x8.toNatClampNeg) - x8) = x6 →
    wp_X8_wrongIn_53 post k13 n x1 x2 x3 x4 x5 x6 x7 (x8 + (1 : Int32)) σ) ∧
    (((σ 9 x8.toNatClampNeg) - x8) = x6 →
    wp_X8_wrongIn_53 post k13 n x1 x2 x3 x4 x5 x6 (x7 + (1 : Int32)) (x8 + (1 : Int32)) σ)))
set_option maxHeartbeats 4000000 in
set_option maxRecDepth 100000 in
theorem w_X8_wrongIn_53 (C0 : Mc p m c meth cX8_wrongIn 9 s args wsX8_wrongIn RX8 (some .int) D cy A) {post : Int32 → Sg → Prop} {k13 : Int32 → Int32 → Int32 → Int32 → Int32 → Sg → Prop} (hk13 : ∀ (x1 : Int32) (x2 : Int32) (x3 : Int32) (x4 : Int32) (x5 : Int32) (σ : Sg), k13 x1 x2 x3 x4 x5 σ → G_X8_wrongIn p l e s m args below meth c D A cy ad post (mdW cy ad σ) 9 [(0, .ref (ad 0)), (1, .int x1), (2, .int x2), (3, .int x3), (4, .int x4), (5, .int x5)] 13 []) : ∀ (n : Nat) (x1 : Int32) (x2 : Int32) (x3 : Int32) (x4 : Int32) (x5 : Int32) (x6 : Int32) (x7 : Int32) (x8 : Int32) (σ : Sg), wp_X8_wrongIn_53 post k13 n x1 x2 x3 x4 x5 x6 x7 x8 σ → G_X8_wrongIn p l e s m args below meth c D A cy ad post (mdW cy ad σ) 9 [(0, .ref (ad 0)), (1, .int x1), (2, .int x2), (3, .int x3), (4, .int x4), (5, .int x5), (6, .int x6), (7, .int x7), (8, .int x8)] 53 [] := by
  obtain ⟨⟨hx, hb, hml, hown, hts⟩, hr, hlocks, hkx, hA⟩ := id C0
  intro n
  induction n with
  | zero => intro x1 x2 x3 x4 x5 x6 x7 x8 σ h; exact False.elim h
  | succ n ih =>
    intro x1 x2 x3 x4 x5 x6 x7 x8 σ h H locs ls hw hl
    unfold wp_X8_wrongIn_53 at h
    refine lv_iload hx hb dX8_wrongIn_53 (lv_at hl 8 rfl) ?_
    refine lv_iload_n hx hb dX8_wrongIn_55 rfl (lv_at hl 2 rfl) ?_
    refine lv_icmp_ge (tgt := 93) hx hb dX8_wrongIn_56 (by decide) (fun c_1 => ?_) (fun c_1 => ?_)
    · replace h := h.1 c_1
      refine lv_iload hx hb dX8_wrongIn_93 (lv_at hl 7 rfl) ?_
      refine lv_iload hx hb dX8_wrongIn_95 (lv_at hl 4 rfl) ?_
      refine lv_icmp_gt (tgt := 116) hx hb dX8_wrongIn_97 (by decide) (fun c_2 => ?_) (fun c_2 => ?_)
      · replace h := h.1 c_2
        exact w_X8_wrongIn_116 C0 hk13 _ _ _ _ _ _ _ h _ _ _ hw (lv_sub hl [0, 1, 2, 3, 5, 6, 7] rfl)
      · replace h := h.2 c_2
        refine lv_iload hx hb dX8_wrongIn_100 (lv_at hl 7 rfl) ?_
        refine lv_iload hx hb dX8_wrongIn_102 (lv_at hl 4 rfl) ?_
        refine lv_icmp_ne (tgt := 126) hx hb dX8_wrongIn_104 (by decide) (fun c_3 => ?_) (fun c_3 => ?_)
        · replace h := h.1 c_3
          refine lv_iinc (v := x5 + (1 : Int32)) (lv' := [(5, .int (x5 + (1 : Int32))), (0, .ref (ad 0)), (1, .int x1), (2, .int x2), (3, .int x3), (4, .int x4), (6, .int x6), (7, .int x7), (8, .int x8)]) hx hb dX8_wrongIn_126 hl (k := 5) rfl rfl (by decide) rfl (fun ls hl => ?_)
          refine lv_goto (tgt := 13) hx hb dX8_wrongIn_129 (by decide) ?_
          exact hk13 _ _ _ _ _ _ h _ _ _ hw (lv_sub hl [1, 2, 3, 4, 5, 0] rfl)
        · replace h := h.2 c_3
          refine lv_iload hx hb dX8_wrongIn_107 (lv_at hl 6 rfl) ?_
          refine lv_aload_n hx hb dX8_wrongIn_109 rfl (lv_at hl 0 rfl) ?_
          refine mg_md_bestShift hx hb hts inw_X8_wrongIn_X8 hown hkx hw (hts _ (List.mem_of_getElem? (i := 1) rfl)) dX8_wrongIn_110 ?_
          refine lv_icmp_ge (tgt := 126) hx hb dX8_wrongIn_113 (by decide) (fun c_4 => ?_) (fun c_4 => ?_)
          · replace h := h.1 c_4
            refine lv_iinc (v := x5 + (1 : Int32)) (lv' := [(5, .int (x5 + (1 : Int32))), (0, .ref (ad 0)), (1, .int x1), (2, .int x2), (3, .int x3), (4, .int x4), (6, .int x6), (7, .int x7), (8, .int x8)]) hx hb dX8_wrongIn_126 hl (k := 5) rfl rfl (by decide) rfl (fun ls hl => ?_)
            refine lv_goto (tgt := 13) hx hb dX8_wrongIn_129 (by decide) ?_
            exact hk13 _ _ _ _ _ _ h _ _ _ hw (lv_sub hl [1, 2, 3, 4, 5, 0] rfl)
          · replace h := h.2 c_4
            exact w_X8_wrongIn_116 C0 hk13 _ _ _ _ _ _ _ h _ _ _ hw (lv_sub hl [0, 1, 2, 3, 5, 6, 7] rfl)
    · replace h := h.2 c_1
      refine lv_aload_n hx hb dX8_wrongIn_59 rfl (lv_at hl 0 rfl) ?_
      refine mg_md_read hx hb hts inw_X8_wrongIn_X8 hown hkx hw (hts _ (List.mem_of_getElem? (i := 2) rfl)) dX8_wrongIn_60 ?_
      refine lv_iload hx hb dX8_wrongIn_63 (lv_at hl 8 rfl) ?_
      obtain ⟨b_5, h⟩ := h
      refine ma_m_read hx hb hkx hw b_5 dX8_wrongIn_65 ?_
      refine lv_if_le (tgt := 87) hx hb dX8_wrongIn_66 (by decide) (fun c_6 => ?_) (fun c_6 => ?_)
      · replace h := h.1 c_6
        refine lv_iinc (v := x8 + (1 : Int32)) (lv' := [(8, .int (x8 + (1 : Int32))), (0, .ref (ad 0)), (1, .int x1), (2, .int x2), (3, .int x3), (4, .int x4), (5, .int x5), (6, .int x6), (7, .int x7)]) hx hb dX8_wrongIn_87 hl (k := 8) rfl rfl (by decide) rfl (fun ls hl => ?_)
        refine lv_goto (tgt := 53) hx hb dX8_wrongIn_90 (by decide) ?_
        exact ih _ _ _ _ _ _ _ _ _ h _ _ _ hw (lv_sub hl [1, 2, 3, 4, 5, 6, 7, 8, 0] rfl)
      · replace h := h.2 c_6
        refine lv_aload_n hx hb dX8_wrongIn_69 rfl (lv_at hl 0 rfl) ?_
        refine mg_md_read hx hb hts inw_X8_wrongIn_X8 hown hkx hw (hts _ (List.mem_of_getElem? (i := 2) rfl)) dX8_wrongIn_70 ?_
        refine lv_iload hx hb dX8_wrongIn_73 (lv_at hl 8 rfl) ?_
        obtain ⟨b_7, h⟩ := h
        refine ma_m_read hx hb hkx hw b_7 dX8_wrongIn_75 ?_
        refine lv_iload hx hb dX8_wrongIn_76 (lv_at hl 8 rfl) ?_
        refine lv_isub hx hb dX8_wrongIn_78 ?_
        refine lv_iload hx hb dX8_wrongIn_79 (lv_at hl 6 rfl) ?_
        refine lv_icmp_ne (tgt := 87) hx hb dX8_wrongIn_81 (by decide) (fun c_8 => ?_) (fun c_8 => ?_)
        · replace h := h.1 c_8
          refine lv_iinc (v := x8 + (1 : Int32)) (lv' := [(8, .int (x8 + (1 : Int32))), (0, .ref (ad 0)), (1, .int x1), (2, .int x2), (3, .int x3), (4, .int x4), (5, .int x5), (6, .int x6), (7, .int x7)]) hx hb dX8_wrongIn_87 hl (k := 8) rfl rfl (by decide) rfl (fun ls hl => ?_)
          refine lv_goto (tgt := 53) hx hb dX8_wrongIn_90 (by decide) ?_
          exact ih _ _ _ _ _ _ _ _ _ h _ _ _ hw (lv_sub hl [1, 2, 3, 4, 5, 6, 7, 8, 0] rfl)
        · replace h := h.2 c_8
          refine lv_iinc (v := x7 + (1 : Int32)) (lv' := [(7, .int (x7 + (1 : Int32))), (0, .ref (ad 0)), (1, .int x1), (2, .int x2), (3, .int x3), (4, .int x4), (5, .int x5), (6, .int x6), (8, .int x8)]) hx hb dX8_wrongIn_84 hl (k := 7) rfl rfl (by decide) rfl (fun ls hl => ?_)
          refine lv_iinc (v := x8 + (1 : Int32)) (lv' := [(8, .int (x8 + (1 : Int32))), (7, .int (x7 + (1 : Int32))), (0, .ref (ad 0)), (1, .int x1), (2, .int x2), (3, .int x3), (4, .int x4), (5, .int x5), (6, .int x6)]) hx hb dX8_wrongIn_87 hl (k := 8) rfl rfl (by decide) rfl (fun ls hl => ?_)
          refine lv_goto (tgt := 53) hx hb dX8_wrongIn_90 (by decide) ?_
          exact ih _ _ _ _ _ _ _ _ _ h _ _ _ hw (lv_sub hl [2, 3, 4, 5, 6, 7, 8, 1, 0] rfl)
def wp_X8_wrongIn_13 (post : Int32 → Sg → Prop) : Nat → Int32 → Int32 → Int32 → Int32 → Int32 → Sg → Prop
  | 0, _, _, _, _, _, _ => False
  | n + 1, x1, x2, x3, x4, x5, σ =>
    (x2 ≤ x5 →
    post (x3 - x4) σ) ∧
    (¬ x2 ≤ x5 →
    vp_in x5 60 ∧
    (¬ (σ 9 x5.toNatClampNeg) = 0 →
    vp_in x5 60 ∧
    ∀ y_5 : Int32, y_5 = ((σ 9 x5.toNatClampNeg) - x5) →
    ∃ fu, wp_X8_wrongIn_53 post (fun zx1 zx2 zx3 zx4 zx5 zσ => wp_X8_wrongIn_13 post n zx1 zx2 zx3 zx4 zx5 zσ) fu x1 x2 (x3 + (1 : Int32)) x4 x5 y_5 (0 : Int32) x1 σ) ∧
    ((σ 9 x5.toNatClampNeg) = 0 →
    wp_X8_wrongIn_13 post n x1 x2 x3 x4 (x5 + (1 : Int32)) σ))
set_option maxHeartbeats 4000000 in
set_option maxRecDepth 100000 in
theorem w_X8_wrongIn_13 (C0 : Mc p m c meth cX8_wrongIn 9 s args wsX8_wrongIn RX8 (some .int) D cy A) {post : Int32 → Sg → Prop} : ∀ (n : Nat) (x1 : Int32) (x2 : Int32) (x3 : Int32) (x4 : Int32) (x5 : Int32) (σ : Sg), wp_X8_wrongIn_13 post n x1 x2 x3 x4 x5 σ → G_X8_wrongIn p l e s m args below meth c D A cy ad post (mdW cy ad σ) 9 [(0, .ref (ad 0)), (1, .int x1), (2, .int x2), (3, .int x3), (4, .int x4), (5, .int x5)] 13 [] := by
  obtain ⟨⟨hx, hb, hml, hown, hts⟩, hr, hlocks, hkx, hA⟩ := id C0
  intro n
  induction n with
  | zero => intro x1 x2 x3 x4 x5 σ h; exact False.elim h
  | succ n ih =>
    intro x1 x2 x3 x4 x5 σ h H locs ls hw hl
    unfold wp_X8_wrongIn_13 at h
    refine lv_iload hx hb dX8_wrongIn_13 (lv_at hl 5 rfl) ?_
    refine lv_iload_n hx hb dX8_wrongIn_15 rfl (lv_at hl 2 rfl) ?_
    refine lv_icmp_ge (tgt := 132) hx hb dX8_wrongIn_16 (by decide) (fun c_1 => ?_) (fun c_1 => ?_)
    · replace h := h.1 c_1
      refine lv_iload_n hx hb dX8_wrongIn_132 rfl (lv_at hl 3 rfl) ?_
      refine lv_iload hx hb dX8_wrongIn_133 (lv_at hl 4 rfl) ?_
      refine lv_isub hx hb dX8_wrongIn_135 ?_
      exact end_i (w1 := (mdU cy ad)) (u := σ) C0 hw h dX8_wrongIn_136
    · replace h := h.2 c_1
      refine lv_aload_n hx hb dX8_wrongIn_19 rfl (lv_at hl 0 rfl) ?_
      refine mg_md_read hx hb hts inw_X8_wrongIn_X8 hown hkx hw (hts _ (List.mem_of_getElem? (i := 2) rfl)) dX8_wrongIn_20 ?_
      refine lv_iload hx hb dX8_wrongIn_23 (lv_at hl 5 rfl) ?_
      obtain ⟨b_2, h⟩ := h
      refine ma_m_read hx hb hkx hw b_2 dX8_wrongIn_25 ?_
      refine lv_if_ne (tgt := 32) hx hb dX8_wrongIn_26 (by decide) (fun c_3 => ?_) (fun c_3 => ?_)
      · replace h := h.1 c_3
        refine lv_iinc (v := x3 + (1 : Int32)) (lv' := [(3, .int (x3 + (1 : Int32))), (0, .ref (ad 0)), (1, .int x1), (2, .int x2), (4, .int x4), (5, .int x5)]) hx hb dX8_wrongIn_32 hl (k := 3) rfl rfl (by decide) rfl (fun ls hl => ?_)
        refine lv_aload_n hx hb dX8_wrongIn_35 rfl (lv_at hl 1 rfl) ?_
        refine mg_md_read hx hb hts inw_X8_wrongIn_X8 hown hkx hw (hts _ (List.mem_of_getElem? (i := 2) rfl)) dX8_wrongIn_36 ?_
        refine lv_iload hx hb dX8_wrongIn_39 (lv_at hl 5 rfl) ?_
        obtain ⟨b_4, h⟩ := h
        refine ma_m_read hx hb hkx hw b_4 dX8_wrongIn_41 ?_
        refine lv_iload hx hb dX8_wrongIn_42 (lv_at hl 5 rfl) ?_
        refine lv_isub hx hb dX8_wrongIn_44 ?_
        refine lv_topi (fun y_5 ey_5 => ?_)
        replace h := h y_5 ey_5
        refine lv_istore (lv' := [(6, .int y_5), (3, .int (x3 + (1 : Int32))), (0, .ref (ad 0)), (1, .int x1), (2, .int x2), (4, .int x4), (5, .int x5)]) hx hb dX8_wrongIn_45 hl (by decide) rfl (fun ls hl => ?_)
        refine lv_iconst (v := 0) hx hb dX8_wrongIn_47 (by decide) ?_
        refine lv_istore (lv' := [(7, .int (0 : Int32)), (6, .int y_5), (3, .int (x3 + (1 : Int32))), (0, .ref (ad 0)), (1, .int x1), (2, .int x2), (4, .int x4), (5, .int x5)]) hx hb dX8_wrongIn_48 hl (by decide) rfl (fun ls hl => ?_)
        refine lv_iload_n hx hb dX8_wrongIn_50 rfl (lv_at hl 4 rfl) ?_
        refine lv_istore (lv' := [(8, .int x1), (7, .int (0 : Int32)), (6, .int y_5), (3, .int (x3 + (1 : Int32))), (0, .ref (ad 0)), (1, .int x1), (2, .int x2), (4, .int x4), (5, .int x5)]) hx hb dX8_wrongIn_51 hl (by decide) rfl (fun ls hl => ?_)
        obtain ⟨n_6, h⟩ := h
        exact w_X8_wrongIn_53 C0 ih n_6 _ _ _ _ _ _ _ _ _ h _ _ _ hw (lv_sub hl [4, 5, 6, 3, 7, 8, 2, 1, 0] rfl)
      · replace h := h.2 c_3
        refine lv_goto (tgt := 126) hx hb dX8_wrongIn_29 (by decide) ?_
        refine lv_iinc (v := x5 + (1 : Int32)) (lv' := [(5, .int (x5 + (1 : Int32))), (0, .ref (ad 0)), (1, .int x1), (2, .int x2), (3, .int x3), (4, .int x4)]) hx hb dX8_wrongIn_126 hl (k := 5) rfl rfl (by decide) rfl (fun ls hl => ?_)
        refine lv_goto (tgt := 13) hx hb dX8_wrongIn_129 (by decide) ?_
        exact ih _ _ _ _ _ _ h _ _ _ hw (lv_sub hl [1, 2, 3, 4, 5, 0] rfl)
def wp_X8_wrongIn (x1 : Int32) (x2 : Int32) (σ : Sg) (post : Int32 → Sg → Prop) : Prop :=
    ∀ σ_1 : Sg, σ_1 = va_up σ 8 (fun _ => (0 : Int32)) →
    ∃ fu, wp_X8_wrongIn_13 post fu x1 x2 (0 : Int32) (0 : Int32) x1 σ_1
set_option maxHeartbeats 4000000 in
set_option maxRecDepth 100000 in
theorem c_X8_wrongIn (l : Launch) (D : va_G) (cy : Nat → ClassId) (ad : Nat → Nat) (σ : Sg) (x1 : Int32) (x2 : Int32) (post : Int32 → Sg → Prop) (h : wp_X8_wrongIn x1 x2 σ post) : Ct l yX8_wrongIn wsX8_wrongIn rm_X8_wrongIn D cy [.ref (ad 0), .int x1, .int x2] (mdW cy ad σ) 0 0 (Ri D (mdU cy ad) (fun r u => post r u)) := by
  refine Ct.of (cc := cX8_wrongIn) (maxL := 9) (rt := (some .int)) (by decide) rfl (Nat.le_of_ble_eq_true rfl) ?_
  intro p e s m below meth c A C0 _ H locs ls hw hl
  obtain ⟨⟨hx, hb, hml, hown, hts⟩, hr, hlocks, hkx, hA⟩ := id C0
  have hl : lv_has ls 9 [(0, .ref (ad 0)), (1, .int x1), (2, .int x2)] := hl
  unfold wp_X8_wrongIn at h
  refine lv_iconst (v := 0) hx hb dX8_wrongIn_0 (by decide) ?_
  refine lv_istore_n (lv' := [(3, .int (0 : Int32)), (0, .ref (ad 0)), (1, .int x1), (2, .int x2)]) hx hb dX8_wrongIn_1 rfl hl (by decide) rfl (fun ls hl => ?_)
  refine lv_iconst (v := 0) hx hb dX8_wrongIn_2 (by decide) ?_
  refine lv_istore (lv' := [(4, .int (0 : Int32)), (3, .int (0 : Int32)), (0, .ref (ad 0)), (1, .int x1), (2, .int x2)]) hx hb dX8_wrongIn_3 hl (by decide) rfl (fun ls hl => ?_)
  refine lv_aload_n hx hb dX8_wrongIn_5 rfl (lv_at hl 2 rfl) ?_
  refine lv_iconst (v := 0) hx hb dX8_wrongIn_6 (by decide) ?_
  refine mp_md_bestShift hx hb hts inw_X8_wrongIn_X8 hown hkx hw (hts _ (List.mem_of_getElem? (i := 1) rfl)) dX8_wrongIn_7 (fun σ_1 eσ_1 H locs hw => ?_)
  replace h := h σ_1 eσ_1
  refine lv_iload_n hx hb dX8_wrongIn_10 rfl (lv_at hl 3 rfl) ?_
  refine lv_istore (lv' := [(5, .int x1), (4, .int (0 : Int32)), (3, .int (0 : Int32)), (0, .ref (ad 0)), (1, .int x1), (2, .int x2)]) hx hb dX8_wrongIn_11 hl (by decide) rfl (fun ls hl => ?_)
  obtain ⟨n_2, h⟩ := h
  exact w_X8_wrongIn_13 C0 n_2 _ _ _ _ _ _ h _ _ _ hw (lv_sub hl [3, 4, 5, 2, 1, 0] rfl)
end
theorem hd_X8_findShifts : yX8_findShifts.cls = RX8 ∧ yX8_findShifts.cls ≠ "java/lang/invoke/MethodHandle" ∧ yX8_findShifts.cls ≠ "java/lang/invoke/VarHandle" ∧ (parseMethodDescriptor yX8_findShifts.desc).map (fun d => d.parameters.length) = some 0 := by decide +kernel
section
variable {p : Program} {l : Launch} {e : Env} {s : State} {m : MethodId} {args : Array Value} {below : List Frame} {meth : Method} {c : Code} {D : va_G} {cy : Nat → ClassId} {A : Nat → Prop} {ad : Nat → Nat}
abbrev rm_X8_findShifts : Room := { frames := 1, cells := 0, slots := 0, locals := 28 }
theorem inw_X8_findShifts_X8 : ∀ w ∈ u_ws RX8 TX8 35, w ∈ wsX8_findShifts := fun _ h => List.mem_cons_of_mem _ (List.mem_append_right _ h)
abbrev G_X8_findShifts (p : Program) (l : Launch) (e : Env) (s : State) (m : MethodId) (args : Array Value) (below : List Frame) (meth : Method) (c : Code) (D : va_G) (A : Nat → Prop) (cy : Nat → ClassId) (ad : Nat → Nat) (post : Sg → Prop) : va_W → Nat → List (Nat × Value) → Nat → List Value → Prop := Gw p l e rm_X8_findShifts s m args below meth c D A (MQ below ((Rv D (mdU cy ad) (fun u => post u)) A) args s 0 0 A)
def wp_X8_findShifts_181 (post : Sg → Prop) (k159 : Int32 → Sg → Prop) : Nat → Int32 → Int32 → Sg → Prop
  | 0, _, _, _ => False
  | n + 1, x1, x2, σ =>
    vp_in x1 61 ∧
    ((σ 30 x1.toNatClampNeg) ≤ x2 →
    vp_in x1 61 ∧
    ∀ y_4 : Int32, y_4 = (σ 30 x1.toNatClampNeg) →
    k159 y_4 σ) ∧
    (¬ (σ 30 x1.toNatClampNeg) ≤ x2 →
    vp_in x2 60 ∧
    ∀ σ_6 : Sg, σ_6 = va_up σ 31 (upd (σ 31) x2.toNatClampNeg x1) →
    vp_in x2 60 ∧
    ∀ σ_8 : Sg, σ_8 = va_up σ_6 32 (upd (σ_6 32) x2.toNatClampNeg (σ_6 8 0)) →
    wp_X8_findShifts_181 post k159 n x1 (x2 + (1 : Int32)) σ_8)
set_option maxHeartbeats 4000000 in
set_option maxRecDepth 100000 in
theorem w_X8_findShifts_181 (C0 : Mc p m c meth cX8_findShifts 5 s args wsX8_findShifts RX8 none D cy A) {post : Sg → Prop} {k159 : Int32 → Sg → Prop} (hk159 : ∀ (x1 : Int32) (σ : Sg), k159 x1 σ → G_X8_findShifts p l e s m args below meth c D A cy ad post (mdW cy ad σ) 5 [(0, .ref (ad 0)), (1, .int x1)] 159 []) : ∀ (n : Nat) (x1 : Int32) (x2 : Int32) (σ : Sg), wp_X8_findShifts_181 post k159 n x1 x2 σ → G_X8_findShifts p l e s m args below meth c D A cy ad post (mdW cy ad σ) 5 [(0, .ref (ad 0)), (1, .int x1), (2, .int x2)] 181 [] := by
  obtain ⟨⟨hx, hb, hml, hown, hts⟩, hr, hlocks, hkx, hA⟩ := id C0
  intro n
  induction n with
  | zero => intro x1 x2 σ h; exact False.elim h
  | succ n ih =>
    intro x1 x2 σ h H locs ls hw hl
    unfold wp_X8_findShifts_181 at h
    refine lv_iload_n hx hb dX8_findShifts_181 rfl (lv_at hl 2 rfl) ?_
    refine lv_aload_n hx hb dX8_findShifts_182 rfl (lv_at hl 0 rfl) ?_
    refine mg_md_spanEnd hx hb hts inw_X8_findShifts_X8 hown hkx hw (hts _ (List.mem_of_getElem? (i := 6) rfl)) dX8_findShifts_183 ?_
    refine lv_iload_n hx hb dX8_findShifts_186 rfl (lv_at hl 1 rfl) ?_
    obtain ⟨b_1, h⟩ := h
    refine ma_m_spanEnd hx hb hkx hw b_1 dX8_findShifts_187 ?_
    refine lv_icmp_ge (tgt := 214) hx hb dX8_findShifts_188 (by decide) (fun c_2 => ?_) (fun c_2 => ?_)
    · replace h := h.1 c_2
      refine lv_aload_n hx hb dX8_findShifts_214 rfl (lv_at hl 0 rfl) ?_
      refine mg_md_spanEnd hx hb hts inw_X8_findShifts_X8 hown hkx hw (hts _ (List.mem_of_getElem? (i := 6) rfl)) dX8_findShifts_215 ?_
      refine lv_iload_n hx hb dX8_findShifts_218 rfl (lv_at hl 1 rfl) ?_
      obtain ⟨b_3, h⟩ := h
      refine ma_m_spanEnd hx hb hkx hw b_3 dX8_findShifts_219 ?_
      refine lv_topi (fun y_4 ey_4 => ?_)
      replace h := h y_4 ey_4
      refine lv_istore_n (lv' := [(1, .int y_4), (0, .ref (ad 0)), (2, .int x2)]) hx hb dX8_findShifts_220 rfl hl (by decide) rfl (fun ls hl => ?_)
      refine lv_goto (tgt := 159) hx hb dX8_findShifts_221 (by decide) ?_
      exact hk159 _ _ h _ _ _ hw (lv_sub hl [1, 0] rfl)
    · replace h := h.2 c_2
      refine lv_aload_n hx hb dX8_findShifts_191 rfl (lv_at hl 0 rfl) ?_
      refine mg_md_spanOf hx hb hts inw_X8_findShifts_X8 hown hkx hw (hts _ (List.mem_of_getElem? (i := 7) rfl)) dX8_findShifts_192 ?_
      refine lv_iload_n hx hb dX8_findShifts_195 rfl (lv_at hl 2 rfl) ?_
      refine lv_iload_n hx hb dX8_findShifts_196 rfl (lv_at hl 1 rfl) ?_
      obtain ⟨b_5, h⟩ := h
      refine ms_m_spanOf hx hb hkx hw b_5 dX8_findShifts_197 (fun σ_6 eσ_6 H locs hw => ?_)
      replace h := h σ_6 eσ_6
      refine lv_aload_n hx hb dX8_findShifts_198 rfl (lv_at hl 0 rfl) ?_
      refine mg_md_shiftOf hx hb hts inw_X8_findShifts_X8 hown hkx hw (hts _ (List.mem_of_getElem? (i := 8) rfl)) dX8_findShifts_199 ?_
      refine lv_iload_n hx hb dX8_findShifts_202 rfl (lv_at hl 2 rfl) ?_
      refine lv_aload_n hx hb dX8_findShifts_203 rfl (lv_at hl 0 rfl) ?_
      refine mg_md_bestShift hx hb hts inw_X8_findShifts_X8 hown hkx hw (hts _ (List.mem_of_getElem? (i := 9) rfl)) dX8_findShifts_204 ?_
      obtain ⟨b_7, h⟩ := h
      refine ms_m_shiftOf hx hb hkx hw b_7 dX8_findShifts_207 (fun σ_8 eσ_8 H locs hw => ?_)
      replace h := h σ_8 eσ_8
      refine lv_iinc (v := x2 + (1 : Int32)) (lv' := [(2, .int (x2 + (1 : Int32))), (0, .ref (ad 0)), (1, .int x1)]) hx hb dX8_findShifts_208 hl (k := 2) rfl rfl (by decide) rfl (fun ls hl => ?_)
      refine lv_goto (tgt := 181) hx hb dX8_findShifts_211 (by decide) ?_
      exact ih _ _ _ h _ _ _ hw (lv_sub hl [1, 2, 0] rfl)
def wp_X8_findShifts_159 (post : Sg → Prop) : Nat → Int32 → Sg → Prop
  | 0, _, _ => False
  | n + 1, x1, σ =>
    ((σ 0 0) ≤ x1 →
    post σ) ∧
    (¬ (σ 0 0) ≤ x1 →
    vp_in x1 61 ∧
    wp_X8_wrongIn x1 (σ 30 x1.toNatClampNeg) σ (fun r_3 σ_4 =>
    ∃ fu, wp_X8_findShifts_181 post (fun zx1 zσ => wp_X8_findShifts_159 post n zx1 zσ) fu x1 x1 σ_4))
set_option maxHeartbeats 4000000 in
set_option maxRecDepth 100000 in
theorem w_X8_findShifts_159 (C0 : Mc p m c meth cX8_findShifts 5 s args wsX8_findShifts RX8 none D cy A) {post : Sg → Prop} : ∀ (n : Nat) (x1 : Int32) (σ : Sg), wp_X8_findShifts_159 post n x1 σ → G_X8_findShifts p l e s m args below meth c D A cy ad post (mdW cy ad σ) 5 [(0, .ref (ad 0)), (1, .int x1)] 159 [] := by
  obtain ⟨⟨hx, hb, hml, hown, hts⟩, hr, hlocks, hkx, hA⟩ := id C0
  intro n
  induction n with
  | zero => intro x1 σ h; exact False.elim h
  | succ n ih =>
    intro x1 σ h H locs ls hw hl
    unfold wp_X8_findShifts_159 at h
    refine lv_iload_n hx hb dX8_findShifts_159 rfl (lv_at hl 1 rfl) ?_
    refine lv_aload_n hx hb dX8_findShifts_160 rfl (lv_at hl 0 rfl) ?_
    refine mg_md_pages hx hb hts inw_X8_findShifts_X8 hown hkx hw (hts _ (List.mem_of_getElem? (i := 2) rfl)) dX8_findShifts_161 ?_
    refine lv_icmp_ge (tgt := 224) hx hb dX8_findShifts_164 (by decide) (fun c_1 => ?_) (fun c_1 => ?_)
    · replace h := h.1 c_1
      exact end_v (w1 := (mdU cy ad)) (u := σ) C0 hw h dX8_findShifts_224
    · replace h := h.2 c_1
      refine lv_aload_n hx hb dX8_findShifts_167 rfl (lv_at hl 0 rfl) ?_
      refine lv_iload_n hx hb dX8_findShifts_168 rfl (lv_at hl 1 rfl) ?_
      refine lv_aload_n hx hb dX8_findShifts_169 rfl (lv_at hl 0 rfl) ?_
      refine mg_md_spanEnd hx hb hts inw_X8_findShifts_X8 hown hkx hw (hts _ (List.mem_of_getElem? (i := 6) rfl)) dX8_findShifts_170 ?_
      refine lv_iload_n hx hb dX8_findShifts_173 rfl (lv_at hl 1 rfl) ?_
      obtain ⟨b_2, h⟩ := h
      refine ma_m_spanEnd hx hb hkx hw b_2 dX8_findShifts_174 ?_
      refine md_Vi (As := [.int x1, .int (σ 30 x1.toNatClampNeg)]) ⟨hx, hb, hml, hown, hts⟩ hkx hw hA (c_X8_wrongIn l D cy ad σ x1 (σ 30 x1.toNatClampNeg) _ h) (cwV 2 hts gX8_findShifts_X8_wrongIn rfl rfl rfl hd_X8_wrongIn ⟨Nat.le_of_ble_eq_true rfl, Nat.le_of_ble_eq_true rfl⟩) 0 8 rfl rfl rfl hl.1 rfl (Nat.le_of_ble_eq_true rfl) dX8_findShifts_175 ⟨Nat.zero_le _, Nat.zero_le _⟩ (fun r_3 σ_4 H locs h hw => ?_)
      refine lv_pop hx hb dX8_findShifts_178 rfl ?_
      refine lv_iload_n hx hb dX8_findShifts_179 rfl (lv_at hl 1 rfl) ?_
      refine lv_istore_n (lv' := [(2, .int x1), (0, .ref (ad 0)), (1, .int x1)]) hx hb dX8_findShifts_180 rfl hl (by decide) rfl (fun ls hl => ?_)
      obtain ⟨n_5, h⟩ := h
      exact w_X8_findShifts_181 C0 ih n_5 _ _ _ h _ _ _ hw (lv_sub hl [1, 2, 0] rfl)
def wp_X8_findShifts_123 (post : Sg → Prop) (k44 : Int32 → Int32 → Sg → Prop) (x1 : Int32) (x2 : Int32) (x3 : Int32) (x4 : Int32) (σ : Sg) : Prop :=
    vp_in x1 61 ∧
    ∀ σ_2 : Sg, σ_2 = va_up σ 28 (upd (σ 28) x1.toNatClampNeg x3) →
    vp_in x1 61 ∧
    ∀ σ_4 : Sg, σ_4 = va_up σ_2 29 (upd (σ_2 29) x1.toNatClampNeg x4) →
    vp_in x1 61 ∧
    ∀ σ_6 : Sg, σ_6 = va_up σ_4 30 (upd (σ_4 30) x1.toNatClampNeg x2) →
    k44 x1 (x2 + (-1 : Int32)) σ_6
set_option maxHeartbeats 4000000 in
set_option maxRecDepth 100000 in
theorem w_X8_findShifts_123 (C0 : Mc p m c meth cX8_findShifts 5 s args wsX8_findShifts RX8 none D cy A) {post : Sg → Prop} {k44 : Int32 → Int32 → Sg → Prop} (hk44 : ∀ (x1 : Int32) (x2 : Int32) (σ : Sg), k44 x1 x2 σ → G_X8_findShifts p l e s m args below meth c D A cy ad post (mdW cy ad σ) 5 [(0, .ref (ad 0)), (1, .int x1), (2, .int x2)] 44 []) : ∀ (x1 : Int32) (x2 : Int32) (x3 : Int32) (x4 : Int32) (σ : Sg), wp_X8_findShifts_123 post k44 x1 x2 x3 x4 σ → G_X8_findShifts p l e s m args below meth c D A cy ad post (mdW cy ad σ) 5 [(0, .ref (ad 0)), (1, .int x1), (2, .int x2), (3, .int x3), (4, .int x4)] 123 [] := by
  obtain ⟨⟨hx, hb, hml, hown, hts⟩, hr, hlocks, hkx, hA⟩ := id C0
  intro x1 x2 x3 x4 σ h H locs ls hw hl
  unfold wp_X8_findShifts_123 at h
  refine lv_aload_n hx hb dX8_findShifts_123 rfl (lv_at hl 0 rfl) ?_
  refine mg_md_spanCost hx hb hts inw_X8_findShifts_X8 hown hkx hw (hts _ (List.mem_of_getElem? (i := 1) rfl)) dX8_findShifts_124 ?_
  refine lv_iload_n hx hb dX8_findShifts_127 rfl (lv_at hl 1 rfl) ?_
  refine lv_iload_n hx hb dX8_findShifts_128 rfl (lv_at hl 3 rfl) ?_
  obtain ⟨b_1, h⟩ := h
  refine ms_m_spanCost hx hb hkx hw b_1 dX8_findShifts_129 (fun σ_2 eσ_2 H locs hw => ?_)
  replace h := h σ_2 eσ_2
  refine lv_aload_n hx hb dX8_findShifts_130 rfl (lv_at hl 0 rfl) ?_
  refine mg_md_spanMany hx hb hts inw_X8_findShifts_X8 hown hkx hw (hts _ (List.mem_of_getElem? (i := 3) rfl)) dX8_findShifts_131 ?_
  refine lv_iload_n hx hb dX8_findShifts_134 rfl (lv_at hl 1 rfl) ?_
  refine lv_iload hx hb dX8_findShifts_135 (lv_at hl 4 rfl) ?_
  obtain ⟨b_3, h⟩ := h
  refine ms_m_spanMany hx hb hkx hw b_3 dX8_findShifts_137 (fun σ_4 eσ_4 H locs hw => ?_)
  replace h := h σ_4 eσ_4
  refine lv_aload_n hx hb dX8_findShifts_138 rfl (lv_at hl 0 rfl) ?_
  refine mg_md_spanEnd hx hb hts inw_X8_findShifts_X8 hown hkx hw (hts _ (List.mem_of_getElem? (i := 6) rfl)) dX8_findShifts_139 ?_
  refine lv_iload_n hx hb dX8_findShifts_142 rfl (lv_at hl 1 rfl) ?_
  refine lv_iload_n hx hb dX8_findShifts_143 rfl (lv_at hl 2 rfl) ?_
  obtain ⟨b_5, h⟩ := h
  refine ms_m_spanEnd hx hb hkx hw b_5 dX8_findShifts_144 (fun σ_6 eσ_6 H locs hw => ?_)
  replace h := h σ_6 eσ_6
  refine lv_iinc (v := x2 + (-1 : Int32)) (lv' := [(2, .int (x2 + (-1 : Int32))), (0, .ref (ad 0)), (1, .int x1), (3, .int x3), (4, .int x4)]) hx hb dX8_findShifts_145 hl (k := 2) rfl rfl (by decide) rfl (fun ls hl => ?_)
  refine lv_goto (tgt := 44) hx hb dX8_findShifts_148 (by decide) ?_
  exact hk44 _ _ _ h _ _ _ hw (lv_sub hl [1, 2, 0] rfl)
def wp_X8_findShifts_44 (post : Sg → Prop) (k27 : Int32 → Sg → Prop) : Nat → Int32 → Int32 → Sg → Prop
  | 0, _, _, _ => False
  | n + 1, x1, x2, σ =>
    (x2 ≤ x1 →
    k27 (x1 + (-1 : Int32)) σ) ∧
    (¬ x2 ≤ x1 →
    wp_X8_wrongIn x1 x2 σ (fun r_4 σ_5 =>
    vp_in x2 61 ∧
    ∀ y_7 : Int32, y_7 = (((σ 17 (8 : Int32).toNatClampNeg) + ((σ 17 (9 : Int32).toNatClampNeg) * r_4)) + (σ_5 28 x2.toNatClampNeg)) →
    vp_in x2 61 ∧
    ∀ y_9 : Int32, y_9 = ((1 : Int32) + (σ_5 29 x2.toNatClampNeg)) →
    vp_in x1 61 ∧
    ((σ_5 28 x1.toNatClampNeg) < y_7 →
    wp_X8_findShifts_44 post k27 n x1 (x2 + (-1 : Int32)) σ_5) ∧
    (¬ (σ_5 28 x1.toNatClampNeg) < y_7 →
    vp_in x1 61 ∧
    (¬ y_7 = (σ_5 28 x1.toNatClampNeg) →
    wp_X8_findShifts_123 post (fun zx1 zx2 zσ => wp_X8_findShifts_44 post k27 n zx1 zx2 zσ) x1 x2 y_7 y_9 σ_5) ∧
    (y_7 = (σ_5 28 x1.toNatClampNeg) →
    vp_in x1 61 ∧
    (y_9 < (σ_5 29 x1.toNatClampNeg) →
    wp_X8_findShifts_123 post (fun zx1 zx2 zσ => wp_X8_findShifts_44 post k27 n zx1 zx2 zσ) x1 x2 y_7 y_9 σ_5) ∧
    (¬ y_9 < (σ_5 29 x1.toNatClampNeg) →
    wp_X8_findShifts_44 post k27 n x1 (x2 + (-1 : Int32)) σ_5)))))
set_option maxHeartbeats 4000000 in
set_option maxRecDepth 100000 in
theorem w_X8_findShifts_44 (C0 : Mc p m c meth cX8_findShifts 5 s args wsX8_findShifts RX8 none D cy A) {post : Sg → Prop} {k27 : Int32 → Sg → Prop} (hk27 : ∀ (x1 : Int32) (σ : Sg), k27 x1 σ → G_X8_findShifts p l e s m args below meth c D A cy ad post (mdW cy ad σ) 5 [(0, .ref (ad 0)), (1, .int x1)] 27 []) : ∀ (n : Nat) (x1 : Int32) (x2 : Int32) (σ : Sg), wp_X8_findShifts_44 post k27 n x1 x2 σ → G_X8_findShifts p l e s m args below meth c D A cy ad post (mdW cy ad σ) 5 [(0, .ref (ad 0)), (1, .int x1), (2, .int x2)] 44 [] := by
  obtain ⟨⟨hx, hb, hml, hown, hts⟩, hr, hlocks, hkx, hA⟩ := id C0
  intro n
  induction n with
  | zero => intro x1 x2 σ h; exact False.elim h
  | succ n ih =>
    intro x1 x2 σ h H locs ls hw hl
    unfold wp_X8_findShifts_44 at h
    refine lv_iload_n hx hb dX8_findShifts_44 rfl (lv_at hl 2 rfl) ?_
    refine lv_iload_n hx hb dX8_findShifts_45 rfl (lv_at hl 1 rfl) ?_
    refine lv_icmp_le (tgt := 151) hx hb dX8_findShifts_46 (by decide) (fun c_1 => ?_) (fun c_1 => ?_)
    · replace h := h.1 c_1
      refine lv_iinc (v := x1 + (-1 : Int32)) (lv' := [(1, .int (x1 + (-1 : Int32))), (0, .ref (ad 0)), (2, .int x2)]) hx hb dX8_findShifts_151 hl (k := 1) rfl rfl (by decide) rfl (fun ls hl => ?_)
      refine lv_goto (tgt := 27) hx hb dX8_findShifts_154 (by decide) ?_
      exact hk27 _ _ h _ _ _ hw (lv_sub hl [1, 0] rfl)
    · replace h := h.2 c_1
      refine lv_aload_n hx hb dX8_findShifts_49 rfl (lv_at hl 0 rfl) ?_
      refine mg_md_prices hx hb hts inw_X8_findShifts_X8 hown hkx hw (hts _ (List.mem_of_getElem? (i := 5) rfl)) dX8_findShifts_50 ?_
      refine lv_bipush (v := 8) hx hb dX8_findShifts_53 (by decide) ?_
      refine ma_m_prices hx hb hkx hw (by unfold vp_in; decide) dX8_findShifts_55 ?_
      refine lv_aload_n hx hb dX8_findShifts_56 rfl (lv_at hl 0 rfl) ?_
      refine mg_md_prices hx hb hts inw_X8_findShifts_X8 hown hkx hw (hts _ (List.mem_of_getElem? (i := 5) rfl)) dX8_findShifts_57 ?_
      refine lv_bipush (v := 9) hx hb dX8_findShifts_60 (by decide) ?_
      refine ma_m_prices hx hb hkx hw (by unfold vp_in; decide) dX8_findShifts_62 ?_
      refine lv_aload_n hx hb dX8_findShifts_63 rfl (lv_at hl 0 rfl) ?_
      refine lv_iload_n hx hb dX8_findShifts_64 rfl (lv_at hl 1 rfl) ?_
      refine lv_iload_n hx hb dX8_findShifts_65 rfl (lv_at hl 2 rfl) ?_
      refine md_Vi (As := [.int x1, .int x2]) ⟨hx, hb, hml, hown, hts⟩ hkx hw hA (c_X8_wrongIn l D cy ad σ x1 x2 _ h) (cwV 2 hts gX8_findShifts_X8_wrongIn rfl rfl rfl hd_X8_wrongIn ⟨Nat.le_of_ble_eq_true rfl, Nat.le_of_ble_eq_true rfl⟩) 0 8 rfl rfl rfl hl.1 rfl (Nat.le_of_ble_eq_true rfl) dX8_findShifts_66 ⟨Nat.zero_le _, Nat.zero_le _⟩ (fun r_4 σ_5 H locs h hw => ?_)
      refine lv_imul hx hb dX8_findShifts_69 ?_
      refine lv_iadd hx hb dX8_findShifts_70 ?_
      refine lv_aload_n hx hb dX8_findShifts_71 rfl (lv_at hl 0 rfl) ?_
      refine mg_md_spanCost hx hb hts inw_X8_findShifts_X8 hown hkx hw (hts _ (List.mem_of_getElem? (i := 1) rfl)) dX8_findShifts_72 ?_
      refine lv_iload_n hx hb dX8_findShifts_75 rfl (lv_at hl 2 rfl) ?_
      obtain ⟨b_6, h⟩ := h
      refine ma_m_spanCost hx hb hkx hw b_6 dX8_findShifts_76 ?_
      refine lv_iadd hx hb dX8_findShifts_77 ?_
      refine lv_topi (fun y_7 ey_7 => ?_)
      replace h := h y_7 ey_7
      refine lv_istore_n (lv' := [(3, .int y_7), (0, .ref (ad 0)), (1, .int x1), (2, .int x2)]) hx hb dX8_findShifts_78 rfl hl (by decide) rfl (fun ls hl => ?_)
      refine lv_iconst (v := 1) hx hb dX8_findShifts_79 (by decide) ?_
      refine lv_aload_n hx hb dX8_findShifts_80 rfl (lv_at hl 1 rfl) ?_
      refine mg_md_spanMany hx hb hts inw_X8_findShifts_X8 hown hkx hw (hts _ (List.mem_of_getElem? (i := 3) rfl)) dX8_findShifts_81 ?_
      refine lv_iload_n hx hb dX8_findShifts_84 rfl (lv_at hl 3 rfl) ?_
      obtain ⟨b_8, h⟩ := h
      refine ma_m_spanMany hx hb hkx hw b_8 dX8_findShifts_85 ?_
      refine lv_iadd hx hb dX8_findShifts_86 ?_
      refine lv_topi (fun y_9 ey_9 => ?_)
      replace h := h y_9 ey_9
      refine lv_istore (lv' := [(4, .int y_9), (3, .int y_7), (0, .ref (ad 0)), (1, .int x1), (2, .int x2)]) hx hb dX8_findShifts_87 hl (by decide) rfl (fun ls hl => ?_)
      refine lv_iload_n hx hb dX8_findShifts_89 rfl (lv_at hl 1 rfl) ?_
      refine lv_aload_n hx hb dX8_findShifts_90 rfl (lv_at hl 2 rfl) ?_
      refine mg_md_spanCost hx hb hts inw_X8_findShifts_X8 hown hkx hw (hts _ (List.mem_of_getElem? (i := 1) rfl)) dX8_findShifts_91 ?_
      refine lv_iload_n hx hb dX8_findShifts_94 rfl (lv_at hl 3 rfl) ?_
      obtain ⟨b_10, h⟩ := h
      refine ma_m_spanCost hx hb hkx hw b_10 dX8_findShifts_95 ?_
      refine lv_icmp_gt (tgt := 145) hx hb dX8_findShifts_96 (by decide) (fun c_11 => ?_) (fun c_11 => ?_)
      · replace h := h.1 c_11
        refine lv_iinc (v := x2 + (-1 : Int32)) (lv' := [(2, .int (x2 + (-1 : Int32))), (4, .int y_9), (3, .int y_7), (0, .ref (ad 0)), (1, .int x1)]) hx hb dX8_findShifts_145 hl (k := 4) rfl rfl (by decide) rfl (fun ls hl => ?_)
        refine lv_goto (tgt := 44) hx hb dX8_findShifts_148 (by decide) ?_
        exact ih _ _ _ h _ _ _ hw (lv_sub hl [3, 4, 0] rfl)
      · replace h := h.2 c_11
        refine lv_iload_n hx hb dX8_findShifts_99 rfl (lv_at hl 1 rfl) ?_
        refine lv_aload_n hx hb dX8_findShifts_100 rfl (lv_at hl 2 rfl) ?_
        refine mg_md_spanCost hx hb hts inw_X8_findShifts_X8 hown hkx hw (hts _ (List.mem_of_getElem? (i := 1) rfl)) dX8_findShifts_101 ?_
        refine lv_iload_n hx hb dX8_findShifts_104 rfl (lv_at hl 3 rfl) ?_
        obtain ⟨b_12, h⟩ := h
        refine ma_m_spanCost hx hb hkx hw b_12 dX8_findShifts_105 ?_
        refine lv_icmp_ne (tgt := 123) hx hb dX8_findShifts_106 (by decide) (fun c_13 => ?_) (fun c_13 => ?_)
        · replace h := h.1 c_13
          exact w_X8_findShifts_123 C0 ih _ _ _ _ _ h _ _ _ hw (lv_sub hl [2, 3, 4, 1, 0] rfl)
        · replace h := h.2 c_13
          refine lv_iload hx hb dX8_findShifts_109 (lv_at hl 0 rfl) ?_
          refine lv_aload_n hx hb dX8_findShifts_111 rfl (lv_at hl 2 rfl) ?_
          refine mg_md_spanMany hx hb hts inw_X8_findShifts_X8 hown hkx hw (hts _ (List.mem_of_getElem? (i := 3) rfl)) dX8_findShifts_112 ?_
          refine lv_iload_n hx hb dX8_findShifts_115 rfl (lv_at hl 3 rfl) ?_
          obtain ⟨b_14, h⟩ := h
          refine ma_m_spanMany hx hb hkx hw b_14 dX8_findShifts_116 ?_
          refine lv_icmp_lt (tgt := 123) hx hb dX8_findShifts_117 (by decide) (fun c_15 => ?_) (fun c_15 => ?_)
          · replace h := h.1 c_15
            exact w_X8_findShifts_123 C0 ih _ _ _ _ _ h _ _ _ hw (lv_sub hl [2, 3, 4, 1, 0] rfl)
          · replace h := h.2 c_15
            refine lv_goto (tgt := 145) hx hb dX8_findShifts_120 (by decide) ?_
            refine lv_iinc (v := x2 + (-1 : Int32)) (lv' := [(2, .int (x2 + (-1 : Int32))), (4, .int y_9), (3, .int y_7), (0, .ref (ad 0)), (1, .int x1)]) hx hb dX8_findShifts_145 hl (k := 4) rfl rfl (by decide) rfl (fun ls hl => ?_)
            refine lv_goto (tgt := 44) hx hb dX8_findShifts_148 (by decide) ?_
            exact ih _ _ _ h _ _ _ hw (lv_sub hl [3, 4, 0] rfl)
def wp_X8_findShifts_27 (post : Sg → Prop) : Nat → Int32 → Sg → Prop
  | 0, _, _ => False
  | n + 1, x1, σ =>
    (x1 < 0 →
    ∃ fu, wp_X8_findShifts_159 post fu (0 : Int32) σ) ∧
    (¬ x1 < 0 →
    vp_in x1 61 ∧
    ∀ σ_4 : Sg, σ_4 = va_up σ 28 (upd (σ 28) x1.toNatClampNeg (1000000 : Int32)) →
    ∀ y_5 : Int32, y_5 = (σ_4 0 0) →
    ∃ fu, wp_X8_findShifts_44 post (fun zx1 zσ => wp_X8_findShifts_27 post n zx1 zσ) fu x1 y_5 σ_4)
set_option maxHeartbeats 4000000 in
set_option maxRecDepth 100000 in
theorem w_X8_findShifts_27 (C0 : Mc p m c meth cX8_findShifts 5 s args wsX8_findShifts RX8 none D cy A) {post : Sg → Prop} : ∀ (n : Nat) (x1 : Int32) (σ : Sg), wp_X8_findShifts_27 post n x1 σ → G_X8_findShifts p l e s m args below meth c D A cy ad post (mdW cy ad σ) 5 [(0, .ref (ad 0)), (1, .int x1)] 27 [] := by
  obtain ⟨⟨hx, hb, hml, hown, hts⟩, hr, hlocks, hkx, hA⟩ := id C0
  intro n
  induction n with
  | zero => intro x1 σ h; exact False.elim h
  | succ n ih =>
    intro x1 σ h H locs ls hw hl
    unfold wp_X8_findShifts_27 at h
    refine lv_iload_n hx hb dX8_findShifts_27 rfl (lv_at hl 1 rfl) ?_
    refine lv_if_lt (tgt := 157) hx hb dX8_findShifts_28 (by decide) (fun c_1 => ?_) (fun c_1 => ?_)
    · replace h := h.1 c_1
      refine lv_iconst (v := 0) hx hb dX8_findShifts_157 (by decide) ?_
      refine lv_istore_n (lv' := [(1, .int (0 : Int32)), (0, .ref (ad 0))]) hx hb dX8_findShifts_158 rfl hl (by decide) rfl (fun ls hl => ?_)
      obtain ⟨n_2, h⟩ := h
      exact w_X8_findShifts_159 C0 n_2 _ _ h _ _ _ hw (lv_sub hl [1, 0] rfl)
    · replace h := h.2 c_1
      refine lv_aload_n hx hb dX8_findShifts_31 rfl (lv_at hl 0 rfl) ?_
      refine mg_md_spanCost hx hb hts inw_X8_findShifts_X8 hown hkx hw (hts _ (List.mem_of_getElem? (i := 1) rfl)) dX8_findShifts_32 ?_
      refine lv_iload_n hx hb dX8_findShifts_35 rfl (lv_at hl 1 rfl) ?_
      refine lv_ldc hx hb hown (hts _ (List.mem_of_getElem? (i := 4) rfl)) dX8_findShifts_36 ?_
      obtain ⟨b_3, h⟩ := h
      refine ms_m_spanCost hx hb hkx hw b_3 dX8_findShifts_38 (fun σ_4 eσ_4 H locs hw => ?_)
      replace h := h σ_4 eσ_4
      refine lv_aload_n hx hb dX8_findShifts_39 rfl (lv_at hl 0 rfl) ?_
      refine mg_md_pages hx hb hts inw_X8_findShifts_X8 hown hkx hw (hts _ (List.mem_of_getElem? (i := 2) rfl)) dX8_findShifts_40 ?_
      refine lv_topi (fun y_5 ey_5 => ?_)
      replace h := h y_5 ey_5
      refine lv_istore_n (lv' := [(2, .int y_5), (0, .ref (ad 0)), (1, .int x1)]) hx hb dX8_findShifts_43 rfl hl (by decide) rfl (fun ls hl => ?_)
      obtain ⟨n_6, h⟩ := h
      exact w_X8_findShifts_44 C0 ih n_6 _ _ _ h _ _ _ hw (lv_sub hl [1, 2, 0] rfl)
def wp_X8_findShifts (σ : Sg) (post : Sg → Prop) : Prop :=
    vp_in (σ 0 0) 61 ∧
    ∀ σ_2 : Sg, σ_2 = va_up σ 28 (upd (σ 28) (σ 0 0).toNatClampNeg (0 : Int32)) →
    vp_in (σ_2 0 0) 61 ∧
    ∀ σ_4 : Sg, σ_4 = va_up σ_2 29 (upd (σ_2 29) (σ_2 0 0).toNatClampNeg (0 : Int32)) →
    ∀ y_5 : Int32, y_5 = ((σ_4 0 0) - (1 : Int32)) →
    ∃ fu, wp_X8_findShifts_27 post fu y_5 σ_4
set_option maxHeartbeats 4000000 in
set_option maxRecDepth 100000 in
theorem c_X8_findShifts (l : Launch) (D : va_G) (cy : Nat → ClassId) (ad : Nat → Nat) (σ : Sg) (post : Sg → Prop) (h : wp_X8_findShifts σ post) : Ct l yX8_findShifts wsX8_findShifts rm_X8_findShifts D cy [.ref (ad 0)] (mdW cy ad σ) 0 0 (Rv D (mdU cy ad) (fun u => post u)) := by
  refine Ct.of (cc := cX8_findShifts) (maxL := 5) (rt := none) (by decide) rfl (Nat.le_of_ble_eq_true rfl) ?_
  intro p e s m below meth c A C0 _ H locs ls hw hl
  obtain ⟨⟨hx, hb, hml, hown, hts⟩, hr, hlocks, hkx, hA⟩ := id C0
  have hl : lv_has ls 5 [(0, .ref (ad 0))] := hl
  unfold wp_X8_findShifts at h
  refine lv_aload_n hx hb dX8_findShifts_0 rfl (lv_at hl 0 rfl) ?_
  refine mg_md_spanCost hx hb hts inw_X8_findShifts_X8 hown hkx hw (hts _ (List.mem_of_getElem? (i := 1) rfl)) dX8_findShifts_1 ?_
  refine lv_aload_n hx hb dX8_findShifts_4 rfl (lv_at hl 0 rfl) ?_
  refine mg_md_pages hx hb hts inw_X8_findShifts_X8 hown hkx hw (hts _ (List.mem_of_getElem? (i := 2) rfl)) dX8_findShifts_5 ?_
  refine lv_iconst (v := 0) hx hb dX8_findShifts_8 (by decide) ?_
  obtain ⟨b_1, h⟩ := h
  refine ms_m_spanCost hx hb hkx hw b_1 dX8_findShifts_9 (fun σ_2 eσ_2 H locs hw => ?_)
  replace h := h σ_2 eσ_2
  refine lv_aload_n hx hb dX8_findShifts_10 rfl (lv_at hl 0 rfl) ?_
  refine mg_md_spanMany hx hb hts inw_X8_findShifts_X8 hown hkx hw (hts _ (List.mem_of_getElem? (i := 3) rfl)) dX8_findShifts_11 ?_
  refine lv_aload_n hx hb dX8_findShifts_14 rfl (lv_at hl 0 rfl) ?_
  refine mg_md_pages hx hb hts inw_X8_findShifts_X8 hown hkx hw (hts _ (List.mem_of_getElem? (i := 2) rfl)) dX8_findShifts_15 ?_
  refine lv_iconst (v := 0) hx hb dX8_findShifts_18 (by decide) ?_
  obtain ⟨b_3, h⟩ := h
  refine ms_m_spanMany hx hb hkx hw b_3 dX8_findShifts_19 (fun σ_4 eσ_4 H locs hw => ?_)
  replace h := h σ_4 eσ_4
  refine lv_aload_n hx hb dX8_findShifts_20 rfl (lv_at hl 0 rfl) ?_
  refine mg_md_pages hx hb hts inw_X8_findShifts_X8 hown hkx hw (hts _ (List.mem_of_getElem? (i := 2) rfl)) dX8_findShifts_21 ?_
  refine lv_iconst (v := 1) hx hb dX8_findShifts_24 (by decide) ?_
  refine lv_isub hx hb dX8_findShifts_25 ?_
  refine lv_topi (fun y_5 ey_5 => ?_)
  replace h := h y_5 ey_5
  refine lv_istore_n (lv' := [(1, .int y_5), (0, .ref (ad 0))]) hx hb dX8_findShifts_26 rfl hl (by decide) rfl (fun ls hl => ?_)
  obtain ⟨n_6, h⟩ := h
  exact w_X8_findShifts_27 C0 n_6 _ _ h _ _ _ hw (lv_sub hl [1, 0] rfl)
end
theorem hd_X8_find : yX8_find.cls = RX8 ∧ yX8_find.cls ≠ "java/lang/invoke/MethodHandle" ∧ yX8_find.cls ≠ "java/lang/invoke/VarHandle" ∧ (parseMethodDescriptor yX8_find.desc).map (fun d => d.parameters.length) = some 0 := by decide +kernel
section
variable {p : Program} {l : Launch} {e : Env} {s : State} {m : MethodId} {args : Array Value} {below : List Frame} {meth : Method} {c : Code} {D : va_G} {cy : Nat → ClassId} {A : Nat → Prop} {ad : Nat → Nat}
abbrev rm_X8_find : Room := { frames := 60, cells := 0, slots := 0, locals := 1834 }
theorem inw_X8_find_X8 : ∀ w ∈ u_ws RX8 TX8 35, w ∈ wsX8_find := fun _ h => List.mem_cons_of_mem _ (List.mem_append_right _ h)
def wp_X8_find (σ : Sg) (post : Sg → Prop) : Prop :=
    ((σ 4 0) = 0 →
    ∀ σ_2 : Sg, σ_2 = va_up σ 4 (fun _ => (1 : Int32)) →
    wp_X8_findTree σ_2 (fun σ_3 =>
    wp_X8_hold σ_3 (fun σ_4 =>
    wp_X8_findShifts σ_4 (fun σ_5 =>
    post σ_5)))) ∧
    (¬ (σ 4 0) = 0 →
    post σ)
set_option maxHeartbeats 4000000 in
set_option maxRecDepth 100000 in
theorem c_X8_find (l : Launch) (D : va_G) (cy : Nat → ClassId) (ad : Nat → Nat) (σ : Sg) (post : Sg → Prop) (h : wp_X8_find σ post) : Ct l yX8_find wsX8_find rm_X8_find D cy [.ref (ad 0)] (mdW cy ad σ) 0 0 (Rv D (mdU cy ad) (fun u => post u)) := by
  refine Ct.of (cc := cX8_find) (maxL := 1) (rt := none) (by decide) rfl (Nat.le_of_ble_eq_true rfl) ?_
  intro p e s m below meth c A C0 _ H locs ls hw hl
  obtain ⟨⟨hx, hb, hml, hown, hts⟩, hr, hlocks, hkx, hA⟩ := id C0
  have hl : lv_has ls 1 [(0, .ref (ad 0))] := hl
  unfold wp_X8_find at h
  refine lv_aload_n hx hb dX8_find_0 rfl (lv_at hl 0 rfl) ?_
  refine mg_md_isFound hx hb hts inw_X8_find_X8 hown hkx hw (hts _ (List.mem_of_getElem? (i := 1) rfl)) dX8_find_1 ?_
  refine lv_if_eq (tgt := 8) hx hb dX8_find_4 (by decide) (fun c_1 => ?_) (fun c_1 => ?_)
  · replace h := h.1 c_1
    refine lv_aload_n hx hb dX8_find_8 rfl (lv_at hl 0 rfl) ?_
    refine lv_iconst (v := 1) hx hb dX8_find_9 (by decide) ?_
    refine mp_md_isFound hx hb hts inw_X8_find_X8 hown hkx hw (hts _ (List.mem_of_getElem? (i := 1) rfl)) (Or.inr rfl) dX8_find_10 (fun σ_2 eσ_2 H locs hw => ?_)
    replace h := h σ_2 eσ_2
    refine lv_aload_n hx hb dX8_find_13 rfl (lv_at hl 0 rfl) ?_
    refine md_Vv (As := []) ⟨hx, hb, hml, hown, hts⟩ hkx hw hA (c_X8_findTree l D cy ad σ_2 _ h) (cwV 0 hts gX8_find_X8_findTree rfl rfl rfl hd_X8_findTree ⟨Nat.le_of_ble_eq_true rfl, Nat.le_of_ble_eq_true rfl⟩) 0 8 rfl rfl rfl hl.1 rfl (Nat.le_of_ble_eq_true rfl) dX8_find_14 ⟨Nat.zero_le _, Nat.zero_le _⟩ (fun σ_3 H locs h hw => ?_)
    refine lv_aload_n hx hb dX8_find_17 rfl (lv_at hl 0 rfl) ?_
    refine md_Vv (As := []) ⟨hx, hb, hml, hown, hts⟩ hkx hw hA (c_X8_hold l D cy ad σ_3 _ h) (cwV 0 hts gX8_find_X8_hold rfl rfl rfl hd_X8_hold ⟨Nat.le_of_ble_eq_true rfl, Nat.le_of_ble_eq_true rfl⟩) 0 8 rfl rfl rfl hl.1 rfl (Nat.le_of_ble_eq_true rfl) dX8_find_18 ⟨Nat.zero_le _, Nat.zero_le _⟩ (fun σ_4 H locs h hw => ?_)
    refine lv_aload_n hx hb dX8_find_21 rfl (lv_at hl 0 rfl) ?_
    refine md_Vv (As := []) ⟨hx, hb, hml, hown, hts⟩ hkx hw hA (c_X8_findShifts l D cy ad σ_4 _ h) (cwV 0 hts gX8_find_X8_findShifts rfl rfl rfl hd_X8_findShifts ⟨Nat.le_of_ble_eq_true rfl, Nat.le_of_ble_eq_true rfl⟩) 0 8 rfl rfl rfl hl.1 rfl (Nat.le_of_ble_eq_true rfl) dX8_find_22 ⟨Nat.zero_le _, Nat.zero_le _⟩ (fun σ_5 H locs h hw => ?_)
    exact end_v (w1 := (mdU cy ad)) (u := σ_5) C0 hw h dX8_find_25
  · replace h := h.2 c_1
    exact end_v (w1 := (mdU cy ad)) (u := σ) C0 hw h dX8_find_7
end
