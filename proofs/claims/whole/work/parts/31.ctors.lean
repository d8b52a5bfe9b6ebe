theorem hd_X4_init : yX4_init.cls ≠ "java/lang/invoke/MethodHandle" ∧ yX4_init.cls ≠ "java/lang/invoke/VarHandle" ∧ (parseMethodDescriptor yX4_init.desc).map (fun d => d.parameters.length) = some 0 := by decide +kernel
abbrev rm_X4_init : Room := { frames := 1, cells := 2, slots := 14, locals := 30 }
theorem inw_X4_init_X4 : ∀ w ∈ u_ws RX4 TX4 3, w ∈ wsX4_init := fun _ h => List.mem_cons_of_mem _ (List.mem_append_right _ h)
abbrev wi_X4_init (cy : Nat → ClassId) (h0 : Nat) : (Nat → Nat) → va_W := fun u => [(h0, .inr (4, [.ref (u 0), .ref (u 1), .int (3 : Int32)])), ((u 0), .inl ((cy 0), 10, .inl (upd (upd (upd (upd (upd (upd (upd (upd (upd (upd (fun _ => 0) 0 (1 : Int32)) 1 (2 : Int32)) 2 (5 : Int32)) 3 (1 : Int32)) 4 (2 : Int32)) 5 (4 : Int32)) 6 (3 : Int32)) 7 (12 : Int32)) 8 (6 : Int32)) 9 (4 : Int32)))), ((u 1), .inl ((cy 0), 4, .inl (upd (upd (upd (upd (fun _ => 0) 0 (0 : Int32)) 1 (18 : Int32)) 2 (13 : Int32)) 3 (8 : Int32))))]
set_option maxHeartbeats 8000000 in
set_option maxRecDepth 100000 in
theorem c_X4_init (l : Launch) (D : va_G) (cy : Nat → ClassId) (h0 : Nat) : Ct l yX4_init wsX4_init rm_X4_init D cy [.ref h0] [(h0, .inr (4, [.null, .null, .int 0]))] 2 14 (Rv D (wi_X4_init cy h0) (fun _ => True)) := by
  refine Ct.ofI (cc := cX4_init) (maxL := 1) (rt := none) (by decide) rfl (Nat.le_of_ble_eq_true rfl) rfl ?_
  intro p e s m below meth c A C0 hin H locs ls hw hl
  obtain ⟨⟨hx, hb, hml, hown, hts⟩, hr, hlocks, hkx, hA⟩ := id C0
  have hl : lv_has ls 1 [(0, .ref h0)] := hl
  refine lv_aload_n hx hb dX4_init_0 rfl (lv_at hl 0 rfl) ?_
  refine W.objInit hx hb hown (hts _ (List.mem_of_getElem? (i := 1) rfl)) (hts _ (List.mem_of_getElem? (i := 2) rfl)) (hts _ (List.mem_of_getElem? (i := 3) rfl)) rfl (by rw [hml]; exact hl.1) rfl dX4_init_1 (Nat.le_of_ble_eq_true rfl) (Nat.le_of_ble_eq_true rfl) ?_
  refine W.eq (g2 := F0 m 4 ls []) rfl ?_
  refine lv_aload_n hx hb dX4_init_4 rfl (lv_at hl 0 rfl) ?_
  refine lv_bipush (v := 10) hx hb dX4_init_5 (by decide) ?_
  refine row_newI (N' := 10) hx hb (hts _ (List.mem_of_getElem? (i := 4) rfl)) hkx hw hA (by decide) (by decide) (by decide) (Nat.le_of_ble_eq_true rfl) (Nat.le_of_ble_eq_true rfl) dX4_init_7 (fun q7 H hw => ?_)
  have hw : Hw D A [(h0, .inr (4, [.null, .null, .int 0])), (q7, .inl ((cy 0), 10, .inl (fun _ => 0)))] s H locs := hw
  refine lv_dup hx hb dX4_init_9 rfl ?_
  refine lv_iconst (v := 0) hx hb dX4_init_10 (by decide) ?_
  refine lv_iconst (v := 1) hx hb dX4_init_11 (by decide) ?_
  refine va_iast hx hb hkx.1 hw.1 hw.2.1 hw.2.2 1 0 rfl rfl (by unfold vp_in; decide) dX4_init_12 (fun H locs hP hD hS => ?_)
  have hw : Hw D A [(h0, .inr (4, [.null, .null, .int 0])), (q7, .inl ((cy 0), 10, .inl (upd (fun _ => 0) 0 (1 : Int32))))] s H locs := ⟨hP, hD, hS⟩
  clear hP hD hS
  refine lv_dup hx hb dX4_init_13 rfl ?_
  refine lv_iconst (v := 1) hx hb dX4_init_14 (by decide) ?_
  refine lv_iconst (v := 2) hx hb dX4_init_15 (by decide) ?_
  refine va_iast hx hb hkx.1 hw.1 hw.2.1 hw.2.2 1 0 rfl rfl (by unfold vp_in; decide) dX4_init_16 (fun H locs hP hD hS => ?_)
  have hw : Hw D A [(h0, .inr (4, [.null, .null, .int 0])), (q7, .inl ((cy 0), 10, .inl (upd (upd (fun _ => 0) 0 (1 : Int32)) 1 (2 : Int32))))] s H locs := ⟨hP, hD, hS⟩
  clear hP hD hS
  refine lv_dup hx hb dX4_init_17 rfl ?_
  refine lv_iconst (v := 2) hx hb dX4_init_18 (by decide) ?_
  refine lv_iconst (v := 5) hx hb dX4_init_19 (by decide) ?_
  refine va_iast hx hb hkx.1 hw.1 hw.2.1 hw.2.2 1 0 rfl rfl (by unfold vp_in; decide) dX4_init_20 (fun H locs hP hD hS => ?_)
  have hw : Hw D A [(h0, .inr (4, [.null, .null, .int 0])), (q7, .inl ((cy 0), 10, .inl (upd (upd (upd (fun _ => 0) 0 (1 : Int32)) 1 (2 : Int32)) 2 (5 : Int32))))] s H locs := ⟨hP, hD, hS⟩
  clear hP hD hS
  refine lv_dup hx hb dX4_init_21 rfl ?_
  refine lv_iconst (v := 3) hx hb dX4_init_22 (by decide) ?_
  refine lv_iconst (v := 1) hx hb dX4_init_23 (by decide) ?_
  refine va_iast hx hb hkx.1 hw.1 hw.2.1 hw.2.2 1 0 rfl rfl (by unfold vp_in; decide) dX4_init_24 (fun H locs hP hD hS => ?_)
  have hw : Hw D A [(h0, .inr (4, [.null, .null, .int 0])), (q7, .inl ((cy 0), 10, .inl (upd (upd (upd (upd (fun _ => 0) 0 (1 : Int32)) 1 (2 : Int32)) 2 (5 : Int32)) 3 (1 : Int32))))] s H locs := ⟨hP, hD, hS⟩
  clear hP hD hS
  refine lv_dup hx hb dX4_init_25 rfl ?_
  refine lv_iconst (v := 4) hx hb dX4_init_26 (by decide) ?_
  refine lv_iconst (v := 2) hx hb dX4_init_27 (by decide) ?_
  refine va_iast hx hb hkx.1 hw.1 hw.2.1 hw.2.2 1 0 rfl rfl (by unfold vp_in; decide) dX4_init_28 (fun H locs hP hD hS => ?_)
  have hw : Hw D A [(h0, .inr (4, [.null, .null, .int 0])), (q7, .inl ((cy 0), 10, .inl (upd (upd (upd (upd (upd (fun _ => 0) 0 (1 : Int32)) 1 (2 : Int32)) 2 (5 : Int32)) 3 (1 : Int32)) 4 (2 : Int32))))] s H locs := ⟨hP, hD, hS⟩
  clear hP hD hS
  refine lv_dup hx hb dX4_init_29 rfl ?_
  refine lv_iconst (v := 5) hx hb dX4_init_30 (by decide) ?_
  refine lv_iconst (v := 4) hx hb dX4_init_31 (by decide) ?_
  refine va_iast hx hb hkx.1 hw.1 hw.2.1 hw.2.2 1 0 rfl rfl (by unfold vp_in; decide) dX4_init_32 (fun H locs hP hD hS => ?_)
  have hw : Hw D A [(h0, .inr (4, [.null, .null, .int 0])), (q7, .inl ((cy 0), 10, .inl (upd (upd (upd (upd (upd (upd (fun _ => 0) 0 (1 : Int32)) 1 (2 : Int32)) 2 (5 : Int32)) 3 (1 : Int32)) 4 (2 : Int32)) 5 (4 : Int32))))] s H locs := ⟨hP, hD, hS⟩
  clear hP hD hS
  refine lv_dup hx hb dX4_init_33 rfl ?_
  refine lv_bipush (v := 6) hx hb dX4_init_34 (by decide) ?_
  refine lv_iconst (v := 3) hx hb dX4_init_36 (by decide) ?_
  refine va_iast hx hb hkx.1 hw.1 hw.2.1 hw.2.2 1 0 rfl rfl (by unfold vp_in; decide) dX4_init_37 (fun H locs hP hD hS => ?_)
  have hw : Hw D A [(h0, .inr (4, [.null, .null, .int 0])), (q7, .inl ((cy 0), 10, .inl (upd (upd (upd (upd (upd (upd (upd (fun _ => 0) 0 (1 : Int32)) 1 (2 : Int32)) 2 (5 : Int32)) 3 (1 : Int32)) 4 (2 : Int32)) 5 (4 : Int32)) 6 (3 : Int32))))] s H locs := ⟨hP, hD, hS⟩
  clear hP hD hS
  refine lv_dup hx hb dX4_init_38 rfl ?_
  refine lv_bipush (v := 7) hx hb dX4_init_39 (by decide) ?_
  refine lv_bipush (v := 12) hx hb dX4_init_41 (by decide) ?_
  refine va_iast hx hb hkx.1 hw.1 hw.2.1 hw.2.2 1 0 rfl rfl (by unfold vp_in; decide) dX4_init_43 (fun H locs hP hD hS => ?_)
  have hw : Hw D A [(h0, .inr (4, [.null, .null, .int 0])), (q7, .inl ((cy 0), 10, .inl (upd (upd (upd (upd (upd (upd (upd (upd (fun _ => 0) 0 (1 : Int32)) 1 (2 : Int32)) 2 (5 : Int32)) 3 (1 : Int32)) 4 (2 : Int32)) 5 (4 : Int32)) 6 (3 : Int32)) 7 (12 : Int32))))] s H locs := ⟨hP, hD, hS⟩
  clear hP hD hS
  refine lv_dup hx hb dX4_init_44 rfl ?_
  refine lv_bipush (v := 8) hx hb dX4_init_45 (by decide) ?_
  refine lv_bipush (v := 6) hx hb dX4_init_47 (by decide) ?_
  refine va_iast hx hb hkx.1 hw.1 hw.2.1 hw.2.2 1 0 rfl rfl (by unfold vp_in; decide) dX4_init_49 (fun H locs hP hD hS => ?_)
  have hw : Hw D A [(h0, .inr (4, [.null, .null, .int 0])), (q7, .inl ((cy 0), 10, .inl (upd (upd (upd (upd (upd (upd (upd (upd (upd (fun _ => 0) 0 (1 : Int32)) 1 (2 : Int32)) 2 (5 : Int32)) 3 (1 : Int32)) 4 (2 : Int32)) 5 (4 : Int32)) 6 (3 : Int32)) 7 (12 : Int32)) 8 (6 : Int32))))] s H locs := ⟨hP, hD, hS⟩
  clear hP hD hS
  refine lv_dup hx hb dX4_init_50 rfl ?_
  refine lv_bipush (v := 9) hx hb dX4_init_51 (by decide) ?_
  refine lv_iconst (v := 4) hx hb dX4_init_53 (by decide) ?_
  refine va_iast hx hb hkx.1 hw.1 hw.2.1 hw.2.2 1 0 rfl rfl (by unfold vp_in; decide) dX4_init_54 (fun H locs hP hD hS => ?_)
  have hw : Hw D A [(h0, .inr (4, [.null, .null, .int 0])), (q7, .inl ((cy 0), 10, .inl (upd (upd (upd (upd (upd (upd (upd (upd (upd (upd (fun _ => 0) 0 (1 : Int32)) 1 (2 : Int32)) 2 (5 : Int32)) 3 (1 : Int32)) 4 (2 : Int32)) 5 (4 : Int32)) 6 (3 : Int32)) 7 (12 : Int32)) 8 (6 : Int32)) 9 (4 : Int32))))] s H locs := ⟨hP, hD, hS⟩
  clear hP hD hS
  refine va_putF (C := RX4) (T := TX4) (N := 3) (v := .ref q7) hx hb hts inw_X4_init_X4 tyX4 tyX4_ok nmX4 hown hkx.1 hw.1 hw.2.1 hw.2.2 0 rfl rfl 0 (by decide) (hts _ (List.mem_of_getElem? (i := 5) rfl)) (fun _ h => h) rfl hin rfl (tyX4_ok 0 (by decide)) rfl rfl (Nat.le_of_ble_eq_true rfl) dX4_init_55 (fun H locs hP hD hS => ?_)
  have hw : Hw D A [(h0, .inr (4, [.ref q7, .null, .int 0])), (q7, .inl ((cy 0), 10, .inl (upd (upd (upd (upd (upd (upd (upd (upd (upd (upd (fun _ => 0) 0 (1 : Int32)) 1 (2 : Int32)) 2 (5 : Int32)) 3 (1 : Int32)) 4 (2 : Int32)) 5 (4 : Int32)) 6 (3 : Int32)) 7 (12 : Int32)) 8 (6 : Int32)) 9 (4 : Int32))))] s H locs := ⟨hP, hD, hS⟩
  clear hP hD hS
  refine lv_aload_n hx hb dX4_init_58 rfl (lv_at hl 0 rfl) ?_
  refine lv_iconst (v := 4) hx hb dX4_init_59 (by decide) ?_
  refine row_newI (N' := 4) hx hb (hts _ (List.mem_of_getElem? (i := 4) rfl)) hkx hw hA (by decide) (by decide) (by decide) (Nat.le_of_ble_eq_true rfl) (Nat.le_of_ble_eq_true rfl) dX4_init_60 (fun q60 H hw => ?_)
  have hw : Hw D A [(h0, .inr (4, [.ref q7, .null, .int 0])), (q7, .inl ((cy 0), 10, .inl (upd (upd (upd (upd (upd (upd (upd (upd (upd (upd (fun _ => 0) 0 (1 : Int32)) 1 (2 : Int32)) 2 (5 : Int32)) 3 (1 : Int32)) 4 (2 : Int32)) 5 (4 : Int32)) 6 (3 : Int32)) 7 (12 : Int32)) 8 (6 : Int32)) 9 (4 : Int32)))), (q60, .inl ((cy 0), 4, .inl (fun _ => 0)))] s H locs := hw
  refine lv_dup hx hb dX4_init_62 rfl ?_
  refine lv_iconst (v := 0) hx hb dX4_init_63 (by decide) ?_
  refine lv_iconst (v := 0) hx hb dX4_init_64 (by decide) ?_
  refine va_iast hx hb hkx.1 hw.1 hw.2.1 hw.2.2 2 0 rfl rfl (by unfold vp_in; decide) dX4_init_65 (fun H locs hP hD hS => ?_)
  have hw : Hw D A [(h0, .inr (4, [.ref q7, .null, .int 0])), (q7, .inl ((cy 0), 10, .inl (upd (upd (upd (upd (upd (upd (upd (upd (upd (upd (fun _ => 0) 0 (1 : Int32)) 1 (2 : Int32)) 2 (5 : Int32)) 3 (1 : Int32)) 4 (2 : Int32)) 5 (4 : Int32)) 6 (3 : Int32)) 7 (12 : Int32)) 8 (6 : Int32)) 9 (4 : Int32)))), (q60, .inl ((cy 0), 4, .inl (upd (fun _ => 0) 0 (0 : Int32))))] s H locs := ⟨hP, hD, hS⟩
  clear hP hD hS
  refine lv_dup hx hb dX4_init_66 rfl ?_
  refine lv_iconst (v := 1) hx hb dX4_init_67 (by decide) ?_
  refine lv_bipush (v := 18) hx hb dX4_init_68 (by decide) ?_
  refine va_iast hx hb hkx.1 hw.1 hw.2.1 hw.2.2 2 0 rfl rfl (by unfold vp_in; decide) dX4_init_70 (fun H locs hP hD hS => ?_)
  have hw : Hw D A [(h0, .inr (4, [.ref q7, .null, .int 0])), (q7, .inl ((cy 0), 10, .inl (upd (upd (upd (upd (upd (upd (upd (upd (upd (upd (fun _ => 0) 0 (1 : Int32)) 1 (2 : Int32)) 2 (5 : Int32)) 3 (1 : Int32)) 4 (2 : Int32)) 5 (4 : Int32)) 6 (3 : Int32)) 7 (12 : Int32)) 8 (6 : Int32)) 9 (4 : Int32)))), (q60, .inl ((cy 0), 4, .inl (upd (upd (fun _ => 0) 0 (0 : Int32)) 1 (18 : Int32))))] s H locs := ⟨hP, hD, hS⟩
  clear hP hD hS
  refine lv_dup hx hb dX4_init_71 rfl ?_
  refine lv_iconst (v := 2) hx hb dX4_init_72 (by decide) ?_
  refine lv_bipush (v := 13) hx hb dX4_init_73 (by decide) ?_
  refine va_iast hx hb hkx.1 hw.1 hw.2.1 hw.2.2 2 0 rfl rfl (by unfold vp_in; decide) dX4_init_75 (fun H locs hP hD hS => ?_)
  have hw : Hw D A [(h0, .inr (4, [.ref q7, .null, .int 0])), (q7, .inl ((cy 0), 10, .inl (upd (upd (upd (upd (upd (upd (upd (upd (upd (upd (fun _ => 0) 0 (1 : Int32)) 1 (2 : Int32)) 2 (5 : Int32)) 3 (1 : Int32)) 4 (2 : Int32)) 5 (4 : Int32)) 6 (3 : Int32)) 7 (12 : Int32)) 8 (6 : Int32)) 9 (4 : Int32)))), (q60, .inl ((cy 0), 4, .inl (upd (upd (upd (fun _ => 0) 0 (0 : Int32)) 1 (18 : Int32)) 2 (13 : Int32))))] s H locs := ⟨hP, hD, hS⟩
  clear hP hD hS
  refine lv_dup hx hb dX4_init_76 rfl ?_
  refine lv_iconst (v := 3) hx hb dX4_init_77 (by decide) ?_
  refine lv_bipush (v := 8) hx hb dX4_init_78 (by decide) ?_
  refine va_iast hx hb hkx.1 hw.1 hw.2.1 hw.2.2 2 0 rfl rfl (by unfold vp_in; decide) dX4_init_80 (fun H locs hP hD hS => ?_)
  have hw : Hw D A [(h0, .inr (4, [.ref q7, .null, .int 0])), (q7, .inl ((cy 0), 10, .inl (upd (upd (upd (upd (upd (upd (upd (upd (upd (upd (fun _ => 0) 0 (1 : Int32)) 1 (2 : Int32)) 2 (5 : Int32)) 3 (1 : Int32)) 4 (2 : Int32)) 5 (4 : Int32)) 6 (3 : Int32)) 7 (12 : Int32)) 8 (6 : Int32)) 9 (4 : Int32)))), (q60, .inl ((cy 0), 4, .inl (upd (upd (upd (upd (fun _ => 0) 0 (0 : Int32)) 1 (18 : Int32)) 2 (13 : Int32)) 3 (8 : Int32))))] s H locs := ⟨hP, hD, hS⟩
  clear hP hD hS
  refine va_putF (C := RX4) (T := TX4) (N := 3) (v := .ref q60) hx hb hts inw_X4_init_X4 tyX4 tyX4_ok nmX4 hown hkx.1 hw.1 hw.2.1 hw.2.2 0 rfl rfl 1 (by decide) (hts _ (List.mem_of_getElem? (i := 6) rfl)) (fun _ h => h) rfl hin rfl (tyX4_ok 1 (by decide)) rfl rfl (Nat.le_of_ble_eq_true rfl) dX4_init_81 (fun H locs hP hD hS => ?_)
  have hw : Hw D A [(h0, .inr (4, [.ref q7, .ref q60, .int 0])), (q7, .inl ((cy 0), 10, .inl (upd (upd (upd (upd (upd (upd (upd (upd (upd (upd (fun _ => 0) 0 (1 : Int32)) 1 (2 : Int32)) 2 (5 : Int32)) 3 (1 : Int32)) 4 (2 : Int32)) 5 (4 : Int32)) 6 (3 : Int32)) 7 (12 : Int32)) 8 (6 : Int32)) 9 (4 : Int32)))), (q60, .inl ((cy 0), 4, .inl (upd (upd (upd (upd (fun _ => 0) 0 (0 : Int32)) 1 (18 : Int32)) 2 (13 : Int32)) 3 (8 : Int32))))] s H locs := ⟨hP, hD, hS⟩
  clear hP hD hS
  refine lv_aload_n hx hb dX4_init_84 rfl (lv_at hl 0 rfl) ?_
  refine lv_iconst (v := 3) hx hb dX4_init_85 (by decide) ?_
  refine va_put (C := RX4) (T := TX4) (N := 3) (v := .int (3 : Int32)) hx hb hts inw_X4_init_X4 tyX4 tyX4_ok nmX4 hown hkx.1 hw.1 hw.2.1 hw.2.2 0 rfl rfl 2 (by decide) (hts _ (List.mem_of_getElem? (i := 7) rfl)) (fun _ h => h) rfl (tyX4_ok 2 (by decide)) rfl rfl (Nat.le_of_ble_eq_true rfl) dX4_init_86 (fun H locs hP hD hS => ?_)
  have hw : Hw D A [(h0, .inr (4, [.ref q7, .ref q60, .int (3 : Int32)])), (q7, .inl ((cy 0), 10, .inl (upd (upd (upd (upd (upd (upd (upd (upd (upd (upd (fun _ => 0) 0 (1 : Int32)) 1 (2 : Int32)) 2 (5 : Int32)) 3 (1 : Int32)) 4 (2 : Int32)) 5 (4 : Int32)) 6 (3 : Int32)) 7 (12 : Int32)) 8 (6 : Int32)) 9 (4 : Int32)))), (q60, .inl ((cy 0), 4, .inl (upd (upd (upd (upd (fun _ => 0) 0 (0 : Int32)) 1 (18 : Int32)) 2 (13 : Int32)) 3 (8 : Int32))))] s H locs := ⟨hP, hD, hS⟩
  clear hP hD hS
  refine W.widen (k := 2) (n := 14) (Nat.le_of_ble_eq_true rfl) (Nat.le_of_ble_eq_true rfl) ?_
  exact end_v (w1 := wi_X4_init cy h0) (u := (fun k => ([q7, q60] : List Nat).getD k 0)) C0 hw trivial dX4_init_89
theorem hd_X3_init : yX3_init.cls ≠ "java/lang/invoke/MethodHandle" ∧ yX3_init.cls ≠ "java/lang/invoke/VarHandle" ∧ (parseMethodDescriptor yX3_init.desc).map (fun d => d.parameters.length) = some 0 := by decide +kernel
abbrev rm_X3_init : Room := { frames := 1, cells := 1, slots := 60, locals := 30 }
theorem inw_X3_init_X3 : ∀ w ∈ u_ws RX3 TX3 2, w ∈ wsX3_init := fun _ h => List.mem_cons_of_mem _ (List.mem_append_right _ h)
abbrev wi_X3_init (cy : Nat → ClassId) (h0 : Nat) : (Nat → Nat) → va_W := fun u => [(h0, .inr (3, [.ref (u 0), .int (1 : Int32)])), ((u 0), .inl ((cy 0), 60, .inl (fun _ => 0)))]
set_option maxHeartbeats 8000000 in
set_option maxRecDepth 100000 in
theorem c_X3_init (l : Launch) (D : va_G) (cy : Nat → ClassId) (h0 : Nat) : Ct l yX3_init wsX3_init rm_X3_init D cy [.ref h0] [(h0, .inr (3, [.null, .int 0]))] 1 60 (Rv D (wi_X3_init cy h0) (fun _ => True)) := by
  refine Ct.ofI (cc := cX3_init) (maxL := 1) (rt := none) (by decide) rfl (Nat.le_of_ble_eq_true rfl) rfl ?_
  intro p e s m below meth c A C0 hin H locs ls hw hl
  obtain ⟨⟨hx, hb, hml, hown, hts⟩, hr, hlocks, hkx, hA⟩ := id C0
  have hl : lv_has ls 1 [(0, .ref h0)] := hl
  refine lv_aload_n hx hb dX3_init_0 rfl (lv_at hl 0 rfl) ?_
  refine W.objInit hx hb hown (hts _ (List.mem_of_getElem? (i := 1) rfl)) (hts _ (List.mem_of_getElem? (i := 2) rfl)) (hts _ (List.mem_of_getElem? (i := 3) rfl)) rfl (by rw [hml]; exact hl.1) rfl dX3_init_1 (Nat.le_of_ble_eq_true rfl) (Nat.le_of_ble_eq_true rfl) ?_
  refine W.eq (g2 := F0 m 4 ls []) rfl ?_
  refine lv_aload_n hx hb dX3_init_4 rfl (lv_at hl 0 rfl) ?_
  refine lv_bipush (v := 60) hx hb dX3_init_5 (by decide) ?_
  refine row_newI (N' := 60) hx hb (hts _ (List.mem_of_getElem? (i := 4) rfl)) hkx hw hA (by decide) (by decide) (by decide) (Nat.le_of_ble_eq_true rfl) (Nat.le_of_ble_eq_true rfl) dX3_init_7 (fun q7 H hw => ?_)
  have hw : Hw D A [(h0, .inr (3, [.null, .int 0])), (q7, .inl ((cy 0), 60, .inl (fun _ => 0)))] s H locs := hw
  refine va_putF (C := RX3) (T := TX3) (N := 2) (v := .ref q7) hx hb hts inw_X3_init_X3 tyX3 tyX3_ok nmX3 hown hkx.1 hw.1 hw.2.1 hw.2.2 0 rfl rfl 0 (by decide) (hts _ (List.mem_of_getElem? (i := 5) rfl)) (fun _ h => h) rfl hin rfl (tyX3_ok 0 (by decide)) rfl rfl (Nat.le_of_ble_eq_true rfl) dX3_init_9 (fun H locs hP hD hS => ?_)
  have hw : Hw D A [(h0, .inr (3, [.ref q7, .int 0])), (q7, .inl ((cy 0), 60, .inl (fun _ => 0)))] s H locs := ⟨hP, hD, hS⟩
  clear hP hD hS
  refine lv_aload_n hx hb dX3_init_12 rfl (lv_at hl 0 rfl) ?_
  refine lv_iconst (v := 1) hx hb dX3_init_13 (by decide) ?_
  refine va_put (C := RX3) (T := TX3) (N := 2) (v := .int (1 : Int32)) hx hb hts inw_X3_init_X3 tyX3 tyX3_ok nmX3 hown hkx.1 hw.1 hw.2.1 hw.2.2 0 rfl rfl 1 (by decide) (hts _ (List.mem_of_getElem? (i := 6) rfl)) (fun _ h => h) rfl (tyX3_ok 1 (by decide)) rfl rfl (Nat.le_of_ble_eq_true rfl) dX3_init_14 (fun H locs hP hD hS => ?_)
  have hw : Hw D A [(h0, .inr (3, [.ref q7, .int (1 : Int32)])), (q7, .inl ((cy 0), 60, .inl (fun _ => 0)))] s H locs := ⟨hP, hD, hS⟩
  clear hP hD hS
  refine W.widen (k := 1) (n := 60) (Nat.le_of_ble_eq_true rfl) (Nat.le_of_ble_eq_true rfl) ?_
  exact end_v (w1 := wi_X3_init cy h0) (u := (fun k => ([q7] : List Nat).getD k 0)) C0 hw trivial dX3_init_17
theorem hd_X1_init : yX1_init.cls ≠ "java/lang/invoke/MethodHandle" ∧ yX1_init.cls ≠ "java/lang/invoke/VarHandle" ∧ (parseMethodDescriptor yX1_init.desc).map (fun d => d.parameters.length) = some 0 := by decide +kernel
abbrev rm_X1_init : Room := { frames := 1, cells := 8, slots := 200, locals := 30 }
theorem inw_X1_init_X1 : ∀ w ∈ u_ws RX1 TX1 9, w ∈ wsX1_init := fun _ h => List.mem_cons_of_mem _ (List.mem_append_right _ h)
abbrev wi_X1_init (cy : Nat → ClassId) (h0 : Nat) : (Nat → Nat) → va_W := fun u => [(h0, .inr (1, [.ref (u 0), .ref (u 1), .ref (u 2), .ref (u 3), .ref (u 4), .ref (u 5), .ref (u 6), .ref (u 7), .int (0 : Int32)])), ((u 0), .inl ((cy 0), 20, .inl (fun _ => 0))), ((u 1), .inl ((cy 0), 20, .inl (fun _ => 0))), ((u 2), .inl ((cy 0), 20, .inl (fun _ => 0))), ((u 3), .inl ((cy 2), 20, .inl (fun _ => 0))), ((u 4), .inl ((cy 0), 20, .inl (fun _ => 0))), ((u 5), .inl ((cy 0), 20, .inl (fun _ => 0))), ((u 6), .inl ((cy 0), 20, .inl (fun _ => 0))), ((u 7), .inl ((cy 0), 60, .inl (fun _ => 0)))]
set_option maxHeartbeats 8000000 in
set_option maxRecDepth 100000 in
theorem c_X1_init (l : Launch) (D : va_G) (cy : Nat → ClassId) (h0 : Nat) : Ct l yX1_init wsX1_init rm_X1_init D cy [.ref h0] [(h0, .inr (1, [.null, .null, .null, .null, .null, .null, .null, .null, .int 0]))] 8 200 (Rv D (wi_X1_init cy h0) (fun _ => True)) := by
  refine Ct.ofI (cc := cX1_init) (maxL := 1) (rt := none) (by decide) rfl (Nat.le_of_ble_eq_true rfl) rfl ?_
  intro p e s m below meth c A C0 hin H locs ls hw hl
  obtain ⟨⟨hx, hb, hml, hown, hts⟩, hr, hlocks, hkx, hA⟩ := id C0
  have hl : lv_has ls 1 [(0, .ref h0)] := hl
  refine lv_aload_n hx hb dX1_init_0 rfl (lv_at hl 0 rfl) ?_
  refine W.objInit hx hb hown (hts _ (List.mem_of_getElem? (i := 1) rfl)) (hts _ (List.mem_of_getElem? (i := 2) rfl)) (hts _ (List.mem_of_getElem? (i := 3) rfl)) rfl (by rw [hml]; exact hl.1) rfl dX1_init_1 (Nat.le_of_ble_eq_true rfl) (Nat.le_of_ble_eq_true rfl) ?_
  refine W.eq (g2 := F0 m 4 ls []) rfl ?_
  refine lv_aload_n hx hb dX1_init_4 rfl (lv_at hl 0 rfl) ?_
  refine lv_bipush (v := 20) hx hb dX1_init_5 (by decide) ?_
  refine row_newI (N' := 20) hx hb (hts _ (List.mem_of_getElem? (i := 4) rfl)) hkx hw hA (by decide) (by decide) (by decide) (Nat.le_of_ble_eq_true rfl) (Nat.le_of_ble_eq_true rfl) dX1_init_7 (fun q7 H hw => ?_)
  have hw : Hw D A [(h0, .inr (1, [.null, .null, .null, .null, .null, .null, .null, .null, .int 0])), (q7, .inl ((cy 0), 20, .inl (fun _ => 0)))] s H locs := hw
  refine va_putF (C := RX1) (T := TX1) (N := 9) (v := .ref q7) hx hb hts inw_X1_init_X1 tyX1 tyX1_ok nmX1 hown hkx.1 hw.1 hw.2.1 hw.2.2 0 rfl rfl 0 (by decide) (hts _ (List.mem_of_getElem? (i := 5) rfl)) (fun _ h => h) rfl hin rfl (tyX1_ok 0 (by decide)) rfl rfl (Nat.le_of_ble_eq_true rfl) dX1_init_9 (fun H locs hP hD hS => ?_)
  have hw : Hw D A [(h0, .inr (1, [.ref q7, .null, .null, .null, .null, .null, .null, .null, .int 0])), (q7, .inl ((cy 0), 20, .inl (fun _ => 0)))] s H locs := ⟨hP, hD, hS⟩
  clear hP hD hS
  refine lv_aload_n hx hb dX1_init_12 rfl (lv_at hl 0 rfl) ?_
  refine lv_bipush (v := 20) hx hb dX1_init_13 (by decide) ?_
  refine row_newI (N' := 20) hx hb (hts _ (List.mem_of_getElem? (i := 4) rfl)) hkx hw hA (by decide) (by decide) (by decide) (Nat.le_of_ble_eq_true rfl) (Nat.le_of_ble_eq_true rfl) dX1_init_15 (fun q15 H hw => ?_)
  have hw : Hw D A [(h0, .inr (1, [.ref q7, .null, .null, .null, .null, .null, .null, .null, .int 0])), (q7, .inl ((cy 0), 20, .inl (fun _ => 0))), (q15, .inl ((cy 0), 20, .inl (fun _ => 0)))] s H locs := hw
  refine va_putF (C := RX1) (T := TX1) (N := 9) (v := .ref q15) hx hb hts inw_X1_init_X1 tyX1 tyX1_ok nmX1 hown hkx.1 hw.1 hw.2.1 hw.2.2 0 rfl rfl 1 (by decide) (hts _ (List.mem_of_getElem? (i := 6) rfl)) (fun _ h => h) rfl hin rfl (tyX1_ok 1 (by decide)) rfl rfl (Nat.le_of_ble_eq_true rfl) dX1_init_17 (fun H locs hP hD hS => ?_)
  have hw : Hw D A [(h0, .inr (1, [.ref q7, .ref q15, .null, .null, .null, .null, .null, .null, .int 0])), (q7, .inl ((cy 0), 20, .inl (fun _ => 0))), (q15, .inl ((cy 0), 20, .inl (fun _ => 0)))] s H locs := ⟨hP, hD, hS⟩
  clear hP hD hS
  refine lv_aload_n hx hb dX1_init_20 rfl (lv_at hl 0 rfl) ?_
  refine lv_bipush (v := 20) hx hb dX1_init_21 (by decide) ?_
  refine row_newI (N' := 20) hx hb (hts _ (List.mem_of_getElem? (i := 4) rfl)) hkx hw hA (by decide) (by decide) (by decide) (Nat.le_of_ble_eq_true rfl) (Nat.le_of_ble_eq_true rfl) dX1_init_23 (fun q23 H hw => ?_)
  have hw : Hw D A [(h0, .inr (1, [.ref q7, .ref q15, .null, .null, .null, .null, .null, .null, .int 0])), (q7, .inl ((cy 0), 20, .inl (fun _ => 0))), (q15, .inl ((cy 0), 20, .inl (fun _ => 0))), (q23, .inl ((cy 0), 20, .inl (fun _ => 0)))] s H locs := hw
  refine va_putF (C := RX1) (T := TX1) (N := 9) (v := .ref q23) hx hb hts inw_X1_init_X1 tyX1 tyX1_ok nmX1 hown hkx.1 hw.1 hw.2.1 hw.2.2 0 rfl rfl 2 (by decide) (hts _ (List.mem_of_getElem? (i := 7) rfl)) (fun _ h => h) rfl hin rfl (tyX1_ok 2 (by decide)) rfl rfl (Nat.le_of_ble_eq_true rfl) dX1_init_25 (fun H locs hP hD hS => ?_)
  have hw : Hw D A [(h0, .inr (1, [.ref q7, .ref q15, .ref q23, .null, .null, .null, .null, .null, .int 0])), (q7, .inl ((cy 0), 20, .inl (fun _ => 0))), (q15, .inl ((cy 0), 20, .inl (fun _ => 0))), (q23, .inl ((cy 0), 20, .inl (fun _ => 0)))] s H locs := ⟨hP, hD, hS⟩
  clear hP hD hS
  refine lv_aload_n hx hb dX1_init_28 rfl (lv_at hl 0 rfl) ?_
  refine lv_bipush (v := 20) hx hb dX1_init_29 (by decide) ?_
  refine row_newZ (N' := 20) hx hb (hts _ (List.mem_of_getElem? (i := 8) rfl)) hkx hw hA (by decide) (by decide) (by decide) (Nat.le_of_ble_eq_true rfl) (Nat.le_of_ble_eq_true rfl) dX1_init_31 (fun q31 H hw => ?_)
  have hw : Hw D A [(h0, .inr (1, [.ref q7, .ref q15, .ref q23, .null, .null, .null, .null, .null, .int 0])), (q7, .inl ((cy 0), 20, .inl (fun _ => 0))), (q15, .inl ((cy 0), 20, .inl (fun _ => 0))), (q23, .inl ((cy 0), 20, .inl (fun _ => 0))), (q31, .inl ((cy 2), 20, .inl (fun _ => 0)))] s H locs := hw
  refine va_putF (C := RX1) (T := TX1) (N := 9) (v := .ref q31) hx hb hts inw_X1_init_X1 tyX1 tyX1_ok nmX1 hown hkx.1 hw.1 hw.2.1 hw.2.2 0 rfl rfl 3 (by decide) (hts _ (List.mem_of_getElem? (i := 9) rfl)) (fun _ h => h) rfl hin rfl (tyX1_ok 3 (by decide)) rfl rfl (Nat.le_of_ble_eq_true rfl) dX1_init_33 (fun H locs hP hD hS => ?_)
  have hw : Hw D A [(h0, .inr (1, [.ref q7, .ref q15, .ref q23, .ref q31, .null, .null, .null, .null, .int 0])), (q7, .inl ((cy 0), 20, .inl (fun _ => 0))), (q15, .inl ((cy 0), 20, .inl (fun _ => 0))), (q23, .inl ((cy 0), 20, .inl (fun _ => 0))), (q31, .inl ((cy 2), 20, .inl (fun _ => 0)))] s H locs := ⟨hP, hD, hS⟩
  clear hP hD hS
  refine lv_aload_n hx hb dX1_init_36 rfl (lv_at hl 0 rfl) ?_
  refine lv_bipush (v := 20) hx hb dX1_init_37 (by decide) ?_
  refine row_newI (N' := 20) hx hb (hts _ (List.mem_of_getElem? (i := 4) rfl)) hkx hw hA (by decide) (by decide) (by decide) (Nat.le_of_ble_eq_true rfl) (Nat.le_of_ble_eq_true rfl) dX1_init_39 (fun q39 H hw => ?_)
  have hw : Hw D A [(h0, .inr (1, [.ref q7, .ref q15, .ref q23, .ref q31, .null, .null, .null, .null, .int 0])), (q7, .inl ((cy 0), 20, .inl (fun _ => 0))), (q15, .inl ((cy 0), 20, .inl (fun _ => 0))), (q23, .inl ((cy 0), 20, .inl (fun _ => 0))), (q31, .inl ((cy 2), 20, .inl (fun _ => 0))), (q39, .inl ((cy 0), 20, .inl (fun _ => 0)))] s H locs := hw
  refine va_putF (C := RX1) (T := TX1) (N := 9) (v := .ref q39) hx hb hts inw_X1_init_X1 tyX1 tyX1_ok nmX1 hown hkx.1 hw.1 hw.2.1 hw.2.2 0 rfl rfl 4 (by decide) (hts _ (List.mem_of_getElem? (i := 10) rfl)) (fun _ h => h) rfl hin rfl (tyX1_ok 4 (by decide)) rfl rfl (Nat.le_of_ble_eq_true rfl) dX1_init_41 (fun H locs hP hD hS => ?_)
  have hw : Hw D A [(h0, .inr (1, [.ref q7, .ref q15, .ref q23, .ref q31, .ref q39, .null, .null, .null, .int 0])), (q7, .inl ((cy 0), 20, .inl (fun _ => 0))), (q15, .inl ((cy 0), 20, .inl (fun _ => 0))), (q23, .inl ((cy 0), 20, .inl (fun _ => 0))), (q31, .inl ((cy 2), 20, .inl (fun _ => 0))), (q39, .inl ((cy 0), 20, .inl (fun _ => 0)))] s H locs := ⟨hP, hD, hS⟩
  clear hP hD hS
  refine lv_aload_n hx hb dX1_init_44 rfl (lv_at hl 0 rfl) ?_
  refine lv_bipush (v := 20) hx hb dX1_init_45 (by decide) ?_
  refine row_newI (N' := 20) hx hb (hts _ (List.mem_of_getElem? (i := 4) rfl)) hkx hw hA (by decide) (by decide) (by decide) (Nat.le_of_ble_eq_true rfl) (Nat.le_of_ble_eq_true rfl) dX1_init_47 (fun q47 H hw => ?_)
  have hw : Hw D A [(h0, .inr (1, [.ref q7, .ref q15, .ref q23, .ref q31, .ref q39, .null, .null, .null, .int 0])), (q7, .inl ((cy 0), 20, .inl (fun _ => 0))), (q15, .inl ((cy 0), 20, .inl (fun _ => 0))), (q23, .inl ((cy 0), 20, .inl (fun _ => 0))), (q31, .inl ((cy 2), 20, .inl (fun _ => 0))), (q39, .inl ((cy 0), 20, .inl (fun _ => 0))), (q47, .inl ((cy 0), 20, .inl (fun _ => 0)))] s H locs := hw
  refine va_putF (C := RX1) (T := TX1) (N := 9) (v := .ref q47) hx hb hts inw_X1_init_X1 tyX1 tyX1_ok nmX1 hown hkx.1 hw.1 hw.2.1 hw.2.2 0 rfl rfl 5 (by decide) (hts _ (List.mem_of_getElem? (i := 11) rfl)) (fun _ h => h) rfl hin rfl (tyX1_ok 5 (by decide)) rfl rfl (Nat.le_of_ble_eq_true rfl) dX1_init_49 (fun H locs hP hD hS => ?_)
  have hw : Hw D A [(h0, .inr (1, [.ref q7, .ref q15, .ref q23, .ref q31, .ref q39, .ref q47, .null, .null, .int 0])), (q7, .inl ((cy 0), 20, .inl (fun _ => 0))), (q15, .inl ((cy 0), 20, .inl (fun _ => 0))), (q23, .inl ((cy 0), 20, .inl (fun _ => 0))), (q31, .inl ((cy 2), 20, .inl (fun _ => 0))), (q39, .inl ((cy 0), 20, .inl (fun _ => 0))), (q47, .inl ((cy 0), 20, .inl (fun _ => 0)))] s H locs := ⟨hP, hD, hS⟩
  clear hP hD hS
  refine lv_aload_n hx hb dX1_init_52 rfl (lv_at hl 0 rfl) ?_
  refine lv_bipush (v := 20) hx hb dX1_init_53 (by decide) ?_
  refine row_newI (N' := 20) hx hb (hts _ (List.mem_of_getElem? (i := 4) rfl)) hkx hw hA (by decide) (by decide) (by decide) (Nat.le_of_ble_eq_true rfl) (Nat.le_of_ble_eq_true rfl) dX1_init_55 (fun q55 H hw => ?_)
  have hw : Hw D A [(h0, .inr (1, [.ref q7, .ref q15, .ref q23, .ref q31, .ref q39, .ref q47, .null, .null, .int 0])), (q7, .inl ((cy 0), 20, .inl (fun _ => 0))), (q15, .inl ((cy 0), 20, .inl (fun _ => 0))), (q23, .inl ((cy 0), 20, .inl (fun _ => 0))), (q31, .inl ((cy 2), 20, .inl (fun _ => 0))), (q39, .inl ((cy 0), 20, .inl (fun _ => 0))), (q47, .inl ((cy 0), 20, .inl (fun _ => 0))), (q55, .inl ((cy 0), 20, .inl (fun _ => 0)))] s H locs := hw
  refine va_putF (C := RX1) (T := TX1) (N := 9) (v := .ref q55) hx hb hts inw_X1_init_X1 tyX1 tyX1_ok nmX1 hown hkx.1 hw.1 hw.2.1 hw.2.2 0 rfl rfl 6 (by decide) (hts _ (List.mem_of_getElem? (i := 12) rfl)) (fun _ h => h) rfl hin rfl (tyX1_ok 6 (by decide)) rfl rfl (Nat.le_of_ble_eq_true rfl) dX1_init_57 (fun H locs hP hD hS => ?_)
  have hw : Hw D A [(h0, .inr (1, [.ref q7, .ref q15, .ref q23, .ref q31, .ref q39, .ref q47, .ref q55, .null, .int 0])), (q7, .inl ((cy 0), 20, .inl (fun _ => 0))), (q15, .inl ((cy 0), 20, .inl (fun _ => 0))), (q23, .inl ((cy 0), 20, .inl (fun _ => 0))), (q31, .inl ((cy 2), 20, .inl (fun _ => 0))), (q39, .inl ((cy 0), 20, .inl (fun _ => 0))), (q47, .inl ((cy 0), 20, .inl (fun _ => 0))), (q55, .inl ((cy 0), 20, .inl (fun _ => 0)))] s H locs := ⟨hP, hD, hS⟩
  clear hP hD hS
  refine lv_aload_n hx hb dX1_init_60 rfl (lv_at hl 0 rfl) ?_
  refine lv_bipush (v := 60) hx hb dX1_init_61 (by decide) ?_
  refine row_newI (N' := 60) hx hb (hts _ (List.mem_of_getElem? (i := 4) rfl)) hkx hw hA (by decide) (by decide) (by decide) (Nat.le_of_ble_eq_true rfl) (Nat.le_of_ble_eq_true rfl) dX1_init_63 (fun q63 H hw => ?_)
  have hw : Hw D A [(h0, .inr (1, [.ref q7, .ref q15, .ref q23, .ref q31, .ref q39, .ref q47, .ref q55, .null, .int 0])), (q7, .inl ((cy 0), 20, .inl (fun _ => 0))), (q15, .inl ((cy 0), 20, .inl (fun _ => 0))), (q23, .inl ((cy 0), 20, .inl (fun _ => 0))), (q31, .inl ((cy 2), 20, .inl (fun _ => 0))), (q39, .inl ((cy 0), 20, .inl (fun _ => 0))), (q47, .inl ((cy 0), 20, .inl (fun _ => 0))), (q55, .inl ((cy 0), 20, .inl (fun _ => 0))), (q63, .inl ((cy 0), 60, .inl (fun _ => 0)))] s H locs := hw
  refine va_putF (C := RX1) (T := TX1) (N := 9) (v := .ref q63) hx hb hts inw_X1_init_X1 tyX1 tyX1_ok nmX1 hown hkx.1 hw.1 hw.2.1 hw.2.2 0 rfl rfl 7 (by decide) (hts _ (List.mem_of_getElem? (i := 13) rfl)) (fun _ h => h) rfl hin rfl (tyX1_ok 7 (by decide)) rfl rfl (Nat.le_of_ble_eq_true rfl) dX1_init_65 (fun H locs hP hD hS => ?_)
  have hw : Hw D A [(h0, .inr (1, [.ref q7, .ref q15, .ref q23, .ref q31, .ref q39, .ref q47, .ref q55, .ref q63, .int 0])), (q7, .inl ((cy 0), 20, .inl (fun _ => 0))), (q15, .inl ((cy 0), 20, .inl (fun _ => 0))), (q23, .inl ((cy 0), 20, .inl (fun _ => 0))), (q31, .inl ((cy 2), 20, .inl (fun _ => 0))), (q39, .inl ((cy 0), 20, .inl (fun _ => 0))), (q47, .inl ((cy 0), 20, .inl (fun _ => 0))), (q55, .inl ((cy 0), 20, .inl (fun _ => 0))), (q63, .inl ((cy 0), 60, .inl (fun _ => 0)))] s H locs := ⟨hP, hD, hS⟩
  clear hP hD hS
  refine lv_aload_n hx hb dX1_init_68 rfl (lv_at hl 0 rfl) ?_
  refine lv_iconst (v := 0) hx hb dX1_init_69 (by decide) ?_
  refine va_put (C := RX1) (T := TX1) (N := 9) (v := .int (0 : Int32)) hx hb hts inw_X1_init_X1 tyX1 tyX1_ok nmX1 hown hkx.1 hw.1 hw.2.1 hw.2.2 0 rfl rfl 8 (by decide) (hts _ (List.mem_of_getElem? (i := 14) rfl)) (fun _ h => h) rfl (tyX1_ok 8 (by decide)) rfl rfl (Nat.le_of_ble_eq_true rfl) dX1_init_70 (fun H locs hP hD hS => ?_)
  have hw : Hw D A [(h0, .inr (1, [.ref q7, .ref q15, .ref q23, .ref q31, .ref q39, .ref q47, .ref q55, .ref q63, .int (0 : Int32)])), (q7, .inl ((cy 0), 20, .inl (fun _ => 0))), (q15, .inl ((cy 0), 20, .inl (fun _ => 0))), (q23, .inl ((cy 0), 20, .inl (fun _ => 0))), (q31, .inl ((cy 2), 20, .inl (fun _ => 0))), (q39, .inl ((cy 0), 20, .inl (fun _ => 0))), (q47, .inl ((cy 0), 20, .inl (fun _ => 0))), (q55, .inl ((cy 0), 20, .inl (fun _ => 0))), (q63, .inl ((cy 0), 60, .inl (fun _ => 0)))] s H locs := ⟨hP, hD, hS⟩
  clear hP hD hS
  refine W.widen (k := 8) (n := 200) (Nat.le_of_ble_eq_true rfl) (Nat.le_of_ble_eq_true rfl) ?_
  exact end_v (w1 := wi_X1_init cy h0) (u := (fun k => ([q7, q15, q23, q31, q39, q47, q55, q63] : List Nat).getD k 0)) C0 hw trivial dX1_init_73
theorem hd_X0_init : yX0_init.cls ≠ "java/lang/invoke/MethodHandle" ∧ yX0_init.cls ≠ "java/lang/invoke/VarHandle" ∧ (parseMethodDescriptor yX0_init.desc).map (fun d => d.parameters.length) = some 1 := by decide +kernel
abbrev rm_X0_init : Room := { frames := 1, cells := 1, slots := 4, locals := 30 }
theorem inw_X0_init_X0 : ∀ w ∈ u_ws RX0 TX0 2, w ∈ wsX0_init := fun _ h => List.mem_cons_of_mem _ (List.mem_append_right _ h)
abbrev wi_X0_init (cy : Nat → ClassId) (h0 h1 : Nat) : (Nat → Nat) → va_W := fun u => [(h0, .inr (0, [.ref (u 0), .ref h1])), ((u 0), .inl ((cy 0), 4, .inl (upd (upd (upd (upd (fun _ => 0) 0 (1 : Int32)) 1 (0 : Int32)) 2 (0 : Int32)) 3 (0 : Int32))))]
set_option maxHeartbeats 8000000 in
set_option maxRecDepth 100000 in
theorem c_X0_init (l : Launch) (D : va_G) (cy : Nat → ClassId) (h0 h1 : Nat) : Ct l yX0_init wsX0_init rm_X0_init D cy [.ref h0, .ref h1] [(h0, .inr (0, [.null, .null]))] 1 4 (Rv D (wi_X0_init cy h0 h1) (fun _ => True)) := by
  refine Ct.ofI (cc := cX0_init) (maxL := 2) (rt := none) (by decide) rfl (Nat.le_of_ble_eq_true rfl) rfl ?_
  intro p e s m below meth c A C0 hin H locs ls hw hl
  obtain ⟨⟨hx, hb, hml, hown, hts⟩, hr, hlocks, hkx, hA⟩ := id C0
  have hl : lv_has ls 2 [(0, .ref h0), (1, .ref h1)] := hl
  refine lv_aload_n hx hb dX0_init_0 rfl (lv_at hl 0 rfl) ?_
  refine W.objInit hx hb hown (hts _ (List.mem_of_getElem? (i := 1) rfl)) (hts _ (List.mem_of_getElem? (i := 2) rfl)) (hts _ (List.mem_of_getElem? (i := 3) rfl)) rfl (by rw [hml]; exact hl.1) rfl dX0_init_1 (Nat.le_of_ble_eq_true rfl) (Nat.le_of_ble_eq_true rfl) ?_
  refine W.eq (g2 := F0 m 4 ls []) rfl ?_
  refine lv_aload_n hx hb dX0_init_4 rfl (lv_at hl 0 rfl) ?_
  refine lv_iconst (v := 4) hx hb dX0_init_5 (by decide) ?_
  refine row_newI (N' := 4) hx hb (hts _ (List.mem_of_getElem? (i := 4) rfl)) hkx hw hA (by decide) (by decide) (by decide) (Nat.le_of_ble_eq_true rfl) (Nat.le_of_ble_eq_true rfl) dX0_init_6 (fun q6 H hw => ?_)
  have hw : Hw D A [(h0, .inr (0, [.null, .null])), (q6, .inl ((cy 0), 4, .inl (fun _ => 0)))] s H locs := hw
  refine lv_dup hx hb dX0_init_8 rfl ?_
  refine lv_iconst (v := 0) hx hb dX0_init_9 (by decide) ?_
  refine lv_iconst (v := 1) hx hb dX0_init_10 (by decide) ?_
  refine va_iast hx hb hkx.1 hw.1 hw.2.1 hw.2.2 1 0 rfl rfl (by unfold vp_in; decide) dX0_init_11 (fun H locs hP hD hS => ?_)
  have hw : Hw D A [(h0, .inr (0, [.null, .null])), (q6, .inl ((cy 0), 4, .inl (upd (fun _ => 0) 0 (1 : Int32))))] s H locs := ⟨hP, hD, hS⟩
  clear hP hD hS
  refine lv_dup hx hb dX0_init_12 rfl ?_
  refine lv_iconst (v := 1) hx hb dX0_init_13 (by decide) ?_
  refine lv_iconst (v := 0) hx hb dX0_init_14 (by decide) ?_
  refine va_iast hx hb hkx.1 hw.1 hw.2.1 hw.2.2 1 0 rfl rfl (by unfold vp_in; decide) dX0_init_15 (fun H locs hP hD hS => ?_)
  have hw : Hw D A [(h0, .inr (0, [.null, .null])), (q6, .inl ((cy 0), 4, .inl (upd (upd (fun _ => 0) 0 (1 : Int32)) 1 (0 : Int32))))] s H locs := ⟨hP, hD, hS⟩
  clear hP hD hS
  refine lv_dup hx hb dX0_init_16 rfl ?_
  refine lv_iconst (v := 2) hx hb dX0_init_17 (by decide) ?_
  refine lv_iconst (v := 0) hx hb dX0_init_18 (by decide) ?_
  refine va_iast hx hb hkx.1 hw.1 hw.2.1 hw.2.2 1 0 rfl rfl (by unfold vp_in; decide) dX0_init_19 (fun H locs hP hD hS => ?_)
  have hw : Hw D A [(h0, .inr (0, [.null, .null])), (q6, .inl ((cy 0), 4, .inl (upd (upd (upd (fun _ => 0) 0 (1 : Int32)) 1 (0 : Int32)) 2 (0 : Int32))))] s H locs := ⟨hP, hD, hS⟩
  clear hP hD hS
  refine lv_dup hx hb dX0_init_20 rfl ?_
  refine lv_iconst (v := 3) hx hb dX0_init_21 (by decide) ?_
  refine lv_iconst (v := 0) hx hb dX0_init_22 (by decide) ?_
  refine va_iast hx hb hkx.1 hw.1 hw.2.1 hw.2.2 1 0 rfl rfl (by unfold vp_in; decide) dX0_init_23 (fun H locs hP hD hS => ?_)
  have hw : Hw D A [(h0, .inr (0, [.null, .null])), (q6, .inl ((cy 0), 4, .inl (upd (upd (upd (upd (fun _ => 0) 0 (1 : Int32)) 1 (0 : Int32)) 2 (0 : Int32)) 3 (0 : Int32))))] s H locs := ⟨hP, hD, hS⟩
  clear hP hD hS
  refine va_putF (C := RX0) (T := TX0) (N := 2) (v := .ref q6) hx hb hts inw_X0_init_X0 tyX0 tyX0_ok nmX0 hown hkx.1 hw.1 hw.2.1 hw.2.2 0 rfl rfl 0 (by decide) (hts _ (List.mem_of_getElem? (i := 5) rfl)) (fun _ h => h) rfl hin rfl (tyX0_ok 0 (by decide)) rfl rfl (Nat.le_of_ble_eq_true rfl) dX0_init_24 (fun H locs hP hD hS => ?_)
  have hw : Hw D A [(h0, .inr (0, [.ref q6, .null])), (q6, .inl ((cy 0), 4, .inl (upd (upd (upd (upd (fun _ => 0) 0 (1 : Int32)) 1 (0 : Int32)) 2 (0 : Int32)) 3 (0 : Int32))))] s H locs := ⟨hP, hD, hS⟩
  clear hP hD hS
  refine lv_aload_n hx hb dX0_init_27 rfl (lv_at hl 0 rfl) ?_
  refine lv_aload_n hx hb dX0_init_28 rfl (lv_at hl 1 rfl) ?_
  refine va_putF (C := RX0) (T := TX0) (N := 2) (v := .ref h1) hx hb hts inw_X0_init_X0 tyX0 tyX0_ok nmX0 hown hkx.1 hw.1 hw.2.1 hw.2.2 0 rfl rfl 1 (by decide) (hts _ (List.mem_of_getElem? (i := 6) rfl)) (fun _ h => h) rfl hin rfl (tyX0_ok 1 (by decide)) rfl rfl (Nat.le_of_ble_eq_true rfl) dX0_init_29 (fun H locs hP hD hS => ?_)
  have hw : Hw D A [(h0, .inr (0, [.ref q6, .ref h1])), (q6, .inl ((cy 0), 4, .inl (upd (upd (upd (upd (fun _ => 0) 0 (1 : Int32)) 1 (0 : Int32)) 2 (0 : Int32)) 3 (0 : Int32))))] s H locs := ⟨hP, hD, hS⟩
  clear hP hD hS
  refine W.widen (k := 1) (n := 4) (Nat.le_of_ble_eq_true rfl) (Nat.le_of_ble_eq_true rfl) ?_
  exact end_v (w1 := wi_X0_init cy h0 h1) (u := (fun k => ([q6] : List Nat).getD k 0)) C0 hw trivial dX0_init_32
theorem hd_X5_init : yX5_init.cls ≠ "java/lang/invoke/MethodHandle" ∧ yX5_init.cls ≠ "java/lang/invoke/VarHandle" ∧ (parseMethodDescriptor yX5_init.desc).map (fun d => d.parameters.length) = some 2 := by decide +kernel
abbrev rm_X5_init : Room := { frames := 1, cells := 5, slots := 1300, locals := 30 }
theorem inw_X5_init_X5 : ∀ w ∈ u_ws RX5 TX5 10, w ∈ wsX5_init := fun _ h => List.mem_cons_of_mem _ (List.mem_append_right _ h)
abbrev wi_X5_init (cy : Nat → ClassId) (h0 h1 h2 : Nat) : (Nat → Nat) → va_W := fun u => [(h0, .inr (5, [.ref (u 0), .ref (u 1), .int (0 : Int32), .int (0 : Int32), .int (0 : Int32), .ref h1, .ref h2, .ref (u 2), .ref (u 3), .ref (u 4)])), ((u 0), .inl ((cy 0), 60, .inl (fun _ => 0))), ((u 1), .inl ((cy 0), 60, .inl (fun _ => 0))), ((u 2), .inl ((cy 0), 61, .inl (fun _ => 0))), ((u 3), .inl ((cy 0), 60, .inl (fun _ => 0))), ((u 4), .inl ((cy 0), 1059, .inl (fun _ => 0)))]
set_option maxHeartbeats 8000000 in
set_option maxRecDepth 100000 in
theorem c_X5_init (l : Launch) (D : va_G) (cy : Nat → ClassId) (h0 h1 h2 : Nat) : Ct l yX5_init wsX5_init rm_X5_init D cy [.ref h0, .ref h1, .ref h2] [(h0, .inr (5, [.null, .null, .int 0, .int 0, .int 0, .null, .null, .null, .null, .null]))] 5 1300 (Rv D (wi_X5_init cy h0 h1 h2) (fun _ => True)) := by
  refine Ct.ofI (cc := cX5_init) (maxL := 3) (rt := none) (by decide) rfl (Nat.le_of_ble_eq_true rfl) rfl ?_
  intro p e s m below meth c A C0 hin H locs ls hw hl
  obtain ⟨⟨hx, hb, hml, hown, hts⟩, hr, hlocks, hkx, hA⟩ := id C0
  have hl : lv_has ls 3 [(0, .ref h0), (1, .ref h1), (2, .ref h2)] := hl
  refine lv_aload_n hx hb dX5_init_0 rfl (lv_at hl 0 rfl) ?_
  refine W.objInit hx hb hown (hts _ (List.mem_of_getElem? (i := 1) rfl)) (hts _ (List.mem_of_getElem? (i := 2) rfl)) (hts _ (List.mem_of_getElem? (i := 3) rfl)) rfl (by rw [hml]; exact hl.1) rfl dX5_init_1 (Nat.le_of_ble_eq_true rfl) (Nat.le_of_ble_eq_true rfl) ?_
  refine W.eq (g2 := F0 m 4 ls []) rfl ?_
  refine lv_aload_n hx hb dX5_init_4 rfl (lv_at hl 0 rfl) ?_
  refine lv_bipush (v := 60) hx hb dX5_init_5 (by decide) ?_
  refine row_newI (N' := 60) hx hb (hts _ (List.mem_of_getElem? (i := 4) rfl)) hkx hw hA (by decide) (by decide) (by decide) (Nat.le_of_ble_eq_true rfl) (Nat.le_of_ble_eq_true rfl) dX5_init_7 (fun q7 H hw => ?_)
  have hw : Hw D A [(h0, .inr (5, [.null, .null, .int 0, .int 0, .int 0, .null, .null, .null, .null, .null])), (q7, .inl ((cy 0), 60, .inl (fun _ => 0)))] s H locs := hw
  refine va_putF (C := RX5) (T := TX5) (N := 10) (v := .ref q7) hx hb hts inw_X5_init_X5 tyX5 tyX5_ok nmX5 hown hkx.1 hw.1 hw.2.1 hw.2.2 0 rfl rfl 0 (by decide) (hts _ (List.mem_of_getElem? (i := 5) rfl)) (fun _ h => h) rfl hin rfl (tyX5_ok 0 (by decide)) rfl rfl (Nat.le_of_ble_eq_true rfl) dX5_init_9 (fun H locs hP hD hS => ?_)
  have hw : Hw D A [(h0, .inr (5, [.ref q7, .null, .int 0, .int 0, .int 0, .null, .null, .null, .null, .null])), (q7, .inl ((cy 0), 60, .inl (fun _ => 0)))] s H locs := ⟨hP, hD, hS⟩
  clear hP hD hS
  refine lv_aload_n hx hb dX5_init_12 rfl (lv_at hl 0 rfl) ?_
  refine lv_bipush (v := 60) hx hb dX5_init_13 (by decide) ?_
  refine row_newI (N' := 60) hx hb (hts _ (List.mem_of_getElem? (i := 4) rfl)) hkx hw hA (by decide) (by decide) (by decide) (Nat.le_of_ble_eq_true rfl) (Nat.le_of_ble_eq_true rfl) dX5_init_15 (fun q15 H hw => ?_)
  have hw : Hw D A [(h0, .inr (5, [.ref q7, .null, .int 0, .int 0, .int 0, .null, .null, .null, .null, .null])), (q7, .inl ((cy 0), 60, .inl (fun _ => 0))), (q15, .inl ((cy 0), 60, .inl (fun _ => 0)))] s H locs := hw
  refine va_putF (C := RX5) (T := TX5) (N := 10) (v := .ref q15) hx hb hts inw_X5_init_X5 tyX5 tyX5_ok nmX5 hown hkx.1 hw.1 hw.2.1 hw.2.2 0 rfl rfl 1 (by decide) (hts _ (List.mem_of_getElem? (i := 6) rfl)) (fun _ h => h) rfl hin rfl (tyX5_ok 1 (by decide)) rfl rfl (Nat.le_of_ble_eq_true rfl) dX5_init_17 (fun H locs hP hD hS => ?_)
  have hw : Hw D A [(h0, .inr (5, [.ref q7, .ref q15, .int 0, .int 0, .int 0, .null, .null, .null, .null, .null])), (q7, .inl ((cy 0), 60, .inl (fun _ => 0))), (q15, .inl ((cy 0), 60, .inl (fun _ => 0)))] s H locs := ⟨hP, hD, hS⟩
  clear hP hD hS
  refine lv_aload_n hx hb dX5_init_20 rfl (lv_at hl 0 rfl) ?_
  refine lv_iconst (v := 0) hx hb dX5_init_21 (by decide) ?_
  refine va_put (C := RX5) (T := TX5) (N := 10) (v := .int (0 : Int32)) hx hb hts inw_X5_init_X5 tyX5 tyX5_ok nmX5 hown hkx.1 hw.1 hw.2.1 hw.2.2 0 rfl rfl 2 (by decide) (hts _ (List.mem_of_getElem? (i := 7) rfl)) (fun _ h => h) rfl (tyX5_ok 2 (by decide)) rfl rfl (Nat.le_of_ble_eq_true rfl) dX5_init_22 (fun H locs hP hD hS => ?_)
  have hw : Hw D A [(h0, .inr (5, [.ref q7, .ref q15, .int (0 : Int32), .int 0, .int 0, .null, .null, .null, .null, .null])), (q7, .inl ((cy 0), 60, .inl (fun _ => 0))), (q15, .inl ((cy 0), 60, .inl (fun _ => 0)))] s H locs := ⟨hP, hD, hS⟩
  clear hP hD hS
  refine lv_aload_n hx hb dX5_init_25 rfl (lv_at hl 0 rfl) ?_
  refine lv_iconst (v := 0) hx hb dX5_init_26 (by decide) ?_
  refine va_put (C := RX5) (T := TX5) (N := 10) (v := .int (0 : Int32)) hx hb hts inw_X5_init_X5 tyX5 tyX5_ok nmX5 hown hkx.1 hw.1 hw.2.1 hw.2.2 0 rfl rfl 3 (by decide) (hts _ (List.mem_of_getElem? (i := 8) rfl)) (fun _ h => h) rfl (tyX5_ok 3 (by decide)) rfl rfl (Nat.le_of_ble_eq_true rfl) dX5_init_27 (fun H locs hP hD hS => ?_)
  have hw : Hw D A [(h0, .inr (5, [.ref q7, .ref q15, .int (0 : Int32), .int (0 : Int32), .int 0, .null, .null, .null, .null, .null])), (q7, .inl ((cy 0), 60, .inl (fun _ => 0))), (q15, .inl ((cy 0), 60, .inl (fun _ => 0)))] s H locs := ⟨hP, hD, hS⟩
  clear hP hD hS
  refine lv_aload_n hx hb dX5_init_30 rfl (lv_at hl 0 rfl) ?_
  refine lv_iconst (v := 0) hx hb dX5_init_31 (by decide) ?_
  refine va_put (C := RX5) (T := TX5) (N := 10) (v := .int (0 : Int32)) hx hb hts inw_X5_init_X5 tyX5 tyX5_ok nmX5 hown hkx.1 hw.1 hw.2.1 hw.2.2 0 rfl rfl 4 (by decide) (hts _ (List.mem_of_getElem? (i := 9) rfl)) (fun _ h => h) rfl (tyX5_ok 4 (by decide)) rfl rfl (Nat.le_of_ble_eq_true rfl) dX5_init_32 (fun H locs hP hD hS => ?_)
  have hw : Hw D A [(h0, .inr (5, [.ref q7, .ref q15, .int (0 : Int32), .int (0 : Int32), .int (0 : Int32), .null, .null, .null, .null, .null])), (q7, .inl ((cy 0), 60, .inl (fun _ => 0))), (q15, .inl ((cy 0), 60, .inl (fun _ => 0)))] s H locs := ⟨hP, hD, hS⟩
  clear hP hD hS
  refine lv_aload_n hx hb dX5_init_35 rfl (lv_at hl 0 rfl) ?_
  refine lv_bipush (v := 61) hx hb dX5_init_36 (by decide) ?_
  refine row_newI (N' := 61) hx hb (hts _ (List.mem_of_getElem? (i := 4) rfl)) hkx hw hA (by decide) (by decide) (by decide) (Nat.le_of_ble_eq_true rfl) (Nat.le_of_ble_eq_true rfl) dX5_init_38 (fun q38 H hw => ?_)
  have hw : Hw D A [(h0, .inr (5, [.ref q7, .ref q15, .int (0 : Int32), .int (0 : Int32), .int (0 : Int32), .null, .null, .null, .null, .null])), (q7, .inl ((cy 0), 60, .inl (fun _ => 0))), (q15, .inl ((cy 0), 60, .inl (fun _ => 0))), (q38, .inl ((cy 0), 61, .inl (fun _ => 0)))] s H locs := hw
  refine va_putF (C := RX5) (T := TX5) (N := 10) (v := .ref q38) hx hb hts inw_X5_init_X5 tyX5 tyX5_ok nmX5 hown hkx.1 hw.1 hw.2.1 hw.2.2 0 rfl rfl 7 (by decide) (hts _ (List.mem_of_getElem? (i := 10) rfl)) (fun _ h => h) rfl hin rfl (tyX5_ok 7 (by decide)) rfl rfl (Nat.le_of_ble_eq_true rfl) dX5_init_40 (fun H locs hP hD hS => ?_)
  have hw : Hw D A [(h0, .inr (5, [.ref q7, .ref q15, .int (0 : Int32), .int (0 : Int32), .int (0 : Int32), .null, .null, .ref q38, .null, .null])), (q7, .inl ((cy 0), 60, .inl (fun _ => 0))), (q15, .inl ((cy 0), 60, .inl (fun _ => 0))), (q38, .inl ((cy 0), 61, .inl (fun _ => 0)))] s H locs := ⟨hP, hD, hS⟩
  clear hP hD hS
  refine lv_aload_n hx hb dX5_init_43 rfl (lv_at hl 0 rfl) ?_
  refine lv_bipush (v := 60) hx hb dX5_init_44 (by decide) ?_
  refine row_newI (N' := 60) hx hb (hts _ (List.mem_of_getElem? (i := 4) rfl)) hkx hw hA (by decide) (by decide) (by decide) (Nat.le_of_ble_eq_true rfl) (Nat.le_of_ble_eq_true rfl) dX5_init_46 (fun q46 H hw => ?_)
  have hw : Hw D A [(h0, .inr (5, [.ref q7, .ref q15, .int (0 : Int32), .int (0 : Int32), .int (0 : Int32), .null, .null, .ref q38, .null, .null])), (q7, .inl ((cy 0), 60, .inl (fun _ => 0))), (q15, .inl ((cy 0), 60, .inl (fun _ => 0))), (q38, .inl ((cy 0), 61, .inl (fun _ => 0))), (q46, .inl ((cy 0), 60, .inl (fun _ => 0)))] s H locs := hw
  refine va_putF (C := RX5) (T := TX5) (N := 10) (v := .ref q46) hx hb hts inw_X5_init_X5 tyX5 tyX5_ok nmX5 hown hkx.1 hw.1 hw.2.1 hw.2.2 0 rfl rfl 8 (by decide) (hts _ (List.mem_of_getElem? (i := 11) rfl)) (fun _ h => h) rfl hin rfl (tyX5_ok 8 (by decide)) rfl rfl (Nat.le_of_ble_eq_true rfl) dX5_init_48 (fun H locs hP hD hS => ?_)
  have hw : Hw D A [(h0, .inr (5, [.ref q7, .ref q15, .int (0 : Int32), .int (0 : Int32), .int (0 : Int32), .null, .null, .ref q38, .ref q46, .null])), (q7, .inl ((cy 0), 60, .inl (fun _ => 0))), (q15, .inl ((cy 0), 60, .inl (fun _ => 0))), (q38, .inl ((cy 0), 61, .inl (fun _ => 0))), (q46, .inl ((cy 0), 60, .inl (fun _ => 0)))] s H locs := ⟨hP, hD, hS⟩
  clear hP hD hS
  refine lv_aload_n hx hb dX5_init_51 rfl (lv_at hl 0 rfl) ?_
  refine lv_sipush (v := 1059) hx hb dX5_init_52 (by decide) ?_
  refine row_newI (N' := 1059) hx hb (hts _ (List.mem_of_getElem? (i := 4) rfl)) hkx hw hA (by decide) (by decide) (by decide) (Nat.le_of_ble_eq_true rfl) (Nat.le_of_ble_eq_true rfl) dX5_init_55 (fun q55 H hw => ?_)
  have hw : Hw D A [(h0, .inr (5, [.ref q7, .ref q15, .int (0 : Int32), .int (0 : Int32), .int (0 : Int32), .null, .null, .ref q38, .ref q46, .null])), (q7, .inl ((cy 0), 60, .inl (fun _ => 0))), (q15, .inl ((cy 0), 60, .inl (fun _ => 0))), (q38, .inl ((cy 0), 61, .inl (fun _ => 0))), (q46, .inl ((cy 0), 60, .inl (fun _ => 0))), (q55, .inl ((cy 0), 1059, .inl (fun _ => 0)))] s H locs := hw
  refine va_putF (C := RX5) (T := TX5) (N := 10) (v := .ref q55) hx hb hts inw_X5_init_X5 tyX5 tyX5_ok nmX5 hown hkx.1 hw.1 hw.2.1 hw.2.2 0 rfl rfl 9 (by decide) (hts _ (List.mem_of_getElem? (i := 12) rfl)) (fun _ h => h) rfl hin rfl (tyX5_ok 9 (by decide)) rfl rfl (Nat.le_of_ble_eq_true rfl) dX5_init_57 (fun H locs hP hD hS => ?_)
  have hw : Hw D A [(h0, .inr (5, [.ref q7, .ref q15, .int (0 : Int32), .int (0 : Int32), .int (0 : Int32), .null, .null, .ref q38, .ref q46, .ref q55])), (q7, .inl ((cy 0), 60, .inl (fun _ => 0))), (q15, .inl ((cy 0), 60, .inl (fun _ => 0))), (q38, .inl ((cy 0), 61, .inl (fun _ => 0))), (q46, .inl ((cy 0), 60, .inl (fun _ => 0))), (q55, .inl ((cy 0), 1059, .inl (fun _ => 0)))] s H locs := ⟨hP, hD, hS⟩
  clear hP hD hS
  refine lv_aload_n hx hb dX5_init_60 rfl (lv_at hl 0 rfl) ?_
  refine lv_aload_n hx hb dX5_init_61 rfl (lv_at hl 1 rfl) ?_
  refine va_putF (C := RX5) (T := TX5) (N := 10) (v := .ref h1) hx hb hts inw_X5_init_X5 tyX5 tyX5_ok nmX5 hown hkx.1 hw.1 hw.2.1 hw.2.2 0 rfl rfl 5 (by decide) (hts _ (List.mem_of_getElem? (i := 13) rfl)) (fun _ h => h) rfl hin rfl (tyX5_ok 5 (by decide)) rfl rfl (Nat.le_of_ble_eq_true rfl) dX5_init_62 (fun H locs hP hD hS => ?_)
  have hw : Hw D A [(h0, .inr (5, [.ref q7, .ref q15, .int (0 : Int32), .int (0 : Int32), .int (0 : Int32), .ref h1, .null, .ref q38, .ref q46, .ref q55])), (q7, .inl ((cy 0), 60, .inl (fun _ => 0))), (q15, .inl ((cy 0), 60, .inl (fun _ => 0))), (q38, .inl ((cy 0), 61, .inl (fun _ => 0))), (q46, .inl ((cy 0), 60, .inl (fun _ => 0))), (q55, .inl ((cy 0), 1059, .inl (fun _ => 0)))] s H locs := ⟨hP, hD, hS⟩
  clear hP hD hS
  refine lv_aload_n hx hb dX5_init_65 rfl (lv_at hl 0 rfl) ?_
  refine lv_aload_n hx hb dX5_init_66 rfl (lv_at hl 2 rfl) ?_
  refine va_putF (C := RX5) (T := TX5) (N := 10) (v := .ref h2) hx hb hts inw_X5_init_X5 tyX5 tyX5_ok nmX5 hown hkx.1 hw.1 hw.2.1 hw.2.2 0 rfl rfl 6 (by decide) (hts _ (List.mem_of_getElem? (i := 14) rfl)) (fun _ h => h) rfl hin rfl (tyX5_ok 6 (by decide)) rfl rfl (Nat.le_of_ble_eq_true rfl) dX5_init_67 (fun H locs hP hD hS => ?_)
  have hw : Hw D A [(h0, .inr (5, [.ref q7, .ref q15, .int (0 : Int32), .int (0 : Int32), .int (0 : Int32), .ref h1, .ref h2, .ref q38, .ref q46, .ref q55])), (q7, .inl ((cy 0), 60, .inl (fun _ => 0))), (q15, .inl ((cy 0), 60, .inl (fun _ => 0))), (q38, .inl ((cy 0), 61, .inl (fun _ => 0))), (q46, .inl ((cy 0), 60, .inl (fun _ => 0))), (q55, .inl ((cy 0), 1059, .inl (fun _ => 0)))] s H locs := ⟨hP, hD, hS⟩
  clear hP hD hS
  refine W.widen (k := 5) (n := 1300) (Nat.le_of_ble_eq_true rfl) (Nat.le_of_ble_eq_true rfl) ?_
  exact end_v (w1 := wi_X5_init cy h0 h1 h2) (u := (fun k => ([q7, q15, q38, q46, q55] : List Nat).getD k 0)) C0 hw trivial dX5_init_70
theorem hd_X2_init : yX2_init.cls ≠ "java/lang/invoke/MethodHandle" ∧ yX2_init.cls ≠ "java/lang/invoke/VarHandle" ∧ (parseMethodDescriptor yX2_init.desc).map (fun d => d.parameters.length) = some 4 := by decide +kernel
abbrev rm_X2_init : Room := { frames := 1, cells := 8, slots := 373, locals := 30 }
theorem inw_X2_init_X2 : ∀ w ∈ u_ws RX2 TX2 15, w ∈ wsX2_init := fun _ h => List.mem_cons_of_mem _ (List.mem_append_right _ h)
abbrev wi_X2_init (cy : Nat → ClassId) (h0 h1 h2 h3 h4 : Nat) : (Nat → Nat) → va_W := fun u => [(h0, .inr (2, [.ref (u 0), .ref (u 1), .ref (u 2), .ref (u 3), .int (0 : Int32), .ref (u 4), .ref (u 5), .int (0 : Int32), .ref h1, .ref h2, .ref h3, .ref h4, .ref (u 6), .int (0 : Int32), .ref (u 7)])), ((u 0), .inl ((cy 0), 12, .inl (fun _ => 0))), ((u 1), .inl ((cy 0), 12, .inl (fun _ => 0))), ((u 2), .inl ((cy 0), 12, .inl (fun _ => 0))), ((u 3), .inl ((cy 0), 12, .inl (fun _ => 0))), ((u 4), .inl ((cy 0), 12, .inl (fun _ => 0))), ((u 5), .inl ((cy 0), 20, .inl (fun _ => 0))), ((u 6), .inl ((cy 0), 20, .inl (fun _ => 0))), ((u 7), .inl ((cy 0), 273, .inl (fun _ => 0)))]
set_option maxHeartbeats 8000000 in
set_option maxRecDepth 100000 in
theorem c_X2_init (l : Launch) (D : va_G) (cy : Nat → ClassId) (h0 h1 h2 h3 h4 : Nat) : Ct l yX2_init wsX2_init rm_X2_init D cy [.ref h0, .ref h1, .ref h2, .ref h3, .ref h4] [(h0, .inr (2, [.null, .null, .null, .null, .int 0, .null, .null, .int 0, .null, .null, .null, .null, .null, .int 0, .null]))] 8 373 (Rv D (wi_X2_init cy h0 h1 h2 h3 h4) (fun _ => True)) := by
  refine Ct.ofI (cc := cX2_init) (maxL := 5) (rt := none) (by decide) rfl (Nat.le_of_ble_eq_true rfl) rfl ?_
  intro p e s m below meth c A C0 hin H locs ls hw hl
  obtain ⟨⟨hx, hb, hml, hown, hts⟩, hr, hlocks, hkx, hA⟩ := id C0
  have hl : lv_has ls 5 [(0, .ref h0), (1, .ref h1), (2, .ref h2), (3, .ref h3), (4, .ref h4)] := hl
  refine lv_aload_n hx hb dX2_init_0 rfl (lv_at hl 0 rfl) ?_
  refine W.objInit hx hb hown (hts _ (List.mem_of_getElem? (i := 1) rfl)) (hts _ (List.mem_of_getElem? (i := 2) rfl)) (hts _ (List.mem_of_getElem? (i := 3) rfl)) rfl (by rw [hml]; exact hl.1) rfl dX2_init_1 (Nat.le_of_ble_eq_true rfl) (Nat.le_of_ble_eq_true rfl) ?_
  refine W.eq (g2 := F0 m 4 ls []) rfl ?_
  refine lv_aload_n hx hb dX2_init_4 rfl (lv_at hl 0 rfl) ?_
  refine lv_bipush (v := 12) hx hb dX2_init_5 (by decide) ?_
  refine row_newI (N' := 12) hx hb (hts _ (List.mem_of_getElem? (i := 4) rfl)) hkx hw hA (by decide) (by decide) (by decide) (Nat.le_of_ble_eq_true rfl) (Nat.le_of_ble_eq_true rfl) dX2_init_7 (fun q7 H hw => ?_)
  have hw : Hw D A [(h0, .inr (2, [.null, .null, .null, .null, .int 0, .null, .null, .int 0, .null, .null, .null, .null, .null, .int 0, .null])), (q7, .inl ((cy 0), 12, .inl (fun _ => 0)))] s H locs := hw
  refine va_putF (C := RX2) (T := TX2) (N := 15) (v := .ref q7) hx hb hts inw_X2_init_X2 tyX2 tyX2_ok nmX2 hown hkx.1 hw.1 hw.2.1 hw.2.2 0 rfl rfl 0 (by decide) (hts _ (List.mem_of_getElem? (i := 5) rfl)) (fun _ h => h) rfl hin rfl (tyX2_ok 0 (by decide)) rfl rfl (Nat.le_of_ble_eq_true rfl) dX2_init_9 (fun H locs hP hD hS => ?_)
  have hw : Hw D A [(h0, .inr (2, [.ref q7, .null, .null, .null, .int 0, .null, .null, .int 0, .null, .null, .null, .null, .null, .int 0, .null])), (q7, .inl ((cy 0), 12, .inl (fun _ => 0)))] s H locs := ⟨hP, hD, hS⟩
  clear hP hD hS
  refine lv_aload_n hx hb dX2_init_12 rfl (lv_at hl 0 rfl) ?_
  refine lv_bipush (v := 12) hx hb dX2_init_13 (by decide) ?_
  refine row_newI (N' := 12) hx hb (hts _ (List.mem_of_getElem? (i := 4) rfl)) hkx hw hA (by decide) (by decide) (by decide) (Nat.le_of_ble_eq_true rfl) (Nat.le_of_ble_eq_true rfl) dX2_init_15 (fun q15 H hw => ?_)
  have hw : Hw D A [(h0, .inr (2, [.ref q7, .null, .null, .null, .int 0, .null, .null, .int 0, .null, .null, .null, .null, .null, .int 0, .null])), (q7, .inl ((cy 0), 12, .inl (fun _ => 0))), (q15, .inl ((cy 0), 12, .inl (fun _ => 0)))] s H locs := hw
  refine va_putF (C := RX2) (T := TX2) (N := 15) (v := .ref q15) hx hb hts inw_X2_init_X2 tyX2 tyX2_ok nmX2 hown hkx.1 hw.1 hw.2.1 hw.2.2 0 rfl rfl 1 (by decide) (hts _ (List.mem_of_getElem? (i := 6) rfl)) (fun _ h => h) rfl hin rfl (tyX2_ok 1 (by decide)) rfl rfl (Nat.le_of_ble_eq_true rfl) dX2_init_17 (fun H locs hP hD hS => ?_)
  have hw : Hw D A [(h0, .inr (2, [.ref q7, .ref q15, .null, .null, .int 0, .null, .null, .int 0, .null, .null, .null, .null, .null, .int 0, .null])), (q7, .inl ((cy 0), 12, .inl (fun _ => 0))), (q15, .inl ((cy 0), 12, .inl (fun _ => 0)))] s H locs := ⟨hP, hD, hS⟩
  clear hP hD hS
  refine lv_aload_n hx hb dX2_init_20 rfl (lv_at hl 0 rfl) ?_
  refine lv_bipush (v := 12) hx hb dX2_init_21 (by decide) ?_
  refine row_newI (N' := 12) hx hb (hts _ (List.mem_of_getElem? (i := 4) rfl)) hkx hw hA (by decide) (by decide) (by decide) (Nat.le_of_ble_eq_true rfl) (Nat.le_of_ble_eq_true rfl) dX2_init_23 (fun q23 H hw => ?_)
  have hw : Hw D A [(h0, .inr (2, [.ref q7, .ref q15, .null, .null, .int 0, .null, .null, .int 0, .null, .null, .null, .null, .null, .int 0, .null])), (q7, .inl ((cy 0), 12, .inl (fun _ => 0))), (q15, .inl ((cy 0), 12, .inl (fun _ => 0))), (q23, .inl ((cy 0), 12, .inl (fun _ => 0)))] s H locs := hw
  refine va_putF (C := RX2) (T := TX2) (N := 15) (v := .ref q23) hx hb hts inw_X2_init_X2 tyX2 tyX2_ok nmX2 hown hkx.1 hw.1 hw.2.1 hw.2.2 0 rfl rfl 2 (by decide) (hts _ (List.mem_of_getElem? (i := 7) rfl)) (fun _ h => h) rfl hin rfl (tyX2_ok 2 (by decide)) rfl rfl (Nat.le_of_ble_eq_true rfl) dX2_init_25 (fun H locs hP hD hS => ?_)
  have hw : Hw D A [(h0, .inr (2, [.ref q7, .ref q15, .ref q23, .null, .int 0, .null, .null, .int 0, .null, .null, .null, .null, .null, .int 0, .null])), (q7, .inl ((cy 0), 12, .inl (fun _ => 0))), (q15, .inl ((cy 0), 12, .inl (fun _ => 0))), (q23, .inl ((cy 0), 12, .inl (fun _ => 0)))] s H locs := ⟨hP, hD, hS⟩
  clear hP hD hS
  refine lv_aload_n hx hb dX2_init_28 rfl (lv_at hl 0 rfl) ?_
  refine lv_bipush (v := 12) hx hb dX2_init_29 (by decide) ?_
  refine row_newI (N' := 12) hx hb (hts _ (List.mem_of_getElem? (i := 4) rfl)) hkx hw hA (by decide) (by decide) (by decide) (Nat.le_of_ble_eq_true rfl) (Nat.le_of_ble_eq_true rfl) dX2_init_31 (fun q31 H hw => ?_)
  have hw : Hw D A [(h0, .inr (2, [.ref q7, .ref q15, .ref q23, .null, .int 0, .null, .null, .int 0, .null, .null, .null, .null, .null, .int 0, .null])), (q7, .inl ((cy 0), 12, .inl (fun _ => 0))), (q15, .inl ((cy 0), 12, .inl (fun _ => 0))), (q23, .inl ((cy 0), 12, .inl (fun _ => 0))), (q31, .inl ((cy 0), 12, .inl (fun _ => 0)))] s H locs := hw
  refine va_putF (C := RX2) (T := TX2) (N := 15) (v := .ref q31) hx hb hts inw_X2_init_X2 tyX2 tyX2_ok nmX2 hown hkx.1 hw.1 hw.2.1 hw.2.2 0 rfl rfl 3 (by decide) (hts _ (List.mem_of_getElem? (i := 8) rfl)) (fun _ h => h) rfl hin rfl (tyX2_ok 3 (by decide)) rfl rfl (Nat.le_of_ble_eq_true rfl) dX2_init_33 (fun H locs hP hD hS => ?_)
  have hw : Hw D A [(h0, .inr (2, [.ref q7, .ref q15, .ref q23, .ref q31, .int 0, .null, .null, .int 0, .null, .null, .null, .null, .null, .int 0, .null])), (q7, .inl ((cy 0), 12, .inl (fun _ => 0))), (q15, .inl ((cy 0), 12, .inl (fun _ => 0))), (q23, .inl ((cy 0), 12, .inl (fun _ => 0))), (q31, .inl ((cy 0), 12, .inl (fun _ => 0)))] s H locs := ⟨hP, hD, hS⟩
  clear hP hD hS
  refine lv_aload_n hx hb dX2_init_36 rfl (lv_at hl 0 rfl) ?_
  refine lv_iconst (v := 0) hx hb dX2_init_37 (by decide) ?_
  refine va_put (C := RX2) (T := TX2) (N := 15) (v := .int (0 : Int32)) hx hb hts inw_X2_init_X2 tyX2 tyX2_ok nmX2 hown hkx.1 hw.1 hw.2.1 hw.2.2 0 rfl rfl 4 (by decide) (hts _ (List.mem_of_getElem? (i := 9) rfl)) (fun _ h => h) rfl (tyX2_ok 4 (by decide)) rfl rfl (Nat.le_of_ble_eq_true rfl) dX2_init_38 (fun H locs hP hD hS => ?_)
  have hw : Hw D A [(h0, .inr (2, [.ref q7, .ref q15, .ref q23, .ref q31, .int (0 : Int32), .null, .null, .int 0, .null, .null, .null, .null, .null, .int 0, .null])), (q7, .inl ((cy 0), 12, .inl (fun _ => 0))), (q15, .inl ((cy 0), 12, .inl (fun _ => 0))), (q23, .inl ((cy 0), 12, .inl (fun _ => 0))), (q31, .inl ((cy 0), 12, .inl (fun _ => 0)))] s H locs := ⟨hP, hD, hS⟩
  clear hP hD hS
  refine lv_aload_n hx hb dX2_init_41 rfl (lv_at hl 0 rfl) ?_
  refine lv_bipush (v := 12) hx hb dX2_init_42 (by decide) ?_
  refine row_newI (N' := 12) hx hb (hts _ (List.mem_of_getElem? (i := 4) rfl)) hkx hw hA (by decide) (by decide) (by decide) (Nat.le_of_ble_eq_true rfl) (Nat.le_of_ble_eq_true rfl) dX2_init_44 (fun q44 H hw => ?_)
  have hw : Hw D A [(h0, .inr (2, [.ref q7, .ref q15, .ref q23, .ref q31, .int (0 : Int32), .null, .null, .int 0, .null, .null, .null, .null, .null, .int 0, .null])), (q7, .inl ((cy 0), 12, .inl (fun _ => 0))), (q15, .inl ((cy 0), 12, .inl (fun _ => 0))), (q23, .inl ((cy 0), 12, .inl (fun _ => 0))), (q31, .inl ((cy 0), 12, .inl (fun _ => 0))), (q44, .inl ((cy 0), 12, .inl (fun _ => 0)))] s H locs := hw
  refine va_putF (C := RX2) (T := TX2) (N := 15) (v := .ref q44) hx hb hts inw_X2_init_X2 tyX2 tyX2_ok nmX2 hown hkx.1 hw.1 hw.2.1 hw.2.2 0 rfl rfl 5 (by decide) (hts _ (List.mem_of_getElem? (i := 10) rfl)) (fun _ h => h) rfl hin rfl (tyX2_ok 5 (by decide)) rfl rfl (Nat.le_of_ble_eq_true rfl) dX2_init_46 (fun H locs hP hD hS => ?_)
  have hw : Hw D A [(h0, .inr (2, [.ref q7, .ref q15, .ref q23, .ref q31, .int (0 : Int32), .ref q44, .null, .int 0, .null, .null, .null, .null, .null, .int 0, .null])), (q7, .inl ((cy 0), 12, .inl (fun _ => 0))), (q15, .inl ((cy 0), 12, .inl (fun _ => 0))), (q23, .inl ((cy 0), 12, .inl (fun _ => 0))), (q31, .inl ((cy 0), 12, .inl (fun _ => 0))), (q44, .inl ((cy 0), 12, .inl (fun _ => 0)))] s H locs := ⟨hP, hD, hS⟩
  clear hP hD hS
  refine lv_aload_n hx hb dX2_init_49 rfl (lv_at hl 0 rfl) ?_
  refine lv_bipush (v := 20) hx hb dX2_init_50 (by decide) ?_
  refine row_newI (N' := 20) hx hb (hts _ (List.mem_of_getElem? (i := 4) rfl)) hkx hw hA (by decide) (by decide) (by decide) (Nat.le_of_ble_eq_true rfl) (Nat.le_of_ble_eq_true rfl) dX2_init_52 (fun q52 H hw => ?_)
  have hw : Hw D A [(h0, .inr (2, [.ref q7, .ref q15, .ref q23, .ref q31, .int (0 : Int32), .ref q44, .null, .int 0, .null, .null, .null, .null, .null, .int 0, .null])), (q7, .inl ((cy 0), 12, .inl (fun _ => 0))), (q15, .inl ((cy 0), 12, .inl (fun _ => 0))), (q23, .inl ((cy 0), 12, .inl (fun _ => 0))), (q31, .inl ((cy 0), 12, .inl (fun _ => 0))), (q44, .inl ((cy 0), 12, .inl (fun _ => 0))), (q52, .inl ((cy 0), 20, .inl (fun _ => 0)))] s H locs := hw
  refine va_putF (C := RX2) (T := TX2) (N := 15) (v := .ref q52) hx hb hts inw_X2_init_X2 tyX2 tyX2_ok nmX2 hown hkx.1 hw.1 hw.2.1 hw.2.2 0 rfl rfl 6 (by decide) (hts _ (List.mem_of_getElem? (i := 11) rfl)) (fun _ h => h) rfl hin rfl (tyX2_ok 6 (by decide)) rfl rfl (Nat.le_of_ble_eq_true rfl) dX2_init_54 (fun H locs hP hD hS => ?_)
  have hw : Hw D A [(h0, .inr (2, [.ref q7, .ref q15, .ref q23, .ref q31, .int (0 : Int32), .ref q44, .ref q52, .int 0, .null, .null, .null, .null, .null, .int 0, .null])), (q7, .inl ((cy 0), 12, .inl (fun _ => 0))), (q15, .inl ((cy 0), 12, .inl (fun _ => 0))), (q23, .inl ((cy 0), 12, .inl (fun _ => 0))), (q31, .inl ((cy 0), 12, .inl (fun _ => 0))), (q44, .inl ((cy 0), 12, .inl (fun _ => 0))), (q52, .inl ((cy 0), 20, .inl (fun _ => 0)))] s H locs := ⟨hP, hD, hS⟩
  clear hP hD hS
  refine lv_aload_n hx hb dX2_init_57 rfl (lv_at hl 0 rfl) ?_
  refine lv_iconst (v := 0) hx hb dX2_init_58 (by decide) ?_
  refine va_put (C := RX2) (T := TX2) (N := 15) (v := .int (0 : Int32)) hx hb hts inw_X2_init_X2 tyX2 tyX2_ok nmX2 hown hkx.1 hw.1 hw.2.1 hw.2.2 0 rfl rfl 7 (by decide) (hts _ (List.mem_of_getElem? (i := 12) rfl)) (fun _ h => h) rfl (tyX2_ok 7 (by decide)) rfl rfl (Nat.le_of_ble_eq_true rfl) dX2_init_59 (fun H locs hP hD hS => ?_)
  have hw : Hw D A [(h0, .inr (2, [.ref q7, .ref q15, .ref q23, .ref q31, .int (0 : Int32), .ref q44, .ref q52, .int (0 : Int32), .null, .null, .null, .null, .null, .int 0, .null])), (q7, .inl ((cy 0), 12, .inl (fun _ => 0))), (q15, .inl ((cy 0), 12, .inl (fun _ => 0))), (q23, .inl ((cy 0), 12, .inl (fun _ => 0))), (q31, .inl ((cy 0), 12, .inl (fun _ => 0))), (q44, .inl ((cy 0), 12, .inl (fun _ => 0))), (q52, .inl ((cy 0), 20, .inl (fun _ => 0)))] s H locs := ⟨hP, hD, hS⟩
  clear hP hD hS
  refine lv_aload_n hx hb dX2_init_62 rfl (lv_at hl 0 rfl) ?_
  refine lv_bipush (v := 20) hx hb dX2_init_63 (by decide) ?_
  refine row_newI (N' := 20) hx hb (hts _ (List.mem_of_getElem? (i := 4) rfl)) hkx hw hA (by decide) (by decide) (by decide) (Nat.le_of_ble_eq_true rfl) (Nat.le_of_ble_eq_true rfl) dX2_init_65 (fun q65 H hw => ?_)
  have hw : Hw D A [(h0, .inr (2, [.ref q7, .ref q15, .ref q23, .ref q31, .int (0 : Int32), .ref q44, .ref q52, .int (0 : Int32), .null, .null, .null, .null, .null, .int 0, .null])), (q7, .inl ((cy 0), 12, .inl (fun _ => 0))), (q15, .inl ((cy 0), 12, .inl (fun _ => 0))), (q23, .inl ((cy 0), 12, .inl (fun _ => 0))), (q31, .inl ((cy 0), 12, .inl (fun _ => 0))), (q44, .inl ((cy 0), 12, .inl (fun _ => 0))), (q52, .inl ((cy 0), 20, .inl (fun _ => 0))), (q65, .inl ((cy 0), 20, .inl (fun _ => 0)))] s H locs := hw
  refine va_putF (C := RX2) (T := TX2) (N := 15) (v := .ref q65) hx hb hts inw_X2_init_X2 tyX2 tyX2_ok nmX2 hown hkx.1 hw.1 hw.2.1 hw.2.2 0 rfl rfl 12 (by decide) (hts _ (List.mem_of_getElem? (i := 13) rfl)) (fun _ h => h) rfl hin rfl (tyX2_ok 12 (by decide)) rfl rfl (Nat.le_of_ble_eq_true rfl) dX2_init_67 (fun H locs hP hD hS => ?_)
  have hw : Hw D A [(h0, .inr (2, [.ref q7, .ref q15, .ref q23, .ref q31, .int (0 : Int32), .ref q44, .ref q52, .int (0 : Int32), .null, .null, .null, .null, .ref q65, .int 0, .null])), (q7, .inl ((cy 0), 12, .inl (fun _ => 0))), (q15, .inl ((cy 0), 12, .inl (fun _ => 0))), (q23, .inl ((cy 0), 12, .inl (fun _ => 0))), (q31, .inl ((cy 0), 12, .inl (fun _ => 0))), (q44, .inl ((cy 0), 12, .inl (fun _ => 0))), (q52, .inl ((cy 0), 20, .inl (fun _ => 0))), (q65, .inl ((cy 0), 20, .inl (fun _ => 0)))] s H locs := ⟨hP, hD, hS⟩
  clear hP hD hS
  refine lv_aload_n hx hb dX2_init_70 rfl (lv_at hl 0 rfl) ?_
  refine lv_iconst (v := 0) hx hb dX2_init_71 (by decide) ?_
  refine va_put (C := RX2) (T := TX2) (N := 15) (v := .int (0 : Int32)) hx hb hts inw_X2_init_X2 tyX2 tyX2_ok nmX2 hown hkx.1 hw.1 hw.2.1 hw.2.2 0 rfl rfl 13 (by decide) (hts _ (List.mem_of_getElem? (i := 14) rfl)) (fun _ h => h) rfl (tyX2_ok 13 (by decide)) rfl rfl (Nat.le_of_ble_eq_true rfl) dX2_init_72 (fun H locs hP hD hS => ?_)
  have hw : Hw D A [(h0, .inr (2, [.ref q7, .ref q15, .ref q23, .ref q31, .int (0 : Int32), .ref q44, .ref q52, .int (0 : Int32), .null, .null, .null, .null, .ref q65, .int (0 : Int32), .null])), (q7, .inl ((cy 0), 12, .inl (fun _ => 0))), (q15, .inl ((cy 0), 12, .inl (fun _ => 0))), (q23, .inl ((cy 0), 12, .inl (fun _ => 0))), (q31, .inl ((cy 0), 12, .inl (fun _ => 0))), (q44, .inl ((cy 0), 12, .inl (fun _ => 0))), (q52, .inl ((cy 0), 20, .inl (fun _ => 0))), (q65, .inl ((cy 0), 20, .inl (fun _ => 0)))] s H locs := ⟨hP, hD, hS⟩
  clear hP hD hS
  refine lv_aload_n hx hb dX2_init_75 rfl (lv_at hl 0 rfl) ?_
  refine lv_sipush (v := 273) hx hb dX2_init_76 (by decide) ?_
  refine row_newI (N' := 273) hx hb (hts _ (List.mem_of_getElem? (i := 4) rfl)) hkx hw hA (by decide) (by decide) (by decide) (Nat.le_of_ble_eq_true rfl) (Nat.le_of_ble_eq_true rfl) dX2_init_79 (fun q79 H hw => ?_)
  have hw : Hw D A [(h0, .inr (2, [.ref q7, .ref q15, .ref q23, .ref q31, .int (0 : Int32), .ref q44, .ref q52, .int (0 : Int32), .null, .null, .null, .null, .ref q65, .int (0 : Int32), .null])), (q7, .inl ((cy 0), 12, .inl (fun _ => 0))), (q15, .inl ((cy 0), 12, .inl (fun _ => 0))), (q23, .inl ((cy 0), 12, .inl (fun _ => 0))), (q31, .inl ((cy 0), 12, .inl (fun _ => 0))), (q44, .inl ((cy 0), 12, .inl (fun _ => 0))), (q52, .inl ((cy 0), 20, .inl (fun _ => 0))), (q65, .inl ((cy 0), 20, .inl (fun _ => 0))), (q79, .inl ((cy 0), 273, .inl (fun _ => 0)))] s H locs := hw
  refine va_putF (C := RX2) (T := TX2) (N := 15) (v := .ref q79) hx hb hts inw_X2_init_X2 tyX2 tyX2_ok nmX2 hown hkx.1 hw.1 hw.2.1 hw.2.2 0 rfl rfl 14 (by decide) (hts _ (List.mem_of_getElem? (i := 15) rfl)) (fun _ h => h) rfl hin rfl (tyX2_ok 14 (by decide)) rfl rfl (Nat.le_of_ble_eq_true rfl) dX2_init_81 (fun H locs hP hD hS => ?_)
  have hw : Hw D A [(h0, .inr (2, [.ref q7, .ref q15, .ref q23, .ref q31, .int (0 : Int32), .ref q44, .ref q52, .int (0 : Int32), .null, .null, .null, .null, .ref q65, .int (0 : Int32), .ref q79])), (q7, .inl ((cy 0), 12, .inl (fun _ => 0))), (q15, .inl ((cy 0), 12, .inl (fun _ => 0))), (q23, .inl ((cy 0), 12, .inl (fun _ => 0))), (q31, .inl ((cy 0), 12, .inl (fun _ => 0))), (q44, .inl ((cy 0), 12, .inl (fun _ => 0))), (q52, .inl ((cy 0), 20, .inl (fun _ => 0))), (q65, .inl ((cy 0), 20, .inl (fun _ => 0))), (q79, .inl ((cy 0), 273, .inl (fun _ => 0)))] s H locs := ⟨hP, hD, hS⟩
  clear hP hD hS
  refine lv_aload_n hx hb dX2_init_84 rfl (lv_at hl 0 rfl) ?_
  refine lv_aload_n hx hb dX2_init_85 rfl (lv_at hl 1 rfl) ?_
  refine va_putF (C := RX2) (T := TX2) (N := 15) (v := .ref h1) hx hb hts inw_X2_init_X2 tyX2 tyX2_ok nmX2 hown hkx.1 hw.1 hw.2.1 hw.2.2 0 rfl rfl 8 (by decide) (hts _ (List.mem_of_getElem? (i := 16) rfl)) (fun _ h => h) rfl hin rfl (tyX2_ok 8 (by decide)) rfl rfl (Nat.le_of_ble_eq_true rfl) dX2_init_86 (fun H locs hP hD hS => ?_)
  have hw : Hw D A [(h0, .inr (2, [.ref q7, .ref q15, .ref q23, .ref q31, .int (0 : Int32), .ref q44, .ref q52, .int (0 : Int32), .ref h1, .null, .null, .null, .ref q65, .int (0 : Int32), .ref q79])), (q7, .inl ((cy 0), 12, .inl (fun _ => 0))), (q15, .inl ((cy 0), 12, .inl (fun _ => 0))), (q23, .inl ((cy 0), 12, .inl (fun _ => 0))), (q31, .inl ((cy 0), 12, .inl (fun _ => 0))), (q44, .inl ((cy 0), 12, .inl (fun _ => 0))), (q52, .inl ((cy 0), 20, .inl (fun _ => 0))), (q65, .inl ((cy 0), 20, .inl (fun _ => 0))), (q79, .inl ((cy 0), 273, .inl (fun _ => 0)))] s H locs := ⟨hP, hD, hS⟩
  clear hP hD hS
  refine lv_aload_n hx hb dX2_init_89 rfl (lv_at hl 0 rfl) ?_
  refine lv_aload_n hx hb dX2_init_90 rfl (lv_at hl 2 rfl) ?_
  refine va_putF (C := RX2) (T := TX2) (N := 15) (v := .ref h2) hx hb hts inw_X2_init_X2 tyX2 tyX2_ok nmX2 hown hkx.1 hw.1 hw.2.1 hw.2.2 0 rfl rfl 9 (by decide) (hts _ (List.mem_of_getElem? (i := 17) rfl)) (fun _ h => h) rfl hin rfl (tyX2_ok 9 (by decide)) rfl rfl (Nat.le_of_ble_eq_true rfl) dX2_init_91 (fun H locs hP hD hS => ?_)
  have hw : Hw D A [(h0, .inr (2, [.ref q7, .ref q15, .ref q23, .ref q31, .int (0 : Int32), .ref q44, .ref q52, .int (0 : Int32), .ref h1, .ref h2, .null, .null, .ref q65, .int (0 : Int32), .ref q79])), (q7, .inl ((cy 0), 12, .inl (fun _ => 0))), (q15, .inl ((cy 0), 12, .inl (fun _ => 0))), (q23, .inl ((cy 0), 12, .inl (fun _ => 0))), (q31, .inl ((cy 0), 12, .inl (fun _ => 0))), (q44, .inl ((cy 0), 12, .inl (fun _ => 0))), (q52, .inl ((cy 0), 20, .inl (fun _ => 0))), (q65, .inl ((cy 0), 20, .inl (fun _ => 0))), (q79, .inl ((cy 0), 273, .inl (fun _ => 0)))] s H locs := ⟨hP, hD, hS⟩
  clear hP hD hS
  refine lv_aload_n hx hb dX2_init_94 rfl (lv_at hl 0 rfl) ?_
  refine lv_aload_n hx hb dX2_init_95 rfl (lv_at hl 3 rfl) ?_
  refine va_putF (C := RX2) (T := TX2) (N := 15) (v := .ref h3) hx hb hts inw_X2_init_X2 tyX2 tyX2_ok nmX2 hown hkx.1 hw.1 hw.2.1 hw.2.2 0 rfl rfl 10 (by decide) (hts _ (List.mem_of_getElem? (i := 18) rfl)) (fun _ h => h) rfl hin rfl (tyX2_ok 10 (by decide)) rfl rfl (Nat.le_of_ble_eq_true rfl) dX2_init_96 (fun H locs hP hD hS => ?_)
  have hw : Hw D A [(h0, .inr (2, [.ref q7, .ref q15, .ref q23, .ref q31, .int (0 : Int32), .ref q44, .ref q52, .int (0 : Int32), .ref h1, .ref h2, .ref h3, .null, .ref q65, .int (0 : Int32), .ref q79])), (q7, .inl ((cy 0), 12, .inl (fun _ => 0))), (q15, .inl ((cy 0), 12, .inl (fun _ => 0))), (q23, .inl ((cy 0), 12, .inl (fun _ => 0))), (q31, .inl ((cy 0), 12, .inl (fun _ => 0))), (q44, .inl ((cy 0), 12, .inl (fun _ => 0))), (q52, .inl ((cy 0), 20, .inl (fun _ => 0))), (q65, .inl ((cy 0), 20, .inl (fun _ => 0))), (q79, .inl ((cy 0), 273, .inl (fun _ => 0)))] s H locs := ⟨hP, hD, hS⟩
  clear hP hD hS
  refine lv_aload_n hx hb dX2_init_99 rfl (lv_at hl 0 rfl) ?_
  refine lv_aload hx hb dX2_init_100 (lv_at hl 4 rfl) ?_
  refine va_putF (C := RX2) (T := TX2) (N := 15) (v := .ref h4) hx hb hts inw_X2_init_X2 tyX2 tyX2_ok nmX2 hown hkx.1 hw.1 hw.2.1 hw.2.2 0 rfl rfl 11 (by decide) (hts _ (List.mem_of_getElem? (i := 19) rfl)) (fun _ h => h) rfl hin rfl (tyX2_ok 11 (by decide)) rfl rfl (Nat.le_of_ble_eq_true rfl) dX2_init_102 (fun H locs hP hD hS => ?_)
  have hw : Hw D A [(h0, .inr (2, [.ref q7, .ref q15, .ref q23, .ref q31, .int (0 : Int32), .ref q44, .ref q52, .int (0 : Int32), .ref h1, .ref h2, .ref h3, .ref h4, .ref q65, .int (0 : Int32), .ref q79])), (q7, .inl ((cy 0), 12, .inl (fun _ => 0))), (q15, .inl ((cy 0), 12, .inl (fun _ => 0))), (q23, .inl ((cy 0), 12, .inl (fun _ => 0))), (q31, .inl ((cy 0), 12, .inl (fun _ => 0))), (q44, .inl ((cy 0), 12, .inl (fun _ => 0))), (q52, .inl ((cy 0), 20, .inl (fun _ => 0))), (q65, .inl ((cy 0), 20, .inl (fun _ => 0))), (q79, .inl ((cy 0), 273, .inl (fun _ => 0)))] s H locs := ⟨hP, hD, hS⟩
  clear hP hD hS
  refine W.widen (k := 8) (n := 373) (Nat.le_of_ble_eq_true rfl) (Nat.le_of_ble_eq_true rfl) ?_
  exact end_v (w1 := wi_X2_init cy h0 h1 h2 h3 h4) (u := (fun k => ([q7, q15, q23, q31, q44, q52, q65, q79] : List Nat).getD k 0)) C0 hw trivial dX2_init_105
