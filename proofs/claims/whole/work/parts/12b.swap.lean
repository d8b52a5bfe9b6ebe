/-! Tree.swapRows, by hand: its fields change places -/
def cfR (cy : Nat → ClassId) (ad φ κ : Nat → Nat) (σ : Nat → Nat → Int32) (τ : Nat → Nat → Int64) : va_W := [
  ((ad 0), .inr (7, [.ref (ad 1), .ref (ad 2), .ref (ad 3), .ref (ad 4), .ref (ad 6), .ref (ad 7), .int (σ 0 0), .int (σ 1 0), .int (σ 2 0)])),
  ((ad 1), .inr (4, [.ref (ad 8), .ref (ad 9), .int (σ 3 0)])),
  ((ad 2), .inr (3, [.ref (ad 10), .int (σ 4 0)])),
  ((ad 3), .inr (1, [.ref (ad 11), .ref (ad 12), .ref (ad 13), .ref (ad 14), .ref (ad 15), .ref (ad 16), .ref (ad 17), .ref (ad 18), .int (σ 5 0)])),
  ((ad 4), .inr (6, [.ref (ad 19), .ref (ad 20), .ref (ad 21), .int (σ 6 0), .int (σ 7 0), .ref (ad 3), .ref (ad 1), .ref (ad 5), .ref (ad 22), .ref (φ 0), .ref (φ 1), .ref (φ 2), .ref (φ 3), .int (σ 8 0), .int (σ 9 0)])),
  ((ad 5), .inr (0, [.ref (ad 27), .ref (ad 3)])),
  ((ad 6), .inr (2, [.ref (ad 28), .ref (ad 29), .ref (ad 30), .ref (ad 31), .int (σ 10 0), .ref (ad 32), .ref (ad 33), .int (σ 11 0), .ref (ad 3), .ref (ad 2), .ref (ad 4), .ref (ad 1), .ref (ad 34), .int (σ 12 0), .ref (ad 35)])),
  ((ad 7), .inr (5, [.ref (ad 36), .ref (ad 37), .int (σ 13 0), .int (σ 14 0), .int (σ 15 0), .ref (ad 2), .ref (ad 1), .ref (ad 38), .ref (ad 39), .ref (ad 40)])),
  ((ad 8), .inl ((cy 0), 10, .inl (σ 16))),
  ((ad 9), .inl ((cy 0), 4, .inl (σ 17))),
  ((ad 10), .inl ((cy 0), 60, .inl (σ 18))),
  ((ad 11), .inl ((cy 0), 20, .inl (σ 19))),
  ((ad 12), .inl ((cy 0), 20, .inl (σ 20))),
  ((ad 13), .inl ((cy 0), 20, .inl (σ 21))),
  ((ad 14), .inl ((cy 2), 20, .inl (σ 22))),
  ((ad 15), .inl ((cy 0), 20, .inl (σ 23))),
  ((ad 16), .inl ((cy 0), 20, .inl (σ 24))),
  ((ad 17), .inl ((cy 0), 20, .inl (σ 25))),
  ((ad 18), .inl ((cy 0), 60, .inl (σ 26))),
  ((ad 19), .inl ((cy 2), 20, .inl (σ 27))),
  ((ad 20), .inl ((cy 0), 20, .inl (σ 28))),
  ((ad 21), .inl ((cy 0), 60, .inl (σ 29))),
  ((ad 22), .inl ((cy 0), 4, .inl (σ 30))),
  ((κ 0), .inl ((cy 1), 2744, .inr (.inl (τ 0)))),
  ((κ 1), .inl ((cy 1), 2744, .inr (.inl (τ 1)))),
  ((κ 2), .inl ((cy 0), 2744, .inl (σ 31))),
  ((κ 3), .inl ((cy 0), 2744, .inl (σ 32))),
  ((ad 27), .inl ((cy 0), 4, .inl (σ 33))),
  ((ad 28), .inl ((cy 0), 12, .inl (σ 34))),
  ((ad 29), .inl ((cy 0), 12, .inl (σ 35))),
  ((ad 30), .inl ((cy 0), 12, .inl (σ 36))),
  ((ad 31), .inl ((cy 0), 12, .inl (σ 37))),
  ((ad 32), .inl ((cy 0), 12, .inl (σ 38))),
  ((ad 33), .inl ((cy 0), 20, .inl (σ 39))),
  ((ad 34), .inl ((cy 0), 20, .inl (σ 40))),
  ((ad 35), .inl ((cy 0), 273, .inl (σ 41))),
  ((ad 36), .inl ((cy 0), 60, .inl (σ 42))),
  ((ad 37), .inl ((cy 0), 60, .inl (σ 43))),
  ((ad 38), .inl ((cy 0), 61, .inl (σ 44))),
  ((ad 39), .inl ((cy 0), 60, .inl (σ 45))),
  ((ad 40), .inl ((cy 0), 1059, .inl (σ 46)))]
theorem inw_X6_swapRows_X6 : ∀ w ∈ u_ws RX6 TX6 15, w ∈ wsX6_swapRows := fun _ h => List.mem_cons_of_mem _ (List.mem_append_right _ h)
theorem hd_X6_swapRows : yX6_swapRows.cls = RX6 ∧ yX6_swapRows.cls ≠ "java/lang/invoke/MethodHandle" ∧ yX6_swapRows.cls ≠ "java/lang/invoke/VarHandle" ∧ (parseMethodDescriptor yX6_swapRows.desc).map (fun d => d.parameters.length) = some 0 := by decide +kernel
abbrev rm_X6_swapRows : Room := { frames := 0, cells := 0, slots := 0, locals := 0 }
def sw_σ (σ : Sg) : Sg := va_up (va_up (va_up σ 31 (σ 32)) 32 (σ 31)) 8 (fun _ => σ 9 0)
def sw_τ (τ : Tg) : Tg := va_up (va_up τ 0 (τ 1)) 1 (τ 0)
def sw_κ (κ : Nat → Nat) : Nat → Nat := va_up (va_up (va_up (va_up κ 0 (κ 1)) 1 (κ 0)) 2 (κ 3)) 3 (κ 2)
def wp_X6_swapRows (σ : Sg) (τ : Tg) (post : Sg → Tg → Prop) : Prop := post (sw_σ σ) (sw_τ τ)
set_option maxHeartbeats 4000000 in
set_option maxRecDepth 100000 in
theorem c_X6_swapRows (l : Launch) (D : va_G) (cy : Nat → ClassId) (ad κ : Nat → Nat) (σ : Sg) (τ : Tg) (post : Sg → Tg → Prop) (h : wp_X6_swapRows σ τ post) : Ct l yX6_swapRows wsX6_swapRows rm_X6_swapRows D cy [.ref (ad 4)] (cfW cy ad κ σ τ) 0 0 (Rv D (cfU cy ad) (fun u => post u.2.1 u.2.2)) := by
  refine Ct.of (cc := cX6_swapRows) (maxL := 3) (rt := none) (by decide) rfl (Nat.le_of_ble_eq_true rfl) ?_
  intro p e s m below meth c A C0 _ H locs ls hw hl
  obtain ⟨⟨hx, hb, hml, hown, hts⟩, hr, hlocks, hkx, hA⟩ := id C0
  have hl : lv_has ls 3 [(0, .ref (ad 4))] := hl
  have hw : Hw D A (cfR cy ad κ κ σ τ) s H locs := hw
  refine lv_aload_n hx hb dX6_swapRows_0 rfl (lv_at hl 0 rfl) ?_
  refine va_get (v := .ref (κ 0)) (C := RX6) (T := TX6) (N := 15) hx hb hts inw_X6_swapRows_X6 hown hkx.1 hw.1 4 rfl rfl 9 (by decide) (hts _ (List.mem_of_getElem? (i := 1) rfl)) (fun _ h => h) rfl dX6_swapRows_1 ?_
  refine lv_astore_n (lv' := [(1, .ref (κ 0)), (0, .ref (ad 4))]) hx hb dX6_swapRows_4 rfl hl (by decide) rfl (fun ls hl => ?_)
  refine lv_aload_n hx hb dX6_swapRows_5 rfl (lv_at hl 1 rfl) ?_
  refine lv_aload_n hx hb dX6_swapRows_6 rfl (lv_at hl 1 rfl) ?_
  refine va_get (v := .ref (κ 1)) (C := RX6) (T := TX6) (N := 15) hx hb hts inw_X6_swapRows_X6 hown hkx.1 hw.1 4 rfl rfl 10 (by decide) (hts _ (List.mem_of_getElem? (i := 2) rfl)) (fun _ h => h) rfl dX6_swapRows_7 ?_
  refine va_put (C := RX6) (T := TX6) (N := 15) hx hb hts inw_X6_swapRows_X6 tyX6 tyX6_ok nmX6 hown hkx.1 hw.1 hw.2.1 hw.2.2 4 rfl rfl 9 (by decide) (hts _ (List.mem_of_getElem? (i := 1) rfl)) (fun _ h => h) rfl (tyX6_ok 9 (by decide)) rfl rfl (Nat.le_of_ble_eq_true rfl) dX6_swapRows_10 (fun H locs hP hD hS => ?_)
  have hw : Hw D A (cfR cy ad (va_up κ 0 (κ 1)) κ σ τ) s H locs := ⟨hP, hD, hS⟩
  clear hP hD hS
  refine lv_aload_n hx hb dX6_swapRows_13 rfl (lv_at hl 1 rfl) ?_
  refine lv_aload_n hx hb dX6_swapRows_14 rfl (lv_at hl 0 rfl) ?_
  refine va_put (C := RX6) (T := TX6) (N := 15) hx hb hts inw_X6_swapRows_X6 tyX6 tyX6_ok nmX6 hown hkx.1 hw.1 hw.2.1 hw.2.2 4 rfl rfl 10 (by decide) (hts _ (List.mem_of_getElem? (i := 2) rfl)) (fun _ h => h) rfl (tyX6_ok 10 (by decide)) rfl rfl (Nat.le_of_ble_eq_true rfl) dX6_swapRows_15 (fun H locs hP hD hS => ?_)
  have hw : Hw D A (cfR cy ad (va_up (va_up κ 0 (κ 1)) 1 (κ 0)) κ σ τ) s H locs := ⟨hP, hD, hS⟩
  clear hP hD hS
  refine lv_aload_n hx hb dX6_swapRows_18 rfl (lv_at hl 1 rfl) ?_
  refine va_get (v := .ref (κ 2)) (C := RX6) (T := TX6) (N := 15) hx hb hts inw_X6_swapRows_X6 hown hkx.1 hw.1 4 rfl rfl 11 (by decide) (hts _ (List.mem_of_getElem? (i := 3) rfl)) (fun _ h => h) rfl dX6_swapRows_19 ?_
  refine lv_astore_n (lv' := [(2, .ref (κ 2)), (1, .ref (κ 0)), (0, .ref (ad 4))]) hx hb dX6_swapRows_22 rfl hl (by decide) rfl (fun ls hl => ?_)
  refine lv_aload_n hx hb dX6_swapRows_23 rfl (lv_at hl 2 rfl) ?_
  refine lv_aload_n hx hb dX6_swapRows_24 rfl (lv_at hl 2 rfl) ?_
  refine va_get (v := .ref (κ 3)) (C := RX6) (T := TX6) (N := 15) hx hb hts inw_X6_swapRows_X6 hown hkx.1 hw.1 4 rfl rfl 12 (by decide) (hts _ (List.mem_of_getElem? (i := 4) rfl)) (fun _ h => h) rfl dX6_swapRows_25 ?_
  refine va_put (C := RX6) (T := TX6) (N := 15) hx hb hts inw_X6_swapRows_X6 tyX6 tyX6_ok nmX6 hown hkx.1 hw.1 hw.2.1 hw.2.2 4 rfl rfl 11 (by decide) (hts _ (List.mem_of_getElem? (i := 3) rfl)) (fun _ h => h) rfl (tyX6_ok 11 (by decide)) rfl rfl (Nat.le_of_ble_eq_true rfl) dX6_swapRows_28 (fun H locs hP hD hS => ?_)
  have hw : Hw D A (cfR cy ad (va_up (va_up (va_up κ 0 (κ 1)) 1 (κ 0)) 2 (κ 3)) κ σ τ) s H locs := ⟨hP, hD, hS⟩
  clear hP hD hS
  refine lv_aload_n hx hb dX6_swapRows_31 rfl (lv_at hl 2 rfl) ?_
  refine lv_aload_n hx hb dX6_swapRows_32 rfl (lv_at hl 0 rfl) ?_
  refine va_put (C := RX6) (T := TX6) (N := 15) hx hb hts inw_X6_swapRows_X6 tyX6 tyX6_ok nmX6 hown hkx.1 hw.1 hw.2.1 hw.2.2 4 rfl rfl 12 (by decide) (hts _ (List.mem_of_getElem? (i := 4) rfl)) (fun _ h => h) rfl (tyX6_ok 12 (by decide)) rfl rfl (Nat.le_of_ble_eq_true rfl) dX6_swapRows_33 (fun H locs hP hD hS => ?_)
  have hw : Hw D A (cfR cy ad (sw_κ κ) κ σ τ) s H locs := ⟨hP, hD, hS⟩
  clear hP hD hS
  refine lv_aload_n hx hb dX6_swapRows_36 rfl (lv_at hl 2 rfl) ?_
  refine lv_aload_n hx hb dX6_swapRows_37 rfl (lv_at hl 2 rfl) ?_
  refine va_get (v := .int (σ 9 0)) (C := RX6) (T := TX6) (N := 15) hx hb hts inw_X6_swapRows_X6 hown hkx.1 hw.1 4 rfl rfl 14 (by decide) (hts _ (List.mem_of_getElem? (i := 5) rfl)) (fun _ h => h) rfl dX6_swapRows_38 ?_
  refine va_put (C := RX6) (T := TX6) (N := 15) hx hb hts inw_X6_swapRows_X6 tyX6 tyX6_ok nmX6 hown hkx.1 hw.1 hw.2.1 hw.2.2 4 rfl rfl 13 (by decide) (hts _ (List.mem_of_getElem? (i := 6) rfl)) (fun _ h => h) rfl (tyX6_ok 13 (by decide)) rfl rfl (Nat.le_of_ble_eq_true rfl) dX6_swapRows_41 (fun H locs hP hD hS => ?_)
  have hw : Hw D A (cfR cy ad (sw_κ κ) κ (va_up σ 8 (fun _ => σ 9 0)) τ) s H locs := ⟨hP, hD, hS⟩
  clear hP hD hS
  have hw : Hw D A (cfW cy ad (sw_κ κ) (sw_σ σ) (sw_τ τ)) s H locs := ⟨hw.1.sub [0, 1, 2, 3, 4, 5, 6, 7, 8, 9, 10, 11, 12, 13, 14, 15, 16, 17, 18, 19, 20, 21, 22, 24, 23, 26, 25, 27, 28, 29, 30, 31, 32, 33, 34, 35, 36, 37, 38, 39, 40] rfl, hw.2.1.sub [0, 1, 2, 3, 4, 5, 6, 7, 8, 9, 10, 11, 12, 13, 14, 15, 16, 17, 18, 19, 20, 21, 22, 24, 23, 26, 25, 27, 28, 29, 30, 31, 32, 33, 34, 35, 36, 37, 38, 39, 40] (by decide) rfl, hw.2.2⟩
  exact end_v (w1 := cfU cy ad) (u := (sw_κ κ, sw_σ σ, sw_τ τ)) C0 hw h dX6_swapRows_44
