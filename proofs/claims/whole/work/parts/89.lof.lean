/-! the law's own two methods, which catch -/
abbrev outW (cy : Nat → ClassId) (o : Nat) (f : Nat → Int64) : va_W := [(o, .inl (cy 1, 1, .inr (.inl f)))]
abbrev loU (cy : Nat → ClassId) (ad : Nat → Nat) (o : Nat) (u : (Nat → Int64) × (Nat → Nat) × Sg × Tg) : va_W := outW cy o u.1 ++ cfU cy ad u.2
theorem hd_L_of : yL_of.cls ≠ "java/lang/invoke/MethodHandle" ∧ yL_of.cls ≠ "java/lang/invoke/VarHandle" ∧ (parseMethodDescriptor yL_of.desc).map (fun d => d.parameters.length) = some 4 := by decide +kernel
theorem hd_L_shift : yL_shift.cls ≠ "java/lang/invoke/MethodHandle" ∧ yL_shift.cls ≠ "java/lang/invoke/VarHandle" ∧ (parseMethodDescriptor yL_shift.desc).map (fun d => d.parameters.length) = some 3 := by decide +kernel
abbrev rm_L_of : Room := { frames := 8, cells := 1, slots := 6, locals := 204 }
abbrev rm_L_shift : Room := { frames := 8, cells := 1, slots := 6, locals := 204 }
def lpost (post : Int32 → Sg → Tg → Prop) (postX : Sg → Tg → Prop) (r : Int32) (u : (Nat → Int64) × (Nat → Nat) × Sg × Tg) : Prop := (r = 0 ∧ ∃ v : Int32, u.1 0 = v.toInt64 ∧ post v u.2.2.1 u.2.2.2) ∨ (r = 1 ∧ postX u.2.2.1 u.2.2.2)
set_option maxHeartbeats 4000000 in
set_option maxRecDepth 100000 in
theorem c_L_of (l : Launch) (hst : l.stackTraces = false) (D : va_G) (cy : Nat → ClassId) (ad κ : Nat → Nat) (o : Nat) (f : Nat → Int64) (σ : Sg) (τ : Tg) (x y : Int32) (post : Int32 → Sg → Tg → Prop) (postX : Sg → Tg → Prop) (h : wp_X7_of x y σ τ post postX) : CtW l yL_of wsL_of rm_L_of D cy [.ref (ad 0), .int x, .int y, .ref o] (outW cy o f ++ cfW cy ad κ σ τ) 1 6 (Ri D (loU cy ad o) (lpost post postX)) := by
  refine CtW.of (cc := cL_of) (maxL := 5) (rt := (some .int)) (hh := [(0, 10, 13, 13)]) (by decide) rfl (Nat.le_of_ble_eq_true rfl) ?_
  intro p e s m below meth c A C0 ht hxk hxz _ H locs ls hw hl
  obtain ⟨⟨hx, hb, hml, hown, hts⟩, hr, hlocks, hkx, hA⟩ := id C0
  have hl : lv_has ls 5 [(0, .ref (ad 0)), (1, .int x), (2, .int y), (3, .ref o)] := hl
  refine lv_aload_n hx hb dL_of_0 rfl (lv_at hl 3 rfl) ?_
  refine lv_iconst (v := 0) hx hb dL_of_1 (by decide) ?_
  refine lv_aload_n hx hb dL_of_2 rfl (lv_at hl 0 rfl) ?_
  refine lv_iload_n hx hb dL_of_3 rfl (lv_at hl 1 rfl) ?_
  refine lv_iload_n hx hb dL_of_4 rfl (lv_at hl 2 rfl) ?_
  refine call_FX (As := [.int x, .int y]) ⟨hx, hb, hml, hown, hts⟩ hkx hxk hxz hw hA (c_X7_of l hst D cy ad κ σ τ x y _ _ h) (cwV 2 hts gL_of_X7_of rfl rfl rfl hd_X7_of ⟨Nat.le_of_ble_eq_true rfl, Nat.le_of_ble_eq_true rfl⟩) 0 7 rfl rfl rfl hl.1 rfl (Nat.le_of_ble_eq_true rfl) dL_of_5 ⟨Nat.le_refl _, Nat.le_refl _⟩ (fun ce q9 u H locs hp hw h1 h2 h3 => ?_) (fun r u H locs hp hw => ?_)
  · refine vx_catch (own := RL) (name := NSE) hown [] ⟨0, 10, 13, 13⟩ [] (by rw [ht]; rfl) (fun z hz => nomatch hz) (by decide) (by decide) (hts _ (List.mem_of_getElem? (i := 1) rfl)) (va_Nw.use rfl hxk.2.2.2.1) h1 h2 h3 ?_
    refine lv_astore (lv' := [(4, .ref q9), (0, .ref (ad 0)), (1, .int x), (2, .int y), (3, .ref o)]) hx hb dL_of_13 hl (by decide) rfl (fun ls hl => ?_)
    refine lv_iconst (v := 1) hx hb dL_of_15 (by decide) ?_
    exact end_i (w1 := loU cy ad o) (u := (f, u)) C0 hw (Or.inr ⟨rfl, hp⟩) dL_of_16
  · refine lv_i2l hx hb dL_of_8 rfl ?_
    refine va_last hx hb hkx.1 hw.1 hw.2.1 hw.2.2 0 1 rfl rfl (by unfold vp_in; decide) dL_of_9 (fun H locs hP hD hS => ?_)
    refine lv_goto (tgt := 17) hx hb dL_of_10 (by decide) ?_
    refine lv_iconst (v := 0) hx hb dL_of_17 (by decide) ?_
    exact end_i (w1 := loU cy ad o) (u := (vp_updL f 0 r.toInt64, u)) C0 ⟨hP, hD, hS⟩ (Or.inl ⟨rfl, r, pk_uLs (f := f) (k := 0), hp⟩) dL_of_18
set_option maxHeartbeats 4000000 in
set_option maxRecDepth 100000 in
theorem c_L_shift (l : Launch) (hst : l.stackTraces = false) (D : va_G) (cy : Nat → ClassId) (ad κ : Nat → Nat) (o : Nat) (f : Nat → Int64) (σ : Sg) (τ : Tg) (x : Int32) (post : Int32 → Sg → Tg → Prop) (postX : Sg → Tg → Prop) (h : wp_X7_shift x σ τ post postX) : CtW l yL_shift wsL_shift rm_L_shift D cy [.ref (ad 0), .int x, .ref o] (outW cy o f ++ cfW cy ad κ σ τ) 1 6 (Ri D (loU cy ad o) (lpost post postX)) := by
  refine CtW.of (cc := cL_shift) (maxL := 4) (rt := (some .int)) (hh := [(0, 9, 12, 13)]) (by decide) rfl (Nat.le_of_ble_eq_true rfl) ?_
  intro p e s m below meth c A C0 ht hxk hxz _ H locs ls hw hl
  obtain ⟨⟨hx, hb, hml, hown, hts⟩, hr, hlocks, hkx, hA⟩ := id C0
  have hl : lv_has ls 4 [(0, .ref (ad 0)), (1, .int x), (2, .ref o)] := hl
  refine lv_aload_n hx hb dL_shift_0 rfl (lv_at hl 2 rfl) ?_
  refine lv_iconst (v := 0) hx hb dL_shift_1 (by decide) ?_
  refine lv_aload_n hx hb dL_shift_2 rfl (lv_at hl 0 rfl) ?_
  refine lv_iload_n hx hb dL_shift_3 rfl (lv_at hl 1 rfl) ?_
  refine call_FX (As := [.int x]) ⟨hx, hb, hml, hown, hts⟩ hkx hxk hxz hw hA (c_X7_shift l hst D cy ad κ σ τ x _ _ h) (cwV 1 hts gL_shift_X7_shift rfl rfl rfl hd_X7_shift ⟨Nat.le_of_ble_eq_true rfl, Nat.le_of_ble_eq_true rfl⟩) 0 7 rfl rfl rfl hl.1 rfl (Nat.le_of_ble_eq_true rfl) dL_shift_4 ⟨Nat.le_refl _, Nat.le_refl _⟩ (fun ce q9 u H locs hp hw h1 h2 h3 => ?_) (fun r u H locs hp hw => ?_)
  · refine vx_catch (own := RL) (name := NSE) hown [] ⟨0, 9, 12, 13⟩ [] (by rw [ht]; rfl) (fun z hz => nomatch hz) (by decide) (by decide) (hts _ (List.mem_of_getElem? (i := 1) rfl)) (va_Nw.use rfl hxk.2.2.2.1) h1 h2 h3 ?_
    refine lv_astore_n (lv' := [(3, .ref q9), (0, .ref (ad 0)), (1, .int x), (2, .ref o)]) hx hb dL_shift_12 rfl hl (by decide) rfl (fun ls hl => ?_)
    refine lv_iconst (v := 1) hx hb dL_shift_13 (by decide) ?_
    exact end_i (w1 := loU cy ad o) (u := (f, u)) C0 hw (Or.inr ⟨rfl, hp⟩) dL_shift_14
  · refine lv_i2l hx hb dL_shift_7 rfl ?_
    refine va_last hx hb hkx.1 hw.1 hw.2.1 hw.2.2 0 1 rfl rfl (by unfold vp_in; decide) dL_shift_8 (fun H locs hP hD hS => ?_)
    refine lv_goto (tgt := 15) hx hb dL_shift_9 (by decide) ?_
    refine lv_iconst (v := 0) hx hb dL_shift_15 (by decide) ?_
    exact end_i (w1 := loU cy ad o) (u := (vp_updL f 0 r.toInt64, u)) C0 ⟨hP, hD, hS⟩ (Or.inl ⟨rfl, r, pk_uLs (f := f) (k := 0), hp⟩) dL_shift_16
