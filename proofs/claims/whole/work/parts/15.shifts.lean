theorem hd_X5_shiftPlace : yX5_shiftPlace.cls = RX5 ∧ yX5_shiftPlace.cls ≠ "java/lang/invoke/MethodHandle" ∧ yX5_shiftPlace.cls ≠ "java/lang/invoke/VarHandle" ∧ (parseMethodDescriptor yX5_shiftPlace.desc).map (fun d => d.parameters.length) = some 1 := by decide +kernel
section
variable {p : Program} {l : Launch} {e : Env} {s : State} {m : MethodId} {args : Array Value} {below : List Frame} {meth : Method} {c : Code} {D : va_G} {cy : Nat → ClassId} {A : Nat → Prop} {ad : Nat → Nat}
abbrev rm_X5_shiftPlace : Room := { frames := 0, cells := 0, slots := 0, locals := 0 }
theorem inw_X5_shiftPlace_X3 : ∀ w ∈ u_ws RX3 TX3 2, w ∈ wsX5_shiftPlace := fun _ h => List.mem_cons_of_mem _ (List.mem_append_right _ h)
theorem inw_X5_shiftPlace_X5 : ∀ w ∈ u_ws RX5 TX5 10, w ∈ wsX5_shiftPlace := fun _ h => List.mem_cons_of_mem _ (List.mem_append_left _ (List.mem_append_right _ h))
def wp_X5_shiftPlace (x1 : Int32) (σ : Sg) (τ : Tg) (post : Int32 → Sg → Tg → Prop) : Prop :=
    vp_in x1 60 ∧
    post (((σ 18 x1.toNatClampNeg) - x1) + (59 : Int32)) σ τ
set_option maxHeartbeats 4000000 in
set_option maxRecDepth 100000 in
theorem c_X5_shiftPlace (l : Launch) (D : va_G) (cy : Nat → ClassId) (ad κ : Nat → Nat) (σ : Sg) (τ : Tg) (x1 : Int32) (post : Int32 → Sg → Tg → Prop) (h : wp_X5_shiftPlace x1 σ τ post) : Ct l yX5_shiftPlace wsX5_shiftPlace rm_X5_shiftPlace D cy [.ref (ad 7), .int x1] (cfW cy ad κ σ τ) 0 0 (Ri D (cfU cy ad) (fun r u => post r u.2.1 u.2.2)) := by
  refine Ct.of (cc := cX5_shiftPlace) (maxL := 2) (rt := (some .int)) (by decide) rfl (Nat.le_of_ble_eq_true rfl) ?_
  intro p e s m below meth c A C0 _ H locs ls hw hl
  obtain ⟨⟨hx, hb, hml, hown, hts⟩, hr, hlocks, hkx, hA⟩ := id C0
  have hl : lv_has ls 2 [(0, .ref (ad 7)), (1, .int x1)] := hl
  unfold wp_X5_shiftPlace at h
  refine lv_aload_n hx hb dX5_shiftPlace_0 rfl (lv_at hl 0 rfl) ?_
  refine cg_sh_pages hx hb hts inw_X5_shiftPlace_X5 hown hkx hw (hts _ (List.mem_of_getElem? (i := 1) rfl)) dX5_shiftPlace_1 ?_
  refine cg_pg_readNumber hx hb hts inw_X5_shiftPlace_X3 hown hkx hw (hts _ (List.mem_of_getElem? (i := 2) rfl)) dX5_shiftPlace_4 ?_
  refine lv_iload_n hx hb dX5_shiftPlace_7 rfl (lv_at hl 1 rfl) ?_
  obtain ⟨b_1, h⟩ := h
  refine ca_readNumber hx hb hkx hw b_1 dX5_shiftPlace_8 ?_
  refine lv_iload_n hx hb dX5_shiftPlace_9 rfl (lv_at hl 1 rfl) ?_
  refine lv_isub hx hb dX5_shiftPlace_10 ?_
  refine lv_bipush (v := 59) hx hb dX5_shiftPlace_11 (by decide) ?_
  refine lv_iadd hx hb dX5_shiftPlace_13 ?_
  exact end_i (w1 := (cfU cy ad)) (u := (κ, σ, τ)) C0 hw h dX5_shiftPlace_14
end
theorem hd_X5_addTime : yX5_addTime.cls = RX5 ∧ yX5_addTime.cls ≠ "java/lang/invoke/MethodHandle" ∧ yX5_addTime.cls ≠ "java/lang/invoke/VarHandle" ∧ (parseMethodDescriptor yX5_addTime.desc).map (fun d => d.parameters.length) = some 1 := by decide +kernel
section
variable {p : Program} {l : Launch} {e : Env} {s : State} {m : MethodId} {args : Array Value} {below : List Frame} {meth : Method} {c : Code} {D : va_G} {cy : Nat → ClassId} {A : Nat → Prop} {ad : Nat → Nat}
abbrev rm_X5_addTime : Room := { frames := 1, cells := 0, slots := 0, locals := 21 }
theorem inw_X5_addTime_X5 : ∀ w ∈ u_ws RX5 TX5 10, w ∈ wsX5_addTime := fun _ h => List.mem_cons_of_mem _ (List.mem_append_left _ (List.mem_append_right _ h))
def wp_X5_addTime (x1 : Int32) (σ : Sg) (τ : Tg) (post : Int32 → Sg → Tg → Prop) : Prop :=
    wp_X5_shiftPlace x1 σ τ (fun r_1 σ_2 τ_3 =>
    vp_in r_1 1059 ∧
    vp_in r_1 1059 ∧
    ∀ σ_6 : Sg, σ_6 = va_up σ_2 46 (upd (σ_2 46) r_1.toNatClampNeg ((σ_2 46 r_1.toNatClampNeg) + (1 : Int32))) →
    vp_in r_1 1059 ∧
    post (σ_6 46 r_1.toNatClampNeg) σ_6 τ_3)
set_option maxHeartbeats 4000000 in
set_option maxRecDepth 100000 in
theorem c_X5_addTime (l : Launch) (D : va_G) (cy : Nat → ClassId) (ad κ : Nat → Nat) (σ : Sg) (τ : Tg) (x1 : Int32) (post : Int32 → Sg → Tg → Prop) (h : wp_X5_addTime x1 σ τ post) : Ct l yX5_addTime wsX5_addTime rm_X5_addTime D cy [.ref (ad 7), .int x1] (cfW cy ad κ σ τ) 0 0 (Ri D (cfU cy ad) (fun r u => post r u.2.1 u.2.2)) := by
  refine Ct.of (cc := cX5_addTime) (maxL := 3) (rt := (some .int)) (by decide) rfl (Nat.le_of_ble_eq_true rfl) ?_
  intro p e s m below meth c A C0 _ H locs ls hw hl
  obtain ⟨⟨hx, hb, hml, hown, hts⟩, hr, hlocks, hkx, hA⟩ := id C0
  have hl : lv_has ls 3 [(0, .ref (ad 7)), (1, .int x1)] := hl
  unfold wp_X5_addTime at h
  refine lv_aload_n hx hb dX5_addTime_0 rfl (lv_at hl 0 rfl) ?_
  refine lv_iload_n hx hb dX5_addTime_1 rfl (lv_at hl 1 rfl) ?_
  refine cf_Vi (As := [.int x1]) ⟨hx, hb, hml, hown, hts⟩ hkx hw hA (c_X5_shiftPlace l D cy ad κ σ τ x1 _ h) (cwV 1 hts gX5_addTime_X5_shiftPlace rfl rfl rfl hd_X5_shiftPlace ⟨Nat.le_of_ble_eq_true rfl, Nat.le_of_ble_eq_true rfl⟩) 7 5 rfl rfl rfl hl.1 rfl (Nat.le_of_ble_eq_true rfl) dX5_addTime_2 ⟨Nat.zero_le _, Nat.zero_le _⟩ (fun r_1 κ σ_2 τ_3 H locs h hw => ?_)
  refine lv_istore_n (lv' := [(2, .int r_1), (0, .ref (ad 7)), (1, .int x1)]) hx hb dX5_addTime_5 rfl hl (by decide) rfl (fun ls hl => ?_)
  refine lv_aload_n hx hb dX5_addTime_6 rfl (lv_at hl 1 rfl) ?_
  refine cg_sh_timesOfShift hx hb hts inw_X5_addTime_X5 hown hkx hw (hts _ (List.mem_of_getElem? (i := 1) rfl)) dX5_addTime_7 ?_
  refine lv_iload_n hx hb dX5_addTime_10 rfl (lv_at hl 0 rfl) ?_
  refine lv_dup2_11 hx hb dX5_addTime_11 rfl rfl ?_
  obtain ⟨b_4, h⟩ := h
  refine ca_times hx hb hkx hw b_4 dX5_addTime_12 ?_
  refine lv_iconst (v := 1) hx hb dX5_addTime_13 (by decide) ?_
  refine lv_iadd hx hb dX5_addTime_14 ?_
  obtain ⟨b_5, h⟩ := h
  refine cs_times hx hb hkx hw b_5 dX5_addTime_15 (fun σ_6 eσ_6 H locs hw => ?_)
  replace h := h σ_6 eσ_6
  refine lv_aload_n hx hb dX5_addTime_16 rfl (lv_at hl 1 rfl) ?_
  refine cg_sh_timesOfShift hx hb hts inw_X5_addTime_X5 hown hkx hw (hts _ (List.mem_of_getElem? (i := 1) rfl)) dX5_addTime_17 ?_
  refine lv_iload_n hx hb dX5_addTime_20 rfl (lv_at hl 0 rfl) ?_
  obtain ⟨b_7, h⟩ := h
  refine ca_times hx hb hkx hw b_7 dX5_addTime_21 ?_
  exact end_i (w1 := (cfU cy ad)) (u := (κ, σ_6, τ_3)) C0 hw h dX5_addTime_22
end
theorem hd_X5_forgetTimes : yX5_forgetTimes.cls = RX5 ∧ yX5_forgetTimes.cls ≠ "java/lang/invoke/MethodHandle" ∧ yX5_forgetTimes.cls ≠ "java/lang/invoke/VarHandle" ∧ (parseMethodDescriptor yX5_forgetTimes.desc).map (fun d => d.parameters.length) = some 2 := by decide +kernel
section
variable {p : Program} {l : Launch} {e : Env} {s : State} {m : MethodId} {args : Array Value} {below : List Frame} {meth : Method} {c : Code} {D : va_G} {cy : Nat → ClassId} {A : Nat → Prop} {ad : Nat → Nat}
abbrev rm_X5_forgetTimes : Room := { frames := 1, cells := 0, slots := 0, locals := 21 }
theorem inw_X5_forgetTimes_X5 : ∀ w ∈ u_ws RX5 TX5 10, w ∈ wsX5_forgetTimes := fun _ h => List.mem_cons_of_mem _ (List.mem_append_left _ (List.mem_append_right _ h))
abbrev G_X5_forgetTimes (p : Program) (l : Launch) (e : Env) (s : State) (m : MethodId) (args : Array Value) (below : List Frame) (meth : Method) (c : Code) (D : va_G) (A : Nat → Prop) (cy : Nat → ClassId) (ad : Nat → Nat) (post : Sg → Tg → Prop) : va_W → Nat → List (Nat × Value) → Nat → List Value → Prop := Gw p l e rm_X5_forgetTimes s m args below meth c D A (MQ below ((Rv D (cfU cy ad) (fun u => post u.2.1 u.2.2)) A) args s 0 0 A)
def wp_X5_forgetTimes_2 (post : Sg → Tg → Prop) : Nat → Int32 → Int32 → Sg → Tg → Prop
  | 0, _, _, _, _ => False
  | n + 1, x2, x3, σ, τ =>
    (x2 ≤ x3 →
    post σ τ) ∧
    (¬ x2 ≤ x3 →
    wp_X5_shiftPlace x3 σ τ (fun r_2 σ_3 τ_4 =>
    vp_in r_2 1059 ∧
    ∀ σ_6 : Sg, σ_6 = va_up σ_3 46 (upd (σ_3 46) r_2.toNatClampNeg (0 : Int32)) →
    wp_X5_forgetTimes_2 post n x2 (x3 + (1 : Int32)) σ_6 τ_4))
set_option maxHeartbeats 4000000 in
set_option maxRecDepth 100000 in
theorem w_X5_forgetTimes_2 (C0 : Mc p m c meth cX5_forgetTimes 4 s args wsX5_forgetTimes RX5 none D cy A) {post : Sg → Tg → Prop} : ∀ (n : Nat) (x2 : Int32) (x3 : Int32) (σ : Sg) (τ : Tg), wp_X5_forgetTimes_2 post n x2 x3 σ τ → ∀ κ : Nat → Nat, G_X5_forgetTimes p l e s m args below meth c D A cy ad post (cfW cy ad κ σ τ) 4 [(0, .ref (ad 7)), (2, .int x2), (3, .int x3)] 2 [] := by
  obtain ⟨⟨hx, hb, hml, hown, hts⟩, hr, hlocks, hkx, hA⟩ := id C0
  intro n
  induction n with
  | zero => intro x2 x3 σ τ h; exact False.elim h
  | succ n ih =>
    intro x2 x3 σ τ h κ H locs ls hw hl
    unfold wp_X5_forgetTimes_2 at h
    refine lv_iload_n hx hb dX5_forgetTimes_2 rfl (lv_at hl 2 rfl) ?_
    refine lv_iload_n hx hb dX5_forgetTimes_3 rfl (lv_at hl 1 rfl) ?_
    refine lv_icmp_ge (tgt := 24) hx hb dX5_forgetTimes_4 (by decide) (fun c_1 => ?_) (fun c_1 => ?_)
    · replace h := h.1 c_1
      exact end_v (w1 := (cfU cy ad)) (u := (κ, σ, τ)) C0 hw h dX5_forgetTimes_24
    · replace h := h.2 c_1
      refine lv_aload_n hx hb dX5_forgetTimes_7 rfl (lv_at hl 0 rfl) ?_
      refine cg_sh_timesOfShift hx hb hts inw_X5_forgetTimes_X5 hown hkx hw (hts _ (List.mem_of_getElem? (i := 1) rfl)) dX5_forgetTimes_8 ?_
      refine lv_aload_n hx hb dX5_forgetTimes_11 rfl (lv_at hl 0 rfl) ?_
      refine lv_iload_n hx hb dX5_forgetTimes_12 rfl (lv_at hl 2 rfl) ?_
      refine cf_Vi (As := [.int x3]) ⟨hx, hb, hml, hown, hts⟩ hkx hw hA (c_X5_shiftPlace l D cy ad κ σ τ x3 _ h) (cwV 1 hts gX5_forgetTimes_X5_shiftPlace rfl rfl rfl hd_X5_shiftPlace ⟨Nat.le_of_ble_eq_true rfl, Nat.le_of_ble_eq_true rfl⟩) 7 5 rfl rfl rfl hl.1 rfl (Nat.le_of_ble_eq_true rfl) dX5_forgetTimes_13 ⟨Nat.zero_le _, Nat.zero_le _⟩ (fun r_2 κ σ_3 τ_4 H locs h hw => ?_)
      refine lv_iconst (v := 0) hx hb dX5_forgetTimes_16 (by decide) ?_
      obtain ⟨b_5, h⟩ := h
      refine cs_times hx hb hkx hw b_5 dX5_forgetTimes_17 (fun σ_6 eσ_6 H locs hw => ?_)
      replace h := h σ_6 eσ_6
      refine lv_iinc (v := x3 + (1 : Int32)) (lv' := [(3, .int (x3 + (1 : Int32))), (0, .ref (ad 7)), (2, .int x2)]) hx hb dX5_forgetTimes_18 hl (k := 2) rfl rfl (by decide) rfl (fun ls hl => ?_)
      refine lv_goto (tgt := 2) hx hb dX5_forgetTimes_21 (by decide) ?_
      exact ih _ _ _ _ h _ _ _ _ hw (lv_sub hl [1, 2, 0] rfl)
def wp_X5_forgetTimes (x1 : Int32) (x2 : Int32) (σ : Sg) (τ : Tg) (post : Sg → Tg → Prop) : Prop :=
    ∃ fu, wp_X5_forgetTimes_2 post fu x2 x1 σ τ
set_option maxHeartbeats 4000000 in
set_option maxRecDepth 100000 in
theorem c_X5_forgetTimes (l : Launch) (D : va_G) (cy : Nat → ClassId) (ad κ : Nat → Nat) (σ : Sg) (τ : Tg) (x1 : Int32) (x2 : Int32) (post : Sg → Tg → Prop) (h : wp_X5_forgetTimes x1 x2 σ τ post) : Ct l yX5_forgetTimes wsX5_forgetTimes rm_X5_forgetTimes D cy [.ref (ad 7), .int x1, .int x2] (cfW cy ad κ σ τ) 0 0 (Rv D (cfU cy ad) (fun u => post u.2.1 u.2.2)) := by
  refine Ct.of (cc := cX5_forgetTimes) (maxL := 4) (rt := none) (by decide) rfl (Nat.le_of_ble_eq_true rfl) ?_
  intro p e s m below meth c A C0 _ H locs ls hw hl
  obtain ⟨⟨hx, hb, hml, hown, hts⟩, hr, hlocks, hkx, hA⟩ := id C0
  have hl : lv_has ls 4 [(0, .ref (ad 7)), (1, .int x1), (2, .int x2)] := hl
  unfold wp_X5_forgetTimes at h
  refine lv_iload_n hx hb dX5_forgetTimes_0 rfl (lv_at hl 1 rfl) ?_
  refine lv_istore_n (lv' := [(3, .int x1), (0, .ref (ad 7)), (1, .int x1), (2, .int x2)]) hx hb dX5_forgetTimes_1 rfl hl (by decide) rfl (fun ls hl => ?_)
  obtain ⟨n_1, h⟩ := h
  exact w_X5_forgetTimes_2 C0 n_1 _ _ _ _ h _ _ _ _ hw (lv_sub hl [1, 3, 0] rfl)
end
theorem hd_X5_findFirstSpan : yX5_findFirstSpan.cls = RX5 ∧ yX5_findFirstSpan.cls ≠ "java/lang/invoke/MethodHandle" ∧ yX5_findFirstSpan.cls ≠ "java/lang/invoke/VarHandle" ∧ (parseMethodDescriptor yX5_findFirstSpan.desc).map (fun d => d.parameters.length) = some 1 := by decide +kernel
section
variable {p : Program} {l : Launch} {e : Env} {s : State} {m : MethodId} {args : Array Value} {below : List Frame} {meth : Method} {c : Code} {D : va_G} {cy : Nat → ClassId} {A : Nat → Prop} {ad : Nat → Nat}
abbrev rm_X5_findFirstSpan : Room := { frames := 2, cells := 0, slots := 0, locals := 43 }
theorem inw_X5_findFirstSpan_X3 : ∀ w ∈ u_ws RX3 TX3 2, w ∈ wsX5_findFirstSpan := fun _ h => List.mem_cons_of_mem _ (List.mem_append_right _ h)
theorem inw_X5_findFirstSpan_X4 : ∀ w ∈ u_ws RX4 TX4 3, w ∈ wsX5_findFirstSpan := fun _ h => List.mem_cons_of_mem _ (List.mem_append_left _ (List.mem_append_right _ h))
theorem inw_X5_findFirstSpan_X5 : ∀ w ∈ u_ws RX5 TX5 10, w ∈ wsX5_findFirstSpan := fun _ h => List.mem_cons_of_mem _ (List.mem_append_left _ (List.mem_append_left _ (List.mem_append_right _ h)))
abbrev G_X5_findFirstSpan (p : Program) (l : Launch) (e : Env) (s : State) (m : MethodId) (args : Array Value) (below : List Frame) (meth : Method) (c : Code) (D : va_G) (A : Nat → Prop) (cy : Nat → ClassId) (ad : Nat → Nat) (post : Sg → Tg → Prop) : va_W → Nat → List (Nat × Value) → Nat → List Value → Prop := Gw p l e rm_X5_findFirstSpan s m args below meth c D A (MQ below ((Rv D (cfU cy ad) (fun u => post u.2.1 u.2.2)) A) args s 0 0 A)
def wp_X5_findFirstSpan_88 (post : Sg → Tg → Prop) (k47 : Int32 → Int32 → Int32 → Int32 → Int32 → Int32 → Sg → Tg → Prop) (x1 : Int32) (x2 : Int32) (x3 : Int32) (x4 : Int32) (x5 : Int32) (x6 : Int32) (σ : Sg) (τ : Tg) : Prop :=
    vp_in (x6 + (1 : Int32)) 61 ∧
    ∀ y_2 : Int32, y_2 = ((x2 + (x3 * (x4 - x5))) + (σ 44 (x6 + (1 : Int32)).toNatClampNeg)) →
    vp_in x1 61 ∧
    ((σ 44 x1.toNatClampNeg) < y_2 →
    k47 x1 x2 x3 x4 x5 (x6 + (1 : Int32)) σ τ) ∧
    (¬ (σ 44 x1.toNatClampNeg) < y_2 →
    vp_in x1 61 ∧
    ∀ σ_6 : Sg, σ_6 = va_up σ 44 (upd (σ 44) x1.toNatClampNeg y_2) →
    vp_in x1 60 ∧
    ∀ σ_8 : Sg, σ_8 = va_up σ_6 45 (upd (σ_6 45) x1.toNatClampNeg (x6 + (1 : Int32))) →
    k47 x1 x2 x3 x4 x5 (x6 + (1 : Int32)) σ_8 τ)
set_option maxHeartbeats 4000000 in
set_option maxRecDepth 100000 in
theorem w_X5_findFirstSpan_88 (C0 : Mc p m c meth cX5_findFirstSpan 8 s args wsX5_findFirstSpan RX5 none D cy A) {post : Sg → Tg → Prop} {k47 : Int32 → Int32 → Int32 → Int32 → Int32 → Int32 → Sg → Tg → Prop} (hk47 : ∀ (x1 : Int32) (x2 : Int32) (x3 : Int32) (x4 : Int32) (x5 : Int32) (x6 : Int32) (σ : Sg) (τ : Tg), k47 x1 x2 x3 x4 x5 x6 σ τ → ∀ κ : Nat → Nat, G_X5_findFirstSpan p l e s m args below meth c D A cy ad post (cfW cy ad κ σ τ) 8 [(0, .ref (ad 7)), (1, .int x1), (2, .int x2), (3, .int x3), (4, .int x4), (5, .int x5), (6, .int x6)] 47 []) : ∀ (x1 : Int32) (x2 : Int32) (x3 : Int32) (x4 : Int32) (x5 : Int32) (x6 : Int32) (σ : Sg) (τ : Tg), wp_X5_findFirstSpan_88 post k47 x1 x2 x3 x4 x5 x6 σ τ → ∀ κ : Nat → Nat, G_X5_findFirstSpan p l e s m args below meth c D A cy ad post (cfW cy ad κ σ τ) 8 [(0, .ref (ad 7)), (1, .int x1), (2, .int x2), (3, .int x3), (4, .int x4), (5, .int x5), (6, .int x6)] 88 [] := by
  obtain ⟨⟨hx, hb, hml, hown, hts⟩, hr, hlocks, hkx, hA⟩ := id C0
  intro x1 x2 x3 x4 x5 x6 σ τ h κ H locs ls hw hl
  unfold wp_X5_findFirstSpan_88 at h
  refine lv_iload_n hx hb dX5_findFirstSpan_88 rfl (lv_at hl 2 rfl) ?_
  refine lv_iload_n hx hb dX5_findFirstSpan_89 rfl (lv_at hl 3 rfl) ?_
  refine lv_iload hx hb dX5_findFirstSpan_90 (lv_at hl 4 rfl) ?_
  refine lv_iload hx hb dX5_findFirstSpan_92 (lv_at hl 5 rfl) ?_
  refine lv_isub hx hb dX5_findFirstSpan_94 ?_
  refine lv_imul hx hb dX5_findFirstSpan_95 ?_
  refine lv_iadd hx hb dX5_findFirstSpan_96 ?_
  refine lv_aload_n hx hb dX5_findFirstSpan_97 rfl (lv_at hl 0 rfl) ?_
  refine cg_sh_least hx hb hts inw_X5_findFirstSpan_X5 hown hkx hw (hts _ (List.mem_of_getElem? (i := 3) rfl)) dX5_findFirstSpan_98 ?_
  refine lv_iload hx hb dX5_findFirstSpan_101 (lv_at hl 6 rfl) ?_
  refine lv_iconst (v := 1) hx hb dX5_findFirstSpan_103 (by decide) ?_
  refine lv_iadd hx hb dX5_findFirstSpan_104 ?_
  obtain ⟨b_1, h⟩ := h
  refine ca_sleast hx hb hkx hw b_1 dX5_findFirstSpan_105 ?_
  refine lv_iadd hx hb dX5_findFirstSpan_106 ?_
  refine lv_topi (fun y_2 ey_2 => ?_)
  replace h := h y_2 ey_2
  refine lv_istore (lv' := [(7, .int y_2), (0, .ref (ad 7)), (1, .int x1), (2, .int x2), (3, .int x3), (4, .int x4), (5, .int x5), (6, .int x6)]) hx hb dX5_findFirstSpan_107 hl (by decide) rfl (fun ls hl => ?_)
  refine lv_iload hx hb dX5_findFirstSpan_109 (lv_at hl 0 rfl) ?_
  refine lv_aload_n hx hb dX5_findFirstSpan_111 rfl (lv_at hl 1 rfl) ?_
  refine cg_sh_least hx hb hts inw_X5_findFirstSpan_X5 hown hkx hw (hts _ (List.mem_of_getElem? (i := 3) rfl)) dX5_findFirstSpan_112 ?_
  refine lv_iload_n hx hb dX5_findFirstSpan_115 rfl (lv_at hl 2 rfl) ?_
  obtain ⟨b_3, h⟩ := h
  refine ca_sleast hx hb hkx hw b_3 dX5_findFirstSpan_116 ?_
  refine lv_icmp_gt (tgt := 138) hx hb dX5_findFirstSpan_117 (by decide) (fun c_4 => ?_) (fun c_4 => ?_)
  · replace h := h.1 c_4
    refine lv_iinc (v := x6 + (1 : Int32)) (lv' := [(6, .int (x6 + (1 : Int32))), (7, .int y_2), (0, .ref (ad 7)), (1, .int x1), (2, .int x2), (3, .int x3), (4, .int x4), (5, .int x5)]) hx hb dX5_findFirstSpan_138 hl (k := 7) rfl rfl (by decide) rfl (fun ls hl => ?_)
    refine lv_goto (tgt := 47) hx hb dX5_findFirstSpan_141 (by decide) ?_
    exact hk47 _ _ _ _ _ _ _ _ h _ _ _ _ hw (lv_sub hl [2, 3, 4, 5, 6, 7, 0] rfl)
  · replace h := h.2 c_4
    refine lv_aload_n hx hb dX5_findFirstSpan_120 rfl (lv_at hl 1 rfl) ?_
    refine cg_sh_least hx hb hts inw_X5_findFirstSpan_X5 hown hkx hw (hts _ (List.mem_of_getElem? (i := 3) rfl)) dX5_findFirstSpan_121 ?_
    refine lv_iload_n hx hb dX5_findFirstSpan_124 rfl (lv_at hl 2 rfl) ?_
    refine lv_iload hx hb dX5_findFirstSpan_125 (lv_at hl 0 rfl) ?_
    obtain ⟨b_5, h⟩ := h
    refine cs_sleast hx hb hkx hw b_5 dX5_findFirstSpan_127 (fun σ_6 eσ_6 H locs hw => ?_)
    replace h := h σ_6 eσ_6
    refine lv_aload_n hx hb dX5_findFirstSpan_128 rfl (lv_at hl 1 rfl) ?_
    refine cg_sh_behind hx hb hts inw_X5_findFirstSpan_X5 hown hkx hw (hts _ (List.mem_of_getElem? (i := 12) rfl)) dX5_findFirstSpan_129 ?_
    refine lv_iload_n hx hb dX5_findFirstSpan_132 rfl (lv_at hl 2 rfl) ?_
    refine lv_iload hx hb dX5_findFirstSpan_133 (lv_at hl 7 rfl) ?_
    refine lv_iconst (v := 1) hx hb dX5_findFirstSpan_135 (by decide) ?_
    refine lv_iadd hx hb dX5_findFirstSpan_136 ?_
    obtain ⟨b_7, h⟩ := h
    refine cs_behind hx hb hkx hw b_7 dX5_findFirstSpan_137 (fun σ_8 eσ_8 H locs hw => ?_)
    replace h := h σ_8 eσ_8
    refine lv_iinc (v := x6 + (1 : Int32)) (lv' := [(6, .int (x6 + (1 : Int32))), (7, .int y_2), (0, .ref (ad 7)), (1, .int x1), (2, .int x2), (3, .int x3), (4, .int x4), (5, .int x5)]) hx hb dX5_findFirstSpan_138 hl (k := 7) rfl rfl (by decide) rfl (fun ls hl => ?_)
    refine lv_goto (tgt := 47) hx hb dX5_findFirstSpan_141 (by decide) ?_
    exact hk47 _ _ _ _ _ _ _ _ h _ _ _ _ hw (lv_sub hl [2, 3, 4, 5, 6, 7, 0] rfl)
def wp_X5_findFirstSpan_47 (post : Sg → Tg → Prop) : Nat → Int32 → Int32 → Int32 → Int32 → Int32 → Int32 → Sg → Tg → Prop
  | 0, _, _, _, _, _, _, _, _ => False
  | n + 1, x1, x2, x3, x4, x5, x6, σ, τ =>
    ((σ 4 0) ≤ x6 →
    post σ τ) ∧
    (¬ (σ 4 0) ≤ x6 →
    vp_in x6 60 ∧
    ((σ 18 x6.toNatClampNeg) ≤ 0 →
    wp_X5_findFirstSpan_88 post (fun zx1 zx2 zx3 zx4 zx5 zx6 zσ zτ => wp_X5_findFirstSpan_47 post n zx1 zx2 zx3 zx4 zx5 zx6 zσ zτ) x1 x2 x3 x4 x5 x6 σ τ) ∧
    (¬ (σ 18 x6.toNatClampNeg) ≤ 0 →
    wp_X5_addTime x6 σ τ (fun r_4 σ_5 τ_6 =>
    ∀ y_7 : Int32, y_7 = (if x5 < r_4 then r_4 else x5) →
    wp_X5_findFirstSpan_88 post (fun zx1 zx2 zx3 zx4 zx5 zx6 zσ zτ => wp_X5_findFirstSpan_47 post n zx1 zx2 zx3 zx4 zx5 zx6 zσ zτ) x1 x2 x3 (x4 + (1 : Int32)) y_7 x6 σ_5 τ_6)))
set_option maxHeartbeats 4000000 in
set_option maxRecDepth 100000 in
theorem w_X5_findFirstSpan_47 (C0 : Mc p m c meth cX5_findFirstSpan 8 s args wsX5_findFirstSpan RX5 none D cy A) {post : Sg → Tg → Prop} : ∀ (n : Nat) (x1 : Int32) (x2 : Int32) (x3 : Int32) (x4 : Int32) (x5 : Int32) (x6 : Int32) (σ : Sg) (τ : Tg), wp_X5_findFirstSpan_47 post n x1 x2 x3 x4 x5 x6 σ τ → ∀ κ : Nat → Nat, G_X5_findFirstSpan p l e s m args below meth c D A cy ad post (cfW cy ad κ σ τ) 8 [(0, .ref (ad 7)), (1, .int x1), (2, .int x2), (3, .int x3), (4, .int x4), (5, .int x5), (6, .int x6)] 47 [] := by
  obtain ⟨⟨hx, hb, hml, hown, hts⟩, hr, hlocks, hkx, hA⟩ := id C0
  intro n
  induction n with
  | zero => intro x1 x2 x3 x4 x5 x6 σ τ h; exact False.elim h
  | succ n ih =>
    intro x1 x2 x3 x4 x5 x6 σ τ h κ H locs ls hw hl
    unfold wp_X5_findFirstSpan_47 at h
    refine lv_iload hx hb dX5_findFirstSpan_47 (lv_at hl 6 rfl) ?_
    refine lv_aload_n hx hb dX5_findFirstSpan_49 rfl (lv_at hl 0 rfl) ?_
    refine cg_sh_pages hx hb hts inw_X5_findFirstSpan_X5 hown hkx hw (hts _ (List.mem_of_getElem? (i := 5) rfl)) dX5_findFirstSpan_50 ?_
    refine cg_pg_count hx hb hts inw_X5_findFirstSpan_X3 hown hkx hw (hts _ (List.mem_of_getElem? (i := 6) rfl)) dX5_findFirstSpan_53 ?_
    refine lv_icmp_ge (tgt := 144) hx hb dX5_findFirstSpan_56 (by decide) (fun c_1 => ?_) (fun c_1 => ?_)
    · replace h := h.1 c_1
      exact end_v (w1 := (cfU cy ad)) (u := (κ, σ, τ)) C0 hw h dX5_findFirstSpan_144
    · replace h := h.2 c_1
      refine lv_aload_n hx hb dX5_findFirstSpan_59 rfl (lv_at hl 0 rfl) ?_
      refine cg_sh_pages hx hb hts inw_X5_findFirstSpan_X5 hown hkx hw (hts _ (List.mem_of_getElem? (i := 5) rfl)) dX5_findFirstSpan_60 ?_
      refine cg_pg_readNumber hx hb hts inw_X5_findFirstSpan_X3 hown hkx hw (hts _ (List.mem_of_getElem? (i := 7) rfl)) dX5_findFirstSpan_63 ?_
      refine lv_iload hx hb dX5_findFirstSpan_66 (lv_at hl 6 rfl) ?_
      obtain ⟨b_2, h⟩ := h
      refine ca_readNumber hx hb hkx hw b_2 dX5_findFirstSpan_68 ?_
      refine lv_if_le (tgt := 88) hx hb dX5_findFirstSpan_69 (by decide) (fun c_3 => ?_) (fun c_3 => ?_)
      · replace h := h.1 c_3
        exact w_X5_findFirstSpan_88 C0 ih _ _ _ _ _ _ _ _ h _ _ _ _ hw (lv_sub hl [0, 1, 2, 3, 4, 5, 6] rfl)
      · replace h := h.2 c_3
        refine lv_iinc (v := x4 + (1 : Int32)) (lv' := [(4, .int (x4 + (1 : Int32))), (0, .ref (ad 7)), (1, .int x1), (2, .int x2), (3, .int x3), (5, .int x5), (6, .int x6)]) hx hb dX5_findFirstSpan_72 hl (k := 4) rfl rfl (by decide) rfl (fun ls hl => ?_)
        refine lv_iload hx hb dX5_findFirstSpan_75 (lv_at hl 5 rfl) ?_
        refine lv_aload_n hx hb dX5_findFirstSpan_77 rfl (lv_at hl 1 rfl) ?_
        refine lv_iload hx hb dX5_findFirstSpan_78 (lv_at hl 6 rfl) ?_
        refine cf_Vi (As := [.int x6]) ⟨hx, hb, hml, hown, hts⟩ hkx hw hA (c_X5_addTime l D cy ad κ σ τ x6 _ h) (cwV 1 hts gX5_findFirstSpan_X5_addTime rfl rfl rfl hd_X5_addTime ⟨Nat.le_of_ble_eq_true rfl, Nat.le_of_ble_eq_true rfl⟩) 7 5 rfl rfl rfl hl.1 rfl (Nat.le_of_ble_eq_true rfl) dX5_findFirstSpan_80 ⟨Nat.zero_le _, Nat.zero_le _⟩ (fun r_4 κ σ_5 τ_6 H locs h hw => ?_)
        refine va_mmax hx hb (hml.trans hl.1.symm) hown (hts _ (List.mem_of_getElem? (i := 8) rfl)) (hts _ (List.mem_of_getElem? (i := 9) rfl)) (hts _ (List.mem_of_getElem? (i := 10) rfl)) (hts _ (List.mem_of_getElem? (i := 11) rfl)) (Nat.le_of_ble_eq_true rfl) (Nat.le_of_ble_eq_true rfl) (Nat.zero_le _) (Nat.zero_le _) dX5_findFirstSpan_83 ?_
        refine lv_topi (fun y_7 ey_7 => ?_)
        replace h := h y_7 ey_7
        refine lv_istore (lv' := [(5, .int y_7), (4, .int (x4 + (1 : Int32))), (0, .ref (ad 7)), (1, .int x1), (2, .int x2), (3, .int x3), (6, .int x6)]) hx hb dX5_findFirstSpan_86 hl (by decide) rfl (fun ls hl => ?_)
        exact w_X5_findFirstSpan_88 C0 ih _ _ _ _ _ _ _ _ h _ _ _ _ hw (lv_sub hl [2, 3, 4, 5, 1, 0, 6] rfl)
def wp_X5_findFirstSpan (x1 : Int32) (σ : Sg) (τ : Tg) (post : Sg → Tg → Prop) : Prop :=
    ∀ y_2 : Int32, y_2 = (((σ 16 (8 : Int32).toNatClampNeg) * (64 : Int32)) + (1 : Int32)) →
    ∀ y_4 : Int32, y_4 = ((σ 16 (9 : Int32).toNatClampNeg) * (64 : Int32)) →
    vp_in x1 61 ∧
    ∀ σ_6 : Sg, σ_6 = va_up σ 44 (upd (σ 44) x1.toNatClampNeg (1073741824 : Int32)) →
    ∃ fu, wp_X5_findFirstSpan_47 post fu x1 y_2 y_4 (0 : Int32) (0 : Int32) x1 σ_6 τ
set_option maxHeartbeats 4000000 in
set_option maxRecDepth 100000 in
theorem c_X5_findFirstSpan (l : Launch) (D : va_G) (cy : Nat → ClassId) (ad κ : Nat → Nat) (σ : Sg) (τ : Tg) (x1 : Int32) (post : Sg → Tg → Prop) (h : wp_X5_findFirstSpan x1 σ τ post) : Ct l yX5_findFirstSpan wsX5_findFirstSpan rm_X5_findFirstSpan D cy [.ref (ad 7), .int x1] (cfW cy ad κ σ τ) 0 0 (Rv D (cfU cy ad) (fun u => post u.2.1 u.2.2)) := by
  refine Ct.of (cc := cX5_findFirstSpan) (maxL := 8) (rt := none) (by decide) rfl (Nat.le_of_ble_eq_true rfl) ?_
  intro p e s m below meth c A C0 _ H locs ls hw hl
  obtain ⟨⟨hx, hb, hml, hown, hts⟩, hr, hlocks, hkx, hA⟩ := id C0
  have hl : lv_has ls 8 [(0, .ref (ad 7)), (1, .int x1)] := hl
  unfold wp_X5_findFirstSpan at h
  refine lv_aload_n hx hb dX5_findFirstSpan_0 rfl (lv_at hl 0 rfl) ?_
  refine cg_sh_settings hx hb hts inw_X5_findFirstSpan_X5 hown hkx hw (hts _ (List.mem_of_getElem? (i := 1) rfl)) dX5_findFirstSpan_1 ?_
  refine cg_st_prices hx hb hts inw_X5_findFirstSpan_X4 hown hkx hw (hts _ (List.mem_of_getElem? (i := 2) rfl)) dX5_findFirstSpan_4 ?_
  refine lv_bipush (v := 8) hx hb dX5_findFirstSpan_7 (by decide) ?_
  refine ca_prices hx hb hkx hw (by unfold vp_in; decide) dX5_findFirstSpan_9 ?_
  refine lv_bipush (v := 64) hx hb dX5_findFirstSpan_10 (by decide) ?_
  refine lv_imul hx hb dX5_findFirstSpan_12 ?_
  refine lv_iconst (v := 1) hx hb dX5_findFirstSpan_13 (by decide) ?_
  refine lv_iadd hx hb dX5_findFirstSpan_14 ?_
  refine lv_topi (fun y_2 ey_2 => ?_)
  replace h := h y_2 ey_2
  refine lv_istore_n (lv' := [(2, .int y_2), (0, .ref (ad 7)), (1, .int x1)]) hx hb dX5_findFirstSpan_15 rfl hl (by decide) rfl (fun ls hl => ?_)
  refine lv_aload_n hx hb dX5_findFirstSpan_16 rfl (lv_at hl 1 rfl) ?_
  refine cg_sh_settings hx hb hts inw_X5_findFirstSpan_X5 hown hkx hw (hts _ (List.mem_of_getElem? (i := 1) rfl)) dX5_findFirstSpan_17 ?_
  refine cg_st_prices hx hb hts inw_X5_findFirstSpan_X4 hown hkx hw (hts _ (List.mem_of_getElem? (i := 2) rfl)) dX5_findFirstSpan_20 ?_
  refine lv_bipush (v := 9) hx hb dX5_findFirstSpan_23 (by decide) ?_
  refine ca_prices hx hb hkx hw (by unfold vp_in; decide) dX5_findFirstSpan_25 ?_
  refine lv_bipush (v := 64) hx hb dX5_findFirstSpan_26 (by decide) ?_
  refine lv_imul hx hb dX5_findFirstSpan_28 ?_
  refine lv_topi (fun y_4 ey_4 => ?_)
  replace h := h y_4 ey_4
  refine lv_istore_n (lv' := [(3, .int y_4), (2, .int y_2), (0, .ref (ad 7)), (1, .int x1)]) hx hb dX5_findFirstSpan_29 rfl hl (by decide) rfl (fun ls hl => ?_)
  refine lv_iconst (v := 0) hx hb dX5_findFirstSpan_30 (by decide) ?_
  refine lv_istore (lv' := [(4, .int (0 : Int32)), (3, .int y_4), (2, .int y_2), (0, .ref (ad 7)), (1, .int x1)]) hx hb dX5_findFirstSpan_31 hl (by decide) rfl (fun ls hl => ?_)
  refine lv_iconst (v := 0) hx hb dX5_findFirstSpan_33 (by decide) ?_
  refine lv_istore (lv' := [(5, .int (0 : Int32)), (4, .int (0 : Int32)), (3, .int y_4), (2, .int y_2), (0, .ref (ad 7)), (1, .int x1)]) hx hb dX5_findFirstSpan_34 hl (by decide) rfl (fun ls hl => ?_)
  refine lv_aload_n hx hb dX5_findFirstSpan_36 rfl (lv_at hl 4 rfl) ?_
  refine cg_sh_least hx hb hts inw_X5_findFirstSpan_X5 hown hkx hw (hts _ (List.mem_of_getElem? (i := 3) rfl)) dX5_findFirstSpan_37 ?_
  refine lv_iload_n hx hb dX5_findFirstSpan_40 rfl (lv_at hl 5 rfl) ?_
  refine lv_ldc hx hb hown (hts _ (List.mem_of_getElem? (i := 4) rfl)) dX5_findFirstSpan_41 ?_
  obtain ⟨b_5, h⟩ := h
  refine cs_sleast hx hb hkx hw b_5 dX5_findFirstSpan_43 (fun σ_6 eσ_6 H locs hw => ?_)
  replace h := h σ_6 eσ_6
  refine lv_iload_n hx hb dX5_findFirstSpan_44 rfl (lv_at hl 5 rfl) ?_
  refine lv_istore (lv' := [(6, .int x1), (5, .int (0 : Int32)), (4, .int (0 : Int32)), (3, .int y_4), (2, .int y_2), (0, .ref (ad 7)), (1, .int x1)]) hx hb dX5_findFirstSpan_45 hl (by decide) rfl (fun ls hl => ?_)
  obtain ⟨n_7, h⟩ := h
  exact w_X5_findFirstSpan_47 C0 n_7 _ _ _ _ _ _ _ _ h _ _ _ _ hw (lv_sub hl [5, 6, 4, 3, 2, 1, 0] rfl)
end
theorem hd_X5_isWrong : yX5_isWrong.cls = RX5 ∧ yX5_isWrong.cls ≠ "java/lang/invoke/MethodHandle" ∧ yX5_isWrong.cls ≠ "java/lang/invoke/VarHandle" ∧ (parseMethodDescriptor yX5_isWrong.desc).map (fun d => d.parameters.length) = some 1 := by decide +kernel
section
variable {p : Program} {l : Launch} {e : Env} {s : State} {m : MethodId} {args : Array Value} {below : List Frame} {meth : Method} {c : Code} {D : va_G} {cy : Nat → ClassId} {A : Nat → Prop} {ad : Nat → Nat}
abbrev rm_X5_isWrong : Room := { frames := 0, cells := 0, slots := 0, locals := 0 }
theorem inw_X5_isWrong_X3 : ∀ w ∈ u_ws RX3 TX3 2, w ∈ wsX5_isWrong := fun _ h => List.mem_cons_of_mem _ (List.mem_append_right _ h)
theorem inw_X5_isWrong_X5 : ∀ w ∈ u_ws RX5 TX5 10, w ∈ wsX5_isWrong := fun _ h => List.mem_cons_of_mem _ (List.mem_append_left _ (List.mem_append_right _ h))
def wp_X5_isWrong (x1 : Int32) (σ : Sg) (τ : Tg) (post : Int32 → Sg → Tg → Prop) : Prop :=
    vp_in x1 60 ∧
    ∀ y_2 : Int32, y_2 = (σ 18 x1.toNatClampNeg) →
    (y_2 ≤ 0 →
    post (0 : Int32) σ τ) ∧
    (¬ y_2 ≤ 0 →
    vp_in x1 60 ∧
    (y_2 = (x1 + (σ 42 x1.toNatClampNeg)) →
    post (0 : Int32) σ τ) ∧
    (¬ y_2 = (x1 + (σ 42 x1.toNatClampNeg)) →
    post (1 : Int32) σ τ))
set_option maxHeartbeats 4000000 in
set_option maxRecDepth 100000 in
theorem c_X5_isWrong (l : Launch) (D : va_G) (cy : Nat → ClassId) (ad κ : Nat → Nat) (σ : Sg) (τ : Tg) (x1 : Int32) (post : Int32 → Sg → Tg → Prop) (h : wp_X5_isWrong x1 σ τ post) : Ct l yX5_isWrong wsX5_isWrong rm_X5_isWrong D cy [.ref (ad 7), .int x1] (cfW cy ad κ σ τ) 0 0 (Ri D (cfU cy ad) (fun r u => post r u.2.1 u.2.2)) := by
  refine Ct.of (cc := cX5_isWrong) (maxL := 3) (rt := (some .boolean)) (by decide) rfl (Nat.le_of_ble_eq_true rfl) ?_
  intro p e s m below meth c A C0 _ H locs ls hw hl
  obtain ⟨⟨hx, hb, hml, hown, hts⟩, hr, hlocks, hkx, hA⟩ := id C0
  have hl : lv_has ls 3 [(0, .ref (ad 7)), (1, .int x1)] := hl
  unfold wp_X5_isWrong at h
  refine lv_aload_n hx hb dX5_isWrong_0 rfl (lv_at hl 0 rfl) ?_
  refine cg_sh_pages hx hb hts inw_X5_isWrong_X5 hown hkx hw (hts _ (List.mem_of_getElem? (i := 1) rfl)) dX5_isWrong_1 ?_
  refine cg_pg_readNumber hx hb hts inw_X5_isWrong_X3 hown hkx hw (hts _ (List.mem_of_getElem? (i := 2) rfl)) dX5_isWrong_4 ?_
  refine lv_iload_n hx hb dX5_isWrong_7 rfl (lv_at hl 1 rfl) ?_
  obtain ⟨b_1, h⟩ := h
  refine ca_readNumber hx hb hkx hw b_1 dX5_isWrong_8 ?_
  refine lv_topi (fun y_2 ey_2 => ?_)
  replace h := h y_2 ey_2
  refine lv_istore_n (lv' := [(2, .int y_2), (0, .ref (ad 7)), (1, .int x1)]) hx hb dX5_isWrong_9 rfl hl (by decide) rfl (fun ls hl => ?_)
  refine lv_iload_n hx hb dX5_isWrong_10 rfl (lv_at hl 0 rfl) ?_
  refine lv_if_le (tgt := 30) hx hb dX5_isWrong_11 (by decide) (fun c_3 => ?_) (fun c_3 => ?_)
  · replace h := h.1 c_3
    refine lv_iconst (v := 0) hx hb dX5_isWrong_30 (by decide) ?_
    exact end_z (w1 := (cfU cy ad)) (u := (κ, σ, τ)) C0 hw (Or.inl rfl) h dX5_isWrong_31
  · replace h := h.2 c_3
    refine lv_iload_n hx hb dX5_isWrong_14 rfl (lv_at hl 0 rfl) ?_
    refine lv_iload_n hx hb dX5_isWrong_15 rfl (lv_at hl 2 rfl) ?_
    refine lv_aload_n hx hb dX5_isWrong_16 rfl (lv_at hl 1 rfl) ?_
    refine cg_sh_shiftOfPage hx hb hts inw_X5_isWrong_X5 hown hkx hw (hts _ (List.mem_of_getElem? (i := 3) rfl)) dX5_isWrong_17 ?_
    refine lv_iload_n hx hb dX5_isWrong_20 rfl (lv_at hl 2 rfl) ?_
    obtain ⟨b_4, h⟩ := h
    refine ca_sop hx hb hkx hw b_4 dX5_isWrong_21 ?_
    refine lv_iadd hx hb dX5_isWrong_22 ?_
    refine lv_icmp_eq (tgt := 30) hx hb dX5_isWrong_23 (by decide) (fun c_5 => ?_) (fun c_5 => ?_)
    · replace h := h.1 c_5
      refine lv_iconst (v := 0) hx hb dX5_isWrong_30 (by decide) ?_
      exact end_z (w1 := (cfU cy ad)) (u := (κ, σ, τ)) C0 hw (Or.inl rfl) h dX5_isWrong_31
    · replace h := h.2 c_5
      refine lv_iconst (v := 1) hx hb dX5_isWrong_26 (by decide) ?_
      refine lv_goto (tgt := 31) hx hb dX5_isWrong_27 (by decide) ?_
      exact end_z (w1 := (cfU cy ad)) (u := (κ, σ, τ)) C0 hw (Or.inr rfl) h dX5_isWrong_31
end
theorem hd_X5_bestShift : yX5_bestShift.cls = RX5 ∧ yX5_bestShift.cls ≠ "java/lang/invoke/MethodHandle" ∧ yX5_bestShift.cls ≠ "java/lang/invoke/VarHandle" ∧ (parseMethodDescriptor yX5_bestShift.desc).map (fun d => d.parameters.length) = some 2 := by decide +kernel
section
variable {p : Program} {l : Launch} {e : Env} {s : State} {m : MethodId} {args : Array Value} {below : List Frame} {meth : Method} {c : Code} {D : va_G} {cy : Nat → ClassId} {A : Nat → Prop} {ad : Nat → Nat}
abbrev rm_X5_bestShift : Room := { frames := 2, cells := 0, slots := 0, locals := 44 }
theorem inw_X5_bestShift_X3 : ∀ w ∈ u_ws RX3 TX3 2, w ∈ wsX5_bestShift := fun _ h => List.mem_cons_of_mem _ (List.mem_append_right _ h)
theorem inw_X5_bestShift_X5 : ∀ w ∈ u_ws RX5 TX5 10, w ∈ wsX5_bestShift := fun _ h => List.mem_cons_of_mem _ (List.mem_append_left _ (List.mem_append_right _ h))
abbrev G_X5_bestShift (p : Program) (l : Launch) (e : Env) (s : State) (m : MethodId) (args : Array Value) (below : List Frame) (meth : Method) (c : Code) (D : va_G) (A : Nat → Prop) (cy : Nat → ClassId) (ad : Nat → Nat) (post : Int32 → Sg → Tg → Prop) : va_W → Nat → List (Nat × Value) → Nat → List Value → Prop := Gw p l e rm_X5_bestShift s m args below meth c D A (MQ below ((Ri D (cfU cy ad) (fun r u => post r u.2.1 u.2.2)) A) args s 0 0 A)
def wp_X5_bestShift_70 (post : Int32 → Sg → Tg → Prop) (k8 : Int32 → Int32 → Int32 → Int32 → Int32 → Sg → Tg → Prop) (x1 : Int32) (x2 : Int32) (x5 : Int32) (x6 : Int32) (x7 : Int32) (σ : Sg) (τ : Tg) : Prop :=
    k8 x1 x2 x7 x6 (x5 + (1 : Int32)) σ τ
set_option maxHeartbeats 4000000 in
set_option maxRecDepth 100000 in
theorem w_X5_bestShift_70 (C0 : Mc p m c meth cX5_bestShift 8 s args wsX5_bestShift RX5 (some .int) D cy A) {post : Int32 → Sg → Tg → Prop} {k8 : Int32 → Int32 → Int32 → Int32 → Int32 → Sg → Tg → Prop} (hk8 : ∀ (x1 : Int32) (x2 : Int32) (x3 : Int32) (x4 : Int32) (x5 : Int32) (σ : Sg) (τ : Tg), k8 x1 x2 x3 x4 x5 σ τ → ∀ κ : Nat → Nat, G_X5_bestShift p l e s m args below meth c D A cy ad post (cfW cy ad κ σ τ) 8 [(0, .ref (ad 7)), (1, .int x1), (2, .int x2), (3, .int x3), (4, .int x4), (5, .int x5)] 8 []) : ∀ (x1 : Int32) (x2 : Int32) (x5 : Int32) (x6 : Int32) (x7 : Int32) (σ : Sg) (τ : Tg), wp_X5_bestShift_70 post k8 x1 x2 x5 x6 x7 σ τ → ∀ κ : Nat → Nat, G_X5_bestShift p l e s m args below meth c D A cy ad post (cfW cy ad κ σ τ) 8 [(0, .ref (ad 7)), (1, .int x1), (2, .int x2), (5, .int x5), (6, .int x6), (7, .int x7)] 70 [] := by
  obtain ⟨⟨hx, hb, hml, hown, hts⟩, hr, hlocks, hkx, hA⟩ := id C0
  intro x1 x2 x5 x6 x7 σ τ h κ H locs ls hw hl
  unfold wp_X5_bestShift_70 at h
  refine lv_iload hx hb dX5_bestShift_70 (lv_at hl 4 rfl) ?_
  refine lv_istore (lv' := [(4, .int x6), (0, .ref (ad 7)), (1, .int x1), (2, .int x2), (5, .int x5), (6, .int x6), (7, .int x7)]) hx hb dX5_bestShift_72 hl (by decide) rfl (fun ls hl => ?_)
  refine lv_iload hx hb dX5_bestShift_74 (lv_at hl 6 rfl) ?_
  refine lv_istore_n (lv' := [(3, .int x7), (4, .int x6), (0, .ref (ad 7)), (1, .int x1), (2, .int x2), (5, .int x5), (6, .int x6), (7, .int x7)]) hx hb dX5_bestShift_76 rfl hl (by decide) rfl (fun ls hl => ?_)
  refine lv_iinc (v := x5 + (1 : Int32)) (lv' := [(5, .int (x5 + (1 : Int32))), (3, .int x7), (4, .int x6), (0, .ref (ad 7)), (1, .int x1), (2, .int x2), (6, .int x6), (7, .int x7)]) hx hb dX5_bestShift_77 hl (k := 5) rfl rfl (by decide) rfl (fun ls hl => ?_)
  refine lv_goto (tgt := 8) hx hb dX5_bestShift_80 (by decide) ?_
  exact hk8 _ _ _ _ _ _ _ h _ _ _ _ hw (lv_sub hl [3, 4, 5, 1, 2, 0] rfl)
def wp_X5_bestShift_8 (post : Int32 → Sg → Tg → Prop) : Nat → Int32 → Int32 → Int32 → Int32 → Int32 → Sg → Tg → Prop
  | 0, _, _, _, _, _, _, _ => False
  | n + 1, x1, x2, x3, x4, x5, σ, τ =>
    (x2 ≤ x5 →
    wp_X5_forgetTimes x1 x2 σ τ (fun σ_2 τ_3 =>
    post x3 σ_2 τ_3)) ∧
    (¬ x2 ≤ x5 →
    vp_in x5 60 ∧
    ((σ 18 x5.toNatClampNeg) ≤ 0 →
    wp_X5_bestShift_8 post n x1 x2 x3 x4 (x5 + (1 : Int32)) σ τ) ∧
    (¬ (σ 18 x5.toNatClampNeg) ≤ 0 →
    wp_X5_addTime x5 σ τ (fun r_6 σ_7 τ_8 =>
    vp_in x5 60 ∧
    ∀ y_10 : Int32, y_10 = ((σ_7 18 x5.toNatClampNeg) - x5) →
    (x4 < r_6 →
    wp_X5_bestShift_70 post (fun zx1 zx2 zx3 zx4 zx5 zσ zτ => wp_X5_bestShift_8 post n zx1 zx2 zx3 zx4 zx5 zσ zτ) x1 x2 x5 r_6 y_10 σ_7 τ_8) ∧
    (¬ x4 < r_6 →
    (¬ r_6 = x4 →
    wp_X5_bestShift_8 post n x1 x2 x3 x4 (x5 + (1 : Int32)) σ_7 τ_8) ∧
    (r_6 = x4 →
    (x3 ≤ y_10 →
    wp_X5_bestShift_8 post n x1 x2 x3 x4 (x5 + (1 : Int32)) σ_7 τ_8) ∧
    (¬ x3 ≤ y_10 →
    wp_X5_bestShift_70 post (fun zx1 zx2 zx3 zx4 zx5 zσ zτ => wp_X5_bestShift_8 post n zx1 zx2 zx3 zx4 zx5 zσ zτ) x1 x2 x5 r_6 y_10 σ_7 τ_8))))))
set_option maxHeartbeats 4000000 in
set_option maxRecDepth 100000 in
theorem w_X5_bestShift_8 (C0 : Mc p m c meth cX5_bestShift 8 s args wsX5_bestShift RX5 (some .int) D cy A) {post : Int32 → Sg → Tg → Prop} : ∀ (n : Nat) (x1 : Int32) (x2 : Int32) (x3 : Int32) (x4 : Int32) (x5 : Int32) (σ : Sg) (τ : Tg), wp_X5_bestShift_8 post n x1 x2 x3 x4 x5 σ τ → ∀ κ : Nat → Nat, G_X5_bestShift p l e s m args below meth c D A cy ad post (cfW cy ad κ σ τ) 8 [(0, .ref (ad 7)), (1, .int x1), (2, .int x2), (3, .int x3), (4, .int x4), (5, .int x5)] 8 [] := by
  obtain ⟨⟨hx, hb, hml, hown, hts⟩, hr, hlocks, hkx, hA⟩ := id C0
  intro n
  induction n with
  | zero => intro x1 x2 x3 x4 x5 σ τ h; exact False.elim h
  | succ n ih =>
    intro x1 x2 x3 x4 x5 σ τ h κ H locs ls hw hl
    unfold wp_X5_bestShift_8 at h
    refine lv_iload hx hb dX5_bestShift_8 (lv_at hl 5 rfl) ?_
    refine lv_iload_n hx hb dX5_bestShift_10 rfl (lv_at hl 2 rfl) ?_
    refine lv_icmp_ge (tgt := 83) hx hb dX5_bestShift_11 (by decide) (fun c_1 => ?_) (fun c_1 => ?_)
    · replace h := h.1 c_1
      refine lv_aload_n hx hb dX5_bestShift_83 rfl (lv_at hl 0 rfl) ?_
      refine lv_iload_n hx hb dX5_bestShift_84 rfl (lv_at hl 1 rfl) ?_
      refine lv_iload_n hx hb dX5_bestShift_85 rfl (lv_at hl 2 rfl) ?_
      refine cf_Vv (As := [.int x1, .int x2]) ⟨hx, hb, hml, hown, hts⟩ hkx hw hA (c_X5_forgetTimes l D cy ad κ σ τ x1 x2 _ h) (cwV 2 hts gX5_bestShift_X5_forgetTimes rfl rfl rfl hd_X5_forgetTimes ⟨Nat.le_of_ble_eq_true rfl, Nat.le_of_ble_eq_true rfl⟩) 7 5 rfl rfl rfl hl.1 rfl (Nat.le_of_ble_eq_true rfl) dX5_bestShift_86 ⟨Nat.zero_le _, Nat.zero_le _⟩ (fun κ σ_2 τ_3 H locs h hw => ?_)
      refine lv_iload_n hx hb dX5_bestShift_89 rfl (lv_at hl 3 rfl) ?_
      exact end_i (w1 := (cfU cy ad)) (u := (κ, σ_2, τ_3)) C0 hw h dX5_bestShift_90
    · replace h := h.2 c_1
      refine lv_aload_n hx hb dX5_bestShift_14 rfl (lv_at hl 0 rfl) ?_
      refine cg_sh_pages hx hb hts inw_X5_bestShift_X5 hown hkx hw (hts _ (List.mem_of_getElem? (i := 1) rfl)) dX5_bestShift_15 ?_
      refine cg_pg_readNumber hx hb hts inw_X5_bestShift_X3 hown hkx hw (hts _ (List.mem_of_getElem? (i := 2) rfl)) dX5_bestShift_18 ?_
      refine lv_iload hx hb dX5_bestShift_21 (lv_at hl 5 rfl) ?_
      obtain ⟨b_4, h⟩ := h
      refine ca_readNumber hx hb hkx hw b_4 dX5_bestShift_23 ?_
      refine lv_if_le (tgt := 77) hx hb dX5_bestShift_24 (by decide) (fun c_5 => ?_) (fun c_5 => ?_)
      · replace h := h.1 c_5
        refine lv_iinc (v := x5 + (1 : Int32)) (lv' := [(5, .int (x5 + (1 : Int32))), (0, .ref (ad 7)), (1, .int x1), (2, .int x2), (3, .int x3), (4, .int x4)]) hx hb dX5_bestShift_77 hl (k := 5) rfl rfl (by decide) rfl (fun ls hl => ?_)
        refine lv_goto (tgt := 8) hx hb dX5_bestShift_80 (by decide) ?_
        exact ih _ _ _ _ _ _ _ h _ _ _ _ hw (lv_sub hl [1, 2, 3, 4, 5, 0] rfl)
      · replace h := h.2 c_5
        refine lv_aload_n hx hb dX5_bestShift_27 rfl (lv_at hl 0 rfl) ?_
        refine lv_iload hx hb dX5_bestShift_28 (lv_at hl 5 rfl) ?_
        refine cf_Vi (As := [.int x5]) ⟨hx, hb, hml, hown, hts⟩ hkx hw hA (c_X5_addTime l D cy ad κ σ τ x5 _ h) (cwV 1 hts gX5_bestShift_X5_addTime rfl rfl rfl hd_X5_addTime ⟨Nat.le_of_ble_eq_true rfl, Nat.le_of_ble_eq_true rfl⟩) 7 5 rfl rfl rfl hl.1 rfl (Nat.le_of_ble_eq_true rfl) dX5_bestShift_30 ⟨Nat.zero_le _, Nat.zero_le _⟩ (fun r_6 κ σ_7 τ_8 H locs h hw => ?_)
        refine lv_istore (lv' := [(6, .int r_6), (0, .ref (ad 7)), (1, .int x1), (2, .int x2), (3, .int x3), (4, .int x4), (5, .int x5)]) hx hb dX5_bestShift_33 hl (by decide) rfl (fun ls hl => ?_)
        refine lv_aload_n hx hb dX5_bestShift_35 rfl (lv_at hl 1 rfl) ?_
        refine cg_sh_pages hx hb hts inw_X5_bestShift_X5 hown hkx hw (hts _ (List.mem_of_getElem? (i := 1) rfl)) dX5_bestShift_36 ?_
        refine cg_pg_readNumber hx hb hts inw_X5_bestShift_X3 hown hkx hw (hts _ (List.mem_of_getElem? (i := 2) rfl)) dX5_bestShift_39 ?_
        refine lv_iload hx hb dX5_bestShift_42 (lv_at hl 6 rfl) ?_
        obtain ⟨b_9, h⟩ := h
        refine ca_readNumber hx hb hkx hw b_9 dX5_bestShift_44 ?_
        refine lv_iload hx hb dX5_bestShift_45 (lv_at hl 6 rfl) ?_
        refine lv_isub hx hb dX5_bestShift_47 ?_
        refine lv_topi (fun y_10 ey_10 => ?_)
        replace h := h y_10 ey_10
        refine lv_istore (lv' := [(7, .int y_10), (6, .int r_6), (0, .ref (ad 7)), (1, .int x1), (2, .int x2), (3, .int x3), (4, .int x4), (5, .int x5)]) hx hb dX5_bestShift_48 hl (by decide) rfl (fun ls hl => ?_)
        refine lv_iload hx hb dX5_bestShift_50 (lv_at hl 1 rfl) ?_
        refine lv_iload hx hb dX5_bestShift_52 (lv_at hl 6 rfl) ?_
        refine lv_icmp_gt (tgt := 70) hx hb dX5_bestShift_54 (by decide) (fun c_11 => ?_) (fun c_11 => ?_)
        · replace h := h.1 c_11
          exact w_X5_bestShift_70 C0 ih _ _ _ _ _ _ _ h _ _ _ _ hw (lv_sub hl [2, 3, 4, 7, 1, 0] rfl)
        · replace h := h.2 c_11
          refine lv_iload hx hb dX5_bestShift_57 (lv_at hl 1 rfl) ?_
          refine lv_iload hx hb dX5_bestShift_59 (lv_at hl 6 rfl) ?_
          refine lv_icmp_ne (tgt := 77) hx hb dX5_bestShift_61 (by decide) (fun c_12 => ?_) (fun c_12 => ?_)
          · replace h := h.1 c_12
            refine lv_iinc (v := x5 + (1 : Int32)) (lv' := [(5, .int (x5 + (1 : Int32))), (7, .int y_10), (6, .int r_6), (0, .ref (ad 7)), (1, .int x1), (2, .int x2), (3, .int x3), (4, .int x4)]) hx hb dX5_bestShift_77 hl (k := 7) rfl rfl (by decide) rfl (fun ls hl => ?_)
            refine lv_goto (tgt := 8) hx hb dX5_bestShift_80 (by decide) ?_
            exact ih _ _ _ _ _ _ _ h _ _ _ _ hw (lv_sub hl [3, 4, 5, 6, 7, 0] rfl)
          · replace h := h.2 c_12
            refine lv_iload hx hb dX5_bestShift_64 (lv_at hl 0 rfl) ?_
            refine lv_iload_n hx hb dX5_bestShift_66 rfl (lv_at hl 5 rfl) ?_
            refine lv_icmp_ge (tgt := 77) hx hb dX5_bestShift_67 (by decide) (fun c_13 => ?_) (fun c_13 => ?_)
            · replace h := h.1 c_13
              refine lv_iinc (v := x5 + (1 : Int32)) (lv' := [(5, .int (x5 + (1 : Int32))), (7, .int y_10), (6, .int r_6), (0, .ref (ad 7)), (1, .int x1), (2, .int x2), (3, .int x3), (4, .int x4)]) hx hb dX5_bestShift_77 hl (k := 7) rfl rfl (by decide) rfl (fun ls hl => ?_)
              refine lv_goto (tgt := 8) hx hb dX5_bestShift_80 (by decide) ?_
              exact ih _ _ _ _ _ _ _ h _ _ _ _ hw (lv_sub hl [3, 4, 5, 6, 7, 0] rfl)
            · replace h := h.2 c_13
              exact w_X5_bestShift_70 C0 ih _ _ _ _ _ _ _ h _ _ _ _ hw (lv_sub hl [2, 3, 4, 7, 1, 0] rfl)
def wp_X5_bestShift (x1 : Int32) (x2 : Int32) (σ : Sg) (τ : Tg) (post : Int32 → Sg → Tg → Prop) : Prop :=
    ∃ fu, wp_X5_bestShift_8 post fu x1 x2 (0 : Int32) (0 : Int32) x1 σ τ
set_option maxHeartbeats 4000000 in
set_option maxRecDepth 100000 in
theorem c_X5_bestShift (l : Launch) (D : va_G) (cy : Nat → ClassId) (ad κ : Nat → Nat) (σ : Sg) (τ : Tg) (x1 : Int32) (x2 : Int32) (post : Int32 → Sg → Tg → Prop) (h : wp_X5_bestShift x1 x2 σ τ post) : Ct l yX5_bestShift wsX5_bestShift rm_X5_bestShift D cy [.ref (ad 7), .int x1, .int x2] (cfW cy ad κ σ τ) 0 0 (Ri D (cfU cy ad) (fun r u => post r u.2.1 u.2.2)) := by
  refine Ct.of (cc := cX5_bestShift) (maxL := 8) (rt := (some .int)) (by decide) rfl (Nat.le_of_ble_eq_true rfl) ?_
  intro p e s m below meth c A C0 _ H locs ls hw hl
  obtain ⟨⟨hx, hb, hml, hown, hts⟩, hr, hlocks, hkx, hA⟩ := id C0
  have hl : lv_has ls 8 [(0, .ref (ad 7)), (1, .int x1), (2, .int x2)] := hl
  unfold wp_X5_bestShift at h
  refine lv_iconst (v := 0) hx hb dX5_bestShift_0 (by decide) ?_
  refine lv_istore_n (lv' := [(3, .int (0 : Int32)), (0, .ref (ad 7)), (1, .int x1), (2, .int x2)]) hx hb dX5_bestShift_1 rfl hl (by decide) rfl (fun ls hl => ?_)
  refine lv_iconst (v := 0) hx hb dX5_bestShift_2 (by decide) ?_
  refine lv_istore (lv' := [(4, .int (0 : Int32)), (3, .int (0 : Int32)), (0, .ref (ad 7)), (1, .int x1), (2, .int x2)]) hx hb dX5_bestShift_3 hl (by decide) rfl (fun ls hl => ?_)
  refine lv_iload_n hx hb dX5_bestShift_5 rfl (lv_at hl 3 rfl) ?_
  refine lv_istore (lv' := [(5, .int x1), (4, .int (0 : Int32)), (3, .int (0 : Int32)), (0, .ref (ad 7)), (1, .int x1), (2, .int x2)]) hx hb dX5_bestShift_6 hl (by decide) rfl (fun ls hl => ?_)
  obtain ⟨n_1, h⟩ := h
  exact w_X5_bestShift_8 C0 n_1 _ _ _ _ _ _ _ h _ _ _ _ hw (lv_sub hl [3, 4, 5, 2, 1, 0] rfl)
end
theorem hd_X5_tellSpans : yX5_tellSpans.cls = RX5 ∧ yX5_tellSpans.cls ≠ "java/lang/invoke/MethodHandle" ∧ yX5_tellSpans.cls ≠ "java/lang/invoke/VarHandle" ∧ (parseMethodDescriptor yX5_tellSpans.desc).map (fun d => d.parameters.length) = some 0 := by decide +kernel
section
variable {p : Program} {l : Launch} {e : Env} {s : State} {m : MethodId} {args : Array Value} {below : List Frame} {meth : Method} {c : Code} {D : va_G} {cy : Nat → ClassId} {A : Nat → Prop} {ad : Nat → Nat}
abbrev rm_X5_tellSpans : Room := { frames := 3, cells := 0, slots := 0, locals := 71 }
theorem inw_X5_tellSpans_X3 : ∀ w ∈ u_ws RX3 TX3 2, w ∈ wsX5_tellSpans := fun _ h => List.mem_cons_of_mem _ (List.mem_append_right _ h)
theorem inw_X5_tellSpans_X5 : ∀ w ∈ u_ws RX5 TX5 10, w ∈ wsX5_tellSpans := fun _ h => List.mem_cons_of_mem _ (List.mem_append_left _ (List.mem_append_right _ h))
abbrev G_X5_tellSpans (p : Program) (l : Launch) (e : Env) (s : State) (m : MethodId) (args : Array Value) (below : List Frame) (meth : Method) (c : Code) (D : va_G) (A : Nat → Prop) (cy : Nat → ClassId) (ad : Nat → Nat) (post : Sg → Tg → Prop) : va_W → Nat → List (Nat × Value) → Nat → List Value → Prop := Gw p l e rm_X5_tellSpans s m args below meth c D A (MQ below ((Rv D (cfU cy ad) (fun u => post u.2.1 u.2.2)) A) args s 0 0 A)
def wp_X5_tellSpans_50 (post : Sg → Tg → Prop) (k14 : Int32 → Int32 → Int32 → Int32 → Sg → Tg → Prop) (x1 : Int32) (x2 : Int32) (x3 : Int32) (x4 : Int32) (σ : Sg) (τ : Tg) : Prop :=
    vp_in x4 60 ∧
    ∀ σ_2 : Sg, σ_2 = va_up σ 43 (upd (σ 43) x4.toNatClampNeg x1) →
    vp_in x4 60 ∧
    ∀ σ_4 : Sg, σ_4 = va_up σ_2 42 (upd (σ_2 42) x4.toNatClampNeg x3) →
    wp_X5_isWrong x4 σ_4 τ (fun r_5 σ_6 τ_7 =>
    (r_5 = 0 →
    ∀ σ_9 : Sg, σ_9 = va_up σ_6 15 (fun _ => (σ_4 15 0) + (0 : Int32)) →
    k14 x1 x2 x3 (x4 + (1 : Int32)) σ_9 τ_7) ∧
    (¬ r_5 = 0 →
    ∀ σ_10 : Sg, σ_10 = va_up σ_6 15 (fun _ => (σ_4 15 0) + (1 : Int32)) →
    k14 x1 x2 x3 (x4 + (1 : Int32)) σ_10 τ_7))
set_option maxHeartbeats 4000000 in
set_option maxRecDepth 100000 in
theorem w_X5_tellSpans_50 (C0 : Mc p m c meth cX5_tellSpans 5 s args wsX5_tellSpans RX5 none D cy A) {post : Sg → Tg → Prop} {k14 : Int32 → Int32 → Int32 → Int32 → Sg → Tg → Prop} (hk14 : ∀ (x1 : Int32) (x2 : Int32) (x3 : Int32) (x4 : Int32) (σ : Sg) (τ : Tg), k14 x1 x2 x3 x4 σ τ → ∀ κ : Nat → Nat, G_X5_tellSpans p l e s m args below meth c D A cy ad post (cfW cy ad κ σ τ) 5 [(0, .ref (ad 7)), (1, .int x1), (2, .int x2), (3, .int x3), (4, .int x4)] 14 []) : ∀ (x1 : Int32) (x2 : Int32) (x3 : Int32) (x4 : Int32) (σ : Sg) (τ : Tg), wp_X5_tellSpans_50 post k14 x1 x2 x3 x4 σ τ → ∀ κ : Nat → Nat, G_X5_tellSpans p l e s m args below meth c D A cy ad post (cfW cy ad κ σ τ) 5 [(0, .ref (ad 7)), (1, .int x1), (2, .int x2), (3, .int x3), (4, .int x4)] 50 [] := by
  obtain ⟨⟨hx, hb, hml, hown, hts⟩, hr, hlocks, hkx, hA⟩ := id C0
  intro x1 x2 x3 x4 σ τ h κ H locs ls hw hl
  unfold wp_X5_tellSpans_50 at h
  refine lv_aload_n hx hb dX5_tellSpans_50 rfl (lv_at hl 0 rfl) ?_
  refine cg_sh_firstOfPage hx hb hts inw_X5_tellSpans_X5 hown hkx hw (hts _ (List.mem_of_getElem? (i := 5) rfl)) dX5_tellSpans_51 ?_
  refine lv_iload hx hb dX5_tellSpans_54 (lv_at hl 4 rfl) ?_
  refine lv_iload_n hx hb dX5_tellSpans_56 rfl (lv_at hl 1 rfl) ?_
  obtain ⟨b_1, h⟩ := h
  refine cs_fop hx hb hkx hw b_1 dX5_tellSpans_57 (fun σ_2 eσ_2 H locs hw => ?_)
  replace h := h σ_2 eσ_2
  refine lv_aload_n hx hb dX5_tellSpans_58 rfl (lv_at hl 0 rfl) ?_
  refine cg_sh_shiftOfPage hx hb hts inw_X5_tellSpans_X5 hown hkx hw (hts _ (List.mem_of_getElem? (i := 6) rfl)) dX5_tellSpans_59 ?_
  refine lv_iload hx hb dX5_tellSpans_62 (lv_at hl 4 rfl) ?_
  refine lv_iload_n hx hb dX5_tellSpans_64 rfl (lv_at hl 3 rfl) ?_
  obtain ⟨b_3, h⟩ := h
  refine cs_sop hx hb hkx hw b_3 dX5_tellSpans_65 (fun σ_4 eσ_4 H locs hw => ?_)
  replace h := h σ_4 eσ_4
  refine lv_aload_n hx hb dX5_tellSpans_66 rfl (lv_at hl 0 rfl) ?_
  refine lv_dup hx hb dX5_tellSpans_67 rfl ?_
  refine cg_sh_wrongs hx hb hts inw_X5_tellSpans_X5 hown hkx hw (hts _ (List.mem_of_getElem? (i := 1) rfl)) dX5_tellSpans_68 ?_
  refine lv_aload_n hx hb dX5_tellSpans_71 rfl (lv_at hl 0 rfl) ?_
  refine lv_iload hx hb dX5_tellSpans_72 (lv_at hl 4 rfl) ?_
  refine cf_Vi (As := [.int x4]) ⟨hx, hb, hml, hown, hts⟩ hkx hw hA (c_X5_isWrong l D cy ad κ σ_4 τ x4 _ h) (cwV 1 hts gX5_tellSpans_X5_isWrong rfl rfl rfl hd_X5_isWrong ⟨Nat.le_of_ble_eq_true rfl, Nat.le_of_ble_eq_true rfl⟩) 7 5 rfl rfl rfl hl.1 rfl (Nat.le_of_ble_eq_true rfl) dX5_tellSpans_74 ⟨Nat.zero_le _, Nat.zero_le _⟩ (fun r_5 κ σ_6 τ_7 H locs h hw => ?_)
  refine lv_if_eq (tgt := 84) hx hb dX5_tellSpans_77 (by decide) (fun c_8 => ?_) (fun c_8 => ?_)
  · replace h := h.1 c_8
    refine lv_iconst (v := 0) hx hb dX5_tellSpans_84 (by decide) ?_
    refine lv_iadd hx hb dX5_tellSpans_85 ?_
    refine cp_sh_wrongs hx hb hts inw_X5_tellSpans_X5 hown hkx hw (hts _ (List.mem_of_getElem? (i := 1) rfl)) dX5_tellSpans_86 (fun σ_9 eσ_9 H locs hw => ?_)
    replace h := h σ_9 eσ_9
    refine lv_iinc (v := x4 + (1 : Int32)) (lv' := [(4, .int (x4 + (1 : Int32))), (0, .ref (ad 7)), (1, .int x1), (2, .int x2), (3, .int x3)]) hx hb dX5_tellSpans_89 hl (k := 4) rfl rfl (by decide) rfl (fun ls hl => ?_)
    refine lv_goto (tgt := 14) hx hb dX5_tellSpans_92 (by decide) ?_
    exact hk14 _ _ _ _ _ _ h _ _ _ _ hw (lv_sub hl [1, 2, 3, 4, 0] rfl)
  · replace h := h.2 c_8
    refine lv_iconst (v := 1) hx hb dX5_tellSpans_80 (by decide) ?_
    refine lv_goto (tgt := 85) hx hb dX5_tellSpans_81 (by decide) ?_
    refine lv_iadd hx hb dX5_tellSpans_85 ?_
    refine cp_sh_wrongs hx hb hts inw_X5_tellSpans_X5 hown hkx hw (hts _ (List.mem_of_getElem? (i := 1) rfl)) dX5_tellSpans_86 (fun σ_10 eσ_10 H locs hw => ?_)
    replace h := h σ_10 eσ_10
    refine lv_iinc (v := x4 + (1 : Int32)) (lv' := [(4, .int (x4 + (1 : Int32))), (0, .ref (ad 7)), (1, .int x1), (2, .int x2), (3, .int x3)]) hx hb dX5_tellSpans_89 hl (k := 4) rfl rfl (by decide) rfl (fun ls hl => ?_)
    refine lv_goto (tgt := 14) hx hb dX5_tellSpans_92 (by decide) ?_
    exact hk14 _ _ _ _ _ _ h _ _ _ _ hw (lv_sub hl [1, 2, 3, 4, 0] rfl)
def wp_X5_tellSpans_14 (post : Sg → Tg → Prop) : Nat → Int32 → Int32 → Int32 → Int32 → Sg → Tg → Prop
  | 0, _, _, _, _, _, _ => False
  | n + 1, x1, x2, x3, x4, σ, τ =>
    ((σ 4 0) ≤ x4 →
    post σ τ) ∧
    (¬ (σ 4 0) ≤ x4 →
    (¬ x4 = x2 →
    wp_X5_tellSpans_50 post (fun zx1 zx2 zx3 zx4 zσ zτ => wp_X5_tellSpans_14 post n zx1 zx2 zx3 zx4 zσ zτ) x1 x2 x3 x4 σ τ) ∧
    (x4 = x2 →
    vp_in x4 60 ∧
    ∀ y_4 : Int32, y_4 = (σ 45 x4.toNatClampNeg) →
    wp_X5_bestShift x4 y_4 σ τ (fun r_5 σ_6 τ_7 =>
    wp_X5_tellSpans_50 post (fun zx1 zx2 zx3 zx4 zσ zτ => wp_X5_tellSpans_14 post n zx1 zx2 zx3 zx4 zσ zτ) x4 y_4 r_5 x4 σ_6 τ_7)))
set_option maxHeartbeats 4000000 in
set_option maxRecDepth 100000 in
theorem w_X5_tellSpans_14 (C0 : Mc p m c meth cX5_tellSpans 5 s args wsX5_tellSpans RX5 none D cy A) {post : Sg → Tg → Prop} : ∀ (n : Nat) (x1 : Int32) (x2 : Int32) (x3 : Int32) (x4 : Int32) (σ : Sg) (τ : Tg), wp_X5_tellSpans_14 post n x1 x2 x3 x4 σ τ → ∀ κ : Nat → Nat, G_X5_tellSpans p l e s m args below meth c D A cy ad post (cfW cy ad κ σ τ) 5 [(0, .ref (ad 7)), (1, .int x1), (2, .int x2), (3, .int x3), (4, .int x4)] 14 [] := by
  obtain ⟨⟨hx, hb, hml, hown, hts⟩, hr, hlocks, hkx, hA⟩ := id C0
  intro n
  induction n with
  | zero => intro x1 x2 x3 x4 σ τ h; exact False.elim h
  | succ n ih =>
    intro x1 x2 x3 x4 σ τ h κ H locs ls hw hl
    unfold wp_X5_tellSpans_14 at h
    refine lv_iload hx hb dX5_tellSpans_14 (lv_at hl 4 rfl) ?_
    refine lv_aload_n hx hb dX5_tellSpans_16 rfl (lv_at hl 0 rfl) ?_
    refine cg_sh_pages hx hb hts inw_X5_tellSpans_X5 hown hkx hw (hts _ (List.mem_of_getElem? (i := 2) rfl)) dX5_tellSpans_17 ?_
    refine cg_pg_count hx hb hts inw_X5_tellSpans_X3 hown hkx hw (hts _ (List.mem_of_getElem? (i := 3) rfl)) dX5_tellSpans_20 ?_
    refine lv_icmp_ge (tgt := 95) hx hb dX5_tellSpans_23 (by decide) (fun c_1 => ?_) (fun c_1 => ?_)
    · replace h := h.1 c_1
      exact end_v (w1 := (cfU cy ad)) (u := (κ, σ, τ)) C0 hw h dX5_tellSpans_95
    · replace h := h.2 c_1
      refine lv_iload hx hb dX5_tellSpans_26 (lv_at hl 4 rfl) ?_
      refine lv_iload_n hx hb dX5_tellSpans_28 rfl (lv_at hl 2 rfl) ?_
      refine lv_icmp_ne (tgt := 50) hx hb dX5_tellSpans_29 (by decide) (fun c_2 => ?_) (fun c_2 => ?_)
      · replace h := h.1 c_2
        exact w_X5_tellSpans_50 C0 ih _ _ _ _ _ _ h _ _ _ _ hw (lv_sub hl [0, 1, 2, 3, 4] rfl)
      · replace h := h.2 c_2
        refine lv_iload hx hb dX5_tellSpans_32 (lv_at hl 4 rfl) ?_
        refine lv_istore_n (lv' := [(1, .int x4), (0, .ref (ad 7)), (2, .int x2), (3, .int x3), (4, .int x4)]) hx hb dX5_tellSpans_34 rfl hl (by decide) rfl (fun ls hl => ?_)
        refine lv_aload_n hx hb dX5_tellSpans_35 rfl (lv_at hl 1 rfl) ?_
        refine cg_sh_behind hx hb hts inw_X5_tellSpans_X5 hown hkx hw (hts _ (List.mem_of_getElem? (i := 4) rfl)) dX5_tellSpans_36 ?_
        refine lv_iload hx hb dX5_tellSpans_39 (lv_at hl 4 rfl) ?_
        obtain ⟨b_3, h⟩ := h
        refine ca_behind hx hb hkx hw b_3 dX5_tellSpans_41 ?_
        refine lv_topi (fun y_4 ey_4 => ?_)
        replace h := h y_4 ey_4
        refine lv_istore_n (lv' := [(2, .int y_4), (1, .int x4), (0, .ref (ad 7)), (3, .int x3), (4, .int x4)]) hx hb dX5_tellSpans_42 rfl hl (by decide) rfl (fun ls hl => ?_)
        refine lv_aload_n hx hb dX5_tellSpans_43 rfl (lv_at hl 2 rfl) ?_
        refine lv_iload_n hx hb dX5_tellSpans_44 rfl (lv_at hl 1 rfl) ?_
        refine lv_iload_n hx hb dX5_tellSpans_45 rfl (lv_at hl 0 rfl) ?_
        refine cf_Vi (As := [.int x4, .int y_4]) ⟨hx, hb, hml, hown, hts⟩ hkx hw hA (c_X5_bestShift l D cy ad κ σ τ x4 y_4 _ h) (cwV 2 hts gX5_tellSpans_X5_bestShift rfl rfl rfl hd_X5_bestShift ⟨Nat.le_of_ble_eq_true rfl, Nat.le_of_ble_eq_true rfl⟩) 7 5 rfl rfl rfl hl.1 rfl (Nat.le_of_ble_eq_true rfl) dX5_tellSpans_46 ⟨Nat.zero_le _, Nat.zero_le _⟩ (fun r_5 κ σ_6 τ_7 H locs h hw => ?_)
        refine lv_istore_n (lv' := [(3, .int r_5), (2, .int y_4), (1, .int x4), (0, .ref (ad 7)), (4, .int x4)]) hx hb dX5_tellSpans_49 rfl hl (by decide) rfl (fun ls hl => ?_)
        exact w_X5_tellSpans_50 C0 ih _ _ _ _ _ _ h _ _ _ _ hw (lv_sub hl [3, 2, 1, 0, 4] rfl)
def wp_X5_tellSpans (σ : Sg) (τ : Tg) (post : Sg → Tg → Prop) : Prop :=
    ∀ σ_1 : Sg, σ_1 = va_up σ 15 (fun _ => (0 : Int32)) →
    ∃ fu, wp_X5_tellSpans_14 post fu (0 : Int32) (0 : Int32) (0 : Int32) (0 : Int32) σ_1 τ
set_option maxHeartbeats 4000000 in
set_option maxRecDepth 100000 in
theorem c_X5_tellSpans (l : Launch) (D : va_G) (cy : Nat → ClassId) (ad κ : Nat → Nat) (σ : Sg) (τ : Tg) (post : Sg → Tg → Prop) (h : wp_X5_tellSpans σ τ post) : Ct l yX5_tellSpans wsX5_tellSpans rm_X5_tellSpans D cy [.ref (ad 7)] (cfW cy ad κ σ τ) 0 0 (Rv D (cfU cy ad) (fun u => post u.2.1 u.2.2)) := by
  refine Ct.of (cc := cX5_tellSpans) (maxL := 5) (rt := none) (by decide) rfl (Nat.le_of_ble_eq_true rfl) ?_
  intro p e s m below meth c A C0 _ H locs ls hw hl
  obtain ⟨⟨hx, hb, hml, hown, hts⟩, hr, hlocks, hkx, hA⟩ := id C0
  have hl : lv_has ls 5 [(0, .ref (ad 7))] := hl
  unfold wp_X5_tellSpans at h
  refine lv_aload_n hx hb dX5_tellSpans_0 rfl (lv_at hl 0 rfl) ?_
  refine lv_iconst (v := 0) hx hb dX5_tellSpans_1 (by decide) ?_
  refine cp_sh_wrongs hx hb hts inw_X5_tellSpans_X5 hown hkx hw (hts _ (List.mem_of_getElem? (i := 1) rfl)) dX5_tellSpans_2 (fun σ_1 eσ_1 H locs hw => ?_)
  replace h := h σ_1 eσ_1
  refine lv_iconst (v := 0) hx hb dX5_tellSpans_5 (by decide) ?_
  refine lv_istore_n (lv' := [(1, .int (0 : Int32)), (0, .ref (ad 7))]) hx hb dX5_tellSpans_6 rfl hl (by decide) rfl (fun ls hl => ?_)
  refine lv_iconst (v := 0) hx hb dX5_tellSpans_7 (by decide) ?_
  refine lv_istore_n (lv' := [(2, .int (0 : Int32)), (1, .int (0 : Int32)), (0, .ref (ad 7))]) hx hb dX5_tellSpans_8 rfl hl (by decide) rfl (fun ls hl => ?_)
  refine lv_iconst (v := 0) hx hb dX5_tellSpans_9 (by decide) ?_
  refine lv_istore_n (lv' := [(3, .int (0 : Int32)), (2, .int (0 : Int32)), (1, .int (0 : Int32)), (0, .ref (ad 7))]) hx hb dX5_tellSpans_10 rfl hl (by decide) rfl (fun ls hl => ?_)
  refine lv_iconst (v := 0) hx hb dX5_tellSpans_11 (by decide) ?_
  refine lv_istore (lv' := [(4, .int (0 : Int32)), (3, .int (0 : Int32)), (2, .int (0 : Int32)), (1, .int (0 : Int32)), (0, .ref (ad 7))]) hx hb dX5_tellSpans_12 hl (by decide) rfl (fun ls hl => ?_)
  obtain ⟨n_2, h⟩ := h
  exact w_X5_tellSpans_14 C0 n_2 _ _ _ _ _ _ h _ _ _ _ hw (lv_sub hl [4, 3, 2, 1, 0] rfl)
end
theorem hd_X5_explain : yX5_explain.cls = RX5 ∧ yX5_explain.cls ≠ "java/lang/invoke/MethodHandle" ∧ yX5_explain.cls ≠ "java/lang/invoke/VarHandle" ∧ (parseMethodDescriptor yX5_explain.desc).map (fun d => d.parameters.length) = some 0 := by decide +kernel
section
variable {p : Program} {l : Launch} {e : Env} {s : State} {m : MethodId} {args : Array Value} {below : List Frame} {meth : Method} {c : Code} {D : va_G} {cy : Nat → ClassId} {A : Nat → Prop} {ad : Nat → Nat}
abbrev rm_X5_explain : Room := { frames := 4, cells := 0, slots := 0, locals := 95 }
theorem inw_X5_explain_X3 : ∀ w ∈ u_ws RX3 TX3 2, w ∈ wsX5_explain := fun _ h => List.mem_cons_of_mem _ (List.mem_append_left _ (List.mem_append_right _ h))
theorem inw_X5_explain_X5 : ∀ w ∈ u_ws RX5 TX5 10, w ∈ wsX5_explain := fun _ h => List.mem_cons_of_mem _ (List.mem_append_left _ (List.mem_append_left _ (List.mem_append_right _ h)))
abbrev G_X5_explain (p : Program) (l : Launch) (e : Env) (s : State) (m : MethodId) (args : Array Value) (below : List Frame) (meth : Method) (c : Code) (D : va_G) (A : Nat → Prop) (cy : Nat → ClassId) (ad : Nat → Nat) (post : Sg → Tg → Prop) : va_W → Nat → List (Nat × Value) → Nat → List Value → Prop := Gw p l e rm_X5_explain s m args below meth c D A (MQ below ((Rv D (cfU cy ad) (fun u => post u.2.1 u.2.2)) A) args s 0 0 A)
def wp_X5_explain_23 (post : Sg → Tg → Prop) : Nat → Int32 → Sg → Tg → Prop
  | 0, _, _, _ => False
  | n + 1, x1, σ, τ =>
    (x1 < 0 →
    ∀ σ_3 : Sg, σ_3 = va_up σ 13 (fun _ => (σ 44 (0 : Int32).toNatClampNeg) / (64 : Int32)) →
    ∀ σ_5 : Sg, σ_5 = va_up σ_3 14 (fun _ => (σ_3 44 (0 : Int32).toNatClampNeg) - (σ_3 44 (0 : Int32).toNatClampNeg) / (64 : Int32) * (64 : Int32)) →
    wp_X5_tellSpans σ_5 τ (fun σ_6 τ_7 =>
    post σ_6 τ_7)) ∧
    (¬ x1 < 0 →
    wp_X5_findFirstSpan x1 σ τ (fun σ_8 τ_9 =>
    wp_X5_forgetTimes x1 (σ_8 4 0) σ_8 τ_9 (fun σ_10 τ_11 =>
    wp_X5_explain_23 post n (x1 + (-1 : Int32)) σ_10 τ_11)))
set_option maxHeartbeats 4000000 in
set_option maxRecDepth 100000 in
theorem w_X5_explain_23 (C0 : Mc p m c meth cX5_explain 2 s args wsX5_explain RX5 none D cy A) {post : Sg → Tg → Prop} : ∀ (n : Nat) (x1 : Int32) (σ : Sg) (τ : Tg), wp_X5_explain_23 post n x1 σ τ → ∀ κ : Nat → Nat, G_X5_explain p l e s m args below meth c D A cy ad post (cfW cy ad κ σ τ) 2 [(0, .ref (ad 7)), (1, .int x1)] 23 [] := by
  obtain ⟨⟨hx, hb, hml, hown, hts⟩, hr, hlocks, hkx, hA⟩ := id C0
  intro n
  induction n with
  | zero => intro x1 σ τ h; exact False.elim h
  | succ n ih =>
    intro x1 σ τ h κ H locs ls hw hl
    unfold wp_X5_explain_23 at h
    refine lv_iload_n hx hb dX5_explain_23 rfl (lv_at hl 1 rfl) ?_
    refine lv_if_lt (tgt := 50) hx hb dX5_explain_24 (by decide) (fun c_1 => ?_) (fun c_1 => ?_)
    · replace h := h.1 c_1
      refine lv_aload_n hx hb dX5_explain_50 rfl (lv_at hl 0 rfl) ?_
      refine lv_aload_n hx hb dX5_explain_51 rfl (lv_at hl 0 rfl) ?_
      refine cg_sh_least hx hb hts inw_X5_explain_X5 hown hkx hw (hts _ (List.mem_of_getElem? (i := 1) rfl)) dX5_explain_52 ?_
      refine lv_iconst (v := 0) hx hb dX5_explain_55 (by decide) ?_
      refine ca_sleast hx hb hkx hw (by unfold vp_in; decide) dX5_explain_56 ?_
      refine lv_bipush (v := 64) hx hb dX5_explain_57 (by decide) ?_
      refine lv_idiv hx hb dX5_explain_59 (by decide) ?_
      refine cp_sh_cost hx hb hts inw_X5_explain_X5 hown hkx hw (hts _ (List.mem_of_getElem? (i := 4) rfl)) dX5_explain_60 (fun σ_3 eσ_3 H locs hw => ?_)
      replace h := h σ_3 eσ_3
      refine lv_aload_n hx hb dX5_explain_63 rfl (lv_at hl 0 rfl) ?_
      refine lv_aload_n hx hb dX5_explain_64 rfl (lv_at hl 0 rfl) ?_
      refine cg_sh_least hx hb hts inw_X5_explain_X5 hown hkx hw (hts _ (List.mem_of_getElem? (i := 1) rfl)) dX5_explain_65 ?_
      refine lv_iconst (v := 0) hx hb dX5_explain_68 (by decide) ?_
      refine ca_sleast hx hb hkx hw (by unfold vp_in; decide) dX5_explain_69 ?_
      refine lv_bipush (v := 64) hx hb dX5_explain_70 (by decide) ?_
      refine lv_irem hx hb dX5_explain_72 (by decide) ?_
      refine cp_sh_spans hx hb hts inw_X5_explain_X5 hown hkx hw (hts _ (List.mem_of_getElem? (i := 5) rfl)) dX5_explain_73 (fun σ_5 eσ_5 H locs hw => ?_)
      replace h := h σ_5 eσ_5
      refine lv_aload_n hx hb dX5_explain_76 rfl (lv_at hl 0 rfl) ?_
      refine cf_Vv (As := []) ⟨hx, hb, hml, hown, hts⟩ hkx hw hA (c_X5_tellSpans l D cy ad κ σ_5 τ _ h) (cwV 0 hts gX5_explain_X5_tellSpans rfl rfl rfl hd_X5_tellSpans ⟨Nat.le_of_ble_eq_true rfl, Nat.le_of_ble_eq_true rfl⟩) 7 5 rfl rfl rfl hl.1 rfl (Nat.le_of_ble_eq_true rfl) dX5_explain_77 ⟨Nat.zero_le _, Nat.zero_le _⟩ (fun κ σ_6 τ_7 H locs h hw => ?_)
      exact end_v (w1 := (cfU cy ad)) (u := (κ, σ_6, τ_7)) C0 hw h dX5_explain_80
    · replace h := h.2 c_1
      refine lv_aload_n hx hb dX5_explain_27 rfl (lv_at hl 0 rfl) ?_
      refine lv_iload_n hx hb dX5_explain_28 rfl (lv_at hl 1 rfl) ?_
      refine cf_Vv (As := [.int x1]) ⟨hx, hb, hml, hown, hts⟩ hkx hw hA (c_X5_findFirstSpan l D cy ad κ σ τ x1 _ h) (cwV 1 hts gX5_explain_X5_findFirstSpan rfl rfl rfl hd_X5_findFirstSpan ⟨Nat.le_of_ble_eq_true rfl, Nat.le_of_ble_eq_true rfl⟩) 7 5 rfl rfl rfl hl.1 rfl (Nat.le_of_ble_eq_true rfl) dX5_explain_29 ⟨Nat.zero_le _, Nat.zero_le _⟩ (fun κ σ_8 τ_9 H locs h hw => ?_)
      refine lv_aload_n hx hb dX5_explain_32 rfl (lv_at hl 0 rfl) ?_
      refine lv_iload_n hx hb dX5_explain_33 rfl (lv_at hl 1 rfl) ?_
      refine lv_aload_n hx hb dX5_explain_34 rfl (lv_at hl 0 rfl) ?_
      refine cg_sh_pages hx hb hts inw_X5_explain_X5 hown hkx hw (hts _ (List.mem_of_getElem? (i := 2) rfl)) dX5_explain_35 ?_
      refine cg_pg_count hx hb hts inw_X5_explain_X3 hown hkx hw (hts _ (List.mem_of_getElem? (i := 3) rfl)) dX5_explain_38 ?_
      refine cf_Vv (As := [.int x1, .int (σ_8 4 0)]) ⟨hx, hb, hml, hown, hts⟩ hkx hw hA (c_X5_forgetTimes l D cy ad κ σ_8 τ_9 x1 (σ_8 4 0) _ h) (cwV 2 hts gX5_explain_X5_forgetTimes rfl rfl rfl hd_X5_forgetTimes ⟨Nat.le_of_ble_eq_true rfl, Nat.le_of_ble_eq_true rfl⟩) 7 5 rfl rfl rfl hl.1 rfl (Nat.le_of_ble_eq_true rfl) dX5_explain_41 ⟨Nat.zero_le _, Nat.zero_le _⟩ (fun κ σ_10 τ_11 H locs h hw => ?_)
      refine lv_iinc (v := x1 + (-1 : Int32)) (lv' := [(1, .int (x1 + (-1 : Int32))), (0, .ref (ad 7))]) hx hb dX5_explain_44 hl (k := 1) rfl rfl (by decide) rfl (fun ls hl => ?_)
      refine lv_goto (tgt := 23) hx hb dX5_explain_47 (by decide) ?_
      exact ih _ _ _ h _ _ _ _ hw (lv_sub hl [1, 0] rfl)
def wp_X5_explain (σ : Sg) (τ : Tg) (post : Sg → Tg → Prop) : Prop :=
    vp_in (σ 4 0) 61 ∧
    ∀ σ_2 : Sg, σ_2 = va_up σ 44 (upd (σ 44) (σ 4 0).toNatClampNeg (0 : Int32)) →
    ∀ y_3 : Int32, y_3 = ((σ_2 4 0) - (1 : Int32)) →
    ∃ fu, wp_X5_explain_23 post fu y_3 σ_2 τ
set_option maxHeartbeats 4000000 in
set_option maxRecDepth 100000 in
theorem c_X5_explain (l : Launch) (D : va_G) (cy : Nat → ClassId) (ad κ : Nat → Nat) (σ : Sg) (τ : Tg) (post : Sg → Tg → Prop) (h : wp_X5_explain σ τ post) : Ct l yX5_explain wsX5_explain rm_X5_explain D cy [.ref (ad 7)] (cfW cy ad κ σ τ) 0 0 (Rv D (cfU cy ad) (fun u => post u.2.1 u.2.2)) := by
  refine Ct.of (cc := cX5_explain) (maxL := 2) (rt := none) (by decide) rfl (Nat.le_of_ble_eq_true rfl) ?_
  intro p e s m below meth c A C0 _ H locs ls hw hl
  obtain ⟨⟨hx, hb, hml, hown, hts⟩, hr, hlocks, hkx, hA⟩ := id C0
  have hl : lv_has ls 2 [(0, .ref (ad 7))] := hl
  unfold wp_X5_explain at h
  refine lv_aload_n hx hb dX5_explain_0 rfl (lv_at hl 0 rfl) ?_
  refine cg_sh_least hx hb hts inw_X5_explain_X5 hown hkx hw (hts _ (List.mem_of_getElem? (i := 1) rfl)) dX5_explain_1 ?_
  refine lv_aload_n hx hb dX5_explain_4 rfl (lv_at hl 0 rfl) ?_
  refine cg_sh_pages hx hb hts inw_X5_explain_X5 hown hkx hw (hts _ (List.mem_of_getElem? (i := 2) rfl)) dX5_explain_5 ?_
  refine cg_pg_count hx hb hts inw_X5_explain_X3 hown hkx hw (hts _ (List.mem_of_getElem? (i := 3) rfl)) dX5_explain_8 ?_
  refine lv_iconst (v := 0) hx hb dX5_explain_11 (by decide) ?_
  obtain ⟨b_1, h⟩ := h
  refine cs_sleast hx hb hkx hw b_1 dX5_explain_12 (fun σ_2 eσ_2 H locs hw => ?_)
  replace h := h σ_2 eσ_2
  refine lv_aload_n hx hb dX5_explain_13 rfl (lv_at hl 0 rfl) ?_
  refine cg_sh_pages hx hb hts inw_X5_explain_X5 hown hkx hw (hts _ (List.mem_of_getElem? (i := 2) rfl)) dX5_explain_14 ?_
  refine cg_pg_count hx hb hts inw_X5_explain_X3 hown hkx hw (hts _ (List.mem_of_getElem? (i := 3) rfl)) dX5_explain_17 ?_
  refine lv_iconst (v := 1) hx hb dX5_explain_20 (by decide) ?_
  refine lv_isub hx hb dX5_explain_21 ?_
  refine lv_topi (fun y_3 ey_3 => ?_)
  replace h := h y_3 ey_3
  refine lv_istore_n (lv' := [(1, .int y_3), (0, .ref (ad 7))]) hx hb dX5_explain_22 rfl hl (by decide) rfl (fun ls hl => ?_)
  obtain ⟨n_4, h⟩ := h
  exact w_X5_explain_23 C0 n_4 _ _ _ h _ _ _ _ hw (lv_sub hl [1, 0] rfl)
end
