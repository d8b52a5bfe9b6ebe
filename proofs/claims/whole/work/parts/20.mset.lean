theorem hd_X8_thrown : yX8_thrown.cls = RX8 ∧ yX8_thrown.cls ≠ "java/lang/invoke/MethodHandle" ∧ yX8_thrown.cls ≠ "java/lang/invoke/VarHandle" ∧ (parseMethodDescriptor yX8_thrown.desc).map (fun d => d.parameters.length) = some 0 := by decide +kernel
section
variable {p : Program} {l : Launch} {e : Env} {s : State} {m : MethodId} {args : Array Value} {below : List Frame} {meth : Method} {c : Code} {D : va_G} {cy : Nat → ClassId} {A : Nat → Prop} {ad : Nat → Nat}
abbrev rm_X8_thrown : Room := { frames := 0, cells := 0, slots := 0, locals := 0 }
theorem inw_X8_thrown_X8 : ∀ w ∈ u_ws RX8 TX8 35, w ∈ wsX8_thrown := fun _ h => List.mem_cons_of_mem _ (List.mem_append_right _ h)
def wp_X8_thrown (σ : Sg) (post : Int32 → Sg → Prop) : Prop :=
    post (σ 3 0) σ
set_option maxHeartbeats 4000000 in
set_option maxRecDepth 100000 in
theorem c_X8_thrown (l : Launch) (D : va_G) (cy : Nat → ClassId) (ad : Nat → Nat) (σ : Sg) (post : Int32 → Sg → Prop) (h : wp_X8_thrown σ post) : Ct l yX8_thrown wsX8_thrown rm_X8_thrown D cy [.ref (ad 0)] (mdW cy ad σ) 0 0 (Ri D (mdU cy ad) (fun r u => post r u)) := by
  refine Ct.of (cc := cX8_thrown) (maxL := 1) (rt := (some .int)) (by decide) rfl (Nat.le_of_ble_eq_true rfl) ?_
  intro p e s m below meth c A C0 _ H locs ls hw hl
  obtain ⟨⟨hx, hb, hml, hown, hts⟩, hr, hlocks, hkx, hA⟩ := id C0
  have hl : lv_has ls 1 [(0, .ref (ad 0))] := hl
  unfold wp_X8_thrown at h
  refine lv_aload_n hx hb dX8_thrown_0 rfl (lv_at hl 0 rfl) ?_
  refine mg_md_thrown hx hb hts inw_X8_thrown_X8 hown hkx hw (hts _ (List.mem_of_getElem? (i := 1) rfl)) dX8_thrown_1 ?_
  exact end_i (w1 := (mdU cy ad)) (u := σ) C0 hw h dX8_thrown_4
end
theorem hd_X8_isLine : yX8_isLine.cls = RX8 ∧ yX8_isLine.cls ≠ "java/lang/invoke/MethodHandle" ∧ yX8_isLine.cls ≠ "java/lang/invoke/VarHandle" ∧ (parseMethodDescriptor yX8_isLine.desc).map (fun d => d.parameters.length) = some 1 := by decide +kernel
section
variable {p : Program} {l : Launch} {e : Env} {s : State} {m : MethodId} {args : Array Value} {below : List Frame} {meth : Method} {c : Code} {D : va_G} {cy : Nat → ClassId} {A : Nat → Prop} {ad : Nat → Nat}
abbrev rm_X8_isLine : Room := { frames := 1, cells := 0, slots := 0, locals := 22 }
theorem inw_X8_isLine_X8 : ∀ w ∈ u_ws RX8 TX8 35, w ∈ wsX8_isLine := fun _ h => List.mem_cons_of_mem _ (List.mem_append_right _ h)
def wp_X8_isLine (x1 : Int32) (σ : Sg) (post : Int32 → Sg → Prop) : Prop :=
    wp_X8_in x1 (0 : Int32) ((σ 1 0) - (1 : Int32)) (fun r_1 =>
    bz r_1 ∧ post r_1 σ)
set_option maxHeartbeats 4000000 in
set_option maxRecDepth 100000 in
theorem c_X8_isLine (l : Launch) (D : va_G) (cy : Nat → ClassId) (ad : Nat → Nat) (σ : Sg) (x1 : Int32) (post : Int32 → Sg → Prop) (h : wp_X8_isLine x1 σ post) : Ct l yX8_isLine wsX8_isLine rm_X8_isLine D cy [.ref (ad 0), .int x1] (mdW cy ad σ) 0 0 (Ri D (mdU cy ad) (fun r u => post r u)) := by
  refine Ct.of (cc := cX8_isLine) (maxL := 2) (rt := (some .boolean)) (by decide) rfl (Nat.le_of_ble_eq_true rfl) ?_
  intro p e s m below meth c A C0 _ H locs ls hw hl
  obtain ⟨⟨hx, hb, hml, hown, hts⟩, hr, hlocks, hkx, hA⟩ := id C0
  have hl : lv_has ls 2 [(0, .ref (ad 0)), (1, .int x1)] := hl
  unfold wp_X8_isLine at h
  refine lv_iload_n hx hb dX8_isLine_0 rfl (lv_at hl 1 rfl) ?_
  refine lv_iconst (v := 0) hx hb dX8_isLine_1 (by decide) ?_
  refine lv_aload_n hx hb dX8_isLine_2 rfl (lv_at hl 0 rfl) ?_
  refine mg_md_lines hx hb hts inw_X8_isLine_X8 hown hkx hw (hts _ (List.mem_of_getElem? (i := 1) rfl)) dX8_isLine_3 ?_
  refine lv_iconst (v := 1) hx hb dX8_isLine_6 (by decide) ?_
  refine lv_isub hx hb dX8_isLine_7 ?_
  refine call_S0i (As := [.int x1, .int (0 : Int32), .int ((σ 1 0) - (1 : Int32))]) ⟨hx, hb, hml, hown, hts⟩ hkx hw hA (c_X8_in l D cy x1 (0 : Int32) ((σ 1 0) - (1 : Int32)) _ h) (va_cwS 3 hts gX8_isLine_X8_in rfl rfl rfl hd_X8_in ⟨Nat.le_of_ble_eq_true rfl, Nat.le_of_ble_eq_true rfl⟩) rfl hl.1 rfl (Nat.le_of_ble_eq_true rfl) dX8_isLine_8 ⟨Nat.zero_le _, Nat.zero_le _⟩ (fun r_1 H locs h hw => ?_)
  exact end_z (w1 := (mdU cy ad)) (u := σ) C0 hw h.1 h.2 dX8_isLine_11
end
theorem hd_X8_book : yX8_book.cls = RX8 ∧ yX8_book.cls ≠ "java/lang/invoke/MethodHandle" ∧ yX8_book.cls ≠ "java/lang/invoke/VarHandle" ∧ (parseMethodDescriptor yX8_book.desc).map (fun d => d.parameters.length) = some 1 := by decide +kernel
section
variable {p : Program} {l : Launch} {e : Env} {s : State} {m : MethodId} {args : Array Value} {below : List Frame} {meth : Method} {c : Code} {D : va_G} {cy : Nat → ClassId} {A : Nat → Prop} {ad : Nat → Nat}
abbrev rm_X8_book : Room := { frames := 1, cells := 0, slots := 0, locals := 22 }
theorem inw_X8_book_X8 : ∀ w ∈ u_ws RX8 TX8 35, w ∈ wsX8_book := fun _ h => List.mem_cons_of_mem _ (List.mem_append_right _ h)
abbrev G_X8_book (p : Program) (l : Launch) (e : Env) (s : State) (m : MethodId) (args : Array Value) (below : List Frame) (meth : Method) (c : Code) (D : va_G) (A : Nat → Prop) (cy : Nat → ClassId) (ad : Nat → Nat) (post : Int32 → Sg → Prop) : va_W → Nat → List (Nat × Value) → Nat → List Value → Prop := Gw p l e rm_X8_book s m args below meth c D A (MQ below ((Ri D (mdU cy ad) (fun r u => post r u)) A) args s 0 0 A)
def wp_X8_book_24 (post : Int32 → Sg → Prop) : Nat → Int32 → Sg → Prop
  | 0, _, _ => False
  | n + 1, x2, σ =>
    ((60 : Int32) ≤ x2 →
    ∀ σ_2 : Sg, σ_2 = va_up σ 1 (fun _ => (0 : Int32)) →
    ∀ σ_3 : Sg, σ_3 = va_up σ_2 2 (fun _ => (0 : Int32)) →
    ∀ σ_4 : Sg, σ_4 = va_up σ_3 4 (fun _ => (0 : Int32)) →
    post (1 : Int32) σ_4) ∧
    (¬ (60 : Int32) ≤ x2 →
    vp_in x2 60 ∧
    ∀ σ_6 : Sg, σ_6 = va_up σ 9 (upd (σ 9) x2.toNatClampNeg (0 : Int32)) →
    wp_X8_book_24 post n (x2 + (1 : Int32)) σ_6)
set_option maxHeartbeats 4000000 in
set_option maxRecDepth 100000 in
theorem w_X8_book_24 (C0 : Mc p m c meth cX8_book 3 s args wsX8_book RX8 (some .boolean) D cy A) {post : Int32 → Sg → Prop} : ∀ (n : Nat) (x2 : Int32) (σ : Sg), wp_X8_book_24 post n x2 σ → G_X8_book p l e s m args below meth c D A cy ad post (mdW cy ad σ) 3 [(0, .ref (ad 0)), (2, .int x2)] 24 [] := by
  obtain ⟨⟨hx, hb, hml, hown, hts⟩, hr, hlocks, hkx, hA⟩ := id C0
  intro n
  induction n with
  | zero => intro x2 σ h; exact False.elim h
  | succ n ih =>
    intro x2 σ h H locs ls hw hl
    unfold wp_X8_book_24 at h
    refine lv_iload_n hx hb dX8_book_24 rfl (lv_at hl 1 rfl) ?_
    refine lv_bipush (v := 60) hx hb dX8_book_25 (by decide) ?_
    refine lv_icmp_ge (tgt := 43) hx hb dX8_book_27 (by decide) (fun c_1 => ?_) (fun c_1 => ?_)
    · replace h := h.1 c_1
      refine lv_aload_n hx hb dX8_book_43 rfl (lv_at hl 0 rfl) ?_
      refine lv_iconst (v := 0) hx hb dX8_book_44 (by decide) ?_
      refine mp_md_lines hx hb hts inw_X8_book_X8 hown hkx hw (hts _ (List.mem_of_getElem? (i := 4) rfl)) dX8_book_45 (fun σ_2 eσ_2 H locs hw => ?_)
      replace h := h σ_2 eσ_2
      refine lv_aload_n hx hb dX8_book_48 rfl (lv_at hl 0 rfl) ?_
      refine lv_iconst (v := 0) hx hb dX8_book_49 (by decide) ?_
      refine mp_md_entries hx hb hts inw_X8_book_X8 hown hkx hw (hts _ (List.mem_of_getElem? (i := 5) rfl)) dX8_book_50 (fun σ_3 eσ_3 H locs hw => ?_)
      replace h := h σ_3 eσ_3
      refine lv_aload_n hx hb dX8_book_53 rfl (lv_at hl 0 rfl) ?_
      refine lv_iconst (v := 0) hx hb dX8_book_54 (by decide) ?_
      refine mp_md_isFound hx hb hts inw_X8_book_X8 hown hkx hw (hts _ (List.mem_of_getElem? (i := 6) rfl)) (Or.inl rfl) dX8_book_55 (fun σ_4 eσ_4 H locs hw => ?_)
      replace h := h σ_4 eσ_4
      refine lv_iconst (v := 1) hx hb dX8_book_58 (by decide) ?_
      exact end_z (w1 := (mdU cy ad)) (u := σ_4) C0 hw (Or.inr rfl) h dX8_book_59
    · replace h := h.2 c_1
      refine lv_aload_n hx hb dX8_book_30 rfl (lv_at hl 0 rfl) ?_
      refine mg_md_read hx hb hts inw_X8_book_X8 hown hkx hw (hts _ (List.mem_of_getElem? (i := 3) rfl)) dX8_book_31 ?_
      refine lv_iload_n hx hb dX8_book_34 rfl (lv_at hl 1 rfl) ?_
      refine lv_iconst (v := 0) hx hb dX8_book_35 (by decide) ?_
      obtain ⟨b_5, h⟩ := h
      refine ms_m_read hx hb hkx hw b_5 dX8_book_36 (fun σ_6 eσ_6 H locs hw => ?_)
      replace h := h σ_6 eσ_6
      refine lv_iinc (v := x2 + (1 : Int32)) (lv' := [(2, .int (x2 + (1 : Int32))), (0, .ref (ad 0))]) hx hb dX8_book_37 hl (k := 1) rfl rfl (by decide) rfl (fun ls hl => ?_)
      refine lv_goto (tgt := 24) hx hb dX8_book_40 (by decide) ?_
      exact ih _ _ h _ _ _ hw (lv_sub hl [1, 0] rfl)
def wp_X8_book (x1 : Int32) (σ : Sg) (post : Int32 → Sg → Prop) : Prop :=
    ∀ σ_1 : Sg, σ_1 = va_up σ 3 (fun _ => (0 : Int32)) →
    wp_X8_in x1 (1 : Int32) (60 : Int32) (fun r_2 =>
    (¬ r_2 = 0 →
    ∀ σ_4 : Sg, σ_4 = va_up σ_1 0 (fun _ => x1) →
    ∃ fu, wp_X8_book_24 post fu (0 : Int32) σ_4) ∧
    (r_2 = 0 →
    post (0 : Int32) σ_1))
set_option maxHeartbeats 4000000 in
set_option maxRecDepth 100000 in
theorem c_X8_book (l : Launch) (D : va_G) (cy : Nat → ClassId) (ad : Nat → Nat) (σ : Sg) (x1 : Int32) (post : Int32 → Sg → Prop) (h : wp_X8_book x1 σ post) : Ct l yX8_book wsX8_book rm_X8_book D cy [.ref (ad 0), .int x1] (mdW cy ad σ) 0 0 (Ri D (mdU cy ad) (fun r u => post r u)) := by
  refine Ct.of (cc := cX8_book) (maxL := 3) (rt := (some .boolean)) (by decide) rfl (Nat.le_of_ble_eq_true rfl) ?_
  intro p e s m below meth c A C0 _ H locs ls hw hl
  obtain ⟨⟨hx, hb, hml, hown, hts⟩, hr, hlocks, hkx, hA⟩ := id C0
  have hl : lv_has ls 3 [(0, .ref (ad 0)), (1, .int x1)] := hl
  unfold wp_X8_book at h
  refine lv_aload_n hx hb dX8_book_0 rfl (lv_at hl 0 rfl) ?_
  refine lv_iconst (v := 0) hx hb dX8_book_1 (by decide) ?_
  refine mp_md_thrown hx hb hts inw_X8_book_X8 hown hkx hw (hts _ (List.mem_of_getElem? (i := 1) rfl)) dX8_book_2 (fun σ_1 eσ_1 H locs hw => ?_)
  replace h := h σ_1 eσ_1
  refine lv_iload_n hx hb dX8_book_5 rfl (lv_at hl 1 rfl) ?_
  refine lv_iconst (v := 1) hx hb dX8_book_6 (by decide) ?_
  refine lv_bipush (v := 60) hx hb dX8_book_7 (by decide) ?_
  refine call_S0i (As := [.int x1, .int (1 : Int32), .int (60 : Int32)]) ⟨hx, hb, hml, hown, hts⟩ hkx hw hA (c_X8_in l D cy x1 (1 : Int32) (60 : Int32) _ h) (va_cwS 3 hts gX8_book_X8_in rfl rfl rfl hd_X8_in ⟨Nat.le_of_ble_eq_true rfl, Nat.le_of_ble_eq_true rfl⟩) rfl hl.1 rfl (Nat.le_of_ble_eq_true rfl) dX8_book_9 ⟨Nat.zero_le _, Nat.zero_le _⟩ (fun r_2 H locs h hw => ?_)
  refine lv_if_ne (tgt := 17) hx hb dX8_book_12 (by decide) (fun c_3 => ?_) (fun c_3 => ?_)
  · replace h := h.1 c_3
    refine lv_aload_n hx hb dX8_book_17 rfl (lv_at hl 0 rfl) ?_
    refine lv_iload_n hx hb dX8_book_18 rfl (lv_at hl 1 rfl) ?_
    refine mp_md_pages hx hb hts inw_X8_book_X8 hown hkx hw (hts _ (List.mem_of_getElem? (i := 2) rfl)) dX8_book_19 (fun σ_4 eσ_4 H locs hw => ?_)
    replace h := h σ_4 eσ_4
    refine lv_iconst (v := 0) hx hb dX8_book_22 (by decide) ?_
    refine lv_istore_n (lv' := [(2, .int (0 : Int32)), (0, .ref (ad 0)), (1, .int x1)]) hx hb dX8_book_23 rfl hl (by decide) rfl (fun ls hl => ?_)
    obtain ⟨n_5, h⟩ := h
    exact w_X8_book_24 C0 n_5 _ _ h _ _ _ hw (lv_sub hl [1, 0] rfl)
  · replace h := h.2 c_3
    refine lv_iconst (v := 0) hx hb dX8_book_15 (by decide) ?_
    exact end_z (w1 := (mdU cy ad)) (u := σ_1) C0 hw (Or.inl rfl) h dX8_book_16
end
theorem hd_X8_read : yX8_read.cls = RX8 ∧ yX8_read.cls ≠ "java/lang/invoke/MethodHandle" ∧ yX8_read.cls ≠ "java/lang/invoke/VarHandle" ∧ (parseMethodDescriptor yX8_read.desc).map (fun d => d.parameters.length) = some 2 := by decide +kernel
section
variable {p : Program} {l : Launch} {e : Env} {s : State} {m : MethodId} {args : Array Value} {below : List Frame} {meth : Method} {c : Code} {D : va_G} {cy : Nat → ClassId} {A : Nat → Prop} {ad : Nat → Nat}
abbrev rm_X8_read : Room := { frames := 1, cells := 0, slots := 0, locals := 22 }
theorem inw_X8_read_X8 : ∀ w ∈ u_ws RX8 TX8 35, w ∈ wsX8_read := fun _ h => List.mem_cons_of_mem _ (List.mem_append_right _ h)
def wp_X8_read (x1 : Int32) (x2 : Int32) (σ : Sg) (post : Int32 → Sg → Prop) : Prop :=
    ∀ σ_1 : Sg, σ_1 = va_up σ 3 (fun _ => (0 : Int32)) →
    wp_X8_in x1 (0 : Int32) ((σ_1 0 0) - (1 : Int32)) (fun r_2 =>
    (r_2 = 0 →
    post (0 : Int32) σ_1) ∧
    (¬ r_2 = 0 →
    wp_X8_in x2 (0 : Int32) (999 : Int32) (fun r_4 =>
    (¬ r_4 = 0 →
    vp_in x1 60 ∧
    ∀ σ_7 : Sg, σ_7 = va_up σ_1 9 (upd (σ_1 9) x1.toNatClampNeg x2) →
    ∀ σ_8 : Sg, σ_8 = va_up σ_7 4 (fun _ => (0 : Int32)) →
    post (1 : Int32) σ_8) ∧
    (r_4 = 0 →
    post (0 : Int32) σ_1))))
set_option maxHeartbeats 4000000 in
set_option maxRecDepth 100000 in
theorem c_X8_read (l : Launch) (D : va_G) (cy : Nat → ClassId) (ad : Nat → Nat) (σ : Sg) (x1 : Int32) (x2 : Int32) (post : Int32 → Sg → Prop) (h : wp_X8_read x1 x2 σ post) : Ct l yX8_read wsX8_read rm_X8_read D cy [.ref (ad 0), .int x1, .int x2] (mdW cy ad σ) 0 0 (Ri D (mdU cy ad) (fun r u => post r u)) := by
  refine Ct.of (cc := cX8_read) (maxL := 3) (rt := (some .boolean)) (by decide) rfl (Nat.le_of_ble_eq_true rfl) ?_
  intro p e s m below meth c A C0 _ H locs ls hw hl
  obtain ⟨⟨hx, hb, hml, hown, hts⟩, hr, hlocks, hkx, hA⟩ := id C0
  have hl : lv_has ls 3 [(0, .ref (ad 0)), (1, .int x1), (2, .int x2)] := hl
  unfold wp_X8_read at h
  refine lv_aload_n hx hb dX8_read_0 rfl (lv_at hl 0 rfl) ?_
  refine lv_iconst (v := 0) hx hb dX8_read_1 (by decide) ?_
  refine mp_md_thrown hx hb hts inw_X8_read_X8 hown hkx hw (hts _ (List.mem_of_getElem? (i := 1) rfl)) dX8_read_2 (fun σ_1 eσ_1 H locs hw => ?_)
  replace h := h σ_1 eσ_1
  refine lv_iload_n hx hb dX8_read_5 rfl (lv_at hl 1 rfl) ?_
  refine lv_iconst (v := 0) hx hb dX8_read_6 (by decide) ?_
  refine lv_aload_n hx hb dX8_read_7 rfl (lv_at hl 0 rfl) ?_
  refine mg_md_pages hx hb hts inw_X8_read_X8 hown hkx hw (hts _ (List.mem_of_getElem? (i := 2) rfl)) dX8_read_8 ?_
  refine lv_iconst (v := 1) hx hb dX8_read_11 (by decide) ?_
  refine lv_isub hx hb dX8_read_12 ?_
  refine call_S0i (As := [.int x1, .int (0 : Int32), .int ((σ_1 0 0) - (1 : Int32))]) ⟨hx, hb, hml, hown, hts⟩ hkx hw hA (c_X8_in l D cy x1 (0 : Int32) ((σ_1 0 0) - (1 : Int32)) _ h) (va_cwS 3 hts gX8_read_X8_in rfl rfl rfl hd_X8_in ⟨Nat.le_of_ble_eq_true rfl, Nat.le_of_ble_eq_true rfl⟩) rfl hl.1 rfl (Nat.le_of_ble_eq_true rfl) dX8_read_13 ⟨Nat.zero_le _, Nat.zero_le _⟩ (fun r_2 H locs h hw => ?_)
  refine lv_if_eq (tgt := 30) hx hb dX8_read_16 (by decide) (fun c_3 => ?_) (fun c_3 => ?_)
  · replace h := h.1 c_3
    refine lv_iconst (v := 0) hx hb dX8_read_30 (by decide) ?_
    exact end_z (w1 := (mdU cy ad)) (u := σ_1) C0 hw (Or.inl rfl) h dX8_read_31
  · replace h := h.2 c_3
    refine lv_iload_n hx hb dX8_read_19 rfl (lv_at hl 2 rfl) ?_
    refine lv_iconst (v := 0) hx hb dX8_read_20 (by decide) ?_
    refine lv_sipush (v := 999) hx hb dX8_read_21 (by decide) ?_
    refine call_S0i (As := [.int x2, .int (0 : Int32), .int (999 : Int32)]) ⟨hx, hb, hml, hown, hts⟩ hkx hw hA (c_X8_in l D cy x2 (0 : Int32) (999 : Int32) _ h) (va_cwS 3 hts gX8_read_X8_in rfl rfl rfl hd_X8_in ⟨Nat.le_of_ble_eq_true rfl, Nat.le_of_ble_eq_true rfl⟩) rfl hl.1 rfl (Nat.le_of_ble_eq_true rfl) dX8_read_24 ⟨Nat.zero_le _, Nat.zero_le _⟩ (fun r_4 H locs h hw => ?_)
    refine lv_if_ne (tgt := 32) hx hb dX8_read_27 (by decide) (fun c_5 => ?_) (fun c_5 => ?_)
    · replace h := h.1 c_5
      refine lv_aload_n hx hb dX8_read_32 rfl (lv_at hl 0 rfl) ?_
      refine mg_md_read hx hb hts inw_X8_read_X8 hown hkx hw (hts _ (List.mem_of_getElem? (i := 3) rfl)) dX8_read_33 ?_
      refine lv_iload_n hx hb dX8_read_36 rfl (lv_at hl 1 rfl) ?_
      refine lv_iload_n hx hb dX8_read_37 rfl (lv_at hl 2 rfl) ?_
      obtain ⟨b_6, h⟩ := h
      refine ms_m_read hx hb hkx hw b_6 dX8_read_38 (fun σ_7 eσ_7 H locs hw => ?_)
      replace h := h σ_7 eσ_7
      refine lv_aload_n hx hb dX8_read_39 rfl (lv_at hl 0 rfl) ?_
      refine lv_iconst (v := 0) hx hb dX8_read_40 (by decide) ?_
      refine mp_md_isFound hx hb hts inw_X8_read_X8 hown hkx hw (hts _ (List.mem_of_getElem? (i := 4) rfl)) (Or.inl rfl) dX8_read_41 (fun σ_8 eσ_8 H locs hw => ?_)
      replace h := h σ_8 eσ_8
      refine lv_iconst (v := 1) hx hb dX8_read_44 (by decide) ?_
      exact end_z (w1 := (mdU cy ad)) (u := σ_8) C0 hw (Or.inr rfl) h dX8_read_45
    · replace h := h.2 c_5
      refine lv_iconst (v := 0) hx hb dX8_read_30 (by decide) ?_
      exact end_z (w1 := (mdU cy ad)) (u := σ_1) C0 hw (Or.inl rfl) h dX8_read_31
end
theorem hd_X8_partsOf : yX8_partsOf.cls = RX8 ∧ yX8_partsOf.cls ≠ "java/lang/invoke/MethodHandle" ∧ yX8_partsOf.cls ≠ "java/lang/invoke/VarHandle" ∧ (parseMethodDescriptor yX8_partsOf.desc).map (fun d => d.parameters.length) = some 3 := by decide +kernel
section
variable {p : Program} {l : Launch} {e : Env} {s : State} {m : MethodId} {args : Array Value} {below : List Frame} {meth : Method} {c : Code} {D : va_G} {cy : Nat → ClassId} {A : Nat → Prop} {ad : Nat → Nat}
abbrev rm_X8_partsOf_null : Room := { frames := 1, cells := 0, slots := 0, locals := 22 }
abbrev G_X8_partsOf_null (p : Program) (l : Launch) (e : Env) (s : State) (m : MethodId) (args : Array Value) (below : List Frame) (meth : Method) (c : Code) (D : va_G) (A : Nat → Prop) (cy : Nat → ClassId) (ad : Nat → Nat) (post : Int32 → Sg → Prop) : va_W → Nat → List (Nat × Value) → Nat → List Value → Prop := Gw p l e rm_X8_partsOf_null s m args below meth c D A (MQ below ((Ri D (mdU cy ad) (fun r u => post r u)) A) args s 0 0 A)
def wp_X8_partsOf_null_90 (post : Int32 → Sg → Prop) (k53 : Int32 → Int32 → Int32 → Int32 → Sg → Prop) (x3 : Int32) (x4 : Int32) (x5 : Int32) (x6 : Int32) (σ : Sg) : Prop :=
    ∀ y_1 : Int32, y_1 = (x5 / (100 : Int32)) →
    k53 x3 x4 y_1 (x6 + (-1 : Int32)) σ
set_option maxHeartbeats 4000000 in
set_option maxRecDepth 100000 in
theorem w_X8_partsOf_null_90 (C0 : Mc p m c meth cX8_partsOf 8 s args wsX8_partsOf RX8 (some .int) D cy A) {post : Int32 → Sg → Prop} {k53 : Int32 → Int32 → Int32 → Int32 → Sg → Prop} (hk53 : ∀ (x3 : Int32) (x4 : Int32) (x5 : Int32) (x6 : Int32) (σ : Sg), k53 x3 x4 x5 x6 σ → G_X8_partsOf_null p l e s m args below meth c D A cy ad post (mdW cy ad σ) 8 [(2, .null), (3, .int x3), (4, .int x4), (5, .int x5), (6, .int x6)] 53 []) : ∀ (x3 : Int32) (x4 : Int32) (x5 : Int32) (x6 : Int32) (σ : Sg), wp_X8_partsOf_null_90 post k53 x3 x4 x5 x6 σ → G_X8_partsOf_null p l e s m args below meth c D A cy ad post (mdW cy ad σ) 8 [(2, .null), (3, .int x3), (4, .int x4), (5, .int x5), (6, .int x6)] 90 [] := by
  obtain ⟨⟨hx, hb, hml, hown, hts⟩, hr, hlocks, hkx, hA⟩ := id C0
  intro x3 x4 x5 x6 σ h H locs ls hw hl
  unfold wp_X8_partsOf_null_90 at h
  refine lv_iload hx hb dX8_partsOf_90 (lv_at hl 3 rfl) ?_
  refine lv_bipush (v := 100) hx hb dX8_partsOf_92 (by decide) ?_
  refine lv_idiv hx hb dX8_partsOf_94 (by decide) ?_
  refine lv_topi (fun y_1 ey_1 => ?_)
  replace h := h y_1 ey_1
  refine lv_istore (lv' := [(5, .int y_1), (2, .null), (3, .int x3), (4, .int x4), (6, .int x6)]) hx hb dX8_partsOf_95 hl (by decide) rfl (fun ls hl => ?_)
  refine lv_iinc (v := x6 + (-1 : Int32)) (lv' := [(6, .int (x6 + (-1 : Int32))), (5, .int y_1), (2, .null), (3, .int x3), (4, .int x4)]) hx hb dX8_partsOf_97 hl (k := 4) rfl rfl (by decide) rfl (fun ls hl => ?_)
  refine lv_goto (tgt := 53) hx hb dX8_partsOf_100 (by decide) ?_
  exact hk53 _ _ _ _ _ h _ _ _ hw (lv_sub hl [2, 3, 4, 1, 0] rfl)
def wp_X8_partsOf_null_53 (post : Int32 → Sg → Prop) : Nat → Int32 → Int32 → Int32 → Int32 → Sg → Prop
  | 0, _, _, _, _, _ => False
  | n + 1, x3, x4, x5, x6, σ =>
    (x6 < 0 →
    post x4 σ) ∧
    (¬ x6 < 0 →
    ∀ y_2 : Int32, y_2 = (x5 - x5 / (100 : Int32) * (100 : Int32)) →
    wp_X8_in y_2 (1 : Int32) (12 : Int32) (fun r_3 =>
    (¬ r_3 = 0 →
    wp_X8_partsOf_null_90 post (fun zx3 zx4 zx5 zx6 zσ => wp_X8_partsOf_null_53 post n zx3 zx4 zx5 zx6 zσ) x3 x4 x5 x6 σ) ∧
    (r_3 = 0 →
    post (-1 : Int32) σ)))
set_option maxHeartbeats 4000000 in
set_option maxRecDepth 100000 in
theorem w_X8_partsOf_null_53 (C0 : Mc p m c meth cX8_partsOf 8 s args wsX8_partsOf RX8 (some .int) D cy A) {post : Int32 → Sg → Prop} : ∀ (n : Nat) (x3 : Int32) (x4 : Int32) (x5 : Int32) (x6 : Int32) (σ : Sg), wp_X8_partsOf_null_53 post n x3 x4 x5 x6 σ → G_X8_partsOf_null p l e s m args below meth c D A cy ad post (mdW cy ad σ) 8 [(2, .null), (3, .int x3), (4, .int x4), (5, .int x5), (6, .int x6)] 53 [] := by
  obtain ⟨⟨hx, hb, hml, hown, hts⟩, hr, hlocks, hkx, hA⟩ := id C0
  intro n
  induction n with
  | zero => intro x3 x4 x5 x6 σ h; exact False.elim h
  | succ n ih =>
    intro x3 x4 x5 x6 σ h H locs ls hw hl
    unfold wp_X8_partsOf_null_53 at h
    refine lv_iload hx hb dX8_partsOf_53 (lv_at hl 4 rfl) ?_
    refine lv_if_lt (tgt := 103) hx hb dX8_partsOf_55 (by decide) (fun c_1 => ?_) (fun c_1 => ?_)
    · replace h := h.1 c_1
      refine lv_iload hx hb dX8_partsOf_103 (lv_at hl 2 rfl) ?_
      exact end_i (w1 := (mdU cy ad)) (u := σ) C0 hw h dX8_partsOf_105
    · replace h := h.2 c_1
      refine lv_iload hx hb dX8_partsOf_58 (lv_at hl 3 rfl) ?_
      refine lv_bipush (v := 100) hx hb dX8_partsOf_60 (by decide) ?_
      refine lv_irem hx hb dX8_partsOf_62 (by decide) ?_
      refine lv_topi (fun y_2 ey_2 => ?_)
      replace h := h y_2 ey_2
      refine lv_istore (lv' := [(7, .int y_2), (2, .null), (3, .int x3), (4, .int x4), (5, .int x5), (6, .int x6)]) hx hb dX8_partsOf_63 hl (by decide) rfl (fun ls hl => ?_)
      refine lv_iload hx hb dX8_partsOf_65 (lv_at hl 0 rfl) ?_
      refine lv_iconst (v := 1) hx hb dX8_partsOf_67 (by decide) ?_
      refine lv_bipush (v := 12) hx hb dX8_partsOf_68 (by decide) ?_
      refine call_S0i (As := [.int y_2, .int (1 : Int32), .int (12 : Int32)]) ⟨hx, hb, hml, hown, hts⟩ hkx hw hA (c_X8_in l D cy y_2 (1 : Int32) (12 : Int32) _ h) (va_cwS 3 hts gX8_partsOf_X8_in rfl rfl rfl hd_X8_in ⟨Nat.le_of_ble_eq_true rfl, Nat.le_of_ble_eq_true rfl⟩) rfl hl.1 rfl (Nat.le_of_ble_eq_true rfl) dX8_partsOf_70 ⟨Nat.zero_le _, Nat.zero_le _⟩ (fun r_3 H locs h hw => ?_)
      refine lv_if_ne (tgt := 78) hx hb dX8_partsOf_73 (by decide) (fun c_4 => ?_) (fun c_4 => ?_)
      · replace h := h.1 c_4
        refine lv_aload_nN hx hb dX8_partsOf_78 rfl (lv_at hl 1 rfl) ?_
        refine lv_ifnullN (tgt := 90) hx hb dX8_partsOf_79 (by decide) ?_
        exact w_X8_partsOf_null_90 C0 ih _ _ _ _ _ h _ _ _ hw (lv_sub hl [1, 2, 3, 4, 5] rfl)
      · replace h := h.2 c_4
        refine lv_iconst (v := -1) hx hb dX8_partsOf_76 (by decide) ?_
        exact end_i (w1 := (mdU cy ad)) (u := σ) C0 hw h dX8_partsOf_77
def wp_X8_partsOf_null_42 (post : Int32 → Sg → Prop) (x1 : Int32) (x3 : Int32) (s0 : Int32) (σ : Sg) : Prop :=
    ∀ y_1 : Int32, y_1 = (s0 - (1 : Int32)) →
    ∃ fu, wp_X8_partsOf_null_53 post fu x3 s0 x1 y_1 σ
set_option maxHeartbeats 4000000 in
set_option maxRecDepth 100000 in
theorem w_X8_partsOf_null_42 (C0 : Mc p m c meth cX8_partsOf 8 s args wsX8_partsOf RX8 (some .int) D cy A) {post : Int32 → Sg → Prop} : ∀ (x1 : Int32) (x3 : Int32) (s0 : Int32) (σ : Sg), wp_X8_partsOf_null_42 post x1 x3 s0 σ → G_X8_partsOf_null p l e s m args below meth c D A cy ad post (mdW cy ad σ) 8 [(1, .int x1), (2, .null), (3, .int x3)] 42 [.int s0] := by
  obtain ⟨⟨hx, hb, hml, hown, hts⟩, hr, hlocks, hkx, hA⟩ := id C0
  intro x1 x3 s0 σ h H locs ls hw hl
  unfold wp_X8_partsOf_null_42 at h
  refine lv_istore (lv' := [(4, .int s0), (1, .int x1), (2, .null), (3, .int x3)]) hx hb dX8_partsOf_42 hl (by decide) rfl (fun ls hl => ?_)
  refine lv_iload_n hx hb dX8_partsOf_44 rfl (lv_at hl 1 rfl) ?_
  refine lv_istore (lv' := [(5, .int x1), (4, .int s0), (1, .int x1), (2, .null), (3, .int x3)]) hx hb dX8_partsOf_45 hl (by decide) rfl (fun ls hl => ?_)
  refine lv_iload hx hb dX8_partsOf_47 (lv_at hl 1 rfl) ?_
  refine lv_iconst (v := 1) hx hb dX8_partsOf_49 (by decide) ?_
  refine lv_isub hx hb dX8_partsOf_50 ?_
  refine lv_topi (fun y_1 ey_1 => ?_)
  replace h := h y_1 ey_1
  refine lv_istore (lv' := [(6, .int y_1), (5, .int x1), (4, .int s0), (1, .int x1), (2, .null), (3, .int x3)]) hx hb dX8_partsOf_51 hl (by decide) rfl (fun ls hl => ?_)
  obtain ⟨n_2, h⟩ := h
  exact w_X8_partsOf_null_53 C0 n_2 _ _ _ _ _ h _ _ _ hw (lv_sub hl [4, 5, 2, 1, 0] rfl)
def wp_X8_partsOf_null (x1 : Int32) (x3 : Int32) (σ : Sg) (post : Int32 → Sg → Prop) : Prop :=
    (x1 < 0 →
    post (-1 : Int32) σ) ∧
    (¬ x1 < 0 →
    (x1 ≤ (121212 : Int32) →
    (¬ x1 = 0 →
    ((100 : Int32) ≤ x1 →
    ((10000 : Int32) ≤ x1 →
    wp_X8_partsOf_null_42 post x1 x3 (3 : Int32) σ) ∧
    (¬ (10000 : Int32) ≤ x1 →
    wp_X8_partsOf_null_42 post x1 x3 (2 : Int32) σ)) ∧
    (¬ (100 : Int32) ≤ x1 →
    wp_X8_partsOf_null_42 post x1 x3 (1 : Int32) σ)) ∧
    (x1 = 0 →
    wp_X8_partsOf_null_42 post x1 x3 (0 : Int32) σ)) ∧
    (¬ x1 ≤ (121212 : Int32) →
    post (-1 : Int32) σ))
set_option maxHeartbeats 4000000 in
set_option maxRecDepth 100000 in
theorem c_X8_partsOf_null (l : Launch) (D : va_G) (cy : Nat → ClassId) (ad : Nat → Nat) (σ : Sg) (x1 : Int32) (x3 : Int32) (post : Int32 → Sg → Prop) (h : wp_X8_partsOf_null x1 x3 σ post) : Ct l yX8_partsOf wsX8_partsOf rm_X8_partsOf_null D cy [.ref (ad 0), .int x1, .null, .int x3] (mdW cy ad σ) 0 0 (Ri D (mdU cy ad) (fun r u => post r u)) := by
  refine Ct.of (cc := cX8_partsOf) (maxL := 8) (rt := (some .int)) (by decide) rfl (Nat.le_of_ble_eq_true rfl) ?_
  intro p e s m below meth c A C0 _ H locs ls hw hl
  obtain ⟨⟨hx, hb, hml, hown, hts⟩, hr, hlocks, hkx, hA⟩ := id C0
  have hl : lv_has ls 8 [(0, .ref (ad 0)), (1, .int x1), (2, .null), (3, .int x3)] := hl
  unfold wp_X8_partsOf_null at h
  refine lv_iload_n hx hb dX8_partsOf_0 rfl (lv_at hl 1 rfl) ?_
  refine lv_if_lt (tgt := 10) hx hb dX8_partsOf_1 (by decide) (fun c_1 => ?_) (fun c_1 => ?_)
  · replace h := h.1 c_1
    refine lv_iconst (v := -1) hx hb dX8_partsOf_10 (by decide) ?_
    exact end_i (w1 := (mdU cy ad)) (u := σ) C0 hw h dX8_partsOf_11
  · replace h := h.2 c_1
    refine lv_iload_n hx hb dX8_partsOf_4 rfl (lv_at hl 1 rfl) ?_
    refine lv_ldc hx hb hown (hts _ (List.mem_of_getElem? (i := 1) rfl)) dX8_partsOf_5 ?_
    refine lv_icmp_le (tgt := 12) hx hb dX8_partsOf_7 (by decide) (fun c_2 => ?_) (fun c_2 => ?_)
    · replace h := h.1 c_2
      refine lv_iload_n hx hb dX8_partsOf_12 rfl (lv_at hl 1 rfl) ?_
      refine lv_if_ne (tgt := 20) hx hb dX8_partsOf_13 (by decide) (fun c_3 => ?_) (fun c_3 => ?_)
      · replace h := h.1 c_3
        refine lv_iload_n hx hb dX8_partsOf_20 rfl (lv_at hl 1 rfl) ?_
        refine lv_bipush (v := 100) hx hb dX8_partsOf_21 (by decide) ?_
        refine lv_icmp_ge (tgt := 30) hx hb dX8_partsOf_23 (by decide) (fun c_4 => ?_) (fun c_4 => ?_)
        · replace h := h.1 c_4
          refine lv_iload_n hx hb dX8_partsOf_30 rfl (lv_at hl 1 rfl) ?_
          refine lv_sipush (v := 10000) hx hb dX8_partsOf_31 (by decide) ?_
          refine lv_icmp_ge (tgt := 41) hx hb dX8_partsOf_34 (by decide) (fun c_5 => ?_) (fun c_5 => ?_)
          · replace h := h.1 c_5
            refine lv_iconst (v := 3) hx hb dX8_partsOf_41 (by decide) ?_
            exact w_X8_partsOf_null_42 C0 _ _ _ _ h _ _ _ hw (lv_sub hl [1, 2, 3] rfl)
          · replace h := h.2 c_5
            refine lv_iconst (v := 2) hx hb dX8_partsOf_37 (by decide) ?_
            refine lv_goto (tgt := 42) hx hb dX8_partsOf_38 (by decide) ?_
            exact w_X8_partsOf_null_42 C0 _ _ _ _ h _ _ _ hw (lv_sub hl [1, 2, 3] rfl)
        · replace h := h.2 c_4
          refine lv_iconst (v := 1) hx hb dX8_partsOf_26 (by decide) ?_
          refine lv_goto (tgt := 42) hx hb dX8_partsOf_27 (by decide) ?_
          exact w_X8_partsOf_null_42 C0 _ _ _ _ h _ _ _ hw (lv_sub hl [1, 2, 3] rfl)
      · replace h := h.2 c_3
        refine lv_iconst (v := 0) hx hb dX8_partsOf_16 (by decide) ?_
        refine lv_goto (tgt := 42) hx hb dX8_partsOf_17 (by decide) ?_
        exact w_X8_partsOf_null_42 C0 _ _ _ _ h _ _ _ hw (lv_sub hl [1, 2, 3] rfl)
    · replace h := h.2 c_2
      refine lv_iconst (v := -1) hx hb dX8_partsOf_10 (by decide) ?_
      exact end_i (w1 := (mdU cy ad)) (u := σ) C0 hw h dX8_partsOf_11
end
section
variable {p : Program} {l : Launch} {e : Env} {s : State} {m : MethodId} {args : Array Value} {below : List Frame} {meth : Method} {c : Code} {D : va_G} {cy : Nat → ClassId} {A : Nat → Prop} {ad : Nat → Nat}
abbrev rm_X8_partsOf_numbers : Room := { frames := 1, cells := 0, slots := 0, locals := 22 }
abbrev G_X8_partsOf_numbers (p : Program) (l : Launch) (e : Env) (s : State) (m : MethodId) (args : Array Value) (below : List Frame) (meth : Method) (c : Code) (D : va_G) (A : Nat → Prop) (cy : Nat → ClassId) (ad : Nat → Nat) (post : Int32 → Sg → Prop) : va_W → Nat → List (Nat × Value) → Nat → List Value → Prop := Gw p l e rm_X8_partsOf_numbers s m args below meth c D A (MQ below ((Ri D (mdU cy ad) (fun r u => post r u)) A) args s 0 0 A)
def wp_X8_partsOf_numbers_90 (post : Int32 → Sg → Prop) (k53 : Int32 → Int32 → Int32 → Int32 → Sg → Prop) (x3 : Int32) (x4 : Int32) (x5 : Int32) (x6 : Int32) (σ : Sg) : Prop :=
    ∀ y_1 : Int32, y_1 = (x5 / (100 : Int32)) →
    k53 x3 x4 y_1 (x6 + (-1 : Int32)) σ
set_option maxHeartbeats 4000000 in
set_option maxRecDepth 100000 in
theorem w_X8_partsOf_numbers_90 (C0 : Mc p m c meth cX8_partsOf 8 s args wsX8_partsOf RX8 (some .int) D cy A) {post : Int32 → Sg → Prop} {k53 : Int32 → Int32 → Int32 → Int32 → Sg → Prop} (hk53 : ∀ (x3 : Int32) (x4 : Int32) (x5 : Int32) (x6 : Int32) (σ : Sg), k53 x3 x4 x5 x6 σ → G_X8_partsOf_numbers p l e s m args below meth c D A cy ad post (mdW cy ad σ) 8 [(2, .ref (ad 8)), (3, .int x3), (4, .int x4), (5, .int x5), (6, .int x6)] 53 []) : ∀ (x3 : Int32) (x4 : Int32) (x5 : Int32) (x6 : Int32) (σ : Sg), wp_X8_partsOf_numbers_90 post k53 x3 x4 x5 x6 σ → G_X8_partsOf_numbers p l e s m args below meth c D A cy ad post (mdW cy ad σ) 8 [(2, .ref (ad 8)), (3, .int x3), (4, .int x4), (5, .int x5), (6, .int x6)] 90 [] := by
  obtain ⟨⟨hx, hb, hml, hown, hts⟩, hr, hlocks, hkx, hA⟩ := id C0
  intro x3 x4 x5 x6 σ h H locs ls hw hl
  unfold wp_X8_partsOf_numbers_90 at h
  refine lv_iload hx hb dX8_partsOf_90 (lv_at hl 3 rfl) ?_
  refine lv_bipush (v := 100) hx hb dX8_partsOf_92 (by decide) ?_
  refine lv_idiv hx hb dX8_partsOf_94 (by decide) ?_
  refine lv_topi (fun y_1 ey_1 => ?_)
  replace h := h y_1 ey_1
  refine lv_istore (lv' := [(5, .int y_1), (2, .ref (ad 8)), (3, .int x3), (4, .int x4), (6, .int x6)]) hx hb dX8_partsOf_95 hl (by decide) rfl (fun ls hl => ?_)
  refine lv_iinc (v := x6 + (-1 : Int32)) (lv' := [(6, .int (x6 + (-1 : Int32))), (5, .int y_1), (2, .ref (ad 8)), (3, .int x3), (4, .int x4)]) hx hb dX8_partsOf_97 hl (k := 4) rfl rfl (by decide) rfl (fun ls hl => ?_)
  refine lv_goto (tgt := 53) hx hb dX8_partsOf_100 (by decide) ?_
  exact hk53 _ _ _ _ _ h _ _ _ hw (lv_sub hl [2, 3, 4, 1, 0] rfl)
def wp_X8_partsOf_numbers_53 (post : Int32 → Sg → Prop) : Nat → Int32 → Int32 → Int32 → Int32 → Sg → Prop
  | 0, _, _, _, _, _ => False
  | n + 1, x3, x4, x5, x6, σ =>
    (x6 < 0 →
    post x4 σ) ∧
    (¬ x6 < 0 →
    ∀ y_2 : Int32, y_2 = (x5 - x5 / (100 : Int32) * (100 : Int32)) →
    wp_X8_in y_2 (1 : Int32) (12 : Int32) (fun r_3 =>
    (¬ r_3 = 0 →
    vp_in (x3 + x6) 60 ∧
    ∀ σ_6 : Sg, σ_6 = va_up σ 16 (upd (σ 16) (x3 + x6).toNatClampNeg y_2) →
    wp_X8_partsOf_numbers_90 post (fun zx3 zx4 zx5 zx6 zσ => wp_X8_partsOf_numbers_53 post n zx3 zx4 zx5 zx6 zσ) x3 x4 x5 x6 σ_6) ∧
    (r_3 = 0 →
    post (-1 : Int32) σ)))
set_option maxHeartbeats 4000000 in
set_option maxRecDepth 100000 in
theorem w_X8_partsOf_numbers_53 (C0 : Mc p m c meth cX8_partsOf 8 s args wsX8_partsOf RX8 (some .int) D cy A) {post : Int32 → Sg → Prop} : ∀ (n : Nat) (x3 : Int32) (x4 : Int32) (x5 : Int32) (x6 : Int32) (σ : Sg), wp_X8_partsOf_numbers_53 post n x3 x4 x5 x6 σ → G_X8_partsOf_numbers p l e s m args below meth c D A cy ad post (mdW cy ad σ) 8 [(2, .ref (ad 8)), (3, .int x3), (4, .int x4), (5, .int x5), (6, .int x6)] 53 [] := by
  obtain ⟨⟨hx, hb, hml, hown, hts⟩, hr, hlocks, hkx, hA⟩ := id C0
  intro n
  induction n with
  | zero => intro x3 x4 x5 x6 σ h; exact False.elim h
  | succ n ih =>
    intro x3 x4 x5 x6 σ h H locs ls hw hl
    unfold wp_X8_partsOf_numbers_53 at h
    refine lv_iload hx hb dX8_partsOf_53 (lv_at hl 4 rfl) ?_
    refine lv_if_lt (tgt := 103) hx hb dX8_partsOf_55 (by decide) (fun c_1 => ?_) (fun c_1 => ?_)
    · replace h := h.1 c_1
      refine lv_iload hx hb dX8_partsOf_103 (lv_at hl 2 rfl) ?_
      exact end_i (w1 := (mdU cy ad)) (u := σ) C0 hw h dX8_partsOf_105
    · replace h := h.2 c_1
      refine lv_iload hx hb dX8_partsOf_58 (lv_at hl 3 rfl) ?_
      refine lv_bipush (v := 100) hx hb dX8_partsOf_60 (by decide) ?_
      refine lv_irem hx hb dX8_partsOf_62 (by decide) ?_
      refine lv_topi (fun y_2 ey_2 => ?_)
      replace h := h y_2 ey_2
      refine lv_istore (lv' := [(7, .int y_2), (2, .ref (ad 8)), (3, .int x3), (4, .int x4), (5, .int x5), (6, .int x6)]) hx hb dX8_partsOf_63 hl (by decide) rfl (fun ls hl => ?_)
      refine lv_iload hx hb dX8_partsOf_65 (lv_at hl 0 rfl) ?_
      refine lv_iconst (v := 1) hx hb dX8_partsOf_67 (by decide) ?_
      refine lv_bipush (v := 12) hx hb dX8_partsOf_68 (by decide) ?_
      refine call_S0i (As := [.int y_2, .int (1 : Int32), .int (12 : Int32)]) ⟨hx, hb, hml, hown, hts⟩ hkx hw hA (c_X8_in l D cy y_2 (1 : Int32) (12 : Int32) _ h) (va_cwS 3 hts gX8_partsOf_X8_in rfl rfl rfl hd_X8_in ⟨Nat.le_of_ble_eq_true rfl, Nat.le_of_ble_eq_true rfl⟩) rfl hl.1 rfl (Nat.le_of_ble_eq_true rfl) dX8_partsOf_70 ⟨Nat.zero_le _, Nat.zero_le _⟩ (fun r_3 H locs h hw => ?_)
      refine lv_if_ne (tgt := 78) hx hb dX8_partsOf_73 (by decide) (fun c_4 => ?_) (fun c_4 => ?_)
      · replace h := h.1 c_4
        refine lv_aload_n hx hb dX8_partsOf_78 rfl (lv_at hl 1 rfl) ?_
        refine lv_ifnull hx hb dX8_partsOf_79 ?_
        refine lv_aload_n hx hb dX8_partsOf_82 rfl (lv_at hl 1 rfl) ?_
        refine lv_iload_n hx hb dX8_partsOf_83 rfl (lv_at hl 2 rfl) ?_
        refine lv_iload hx hb dX8_partsOf_84 (lv_at hl 5 rfl) ?_
        refine lv_iadd hx hb dX8_partsOf_86 ?_
        refine lv_iload hx hb dX8_partsOf_87 (lv_at hl 0 rfl) ?_
        obtain ⟨b_5, h⟩ := h
        refine ms_m_numbers hx hb hkx hw b_5 dX8_partsOf_89 (fun σ_6 eσ_6 H locs hw => ?_)
        replace h := h σ_6 eσ_6
        exact w_X8_partsOf_numbers_90 C0 ih _ _ _ _ _ h _ _ _ hw (lv_sub hl [1, 2, 3, 4, 5] rfl)
      · replace h := h.2 c_4
        refine lv_iconst (v := -1) hx hb dX8_partsOf_76 (by decide) ?_
        exact end_i (w1 := (mdU cy ad)) (u := σ) C0 hw h dX8_partsOf_77
def wp_X8_partsOf_numbers_42 (post : Int32 → Sg → Prop) (x1 : Int32) (x3 : Int32) (s0 : Int32) (σ : Sg) : Prop :=
    ∀ y_1 : Int32, y_1 = (s0 - (1 : Int32)) →
    ∃ fu, wp_X8_partsOf_numbers_53 post fu x3 s0 x1 y_1 σ
set_option maxHeartbeats 4000000 in
set_option maxRecDepth 100000 in
theorem w_X8_partsOf_numbers_42 (C0 : Mc p m c meth cX8_partsOf 8 s args wsX8_partsOf RX8 (some .int) D cy A) {post : Int32 → Sg → Prop} : ∀ (x1 : Int32) (x3 : Int32) (s0 : Int32) (σ : Sg), wp_X8_partsOf_numbers_42 post x1 x3 s0 σ → G_X8_partsOf_numbers p l e s m args below meth c D A cy ad post (mdW cy ad σ) 8 [(1, .int x1), (2, .ref (ad 8)), (3, .int x3)] 42 [.int s0] := by
  obtain ⟨⟨hx, hb, hml, hown, hts⟩, hr, hlocks, hkx, hA⟩ := id C0
  intro x1 x3 s0 σ h H locs ls hw hl
  unfold wp_X8_partsOf_numbers_42 at h
  refine lv_istore (lv' := [(4, .int s0), (1, .int x1), (2, .ref (ad 8)), (3, .int x3)]) hx hb dX8_partsOf_42 hl (by decide) rfl (fun ls hl => ?_)
  refine lv_iload_n hx hb dX8_partsOf_44 rfl (lv_at hl 1 rfl) ?_
  refine lv_istore (lv' := [(5, .int x1), (4, .int s0), (1, .int x1), (2, .ref (ad 8)), (3, .int x3)]) hx hb dX8_partsOf_45 hl (by decide) rfl (fun ls hl => ?_)
  refine lv_iload hx hb dX8_partsOf_47 (lv_at hl 1 rfl) ?_
  refine lv_iconst (v := 1) hx hb dX8_partsOf_49 (by decide) ?_
  refine lv_isub hx hb dX8_partsOf_50 ?_
  refine lv_topi (fun y_1 ey_1 => ?_)
  replace h := h y_1 ey_1
  refine lv_istore (lv' := [(6, .int y_1), (5, .int x1), (4, .int s0), (1, .int x1), (2, .ref (ad 8)), (3, .int x3)]) hx hb dX8_partsOf_51 hl (by decide) rfl (fun ls hl => ?_)
  obtain ⟨n_2, h⟩ := h
  exact w_X8_partsOf_numbers_53 C0 n_2 _ _ _ _ _ h _ _ _ hw (lv_sub hl [4, 5, 2, 1, 0] rfl)
def wp_X8_partsOf_numbers (x1 : Int32) (x3 : Int32) (σ : Sg) (post : Int32 → Sg → Prop) : Prop :=
    (x1 < 0 →
    post (-1 : Int32) σ) ∧
    (¬ x1 < 0 →
    (x1 ≤ (121212 : Int32) →
    (¬ x1 = 0 →
    ((100 : Int32) ≤ x1 →
    ((10000 : Int32) ≤ x1 →
    wp_X8_partsOf_numbers_42 post x1 x3 (3 : Int32) σ) ∧
    (¬ (10000 : Int32) ≤ x1 →
    wp_X8_partsOf_numbers_42 post x1 x3 (2 : Int32) σ)) ∧
    (¬ (100 : Int32) ≤ x1 →
    wp_X8_partsOf_numbers_42 post x1 x3 (1 : Int32) σ)) ∧
    (x1 = 0 →
    wp_X8_partsOf_numbers_42 post x1 x3 (0 : Int32) σ)) ∧
    (¬ x1 ≤ (121212 : Int32) →
    post (-1 : Int32) σ))
set_option maxHeartbeats 4000000 in
set_option maxRecDepth 100000 in
theorem c_X8_partsOf_numbers (l : Launch) (D : va_G) (cy : Nat → ClassId) (ad : Nat → Nat) (σ : Sg) (x1 : Int32) (x3 : Int32) (post : Int32 → Sg → Prop) (h : wp_X8_partsOf_numbers x1 x3 σ post) : Ct l yX8_partsOf wsX8_partsOf rm_X8_partsOf_numbers D cy [.ref (ad 0), .int x1, .ref (ad 8), .int x3] (mdW cy ad σ) 0 0 (Ri D (mdU cy ad) (fun r u => post r u)) := by
  refine Ct.of (cc := cX8_partsOf) (maxL := 8) (rt := (some .int)) (by decide) rfl (Nat.le_of_ble_eq_true rfl) ?_
  intro p e s m below meth c A C0 _ H locs ls hw hl
  obtain ⟨⟨hx, hb, hml, hown, hts⟩, hr, hlocks, hkx, hA⟩ := id C0
  have hl : lv_has ls 8 [(0, .ref (ad 0)), (1, .int x1), (2, .ref (ad 8)), (3, .int x3)] := hl
  unfold wp_X8_partsOf_numbers at h
  refine lv_iload_n hx hb dX8_partsOf_0 rfl (lv_at hl 1 rfl) ?_
  refine lv_if_lt (tgt := 10) hx hb dX8_partsOf_1 (by decide) (fun c_1 => ?_) (fun c_1 => ?_)
  · replace h := h.1 c_1
    refine lv_iconst (v := -1) hx hb dX8_partsOf_10 (by decide) ?_
    exact end_i (w1 := (mdU cy ad)) (u := σ) C0 hw h dX8_partsOf_11
  · replace h := h.2 c_1
    refine lv_iload_n hx hb dX8_partsOf_4 rfl (lv_at hl 1 rfl) ?_
    refine lv_ldc hx hb hown (hts _ (List.mem_of_getElem? (i := 1) rfl)) dX8_partsOf_5 ?_
    refine lv_icmp_le (tgt := 12) hx hb dX8_partsOf_7 (by decide) (fun c_2 => ?_) (fun c_2 => ?_)
    · replace h := h.1 c_2
      refine lv_iload_n hx hb dX8_partsOf_12 rfl (lv_at hl 1 rfl) ?_
      refine lv_if_ne (tgt := 20) hx hb dX8_partsOf_13 (by decide) (fun c_3 => ?_) (fun c_3 => ?_)
      · replace h := h.1 c_3
        refine lv_iload_n hx hb dX8_partsOf_20 rfl (lv_at hl 1 rfl) ?_
        refine lv_bipush (v := 100) hx hb dX8_partsOf_21 (by decide) ?_
        refine lv_icmp_ge (tgt := 30) hx hb dX8_partsOf_23 (by decide) (fun c_4 => ?_) (fun c_4 => ?_)
        · replace h := h.1 c_4
          refine lv_iload_n hx hb dX8_partsOf_30 rfl (lv_at hl 1 rfl) ?_
          refine lv_sipush (v := 10000) hx hb dX8_partsOf_31 (by decide) ?_
          refine lv_icmp_ge (tgt := 41) hx hb dX8_partsOf_34 (by decide) (fun c_5 => ?_) (fun c_5 => ?_)
          · replace h := h.1 c_5
            refine lv_iconst (v := 3) hx hb dX8_partsOf_41 (by decide) ?_
            exact w_X8_partsOf_numbers_42 C0 _ _ _ _ h _ _ _ hw (lv_sub hl [1, 2, 3] rfl)
          · replace h := h.2 c_5
            refine lv_iconst (v := 2) hx hb dX8_partsOf_37 (by decide) ?_
            refine lv_goto (tgt := 42) hx hb dX8_partsOf_38 (by decide) ?_
            exact w_X8_partsOf_numbers_42 C0 _ _ _ _ h _ _ _ hw (lv_sub hl [1, 2, 3] rfl)
        · replace h := h.2 c_4
          refine lv_iconst (v := 1) hx hb dX8_partsOf_26 (by decide) ?_
          refine lv_goto (tgt := 42) hx hb dX8_partsOf_27 (by decide) ?_
          exact w_X8_partsOf_numbers_42 C0 _ _ _ _ h _ _ _ hw (lv_sub hl [1, 2, 3] rfl)
      · replace h := h.2 c_3
        refine lv_iconst (v := 0) hx hb dX8_partsOf_16 (by decide) ?_
        refine lv_goto (tgt := 42) hx hb dX8_partsOf_17 (by decide) ?_
        exact w_X8_partsOf_numbers_42 C0 _ _ _ _ h _ _ _ hw (lv_sub hl [1, 2, 3] rfl)
    · replace h := h.2 c_2
      refine lv_iconst (v := -1) hx hb dX8_partsOf_10 (by decide) ?_
      exact end_i (w1 := (mdU cy ad)) (u := σ) C0 hw h dX8_partsOf_11
end
theorem hd_X8_layWords : yX8_layWords.cls ≠ "java/lang/invoke/MethodHandle" ∧ yX8_layWords.cls ≠ "java/lang/invoke/VarHandle" ∧ (parseMethodDescriptor yX8_layWords.desc).map (fun d => d.parameters.length) = some 4 := by decide +kernel
section
variable {p : Program} {l : Launch} {e : Env} {s : State} {m : MethodId} {args : Array Value} {below : List Frame} {meth : Method} {c : Code} {D : va_G} {cy : Nat → ClassId} {A : Nat → Prop} {ad : Nat → Nat}
abbrev rm_X8_layWords_words : Room := { frames := 0, cells := 0, slots := 0, locals := 0 }
abbrev G_X8_layWords_words (p : Program) (l : Launch) (e : Env) (s : State) (m : MethodId) (args : Array Value) (below : List Frame) (meth : Method) (c : Code) (D : va_G) (A : Nat → Prop) (cy : Nat → ClassId) (ad : Nat → Nat) (post : Sg → Prop) : va_W → Nat → List (Nat × Value) → Nat → List Value → Prop := Gw p l e rm_X8_layWords_words s m args below meth c D A (MQ below ((Rv D (mdU cy ad) (fun u => post u)) A) args s 0 0 A)
def wp_X8_layWords_words_3 (post : Sg → Prop) : Nat → Int32 → Int32 → Int32 → Int32 → Sg → Prop
  | 0, _, _, _, _, _ => False
  | n + 1, x0, x1, x3, x4, σ =>
    ((4 : Int32) ≤ x4 →
    post σ) ∧
    (¬ (4 : Int32) ≤ x4 →
    vp_in (x3 + x4) 160 ∧
    ∀ σ_3 : Sg, σ_3 = va_up σ 14 (upd (σ 14) (x3 + x4).toNatClampNeg (((x0.toUInt32 >>> (((24 : Int32) - ((8 : Int32) * x4)).toUInt32 &&& Int32.toUInt32 31)).toInt32) &&& (255 : Int32))) →
    vp_in ((x3 + (4 : Int32)) + x4) 160 ∧
    ∀ σ_5 : Sg, σ_5 = va_up σ_3 14 (upd (σ_3 14) ((x3 + (4 : Int32)) + x4).toNatClampNeg (((x1.toUInt32 >>> (((24 : Int32) - ((8 : Int32) * x4)).toUInt32 &&& Int32.toUInt32 31)).toInt32) &&& (255 : Int32))) →
    wp_X8_layWords_words_3 post n x0 x1 x3 (x4 + (1 : Int32)) σ_5)
set_option maxHeartbeats 4000000 in
set_option maxRecDepth 100000 in
theorem w_X8_layWords_words_3 (C0 : Mc p m c meth cX8_layWords 5 s args wsX8_layWords RX8 none D cy A) {post : Sg → Prop} : ∀ (n : Nat) (x0 : Int32) (x1 : Int32) (x3 : Int32) (x4 : Int32) (σ : Sg), wp_X8_layWords_words_3 post n x0 x1 x3 x4 σ → G_X8_layWords_words p l e s m args below meth c D A cy ad post (mdW cy ad σ) 5 [(0, .int x0), (1, .int x1), (2, .ref (ad 6)), (3, .int x3), (4, .int x4)] 3 [] := by
  obtain ⟨⟨hx, hb, hml, hown, hts⟩, hr, hlocks, hkx, hA⟩ := id C0
  intro n
  induction n with
  | zero => intro x0 x1 x3 x4 σ h; exact False.elim h
  | succ n ih =>
    intro x0 x1 x3 x4 σ h H locs ls hw hl
    unfold wp_X8_layWords_words_3 at h
    refine lv_iload hx hb dX8_layWords_3 (lv_at hl 4 rfl) ?_
    refine lv_iconst (v := 4) hx hb dX8_layWords_5 (by decide) ?_
    refine lv_icmp_ge (tgt := 57) hx hb dX8_layWords_6 (by decide) (fun c_1 => ?_) (fun c_1 => ?_)
    · replace h := h.1 c_1
      exact end_v (w1 := (mdU cy ad)) (u := σ) C0 hw h dX8_layWords_57
    · replace h := h.2 c_1
      refine lv_aload_n hx hb dX8_layWords_9 rfl (lv_at hl 2 rfl) ?_
      refine lv_iload_n hx hb dX8_layWords_10 rfl (lv_at hl 3 rfl) ?_
      refine lv_iload hx hb dX8_layWords_11 (lv_at hl 4 rfl) ?_
      refine lv_iadd hx hb dX8_layWords_13 ?_
      refine lv_iload_n hx hb dX8_layWords_14 rfl (lv_at hl 0 rfl) ?_
      refine lv_bipush (v := 24) hx hb dX8_layWords_15 (by decide) ?_
      refine lv_bipush (v := 8) hx hb dX8_layWords_17 (by decide) ?_
      refine lv_iload hx hb dX8_layWords_19 (lv_at hl 4 rfl) ?_
      refine lv_imul hx hb dX8_layWords_21 ?_
      refine lv_isub hx hb dX8_layWords_22 ?_
      refine lv_iushr hx hb dX8_layWords_23 rfl ?_
      refine lv_sipush (v := 255) hx hb dX8_layWords_24 (by decide) ?_
      refine lv_iand hx hb dX8_layWords_27 ?_
      obtain ⟨b_2, h⟩ := h
      refine ms_m_words hx hb hkx hw b_2 dX8_layWords_28 (fun σ_3 eσ_3 H locs hw => ?_)
      replace h := h σ_3 eσ_3
      refine lv_aload_n hx hb dX8_layWords_29 rfl (lv_at hl 2 rfl) ?_
      refine lv_iload_n hx hb dX8_layWords_30 rfl (lv_at hl 3 rfl) ?_
      refine lv_iconst (v := 4) hx hb dX8_layWords_31 (by decide) ?_
      refine lv_iadd hx hb dX8_layWords_32 ?_
      refine lv_iload hx hb dX8_layWords_33 (lv_at hl 4 rfl) ?_
      refine lv_iadd hx hb dX8_layWords_35 ?_
      refine lv_iload_n hx hb dX8_layWords_36 rfl (lv_at hl 1 rfl) ?_
      refine lv_bipush (v := 24) hx hb dX8_layWords_37 (by decide) ?_
      refine lv_bipush (v := 8) hx hb dX8_layWords_39 (by decide) ?_
      refine lv_iload hx hb dX8_layWords_41 (lv_at hl 4 rfl) ?_
      refine lv_imul hx hb dX8_layWords_43 ?_
      refine lv_isub hx hb dX8_layWords_44 ?_
      refine lv_iushr hx hb dX8_layWords_45 rfl ?_
      refine lv_sipush (v := 255) hx hb dX8_layWords_46 (by decide) ?_
      refine lv_iand hx hb dX8_layWords_49 ?_
      obtain ⟨b_4, h⟩ := h
      refine ms_m_words hx hb hkx hw b_4 dX8_layWords_50 (fun σ_5 eσ_5 H locs hw => ?_)
      replace h := h σ_5 eσ_5
      refine lv_iinc (v := x4 + (1 : Int32)) (lv' := [(4, .int (x4 + (1 : Int32))), (0, .int x0), (1, .int x1), (2, .ref (ad 6)), (3, .int x3)]) hx hb dX8_layWords_51 hl (k := 4) rfl rfl (by decide) rfl (fun ls hl => ?_)
      refine lv_goto (tgt := 3) hx hb dX8_layWords_54 (by decide) ?_
      exact ih _ _ _ _ _ h _ _ _ hw (lv_sub hl [1, 2, 3, 4, 0] rfl)
def wp_X8_layWords_words (x0 : Int32) (x1 : Int32) (x3 : Int32) (σ : Sg) (post : Sg → Prop) : Prop :=
    ∃ fu, wp_X8_layWords_words_3 post fu x0 x1 x3 (0 : Int32) σ
set_option maxHeartbeats 4000000 in
set_option maxRecDepth 100000 in
theorem c_X8_layWords_words (l : Launch) (D : va_G) (cy : Nat → ClassId) (ad : Nat → Nat) (σ : Sg) (x0 : Int32) (x1 : Int32) (x3 : Int32) (post : Sg → Prop) (h : wp_X8_layWords_words x0 x1 x3 σ post) : Ct l yX8_layWords wsX8_layWords rm_X8_layWords_words D cy [.int x0, .int x1, .ref (ad 6), .int x3] (mdW cy ad σ) 0 0 (Rv D (mdU cy ad) (fun u => post u)) := by
  refine Ct.of (cc := cX8_layWords) (maxL := 5) (rt := none) (by decide) rfl (Nat.le_of_ble_eq_true rfl) ?_
  intro p e s m below meth c A C0 _ H locs ls hw hl
  obtain ⟨⟨hx, hb, hml, hown, hts⟩, hr, hlocks, hkx, hA⟩ := id C0
  have hl : lv_has ls 5 [(0, .int x0), (1, .int x1), (2, .ref (ad 6)), (3, .int x3)] := hl
  unfold wp_X8_layWords_words at h
  refine lv_iconst (v := 0) hx hb dX8_layWords_0 (by decide) ?_
  refine lv_istore (lv' := [(4, .int (0 : Int32)), (0, .int x0), (1, .int x1), (2, .ref (ad 6)), (3, .int x3)]) hx hb dX8_layWords_1 hl (by decide) rfl (fun ls hl => ?_)
  obtain ⟨n_1, h⟩ := h
  exact w_X8_layWords_words_3 C0 n_1 _ _ _ _ _ h _ _ _ hw (lv_sub hl [1, 2, 3, 4, 0] rfl)
end
section
variable {p : Program} {l : Launch} {e : Env} {s : State} {m : MethodId} {args : Array Value} {below : List Frame} {meth : Method} {c : Code} {D : va_G} {cy : Nat → ClassId} {A : Nat → Prop} {ad : Nat → Nat}
abbrev rm_X8_layWords_entryWords : Room := { frames := 0, cells := 0, slots := 0, locals := 0 }
abbrev G_X8_layWords_entryWords (p : Program) (l : Launch) (e : Env) (s : State) (m : MethodId) (args : Array Value) (below : List Frame) (meth : Method) (c : Code) (D : va_G) (A : Nat → Prop) (cy : Nat → ClassId) (ad : Nat → Nat) (post : Sg → Prop) : va_W → Nat → List (Nat × Value) → Nat → List Value → Prop := Gw p l e rm_X8_layWords_entryWords s m args below meth c D A (MQ below ((Rv D (mdU cy ad) (fun u => post u)) A) args s 0 0 A)
def wp_X8_layWords_entryWords_3 (post : Sg → Prop) : Nat → Int32 → Int32 → Int32 → Int32 → Sg → Prop
  | 0, _, _, _, _, _ => False
  | n + 1, x0, x1, x3, x4, σ =>
    ((4 : Int32) ≤ x4 →
    post σ) ∧
    (¬ (4 : Int32) ≤ x4 →
    vp_in (x3 + x4) 96 ∧
    ∀ σ_3 : Sg, σ_3 = va_up σ 21 (upd (σ 21) (x3 + x4).toNatClampNeg (((x0.toUInt32 >>> (((24 : Int32) - ((8 : Int32) * x4)).toUInt32 &&& Int32.toUInt32 31)).toInt32) &&& (255 : Int32))) →
    vp_in ((x3 + (4 : Int32)) + x4) 96 ∧
    ∀ σ_5 : Sg, σ_5 = va_up σ_3 21 (upd (σ_3 21) ((x3 + (4 : Int32)) + x4).toNatClampNeg (((x1.toUInt32 >>> (((24 : Int32) - ((8 : Int32) * x4)).toUInt32 &&& Int32.toUInt32 31)).toInt32) &&& (255 : Int32))) →
    wp_X8_layWords_entryWords_3 post n x0 x1 x3 (x4 + (1 : Int32)) σ_5)
set_option maxHeartbeats 4000000 in
set_option maxRecDepth 100000 in
theorem w_X8_layWords_entryWords_3 (C0 : Mc p m c meth cX8_layWords 5 s args wsX8_layWords RX8 none D cy A) {post : Sg → Prop} : ∀ (n : Nat) (x0 : Int32) (x1 : Int32) (x3 : Int32) (x4 : Int32) (σ : Sg), wp_X8_layWords_entryWords_3 post n x0 x1 x3 x4 σ → G_X8_layWords_entryWords p l e s m args below meth c D A cy ad post (mdW cy ad σ) 5 [(0, .int x0), (1, .int x1), (2, .ref (ad 13)), (3, .int x3), (4, .int x4)] 3 [] := by
  obtain ⟨⟨hx, hb, hml, hown, hts⟩, hr, hlocks, hkx, hA⟩ := id C0
  intro n
  induction n with
  | zero => intro x0 x1 x3 x4 σ h; exact False.elim h
  | succ n ih =>
    intro x0 x1 x3 x4 σ h H locs ls hw hl
    unfold wp_X8_layWords_entryWords_3 at h
    refine lv_iload hx hb dX8_layWords_3 (lv_at hl 4 rfl) ?_
    refine lv_iconst (v := 4) hx hb dX8_layWords_5 (by decide) ?_
    refine lv_icmp_ge (tgt := 57) hx hb dX8_layWords_6 (by decide) (fun c_1 => ?_) (fun c_1 => ?_)
    · replace h := h.1 c_1
      exact end_v (w1 := (mdU cy ad)) (u := σ) C0 hw h dX8_layWords_57
    · replace h := h.2 c_1
      refine lv_aload_n hx hb dX8_layWords_9 rfl (lv_at hl 2 rfl) ?_
      refine lv_iload_n hx hb dX8_layWords_10 rfl (lv_at hl 3 rfl) ?_
      refine lv_iload hx hb dX8_layWords_11 (lv_at hl 4 rfl) ?_
      refine lv_iadd hx hb dX8_layWords_13 ?_
      refine lv_iload_n hx hb dX8_layWords_14 rfl (lv_at hl 0 rfl) ?_
      refine lv_bipush (v := 24) hx hb dX8_layWords_15 (by decide) ?_
      refine lv_bipush (v := 8) hx hb dX8_layWords_17 (by decide) ?_
      refine lv_iload hx hb dX8_layWords_19 (lv_at hl 4 rfl) ?_
      refine lv_imul hx hb dX8_layWords_21 ?_
      refine lv_isub hx hb dX8_layWords_22 ?_
      refine lv_iushr hx hb dX8_layWords_23 rfl ?_
      refine lv_sipush (v := 255) hx hb dX8_layWords_24 (by decide) ?_
      refine lv_iand hx hb dX8_layWords_27 ?_
      obtain ⟨b_2, h⟩ := h
      refine ms_m_entryWords hx hb hkx hw b_2 dX8_layWords_28 (fun σ_3 eσ_3 H locs hw => ?_)
      replace h := h σ_3 eσ_3
      refine lv_aload_n hx hb dX8_layWords_29 rfl (lv_at hl 2 rfl) ?_
      refine lv_iload_n hx hb dX8_layWords_30 rfl (lv_at hl 3 rfl) ?_
      refine lv_iconst (v := 4) hx hb dX8_layWords_31 (by decide) ?_
      refine lv_iadd hx hb dX8_layWords_32 ?_
      refine lv_iload hx hb dX8_layWords_33 (lv_at hl 4 rfl) ?_
      refine lv_iadd hx hb dX8_layWords_35 ?_
      refine lv_iload_n hx hb dX8_layWords_36 rfl (lv_at hl 1 rfl) ?_
      refine lv_bipush (v := 24) hx hb dX8_layWords_37 (by decide) ?_
      refine lv_bipush (v := 8) hx hb dX8_layWords_39 (by decide) ?_
      refine lv_iload hx hb dX8_layWords_41 (lv_at hl 4 rfl) ?_
      refine lv_imul hx hb dX8_layWords_43 ?_
      refine lv_isub hx hb dX8_layWords_44 ?_
      refine lv_iushr hx hb dX8_layWords_45 rfl ?_
      refine lv_sipush (v := 255) hx hb dX8_layWords_46 (by decide) ?_
      refine lv_iand hx hb dX8_layWords_49 ?_
      obtain ⟨b_4, h⟩ := h
      refine ms_m_entryWords hx hb hkx hw b_4 dX8_layWords_50 (fun σ_5 eσ_5 H locs hw => ?_)
      replace h := h σ_5 eσ_5
      refine lv_iinc (v := x4 + (1 : Int32)) (lv' := [(4, .int (x4 + (1 : Int32))), (0, .int x0), (1, .int x1), (2, .ref (ad 13)), (3, .int x3)]) hx hb dX8_layWords_51 hl (k := 4) rfl rfl (by decide) rfl (fun ls hl => ?_)
      refine lv_goto (tgt := 3) hx hb dX8_layWords_54 (by decide) ?_
      exact ih _ _ _ _ _ h _ _ _ hw (lv_sub hl [1, 2, 3, 4, 0] rfl)
def wp_X8_layWords_entryWords (x0 : Int32) (x1 : Int32) (x3 : Int32) (σ : Sg) (post : Sg → Prop) : Prop :=
    ∃ fu, wp_X8_layWords_entryWords_3 post fu x0 x1 x3 (0 : Int32) σ
set_option maxHeartbeats 4000000 in
set_option maxRecDepth 100000 in
theorem c_X8_layWords_entryWords (l : Launch) (D : va_G) (cy : Nat → ClassId) (ad : Nat → Nat) (σ : Sg) (x0 : Int32) (x1 : Int32) (x3 : Int32) (post : Sg → Prop) (h : wp_X8_layWords_entryWords x0 x1 x3 σ post) : Ct l yX8_layWords wsX8_layWords rm_X8_layWords_entryWords D cy [.int x0, .int x1, .ref (ad 13), .int x3] (mdW cy ad σ) 0 0 (Rv D (mdU cy ad) (fun u => post u)) := by
  refine Ct.of (cc := cX8_layWords) (maxL := 5) (rt := none) (by decide) rfl (Nat.le_of_ble_eq_true rfl) ?_
  intro p e s m below meth c A C0 _ H locs ls hw hl
  obtain ⟨⟨hx, hb, hml, hown, hts⟩, hr, hlocks, hkx, hA⟩ := id C0
  have hl : lv_has ls 5 [(0, .int x0), (1, .int x1), (2, .ref (ad 13)), (3, .int x3)] := hl
  unfold wp_X8_layWords_entryWords at h
  refine lv_iconst (v := 0) hx hb dX8_layWords_0 (by decide) ?_
  refine lv_istore (lv' := [(4, .int (0 : Int32)), (0, .int x0), (1, .int x1), (2, .ref (ad 13)), (3, .int x3)]) hx hb dX8_layWords_1 hl (by decide) rfl (fun ls hl => ?_)
  obtain ⟨n_1, h⟩ := h
  exact w_X8_layWords_entryWords_3 C0 n_1 _ _ _ _ _ h _ _ _ hw (lv_sub hl [1, 2, 3, 4, 0] rfl)
end
theorem hd_X8_line : yX8_line.cls = RX8 ∧ yX8_line.cls ≠ "java/lang/invoke/MethodHandle" ∧ yX8_line.cls ≠ "java/lang/invoke/VarHandle" ∧ (parseMethodDescriptor yX8_line.desc).map (fun d => d.parameters.length) = some 7 := by decide +kernel
section
variable {p : Program} {l : Launch} {e : Env} {s : State} {m : MethodId} {args : Array Value} {below : List Frame} {meth : Method} {c : Code} {D : va_G} {cy : Nat → ClassId} {A : Nat → Prop} {ad : Nat → Nat}
abbrev rm_X8_line : Room := { frames := 2, cells := 0, slots := 0, locals := 49 }
theorem inw_X8_line_X8 : ∀ w ∈ u_ws RX8 TX8 35, w ∈ wsX8_line := fun _ h => List.mem_cons_of_mem _ (List.mem_append_right _ h)
abbrev G_X8_line (p : Program) (l : Launch) (e : Env) (s : State) (m : MethodId) (args : Array Value) (below : List Frame) (meth : Method) (c : Code) (D : va_G) (A : Nat → Prop) (cy : Nat → ClassId) (ad : Nat → Nat) (post : Int32 → Sg → Prop) : va_W → Nat → List (Nat × Value) → Nat → List Value → Prop := Gw p l e rm_X8_line s m args below meth c D A (MQ below ((Ri D (mdU cy ad) (fun r u => post r u)) A) args s 0 0 A)
def wp_X8_line_94 (post : Int32 → Sg → Prop) (x1 : Int32) (x2 : Int32) (x3 : Int32) (x4 : Int32) (x5 : Int32) (x6 : Int32) (x7 : Int32) (σ : Sg) : Prop :=
    vp_in (σ 1 0) 20 ∧
    ∀ σ_2 : Sg, σ_2 = va_up σ 10 (upd (σ 10) (σ 1 0).toNatClampNeg x1) →
    vp_in (σ_2 1 0) 20 ∧
    ∀ σ_4 : Sg, σ_4 = va_up σ_2 11 (upd (σ_2 11) (σ_2 1 0).toNatClampNeg x2) →
    vp_in (σ_4 1 0) 20 ∧
    ∀ σ_6 : Sg, σ_6 = va_up σ_4 12 (upd (σ_4 12) (σ_4 1 0).toNatClampNeg x3) →
    vp_in (σ_6 1 0) 20 ∧
    bz x4 ∧
    ∀ σ_9 : Sg, σ_9 = va_up σ_6 13 (upd (σ_6 13) (σ_6 1 0).toNatClampNeg x4) →
    wp_X8_layWords_words x5 x6 ((8 : Int32) * (σ_9 1 0)) σ_9 (fun σ_10 =>
    wp_X8_partsOf_numbers x7 ((3 : Int32) * (σ_10 1 0)) σ_10 (fun r_11 σ_12 =>
    vp_in (σ_10 1 0) 20 ∧
    ∀ σ_14 : Sg, σ_14 = va_up σ_12 15 (upd (σ_12 15) (σ_10 1 0).toNatClampNeg r_11) →
    ∀ σ_15 : Sg, σ_15 = va_up σ_14 1 (fun _ => (σ_14 1 0) + (1 : Int32)) →
    ∀ σ_16 : Sg, σ_16 = va_up σ_15 4 (fun _ => (0 : Int32)) →
    post ((σ_16 1 0) - (1 : Int32)) σ_16))
set_option maxHeartbeats 4000000 in
set_option maxRecDepth 100000 in
theorem w_X8_line_94 (C0 : Mc p m c meth cX8_line 8 s args wsX8_line RX8 (some .int) D cy A) {post : Int32 → Sg → Prop} : ∀ (x1 : Int32) (x2 : Int32) (x3 : Int32) (x4 : Int32) (x5 : Int32) (x6 : Int32) (x7 : Int32) (σ : Sg), wp_X8_line_94 post x1 x2 x3 x4 x5 x6 x7 σ → G_X8_line p l e s m args below meth c D A cy ad post (mdW cy ad σ) 8 [(0, .ref (ad 0)), (1, .int x1), (2, .int x2), (3, .int x3), (4, .int x4), (5, .int x5), (6, .int x6), (7, .int x7)] 94 [] := by
  obtain ⟨⟨hx, hb, hml, hown, hts⟩, hr, hlocks, hkx, hA⟩ := id C0
  intro x1 x2 x3 x4 x5 x6 x7 σ h H locs ls hw hl
  unfold wp_X8_line_94 at h
  refine lv_aload_n hx hb dX8_line_94 rfl (lv_at hl 0 rfl) ?_
  refine mg_md_page hx hb hts inw_X8_line_X8 hown hkx hw (hts _ (List.mem_of_getElem? (i := 4) rfl)) dX8_line_95 ?_
  refine lv_aload_n hx hb dX8_line_98 rfl (lv_at hl 0 rfl) ?_
  refine mg_md_lines hx hb hts inw_X8_line_X8 hown hkx hw (hts _ (List.mem_of_getElem? (i := 3) rfl)) dX8_line_99 ?_
  refine lv_iload_n hx hb dX8_line_102 rfl (lv_at hl 1 rfl) ?_
  obtain ⟨b_1, h⟩ := h
  refine ms_m_page hx hb hkx hw b_1 dX8_line_103 (fun σ_2 eσ_2 H locs hw => ?_)
  replace h := h σ_2 eσ_2
  refine lv_aload_n hx hb dX8_line_104 rfl (lv_at hl 0 rfl) ?_
  refine mg_md_size hx hb hts inw_X8_line_X8 hown hkx hw (hts _ (List.mem_of_getElem? (i := 5) rfl)) dX8_line_105 ?_
  refine lv_aload_n hx hb dX8_line_108 rfl (lv_at hl 0 rfl) ?_
  refine mg_md_lines hx hb hts inw_X8_line_X8 hown hkx hw (hts _ (List.mem_of_getElem? (i := 3) rfl)) dX8_line_109 ?_
  refine lv_iload_n hx hb dX8_line_112 rfl (lv_at hl 2 rfl) ?_
  obtain ⟨b_3, h⟩ := h
  refine ms_m_size hx hb hkx hw b_3 dX8_line_113 (fun σ_4 eσ_4 H locs hw => ?_)
  replace h := h σ_4 eσ_4
  refine lv_aload_n hx hb dX8_line_114 rfl (lv_at hl 0 rfl) ?_
  refine mg_md_blank hx hb hts inw_X8_line_X8 hown hkx hw (hts _ (List.mem_of_getElem? (i := 6) rfl)) dX8_line_115 ?_
  refine lv_aload_n hx hb dX8_line_118 rfl (lv_at hl 0 rfl) ?_
  refine mg_md_lines hx hb hts inw_X8_line_X8 hown hkx hw (hts _ (List.mem_of_getElem? (i := 3) rfl)) dX8_line_119 ?_
  refine lv_iload_n hx hb dX8_line_122 rfl (lv_at hl 3 rfl) ?_
  obtain ⟨b_5, h⟩ := h
  refine ms_m_blank hx hb hkx hw b_5 dX8_line_123 (fun σ_6 eσ_6 H locs hw => ?_)
  replace h := h σ_6 eσ_6
  refine lv_aload_n hx hb dX8_line_124 rfl (lv_at hl 0 rfl) ?_
  refine mg_md_isCentred hx hb hts inw_X8_line_X8 hown hkx hw (hts _ (List.mem_of_getElem? (i := 7) rfl)) dX8_line_125 ?_
  refine lv_aload_n hx hb dX8_line_128 rfl (lv_at hl 0 rfl) ?_
  refine mg_md_lines hx hb hts inw_X8_line_X8 hown hkx hw (hts _ (List.mem_of_getElem? (i := 3) rfl)) dX8_line_129 ?_
  refine lv_iload hx hb dX8_line_132 (lv_at hl 4 rfl) ?_
  obtain ⟨b_7, h⟩ := h
  obtain ⟨z_8, h⟩ := h
  refine ms_m_isCentred hx hb hkx hw b_7 z_8 dX8_line_134 (fun σ_9 eσ_9 H locs hw => ?_)
  replace h := h σ_9 eσ_9
  refine lv_iload hx hb dX8_line_135 (lv_at hl 5 rfl) ?_
  refine lv_iload hx hb dX8_line_137 (lv_at hl 6 rfl) ?_
  refine lv_aload_n hx hb dX8_line_139 rfl (lv_at hl 0 rfl) ?_
  refine mg_md_words hx hb hts inw_X8_line_X8 hown hkx hw (hts _ (List.mem_of_getElem? (i := 8) rfl)) dX8_line_140 ?_
  refine lv_bipush (v := 8) hx hb dX8_line_143 (by decide) ?_
  refine lv_aload_n hx hb dX8_line_145 rfl (lv_at hl 0 rfl) ?_
  refine mg_md_lines hx hb hts inw_X8_line_X8 hown hkx hw (hts _ (List.mem_of_getElem? (i := 3) rfl)) dX8_line_146 ?_
  refine lv_imul hx hb dX8_line_149 ?_
  refine md_Sv (As := [.int x5, .int x6, .ref (ad 6), .int ((8 : Int32) * (σ_9 1 0))]) ⟨hx, hb, hml, hown, hts⟩ hkx hw hA (c_X8_layWords_words l D cy ad σ_9 x5 x6 ((8 : Int32) * (σ_9 1 0)) _ h) (va_cwS 4 hts gX8_line_X8_layWords rfl rfl rfl hd_X8_layWords ⟨Nat.le_of_ble_eq_true rfl, Nat.le_of_ble_eq_true rfl⟩) rfl hl.1 rfl (Nat.le_of_ble_eq_true rfl) dX8_line_150 ⟨Nat.zero_le _, Nat.zero_le _⟩ (fun σ_10 H locs h hw => ?_)
  refine lv_aload_n hx hb dX8_line_153 rfl (lv_at hl 0 rfl) ?_
  refine mg_md_parts hx hb hts inw_X8_line_X8 hown hkx hw (hts _ (List.mem_of_getElem? (i := 9) rfl)) dX8_line_154 ?_
  refine lv_aload_n hx hb dX8_line_157 rfl (lv_at hl 0 rfl) ?_
  refine mg_md_lines hx hb hts inw_X8_line_X8 hown hkx hw (hts _ (List.mem_of_getElem? (i := 3) rfl)) dX8_line_158 ?_
  refine lv_aload_n hx hb dX8_line_161 rfl (lv_at hl 0 rfl) ?_
  refine lv_iload hx hb dX8_line_162 (lv_at hl 7 rfl) ?_
  refine lv_aload_n hx hb dX8_line_164 rfl (lv_at hl 0 rfl) ?_
  refine mg_md_numbers hx hb hts inw_X8_line_X8 hown hkx hw (hts _ (List.mem_of_getElem? (i := 10) rfl)) dX8_line_165 ?_
  refine lv_iconst (v := 3) hx hb dX8_line_168 (by decide) ?_
  refine lv_aload_n hx hb dX8_line_169 rfl (lv_at hl 0 rfl) ?_
  refine mg_md_lines hx hb hts inw_X8_line_X8 hown hkx hw (hts _ (List.mem_of_getElem? (i := 3) rfl)) dX8_line_170 ?_
  refine lv_imul hx hb dX8_line_173 ?_
  refine md_Vi (As := [.int x7, .ref (ad 8), .int ((3 : Int32) * (σ_10 1 0))]) ⟨hx, hb, hml, hown, hts⟩ hkx hw hA (c_X8_partsOf_numbers l D cy ad σ_10 x7 ((3 : Int32) * (σ_10 1 0)) _ h) (cwV 3 hts gX8_line_X8_partsOf rfl rfl rfl hd_X8_partsOf ⟨Nat.le_of_ble_eq_true rfl, Nat.le_of_ble_eq_true rfl⟩) 0 8 rfl rfl rfl hl.1 rfl (Nat.le_of_ble_eq_true rfl) dX8_line_174 ⟨Nat.zero_le _, Nat.zero_le _⟩ (fun r_11 σ_12 H locs h hw => ?_)
  obtain ⟨b_13, h⟩ := h
  refine ms_m_parts hx hb hkx hw b_13 dX8_line_177 (fun σ_14 eσ_14 H locs hw => ?_)
  replace h := h σ_14 eσ_14
  refine lv_aload_n hx hb dX8_line_178 rfl (lv_at hl 0 rfl) ?_
  refine lv_dup hx hb dX8_line_179 rfl ?_
  refine mg_md_lines hx hb hts inw_X8_line_X8 hown hkx hw (hts _ (List.mem_of_getElem? (i := 3) rfl)) dX8_line_180 ?_
  refine lv_iconst (v := 1) hx hb dX8_line_183 (by decide) ?_
  refine lv_iadd hx hb dX8_line_184 ?_
  refine mp_md_lines hx hb hts inw_X8_line_X8 hown hkx hw (hts _ (List.mem_of_getElem? (i := 3) rfl)) dX8_line_185 (fun σ_15 eσ_15 H locs hw => ?_)
  replace h := h σ_15 eσ_15
  refine lv_aload_n hx hb dX8_line_188 rfl (lv_at hl 0 rfl) ?_
  refine lv_iconst (v := 0) hx hb dX8_line_189 (by decide) ?_
  refine mp_md_isFound hx hb hts inw_X8_line_X8 hown hkx hw (hts _ (List.mem_of_getElem? (i := 11) rfl)) (Or.inl rfl) dX8_line_190 (fun σ_16 eσ_16 H locs hw => ?_)
  replace h := h σ_16 eσ_16
  refine lv_aload_n hx hb dX8_line_193 rfl (lv_at hl 0 rfl) ?_
  refine mg_md_lines hx hb hts inw_X8_line_X8 hown hkx hw (hts _ (List.mem_of_getElem? (i := 3) rfl)) dX8_line_194 ?_
  refine lv_iconst (v := 1) hx hb dX8_line_197 (by decide) ?_
  refine lv_isub hx hb dX8_line_198 ?_
  exact end_i (w1 := (mdU cy ad)) (u := σ_16) C0 hw h dX8_line_199
def wp_X8_line (x1 : Int32) (x2 : Int32) (x3 : Int32) (x4 : Int32) (x5 : Int32) (x6 : Int32) (x7 : Int32) (σ : Sg) (post : Int32 → Sg → Prop) : Prop :=
    ∀ σ_1 : Sg, σ_1 = va_up σ 3 (fun _ => (0 : Int32)) →
    wp_X8_in x1 (0 : Int32) ((σ_1 0 0) - (1 : Int32)) (fun r_2 =>
    (r_2 = 0 →
    post (-1 : Int32) σ_1) ∧
    (¬ r_2 = 0 →
    wp_X8_in x2 (0 : Int32) (9 : Int32) (fun r_4 =>
    (r_4 = 0 →
    post (-1 : Int32) σ_1) ∧
    (¬ r_4 = 0 →
    wp_X8_in x3 (0 : Int32) (9 : Int32) (fun r_6 =>
    (r_6 = 0 →
    post (-1 : Int32) σ_1) ∧
    (¬ r_6 = 0 →
    wp_X8_areWords x5 x6 (fun r_8 =>
    (r_8 = 0 →
    post (-1 : Int32) σ_1) ∧
    (¬ r_8 = 0 →
    wp_X8_partsOf_null x7 (0 : Int32) σ_1 (fun r_10 σ_11 =>
    (r_10 = (-1 : Int32) →
    post (-1 : Int32) σ_11) ∧
    (¬ r_10 = (-1 : Int32) →
    ((σ_11 1 0) = (20 : Int32) →
    post (-1 : Int32) σ_11) ∧
    (¬ (σ_11 1 0) = (20 : Int32) →
    ((σ_11 1 0) ≤ 0 →
    wp_X8_line_94 post x1 x2 x3 x4 x5 x6 x7 σ_11) ∧
    (¬ (σ_11 1 0) ≤ 0 →
    vp_in ((σ_11 1 0) - (1 : Int32)) 20 ∧
    ((σ_11 10 ((σ_11 1 0) - (1 : Int32)).toNatClampNeg) ≤ x1 →
    wp_X8_line_94 post x1 x2 x3 x4 x5 x6 x7 σ_11) ∧
    (¬ (σ_11 10 ((σ_11 1 0) - (1 : Int32)).toNatClampNeg) ≤ x1 →
    post (-1 : Int32) σ_11)))))))))))))
set_option maxHeartbeats 4000000 in
set_option maxRecDepth 100000 in
theorem c_X8_line (l : Launch) (D : va_G) (cy : Nat → ClassId) (ad : Nat → Nat) (σ : Sg) (x1 : Int32) (x2 : Int32) (x3 : Int32) (x4 : Int32) (x5 : Int32) (x6 : Int32) (x7 : Int32) (post : Int32 → Sg → Prop) (h : wp_X8_line x1 x2 x3 x4 x5 x6 x7 σ post) : Ct l yX8_line wsX8_line rm_X8_line D cy [.ref (ad 0), .int x1, .int x2, .int x3, .int x4, .int x5, .int x6, .int x7] (mdW cy ad σ) 0 0 (Ri D (mdU cy ad) (fun r u => post r u)) := by
  refine Ct.of (cc := cX8_line) (maxL := 8) (rt := (some .int)) (by decide) rfl (Nat.le_of_ble_eq_true rfl) ?_
  intro p e s m below meth c A C0 _ H locs ls hw hl
  obtain ⟨⟨hx, hb, hml, hown, hts⟩, hr, hlocks, hkx, hA⟩ := id C0
  have hl : lv_has ls 8 [(0, .ref (ad 0)), (1, .int x1), (2, .int x2), (3, .int x3), (4, .int x4), (5, .int x5), (6, .int x6), (7, .int x7)] := hl
  unfold wp_X8_line at h
  refine lv_aload_n hx hb dX8_line_0 rfl (lv_at hl 0 rfl) ?_
  refine lv_iconst (v := 0) hx hb dX8_line_1 (by decide) ?_
  refine mp_md_thrown hx hb hts inw_X8_line_X8 hown hkx hw (hts _ (List.mem_of_getElem? (i := 1) rfl)) dX8_line_2 (fun σ_1 eσ_1 H locs hw => ?_)
  replace h := h σ_1 eσ_1
  refine lv_iload_n hx hb dX8_line_5 rfl (lv_at hl 1 rfl) ?_
  refine lv_iconst (v := 0) hx hb dX8_line_6 (by decide) ?_
  refine lv_aload_n hx hb dX8_line_7 rfl (lv_at hl 0 rfl) ?_
  refine mg_md_pages hx hb hts inw_X8_line_X8 hown hkx hw (hts _ (List.mem_of_getElem? (i := 2) rfl)) dX8_line_8 ?_
  refine lv_iconst (v := 1) hx hb dX8_line_11 (by decide) ?_
  refine lv_isub hx hb dX8_line_12 ?_
  refine call_S0i (As := [.int x1, .int (0 : Int32), .int ((σ_1 0 0) - (1 : Int32))]) ⟨hx, hb, hml, hown, hts⟩ hkx hw hA (c_X8_in l D cy x1 (0 : Int32) ((σ_1 0 0) - (1 : Int32)) _ h) (va_cwS 3 hts gX8_line_X8_in rfl rfl rfl hd_X8_in ⟨Nat.le_of_ble_eq_true rfl, Nat.le_of_ble_eq_true rfl⟩) rfl hl.1 rfl (Nat.le_of_ble_eq_true rfl) dX8_line_13 ⟨Nat.zero_le _, Nat.zero_le _⟩ (fun r_2 H locs h hw => ?_)
  refine lv_if_eq (tgt := 92) hx hb dX8_line_16 (by decide) (fun c_3 => ?_) (fun c_3 => ?_)
  · replace h := h.1 c_3
    refine lv_iconst (v := -1) hx hb dX8_line_92 (by decide) ?_
    exact end_i (w1 := (mdU cy ad)) (u := σ_1) C0 hw h dX8_line_93
  · replace h := h.2 c_3
    refine lv_iload_n hx hb dX8_line_19 rfl (lv_at hl 2 rfl) ?_
    refine lv_iconst (v := 0) hx hb dX8_line_20 (by decide) ?_
    refine lv_bipush (v := 9) hx hb dX8_line_21 (by decide) ?_
    refine call_S0i (As := [.int x2, .int (0 : Int32), .int (9 : Int32)]) ⟨hx, hb, hml, hown, hts⟩ hkx hw hA (c_X8_in l D cy x2 (0 : Int32) (9 : Int32) _ h) (va_cwS 3 hts gX8_line_X8_in rfl rfl rfl hd_X8_in ⟨Nat.le_of_ble_eq_true rfl, Nat.le_of_ble_eq_true rfl⟩) rfl hl.1 rfl (Nat.le_of_ble_eq_true rfl) dX8_line_23 ⟨Nat.zero_le _, Nat.zero_le _⟩ (fun r_4 H locs h hw => ?_)
    refine lv_if_eq (tgt := 92) hx hb dX8_line_26 (by decide) (fun c_5 => ?_) (fun c_5 => ?_)
    · replace h := h.1 c_5
      refine lv_iconst (v := -1) hx hb dX8_line_92 (by decide) ?_
      exact end_i (w1 := (mdU cy ad)) (u := σ_1) C0 hw h dX8_line_93
    · replace h := h.2 c_5
      refine lv_iload_n hx hb dX8_line_29 rfl (lv_at hl 3 rfl) ?_
      refine lv_iconst (v := 0) hx hb dX8_line_30 (by decide) ?_
      refine lv_bipush (v := 9) hx hb dX8_line_31 (by decide) ?_
      refine call_S0i (As := [.int x3, .int (0 : Int32), .int (9 : Int32)]) ⟨hx, hb, hml, hown, hts⟩ hkx hw hA (c_X8_in l D cy x3 (0 : Int32) (9 : Int32) _ h) (va_cwS 3 hts gX8_line_X8_in rfl rfl rfl hd_X8_in ⟨Nat.le_of_ble_eq_true rfl, Nat.le_of_ble_eq_true rfl⟩) rfl hl.1 rfl (Nat.le_of_ble_eq_true rfl) dX8_line_33 ⟨Nat.zero_le _, Nat.zero_le _⟩ (fun r_6 H locs h hw => ?_)
      refine lv_if_eq (tgt := 92) hx hb dX8_line_36 (by decide) (fun c_7 => ?_) (fun c_7 => ?_)
      · replace h := h.1 c_7
        refine lv_iconst (v := -1) hx hb dX8_line_92 (by decide) ?_
        exact end_i (w1 := (mdU cy ad)) (u := σ_1) C0 hw h dX8_line_93
      · replace h := h.2 c_7
        refine lv_iload hx hb dX8_line_39 (lv_at hl 5 rfl) ?_
        refine lv_iload hx hb dX8_line_41 (lv_at hl 6 rfl) ?_
        refine call_S0i (As := [.int x5, .int x6]) ⟨hx, hb, hml, hown, hts⟩ hkx hw hA (c_X8_areWords l D cy x5 x6 _ h) (va_cwS 2 hts gX8_line_X8_areWords rfl rfl rfl hd_X8_areWords ⟨Nat.le_of_ble_eq_true rfl, Nat.le_of_ble_eq_true rfl⟩) rfl hl.1 rfl (Nat.le_of_ble_eq_true rfl) dX8_line_43 ⟨Nat.zero_le _, Nat.zero_le _⟩ (fun r_8 H locs h hw => ?_)
        refine lv_if_eq (tgt := 92) hx hb dX8_line_46 (by decide) (fun c_9 => ?_) (fun c_9 => ?_)
        · replace h := h.1 c_9
          refine lv_iconst (v := -1) hx hb dX8_line_92 (by decide) ?_
          exact end_i (w1 := (mdU cy ad)) (u := σ_1) C0 hw h dX8_line_93
        · replace h := h.2 c_9
          refine lv_aload_n hx hb dX8_line_49 rfl (lv_at hl 0 rfl) ?_
          refine lv_iload hx hb dX8_line_50 (lv_at hl 7 rfl) ?_
          refine lv_null hx hb dX8_line_52 ?_
          refine lv_iconst (v := 0) hx hb dX8_line_53 (by decide) ?_
          refine md_Vi (As := [.int x7, .null, .int (0 : Int32)]) ⟨hx, hb, hml, hown, hts⟩ hkx hw hA (c_X8_partsOf_null l D cy ad σ_1 x7 (0 : Int32) _ h) (cwV 3 hts gX8_line_X8_partsOf rfl rfl rfl hd_X8_partsOf ⟨Nat.le_of_ble_eq_true rfl, Nat.le_of_ble_eq_true rfl⟩) 0 8 rfl rfl rfl hl.1 rfl (Nat.le_of_ble_eq_true rfl) dX8_line_54 ⟨Nat.zero_le _, Nat.zero_le _⟩ (fun r_10 σ_11 H locs h hw => ?_)
          refine lv_iconst (v := -1) hx hb dX8_line_57 (by decide) ?_
          refine lv_icmp_eq (tgt := 92) hx hb dX8_line_58 (by decide) (fun c_12 => ?_) (fun c_12 => ?_)
          · replace h := h.1 c_12
            refine lv_iconst (v := -1) hx hb dX8_line_92 (by decide) ?_
            exact end_i (w1 := (mdU cy ad)) (u := σ_11) C0 hw h dX8_line_93
          · replace h := h.2 c_12
            refine lv_aload_n hx hb dX8_line_61 rfl (lv_at hl 0 rfl) ?_
            refine mg_md_lines hx hb hts inw_X8_line_X8 hown hkx hw (hts _ (List.mem_of_getElem? (i := 3) rfl)) dX8_line_62 ?_
            refine lv_bipush (v := 20) hx hb dX8_line_65 (by decide) ?_
            refine lv_icmp_eq (tgt := 92) hx hb dX8_line_67 (by decide) (fun c_13 => ?_) (fun c_13 => ?_)
            · replace h := h.1 c_13
              refine lv_iconst (v := -1) hx hb dX8_line_92 (by decide) ?_
              exact end_i (w1 := (mdU cy ad)) (u := σ_11) C0 hw h dX8_line_93
            · replace h := h.2 c_13
              refine lv_aload_n hx hb dX8_line_70 rfl (lv_at hl 0 rfl) ?_
              refine mg_md_lines hx hb hts inw_X8_line_X8 hown hkx hw (hts _ (List.mem_of_getElem? (i := 3) rfl)) dX8_line_71 ?_
              refine lv_if_le (tgt := 94) hx hb dX8_line_74 (by decide) (fun c_14 => ?_) (fun c_14 => ?_)
              · replace h := h.1 c_14
                exact w_X8_line_94 C0 _ _ _ _ _ _ _ _ h _ _ _ hw (lv_sub hl [0, 1, 2, 3, 4, 5, 6, 7] rfl)
              · replace h := h.2 c_14
                refine lv_iload_n hx hb dX8_line_77 rfl (lv_at hl 1 rfl) ?_
                refine lv_aload_n hx hb dX8_line_78 rfl (lv_at hl 0 rfl) ?_
                refine mg_md_page hx hb hts inw_X8_line_X8 hown hkx hw (hts _ (List.mem_of_getElem? (i := 4) rfl)) dX8_line_79 ?_
                refine lv_aload_n hx hb dX8_line_82 rfl (lv_at hl 0 rfl) ?_
                refine mg_md_lines hx hb hts inw_X8_line_X8 hown hkx hw (hts _ (List.mem_of_getElem? (i := 3) rfl)) dX8_line_83 ?_
                refine lv_iconst (v := 1) hx hb dX8_line_86 (by decide) ?_
                refine lv_isub hx hb dX8_line_87 ?_
                obtain ⟨b_15, h⟩ := h
                refine ma_m_page hx hb hkx hw b_15 dX8_line_88 ?_
                refine lv_icmp_ge (tgt := 94) hx hb dX8_line_89 (by decide) (fun c_16 => ?_) (fun c_16 => ?_)
                · replace h := h.1 c_16
                  exact w_X8_line_94 C0 _ _ _ _ _ _ _ _ h _ _ _ hw (lv_sub hl [0, 1, 2, 3, 4, 5, 6, 7] rfl)
                · replace h := h.2 c_16
                  refine lv_iconst (v := -1) hx hb dX8_line_92 (by decide) ?_
                  exact end_i (w1 := (mdU cy ad)) (u := σ_11) C0 hw h dX8_line_93
end
theorem hd_X8_right : yX8_right.cls = RX8 ∧ yX8_right.cls ≠ "java/lang/invoke/MethodHandle" ∧ yX8_right.cls ≠ "java/lang/invoke/VarHandle" ∧ (parseMethodDescriptor yX8_right.desc).map (fun d => d.parameters.length) = some 3 := by decide +kernel
section
variable {p : Program} {l : Launch} {e : Env} {s : State} {m : MethodId} {args : Array Value} {below : List Frame} {meth : Method} {c : Code} {D : va_G} {cy : Nat → ClassId} {A : Nat → Prop} {ad : Nat → Nat}
abbrev rm_X8_right : Room := { frames := 2, cells := 0, slots := 0, locals := 49 }
theorem inw_X8_right_X8 : ∀ w ∈ u_ws RX8 TX8 35, w ∈ wsX8_right := fun _ h => List.mem_cons_of_mem _ (List.mem_append_right _ h)
def wp_X8_right (x1 : Int32) (x2 : Int32) (x3 : Int32) (σ : Sg) (post : Int32 → Sg → Prop) : Prop :=
    ∀ σ_1 : Sg, σ_1 = va_up σ 3 (fun _ => (0 : Int32)) →
    wp_X8_isLine x1 σ_1 (fun r_2 σ_3 =>
    (r_2 = 0 →
    post (0 : Int32) σ_3) ∧
    (¬ r_2 = 0 →
    wp_X8_in x2 (0 : Int32) (9 : Int32) (fun r_5 =>
    (r_5 = 0 →
    post (0 : Int32) σ_3) ∧
    (¬ r_5 = 0 →
    wp_X8_partsOf_null x3 (0 : Int32) σ_3 (fun r_7 σ_8 =>
    (¬ r_7 = (-1 : Int32) →
    vp_in x1 20 ∧
    ∀ σ_11 : Sg, σ_11 = va_up σ_8 11 (upd (σ_8 11) x1.toNatClampNeg x2) →
    wp_X8_partsOf_numbers x3 ((3 : Int32) * x1) σ_11 (fun r_12 σ_13 =>
    vp_in x1 20 ∧
    ∀ σ_15 : Sg, σ_15 = va_up σ_13 15 (upd (σ_13 15) x1.toNatClampNeg r_12) →
    ∀ σ_16 : Sg, σ_16 = va_up σ_15 4 (fun _ => (0 : Int32)) →
    post (1 : Int32) σ_16)) ∧
    (r_7 = (-1 : Int32) →
    post (0 : Int32) σ_8))))))
set_option maxHeartbeats 4000000 in
set_option maxRecDepth 100000 in
theorem c_X8_right (l : Launch) (D : va_G) (cy : Nat → ClassId) (ad : Nat → Nat) (σ : Sg) (x1 : Int32) (x2 : Int32) (x3 : Int32) (post : Int32 → Sg → Prop) (h : wp_X8_right x1 x2 x3 σ post) : Ct l yX8_right wsX8_right rm_X8_right D cy [.ref (ad 0), .int x1, .int x2, .int x3] (mdW cy ad σ) 0 0 (Ri D (mdU cy ad) (fun r u => post r u)) := by
  refine Ct.of (cc := cX8_right) (maxL := 4) (rt := (some .boolean)) (by decide) rfl (Nat.le_of_ble_eq_true rfl) ?_
  intro p e s m below meth c A C0 _ H locs ls hw hl
  obtain ⟨⟨hx, hb, hml, hown, hts⟩, hr, hlocks, hkx, hA⟩ := id C0
  have hl : lv_has ls 4 [(0, .ref (ad 0)), (1, .int x1), (2, .int x2), (3, .int x3)] := hl
  unfold wp_X8_right at h
  refine lv_aload_n hx hb dX8_right_0 rfl (lv_at hl 0 rfl) ?_
  refine lv_iconst (v := 0) hx hb dX8_right_1 (by decide) ?_
  refine mp_md_thrown hx hb hts inw_X8_right_X8 hown hkx hw (hts _ (List.mem_of_getElem? (i := 1) rfl)) dX8_right_2 (fun σ_1 eσ_1 H locs hw => ?_)
  replace h := h σ_1 eσ_1
  refine lv_aload_n hx hb dX8_right_5 rfl (lv_at hl 0 rfl) ?_
  refine lv_iload_n hx hb dX8_right_6 rfl (lv_at hl 1 rfl) ?_
  refine md_Vi (As := [.int x1]) ⟨hx, hb, hml, hown, hts⟩ hkx hw hA (c_X8_isLine l D cy ad σ_1 x1 _ h) (cwV 1 hts gX8_right_X8_isLine rfl rfl rfl hd_X8_isLine ⟨Nat.le_of_ble_eq_true rfl, Nat.le_of_ble_eq_true rfl⟩) 0 8 rfl rfl rfl hl.1 rfl (Nat.le_of_ble_eq_true rfl) dX8_right_7 ⟨Nat.zero_le _, Nat.zero_le _⟩ (fun r_2 σ_3 H locs h hw => ?_)
  refine lv_if_eq (tgt := 34) hx hb dX8_right_10 (by decide) (fun c_4 => ?_) (fun c_4 => ?_)
  · replace h := h.1 c_4
    refine lv_iconst (v := 0) hx hb dX8_right_34 (by decide) ?_
    exact end_z (w1 := (mdU cy ad)) (u := σ_3) C0 hw (Or.inl rfl) h dX8_right_35
  · replace h := h.2 c_4
    refine lv_iload_n hx hb dX8_right_13 rfl (lv_at hl 2 rfl) ?_
    refine lv_iconst (v := 0) hx hb dX8_right_14 (by decide) ?_
    refine lv_bipush (v := 9) hx hb dX8_right_15 (by decide) ?_
    refine call_S0i (As := [.int x2, .int (0 : Int32), .int (9 : Int32)]) ⟨hx, hb, hml, hown, hts⟩ hkx hw hA (c_X8_in l D cy x2 (0 : Int32) (9 : Int32) _ h) (va_cwS 3 hts gX8_right_X8_in rfl rfl rfl hd_X8_in ⟨Nat.le_of_ble_eq_true rfl, Nat.le_of_ble_eq_true rfl⟩) rfl hl.1 rfl (Nat.le_of_ble_eq_true rfl) dX8_right_17 ⟨Nat.zero_le _, Nat.zero_le _⟩ (fun r_5 H locs h hw => ?_)
    refine lv_if_eq (tgt := 34) hx hb dX8_right_20 (by decide) (fun c_6 => ?_) (fun c_6 => ?_)
    · replace h := h.1 c_6
      refine lv_iconst (v := 0) hx hb dX8_right_34 (by decide) ?_
      exact end_z (w1 := (mdU cy ad)) (u := σ_3) C0 hw (Or.inl rfl) h dX8_right_35
    · replace h := h.2 c_6
      refine lv_aload_n hx hb dX8_right_23 rfl (lv_at hl 0 rfl) ?_
      refine lv_iload_n hx hb dX8_right_24 rfl (lv_at hl 3 rfl) ?_
      refine lv_null hx hb dX8_right_25 ?_
      refine lv_iconst (v := 0) hx hb dX8_right_26 (by decide) ?_
      refine md_Vi (As := [.int x3, .null, .int (0 : Int32)]) ⟨hx, hb, hml, hown, hts⟩ hkx hw hA (c_X8_partsOf_null l D cy ad σ_3 x3 (0 : Int32) _ h) (cwV 3 hts gX8_right_X8_partsOf rfl rfl rfl hd_X8_partsOf ⟨Nat.le_of_ble_eq_true rfl, Nat.le_of_ble_eq_true rfl⟩) 0 8 rfl rfl rfl hl.1 rfl (Nat.le_of_ble_eq_true rfl) dX8_right_27 ⟨Nat.zero_le _, Nat.zero_le _⟩ (fun r_7 σ_8 H locs h hw => ?_)
      refine lv_iconst (v := -1) hx hb dX8_right_30 (by decide) ?_
      refine lv_icmp_ne (tgt := 36) hx hb dX8_right_31 (by decide) (fun c_9 => ?_) (fun c_9 => ?_)
      · replace h := h.1 c_9
        refine lv_aload_n hx hb dX8_right_36 rfl (lv_at hl 0 rfl) ?_
        refine mg_md_size hx hb hts inw_X8_right_X8 hown hkx hw (hts _ (List.mem_of_getElem? (i := 2) rfl)) dX8_right_37 ?_
        refine lv_iload_n hx hb dX8_right_40 rfl (lv_at hl 1 rfl) ?_
        refine lv_iload_n hx hb dX8_right_41 rfl (lv_at hl 2 rfl) ?_
        obtain ⟨b_10, h⟩ := h
        refine ms_m_size hx hb hkx hw b_10 dX8_right_42 (fun σ_11 eσ_11 H locs hw => ?_)
        replace h := h σ_11 eσ_11
        refine lv_aload_n hx hb dX8_right_43 rfl (lv_at hl 0 rfl) ?_
        refine mg_md_parts hx hb hts inw_X8_right_X8 hown hkx hw (hts _ (List.mem_of_getElem? (i := 3) rfl)) dX8_right_44 ?_
        refine lv_iload_n hx hb dX8_right_47 rfl (lv_at hl 1 rfl) ?_
        refine lv_aload_n hx hb dX8_right_48 rfl (lv_at hl 0 rfl) ?_
        refine lv_iload_n hx hb dX8_right_49 rfl (lv_at hl 3 rfl) ?_
        refine lv_aload_n hx hb dX8_right_50 rfl (lv_at hl 0 rfl) ?_
        refine mg_md_numbers hx hb hts inw_X8_right_X8 hown hkx hw (hts _ (List.mem_of_getElem? (i := 4) rfl)) dX8_right_51 ?_
        refine lv_iconst (v := 3) hx hb dX8_right_54 (by decide) ?_
        refine lv_iload_n hx hb dX8_right_55 rfl (lv_at hl 1 rfl) ?_
        refine lv_imul hx hb dX8_right_56 ?_
        refine md_Vi (As := [.int x3, .ref (ad 8), .int ((3 : Int32) * x1)]) ⟨hx, hb, hml, hown, hts⟩ hkx hw hA (c_X8_partsOf_numbers l D cy ad σ_11 x3 ((3 : Int32) * x1) _ h) (cwV 3 hts gX8_right_X8_partsOf rfl rfl rfl hd_X8_partsOf ⟨Nat.le_of_ble_eq_true rfl, Nat.le_of_ble_eq_true rfl⟩) 0 8 rfl rfl rfl hl.1 rfl (Nat.le_of_ble_eq_true rfl) dX8_right_57 ⟨Nat.zero_le _, Nat.zero_le _⟩ (fun r_12 σ_13 H locs h hw => ?_)
        obtain ⟨b_14, h⟩ := h
        refine ms_m_parts hx hb hkx hw b_14 dX8_right_60 (fun σ_15 eσ_15 H locs hw => ?_)
        replace h := h σ_15 eσ_15
        refine lv_aload_n hx hb dX8_right_61 rfl (lv_at hl 0 rfl) ?_
        refine lv_iconst (v := 0) hx hb dX8_right_62 (by decide) ?_
        refine mp_md_isFound hx hb hts inw_X8_right_X8 hown hkx hw (hts _ (List.mem_of_getElem? (i := 5) rfl)) (Or.inl rfl) dX8_right_63 (fun σ_16 eσ_16 H locs hw => ?_)
        replace h := h σ_16 eσ_16
        refine lv_iconst (v := 1) hx hb dX8_right_66 (by decide) ?_
        exact end_z (w1 := (mdU cy ad)) (u := σ_16) C0 hw (Or.inr rfl) h dX8_right_67
      · replace h := h.2 c_9
        refine lv_iconst (v := 0) hx hb dX8_right_34 (by decide) ?_
        exact end_z (w1 := (mdU cy ad)) (u := σ_8) C0 hw (Or.inl rfl) h dX8_right_35
end
theorem hd_X8_drop : yX8_drop.cls = RX8 ∧ yX8_drop.cls ≠ "java/lang/invoke/MethodHandle" ∧ yX8_drop.cls ≠ "java/lang/invoke/VarHandle" ∧ (parseMethodDescriptor yX8_drop.desc).map (fun d => d.parameters.length) = some 0 := by decide +kernel
section
variable {p : Program} {l : Launch} {e : Env} {s : State} {m : MethodId} {args : Array Value} {below : List Frame} {meth : Method} {c : Code} {D : va_G} {cy : Nat → ClassId} {A : Nat → Prop} {ad : Nat → Nat}
abbrev rm_X8_drop : Room := { frames := 0, cells := 0, slots := 0, locals := 0 }
theorem inw_X8_drop_X8 : ∀ w ∈ u_ws RX8 TX8 35, w ∈ wsX8_drop := fun _ h => List.mem_cons_of_mem _ (List.mem_append_right _ h)
def wp_X8_drop (σ : Sg) (post : Int32 → Sg → Prop) : Prop :=
    ∀ σ_1 : Sg, σ_1 = va_up σ 3 (fun _ => (0 : Int32)) →
    (¬ (σ_1 1 0) = 0 →
    ∀ σ_3 : Sg, σ_3 = va_up σ_1 1 (fun _ => (σ_1 1 0) - (1 : Int32)) →
    ∀ σ_4 : Sg, σ_4 = va_up σ_3 4 (fun _ => (0 : Int32)) →
    post (σ_4 1 0) σ_4) ∧
    ((σ_1 1 0) = 0 →
    post (-1 : Int32) σ_1)
set_option maxHeartbeats 4000000 in
set_option maxRecDepth 100000 in
theorem c_X8_drop (l : Launch) (D : va_G) (cy : Nat → ClassId) (ad : Nat → Nat) (σ : Sg) (post : Int32 → Sg → Prop) (h : wp_X8_drop σ post) : Ct l yX8_drop wsX8_drop rm_X8_drop D cy [.ref (ad 0)] (mdW cy ad σ) 0 0 (Ri D (mdU cy ad) (fun r u => post r u)) := by
  refine Ct.of (cc := cX8_drop) (maxL := 1) (rt := (some .int)) (by decide) rfl (Nat.le_of_ble_eq_true rfl) ?_
  intro p e s m below meth c A C0 _ H locs ls hw hl
  obtain ⟨⟨hx, hb, hml, hown, hts⟩, hr, hlocks, hkx, hA⟩ := id C0
  have hl : lv_has ls 1 [(0, .ref (ad 0))] := hl
  unfold wp_X8_drop at h
  refine lv_aload_n hx hb dX8_drop_0 rfl (lv_at hl 0 rfl) ?_
  refine lv_iconst (v := 0) hx hb dX8_drop_1 (by decide) ?_
  refine mp_md_thrown hx hb hts inw_X8_drop_X8 hown hkx hw (hts _ (List.mem_of_getElem? (i := 1) rfl)) dX8_drop_2 (fun σ_1 eσ_1 H locs hw => ?_)
  replace h := h σ_1 eσ_1
  refine lv_aload_n hx hb dX8_drop_5 rfl (lv_at hl 0 rfl) ?_
  refine mg_md_lines hx hb hts inw_X8_drop_X8 hown hkx hw (hts _ (List.mem_of_getElem? (i := 2) rfl)) dX8_drop_6 ?_
  refine lv_if_ne (tgt := 14) hx hb dX8_drop_9 (by decide) (fun c_2 => ?_) (fun c_2 => ?_)
  · replace h := h.1 c_2
    refine lv_aload_n hx hb dX8_drop_14 rfl (lv_at hl 0 rfl) ?_
    refine lv_dup hx hb dX8_drop_15 rfl ?_
    refine mg_md_lines hx hb hts inw_X8_drop_X8 hown hkx hw (hts _ (List.mem_of_getElem? (i := 2) rfl)) dX8_drop_16 ?_
    refine lv_iconst (v := 1) hx hb dX8_drop_19 (by decide) ?_
    refine lv_isub hx hb dX8_drop_20 ?_
    refine mp_md_lines hx hb hts inw_X8_drop_X8 hown hkx hw (hts _ (List.mem_of_getElem? (i := 2) rfl)) dX8_drop_21 (fun σ_3 eσ_3 H locs hw => ?_)
    replace h := h σ_3 eσ_3
    refine lv_aload_n hx hb dX8_drop_24 rfl (lv_at hl 0 rfl) ?_
    refine lv_iconst (v := 0) hx hb dX8_drop_25 (by decide) ?_
    refine mp_md_isFound hx hb hts inw_X8_drop_X8 hown hkx hw (hts _ (List.mem_of_getElem? (i := 3) rfl)) (Or.inl rfl) dX8_drop_26 (fun σ_4 eσ_4 H locs hw => ?_)
    replace h := h σ_4 eσ_4
    refine lv_aload_n hx hb dX8_drop_29 rfl (lv_at hl 0 rfl) ?_
    refine mg_md_lines hx hb hts inw_X8_drop_X8 hown hkx hw (hts _ (List.mem_of_getElem? (i := 2) rfl)) dX8_drop_30 ?_
    exact end_i (w1 := (mdU cy ad)) (u := σ_4) C0 hw h dX8_drop_33
  · replace h := h.2 c_2
    refine lv_iconst (v := -1) hx hb dX8_drop_12 (by decide) ?_
    exact end_i (w1 := (mdU cy ad)) (u := σ_1) C0 hw h dX8_drop_13
end
theorem hd_X8_price : yX8_price.cls = RX8 ∧ yX8_price.cls ≠ "java/lang/invoke/MethodHandle" ∧ yX8_price.cls ≠ "java/lang/invoke/VarHandle" ∧ (parseMethodDescriptor yX8_price.desc).map (fun d => d.parameters.length) = some 2 := by decide +kernel
section
variable {p : Program} {l : Launch} {e : Env} {s : State} {m : MethodId} {args : Array Value} {below : List Frame} {meth : Method} {c : Code} {D : va_G} {cy : Nat → ClassId} {A : Nat → Prop} {ad : Nat → Nat}
abbrev rm_X8_price : Room := { frames := 1, cells := 0, slots := 0, locals := 22 }
theorem inw_X8_price_X8 : ∀ w ∈ u_ws RX8 TX8 35, w ∈ wsX8_price := fun _ h => List.mem_cons_of_mem _ (List.mem_append_right _ h)
def wp_X8_price (x1 : Int32) (x2 : Int32) (σ : Sg) (post : Int32 → Sg → Prop) : Prop :=
    ∀ σ_1 : Sg, σ_1 = va_up σ 3 (fun _ => (0 : Int32)) →
    wp_X8_in x1 (0 : Int32) (9 : Int32) (fun r_2 =>
    (r_2 = 0 →
    post (-1 : Int32) σ_1) ∧
    (¬ r_2 = 0 →
    wp_X8_in x2 (0 : Int32) (50 : Int32) (fun r_4 =>
    (¬ r_4 = 0 →
    vp_in x1 10 ∧
    ∀ y_7 : Int32, y_7 = (σ_1 17 x1.toNatClampNeg) →
    vp_in x1 10 ∧
    ∀ σ_9 : Sg, σ_9 = va_up σ_1 17 (upd (σ_1 17) x1.toNatClampNeg x2) →
    ∀ σ_10 : Sg, σ_10 = va_up σ_9 4 (fun _ => (0 : Int32)) →
    post y_7 σ_10) ∧
    (r_4 = 0 →
    post (-1 : Int32) σ_1))))
set_option maxHeartbeats 4000000 in
set_option maxRecDepth 100000 in
theorem c_X8_price (l : Launch) (D : va_G) (cy : Nat → ClassId) (ad : Nat → Nat) (σ : Sg) (x1 : Int32) (x2 : Int32) (post : Int32 → Sg → Prop) (h : wp_X8_price x1 x2 σ post) : Ct l yX8_price wsX8_price rm_X8_price D cy [.ref (ad 0), .int x1, .int x2] (mdW cy ad σ) 0 0 (Ri D (mdU cy ad) (fun r u => post r u)) := by
  refine Ct.of (cc := cX8_price) (maxL := 4) (rt := (some .int)) (by decide) rfl (Nat.le_of_ble_eq_true rfl) ?_
  intro p e s m below meth c A C0 _ H locs ls hw hl
  obtain ⟨⟨hx, hb, hml, hown, hts⟩, hr, hlocks, hkx, hA⟩ := id C0
  have hl : lv_has ls 4 [(0, .ref (ad 0)), (1, .int x1), (2, .int x2)] := hl
  unfold wp_X8_price at h
  refine lv_aload_n hx hb dX8_price_0 rfl (lv_at hl 0 rfl) ?_
  refine lv_iconst (v := 0) hx hb dX8_price_1 (by decide) ?_
  refine mp_md_thrown hx hb hts inw_X8_price_X8 hown hkx hw (hts _ (List.mem_of_getElem? (i := 1) rfl)) dX8_price_2 (fun σ_1 eσ_1 H locs hw => ?_)
  replace h := h σ_1 eσ_1
  refine lv_iload_n hx hb dX8_price_5 rfl (lv_at hl 1 rfl) ?_
  refine lv_iconst (v := 0) hx hb dX8_price_6 (by decide) ?_
  refine lv_bipush (v := 9) hx hb dX8_price_7 (by decide) ?_
  refine call_S0i (As := [.int x1, .int (0 : Int32), .int (9 : Int32)]) ⟨hx, hb, hml, hown, hts⟩ hkx hw hA (c_X8_in l D cy x1 (0 : Int32) (9 : Int32) _ h) (va_cwS 3 hts gX8_price_X8_in rfl rfl rfl hd_X8_in ⟨Nat.le_of_ble_eq_true rfl, Nat.le_of_ble_eq_true rfl⟩) rfl hl.1 rfl (Nat.le_of_ble_eq_true rfl) dX8_price_9 ⟨Nat.zero_le _, Nat.zero_le _⟩ (fun r_2 H locs h hw => ?_)
  refine lv_if_eq (tgt := 25) hx hb dX8_price_12 (by decide) (fun c_3 => ?_) (fun c_3 => ?_)
  · replace h := h.1 c_3
    refine lv_iconst (v := -1) hx hb dX8_price_25 (by decide) ?_
    exact end_i (w1 := (mdU cy ad)) (u := σ_1) C0 hw h dX8_price_26
  · replace h := h.2 c_3
    refine lv_iload_n hx hb dX8_price_15 rfl (lv_at hl 2 rfl) ?_
    refine lv_iconst (v := 0) hx hb dX8_price_16 (by decide) ?_
    refine lv_bipush (v := 50) hx hb dX8_price_17 (by decide) ?_
    refine call_S0i (As := [.int x2, .int (0 : Int32), .int (50 : Int32)]) ⟨hx, hb, hml, hown, hts⟩ hkx hw hA (c_X8_in l D cy x2 (0 : Int32) (50 : Int32) _ h) (va_cwS 3 hts gX8_price_X8_in rfl rfl rfl hd_X8_in ⟨Nat.le_of_ble_eq_true rfl, Nat.le_of_ble_eq_true rfl⟩) rfl hl.1 rfl (Nat.le_of_ble_eq_true rfl) dX8_price_19 ⟨Nat.zero_le _, Nat.zero_le _⟩ (fun r_4 H locs h hw => ?_)
    refine lv_if_ne (tgt := 27) hx hb dX8_price_22 (by decide) (fun c_5 => ?_) (fun c_5 => ?_)
    · replace h := h.1 c_5
      refine lv_aload_n hx hb dX8_price_27 rfl (lv_at hl 0 rfl) ?_
      refine mg_md_prices hx hb hts inw_X8_price_X8 hown hkx hw (hts _ (List.mem_of_getElem? (i := 2) rfl)) dX8_price_28 ?_
      refine lv_iload_n hx hb dX8_price_31 rfl (lv_at hl 1 rfl) ?_
      obtain ⟨b_6, h⟩ := h
      refine ma_m_prices hx hb hkx hw b_6 dX8_price_32 ?_
      refine lv_topi (fun y_7 ey_7 => ?_)
      replace h := h y_7 ey_7
      refine lv_istore_n (lv' := [(3, .int y_7), (0, .ref (ad 0)), (1, .int x1), (2, .int x2)]) hx hb dX8_price_33 rfl hl (by decide) rfl (fun ls hl => ?_)
      refine lv_aload_n hx hb dX8_price_34 rfl (lv_at hl 1 rfl) ?_
      refine mg_md_prices hx hb hts inw_X8_price_X8 hown hkx hw (hts _ (List.mem_of_getElem? (i := 2) rfl)) dX8_price_35 ?_
      refine lv_iload_n hx hb dX8_price_38 rfl (lv_at hl 2 rfl) ?_
      refine lv_iload_n hx hb dX8_price_39 rfl (lv_at hl 3 rfl) ?_
      obtain ⟨b_8, h⟩ := h
      refine ms_m_prices hx hb hkx hw b_8 dX8_price_40 (fun σ_9 eσ_9 H locs hw => ?_)
      replace h := h σ_9 eσ_9
      refine lv_aload_n hx hb dX8_price_41 rfl (lv_at hl 1 rfl) ?_
      refine lv_iconst (v := 0) hx hb dX8_price_42 (by decide) ?_
      refine mp_md_isFound hx hb hts inw_X8_price_X8 hown hkx hw (hts _ (List.mem_of_getElem? (i := 3) rfl)) (Or.inl rfl) dX8_price_43 (fun σ_10 eσ_10 H locs hw => ?_)
      replace h := h σ_10 eσ_10
      refine lv_iload_n hx hb dX8_price_46 rfl (lv_at hl 0 rfl) ?_
      exact end_i (w1 := (mdU cy ad)) (u := σ_10) C0 hw h dX8_price_47
    · replace h := h.2 c_5
      refine lv_iconst (v := -1) hx hb dX8_price_25 (by decide) ?_
      exact end_i (w1 := (mdU cy ad)) (u := σ_1) C0 hw h dX8_price_26
end
theorem hd_X8_want : yX8_want.cls = RX8 ∧ yX8_want.cls ≠ "java/lang/invoke/MethodHandle" ∧ yX8_want.cls ≠ "java/lang/invoke/VarHandle" ∧ (parseMethodDescriptor yX8_want.desc).map (fun d => d.parameters.length) = some 2 := by decide +kernel
section
variable {p : Program} {l : Launch} {e : Env} {s : State} {m : MethodId} {args : Array Value} {below : List Frame} {meth : Method} {c : Code} {D : va_G} {cy : Nat → ClassId} {A : Nat → Prop} {ad : Nat → Nat}
abbrev rm_X8_want : Room := { frames := 1, cells := 0, slots := 0, locals := 22 }
theorem inw_X8_want_X8 : ∀ w ∈ u_ws RX8 TX8 35, w ∈ wsX8_want := fun _ h => List.mem_cons_of_mem _ (List.mem_append_right _ h)
abbrev G_X8_want (p : Program) (l : Launch) (e : Env) (s : State) (m : MethodId) (args : Array Value) (below : List Frame) (meth : Method) (c : Code) (D : va_G) (A : Nat → Prop) (cy : Nat → ClassId) (ad : Nat → Nat) (post : Int32 → Sg → Prop) : va_W → Nat → List (Nat × Value) → Nat → List Value → Prop := Gw p l e rm_X8_want s m args below meth c D A (MQ below ((Ri D (mdU cy ad) (fun r u => post r u)) A) args s 0 0 A)
def wp_X8_want_43 (post : Int32 → Sg → Prop) (x1 : Int32) (x2 : Int32) (σ : Sg) : Prop :=
    vp_in x1 4 ∧
    ∀ y_2 : Int32, y_2 = (σ 18 x1.toNatClampNeg) →
    vp_in x1 4 ∧
    ∀ σ_4 : Sg, σ_4 = va_up σ 18 (upd (σ 18) x1.toNatClampNeg x2) →
    ∀ σ_5 : Sg, σ_5 = va_up σ_4 4 (fun _ => (0 : Int32)) →
    post y_2 σ_5
set_option maxHeartbeats 4000000 in
set_option maxRecDepth 100000 in
theorem w_X8_want_43 (C0 : Mc p m c meth cX8_want 4 s args wsX8_want RX8 (some .int) D cy A) {post : Int32 → Sg → Prop} : ∀ (x1 : Int32) (x2 : Int32) (σ : Sg), wp_X8_want_43 post x1 x2 σ → G_X8_want p l e s m args below meth c D A cy ad post (mdW cy ad σ) 4 [(0, .ref (ad 0)), (1, .int x1), (2, .int x2)] 43 [] := by
  obtain ⟨⟨hx, hb, hml, hown, hts⟩, hr, hlocks, hkx, hA⟩ := id C0
  intro x1 x2 σ h H locs ls hw hl
  unfold wp_X8_want_43 at h
  refine lv_aload_n hx hb dX8_want_43 rfl (lv_at hl 0 rfl) ?_
  refine mg_md_wants hx hb hts inw_X8_want_X8 hown hkx hw (hts _ (List.mem_of_getElem? (i := 2) rfl)) dX8_want_44 ?_
  refine lv_iload_n hx hb dX8_want_47 rfl (lv_at hl 1 rfl) ?_
  obtain ⟨b_1, h⟩ := h
  refine ma_m_wants hx hb hkx hw b_1 dX8_want_48 ?_
  refine lv_topi (fun y_2 ey_2 => ?_)
  replace h := h y_2 ey_2
  refine lv_istore_n (lv' := [(3, .int y_2), (0, .ref (ad 0)), (1, .int x1), (2, .int x2)]) hx hb dX8_want_49 rfl hl (by decide) rfl (fun ls hl => ?_)
  refine lv_aload_n hx hb dX8_want_50 rfl (lv_at hl 1 rfl) ?_
  refine mg_md_wants hx hb hts inw_X8_want_X8 hown hkx hw (hts _ (List.mem_of_getElem? (i := 2) rfl)) dX8_want_51 ?_
  refine lv_iload_n hx hb dX8_want_54 rfl (lv_at hl 2 rfl) ?_
  refine lv_iload_n hx hb dX8_want_55 rfl (lv_at hl 3 rfl) ?_
  obtain ⟨b_3, h⟩ := h
  refine ms_m_wants hx hb hkx hw b_3 dX8_want_56 (fun σ_4 eσ_4 H locs hw => ?_)
  replace h := h σ_4 eσ_4
  refine lv_aload_n hx hb dX8_want_57 rfl (lv_at hl 1 rfl) ?_
  refine lv_iconst (v := 0) hx hb dX8_want_58 (by decide) ?_
  refine mp_md_isFound hx hb hts inw_X8_want_X8 hown hkx hw (hts _ (List.mem_of_getElem? (i := 3) rfl)) (Or.inl rfl) dX8_want_59 (fun σ_5 eσ_5 H locs hw => ?_)
  replace h := h σ_5 eσ_5
  refine lv_iload_n hx hb dX8_want_62 rfl (lv_at hl 0 rfl) ?_
  exact end_i (w1 := (mdU cy ad)) (u := σ_5) C0 hw h dX8_want_63
def wp_X8_want (x1 : Int32) (x2 : Int32) (σ : Sg) (post : Int32 → Sg → Prop) : Prop :=
    ∀ σ_1 : Sg, σ_1 = va_up σ 3 (fun _ => (0 : Int32)) →
    wp_X8_in x1 (0 : Int32) (3 : Int32) (fun r_2 =>
    (r_2 = 0 →
    post (-1 : Int32) σ_1) ∧
    (¬ r_2 = 0 →
    (¬ x1 = 0 →
    wp_X8_in x2 (0 : Int32) (21 : Int32) (fun r_5 =>
    (¬ r_5 = 0 →
    wp_X8_want_43 post x1 x2 σ_1) ∧
    (r_5 = 0 →
    post (-1 : Int32) σ_1))) ∧
    (x1 = 0 →
    wp_X8_in x2 (2 : Int32) (60 : Int32) (fun r_7 =>
    (¬ r_7 = 0 →
    wp_X8_want_43 post x1 x2 σ_1) ∧
    (r_7 = 0 →
    post (-1 : Int32) σ_1)))))
set_option maxHeartbeats 4000000 in
set_option maxRecDepth 100000 in
theorem c_X8_want (l : Launch) (D : va_G) (cy : Nat → ClassId) (ad : Nat → Nat) (σ : Sg) (x1 : Int32) (x2 : Int32) (post : Int32 → Sg → Prop) (h : wp_X8_want x1 x2 σ post) : Ct l yX8_want wsX8_want rm_X8_want D cy [.ref (ad 0), .int x1, .int x2] (mdW cy ad σ) 0 0 (Ri D (mdU cy ad) (fun r u => post r u)) := by
  refine Ct.of (cc := cX8_want) (maxL := 4) (rt := (some .int)) (by decide) rfl (Nat.le_of_ble_eq_true rfl) ?_
  intro p e s m below meth c A C0 _ H locs ls hw hl
  obtain ⟨⟨hx, hb, hml, hown, hts⟩, hr, hlocks, hkx, hA⟩ := id C0
  have hl : lv_has ls 4 [(0, .ref (ad 0)), (1, .int x1), (2, .int x2)] := hl
  unfold wp_X8_want at h
  refine lv_aload_n hx hb dX8_want_0 rfl (lv_at hl 0 rfl) ?_
  refine lv_iconst (v := 0) hx hb dX8_want_1 (by decide) ?_
  refine mp_md_thrown hx hb hts inw_X8_want_X8 hown hkx hw (hts _ (List.mem_of_getElem? (i := 1) rfl)) dX8_want_2 (fun σ_1 eσ_1 H locs hw => ?_)
  replace h := h σ_1 eσ_1
  refine lv_iload_n hx hb dX8_want_5 rfl (lv_at hl 1 rfl) ?_
  refine lv_iconst (v := 0) hx hb dX8_want_6 (by decide) ?_
  refine lv_iconst (v := 3) hx hb dX8_want_7 (by decide) ?_
  refine call_S0i (As := [.int x1, .int (0 : Int32), .int (3 : Int32)]) ⟨hx, hb, hml, hown, hts⟩ hkx hw hA (c_X8_in l D cy x1 (0 : Int32) (3 : Int32) _ h) (va_cwS 3 hts gX8_want_X8_in rfl rfl rfl hd_X8_in ⟨Nat.le_of_ble_eq_true rfl, Nat.le_of_ble_eq_true rfl⟩) rfl hl.1 rfl (Nat.le_of_ble_eq_true rfl) dX8_want_8 ⟨Nat.zero_le _, Nat.zero_le _⟩ (fun r_2 H locs h hw => ?_)
  refine lv_if_eq (tgt := 41) hx hb dX8_want_11 (by decide) (fun c_3 => ?_) (fun c_3 => ?_)
  · replace h := h.1 c_3
    refine lv_iconst (v := -1) hx hb dX8_want_41 (by decide) ?_
    exact end_i (w1 := (mdU cy ad)) (u := σ_1) C0 hw h dX8_want_42
  · replace h := h.2 c_3
    refine lv_iload_n hx hb dX8_want_14 rfl (lv_at hl 1 rfl) ?_
    refine lv_if_ne (tgt := 31) hx hb dX8_want_15 (by decide) (fun c_4 => ?_) (fun c_4 => ?_)
    · replace h := h.1 c_4
      refine lv_iload_n hx hb dX8_want_31 rfl (lv_at hl 2 rfl) ?_
      refine lv_iconst (v := 0) hx hb dX8_want_32 (by decide) ?_
      refine lv_bipush (v := 21) hx hb dX8_want_33 (by decide) ?_
      refine call_S0i (As := [.int x2, .int (0 : Int32), .int (21 : Int32)]) ⟨hx, hb, hml, hown, hts⟩ hkx hw hA (c_X8_in l D cy x2 (0 : Int32) (21 : Int32) _ h) (va_cwS 3 hts gX8_want_X8_in rfl rfl rfl hd_X8_in ⟨Nat.le_of_ble_eq_true rfl, Nat.le_of_ble_eq_true rfl⟩) rfl hl.1 rfl (Nat.le_of_ble_eq_true rfl) dX8_want_35 ⟨Nat.zero_le _, Nat.zero_le _⟩ (fun r_5 H locs h hw => ?_)
      refine lv_if_ne (tgt := 43) hx hb dX8_want_38 (by decide) (fun c_6 => ?_) (fun c_6 => ?_)
      · replace h := h.1 c_6
        exact w_X8_want_43 C0 _ _ _ h _ _ _ hw (lv_sub hl [0, 1, 2] rfl)
      · replace h := h.2 c_6
        refine lv_iconst (v := -1) hx hb dX8_want_41 (by decide) ?_
        exact end_i (w1 := (mdU cy ad)) (u := σ_1) C0 hw h dX8_want_42
    · replace h := h.2 c_4
      refine lv_iload_n hx hb dX8_want_18 rfl (lv_at hl 2 rfl) ?_
      refine lv_iconst (v := 2) hx hb dX8_want_19 (by decide) ?_
      refine lv_bipush (v := 60) hx hb dX8_want_20 (by decide) ?_
      refine call_S0i (As := [.int x2, .int (2 : Int32), .int (60 : Int32)]) ⟨hx, hb, hml, hown, hts⟩ hkx hw hA (c_X8_in l D cy x2 (2 : Int32) (60 : Int32) _ h) (va_cwS 3 hts gX8_want_X8_in rfl rfl rfl hd_X8_in ⟨Nat.le_of_ble_eq_true rfl, Nat.le_of_ble_eq_true rfl⟩) rfl hl.1 rfl (Nat.le_of_ble_eq_true rfl) dX8_want_22 ⟨Nat.zero_le _, Nat.zero_le _⟩ (fun r_7 H locs h hw => ?_)
      refine lv_if_ne (tgt := 43) hx hb dX8_want_25 (by decide) (fun c_8 => ?_) (fun c_8 => ?_)
      · replace h := h.1 c_8
        exact w_X8_want_43 C0 _ _ _ h _ _ _ hw (lv_sub hl [0, 1, 2] rfl)
      · replace h := h.2 c_8
        refine lv_goto (tgt := 41) hx hb dX8_want_28 (by decide) ?_
        refine lv_iconst (v := -1) hx hb dX8_want_41 (by decide) ?_
        exact end_i (w1 := (mdU cy ad)) (u := σ_1) C0 hw h dX8_want_42
end
theorem hd_X8_entry : yX8_entry.cls = RX8 ∧ yX8_entry.cls ≠ "java/lang/invoke/MethodHandle" ∧ yX8_entry.cls ≠ "java/lang/invoke/VarHandle" ∧ (parseMethodDescriptor yX8_entry.desc).map (fun d => d.parameters.length) = some 4 := by decide +kernel
section
variable {p : Program} {l : Launch} {e : Env} {s : State} {m : MethodId} {args : Array Value} {below : List Frame} {meth : Method} {c : Code} {D : va_G} {cy : Nat → ClassId} {A : Nat → Prop} {ad : Nat → Nat}
abbrev rm_X8_entry : Room := { frames := 1, cells := 0, slots := 0, locals := 24 }
theorem inw_X8_entry_X8 : ∀ w ∈ u_ws RX8 TX8 35, w ∈ wsX8_entry := fun _ h => List.mem_cons_of_mem _ (List.mem_append_right _ h)
def wp_X8_entry (x1 : Int32) (x2 : Int32) (x3 : Int32) (x4 : Int32) (σ : Sg) (post : Int32 → Sg → Prop) : Prop :=
    ∀ σ_1 : Sg, σ_1 = va_up σ 3 (fun _ => (0 : Int32)) →
    wp_X8_in x1 (1 : Int32) (3 : Int32) (fun r_2 =>
    (r_2 = 0 →
    post (-1 : Int32) σ_1) ∧
    (¬ r_2 = 0 →
    wp_X8_in x2 (0 : Int32) (999 : Int32) (fun r_4 =>
    (r_4 = 0 →
    post (-1 : Int32) σ_1) ∧
    (¬ r_4 = 0 →
    wp_X8_areWords x3 x4 (fun r_6 =>
    (r_6 = 0 →
    post (-1 : Int32) σ_1) ∧
    (¬ r_6 = 0 →
    (¬ (σ_1 2 0) = (12 : Int32) →
    vp_in (σ_1 2 0) 12 ∧
    ∀ σ_10 : Sg, σ_10 = va_up σ_1 19 (upd (σ_1 19) (σ_1 2 0).toNatClampNeg x1) →
    vp_in (σ_10 2 0) 12 ∧
    ∀ σ_12 : Sg, σ_12 = va_up σ_10 20 (upd (σ_10 20) (σ_10 2 0).toNatClampNeg x2) →
    wp_X8_layWords_entryWords x3 x4 ((8 : Int32) * (σ_12 2 0)) σ_12 (fun σ_13 =>
    ∀ σ_14 : Sg, σ_14 = va_up σ_13 2 (fun _ => (σ_13 2 0) + (1 : Int32)) →
    ∀ σ_15 : Sg, σ_15 = va_up σ_14 4 (fun _ => (0 : Int32)) →
    post ((σ_15 2 0) - (1 : Int32)) σ_15)) ∧
    ((σ_1 2 0) = (12 : Int32) →
    post (-1 : Int32) σ_1)))))))
set_option maxHeartbeats 4000000 in
set_option maxRecDepth 100000 in
theorem c_X8_entry (l : Launch) (D : va_G) (cy : Nat → ClassId) (ad : Nat → Nat) (σ : Sg) (x1 : Int32) (x2 : Int32) (x3 : Int32) (x4 : Int32) (post : Int32 → Sg → Prop) (h : wp_X8_entry x1 x2 x3 x4 σ post) : Ct l yX8_entry wsX8_entry rm_X8_entry D cy [.ref (ad 0), .int x1, .int x2, .int x3, .int x4] (mdW cy ad σ) 0 0 (Ri D (mdU cy ad) (fun r u => post r u)) := by
  refine Ct.of (cc := cX8_entry) (maxL := 5) (rt := (some .int)) (by decide) rfl (Nat.le_of_ble_eq_true rfl) ?_
  intro p e s m below meth c A C0 _ H locs ls hw hl
  obtain ⟨⟨hx, hb, hml, hown, hts⟩, hr, hlocks, hkx, hA⟩ := id C0
  have hl : lv_has ls 5 [(0, .ref (ad 0)), (1, .int x1), (2, .int x2), (3, .int x3), (4, .int x4)] := hl
  unfold wp_X8_entry at h
  refine lv_aload_n hx hb dX8_entry_0 rfl (lv_at hl 0 rfl) ?_
  refine lv_iconst (v := 0) hx hb dX8_entry_1 (by decide) ?_
  refine mp_md_thrown hx hb hts inw_X8_entry_X8 hown hkx hw (hts _ (List.mem_of_getElem? (i := 1) rfl)) dX8_entry_2 (fun σ_1 eσ_1 H locs hw => ?_)
  replace h := h σ_1 eσ_1
  refine lv_iload_n hx hb dX8_entry_5 rfl (lv_at hl 1 rfl) ?_
  refine lv_iconst (v := 1) hx hb dX8_entry_6 (by decide) ?_
  refine lv_iconst (v := 3) hx hb dX8_entry_7 (by decide) ?_
  refine call_S0i (As := [.int x1, .int (1 : Int32), .int (3 : Int32)]) ⟨hx, hb, hml, hown, hts⟩ hkx hw hA (c_X8_in l D cy x1 (1 : Int32) (3 : Int32) _ h) (va_cwS 3 hts gX8_entry_X8_in rfl rfl rfl hd_X8_in ⟨Nat.le_of_ble_eq_true rfl, Nat.le_of_ble_eq_true rfl⟩) rfl hl.1 rfl (Nat.le_of_ble_eq_true rfl) dX8_entry_8 ⟨Nat.zero_le _, Nat.zero_le _⟩ (fun r_2 H locs h hw => ?_)
  refine lv_if_eq (tgt := 43) hx hb dX8_entry_11 (by decide) (fun c_3 => ?_) (fun c_3 => ?_)
  · replace h := h.1 c_3
    refine lv_iconst (v := -1) hx hb dX8_entry_43 (by decide) ?_
    exact end_i (w1 := (mdU cy ad)) (u := σ_1) C0 hw h dX8_entry_44
  · replace h := h.2 c_3
    refine lv_iload_n hx hb dX8_entry_14 rfl (lv_at hl 2 rfl) ?_
    refine lv_iconst (v := 0) hx hb dX8_entry_15 (by decide) ?_
    refine lv_sipush (v := 999) hx hb dX8_entry_16 (by decide) ?_
    refine call_S0i (As := [.int x2, .int (0 : Int32), .int (999 : Int32)]) ⟨hx, hb, hml, hown, hts⟩ hkx hw hA (c_X8_in l D cy x2 (0 : Int32) (999 : Int32) _ h) (va_cwS 3 hts gX8_entry_X8_in rfl rfl rfl hd_X8_in ⟨Nat.le_of_ble_eq_true rfl, Nat.le_of_ble_eq_true rfl⟩) rfl hl.1 rfl (Nat.le_of_ble_eq_true rfl) dX8_entry_19 ⟨Nat.zero_le _, Nat.zero_le _⟩ (fun r_4 H locs h hw => ?_)
    refine lv_if_eq (tgt := 43) hx hb dX8_entry_22 (by decide) (fun c_5 => ?_) (fun c_5 => ?_)
    · replace h := h.1 c_5
      refine lv_iconst (v := -1) hx hb dX8_entry_43 (by decide) ?_
      exact end_i (w1 := (mdU cy ad)) (u := σ_1) C0 hw h dX8_entry_44
    · replace h := h.2 c_5
      refine lv_iload_n hx hb dX8_entry_25 rfl (lv_at hl 3 rfl) ?_
      refine lv_iload hx hb dX8_entry_26 (lv_at hl 4 rfl) ?_
      refine call_S0i (As := [.int x3, .int x4]) ⟨hx, hb, hml, hown, hts⟩ hkx hw hA (c_X8_areWords l D cy x3 x4 _ h) (va_cwS 2 hts gX8_entry_X8_areWords rfl rfl rfl hd_X8_areWords ⟨Nat.le_of_ble_eq_true rfl, Nat.le_of_ble_eq_true rfl⟩) rfl hl.1 rfl (Nat.le_of_ble_eq_true rfl) dX8_entry_28 ⟨Nat.zero_le _, Nat.zero_le _⟩ (fun r_6 H locs h hw => ?_)
      refine lv_if_eq (tgt := 43) hx hb dX8_entry_31 (by decide) (fun c_7 => ?_) (fun c_7 => ?_)
      · replace h := h.1 c_7
        refine lv_iconst (v := -1) hx hb dX8_entry_43 (by decide) ?_
        exact end_i (w1 := (mdU cy ad)) (u := σ_1) C0 hw h dX8_entry_44
      · replace h := h.2 c_7
        refine lv_aload_n hx hb dX8_entry_34 rfl (lv_at hl 0 rfl) ?_
        refine mg_md_entries hx hb hts inw_X8_entry_X8 hown hkx hw (hts _ (List.mem_of_getElem? (i := 2) rfl)) dX8_entry_35 ?_
        refine lv_bipush (v := 12) hx hb dX8_entry_38 (by decide) ?_
        refine lv_icmp_ne (tgt := 45) hx hb dX8_entry_40 (by decide) (fun c_8 => ?_) (fun c_8 => ?_)
        · replace h := h.1 c_8
          refine lv_aload_n hx hb dX8_entry_45 rfl (lv_at hl 0 rfl) ?_
          refine mg_md_entryLevel hx hb hts inw_X8_entry_X8 hown hkx hw (hts _ (List.mem_of_getElem? (i := 3) rfl)) dX8_entry_46 ?_
          refine lv_aload_n hx hb dX8_entry_49 rfl (lv_at hl 0 rfl) ?_
          refine mg_md_entries hx hb hts inw_X8_entry_X8 hown hkx hw (hts _ (List.mem_of_getElem? (i := 2) rfl)) dX8_entry_50 ?_
          refine lv_iload_n hx hb dX8_entry_53 rfl (lv_at hl 1 rfl) ?_
          obtain ⟨b_9, h⟩ := h
          refine ms_m_entryLevel hx hb hkx hw b_9 dX8_entry_54 (fun σ_10 eσ_10 H locs hw => ?_)
          replace h := h σ_10 eσ_10
          refine lv_aload_n hx hb dX8_entry_55 rfl (lv_at hl 0 rfl) ?_
          refine mg_md_entryNumber hx hb hts inw_X8_entry_X8 hown hkx hw (hts _ (List.mem_of_getElem? (i := 4) rfl)) dX8_entry_56 ?_
          refine lv_aload_n hx hb dX8_entry_59 rfl (lv_at hl 0 rfl) ?_
          refine mg_md_entries hx hb hts inw_X8_entry_X8 hown hkx hw (hts _ (List.mem_of_getElem? (i := 2) rfl)) dX8_entry_60 ?_
          refine lv_iload_n hx hb dX8_entry_63 rfl (lv_at hl 2 rfl) ?_
          obtain ⟨b_11, h⟩ := h
          refine ms_m_entryNumber hx hb hkx hw b_11 dX8_entry_64 (fun σ_12 eσ_12 H locs hw => ?_)
          replace h := h σ_12 eσ_12
          refine lv_iload_n hx hb dX8_entry_65 rfl (lv_at hl 3 rfl) ?_
          refine lv_iload hx hb dX8_entry_66 (lv_at hl 4 rfl) ?_
          refine lv_aload_n hx hb dX8_entry_68 rfl (lv_at hl 0 rfl) ?_
          refine mg_md_entryWords hx hb hts inw_X8_entry_X8 hown hkx hw (hts _ (List.mem_of_getElem? (i := 5) rfl)) dX8_entry_69 ?_
          refine lv_bipush (v := 8) hx hb dX8_entry_72 (by decide) ?_
          refine lv_aload_n hx hb dX8_entry_74 rfl (lv_at hl 0 rfl) ?_
          refine mg_md_entries hx hb hts inw_X8_entry_X8 hown hkx hw (hts _ (List.mem_of_getElem? (i := 2) rfl)) dX8_entry_75 ?_
          refine lv_imul hx hb dX8_entry_78 ?_
          refine md_Sv (As := [.int x3, .int x4, .ref (ad 13), .int ((8 : Int32) * (σ_12 2 0))]) ⟨hx, hb, hml, hown, hts⟩ hkx hw hA (c_X8_layWords_entryWords l D cy ad σ_12 x3 x4 ((8 : Int32) * (σ_12 2 0)) _ h) (va_cwS 4 hts gX8_entry_X8_layWords rfl rfl rfl hd_X8_layWords ⟨Nat.le_of_ble_eq_true rfl, Nat.le_of_ble_eq_true rfl⟩) rfl hl.1 rfl (Nat.le_of_ble_eq_true rfl) dX8_entry_79 ⟨Nat.zero_le _, Nat.zero_le _⟩ (fun σ_13 H locs h hw => ?_)
          refine lv_aload_n hx hb dX8_entry_82 rfl (lv_at hl 0 rfl) ?_
          refine lv_dup hx hb dX8_entry_83 rfl ?_
          refine mg_md_entries hx hb hts inw_X8_entry_X8 hown hkx hw (hts _ (List.mem_of_getElem? (i := 2) rfl)) dX8_entry_84 ?_
          refine lv_iconst (v := 1) hx hb dX8_entry_87 (by decide) ?_
          refine lv_iadd hx hb dX8_entry_88 ?_
          refine mp_md_entries hx hb hts inw_X8_entry_X8 hown hkx hw (hts _ (List.mem_of_getElem? (i := 2) rfl)) dX8_entry_89 (fun σ_14 eσ_14 H locs hw => ?_)
          replace h := h σ_14 eσ_14
          refine lv_aload_n hx hb dX8_entry_92 rfl (lv_at hl 0 rfl) ?_
          refine lv_iconst (v := 0) hx hb dX8_entry_93 (by decide) ?_
          refine mp_md_isFound hx hb hts inw_X8_entry_X8 hown hkx hw (hts _ (List.mem_of_getElem? (i := 6) rfl)) (Or.inl rfl) dX8_entry_94 (fun σ_15 eσ_15 H locs hw => ?_)
          replace h := h σ_15 eσ_15
          refine lv_aload_n hx hb dX8_entry_97 rfl (lv_at hl 0 rfl) ?_
          refine mg_md_entries hx hb hts inw_X8_entry_X8 hown hkx hw (hts _ (List.mem_of_getElem? (i := 2) rfl)) dX8_entry_98 ?_
          refine lv_iconst (v := 1) hx hb dX8_entry_101 (by decide) ?_
          refine lv_isub hx hb dX8_entry_102 ?_
          exact end_i (w1 := (mdU cy ad)) (u := σ_15) C0 hw h dX8_entry_103
        · replace h := h.2 c_8
          refine lv_iconst (v := -1) hx hb dX8_entry_43 (by decide) ?_
          exact end_i (w1 := (mdU cy ad)) (u := σ_1) C0 hw h dX8_entry_44
end
theorem hd_X8_clear : yX8_clear.cls = RX8 ∧ yX8_clear.cls ≠ "java/lang/invoke/MethodHandle" ∧ yX8_clear.cls ≠ "java/lang/invoke/VarHandle" ∧ (parseMethodDescriptor yX8_clear.desc).map (fun d => d.parameters.length) = some 0 := by decide +kernel
section
variable {p : Program} {l : Launch} {e : Env} {s : State} {m : MethodId} {args : Array Value} {below : List Frame} {meth : Method} {c : Code} {D : va_G} {cy : Nat → ClassId} {A : Nat → Prop} {ad : Nat → Nat}
abbrev rm_X8_clear : Room := { frames := 0, cells := 0, slots := 0, locals := 0 }
theorem inw_X8_clear_X8 : ∀ w ∈ u_ws RX8 TX8 35, w ∈ wsX8_clear := fun _ h => List.mem_cons_of_mem _ (List.mem_append_right _ h)
def wp_X8_clear (σ : Sg) (post : Int32 → Sg → Prop) : Prop :=
    ∀ σ_1 : Sg, σ_1 = va_up σ 3 (fun _ => (0 : Int32)) →
    ∀ y_2 : Int32, y_2 = (σ_1 2 0) →
    ∀ σ_3 : Sg, σ_3 = va_up σ_1 2 (fun _ => (0 : Int32)) →
    ∀ σ_4 : Sg, σ_4 = va_up σ_3 4 (fun _ => (0 : Int32)) →
    post y_2 σ_4
set_option maxHeartbeats 4000000 in
set_option maxRecDepth 100000 in
theorem c_X8_clear (l : Launch) (D : va_G) (cy : Nat → ClassId) (ad : Nat → Nat) (σ : Sg) (post : Int32 → Sg → Prop) (h : wp_X8_clear σ post) : Ct l yX8_clear wsX8_clear rm_X8_clear D cy [.ref (ad 0)] (mdW cy ad σ) 0 0 (Ri D (mdU cy ad) (fun r u => post r u)) := by
  refine Ct.of (cc := cX8_clear) (maxL := 2) (rt := (some .int)) (by decide) rfl (Nat.le_of_ble_eq_true rfl) ?_
  intro p e s m below meth c A C0 _ H locs ls hw hl
  obtain ⟨⟨hx, hb, hml, hown, hts⟩, hr, hlocks, hkx, hA⟩ := id C0
  have hl : lv_has ls 2 [(0, .ref (ad 0))] := hl
  unfold wp_X8_clear at h
  refine lv_aload_n hx hb dX8_clear_0 rfl (lv_at hl 0 rfl) ?_
  refine lv_iconst (v := 0) hx hb dX8_clear_1 (by decide) ?_
  refine mp_md_thrown hx hb hts inw_X8_clear_X8 hown hkx hw (hts _ (List.mem_of_getElem? (i := 1) rfl)) dX8_clear_2 (fun σ_1 eσ_1 H locs hw => ?_)
  replace h := h σ_1 eσ_1
  refine lv_aload_n hx hb dX8_clear_5 rfl (lv_at hl 0 rfl) ?_
  refine mg_md_entries hx hb hts inw_X8_clear_X8 hown hkx hw (hts _ (List.mem_of_getElem? (i := 2) rfl)) dX8_clear_6 ?_
  refine lv_topi (fun y_2 ey_2 => ?_)
  replace h := h y_2 ey_2
  refine lv_istore_n (lv' := [(1, .int y_2), (0, .ref (ad 0))]) hx hb dX8_clear_9 rfl hl (by decide) rfl (fun ls hl => ?_)
  refine lv_aload_n hx hb dX8_clear_10 rfl (lv_at hl 1 rfl) ?_
  refine lv_iconst (v := 0) hx hb dX8_clear_11 (by decide) ?_
  refine mp_md_entries hx hb hts inw_X8_clear_X8 hown hkx hw (hts _ (List.mem_of_getElem? (i := 2) rfl)) dX8_clear_12 (fun σ_3 eσ_3 H locs hw => ?_)
  replace h := h σ_3 eσ_3
  refine lv_aload_n hx hb dX8_clear_15 rfl (lv_at hl 1 rfl) ?_
  refine lv_iconst (v := 0) hx hb dX8_clear_16 (by decide) ?_
  refine mp_md_isFound hx hb hts inw_X8_clear_X8 hown hkx hw (hts _ (List.mem_of_getElem? (i := 3) rfl)) (Or.inl rfl) dX8_clear_17 (fun σ_4 eσ_4 H locs hw => ?_)
  replace h := h σ_4 eσ_4
  refine lv_iload_n hx hb dX8_clear_20 rfl (lv_at hl 0 rfl) ?_
  exact end_i (w1 := (mdU cy ad)) (u := σ_4) C0 hw h dX8_clear_21
end
