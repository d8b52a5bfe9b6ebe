theorem hd_X7_isWithin : yX7_isWithin.cls ≠ "java/lang/invoke/MethodHandle" ∧ yX7_isWithin.cls ≠ "java/lang/invoke/VarHandle" ∧ (parseMethodDescriptor yX7_isWithin.desc).map (fun d => d.parameters.length) = some 3 := by decide +kernel
section
variable {p : Program} {l : Launch} {e : Env} {s : State} {m : MethodId} {args : Array Value} {below : List Frame} {meth : Method} {c : Code} {D : va_G} {cy : Nat → ClassId} {A : Nat → Prop}
abbrev rm_X7_isWithin : Room := { frames := 0, cells := 0, slots := 0, locals := 0 }
def wp_X7_isWithin (x0 : Int32) (x1 : Int32) (x2 : Int32) (post : Int32 → Prop) : Prop :=
    (x0 < x1 →
    post (0 : Int32)) ∧
    (¬ x0 < x1 →
    (x2 < x0 →
    post (0 : Int32)) ∧
    (¬ x2 < x0 →
    post (1 : Int32)))
set_option maxHeartbeats 4000000 in
set_option maxRecDepth 100000 in
theorem c_X7_isWithin (l : Launch) (D : va_G) (cy : Nat → ClassId) (x0 : Int32) (x1 : Int32) (x2 : Int32) (post : Int32 → Prop) (h : wp_X7_isWithin x0 x1 x2 post) : Ct l yX7_isWithin wsX7_isWithin rm_X7_isWithin D cy [.int x0, .int x1, .int x2] [] 0 0 (Ri D w_0 (fun r _ => post r)) := by
  refine Ct.of (cc := cX7_isWithin) (maxL := 3) (rt := (some .boolean)) (by decide) rfl (Nat.le_of_ble_eq_true rfl) ?_
  intro p e s m below meth c A C0 _ H locs ls hw hl
  obtain ⟨⟨hx, hb, hml, hown, hts⟩, hr, hlocks, hkx, hA⟩ := id C0
  have hl : lv_has ls 3 [(0, .int x0), (1, .int x1), (2, .int x2)] := hl
  unfold wp_X7_isWithin at h
  refine lv_iload_n hx hb dX7_isWithin_0 rfl (lv_at hl 0 rfl) ?_
  refine lv_iload_n hx hb dX7_isWithin_1 rfl (lv_at hl 1 rfl) ?_
  refine lv_icmp_lt (tgt := 14) hx hb dX7_isWithin_2 (by decide) (fun c_1 => ?_) (fun c_1 => ?_)
  · replace h := h.1 c_1
    refine lv_iconst (v := 0) hx hb dX7_isWithin_14 (by decide) ?_
    exact end_z (w1 := w_0) (u := ()) C0 hw (Or.inl rfl) h dX7_isWithin_15
  · replace h := h.2 c_1
    refine lv_iload_n hx hb dX7_isWithin_5 rfl (lv_at hl 0 rfl) ?_
    refine lv_iload_n hx hb dX7_isWithin_6 rfl (lv_at hl 2 rfl) ?_
    refine lv_icmp_gt (tgt := 14) hx hb dX7_isWithin_7 (by decide) (fun c_2 => ?_) (fun c_2 => ?_)
    · replace h := h.1 c_2
      refine lv_iconst (v := 0) hx hb dX7_isWithin_14 (by decide) ?_
      exact end_z (w1 := w_0) (u := ()) C0 hw (Or.inl rfl) h dX7_isWithin_15
    · replace h := h.2 c_2
      refine lv_iconst (v := 1) hx hb dX7_isWithin_10 (by decide) ?_
      refine lv_goto (tgt := 15) hx hb dX7_isWithin_11 (by decide) ?_
      exact end_z (w1 := w_0) (u := ()) C0 hw (Or.inr rfl) h dX7_isWithin_15
end
theorem hd_X7_areWords : yX7_areWords.cls ≠ "java/lang/invoke/MethodHandle" ∧ yX7_areWords.cls ≠ "java/lang/invoke/VarHandle" ∧ (parseMethodDescriptor yX7_areWords.desc).map (fun d => d.parameters.length) = some 1 := by decide +kernel
section
variable {p : Program} {l : Launch} {e : Env} {s : State} {m : MethodId} {args : Array Value} {below : List Frame} {meth : Method} {c : Code} {D : va_G} {cy : Nat → ClassId} {A : Nat → Prop}
abbrev rm_X7_areWords : Room := { frames := 0, cells := 0, slots := 0, locals := 0 }
abbrev G_X7_areWords (p : Program) (l : Launch) (e : Env) (s : State) (m : MethodId) (args : Array Value) (below : List Frame) (meth : Method) (c : Code) (D : va_G) (A : Nat → Prop) (cy : Nat → ClassId) (ad : Nat → Nat) (post : Int32 → Prop) : va_W → Nat → List (Nat × Value) → Nat → List Value → Prop := Gw p l e rm_X7_areWords s m args below meth c D A (MQ below ((Ri D w_0 (fun r _ => post r)) A) args s 0 0 A)
def wp_X7_areWords_2 (post : Int32 → Prop) : Nat → Int32 → Int32 → Prop
  | 0, _, _ => False
  | n + 1, x0, x1 =>
    ((32 : Int32) ≤ x1 →
    post (1 : Int32)) ∧
    (¬ (32 : Int32) ≤ x1 →
    ((((x0.toUInt32 >>> (x1.toUInt32 &&& Int32.toUInt32 31)).toInt32) &&& (255 : Int32)) ≤ (26 : Int32) →
    wp_X7_areWords_2 post n x0 (x1 + (8 : Int32))) ∧
    (¬ (((x0.toUInt32 >>> (x1.toUInt32 &&& Int32.toUInt32 31)).toInt32) &&& (255 : Int32)) ≤ (26 : Int32) →
    post (0 : Int32)))
set_option maxHeartbeats 4000000 in
set_option maxRecDepth 100000 in
theorem w_X7_areWords_2 (C0 : Mc p m c meth cX7_areWords 2 s args wsX7_areWords RX7 (some .boolean) D cy A) {post : Int32 → Prop} : ∀ (n : Nat) (x0 : Int32) (x1 : Int32), wp_X7_areWords_2 post n x0 x1 → G_X7_areWords p l e s m args below meth c D A cy id post [] 2 [(0, .int x0), (1, .int x1)] 2 [] := by
  obtain ⟨⟨hx, hb, hml, hown, hts⟩, hr, hlocks, hkx, hA⟩ := id C0
  intro n
  induction n with
  | zero => intro x0 x1 h; exact False.elim h
  | succ n ih =>
    intro x0 x1 h H locs ls hw hl
    unfold wp_X7_areWords_2 at h
    refine lv_iload_n hx hb dX7_areWords_2 rfl (lv_at hl 1 rfl) ?_
    refine lv_bipush (v := 32) hx hb dX7_areWords_3 (by decide) ?_
    refine lv_icmp_ge (tgt := 28) hx hb dX7_areWords_5 (by decide) (fun c_1 => ?_) (fun c_1 => ?_)
    · replace h := h.1 c_1
      refine lv_iconst (v := 1) hx hb dX7_areWords_28 (by decide) ?_
      exact end_z (w1 := w_0) (u := ()) C0 hw (Or.inr rfl) h dX7_areWords_29
    · replace h := h.2 c_1
      refine lv_iload_n hx hb dX7_areWords_8 rfl (lv_at hl 0 rfl) ?_
      refine lv_iload_n hx hb dX7_areWords_9 rfl (lv_at hl 1 rfl) ?_
      refine lv_iushr hx hb dX7_areWords_10 rfl ?_
      refine lv_sipush (v := 255) hx hb dX7_areWords_11 (by decide) ?_
      refine lv_iand hx hb dX7_areWords_14 ?_
      refine lv_bipush (v := 26) hx hb dX7_areWords_15 (by decide) ?_
      refine lv_icmp_le (tgt := 22) hx hb dX7_areWords_17 (by decide) (fun c_2 => ?_) (fun c_2 => ?_)
      · replace h := h.1 c_2
        refine lv_iinc (v := x1 + (8 : Int32)) (lv' := [(1, .int (x1 + (8 : Int32))), (0, .int x0)]) hx hb dX7_areWords_22 hl (k := 1) rfl rfl (by decide) rfl (fun ls hl => ?_)
        refine lv_goto (tgt := 2) hx hb dX7_areWords_25 (by decide) ?_
        exact ih _ _ h _ _ _ hw (lv_sub hl [1, 0] rfl)
      · replace h := h.2 c_2
        refine lv_iconst (v := 0) hx hb dX7_areWords_20 (by decide) ?_
        exact end_z (w1 := w_0) (u := ()) C0 hw (Or.inl rfl) h dX7_areWords_21
def wp_X7_areWords (x0 : Int32) (post : Int32 → Prop) : Prop :=
    ∃ fu, wp_X7_areWords_2 post fu x0 (0 : Int32)
set_option maxHeartbeats 4000000 in
set_option maxRecDepth 100000 in
theorem c_X7_areWords (l : Launch) (D : va_G) (cy : Nat → ClassId) (x0 : Int32) (post : Int32 → Prop) (h : wp_X7_areWords x0 post) : Ct l yX7_areWords wsX7_areWords rm_X7_areWords D cy [.int x0] [] 0 0 (Ri D w_0 (fun r _ => post r)) := by
  refine Ct.of (cc := cX7_areWords) (maxL := 2) (rt := (some .boolean)) (by decide) rfl (Nat.le_of_ble_eq_true rfl) ?_
  intro p e s m below meth c A C0 _ H locs ls hw hl
  obtain ⟨⟨hx, hb, hml, hown, hts⟩, hr, hlocks, hkx, hA⟩ := id C0
  have hl : lv_has ls 2 [(0, .int x0)] := hl
  unfold wp_X7_areWords at h
  refine lv_iconst (v := 0) hx hb dX7_areWords_0 (by decide) ?_
  refine lv_istore_n (lv' := [(1, .int (0 : Int32)), (0, .int x0)]) hx hb dX7_areWords_1 rfl hl (by decide) rfl (fun ls hl => ?_)
  obtain ⟨n_1, h⟩ := h
  exact w_X7_areWords_2 C0 n_1 _ _ h _ _ _ hw (lv_sub hl [1, 0] rfl)
end
theorem hd_X7_countParts : yX7_countParts.cls ≠ "java/lang/invoke/MethodHandle" ∧ yX7_countParts.cls ≠ "java/lang/invoke/VarHandle" ∧ (parseMethodDescriptor yX7_countParts.desc).map (fun d => d.parameters.length) = some 1 := by decide +kernel
section
variable {p : Program} {l : Launch} {e : Env} {s : State} {m : MethodId} {args : Array Value} {below : List Frame} {meth : Method} {c : Code} {D : va_G} {cy : Nat → ClassId} {A : Nat → Prop}
abbrev rm_X7_countParts : Room := { frames := 0, cells := 0, slots := 0, locals := 0 }
def wp_X7_countParts (x0 : Int32) (post : Int32 → Prop) : Prop :=
    (¬ x0 = 0 →
    ((100 : Int32) ≤ x0 →
    ((10000 : Int32) ≤ x0 →
    post (3 : Int32)) ∧
    (¬ (10000 : Int32) ≤ x0 →
    post (2 : Int32))) ∧
    (¬ (100 : Int32) ≤ x0 →
    post (1 : Int32))) ∧
    (x0 = 0 →
    post (0 : Int32))
set_option maxHeartbeats 4000000 in
set_option maxRecDepth 100000 in
theorem c_X7_countParts (l : Launch) (D : va_G) (cy : Nat → ClassId) (x0 : Int32) (post : Int32 → Prop) (h : wp_X7_countParts x0 post) : Ct l yX7_countParts wsX7_countParts rm_X7_countParts D cy [.int x0] [] 0 0 (Ri D w_0 (fun r _ => post r)) := by
  refine Ct.of (cc := cX7_countParts) (maxL := 1) (rt := (some .int)) (by decide) rfl (Nat.le_of_ble_eq_true rfl) ?_
  intro p e s m below meth c A C0 _ H locs ls hw hl
  obtain ⟨⟨hx, hb, hml, hown, hts⟩, hr, hlocks, hkx, hA⟩ := id C0
  have hl : lv_has ls 1 [(0, .int x0)] := hl
  unfold wp_X7_countParts at h
  refine lv_iload_n hx hb dX7_countParts_0 rfl (lv_at hl 0 rfl) ?_
  refine lv_if_ne (tgt := 6) hx hb dX7_countParts_1 (by decide) (fun c_1 => ?_) (fun c_1 => ?_)
  · replace h := h.1 c_1
    refine lv_iload_n hx hb dX7_countParts_6 rfl (lv_at hl 0 rfl) ?_
    refine lv_bipush (v := 100) hx hb dX7_countParts_7 (by decide) ?_
    refine lv_icmp_ge (tgt := 14) hx hb dX7_countParts_9 (by decide) (fun c_2 => ?_) (fun c_2 => ?_)
    · replace h := h.1 c_2
      refine lv_iload_n hx hb dX7_countParts_14 rfl (lv_at hl 0 rfl) ?_
      refine lv_sipush (v := 10000) hx hb dX7_countParts_15 (by decide) ?_
      refine lv_icmp_ge (tgt := 25) hx hb dX7_countParts_18 (by decide) (fun c_3 => ?_) (fun c_3 => ?_)
      · replace h := h.1 c_3
        refine lv_iconst (v := 3) hx hb dX7_countParts_25 (by decide) ?_
        exact end_i (w1 := w_0) (u := ()) C0 hw h dX7_countParts_26
      · replace h := h.2 c_3
        refine lv_iconst (v := 2) hx hb dX7_countParts_21 (by decide) ?_
        refine lv_goto (tgt := 26) hx hb dX7_countParts_22 (by decide) ?_
        exact end_i (w1 := w_0) (u := ()) C0 hw h dX7_countParts_26
    · replace h := h.2 c_2
      refine lv_iconst (v := 1) hx hb dX7_countParts_12 (by decide) ?_
      exact end_i (w1 := w_0) (u := ()) C0 hw h dX7_countParts_13
  · replace h := h.2 c_1
    refine lv_iconst (v := 0) hx hb dX7_countParts_4 (by decide) ?_
    exact end_i (w1 := w_0) (u := ()) C0 hw h dX7_countParts_5
end
theorem hd_X7_areNumbers : yX7_areNumbers.cls ≠ "java/lang/invoke/MethodHandle" ∧ yX7_areNumbers.cls ≠ "java/lang/invoke/VarHandle" ∧ (parseMethodDescriptor yX7_areNumbers.desc).map (fun d => d.parameters.length) = some 1 := by decide +kernel
section
variable {p : Program} {l : Launch} {e : Env} {s : State} {m : MethodId} {args : Array Value} {below : List Frame} {meth : Method} {c : Code} {D : va_G} {cy : Nat → ClassId} {A : Nat → Prop}
abbrev rm_X7_areNumbers : Room := { frames := 1, cells := 0, slots := 0, locals := 22 }
abbrev G_X7_areNumbers (p : Program) (l : Launch) (e : Env) (s : State) (m : MethodId) (args : Array Value) (below : List Frame) (meth : Method) (c : Code) (D : va_G) (A : Nat → Prop) (cy : Nat → ClassId) (ad : Nat → Nat) (post : Int32 → Prop) : va_W → Nat → List (Nat × Value) → Nat → List Value → Prop := Gw p l e rm_X7_areNumbers s m args below meth c D A (MQ below ((Ri D w_0 (fun r _ => post r)) A) args s 0 0 A)
def wp_X7_areNumbers_19 (post : Int32 → Prop) : Nat → Int32 → Int32 → Prop
  | 0, _, _ => False
  | n + 1, x1, x2 =>
    (x2 ≤ 0 →
    post (1 : Int32)) ∧
    (¬ x2 ≤ 0 →
    wp_X7_isWithin (x1 - x1 / (100 : Int32) * (100 : Int32)) (1 : Int32) (12 : Int32) (fun r_2 =>
    (¬ r_2 = 0 →
    ∀ y_4 : Int32, y_4 = (x1 / (100 : Int32)) →
    wp_X7_areNumbers_19 post n y_4 (x2 + (-1 : Int32))) ∧
    (r_2 = 0 →
    post (0 : Int32))))
set_option maxHeartbeats 4000000 in
set_option maxRecDepth 100000 in
theorem w_X7_areNumbers_19 (C0 : Mc p m c meth cX7_areNumbers 3 s args wsX7_areNumbers RX7 (some .boolean) D cy A) {post : Int32 → Prop} : ∀ (n : Nat) (x1 : Int32) (x2 : Int32), wp_X7_areNumbers_19 post n x1 x2 → G_X7_areNumbers p l e s m args below meth c D A cy id post [] 3 [(1, .int x1), (2, .int x2)] 19 [] := by
  obtain ⟨⟨hx, hb, hml, hown, hts⟩, hr, hlocks, hkx, hA⟩ := id C0
  intro n
  induction n with
  | zero => intro x1 x2 h; exact False.elim h
  | succ n ih =>
    intro x1 x2 h H locs ls hw hl
    unfold wp_X7_areNumbers_19 at h
    refine lv_iload_n hx hb dX7_areNumbers_19 rfl (lv_at hl 1 rfl) ?_
    refine lv_if_le (tgt := 49) hx hb dX7_areNumbers_20 (by decide) (fun c_1 => ?_) (fun c_1 => ?_)
    · replace h := h.1 c_1
      refine lv_iconst (v := 1) hx hb dX7_areNumbers_49 (by decide) ?_
      exact end_z (w1 := w_0) (u := ()) C0 hw (Or.inr rfl) h dX7_areNumbers_50
    · replace h := h.2 c_1
      refine lv_iload_n hx hb dX7_areNumbers_23 rfl (lv_at hl 0 rfl) ?_
      refine lv_bipush (v := 100) hx hb dX7_areNumbers_24 (by decide) ?_
      refine lv_irem hx hb dX7_areNumbers_26 (by decide) ?_
      refine lv_iconst (v := 1) hx hb dX7_areNumbers_27 (by decide) ?_
      refine lv_bipush (v := 12) hx hb dX7_areNumbers_28 (by decide) ?_
      refine call_S0i (As := [.int (x1 - x1 / (100 : Int32) * (100 : Int32)), .int (1 : Int32), .int (12 : Int32)]) ⟨hx, hb, hml, hown, hts⟩ hkx hw hA (c_X7_isWithin l D cy (x1 - x1 / (100 : Int32) * (100 : Int32)) (1 : Int32) (12 : Int32) _ h) (va_cwS 3 hts gX7_areNumbers_X7_isWithin rfl rfl rfl hd_X7_isWithin ⟨Nat.le_of_ble_eq_true rfl, Nat.le_of_ble_eq_true rfl⟩) rfl hl.1 rfl (Nat.le_of_ble_eq_true rfl) dX7_areNumbers_30 ⟨Nat.zero_le _, Nat.zero_le _⟩ (fun r_2 H locs h hw => ?_)
      refine lv_if_ne (tgt := 38) hx hb dX7_areNumbers_33 (by decide) (fun c_3 => ?_) (fun c_3 => ?_)
      · replace h := h.1 c_3
        refine lv_iload_n hx hb dX7_areNumbers_38 rfl (lv_at hl 0 rfl) ?_
        refine lv_bipush (v := 100) hx hb dX7_areNumbers_39 (by decide) ?_
        refine lv_idiv hx hb dX7_areNumbers_41 (by decide) ?_
        refine lv_topi (fun y_4 ey_4 => ?_)
        replace h := h y_4 ey_4
        refine lv_istore_n (lv' := [(1, .int y_4), (2, .int x2)]) hx hb dX7_areNumbers_42 rfl hl (by decide) rfl (fun ls hl => ?_)
        refine lv_iinc (v := x2 + (-1 : Int32)) (lv' := [(2, .int (x2 + (-1 : Int32))), (1, .int y_4)]) hx hb dX7_areNumbers_43 hl (k := 1) rfl rfl (by decide) rfl (fun ls hl => ?_)
        refine lv_goto (tgt := 19) hx hb dX7_areNumbers_46 (by decide) ?_
        exact ih _ _ h _ _ _ hw (lv_sub hl [1, 0] rfl)
      · replace h := h.2 c_3
        refine lv_iconst (v := 0) hx hb dX7_areNumbers_36 (by decide) ?_
        exact end_z (w1 := w_0) (u := ()) C0 hw (Or.inl rfl) h dX7_areNumbers_37
def wp_X7_areNumbers (x0 : Int32) (post : Int32 → Prop) : Prop :=
    wp_X7_isWithin x0 (0 : Int32) (121212 : Int32) (fun r_1 =>
    (¬ r_1 = 0 →
    wp_X7_countParts x0 (fun r_3 =>
    ∃ fu, wp_X7_areNumbers_19 post fu x0 r_3)) ∧
    (r_1 = 0 →
    post (0 : Int32)))
set_option maxHeartbeats 4000000 in
set_option maxRecDepth 100000 in
theorem c_X7_areNumbers (l : Launch) (D : va_G) (cy : Nat → ClassId) (x0 : Int32) (post : Int32 → Prop) (h : wp_X7_areNumbers x0 post) : Ct l yX7_areNumbers wsX7_areNumbers rm_X7_areNumbers D cy [.int x0] [] 0 0 (Ri D w_0 (fun r _ => post r)) := by
  refine Ct.of (cc := cX7_areNumbers) (maxL := 3) (rt := (some .boolean)) (by decide) rfl (Nat.le_of_ble_eq_true rfl) ?_
  intro p e s m below meth c A C0 _ H locs ls hw hl
  obtain ⟨⟨hx, hb, hml, hown, hts⟩, hr, hlocks, hkx, hA⟩ := id C0
  have hl : lv_has ls 3 [(0, .int x0)] := hl
  unfold wp_X7_areNumbers at h
  refine lv_iload_n hx hb dX7_areNumbers_0 rfl (lv_at hl 0 rfl) ?_
  refine lv_iconst (v := 0) hx hb dX7_areNumbers_1 (by decide) ?_
  refine lv_ldc hx hb hown (hts _ (List.mem_of_getElem? (i := 1) rfl)) dX7_areNumbers_2 ?_
  refine call_S0i (As := [.int x0, .int (0 : Int32), .int (121212 : Int32)]) ⟨hx, hb, hml, hown, hts⟩ hkx hw hA (c_X7_isWithin l D cy x0 (0 : Int32) (121212 : Int32) _ h) (va_cwS 3 hts gX7_areNumbers_X7_isWithin rfl rfl rfl hd_X7_isWithin ⟨Nat.le_of_ble_eq_true rfl, Nat.le_of_ble_eq_true rfl⟩) rfl hl.1 rfl (Nat.le_of_ble_eq_true rfl) dX7_areNumbers_4 ⟨Nat.zero_le _, Nat.zero_le _⟩ (fun r_1 H locs h hw => ?_)
  refine lv_if_ne (tgt := 12) hx hb dX7_areNumbers_7 (by decide) (fun c_2 => ?_) (fun c_2 => ?_)
  · replace h := h.1 c_2
    refine lv_iload_n hx hb dX7_areNumbers_12 rfl (lv_at hl 0 rfl) ?_
    refine lv_istore_n (lv' := [(1, .int x0), (0, .int x0)]) hx hb dX7_areNumbers_13 rfl hl (by decide) rfl (fun ls hl => ?_)
    refine lv_iload_n hx hb dX7_areNumbers_14 rfl (lv_at hl 1 rfl) ?_
    refine call_S0i (As := [.int x0]) ⟨hx, hb, hml, hown, hts⟩ hkx hw hA (c_X7_countParts l D cy x0 _ h) (va_cwS 1 hts gX7_areNumbers_X7_countParts rfl rfl rfl hd_X7_countParts ⟨Nat.le_of_ble_eq_true rfl, Nat.le_of_ble_eq_true rfl⟩) rfl hl.1 rfl (Nat.le_of_ble_eq_true rfl) dX7_areNumbers_15 ⟨Nat.zero_le _, Nat.zero_le _⟩ (fun r_3 H locs h hw => ?_)
    refine lv_istore_n (lv' := [(2, .int r_3), (1, .int x0), (0, .int x0)]) hx hb dX7_areNumbers_18 rfl hl (by decide) rfl (fun ls hl => ?_)
    obtain ⟨n_4, h⟩ := h
    exact w_X7_areNumbers_19 C0 n_4 _ _ h _ _ _ hw (lv_sub hl [1, 0] rfl)
  · replace h := h.2 c_2
    refine lv_iconst (v := 0) hx hb dX7_areNumbers_10 (by decide) ?_
    exact end_z (w1 := w_0) (u := ()) C0 hw (Or.inl rfl) h dX7_areNumbers_11
end
theorem hd_X2_unlikePlaces : yX2_unlikePlaces.cls ≠ "java/lang/invoke/MethodHandle" ∧ yX2_unlikePlaces.cls ≠ "java/lang/invoke/VarHandle" ∧ (parseMethodDescriptor yX2_unlikePlaces.desc).map (fun d => d.parameters.length) = some 2 := by decide +kernel
section
variable {p : Program} {l : Launch} {e : Env} {s : State} {m : MethodId} {args : Array Value} {below : List Frame} {meth : Method} {c : Code} {D : va_G} {cy : Nat → ClassId} {A : Nat → Prop}
abbrev rm_X2_unlikePlaces : Room := { frames := 0, cells := 0, slots := 0, locals := 0 }
abbrev G_X2_unlikePlaces (p : Program) (l : Launch) (e : Env) (s : State) (m : MethodId) (args : Array Value) (below : List Frame) (meth : Method) (c : Code) (D : va_G) (A : Nat → Prop) (cy : Nat → ClassId) (ad : Nat → Nat) (post : Int32 → Prop) : va_W → Nat → List (Nat × Value) → Nat → List Value → Prop := Gw p l e rm_X2_unlikePlaces s m args below meth c D A (MQ below ((Ri D w_0 (fun r _ => post r)) A) args s 0 0 A)
def wp_X2_unlikePlaces_4 (post : Int32 → Prop) : Nat → Int32 → Int32 → Int32 → Int32 → Prop
  | 0, _, _, _, _ => False
  | n + 1, x0, x1, x2, x3 =>
    ((32 : Int32) ≤ x3 →
    post x2) ∧
    (¬ (32 : Int32) ≤ x3 →
    (((((x0 ^^^ x1).toUInt32 >>> (x3.toUInt32 &&& Int32.toUInt32 31)).toInt32) &&& (255 : Int32)) = 0 →
    wp_X2_unlikePlaces_4 post n x0 x1 x2 (x3 + (8 : Int32))) ∧
    (¬ ((((x0 ^^^ x1).toUInt32 >>> (x3.toUInt32 &&& Int32.toUInt32 31)).toInt32) &&& (255 : Int32)) = 0 →
    wp_X2_unlikePlaces_4 post n x0 x1 (x2 + (1 : Int32)) (x3 + (8 : Int32))))
set_option maxHeartbeats 4000000 in
set_option maxRecDepth 100000 in
theorem w_X2_unlikePlaces_4 (C0 : Mc p m c meth cX2_unlikePlaces 4 s args wsX2_unlikePlaces RX2 (some .int) D cy A) {post : Int32 → Prop} : ∀ (n : Nat) (x0 : Int32) (x1 : Int32) (x2 : Int32) (x3 : Int32), wp_X2_unlikePlaces_4 post n x0 x1 x2 x3 → G_X2_unlikePlaces p l e s m args below meth c D A cy id post [] 4 [(0, .int x0), (1, .int x1), (2, .int x2), (3, .int x3)] 4 [] := by
  obtain ⟨⟨hx, hb, hml, hown, hts⟩, hr, hlocks, hkx, hA⟩ := id C0
  intro n
  induction n with
  | zero => intro x0 x1 x2 x3 h; exact False.elim h
  | succ n ih =>
    intro x0 x1 x2 x3 h H locs ls hw hl
    unfold wp_X2_unlikePlaces_4 at h
    refine lv_iload_n hx hb dX2_unlikePlaces_4 rfl (lv_at hl 3 rfl) ?_
    refine lv_bipush (v := 32) hx hb dX2_unlikePlaces_5 (by decide) ?_
    refine lv_icmp_ge (tgt := 31) hx hb dX2_unlikePlaces_7 (by decide) (fun c_1 => ?_) (fun c_1 => ?_)
    · replace h := h.1 c_1
      refine lv_iload_n hx hb dX2_unlikePlaces_31 rfl (lv_at hl 2 rfl) ?_
      exact end_i (w1 := w_0) (u := ()) C0 hw h dX2_unlikePlaces_32
    · replace h := h.2 c_1
      refine lv_iload_n hx hb dX2_unlikePlaces_10 rfl (lv_at hl 0 rfl) ?_
      refine lv_iload_n hx hb dX2_unlikePlaces_11 rfl (lv_at hl 1 rfl) ?_
      refine lv_ixor hx hb dX2_unlikePlaces_12 ?_
      refine lv_iload_n hx hb dX2_unlikePlaces_13 rfl (lv_at hl 3 rfl) ?_
      refine lv_iushr hx hb dX2_unlikePlaces_14 rfl ?_
      refine lv_sipush (v := 255) hx hb dX2_unlikePlaces_15 (by decide) ?_
      refine lv_iand hx hb dX2_unlikePlaces_18 ?_
      refine lv_if_eq (tgt := 25) hx hb dX2_unlikePlaces_19 (by decide) (fun c_2 => ?_) (fun c_2 => ?_)
      · replace h := h.1 c_2
        refine lv_iinc (v := x3 + (8 : Int32)) (lv' := [(3, .int (x3 + (8 : Int32))), (0, .int x0), (1, .int x1), (2, .int x2)]) hx hb dX2_unlikePlaces_25 hl (k := 3) rfl rfl (by decide) rfl (fun ls hl => ?_)
        refine lv_goto (tgt := 4) hx hb dX2_unlikePlaces_28 (by decide) ?_
        exact ih _ _ _ _ h _ _ _ hw (lv_sub hl [1, 2, 3, 0] rfl)
      · replace h := h.2 c_2
        refine lv_iinc (v := x2 + (1 : Int32)) (lv' := [(2, .int (x2 + (1 : Int32))), (0, .int x0), (1, .int x1), (3, .int x3)]) hx hb dX2_unlikePlaces_22 hl (k := 2) rfl rfl (by decide) rfl (fun ls hl => ?_)
        refine lv_iinc (v := x3 + (8 : Int32)) (lv' := [(3, .int (x3 + (8 : Int32))), (2, .int (x2 + (1 : Int32))), (0, .int x0), (1, .int x1)]) hx hb dX2_unlikePlaces_25 hl (k := 3) rfl rfl (by decide) rfl (fun ls hl => ?_)
        refine lv_goto (tgt := 4) hx hb dX2_unlikePlaces_28 (by decide) ?_
        exact ih _ _ _ _ h _ _ _ hw (lv_sub hl [2, 3, 1, 0] rfl)
def wp_X2_unlikePlaces (x0 : Int32) (x1 : Int32) (post : Int32 → Prop) : Prop :=
    ∃ fu, wp_X2_unlikePlaces_4 post fu x0 x1 (0 : Int32) (0 : Int32)
set_option maxHeartbeats 4000000 in
set_option maxRecDepth 100000 in
theorem c_X2_unlikePlaces (l : Launch) (D : va_G) (cy : Nat → ClassId) (x0 : Int32) (x1 : Int32) (post : Int32 → Prop) (h : wp_X2_unlikePlaces x0 x1 post) : Ct l yX2_unlikePlaces wsX2_unlikePlaces rm_X2_unlikePlaces D cy [.int x0, .int x1] [] 0 0 (Ri D w_0 (fun r _ => post r)) := by
  refine Ct.of (cc := cX2_unlikePlaces) (maxL := 4) (rt := (some .int)) (by decide) rfl (Nat.le_of_ble_eq_true rfl) ?_
  intro p e s m below meth c A C0 _ H locs ls hw hl
  obtain ⟨⟨hx, hb, hml, hown, hts⟩, hr, hlocks, hkx, hA⟩ := id C0
  have hl : lv_has ls 4 [(0, .int x0), (1, .int x1)] := hl
  unfold wp_X2_unlikePlaces at h
  refine lv_iconst (v := 0) hx hb dX2_unlikePlaces_0 (by decide) ?_
  refine lv_istore_n (lv' := [(2, .int (0 : Int32)), (0, .int x0), (1, .int x1)]) hx hb dX2_unlikePlaces_1 rfl hl (by decide) rfl (fun ls hl => ?_)
  refine lv_iconst (v := 0) hx hb dX2_unlikePlaces_2 (by decide) ?_
  refine lv_istore_n (lv' := [(3, .int (0 : Int32)), (2, .int (0 : Int32)), (0, .int x0), (1, .int x1)]) hx hb dX2_unlikePlaces_3 rfl hl (by decide) rfl (fun ls hl => ?_)
  obtain ⟨n_1, h⟩ := h
  exact w_X2_unlikePlaces_4 C0 n_1 _ _ _ _ h _ _ _ hw (lv_sub hl [2, 3, 1, 0] rfl)
end
theorem hd_X8_in : yX8_in.cls ≠ "java/lang/invoke/MethodHandle" ∧ yX8_in.cls ≠ "java/lang/invoke/VarHandle" ∧ (parseMethodDescriptor yX8_in.desc).map (fun d => d.parameters.length) = some 3 := by decide +kernel
section
variable {p : Program} {l : Launch} {e : Env} {s : State} {m : MethodId} {args : Array Value} {below : List Frame} {meth : Method} {c : Code} {D : va_G} {cy : Nat → ClassId} {A : Nat → Prop}
abbrev rm_X8_in : Room := { frames := 0, cells := 0, slots := 0, locals := 0 }
def wp_X8_in (x0 : Int32) (x1 : Int32) (x2 : Int32) (post : Int32 → Prop) : Prop :=
    (x0 < x1 →
    post (0 : Int32)) ∧
    (¬ x0 < x1 →
    (x2 < x0 →
    post (0 : Int32)) ∧
    (¬ x2 < x0 →
    post (1 : Int32)))
set_option maxHeartbeats 4000000 in
set_option maxRecDepth 100000 in
theorem c_X8_in (l : Launch) (D : va_G) (cy : Nat → ClassId) (x0 : Int32) (x1 : Int32) (x2 : Int32) (post : Int32 → Prop) (h : wp_X8_in x0 x1 x2 post) : Ct l yX8_in wsX8_in rm_X8_in D cy [.int x0, .int x1, .int x2] [] 0 0 (Ri D w_0 (fun r _ => post r)) := by
  refine Ct.of (cc := cX8_in) (maxL := 3) (rt := (some .boolean)) (by decide) rfl (Nat.le_of_ble_eq_true rfl) ?_
  intro p e s m below meth c A C0 _ H locs ls hw hl
  obtain ⟨⟨hx, hb, hml, hown, hts⟩, hr, hlocks, hkx, hA⟩ := id C0
  have hl : lv_has ls 3 [(0, .int x0), (1, .int x1), (2, .int x2)] := hl
  unfold wp_X8_in at h
  refine lv_iload_n hx hb dX8_in_0 rfl (lv_at hl 0 rfl) ?_
  refine lv_iload_n hx hb dX8_in_1 rfl (lv_at hl 1 rfl) ?_
  refine lv_icmp_lt (tgt := 14) hx hb dX8_in_2 (by decide) (fun c_1 => ?_) (fun c_1 => ?_)
  · replace h := h.1 c_1
    refine lv_iconst (v := 0) hx hb dX8_in_14 (by decide) ?_
    exact end_z (w1 := w_0) (u := ()) C0 hw (Or.inl rfl) h dX8_in_15
  · replace h := h.2 c_1
    refine lv_iload_n hx hb dX8_in_5 rfl (lv_at hl 0 rfl) ?_
    refine lv_iload_n hx hb dX8_in_6 rfl (lv_at hl 2 rfl) ?_
    refine lv_icmp_gt (tgt := 14) hx hb dX8_in_7 (by decide) (fun c_2 => ?_) (fun c_2 => ?_)
    · replace h := h.1 c_2
      refine lv_iconst (v := 0) hx hb dX8_in_14 (by decide) ?_
      exact end_z (w1 := w_0) (u := ()) C0 hw (Or.inl rfl) h dX8_in_15
    · replace h := h.2 c_2
      refine lv_iconst (v := 1) hx hb dX8_in_10 (by decide) ?_
      refine lv_goto (tgt := 15) hx hb dX8_in_11 (by decide) ?_
      exact end_z (w1 := w_0) (u := ()) C0 hw (Or.inr rfl) h dX8_in_15
end
theorem hd_X8_areWords : yX8_areWords.cls ≠ "java/lang/invoke/MethodHandle" ∧ yX8_areWords.cls ≠ "java/lang/invoke/VarHandle" ∧ (parseMethodDescriptor yX8_areWords.desc).map (fun d => d.parameters.length) = some 2 := by decide +kernel
section
variable {p : Program} {l : Launch} {e : Env} {s : State} {m : MethodId} {args : Array Value} {below : List Frame} {meth : Method} {c : Code} {D : va_G} {cy : Nat → ClassId} {A : Nat → Prop}
abbrev rm_X8_areWords : Room := { frames := 0, cells := 0, slots := 0, locals := 0 }
abbrev G_X8_areWords (p : Program) (l : Launch) (e : Env) (s : State) (m : MethodId) (args : Array Value) (below : List Frame) (meth : Method) (c : Code) (D : va_G) (A : Nat → Prop) (cy : Nat → ClassId) (ad : Nat → Nat) (post : Int32 → Prop) : va_W → Nat → List (Nat × Value) → Nat → List Value → Prop := Gw p l e rm_X8_areWords s m args below meth c D A (MQ below ((Ri D w_0 (fun r _ => post r)) A) args s 0 0 A)
def wp_X8_areWords_2 (post : Int32 → Prop) : Nat → Int32 → Int32 → Int32 → Prop
  | 0, _, _, _ => False
  | n + 1, x0, x1, x2 =>
    ((4 : Int32) ≤ x2 →
    post (1 : Int32)) ∧
    (¬ (4 : Int32) ≤ x2 →
    ((26 : Int32) < (((x0.toUInt32 >>> (((24 : Int32) - ((8 : Int32) * x2)).toUInt32 &&& Int32.toUInt32 31)).toInt32) &&& (255 : Int32)) →
    post (0 : Int32)) ∧
    (¬ (26 : Int32) < (((x0.toUInt32 >>> (((24 : Int32) - ((8 : Int32) * x2)).toUInt32 &&& Int32.toUInt32 31)).toInt32) &&& (255 : Int32)) →
    ((((x1.toUInt32 >>> (((24 : Int32) - ((8 : Int32) * x2)).toUInt32 &&& Int32.toUInt32 31)).toInt32) &&& (255 : Int32)) ≤ (26 : Int32) →
    wp_X8_areWords_2 post n x0 x1 (x2 + (1 : Int32))) ∧
    (¬ (((x1.toUInt32 >>> (((24 : Int32) - ((8 : Int32) * x2)).toUInt32 &&& Int32.toUInt32 31)).toInt32) &&& (255 : Int32)) ≤ (26 : Int32) →
    post (0 : Int32))))
set_option maxHeartbeats 4000000 in
set_option maxRecDepth 100000 in
theorem w_X8_areWords_2 (C0 : Mc p m c meth cX8_areWords 3 s args wsX8_areWords RX8 (some .boolean) D cy A) {post : Int32 → Prop} : ∀ (n : Nat) (x0 : Int32) (x1 : Int32) (x2 : Int32), wp_X8_areWords_2 post n x0 x1 x2 → G_X8_areWords p l e s m args below meth c D A cy id post [] 3 [(0, .int x0), (1, .int x1), (2, .int x2)] 2 [] := by
  obtain ⟨⟨hx, hb, hml, hown, hts⟩, hr, hlocks, hkx, hA⟩ := id C0
  intro n
  induction n with
  | zero => intro x0 x1 x2 h; exact False.elim h
  | succ n ih =>
    intro x0 x1 x2 h H locs ls hw hl
    unfold wp_X8_areWords_2 at h
    refine lv_iload_n hx hb dX8_areWords_2 rfl (lv_at hl 2 rfl) ?_
    refine lv_iconst (v := 4) hx hb dX8_areWords_3 (by decide) ?_
    refine lv_icmp_ge (tgt := 51) hx hb dX8_areWords_4 (by decide) (fun c_1 => ?_) (fun c_1 => ?_)
    · replace h := h.1 c_1
      refine lv_iconst (v := 1) hx hb dX8_areWords_51 (by decide) ?_
      exact end_z (w1 := w_0) (u := ()) C0 hw (Or.inr rfl) h dX8_areWords_52
    · replace h := h.2 c_1
      refine lv_iload_n hx hb dX8_areWords_7 rfl (lv_at hl 0 rfl) ?_
      refine lv_bipush (v := 24) hx hb dX8_areWords_8 (by decide) ?_
      refine lv_bipush (v := 8) hx hb dX8_areWords_10 (by decide) ?_
      refine lv_iload_n hx hb dX8_areWords_12 rfl (lv_at hl 2 rfl) ?_
      refine lv_imul hx hb dX8_areWords_13 ?_
      refine lv_isub hx hb dX8_areWords_14 ?_
      refine lv_iushr hx hb dX8_areWords_15 rfl ?_
      refine lv_sipush (v := 255) hx hb dX8_areWords_16 (by decide) ?_
      refine lv_iand hx hb dX8_areWords_19 ?_
      refine lv_bipush (v := 26) hx hb dX8_areWords_20 (by decide) ?_
      refine lv_icmp_gt (tgt := 43) hx hb dX8_areWords_22 (by decide) (fun c_2 => ?_) (fun c_2 => ?_)
      · replace h := h.1 c_2
        refine lv_iconst (v := 0) hx hb dX8_areWords_43 (by decide) ?_
        exact end_z (w1 := w_0) (u := ()) C0 hw (Or.inl rfl) h dX8_areWords_44
      · replace h := h.2 c_2
        refine lv_iload_n hx hb dX8_areWords_25 rfl (lv_at hl 1 rfl) ?_
        refine lv_bipush (v := 24) hx hb dX8_areWords_26 (by decide) ?_
        refine lv_bipush (v := 8) hx hb dX8_areWords_28 (by decide) ?_
        refine lv_iload_n hx hb dX8_areWords_30 rfl (lv_at hl 2 rfl) ?_
        refine lv_imul hx hb dX8_areWords_31 ?_
        refine lv_isub hx hb dX8_areWords_32 ?_
        refine lv_iushr hx hb dX8_areWords_33 rfl ?_
        refine lv_sipush (v := 255) hx hb dX8_areWords_34 (by decide) ?_
        refine lv_iand hx hb dX8_areWords_37 ?_
        refine lv_bipush (v := 26) hx hb dX8_areWords_38 (by decide) ?_
        refine lv_icmp_le (tgt := 45) hx hb dX8_areWords_40 (by decide) (fun c_3 => ?_) (fun c_3 => ?_)
        · replace h := h.1 c_3
          refine lv_iinc (v := x2 + (1 : Int32)) (lv' := [(2, .int (x2 + (1 : Int32))), (0, .int x0), (1, .int x1)]) hx hb dX8_areWords_45 hl (k := 2) rfl rfl (by decide) rfl (fun ls hl => ?_)
          refine lv_goto (tgt := 2) hx hb dX8_areWords_48 (by decide) ?_
          exact ih _ _ _ h _ _ _ hw (lv_sub hl [1, 2, 0] rfl)
        · replace h := h.2 c_3
          refine lv_iconst (v := 0) hx hb dX8_areWords_43 (by decide) ?_
          exact end_z (w1 := w_0) (u := ()) C0 hw (Or.inl rfl) h dX8_areWords_44
def wp_X8_areWords (x0 : Int32) (x1 : Int32) (post : Int32 → Prop) : Prop :=
    ∃ fu, wp_X8_areWords_2 post fu x0 x1 (0 : Int32)
set_option maxHeartbeats 4000000 in
set_option maxRecDepth 100000 in
theorem c_X8_areWords (l : Launch) (D : va_G) (cy : Nat → ClassId) (x0 : Int32) (x1 : Int32) (post : Int32 → Prop) (h : wp_X8_areWords x0 x1 post) : Ct l yX8_areWords wsX8_areWords rm_X8_areWords D cy [.int x0, .int x1] [] 0 0 (Ri D w_0 (fun r _ => post r)) := by
  refine Ct.of (cc := cX8_areWords) (maxL := 3) (rt := (some .boolean)) (by decide) rfl (Nat.le_of_ble_eq_true rfl) ?_
  intro p e s m below meth c A C0 _ H locs ls hw hl
  obtain ⟨⟨hx, hb, hml, hown, hts⟩, hr, hlocks, hkx, hA⟩ := id C0
  have hl : lv_has ls 3 [(0, .int x0), (1, .int x1)] := hl
  unfold wp_X8_areWords at h
  refine lv_iconst (v := 0) hx hb dX8_areWords_0 (by decide) ?_
  refine lv_istore_n (lv' := [(2, .int (0 : Int32)), (0, .int x0), (1, .int x1)]) hx hb dX8_areWords_1 rfl hl (by decide) rfl (fun ls hl => ?_)
  obtain ⟨n_1, h⟩ := h
  exact w_X8_areWords_2 C0 n_1 _ _ _ h _ _ _ hw (lv_sub hl [1, 2, 0] rfl)
end
theorem hd_X8_counterOf : yX8_counterOf.cls ≠ "java/lang/invoke/MethodHandle" ∧ yX8_counterOf.cls ≠ "java/lang/invoke/VarHandle" ∧ (parseMethodDescriptor yX8_counterOf.desc).map (fun d => d.parameters.length) = some 2 := by decide +kernel
section
variable {p : Program} {l : Launch} {e : Env} {s : State} {m : MethodId} {args : Array Value} {below : List Frame} {meth : Method} {c : Code} {D : va_G} {cy : Nat → ClassId} {A : Nat → Prop}
abbrev rm_X8_counterOf : Room := { frames := 0, cells := 0, slots := 0, locals := 0 }
def wp_X8_counterOf (x0 : Int32) (x1 : Int32) (post : Int32 → Prop) : Prop :=
    (¬ x1 = (1 : Int32) →
    (¬ x1 = (2 : Int32) →
    post (x0 - x0 / (33 : Int32) * (33 : Int32))) ∧
    (x1 = (2 : Int32) →
    post ((x0 / (33 : Int32)) - (x0 / (33 : Int32)) / (33 : Int32) * (33 : Int32)))) ∧
    (x1 = (1 : Int32) →
    post (x0 / (1089 : Int32)))
set_option maxHeartbeats 4000000 in
set_option maxRecDepth 100000 in
theorem c_X8_counterOf (l : Launch) (D : va_G) (cy : Nat → ClassId) (x0 : Int32) (x1 : Int32) (post : Int32 → Prop) (h : wp_X8_counterOf x0 x1 post) : Ct l yX8_counterOf wsX8_counterOf rm_X8_counterOf D cy [.int x0, .int x1] [] 0 0 (Ri D w_0 (fun r _ => post r)) := by
  refine Ct.of (cc := cX8_counterOf) (maxL := 2) (rt := (some .int)) (by decide) rfl (Nat.le_of_ble_eq_true rfl) ?_
  intro p e s m below meth c A C0 _ H locs ls hw hl
  obtain ⟨⟨hx, hb, hml, hown, hts⟩, hr, hlocks, hkx, hA⟩ := id C0
  have hl : lv_has ls 2 [(0, .int x0), (1, .int x1)] := hl
  unfold wp_X8_counterOf at h
  refine lv_iload_n hx hb dX8_counterOf_0 rfl (lv_at hl 1 rfl) ?_
  refine lv_iconst (v := 1) hx hb dX8_counterOf_1 (by decide) ?_
  refine lv_icmp_ne (tgt := 13) hx hb dX8_counterOf_2 (by decide) (fun c_1 => ?_) (fun c_1 => ?_)
  · replace h := h.1 c_1
    refine lv_iload_n hx hb dX8_counterOf_13 rfl (lv_at hl 1 rfl) ?_
    refine lv_iconst (v := 2) hx hb dX8_counterOf_14 (by decide) ?_
    refine lv_icmp_ne (tgt := 28) hx hb dX8_counterOf_15 (by decide) (fun c_2 => ?_) (fun c_2 => ?_)
    · replace h := h.1 c_2
      refine lv_iload_n hx hb dX8_counterOf_28 rfl (lv_at hl 0 rfl) ?_
      refine lv_bipush (v := 33) hx hb dX8_counterOf_29 (by decide) ?_
      refine lv_irem hx hb dX8_counterOf_31 (by decide) ?_
      exact end_i (w1 := w_0) (u := ()) C0 hw h dX8_counterOf_32
    · replace h := h.2 c_2
      refine lv_iload_n hx hb dX8_counterOf_18 rfl (lv_at hl 0 rfl) ?_
      refine lv_bipush (v := 33) hx hb dX8_counterOf_19 (by decide) ?_
      refine lv_idiv hx hb dX8_counterOf_21 (by decide) ?_
      refine lv_bipush (v := 33) hx hb dX8_counterOf_22 (by decide) ?_
      refine lv_irem hx hb dX8_counterOf_24 (by decide) ?_
      refine lv_goto (tgt := 32) hx hb dX8_counterOf_25 (by decide) ?_
      exact end_i (w1 := w_0) (u := ()) C0 hw h dX8_counterOf_32
  · replace h := h.2 c_1
    refine lv_iload_n hx hb dX8_counterOf_5 rfl (lv_at hl 0 rfl) ?_
    refine lv_sipush (v := 1089) hx hb dX8_counterOf_6 (by decide) ?_
    refine lv_idiv hx hb dX8_counterOf_9 (by decide) ?_
    refine lv_goto (tgt := 32) hx hb dX8_counterOf_10 (by decide) ?_
    exact end_i (w1 := w_0) (u := ()) C0 hw h dX8_counterOf_32
end
