/-! the law's entry: what the tables give -/
set_option maxRecDepth 100000 in
theorem st_D {args : Array Value} {s : State} (hts : ∀ w ∈ lw_tbl, w.before args s = true) : ∃ D : va_G, ∀ (k : Nat) (q : vw_C), vwCl[k]? = some q → u_Kn s q.1 q.2.1 q.2.2 (D.1 k) (D.2 k) := by
  obtain ⟨c0, i0, h0⟩ := u_known (C := RX0) (T := TX0) (N := 2) (n := 2) hts tm_X00 (hts _ (tb_1 (List.mem_of_getElem? (i := 124) rfl)))
  obtain ⟨c1, i1, h1⟩ := u_known (C := RX1) (T := TX1) (N := 9) (n := 9) hts tm_X10 (hts _ (tb_1 (List.mem_of_getElem? (i := 68) rfl)))
  obtain ⟨c2, i2, h2⟩ := u_known (C := RX2) (T := TX2) (N := 15) (n := 15) hts tm_X20 (hts _ (tb_1 (List.mem_of_getElem? (i := 195) rfl)))
  obtain ⟨c3, i3, h3⟩ := u_known (C := RX3) (T := TX3) (N := 2) (n := 2) hts tm_X30 (hts _ (tb_1 (List.mem_of_getElem? (i := 50) rfl)))
  obtain ⟨c4, i4, h4⟩ := u_known (C := RX4) (T := TX4) (N := 3) (n := 3) hts tm_X40 (hts _ (tb_1 (List.mem_of_getElem? (i := 25) rfl)))
  obtain ⟨c5, i5, h5⟩ := u_known (C := RX5) (T := TX5) (N := 10) (n := 10) hts tm_X50 (hts _ (tb_2 (List.mem_of_getElem? (i := 15) rfl)))
  obtain ⟨c6, i6, h6⟩ := u_known (C := RX6) (T := TX6) (N := 15) (n := 15) hts tm_X60 (hts _ (tb_1 (List.mem_of_getElem? (i := 118) rfl)))
  obtain ⟨c7, i7, h7⟩ := u_known (C := RX7) (T := TX7) (N := 9) (n := 9) hts tm_X70 (hts _ (tb_1 (List.mem_of_getElem? (i := 17) rfl)))
  obtain ⟨c8, i8, h8⟩ := u_known (C := RX8) (T := TX8) (N := 35) (n := 35) hts tm_X80 (hts _ (tb_3 (List.mem_of_getElem? (i := 202) rfl)))
  refine ⟨(fun k => match k with | 0 => c0 | 1 => c1 | 2 => c2 | 3 => c3 | 4 => c4 | 5 => c5 | 6 => c6 | 7 => c7 | _ => c8, fun k => match k with | 0 => i0 | 1 => i1 | 2 => i2 | 3 => i3 | 4 => i4 | 5 => i5 | 6 => i6 | 7 => i7 | _ => i8), ?_⟩
  intro k q hq
  match k, hq with
  | 0, hq => cases hq; exact h0
  | 1, hq => cases hq; exact h1
  | 2, hq => cases hq; exact h2
  | 3, hq => cases hq; exact h3
  | 4, hq => cases hq; exact h4
  | 5, hq => cases hq; exact h5
  | 6, hq => cases hq; exact h6
  | 7, hq => cases hq; exact h7
  | 8, hq => cases hq; exact h8
  | k + 9, hq => simp at hq
theorem st_arr {args : Array Value} {s : State} {ty : FieldType} (h : (Cond.arrayClass ty).before args s = true) : ∃ c, ArrOfT s c ty ∧ s.vm.findClass ("[" ++ ty.toString) = some c := by
  obtain ⟨c, k, comp, h1, h2, h3⟩ := Cond.arrayClass_spec (args := args) (first := s) (o := none) (s := s) (idx := []) h
  exact ⟨c, fun n z => ⟨fun k h => (by cases h), k, h2, comp, h3⟩, h1⟩
set_option maxRecDepth 100000 in
theorem st_kx {args : Array Value} {s : State} (hts : ∀ w ∈ lw_tbl, w.before args s = true) : ∃ (D : va_G) (cy : Nat → ClassId), kx D cy s := by
  obtain ⟨D, hD⟩ := st_D hts
  obtain ⟨c0, a0, r0⟩ := st_arr (ty := .int) (hts _ (tb_1 (List.mem_of_getElem? (i := 48) rfl)))
  obtain ⟨c1, a1, r1⟩ := st_arr (ty := .long) (hts _ (tb_1 (List.mem_of_getElem? (i := 137) rfl)))
  obtain ⟨c2, a2, r2⟩ := st_arr (ty := .boolean) (hts _ (tb_1 (List.mem_of_getElem? (i := 116) rfl)))
  refine ⟨D, fun k => match k with | 0 => c0 | 1 => c1 | _ => c2, ⟨hD, ?_⟩, va_Nw.of rfl (hts _ (tb_2 (List.mem_of_getElem? (i := 110) rfl))), va_Nw.of rfl (hts _ (tb_2 (List.mem_of_getElem? (i := 133) rfl))), va_Nw.of rfl (hts _ (tb_2 (List.mem_of_getElem? (i := 142) rfl))), va_Nw.of rfl (hts _ (tb_1 (List.mem_of_getElem? (i := 26) rfl))), va_Nw.of rfl (hts _ (tb_1 (List.mem_of_getElem? (i := 51) rfl))), va_Nw.of rfl (hts _ (tb_1 (List.mem_of_getElem? (i := 69) rfl)))⟩
  intro k q hq
  match k, hq with
  | 0, hq => cases hq; exact ⟨a0, r0⟩
  | 1, hq => cases hq; exact ⟨a1, r1⟩
  | 2, hq => cases hq; exact ⟨a2, r2⟩
  | k + 3, hq => simp at hq
set_option maxRecDepth 100000 in
theorem st_xk {args : Array Value} {s : State} (hts : ∀ w ∈ lw_tbl, w.before args s = true) (hgv : (Jvm.Cond.and given_1 narrow_1).before args s = true) : xk s := by
  have hs := flat_of_before _ hgv
  obtain ⟨a0, -, -, -, q0, -⟩ := Cond.exactly_spec (args := args) (first := s) (o := none) (s := s) (idx := []) (t := .string RX7 163) (cls := "java/lang/String") (hs (.exactly (.string RX7 163) "java/lang/String") (by decide +kernel))
  obtain ⟨a1, -, -, -, q1, -⟩ := Cond.exactly_spec (args := args) (first := s) (o := none) (s := s) (idx := []) (t := .string RX7 190) (cls := "java/lang/String") (hs (.exactly (.string RX7 190) "java/lang/String") (by decide +kernel))
  obtain ⟨a2, -, -, -, q2, -⟩ := Cond.exactly_spec (args := args) (first := s) (o := none) (s := s) (idx := []) (t := .string RX7 206) (cls := "java/lang/String") (hs (.exactly (.string RX7 206) "java/lang/String") (by decide +kernel))
  exact ⟨va_Nw.of rfl (hts _ (tb_3 (List.mem_of_getElem? (i := 121) rfl))), va_Nw.of rfl (hts _ (tb_3 (List.mem_of_getElem? (i := 123) rfl))), va_Nw.of rfl (hts _ (tb_3 (List.mem_of_getElem? (i := 125) rfl))), va_Nw.of rfl (hts _ (tb_3 (List.mem_of_getElem? (i := 119) rfl))), ⟨a0, vk_R.of (hts _ (tb_3 (List.mem_of_getElem? (i := 156) rfl))) q0⟩, ⟨a1, vk_R.of (hts _ (tb_3 (List.mem_of_getElem? (i := 192) rfl))) q1⟩, ⟨a2, vk_R.of (hts _ (tb_3 (List.mem_of_getElem? (i := 200) rfl))) q2⟩⟩
set_option maxRecDepth 100000 in
theorem st_xz {args : Array Value} {s : State} (hts : ∀ w ∈ lw_tbl, w.before args s = true) (hgv : (Jvm.Cond.and given_1 narrow_1).before args s = true) : xz (lA s) s s.heap := by
  have hs := flat_of_before _ hgv
  exact ⟨vx_Zqof (hts _ (tb_3 (List.mem_of_getElem? (i := 144) rfl))) (hts _ (tb_1 (List.mem_of_getElem? (i := 12) rfl))) (hs (.isRef (.static Bundle.tN "UNASSIGNED_STACK" Bundle.steD)) (by decide +kernel)) (fun a ha h => Nat.not_le.mpr ha h), vx_Zqof (hts _ (tb_3 (List.mem_of_getElem? (i := 146) rfl))) (hts _ (tb_1 (List.mem_of_getElem? (i := 12) rfl))) (hs (.isRef (.static Bundle.tN "SUPPRESSED_SENTINEL" Bundle.listD)) (by decide +kernel)) (fun a ha h => Nat.not_le.mpr ha h)⟩
