set_option maxHeartbeats 4000000 in
set_option maxRecDepth 100000 in
/-- from the entry, for every script of at most 4096 ints, the law comes to its end with true -/
theorem whole_start {p : Program} {e : Env} {s : State} {m : MethodId} {below : List Frame} {meth : Method} {c : Code} (l : Launch) (hst : l.stackTraces = false) {b L : Nat} {xs : Nat → Int32} (hL : L ≤ 4096) (C0 : lw_At p s m meth c b L xs) : W p l e room_1 s m #[Value.ref b] below meth c s.heap [] 0 0 (lw_Z below #[Value.ref b] s) (entryFrame m ([Value.ref b] : List Value).toArray 7) := by
  obtain ⟨hx, hb, hr, hml, hown, hts, hX, hbl, hlocks, hgv⟩ := id C0
  obtain ⟨D, cy, hkx⟩ := st_kx hts
  have E : LE p l s m meth c b L xs D cy := ⟨C0, hL, hst, hkx, st_xk hts hgv, st_xz hts hgv⟩
  have hA : ∀ q, s.heap.size ≤ q → lA s q := fun _ h => h
  have hw : Hw D (lA s) [] s s.heap [] := ⟨fun k q h => by simp at h, ⟨fun i j p q h => by simp at h, fun k q h => by simp at h⟩, va_S.rf⟩
  have hl := lv_entry ([.ref b]) (n := 7) (Nat.le_of_ble_eq_true rfl)
  rw [lg_entry_eq]
  generalize (lg_sl ([.ref b]) ++ List.replicate (7 - (lg_sl ([.ref b])).length) Slot.unset).toArray = ls at hl ⊢
  have hl : lv_has ls 7 [(0, .ref b)] := hl
  refine va_new (ci := 7) (fs := [.null, .null, .null, .null, .null, .null, .int 0, .int 0, .int 0]) (C := RX7) (T := TX7) (N := 9) hx hb hts tm_X70 tyX7 tyX7_ok hown (hts _ (tb_1 (List.mem_of_getElem? (i := 16) rfl))) (hts _ (tb_1 (List.mem_of_getElem? (i := 17) rfl))) (hts _ (tb_1 (List.mem_of_getElem? (i := 1) rfl))) hkx.1 hw.1 hw.2.1 hw.2.2 hA rfl (fun j hj => by rcases (show j = 0 ∨ j = 1 ∨ j = 2 ∨ j = 3 ∨ j = 4 ∨ j = 5 ∨ j = 6 ∨ j = 7 ∨ j = 8 by omega) with rfl | rfl | rfl | rfl | rfl | rfl | rfl | rfl | rfl <;> rfl) (Nat.le_of_ble_eq_true rfl) (Nat.le_of_ble_eq_true rfl) dL_law_0 (fun q0 H hP hD hS => ?_)
  have hw : Hw D (lA s) ([] ++ [(q0, .inr (7, [.null, .null, .null, .null, .null, .null, .int 0, .int 0, .int 0]))]) s H [] := ⟨hP, hD, hS⟩
  clear hP hD hS
  refine lv_dup hx hb dL_law_3 rfl ?_
  refine call_I (ws := []) (As := []) ⟨hx, hb, hml, hown, hts⟩ hkx hw hA (c_X7_init l D cy q0) (cwI 0 hts gT_X7_init rfl rfl rfl (hts _ (tb_1 (List.mem_of_getElem? (i := 1) rfl))) (hts _ (tb_1 (List.mem_of_getElem? (i := 18) rfl))) (hts _ (tb_1 (List.mem_of_getElem? (i := 19) rfl))) rfl hd_X7_init ⟨Nat.le_of_ble_eq_true rfl, Nat.le_of_ble_eq_true rfl⟩) rfl hl.1 rfl (Nat.le_of_ble_eq_true rfl) dL_law_4 ⟨Nat.le_of_ble_eq_true rfl, Nat.le_of_ble_eq_true rfl⟩ (fun u H locs hu hw => ?_)
  obtain ⟨hu0, hu1, hu2⟩ := hu
  rw [← hu0]
  have hw : Hw D (lA s) (cfW cy u.1 u.2.1 cfσ0 u.2.2) s H locs := hw
  refine lv_astore_n (lv' := [(1, .ref (u.1 0)), (0, .ref b)]) hx hb dL_law_7 rfl hl (by decide) rfl (fun ls hl => ?_)
  refine va_new (ci := 8) (fs := [.int 0, .null, .null, .null, .null, .null, .null, .null, .null, .int 0, .null, .null, .null, .null, .null, .int 0, .int 0, .int 0, .null, .null, .null, .int 0, .null, .int 0, .null, .null, .null, .null, .null, .null, .null, .null, .null, .int 0, .int 0]) (C := RX8) (T := TX8) (N := 35) hx hb hts tm_X80 tyX8 tyX8_ok hown (hts _ (tb_3 (List.mem_of_getElem? (i := 201) rfl))) (hts _ (tb_3 (List.mem_of_getElem? (i := 202) rfl))) (hts _ (tb_1 (List.mem_of_getElem? (i := 10) rfl))) hkx.1 hw.1 hw.2.1 hw.2.2 hA rfl (fun j hj => by rcases (show j = 0 ∨ j = 1 ∨ j = 2 ∨ j = 3 ∨ j = 4 ∨ j = 5 ∨ j = 6 ∨ j = 7 ∨ j = 8 ∨ j = 9 ∨ j = 10 ∨ j = 11 ∨ j = 12 ∨ j = 13 ∨ j = 14 ∨ j = 15 ∨ j = 16 ∨ j = 17 ∨ j = 18 ∨ j = 19 ∨ j = 20 ∨ j = 21 ∨ j = 22 ∨ j = 23 ∨ j = 24 ∨ j = 25 ∨ j = 26 ∨ j = 27 ∨ j = 28 ∨ j = 29 ∨ j = 30 ∨ j = 31 ∨ j = 32 ∨ j = 33 ∨ j = 34 by omega) with rfl | rfl | rfl | rfl | rfl | rfl | rfl | rfl | rfl | rfl | rfl | rfl | rfl | rfl | rfl | rfl | rfl | rfl | rfl | rfl | rfl | rfl | rfl | rfl | rfl | rfl | rfl | rfl | rfl | rfl | rfl | rfl | rfl | rfl | rfl <;> rfl) (Nat.le_of_ble_eq_true rfl) (Nat.le_of_ble_eq_true rfl) dL_law_8 (fun q1 H hP hD hS => ?_)
  have hw : Hw D (lA s) (cfW cy u.1 u.2.1 cfσ0 u.2.2 ++ [(q1, .inr (8, [.int 0, .null, .null, .null, .null, .null, .null, .null, .null, .int 0, .null, .null, .null, .null, .null, .int 0, .int 0, .int 0, .null, .null, .null, .int 0, .null, .int 0, .null, .null, .null, .null, .null, .null, .null, .null, .null, .int 0, .int 0]))]) s H locs := ⟨hP, hD, hS⟩
  clear hP hD hS
  refine lv_dup hx hb dL_law_11 rfl ?_
  refine call_I (ws := cfW cy u.1 u.2.1 cfσ0 u.2.2) (As := []) ⟨hx, hb, hml, hown, hts⟩ hkx hw hA (c_X8_init l D cy q1) (cwI 0 hts gT_X8_init rfl rfl rfl (hts _ (tb_1 (List.mem_of_getElem? (i := 10) rfl))) (hts _ (tb_3 (List.mem_of_getElem? (i := 203) rfl))) (hts _ (tb_3 (List.mem_of_getElem? (i := 204) rfl))) rfl hd_X8_init ⟨Nat.le_of_ble_eq_true rfl, Nat.le_of_ble_eq_true rfl⟩) rfl hl.1 rfl (Nat.le_of_ble_eq_true rfl) dL_law_12 ⟨Nat.le_of_ble_eq_true rfl, Nat.le_of_ble_eq_true rfl⟩ (fun v H locs hv hw => ?_)
  rw [← hv]
  refine lv_astore_n (lv' := [(2, .ref (v 0)), (1, .ref (u.1 0)), (0, .ref b)]) hx hb dL_law_15 rfl hl (by decide) rfl (fun ls hl => ?_)
  refine lv_iconst (v := 1) hx hb dL_law_16 (by decide) ?_
  refine row_newJ (i := 1) (N' := 1) hx hb (hts _ (tb_1 (List.mem_of_getElem? (i := 137) rfl))) hkx hw hA (by decide) rfl (Nat.le_of_ble_eq_true rfl) (Nat.le_of_ble_eq_true rfl) (Nat.le_of_ble_eq_true rfl) dL_law_17 (fun q2 H hw => ?_)
  have hw : Hw D (lA s) (LWd cy u.1 v q2 (fun _ => 0) u.2.1 cfσ0 u.2.2 mdσ0) s H locs := hw_rot hw
  refine lv_astore_n (lv' := [(3, .ref q2), (2, .ref (v 0)), (1, .ref (u.1 0)), (0, .ref b)]) hx hb dL_law_19 rfl hl (by decide) rfl (fun ls hl => ?_)
  refine lv_iconst (v := 0) hx hb dL_law_20 (by decide) ?_
  refine lv_istore (lv' := [(4, .int 0), (3, .ref q2), (2, .ref (v 0)), (1, .ref (u.1 0)), (0, .ref b)]) hx hb dL_law_21 hl (by decide) rfl (fun ls hl => ?_)
  have hl : lv_has ls 7 [(4, .int (nI (8 * 0))), (0, .ref b), (1, .ref (u.1 0)), (2, .ref (v 0)), (3, .ref q2)] := lv_sub hl [0, 4, 3, 2, 1] rfl
  refine W.widen (k := 69 + 0) (n := 1451834 + 6 * 0) (Nat.le_of_ble_eq_true rfl) (Nat.le_of_ble_eq_true rfl) ?_
  exact law_loop E (L + 2) 0 (by omega) (by omega) (fun _ => 0) u.2.1 cfσ0 u.2.2 mdσ0 H locs ls hw ⟨Bk0, CI_0 hu1 hu2, MI_0⟩ hl
