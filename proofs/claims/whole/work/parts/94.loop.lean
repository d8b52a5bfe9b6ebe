/-! the law: its loop -/
section
variable {p : Program} {l : Launch} {e : Env} {s : State} {m : MethodId} {below : List Frame} {meth : Method} {c : Code} {b L : Nat} {xs : Nat → Int32} {D : va_G} {cy : Nat → ClassId} {ad am : Nat → Nat} {o : Nat}
theorem law_770 (E : LE p l s m meth c b L xs D cy) {n : Nat} (k : LG p l e s m below meth c b D cy ad am o (n + 1) (n + 1) 23) : LG p l e s m below meth c b D cy ad am o (n + 1) n 770 := by
  obtain ⟨⟨hx, hb, hr, hml, hown, hts, hX, hbl, hlocks, hgv⟩, hL, hst, hkx, hxk, hxz⟩ := E
  intro f κ σ τ μ H locs ls hw hJ hl
  refine lv_iinc (v := nI (8 * n) + (8 : Int32)) (lv' := [(4, .int (nI (8 * n) + (8 : Int32))), (0, .ref b), (1, .ref (ad 0)), (2, .ref (am 0)), (3, .ref o)]) hx hb dL_law_770 hl (k := 0) rfl rfl (by decide) rfl (fun ls hl => ?_)
  refine lv_goto (tgt := 23) hx hb dL_law_773 (by decide) ?_
  rw [show nI (8 * n) + (8 : Int32) = nI (8 * (n + 1)) by rw [nlit 8, nI_add]; rfl] at hl
  exact k f κ σ τ μ H locs ls hw hJ hl
set_option maxHeartbeats 4000000 in
set_option maxRecDepth 100000 in
theorem law_loop (E : LE p l s m meth c b L xs D cy) : ∀ (d n : Nat), 8 * n ≤ L + 8 → L + 8 < 8 * (n + d) → LG p l e s m below meth c b D cy ad am o n n 23 := by
  intro d
  induction d with
  | zero => intro n h1 h2; omega
  | succ d ih =>
    intro n h1 h2
    obtain ⟨⟨hx, hb, hr, hml, hown, hts, hX, hbl, hlocks, hgv⟩, hL, hst, hkx, hxk, hxz⟩ := id E
    intro f κ σ τ μ H locs ls hw hJ hl
    have hbA : ¬ lA s b := Nat.not_le.mpr hbl
    refine lv_iload hx hb dL_law_23 (lv_at hl 0 rfl) ?_
    refine lv_aload_n hx hb dL_law_25 rfl (lv_at hl 1 rfl) ?_
    refine va_slen hx hb hX hbl hbA hw.2.2 dL_law_26 ?_
    refine lv_bipush (v := 8) hx hb dL_law_27 (by decide) ?_
    refine lv_isub hx hb dL_law_29 ?_
    have ht : (nI L - (8 : Int32)).toInt = (L : Int) - 8 := pk_sub_toInt (b := 8) (by omega) (by decide)
    have hi : (nI (8 * n)).toInt = ((8 * n : Nat) : Int) := nI_toInt (by omega)
    refine lv_icmp_gt (tgt := 776) hx hb dL_law_30 (by decide) (fun g => ?_) (fun g => ?_)
    · refine lv_iconst (v := 1) hx hb dL_law_776 (by decide) ?_
      refine va_forget (fun q hq => hw.2.2.2.2 q hq) ?_
      refine W.widen (k := 601024) (n := 7293034) (by omega) (by omega) ?_
      exact lw_ret hx hb hr hlocks dL_law_777
    · have hn : 8 * n + 8 ≤ L := by
        have g2 : ¬ (nI L - (8 : Int32)) < nI (8 * n) := g
        rw [Int32.lt_iff_toInt_lt, ht, hi] at g2
        omega
      have k := law_770 E (ih (n + 1) (by omega) (by omega))
      refine lv_aload_n hx hb dL_law_33 rfl (lv_at hl 1 rfl) ?_
      refine lv_iload hx hb dL_law_34 (lv_at hl 0 rfl) ?_
      refine va_sld hx hb hX hbl hbA hw.2.2 (vp_in_nI (by omega) (by omega)) dL_law_36 ?_
      refine lv_bipush (v := 15) hx hb dL_law_37 (by decide) ?_
      refine lv_iand hx hb dL_law_39 ?_
      obtain ⟨j, hj, ej⟩ := pk_andE (xs (nI (8 * n)).toNatClampNeg) (m := 15) 4 (by decide)
      refine lv_topi (fun y ey => ?_)
      replace ey := ey.trans ej
      have hj : j < 16 := hj
      rcases (show j = 0 ∨ j = 1 ∨ j = 2 ∨ j = 3 ∨ j = 4 ∨ j = 5 ∨ j = 6 ∨ j = 7 ∨ j = 8 ∨ j = 9 ∨ j = 10 ∨ j = 11 ∨ j = 12 ∨ j = 13 ∨ j = 14 ∨ j = 15 by omega) with rfl | rfl | rfl | rfl | rfl | rfl | rfl | rfl | rfl | rfl | rfl | rfl | rfl | rfl | rfl | rfl
      · refine lv_tableIn (tgt := 120) hx hb dL_law_40 (by rw [ey]; decide) (by rw [ey]; decide) (off := 80) (by rw [ey]; rfl) (by decide) ?_
        exact law_c0 E hn k f κ σ τ μ H locs ls hw hJ hl
      · refine lv_tableIn (tgt := 145) hx hb dL_law_40 (by rw [ey]; decide) (by rw [ey]; decide) (off := 105) (by rw [ey]; rfl) (by decide) ?_
        exact law_c1 E hn k f κ σ τ μ H locs ls hw hJ hl
      · refine lv_tableIn (tgt := 182) hx hb dL_law_40 (by rw [ey]; decide) (by rw [ey]; decide) (off := 142) (by rw [ey]; rfl) (by decide) ?_
        exact law_c2 E hn k f κ σ τ μ H locs ls hw hJ hl
      · refine lv_tableIn (tgt := 299) hx hb dL_law_40 (by rw [ey]; decide) (by rw [ey]; decide) (off := 259) (by rw [ey]; rfl) (by decide) ?_
        exact law_c3 E hn k f κ σ τ μ H locs ls hw hJ hl
      · refine lv_tableIn (tgt := 348) hx hb dL_law_40 (by rw [ey]; decide) (by rw [ey]; decide) (off := 308) (by rw [ey]; rfl) (by decide) ?_
        exact law_c4 E hn k f κ σ τ μ H locs ls hw hJ hl
      · refine lv_tableIn (tgt := 361) hx hb dL_law_40 (by rw [ey]; decide) (by rw [ey]; decide) (off := 321) (by rw [ey]; rfl) (by decide) ?_
        exact law_c5 E hn k f κ σ τ μ H locs ls hw hJ hl
      · refine lv_tableIn (tgt := 398) hx hb dL_law_40 (by rw [ey]; decide) (by rw [ey]; decide) (off := 358) (by rw [ey]; rfl) (by decide) ?_
        exact law_c6 E hn k f κ σ τ μ H locs ls hw hJ hl
      · refine lv_tableIn (tgt := 435) hx hb dL_law_40 (by rw [ey]; decide) (by rw [ey]; decide) (off := 395) (by rw [ey]; rfl) (by decide) ?_
        exact law_c7 E hn k f κ σ τ μ H locs ls hw hJ hl
      · refine lv_tableIn (tgt := 460) hx hb dL_law_40 (by rw [ey]; decide) (by rw [ey]; decide) (off := 420) (by rw [ey]; rfl) (by decide) ?_
        exact law_c8 E hn k f κ σ τ μ H locs ls hw hJ hl
      · refine lv_tableIn (tgt := 528) hx hb dL_law_40 (by rw [ey]; decide) (by rw [ey]; decide) (off := 488) (by rw [ey]; rfl) (by decide) ?_
        exact law_c9 E hn k f κ σ τ μ H locs ls hw hJ hl
      · refine lv_tableIn (tgt := 565) hx hb dL_law_40 (by rw [ey]; decide) (by rw [ey]; decide) (off := 525) (by rw [ey]; rfl) (by decide) ?_
        exact law_c10 E hn k f κ σ τ μ H locs ls hw hJ hl
      · refine lv_tableIn (tgt := 626) hx hb dL_law_40 (by rw [ey]; decide) (by rw [ey]; decide) (off := 586) (by rw [ey]; rfl) (by decide) ?_
        exact law_c11 E hn k f κ σ τ μ H locs ls hw hJ hl
      · refine lv_tableIn (tgt := 639) hx hb dL_law_40 (by rw [ey]; decide) (by rw [ey]; decide) (off := 599) (by rw [ey]; rfl) (by decide) ?_
        exact law_c12 E hn k f κ σ τ μ H locs ls hw hJ hl
      · refine lv_tableIn (tgt := 664) hx hb dL_law_40 (by rw [ey]; decide) (by rw [ey]; decide) (off := 624) (by rw [ey]; rfl) (by decide) ?_
        exact law_c13 E hn k f κ σ τ μ H locs ls hw hJ hl
      · refine lv_tableIn (tgt := 720) hx hb dL_law_40 (by rw [ey]; decide) (by rw [ey]; decide) (off := 680) (by rw [ey]; rfl) (by decide) ?_
        exact law_c14 E hn k f κ σ τ μ H locs ls hw hJ hl
      · refine lv_tableIn (tgt := 745) hx hb dL_law_40 (by rw [ey]; decide) (by rw [ey]; decide) (off := 705) (by rw [ey]; rfl) (by decide) ?_
        exact law_c15 E hn k f κ σ τ μ H locs ls hw hJ hl
end
