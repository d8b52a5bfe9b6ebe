/-! the reference: right, entry, line -/
theorem m_right {B : Bk} {n : Nat} {μ : Sg} (hI : MI B n μ) {x y z : Int32} {post : Int32 → Sg → Prop} (h1 : ∀ (l s v : Nat) (μ' : Sg), l < bL B → x = nI l → s ≤ 9 → y = nI s → nok v → z = nI v → MI (bRight B l s v) (n + 1) μ' → post 1 μ') (h0 : (∀ l s v, l < bL B → x = nI l → s ≤ 9 → y = nI s → nok v → z ≠ nI v) → ∀ μ' : Sg, MI B (n + 1) μ' → post 0 μ') : wp_X8_right x y z μ post := by
  unfold wp_X8_right
  intro μ1 e1
  have hI1 := hI.thr e1
  obtain ⟨hB, ⟨c1, c2, c3, c4⟩, -⟩ := id hI1
  have h20 := hB.L
  have no : (∀ l s v, l < bL B → x = nI l → s ≤ 9 → y = nI s → nok v → z ≠ nI v) → post 0 μ1 := fun w => h0 w μ1 (hI1.mono (by omega))
  refine m_isLine hB c2 (fun l hl ex => ⟨fun w => absurd w (by decide), fun _ => ?_⟩) (fun g => ⟨fun _ => no (fun l s v hl ex _ _ _ _ => g l hl ex), fun w => absurd rfl w⟩)
  refine m_in (a := 0) (b := 9) (by decide) (by decide) (fun s _ hs ey => ⟨fun w => absurd w (by decide), fun _ => ?_⟩) (fun g => ⟨fun _ => no (fun l s v hl ex hs ey _ _ => g s (Nat.zero_le _) hs ey), fun w => absurd rfl w⟩)
  have hcp : ∀ v, ¬ nI (cp v) = (-1 : Int32) := fun v w => by
    have h3 := cp_le v
    have h4 := nI_pos' (n := cp v) (by omega)
    rw [w] at h4
    exact absurd h4 (by decide)
  refine m_partsNull (fun v ez hv => ⟨fun _ => ⟨by rw [ex]; exact vp_in_nI (by omega) (by decide), fun μ11 e11 => ?_⟩, fun w => absurd w (hcp v)⟩) (fun g => ⟨fun w => absurd rfl w, fun _ => no (fun l s v _ _ _ _ hv ez => g v ez hv)⟩)
  rw [ex, ey, nI_clamp (by omega)] at e11
  rw [ex, ez, show (3 : Int32) * nI l = nI (3 * l) by rw [nlit 3, pk_mul], nI_clamp (by omega)]
  refine m_partsPut hv (by omega) (fun μ13 g1 g2 g3 => ⟨vp_in_nI (by omega) (by decide), fun μ15 e15 μ16 e16 => ?_⟩)
  have k : ∀ j, j ≠ 4 → j ≠ 11 → j ≠ 15 → j ≠ 16 → μ16 j = μ1 j := fun j u1 u2 u3 u4 => by rw [e16, sig_ne u1, e15, sig_ne u3, g1 j u4, e11, sig_ne u2]
  have k11 : μ16 11 = upd (μ1 11) l (nI s) := by rw [e16, sig_ne (by decide), e15, sig_ne (by decide), g1 11 (by decide), e11, sig_eq]
  have k15 : μ16 15 = upd (μ1 15) l (nI (cp v)) := by rw [e16, sig_ne (by decide), e15, sig_eq, g1 15 (by decide), e11, sig_ne (by decide)]
  have k16 : μ16 16 = μ13 16 := by rw [e16, sig_ne (by decide), e15, sig_ne (by decide)]
  refine h1 l s v μ16 hl ex hs ey hv ez (hI1.set (bRight_ok hB hs hv) ⟨mPg_same (μ := μ1) (fun j hj => k j (by omega) (by omega) (by omega) (by omega)) c1, ⟨by rw [k 1 (by decide) (by decide) (by decide) (by decide)]; exact c2.1, fun q hq => ?_, fun i hi => ?_, fun q j hq hj => ?_⟩, mSe_same (μ := μ1) (fun j hj => k j (by omega) (by omega) (by omega) (by omega)) c3, mEn_same (μ := μ1) (fun j hj => k j (by omega) (by omega) (by omega) (by omega)) c4⟩ (k 7 (by decide) (by decide) (by decide) (by decide)) (k 34 (by decide) (by decide) (by decide) (by decide)) (by rw [e16, sig_eq]))
  · obtain ⟨d1, d2, d3, d4, d5⟩ := c2.2.1 q hq
    rw [k 10 (by decide) (by decide) (by decide) (by decide), k11, k 12 (by decide) (by decide) (by decide) (by decide), k 13 (by decide) (by decide) (by decide) (by decide), k15]
    refine ⟨d1, ?_, d3, d4, ?_⟩
    · show _ = nI (if q = l then s else sz B q)
      by_cases w : q = l
      · rw [w, pk_us, if_pos rfl]
      · rw [pk_un w, if_neg w]; exact d2
    · show _ = nI (if q = l then cp v else np B q)
      by_cases w : q = l
      · rw [w, pk_us, if_pos rfl]
      · rw [pk_un w, if_neg w]; exact d5
  · rw [k 14 (by decide) (by decide) (by decide) (by decide)]
    exact c2.2.2.1 i hi
  · have hj : j < (if q = l then cp v else np B q) := hj
    rw [k16]
    show _ = nI (if 3 * l ≤ 3 * q + j ∧ 3 * q + j < 3 * l + 3 then pn v (3 * q + j - 3 * l) else nu B (3 * q + j))
    have hc := cp_le v
    have hnp := (hB.hsz q).2.2.2
    by_cases w : q = l
    · rw [if_pos w] at hj
      rw [if_pos (by omega), w, show 3 * l + j - 3 * l = j by omega]
      exact g3 j hj
    · rw [if_neg w] at hj
      rw [if_neg (by omega), g2 _ (by omega), e11, sig_ne (by decide)]
      exact c2.2.2.2 q j hq hj
theorem putw_i (f : Nat → Nat) (e na nb k : Nat) (hk : k < 4) : putw f e na nb (8 * e + k) = by4 na k ∧ putw f e na nb (8 * e + 4 + k) = by4 nb k := by
  constructor
  · unfold putw; rw [if_pos (by omega), show 8 * e + k - 8 * e = k by omega]
  · unfold putw; rw [if_neg (by omega), if_pos (by omega), show 8 * e + 4 + k - (8 * e + 4) = k by omega]
theorem put8 {g : Nat → Int32} {f : Nat → Nat} {e na nb : Nat} (h0 : ∀ i, i < 8 * e → g i = nI (f i)) (h1 : ∀ k, k < 4 → g (8 * e + k) = nI (by4 na k) ∧ g (8 * e + 4 + k) = nI (by4 nb k)) {i : Nat} (hi : i < 8 * (e + 1)) : g i = nI (putw f e na nb i) := by
  rcases Nat.lt_or_ge i (8 * e) with q | q
  · rw [putw_o _ _ _ q]; exact h0 i q
  · rcases Nat.lt_or_ge i (8 * e + 4) with w | w
    · have a := (h1 (i - 8 * e) (by omega)).1
      have b := (putw_i f e na nb (i - 8 * e) (by omega)).1
      rw [show 8 * e + (i - 8 * e) = i by omega] at a b
      rw [a, b]
    · have a := (h1 (i - (8 * e + 4)) (by omega)).2
      have b := (putw_i f e na nb (i - (8 * e + 4)) (by omega)).2
      rw [show 8 * e + 4 + (i - (8 * e + 4)) = i by omega] at a b
      rw [a, b]
theorem m_entry {B : Bk} {n : Nat} {μ : Sg} (hI : MI B n μ) {x y : Int32} {na nb : Nat} (hna : na < 2 ^ 32) (hnb : nb < 2 ^ 32) {post : Int32 → Sg → Prop} (h1 : ∀ (lev num : Nat) (μ' : Sg), bE B < 12 → 1 ≤ lev → lev ≤ 3 → x = nI lev → num ≤ 999 → y = nI num → wok na → wok nb → MI (bEntry B lev num na nb) (n + 1) μ' → post (nI (bE B)) μ') (h0 : (∀ lev num, bE B < 12 → 1 ≤ lev → lev ≤ 3 → x = nI lev → num ≤ 999 → y = nI num → wok na → ¬ wok nb) → ∀ μ' : Sg, MI B (n + 1) μ' → post (-1) μ') : wp_X8_entry x y (nI na) (nI nb) μ post := by
  unfold wp_X8_entry
  intro μ1 e1
  have hI1 := hI.thr e1
  obtain ⟨hB, ⟨c1, c2, c3, c4⟩, -⟩ := id hI1
  have h12 := hB.E
  have no : (∀ lev num, bE B < 12 → 1 ≤ lev → lev ≤ 3 → x = nI lev → num ≤ 999 → y = nI num → wok na → ¬ wok nb) → post (-1) μ1 := fun w => h0 w μ1 (hI1.mono (by omega))
  refine m_in (a := 1) (b := 3) (by decide) (by decide) (fun lev l1 l3 ex => ⟨fun w => absurd w (by decide), fun _ => ?_⟩) (fun g => ⟨fun _ => no (fun lev num _ l1 l3 ex _ _ _ => absurd ex (g lev l1 l3)), fun w => absurd rfl w⟩)
  refine m_in (a := 0) (b := 999) (by decide) (by decide) (fun num _ hnum ey => ⟨fun w => absurd w (by decide), fun _ => ?_⟩) (fun g => ⟨fun _ => no (fun lev num _ _ _ _ hn ey _ => absurd ey (g num (Nat.zero_le _) hn)), fun w => absurd rfl w⟩)
  refine m_areWords hna hnb (fun wa9 wb9 => ⟨fun w => absurd w (by decide), fun _ => ?_⟩) (fun g => ⟨fun _ => no (fun _ _ _ _ _ _ _ _ u1 u2 => g ⟨u1, u2⟩), fun w => absurd rfl w⟩)
  have h12' : ((μ1 2 0) = (12 : Int32)) = (bE B = 12) := by rw [c4.1, nlit 12]; exact propext (nI_eq (by omega) (by decide))
  rw [h12']
  refine ⟨fun g => ?_, fun g => no (fun _ _ z => by omega)⟩
  have hv : vp_in (nI (bE B)) 12 := vp_in_nI (by omega) (by decide)
  rw [c4.1, nI_clamp (by omega), ex, ey]
  refine ⟨hv, fun μ10 e10 => ?_⟩
  have h102 : μ10 2 0 = nI (bE B) := by rw [e10, sig_ne (by decide)]; exact c4.1
  rw [h102, nI_clamp (by omega)]
  refine ⟨hv, fun μ12 e12 => ?_⟩
  have h122 : μ12 2 0 = nI (bE B) := by rw [e12, sig_ne (by decide)]; exact h102
  rw [h122, show (8 : Int32) * nI (bE B) = nI (8 * bE B) by rw [nlit 8, pk_mul]]
  refine m_layentryWords hna hnb (by omega) (fun μ13 g1 g2 g3 μ14 e14 μ15 e15 => ?_)
  have h132 : μ13 2 0 = nI (bE B) := by rw [g1 2 (by decide)]; exact h122
  rw [h132, nI_1] at e14
  have h152 : μ15 2 0 = nI (bE B + 1) := by rw [e15, sig_ne (by decide), e14, sig_eq]
  rw [h152, ns1]
  have k : ∀ j, j ≠ 2 → j ≠ 4 → j ≠ 19 → j ≠ 20 → j ≠ 21 → μ15 j = μ1 j := fun j u1 u2 u3 u4 u5 => by rw [e15, sig_ne u2, e14, sig_ne u1, g1 j u5, e12, sig_ne u4, e10, sig_ne u3]
  have k19 : μ15 19 = upd (μ1 19) (bE B) (nI lev) := by rw [e15, sig_ne (by decide), e14, sig_ne (by decide), g1 19 (by decide), e12, sig_ne (by decide), e10, sig_eq]
  have k20 : μ15 20 = upd (μ1 20) (bE B) (nI num) := by rw [e15, sig_ne (by decide), e14, sig_ne (by decide), g1 20 (by decide), e12, sig_eq, e10, sig_ne (by decide)]
  have k21 : μ15 21 = μ13 21 := by rw [e15, sig_ne (by decide), e14, sig_ne (by decide)]
  have kw : μ12 21 = μ1 21 := by rw [e12, sig_ne (by decide), e10, sig_ne (by decide)]
  refine h1 lev num μ15 (by omega) l1 l3 ex hnum ey wa9 wb9 (hI1.set (bEntry_ok hB (by omega) l1 l3 hnum wa9 wb9) ⟨mPg_same (μ := μ1) (fun j hj => k j (by omega) (by omega) (by omega) (by omega) (by omega)) c1, mLn_same (μ := μ1) (fun j hj => k j (by omega) (by omega) (by omega) (by omega) (by omega)) c2, mSe_same (μ := μ1) (fun j hj => k j (by omega) (by omega) (by omega) (by omega) (by omega)) c3, ⟨h152, fun e he => ?_, fun i hi => ?_⟩⟩ (k 7 (by decide) (by decide) (by decide) (by decide) (by decide)) (k 34 (by decide) (by decide) (by decide) (by decide) (by decide)) (by rw [e15, sig_eq]))
  · have he : e < bE B + 1 := he
    rw [k19, k20]
    show _ = nI (if e = bE B then lev else el B e) ∧ _ = nI (if e = bE B then num else en B e)
    by_cases w : e = bE B
    · rw [w, pk_us, pk_us, if_pos rfl, if_pos rfl]; exact ⟨rfl, rfl⟩
    · rw [pk_un w, pk_un w, if_neg w, if_neg w]; exact c4.2.1 e (by omega)
  · have hi : i < 8 * (bE B + 1) := hi
    rw [k21]
    show _ = nI (putw (B 15) (bE B) na nb i)
    exact put8 (fun j hj => by rw [g2 j hj, kw]; exact c4.2.2 j hj) g3 hi
theorem m_line {B : Bk} {n : Nat} {μ : Sg} (hI : MI B n μ) {x y z u : Int32} {c na nb : Nat} (hc : c ≤ 1) (hna : na < 2 ^ 32) (hnb : nb < 2 ^ 32) {post : Int32 → Sg → Prop} (h1 : ∀ (p s b v : Nat) (μ' : Sg), x = nI p → y = nI s → z = nI b → u = nI v → lnok B p s b na nb v → MI (bLine B p s b c na nb v) (n + 1) μ' → post (nI (bL B)) μ') (h0 : (∀ p s b v, x = nI p → y = nI s → z = nI b → u = nI v → ¬ lnok B p s b na nb v) → ∀ μ' : Sg, MI B (n + 1) μ' → post (-1) μ') : wp_X8_line x y z (nI c) (nI na) (nI nb) u μ post := by
  unfold wp_X8_line
  intro μ1 e1
  have hI1 := hI.thr e1
  obtain ⟨hB, ⟨c1, c2, c3, c4⟩, -⟩ := id hI1
  have h20 := hB.L
  have hN := hB.N
  have no : (∀ p s b v, x = nI p → y = nI s → z = nI b → u = nI v → ¬ lnok B p s b na nb v) → post (-1) μ1 := fun w => h0 w μ1 (hI1.mono (by omega))
  rw [c1.1]
  refine m_in0 (by omega) (fun p hp ex => ⟨fun w => absurd w (by decide), fun _ => ?_⟩) (fun g => ⟨fun _ => no (fun p s b v ex _ _ _ hk => g p hk.1 ex), fun w => absurd rfl w⟩)
  refine m_in (a := 0) (b := 9) (by decide) (by decide) (fun s _ hs ey => ⟨fun w => absurd w (by decide), fun _ => ?_⟩) (fun g => ⟨fun _ => no (fun p s b v _ ey _ _ hk => g s (Nat.zero_le _) hk.2.2.2.1 ey), fun w => absurd rfl w⟩)
  refine m_in (a := 0) (b := 9) (by decide) (by decide) (fun b _ hb ez => ⟨fun w => absurd w (by decide), fun _ => ?_⟩) (fun g => ⟨fun _ => no (fun p s b v _ _ ez _ hk => g b (Nat.zero_le _) hk.2.2.2.2.1 ez), fun w => absurd rfl w⟩)
  refine m_areWords hna hnb (fun wa9 wb9 => ⟨fun w => absurd w (by decide), fun _ => ?_⟩) (fun g => ⟨fun _ => no (fun p s b v _ _ _ _ hk => g ⟨hk.2.2.2.2.2.1, hk.2.2.2.2.2.2.1⟩), fun w => absurd rfl w⟩)
  have hcp : ∀ v, ¬ nI (cp v) = (-1 : Int32) := fun v w => by
    have h3 := cp_le v
    have h4 := nI_pos' (n := cp v) (by omega)
    rw [w] at h4
    exact absurd h4 (by decide)
  refine m_partsNull (fun v eu hv => ⟨fun w => absurd w (hcp v), fun _ => ?_⟩) (fun g => ⟨fun _ => no (fun p s b v _ _ _ eu hk => g v eu hk.2.2.2.2.2.2.2), fun w => absurd rfl w⟩)
  have ep : ∀ p', x = nI p' → p' < bN B → p' = p := fun p' e h => nI_inj (by omega) (by omega) (by rw [← e, ex])
  have h20' : ((μ1 1 0) = (20 : Int32)) = (bL B = 20) := by rw [c2.1, nlit 20]; exact propext (nI_eq (by omega) (by decide))
  rw [h20', c2.1, nI_le0 (by omega)]
  have hvl : bL B < 20 → vp_in (nI (bL B)) 20 := fun h => vp_in_nI h (by decide)
  have put : bL B < 20 → (bL B = 0 ∨ pg B (bL B - 1) ≤ p) → wp_X8_line_94 post x y z (nI c) (nI na) (nI nb) u μ1 := fun q1 q2 => by
    have hk : lnok B p s b na nb v := ⟨hp, q1, q2, hs, hb, wa9, wb9, hv⟩
    unfold wp_X8_line_94
    rw [c2.1, nI_clamp (by omega), ex, ey, ez, eu]
    refine ⟨hvl q1, fun μ2 e2 => ?_⟩
    have h21 : μ2 1 0 = nI (bL B) := by rw [e2, sig_ne (by decide)]; exact c2.1
    rw [h21, nI_clamp (by omega)]
    refine ⟨hvl q1, fun μ4 e4 => ?_⟩
    have h41 : μ4 1 0 = nI (bL B) := by rw [e4, sig_ne (by decide)]; exact h21
    rw [h41, nI_clamp (by omega)]
    refine ⟨hvl q1, fun μ6 e6 => ?_⟩
    have h61 : μ6 1 0 = nI (bL B) := by rw [e6, sig_ne (by decide)]; exact h41
    rw [h61, nI_clamp (by omega)]
    refine ⟨hvl q1, ?_, fun μ9 e9 => ?_⟩
    · rcases (show c = 0 ∨ c = 1 by omega) with rfl | rfl
      · exact Or.inl rfl
      · exact Or.inr rfl
    have h91 : μ9 1 0 = nI (bL B) := by rw [e9, sig_ne (by decide)]; exact h61
    rw [h91, show (8 : Int32) * nI (bL B) = nI (8 * bL B) by rw [nlit 8, pk_mul]]
    refine m_laywords hna hnb (by omega) (fun μ10 g1 g2 g3 => ?_)
    have h101 : μ10 1 0 = nI (bL B) := by rw [g1 1 (by decide)]; exact h91
    rw [h101, show (3 : Int32) * nI (bL B) = nI (3 * bL B) by rw [nlit 3, pk_mul], nI_clamp (by omega)]
    refine m_partsPut hv (by omega) (fun μ12 f1 f2 f3 => ⟨hvl q1, fun μ14 e14 μ15 e15 μ16 e16 => ?_⟩)
    have h141 : μ14 1 0 = nI (bL B) := by rw [e14, sig_ne (by decide), f1 1 (by decide)]; exact h101
    rw [h141, nI_1] at e15
    have h161 : μ16 1 0 = nI (bL B + 1) := by rw [e16, sig_ne (by decide), e15, sig_eq]
    rw [h161, ns1]
    have k : ∀ j, j ≠ 1 → j ≠ 4 → (j < 10 ∨ 16 < j) → μ16 j = μ1 j := fun j u1 u2 u3 => by rw [e16, sig_ne u2, e15, sig_ne u1, e14, sig_ne (by omega), f1 j (by omega), g1 j (by omega), e9, sig_ne (by omega), e6, sig_ne (by omega), e4, sig_ne (by omega), e2, sig_ne (by omega)]
    have k0 : ∀ j, j ≠ 1 → j ≠ 4 → j ≠ 15 → j ≠ 16 → j ≠ 14 → μ16 j = μ9 j := fun j u1 u2 u3 u4 u5 => by rw [e16, sig_ne u2, e15, sig_ne u1, e14, sig_ne u3, f1 j u4, g1 j u5]
    have k10 : μ16 10 = upd (μ1 10) (bL B) (nI p) := by rw [k0 10 (by decide) (by decide) (by decide) (by decide) (by decide), e9, sig_ne (by decide), e6, sig_ne (by decide), e4, sig_ne (by decide), e2, sig_eq]
    have k11 : μ16 11 = upd (μ1 11) (bL B) (nI s) := by rw [k0 11 (by decide) (by decide) (by decide) (by decide) (by decide), e9, sig_ne (by decide), e6, sig_ne (by decide), e4, sig_eq, e2, sig_ne (by decide)]
    have k12 : μ16 12 = upd (μ1 12) (bL B) (nI b) := by rw [k0 12 (by decide) (by decide) (by decide) (by decide) (by decide), e9, sig_ne (by decide), e6, sig_eq, e4, sig_ne (by decide), e2, sig_ne (by decide)]
    have k13 : μ16 13 = upd (μ1 13) (bL B) (nI c) := by rw [k0 13 (by decide) (by decide) (by decide) (by decide) (by decide), e9, sig_eq, e6, sig_ne (by decide), e4, sig_ne (by decide), e2, sig_ne (by decide)]
    have k15 : μ16 15 = upd (μ1 15) (bL B) (nI (cp v)) := by rw [e16, sig_ne (by decide), e15, sig_ne (by decide), e14, sig_eq, f1 15 (by decide), g1 15 (by decide), e9, sig_ne (by decide), e6, sig_ne (by decide), e4, sig_ne (by decide), e2, sig_ne (by decide)]
    have k14 : μ16 14 = μ10 14 := by rw [e16, sig_ne (by decide), e15, sig_ne (by decide), e14, sig_ne (by decide), f1 14 (by decide)]
    have k914 : μ9 14 = μ1 14 := by rw [e9, sig_ne (by decide), e6, sig_ne (by decide), e4, sig_ne (by decide), e2, sig_ne (by decide)]
    have k16 : μ16 16 = μ12 16 := by rw [e16, sig_ne (by decide), e15, sig_ne (by decide), e14, sig_ne (by decide)]
    have k1016 : μ10 16 = μ1 16 := by rw [g1 16 (by decide), e9, sig_ne (by decide), e6, sig_ne (by decide), e4, sig_ne (by decide), e2, sig_ne (by decide)]
    refine h1 p s b v μ16 ex ey ez eu hk (hI1.set (bLine_ok hB hk hc) ⟨mPg_same (μ := μ1) (fun j hj => k j (by omega) (by omega) (by omega)) c1, ⟨h161, fun q hq => ?_, fun i hi => ?_, fun q j hq hj => ?_⟩, mSe_same (μ := μ1) (fun j hj => k j (by omega) (by omega) (by omega)) c3, mEn_same (μ := μ1) (fun j hj => k j (by omega) (by omega) (by omega)) c4⟩ (k 7 (by decide) (by decide) (by omega)) (k 34 (by decide) (by decide) (by omega)) (by rw [e16, sig_eq]))
    · have hq : q < bL B + 1 := hq
      rw [k10, k11, k12, k13, k15]
      show _ = nI (if q = bL B then p else pg B q) ∧ _ = nI (if q = bL B then s else sz B q) ∧ _ = nI (if q = bL B then b else bl B q) ∧ _ = nI (if q = bL B then c else ce B q) ∧ _ = nI (if q = bL B then cp v else np B q)
      by_cases w : q = bL B
      · rw [w, pk_us, pk_us, pk_us, pk_us, pk_us]
        simp only [if_true]
        exact ⟨trivial, trivial, trivial, trivial, trivial⟩
      · rw [pk_un w, pk_un w, pk_un w, pk_un w, pk_un w]
        simp only [if_neg w]
        exact c2.2.1 q (by omega)
    · have hi : i < 8 * (bL B + 1) := hi
      rw [k14]
      show _ = nI (putw (B 8) (bL B) na nb i)
      exact put8 (fun j hj => by rw [g2 j hj, k914]; exact c2.2.2.1 j hj) g3 hi
    · have hq : q < bL B + 1 := hq
      have hj : j < (if q = bL B then cp v else np B q) := hj
      rw [k16]
      show _ = nI (if 3 * bL B ≤ 3 * q + j ∧ 3 * q + j < 3 * bL B + 3 then pn v (3 * q + j - 3 * bL B) else nu B (3 * q + j))
      have hcv := cp_le v
      have hnp := (hB.hsz q).2.2.2
      by_cases w : q = bL B
      · rw [if_pos w] at hj
        rw [if_pos (by omega), w, show 3 * bL B + j - 3 * bL B = j by omega]
        exact f3 j hj
      · rw [if_neg w] at hj
        rw [if_neg (by omega), f2 _ (by omega), k1016]
        exact c2.2.2.2 q j (by omega) hj
  refine ⟨fun g => no (fun p s b v _ _ _ _ hk => by have := hk.2.1; omega), fun g => ⟨fun g2 => put (by omega) (Or.inl g2), fun g2 => ?_⟩⟩
  have hpg := hB.hpg (l := bL B - 1) (by omega)
  rw [nlit 1, pk_sub (by omega), nI_clamp (by omega), (c2.2.1 (bL B - 1) (by omega)).1, ex, nI_leI (by omega) (by omega)]
  rw [ex] at put no
  refine ⟨vp_in_nI (by omega) (by decide), fun w => put (by omega) (Or.inr w), fun w => no (fun p' s b v e _ _ _ hk => ?_)⟩
  have e9 := ep p' (by rw [ex]; exact e) hk.1
  rcases hk.2.2.1 with h | h
  · omega
  · rw [e9] at h; exact w h
