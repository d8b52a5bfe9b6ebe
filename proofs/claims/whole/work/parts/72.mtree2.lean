/-! the reference: the tree is found -/
theorem m_114 {c : C3} (hc : bnd c 32) {l v h : Nat} (hl : l < 20) (hv3 : v ≤ 3) (hh : h < 20) {post : Sg → Prop} {k56 : Int32 → Int32 → Sg → Prop} : ∀ (f k : Nat) (μ : Sg), k ≤ 3 → 3 < k + f → μ 6 0 = nI h →
    (∀ μ' : Sg, (∀ j, j ≠ 24 → j ≠ 6 → j ≠ 25 → μ' j = μ j) → (∀ i, i < 3 * l → μ' 24 i = μ 24 i) → (∀ j, j < k → μ' 24 (3 * l + j) = μ 24 (3 * l + j)) → (∀ j, k ≤ j → j < 3 → μ' 24 (3 * l + j) = nI (gt3 c (j + 1))) → μ' 6 0 = nI (if v = 0 then h else h + 1) → (∀ i, μ' 25 i = if v ≠ 0 ∧ i = h then nI l else μ 25 i) → k56 (nI (p33 c)) (nI (l + 1)) μ') → wp_X8_findTree_114 post k56 f (nI (p33 c)) (nI l) (nI v) (nI k) μ := by
  intro f
  induction f with
  | zero => intro k μ a1 a2; omega
  | succ f ih =>
    intro k μ a1 a2 h6 hp
    unfold wp_X8_findTree_114
    have e1 : (3 : Int32) * nI l + nI k = nI (3 * l + k) := by rw [nlit 3, pk_mul, nI_add]
    rw [e1, nlit 3, nI_leI (by decide) (by omega), nI_eq0 (by omega), nI_clamp (by omega), show nI k + (1 : Int32) = nI (k + 1) from nI_1 k, show nI l + (1 : Int32) = nI (l + 1) from nI_1 l, h6]
    refine ⟨fun q => ⟨fun g => ⟨vp_in_nI hh (by decide), fun μ4 e4 μ5 e5 => ?_⟩, fun g => ?_⟩, fun q => m_counterOf hc (by omega) (by omega) ⟨vp_in_nI (by omega) (by decide), fun μ8 e8 => ?_⟩⟩
    · rw [nI_clamp (by omega)] at e4
      have h46 : μ4 6 0 = nI h := by rw [e4, sig_ne (by decide)]; exact h6
      refine hp μ5 (fun j u1 u2 u3 => by rw [e5, sig_ne u2, e4, sig_ne u3]) (fun i hi => by rw [e5, sig_ne (by decide), e4, sig_ne (by decide)]) (fun j hj => by rw [e5, sig_ne (by decide), e4, sig_ne (by decide)]) (fun j j1 j2 => by omega) ?_ (fun i => ?_)
      · rw [e5, sig_eq, h46, if_neg g]; exact nI_1 h
      · rw [e5, sig_ne (by decide), e4, sig_eq]
        by_cases w : i = h
        · rw [w, pk_us, if_pos ⟨g, rfl⟩]
        · rw [pk_un w, if_neg (fun z => w z.2)]
    · exact hp μ (fun _ _ _ _ => rfl) (fun _ _ => rfl) (fun _ _ => rfl) (fun j j1 j2 => by omega) (by rw [if_pos g]; exact h6) (fun i => by rw [if_neg (fun z => z.1 g)])
    · refine ih (k + 1) μ8 (by omega) (by omega) (by rw [e8, sig_ne (by decide)]; exact h6) (fun μ' g1 g2 g3 g4 g5 g6 => hp μ' (fun j u1 u2 u3 => by rw [g1 j u1 u2 u3, e8, sig_ne u1]) (fun i hi => by rw [g2 i hi, e8, sig_eq, pk_un (by omega)]) (fun j hj => by rw [g3 j (by omega), e8, sig_eq, pk_un (by omega)]) (fun j j1 j2 => ?_) g5 (fun i => by rw [g6 i, e8, sig_ne (by decide)]))
      rcases Nat.lt_or_ge k j with w | w
      · exact g4 j w j2
      · rw [g3 j (by omega), e8, sig_eq, show j = k by omega, pk_us]
theorem st_bnd {B : Bk} (hB : bok B) : ∀ l, bnd (st B l) (12 + l)
  | 0 => ⟨Nat.zero_le _, Nat.zero_le _, Nat.zero_le _⟩
  | l + 1 => nc_bnd hB (st_bnd hB l) (Nat.le_add_right 12 l)
def mtree (B : Bk) (μ : Sg) : Prop := mrn B μ ∧ μ 5 0 = nI (ls B (bL B) (0, 0, 0)) ∧ μ 6 0 = nI (bH B) ∧ (∀ l, l < bL B → μ 23 l = nI (lv B l)) ∧ (∀ l k, l < bL B → k < 3 → μ 24 (3 * l + k) = nI (gt3 (st B (l + 1)) (k + 1))) ∧ ∀ j, j < bH B → μ 25 j = nI (hd B j)
theorem hn_le1 (B : Bk) (l : Nat) : hn B l ≤ hn B (l + 1) := by rw [hn]; split <;> omega
theorem m_findTree {B : Bk} {T : Nat} {μ : Sg} (hB : bok B) (hL : mLn B μ) (hS : mSe B μ) (h7 : μ 7 0 = nI T) (ha : ∀ p, p < 718740 → ∃ t, t ≤ T ∧ μ 34 p = nI t) (hT : T + 1 < 2 ^ 31) {post : Sg → Prop}
    (hp : ∀ μ' : Sg, (∀ k, k < 5 ∨ (8 ≤ k ∧ k ≤ 21) ∨ (26 ≤ k ∧ k ≤ 32) → μ' k = μ k) → μ' 7 0 = nI (T + 1) → (∀ p, p < 718740 → ∃ t, t ≤ T + 1 ∧ μ' 34 p = nI t) → mtree B μ' → post μ') : wp_X8_findTree μ post := by
  have h20 := hB.L
  have l56 : ∀ (f l : Nat) (μ1 : Sg), l ≤ bL B → bL B < l + f → (∀ k, k < 5 ∨ (8 ≤ k ∧ k ≤ 21) ∨ (26 ≤ k ∧ k ≤ 32) → μ1 k = μ k) → mst B (T + 1) μ1 → μ1 5 0 = nI (ls B (bL B) (0, 0, 0)) → μ1 6 0 = nI (hn B l) → (∀ i, i < l → μ1 23 i = nI (lv B i)) → (∀ i k, i < l → k < 3 → μ1 24 (3 * i + k) = nI (gt3 (st B (i + 1)) (k + 1))) → (∀ j, j < hn B l → μ1 25 j = nI (hdl B l j)) → wp_X8_findTree_56 post f (nI (p33 (st B l))) (nI l) μ1 := by
    intro f
    induction f with
    | zero => intro l μ1 a1 a2; omega
    | succ f ih =>
      intro l μ1 a1 a2 hfr hI h5 h6 hlv hco hhd
      unfold wp_X8_findTree_56
      rw [hI.1.1, nI_leI (by omega) (by omega)]
      refine ⟨fun g => ?_, fun g => ⟨4, ?_⟩⟩
      · have e : l = bL B := by omega
        subst e
        exact hp μ1 hfr hI.2.2.2.1 hI.2.2.2.2.1 ⟨hI.2.2.1, h5, h6, hlv, hco, hhd⟩
      · have hl : l < bL B := by omega
        have hsb := st_bnd hB l
        have hgv3 := gv_le B (bL B - (l + 1)) (st B l)
        have hgq := gv_eq hB (r := bL B - (l + 1)) (by omega) (st B l)
        have hgm := gv_may hB (r := bL B - (l + 1)) (by omega) (st B l)
        rw [show bL B - (bL B - (l + 1) + 1) = l by omega] at hgm
        have hhn := hn_le B l
        have l66 : ∀ (f2 v : Nat) (μ2 : Sg), v ≤ gv B (bL B - (l + 1)) (st B l) → 3 < v + f2 → (∀ k, k ≠ 22 → k ≠ 34 → μ2 k = μ1 k) → mst B (T + 1) μ2 → wp_X8_findTree_66 post (fun zx1 zx2 zσ => wp_X8_findTree_56 post f zx1 zx2 zσ) f2 (nI (p33 (st B l))) (nI l) (nI v) μ2 := by
          intro f2
          induction f2 with
          | zero => intro v μ2 b1 b2; omega
          | succ f2 ih2 =>
            intro v μ2 b1 b2 hfr2 hI2
            unfold wp_X8_findTree_66
            refine m_cwl hB hI2 hl (by omega) hsb (fun c' μ' post' u1 u2 u3 => m_leastFrom hB hT 24 (l + 1) c' μ' post' (by omega) (by omega) u1 u2 u3) (fun μ3 f3 hI3 => ?_)
            refine m_leastFrom hB hT 24 l (st B l) μ3 _ a1 (by omega) hsb hI3 (fun μ4 f4 hI4 => ?_)
            have c1 := cw_le hB (r := bL B - (l + 1)) (by omega) (st B l) v
            have c2 := ls_le hB (bL B - l) (st B l)
            have els : ls B (bL B - l) (st B l) = ls B (bL B - (l + 1) + 1) (st B l) := by rw [show bL B - l = bL B - (l + 1) + 1 by omega]
            rw [nI_eq (by omega) (by omega), nI_clamp (by omega), nI_eq0 (by omega), els, show nI v + (1 : Int32) = nI (v + 1) from nI_1 v]
            have f14 : ∀ k, k ≠ 22 → k ≠ 34 → μ4 k = μ1 k := fun k u1 u2 => by rw [f4 k u1 u2, f3 k u1 u2, hfr2 k u1 u2]
            refine ⟨fun q => ⟨vp_in_nI (by omega) (by decide), fun μ7 e7 => ?_⟩, fun q => ?_⟩
            · have hv : gv B (bL B - (l + 1)) (st B l) = v := by
                have := gv_first (B := B) (r := bL B - (l + 1)) (c := st B l) (v := v) (by omega) q
                omega
              have elv : lv B l = v := hv
              have e1 : st B (l + 1) = nc B l (st B l) v := by
                show nc B l (st B l) (gv B (bL B - (l + 1)) (st B l)) = _
                rw [hv]
              rw [hv] at hgm
              have h76 : μ7 6 0 = nI (hn B l) := by rw [e7, sig_ne (by decide), f14 6 (by decide) (by decide)]; exact h6
              have hL7 : mLn B μ7 := mLn_same (fun k hk => by rw [e7, sig_ne (by omega)]) hI4.1
              have fin : ∀ c' : C3, c' = st B (l + 1) → ∃ fu, wp_X8_findTree_114 post (fun zx1 zx2 zσ => wp_X8_findTree_56 post f zx1 zx2 zσ) fu (nI (p33 c')) (nI l) (nI v) (0 : Int32) μ7 := fun c' ec => by
                refine ⟨4, ?_⟩
                rw [ec]
                refine m_114 ((st_bnd hB (l + 1)).mono (by omega)) (h := hn B l) (by omega) (by omega) (by omega) 4 0 μ7 (by decide) (by decide) h76 (fun μ8 g1 g2 g3 g4 g5 g6 => ?_)
                have k8 : ∀ k, k ≠ 22 → k ≠ 34 → k ≠ 23 → k ≠ 24 → k ≠ 6 → k ≠ 25 → μ8 k = μ1 k := fun k u1 u2 u3 u4 u5 u6 => by rw [g1 k u4 u5 u6, e7, sig_ne u3, f14 k u1 u2]
                have k84 : ∀ k, k ≠ 23 → k ≠ 24 → k ≠ 6 → k ≠ 25 → μ8 k = μ4 k := fun k u3 u4 u5 u6 => by rw [g1 k u4 u5 u6, e7, sig_ne u3]
                have ehn : hn B (l + 1) = if v = 0 then hn B l else hn B l + 1 := by
                  rw [hn, elv]; split <;> rfl
                refine ih (l + 1) μ8 (by omega) (by omega) (fun k hk => by rw [k8 k (by omega) (by omega) (by omega) (by omega) (by omega) (by omega)]; exact hfr k hk) ?_ (by rw [k8 5 (by decide) (by decide) (by decide) (by decide) (by decide) (by decide)]; exact h5) (by rw [g5, ehn]) (fun i hi => ?_) (fun i k hi hk => ?_) (fun j hj => ?_)
                · obtain ⟨q1, q2, q3, q4, q5, q6⟩ := hI4
                  refine ⟨mLn_same (fun k hk => k84 k (by omega) (by omega) (by omega) (by omega)) q1, mSe_same (fun k hk => k84 k (by omega) (by omega) (by omega) (by omega)) q2, fun i hi => ?_, ?_, fun p hp2 => ?_, fun l2 c2 b1 b2 b3 => ?_⟩
                  · rw [k84 33 (by decide) (by decide) (by decide) (by decide)]; exact q3 i hi
                  · rw [k84 7 (by decide) (by decide) (by decide) (by decide)]; exact q4
                  · rw [k84 34 (by decide) (by decide) (by decide) (by decide)]; exact q5 p hp2
                  · rw [k84 34 (by decide) (by decide) (by decide) (by decide)] at b3
                    rw [k84 22 (by decide) (by decide) (by decide) (by decide)]; exact q6 l2 c2 b1 b2 b3
                · rw [g1 23 (by decide) (by decide) (by decide), e7, sig_eq]
                  by_cases w : i = l
                  · rw [w, pk_us, elv]
                  · rw [pk_un w, f14 23 (by decide) (by decide)]; exact hlv i (by omega)
                · by_cases w : i = l
                  · rw [w]; exact g4 k (Nat.zero_le _) hk
                  · rw [g2 _ (by omega), e7, sig_ne (by decide), f14 24 (by decide) (by decide)]; exact hco i k (by omega) hk
                · rw [g6 j, hdl, elv]
                  by_cases w : v ≠ 0 ∧ j = hn B l
                  · rw [if_pos w, if_pos ⟨w.1, w.2.symm⟩]
                  · rw [if_neg w, if_neg (fun z => w ⟨z.1, z.2.symm⟩), e7, sig_ne (by decide), f14 25 (by decide) (by decide)]
                    refine hhd j ?_
                    rw [ehn] at hj
                    by_cases w0 : v = 0
                    · rw [if_pos w0] at hj; exact hj
                    · rw [if_neg w0] at hj
                      have : j ≠ hn B l := fun z => w ⟨w0, z⟩
                      omega
              refine ⟨fun g0 => m_behind hB hL7 hl (by omega) (by omega) hsb (fun _ => fin _ (by rw [e1]; unfold nc; rw [if_neg g0])) (fun ho => ?_), fun g0 => fin _ (by rw [e1]; unfold nc; rw [if_pos g0])⟩
              exfalso
              simp [may, g0] at hgm
              exact ho hgm.2
            · have hne : v ≠ gv B (bL B - (l + 1)) (st B l) := fun z => q (by rw [z]; exact hgq)
              exact ih2 (v + 1) μ4 (by omega) (by omega) f14 hI4
        exact l66 4 0 μ1 (Nat.zero_le _) (by decide) (fun _ _ _ => rfl) hI
  have l2 : ∀ (f i : Nat) (μ1 : Sg), i ≤ bL B → bL B < i + f → (∀ k, k ≠ 33 → μ1 k = μ k) → (∀ j, j < i → μ1 33 j = if run B j = true then 1 else 0) → wp_X8_findTree_2 post f (nI i) μ1 := by
    intro f
    induction f with
    | zero => intro i μ1 a1 a2; omega
    | succ f ih =>
      intro i μ1 a1 a2 hfr hr
      have hL1 : mLn B μ1 := mLn_same (fun k hk => hfr k (by omega)) hL
      have hS1 : mSe B μ1 := mSe_same (fun k hk => hfr k (by omega)) hS
      unfold wp_X8_findTree_2
      rw [hL1.1, nI_leI (by omega) (by omega), hfr 7 (by decide), h7, show nI i + (1 : Int32) = nI (i + 1) from nI_1 i]
      refine ⟨fun g μ2 e2 => ?_, fun g => m_isRunning hB hL1 hS1 (by omega) ⟨vp_in_nI (by omega) (by decide), ?_, fun μ12 e12 => ?_⟩⟩
      · have e : i = bL B := by omega
        subst e
        rw [nI_1] at e2
        have hI2 : mst B (T + 1) μ2 := by
          refine ⟨mLn_same (fun k hk => by rw [e2, sig_ne (by omega)]) hL1, mSe_same (fun k hk => by rw [e2, sig_ne (by omega)]) hS1, fun j hj => by rw [e2, sig_ne (by decide)]; exact hr j hj, by rw [e2, sig_eq], fun p hp2 => ?_, fun l c hl hc hk => ?_⟩
          · rw [e2, sig_ne (by decide), hfr 34 (by decide)]
            obtain ⟨t, ht, et⟩ := ha p hp2
            exact ⟨t, by omega, et⟩
          · exfalso
            have hlt := p33_lt (hc.mono (show 12 + l ≤ 32 by omega))
            rw [e2, sig_ne (by decide), hfr 34 (by decide)] at hk
            obtain ⟨t, ht, et⟩ := ha (35937 * l + p33 c) (by omega)
            rw [et] at hk
            have := nI_inj (by omega) hT hk
            omega
        refine m_leastFrom hB hT 24 0 (0, 0, 0) μ2 _ (Nat.zero_le _) (by omega) ⟨Nat.zero_le _, Nat.zero_le _, Nat.zero_le _⟩ hI2 (fun μ4 f4 hI4 μ5 e5 μ6 e6 => ⟨bL B + 1, ?_⟩)
        rw [Nat.sub_zero] at e5
        have k6 : ∀ k, k ≠ 5 → k ≠ 6 → μ6 k = μ4 k := fun k u1 u2 => by rw [e6, sig_ne u2, e5, sig_ne u1]
        refine l56 (bL B + 1) 0 μ6 (Nat.zero_le _) (by omega) (fun k hk => by rw [k6 k (by omega) (by omega), f4 k (by omega) (by omega), e2, sig_ne (by omega), hfr k (by omega)]) ?_ (by rw [e6, sig_ne (by decide), e5, sig_eq]) (by rw [e6, sig_eq]; rfl) (fun j hj => by omega) (fun j k hj => by omega) (fun j hj => by unfold hn at hj; omega)
        obtain ⟨q1, q2, q3, q4, q5, q6⟩ := hI4
        refine ⟨mLn_same (fun k hk => k6 k (by omega) (by omega)) q1, mSe_same (fun k hk => k6 k (by omega) (by omega)) q2, fun j hj => ?_, ?_, fun p hp2 => ?_, fun l3 c3 b1 b2 b3 => ?_⟩
        · rw [k6 33 (by decide) (by decide)]; exact q3 j hj
        · rw [k6 7 (by decide) (by decide)]; exact q4
        · rw [k6 34 (by decide) (by decide)]; exact q5 p hp2
        · rw [k6 34 (by decide) (by decide)] at b3
          rw [k6 22 (by decide) (by decide)]; exact q6 l3 c3 b1 b2 b3
      · unfold bz; split
        · exact Or.inr rfl
        · exact Or.inl rfl
      · rw [nI_clamp (by omega)] at e12
        refine ih (i + 1) μ12 (by omega) (by omega) (fun k hk => by rw [e12, sig_ne hk]; exact hfr k hk) (fun j hj => ?_)
        rw [e12, sig_eq]
        rcases Nat.lt_or_ge j i with q | q
        · rw [pk_un (by omega)]; exact hr j q
        · rw [show j = i by omega, pk_us]
  exact ⟨bL B + 1, l2 (bL B + 1) 0 μ (Nat.zero_le _) (by omega) (fun _ _ => rfl) (fun i hi => by omega)⟩
