/-! the reference: the list is held -/
def slp (B : Bk) (e l : Nat) : Nat → Nat
  | 0 => 0
  | k + 1 => slp B e l k + ne01 (ew B (8 * e + k)) (wd B (8 * l + k))
theorem slp_8 (B : Bk) (e l : Nat) : slp B e l 8 = slips B e l := by
  unfold slips
  simp only [slp, Nat.add_zero, Nat.zero_add]
  omega
theorem m_partnerCost {B : Bk} {μ : Sg} (hB : bok B) (hd : mdat B μ) (hv : ∀ l, l < bL B → μ 23 l = nI (lv B l)) {e l : Nat} (he : e < bE B) (hl : l < bL B) {post : Int32 → Sg → Prop} (hp : post (nI (pcost B e l)) μ) : wp_X8_partnerCost (nI e) (nI l) μ post := by
  have h20 := hB.L
  have h12 := hB.E
  have hN := hB.N
  obtain ⟨hP, hL, hS, hE⟩ := hd
  have loop : ∀ (f k : Nat), k ≤ 8 → 8 < k + f → wp_X8_partnerCost_5 post f (nI e) (nI l) (nI (pr B 4 * slp B e l k)) (nI k) μ := by
    intro f
    induction f with
    | zero => intro k a1 a2; omega
    | succ f ih =>
      intro k a1 a2
      unfold wp_X8_partnerCost_5
      have e1 : (8 : Int32) * nI e + nI k = nI (8 * e + k) := by rw [nlit 8, pk_mul, nI_add]
      have e2 : (8 : Int32) * nI l + nI k = nI (8 * l + k) := by rw [nlit 8, pk_mul, nI_add]
      rw [e1, e2, nlit 8, nI_leI (by decide) (by omega), show nI k + (1 : Int32) = nI (k + 1) from nI_1 k, nI_clamp (show e < 2 ^ 31 by omega), nI_clamp (show l < 2 ^ 31 by omega)]
      have hve : vp_in (nI e) 12 := vp_in_nI (by omega) (by decide)
      have hvl : vp_in (nI l) 20 := vp_in_nI (by omega) (by decide)
      refine ⟨fun q => ?_, fun q => ?_⟩
      · have hk : k = 8 := by omega
        subst hk
        have hpg := hB.hpg hl
        have hrd := hB.hrd (pg B l)
        have hen := hB.hen e
        have hel := hB.hel he
        have hlv := lv_le B l
        rw [(hE.2.1 e he).1, (hE.2.1 e he).2, hv l hl, (hL.2.1 l hl).1, nI_clamp (show pg B l < 2 ^ 31 by omega), hP.2 _ (by omega), abs_nI (by omega) (by omega), cl5, cl6, hS.1 5 (by decide), hS.1 6 (by decide), pk_mul, nI_add, slp_8, nI_eq (by omega) (by omega)]
        unfold pcost at hp
        refine ⟨hve, hvl, fun y5 e5 => ⟨hve, hvl, vp_in_nI (by omega) (by decide), fun g => ?_, fun g => ?_⟩⟩
        · rw [if_neg (fun z => g z.symm)] at hp
          rw [e5, nI_add]; exact hp
        · rw [if_pos g.symm] at hp
          rw [e5]; exact hp
      · have w1 := (hB.hwd (8 * e + k)).2.1
        have w2 := (hB.hwd (8 * l + k)).1
        rw [nI_clamp (show 8 * e + k < 2 ^ 31 by omega), nI_clamp (show 8 * l + k < 2 ^ 31 by omega), hE.2.2 _ (by omega), hL.2.2.1 _ (by omega), nI_eq (by omega) (by omega), cl4, hS.1 4 (by decide), nI_add]
        have ih1 := ih (k + 1) (by omega) (by omega)
        rw [slp] at ih1
        refine ⟨vp_in_nI (by omega) (by decide), vp_in_nI (by omega) (by decide), fun g => ?_, fun g y ey => ?_⟩
        · rw [show ne01 (ew B (8 * e + k)) (wd B (8 * l + k)) = 0 by unfold ne01; rw [if_pos g], Nat.add_zero] at ih1
          exact ih1
        · rw [show ne01 (ew B (8 * e + k)) (wd B (8 * l + k)) = 1 by unfold ne01; rw [if_neg g], Nat.mul_add, Nat.mul_one] at ih1
          rw [ey]; exact ih1
  unfold wp_X8_partnerCost
  exact ⟨9, loop 9 0 (by decide) (by decide)⟩
/-- the cost if entry e takes head h, from fr on (bH: none) -/
def cwh (B : Bk) (e fr h : Nat) : Nat := if h = bH B then pr B 7 + lf B (bE B - (e + 1)) (bH B - fr) else pr B 7 * (h - fr) + pcost B e (hd B h) + lf B (bE B - (e + 1)) (bH B - (h + 1))
theorem lf_bd {B : Bk} (hB : bok B) {a b : Nat} (ha : a ≤ 12) (hb : b ≤ 20) : lf B a b ≤ 1600 := by
  have h7 := hB.hpr 7
  have h1 := lf_le (B := B) a b
  have h2 : pr B 7 * (a + b) ≤ 50 * 32 := Nat.mul_le_mul h7 (by omega)
  omega
theorem cwh_le {B : Bk} (hB : bok B) {e fr h : Nat} (he : e < bE B) (hh : h ≤ bH B) : cwh B e fr h ≤ 5000 := by
  have h7 := hB.hpr 7
  have h12 := hB.E
  have hH := bH_le hB
  have h1 := lf_bd hB (a := bE B - (e + 1)) (b := bH B - fr) (by omega) (by omega)
  have h2 := lf_bd hB (a := bE B - (e + 1)) (b := bH B - (h + 1)) (by omega) (by omega)
  have h3 := pcost_le hB he (hd B h)
  have h4 : pr B 7 * (h - fr) ≤ 50 * 20 := Nat.mul_le_mul h7 (by omega)
  unfold cwh
  split <;> omega
theorem hd_lt {B : Bk} {h : Nat} (hh : h < bH B) : hd B h < bL B := (hdl_ok (bL B) h hh).1
theorem m_costWith {B : Bk} {μ : Sg} (hB : bok B) (hd1 : mdat B μ) (ht : mtree B μ) {e fr h : Nat} (he : e < bE B) (hf : fr ≤ h) (hh : h ≤ bH B) (hl : ∀ b, b ≤ bH B → μ 26 (21 * (e + 1) + b) = nI (lf B (bE B - (e + 1)) (bH B - b))) {post : Int32 → Sg → Prop} (hp : post (nI (cwh B e fr h)) μ) : wp_X8_costWith (nI e) (nI fr) (nI h) μ post := by
  have h12 := hB.E
  have hH := bH_le hB
  unfold wp_X8_costWith
  have e1 : (21 : Int32) * (nI e + (1 : Int32)) + nI h + (1 : Int32) = nI (21 * (e + 1) + (h + 1)) := by
    rw [nI_1, nlit 21, pk_mul, nI_add, nI_1]; rfl
  have e2 : (21 : Int32) * (nI e + (1 : Int32)) + nI fr = nI (21 * (e + 1) + fr) := by
    rw [nI_1, nlit 21, pk_mul, nI_add]
  rw [e1, e2, ht.2.2.1, nI_eq (by omega) (by omega), cl7, hd1.2.2.1.1 7 (by decide), nI_clamp (show h < 2 ^ 31 by omega), nI_clamp (by omega), nI_clamp (by omega)]
  unfold cwh at hp
  refine ⟨fun g => ⟨vp_in_nI (by omega) (by decide), ?_⟩, fun g => ⟨vp_in_nI (by omega) (by decide), ?_⟩⟩
  · rw [if_neg g] at hp
    rw [ht.2.2.2.2.2 h (by omega)]
    refine m_partnerCost hB hd1 ht.2.2.2.1 he (hd_lt (by omega)) ⟨vp_in_nI (by omega) (by decide), ?_⟩
    rw [hl (h + 1) (by omega), pk_sub hf, pk_mul, nI_add, nI_add]
    exact hp
  · rw [if_pos g] at hp
    rw [hl fr (by omega), nI_add]; exact hp
def mh (B : Bk) (e j : Nat) : Nat → Nat
  | 0 => 1000000
  | n + 1 => min (mh B e j n) (cwh B e j (j + n))
theorem mh_le1 (B : Bk) (e j : Nat) : ∀ n, mh B e j n ≤ 1000000
  | 0 => Nat.le_refl _
  | n + 1 => by have := mh_le1 B e j n; unfold mh; omega
theorem mh_at (B : Bk) (e j : Nat) : ∀ n t, t < n → mh B e j n ≤ cwh B e j (j + t)
  | 0, t, h => by omega
  | n + 1, t, h => by
    rw [mh]
    by_cases w : t = n
    · rw [w]; omega
    · have := mh_at B e j n t (by omega); omega
theorem cwh_ct {B : Bk} {e j t : Nat} (he : e < bE B) (hj : j + t < bH B) : cwh B e j (j + t) = ct B (bE B - (e + 1)) (bH B - j) t := by
  unfold cwh ct
  rw [if_neg (by omega), show j + t - j = t by omega, show bE B - (bE B - (e + 1) + 1) = e by omega, show bH B - (bH B - j - t) = j + t by omega, show bH B - j - t - 1 = bH B - (j + t + 1) by omega]
theorem cwh_ge {B : Bk} {e j h : Nat} (he : e < bE B) (hj : j ≤ h) (hh : h ≤ bH B) : lf B (bE B - e) (bH B - j) ≤ cwh B e j h := by
  rw [show bE B - e = (bE B - (e + 1)) + 1 by omega]
  by_cases w : h = bH B
  · unfold cwh; rw [if_pos w]; exact lf_a _ _
  · rw [show h = j + (h - j) by omega, cwh_ct he (by omega)]
    exact lf_ct _ _ _ (by omega)
theorem cwh_ex {B : Bk} {e j : Nat} (he : e < bE B) (hj : j ≤ bH B) : ∃ h, j ≤ h ∧ h ≤ bH B ∧ cwh B e j h = lf B (bE B - e) (bH B - j) := by
  rw [show bE B - e = (bE B - (e + 1)) + 1 by omega]
  rcases lf_some (B := B) (bE B - (e + 1)) (bH B - j) with q | ⟨t, ht, q⟩
  · exact ⟨bH B, hj, Nat.le_refl _, by unfold cwh; rw [if_pos rfl, q]⟩
  · exact ⟨j + t, by omega, by omega, by rw [cwh_ct he (by omega), q]⟩
theorem mh_fin {B : Bk} (hB : bok B) {e j : Nat} (he : e < bE B) (hj : j ≤ bH B) : mh B e j (bH B - j + 1) = lf B (bE B - e) (bH B - j) := by
  have h12 := hB.E
  have hH := bH_le hB
  have hb := lf_bd hB (a := bE B - e) (b := bH B - j) (by omega) (by omega)
  have lo : ∀ n, n ≤ bH B - j + 1 → lf B (bE B - e) (bH B - j) ≤ mh B e j n := by
    intro n
    induction n with
    | zero => intro _; unfold mh; omega
    | succ n ih =>
      intro h
      have h1 := ih (by omega)
      have h2 := cwh_ge (B := B) (e := e) (j := j) (h := j + n) he (by omega) (by omega)
      rw [mh]; omega
  obtain ⟨h, h1, h2, h3⟩ := cwh_ex (B := B) he hj
  have h4 := mh_at B e j (bH B - j + 1) (h - j) (by omega)
  rw [show j + (h - j) = h by omega] at h4
  have := lo _ (Nat.le_refl _)
  omega
theorem frst_at (p : Nat → Bool) : ∀ n h, frst p h n < h + n → p (frst p h n) = true
  | 0, h, q => by unfold frst at q; omega
  | n + 1, h, q => by
    unfold frst at q ⊢
    by_cases w : p h = true
    · rw [if_pos w]; exact w
    · rw [if_neg w] at q ⊢
      exact frst_at p n (h + 1) (by omega)
theorem frst_no (p : Nat → Bool) : ∀ n h k, h ≤ k → k < frst p h n → p k = false
  | 0, h, k, a, q => by unfold frst at q; omega
  | n + 1, h, k, a, q => by
    unfold frst at q
    by_cases w : p h = true
    · rw [if_pos w] at q; omega
    · rw [if_neg w] at q
      by_cases z : k = h
      · rw [z]; simpa using w
      · exact frst_no p n (h + 1) k (by omega) q
theorem fpr_cwh {B : Bk} {e fr h : Nat} (hh : h < bH B) : fpr B e fr h = true ↔ cwh B e fr h = lf B (bE B - e) (bH B - fr) := by
  unfold fpr cwh
  rw [if_neg (by omega), decide_eq_true_iff]
theorem fh_eq {B : Bk} {e fr : Nat} (he : e < bE B) (hf : fr ≤ bH B) : cwh B e fr (fh B e fr) = lf B (bE B - e) (bH B - fr) := by
  have h1 := frst_le (fpr B e fr) (bH B - fr) fr
  rcases Nat.lt_or_ge (fh B e fr) (bH B) with q | q
  · have := frst_at (fpr B e fr) (bH B - fr) fr (by unfold fh at q; omega)
    exact (fpr_cwh q).mp this
  · obtain ⟨h, u1, u2, u3⟩ := cwh_ex (B := B) he hf
    have e1 : fh B e fr = bH B := by unfold fh at q ⊢; omega
    by_cases w : h = bH B
    · rw [e1]; rw [w] at u3; exact u3
    · exfalso
      have h3 := frst_no (fpr B e fr) (bH B - fr) fr h u1 (by unfold fh at q; omega)
      rw [(fpr_cwh (by omega)).mpr u3] at h3
      exact absurd h3 (by decide)
theorem fh_no {B : Bk} {e fr h : Nat} (h1 : fr ≤ h) (h2 : h < fh B e fr) (h3 : fh B e fr ≤ bH B) : cwh B e fr h ≠ lf B (bE B - e) (bH B - fr) := fun z => by
  have := frst_no (fpr B e fr) (bH B - fr) fr h h1 h2
  rw [(fpr_cwh (by omega)).mpr z] at this
  exact absurd this (by decide)
def mlist (B : Bk) (μ : Sg) : Prop := μ 26 0 = nI (lf B (bE B) (bH B)) ∧ ∀ e, e < bE B → μ 27 e = lat (ple B e)
theorem mtree_same {B : Bk} {μ μ' : Sg} (h : ∀ k, k = 5 ∨ k = 6 ∨ (23 ≤ k ∧ k ≤ 25) ∨ k = 33 → μ' k = μ k) (ht : mtree B μ) : mtree B μ' := by
  unfold mtree mrn at ht ⊢
  rw [h 5 (by omega), h 6 (by omega), h 23 (by omega), h 24 (by omega), h 25 (by omega), h 33 (by omega)]
  exact ht
def lfm (B : Bk) (s : Nat) (μ : Sg) : Prop := ∀ a b, s ≤ a → a ≤ bE B → b ≤ bH B → μ 26 (21 * a + b) = nI (lf B (bE B - a) (bH B - b))
theorem m_hold {B : Bk} {μ : Sg} (hB : bok B) (hd1 : mdat B μ) (ht : mtree B μ) {post : Sg → Prop} (hp : ∀ μ' : Sg, (∀ k, k ≠ 26 → k ≠ 27 → μ' k = μ k) → mlist B μ' → post μ') : wp_X8_hold μ post := by
  have h12 := hB.E
  have hH := bH_le hB
  have dsame : ∀ μ1 : Sg, (∀ k, k ≠ 26 → k ≠ 27 → μ1 k = μ k) → mdat B μ1 ∧ mtree B μ1 := fun μ1 f => ⟨mdat_same (fun k hk => f k (by omega) (by omega)) hd1, mtree_same (fun k hk => f k (by omega) (by omega)) ht⟩
  have l132 : ∀ (f e : Nat) (μ1 : Sg), e ≤ bE B → bE B < e + f → (∀ k, k ≠ 26 → k ≠ 27 → μ1 k = μ k) → lfm B 0 μ1 → (∀ i, i < e → μ1 27 i = lat (ple B i)) → wp_X8_hold_132 post f (21 : Int32) (nI (fro B e)) (nI e) μ1 := by
    intro f
    induction f with
    | zero => intro e μ1 a1 a2; omega
    | succ f ih =>
      intro e μ1 a1 a2 hfr hlf hpl
      obtain ⟨d1, t1⟩ := dsame μ1 hfr
      unfold wp_X8_hold_132
      rw [d1.2.2.2.1, nI_leI (by omega) (by omega)]
      refine ⟨fun g => ?_, fun g => ?_⟩
      · have q : e = bE B := by omega
        subst q
        have h0 := hlf 0 0 (Nat.le_refl _) (Nat.zero_le _) (Nat.zero_le _)
        exact hp μ1 hfr ⟨h0, hpl⟩
      · have he : e < bE B := by omega
        have hfl := fro_le B e
        have hfh := fh_le B e
        refine ⟨bH B + 1, ?_⟩
        have l143 : ∀ (f2 h : Nat), fro B e ≤ h → h ≤ fh B e (fro B e) → bH B < h + f2 → wp_X8_hold_143 post (fun zx1 zx2 zx3 zσ => wp_X8_hold_132 post f zx1 zx2 zx3 zσ) f2 (21 : Int32) (nI (fro B e)) (nI e) (nI h) μ1 := by
          intro f2
          induction f2 with
          | zero => intro h b1 b2 b3; omega
          | succ f2 ih2 =>
            intro h b1 b2 b3
            unfold wp_X8_hold_143
            refine m_costWith hB d1 t1 he b1 (by omega) (fun b hb => hlf (e + 1) b (Nat.zero_le _) (by omega) hb) ?_
            have e1 : (21 : Int32) * nI e + nI (fro B e) = nI (21 * e + fro B e) := by rw [nlit 21, pk_mul, nI_add]
            have c1 := cwh_le hB (fr := fro B e) he (show h ≤ bH B by omega)
            have c2 := lf_bd hB (a := bE B - e) (b := bH B - fro B e) (by omega) (by omega)
            rw [e1, nI_clamp (by omega), hlf e (fro B e) (Nat.zero_le _) (by omega) hfl, nI_eq (by omega) (by omega), t1.2.2.1, nI_eq (by omega) (by omega), nI_clamp (by omega), show nI h + (1 : Int32) = nI (h + 1) from nI_1 h]
            have fin : ∀ s0 : Int32, s0 = lat (ple B e) → h = fh B e (fro B e) → wp_X8_hold_195 post (fun zx1 zx2 zx3 zσ => wp_X8_hold_132 post f zx1 zx2 zx3 zσ) (21 : Int32) (nI (fro B e)) (nI e) (nI h) s0 (nI e) μ1 := fun s0 es eh => by
              unfold wp_X8_hold_195
              rw [nI_clamp (by omega), show nI e + (1 : Int32) = nI (e + 1) from nI_1 e, show nI h + (1 : Int32) = nI (h + 1) from nI_1 h]
              refine ⟨vp_in_nI (by omega) (by decide), fun μ2 e2 => ?_⟩
              have k2 : ∀ k, k ≠ 27 → μ2 k = μ1 k := fun k u => by rw [e2, sig_ne u]
              have go : wp_X8_hold_132 post f (21 : Int32) (nI (fro B (e + 1))) (nI (e + 1)) μ2 := ih (e + 1) μ2 (by omega) (by omega) (fun k u1 u2 => by rw [k2 k u2]; exact hfr k u1 u2) (fun a b u1 u2 u3 => by rw [k2 26 (by decide)]; exact hlf a b u1 u2 u3) (fun i hi => by
                rw [e2, sig_eq]
                by_cases w : i = e
                · rw [w, pk_us, es]
                · rw [pk_un w]; exact hpl i (by omega))
              rw [k2 6 (by decide), t1.2.2.1, nI_leI (by omega) (by omega)]
              refine ⟨fun w => ?_, fun w y4 e4 => ?_⟩
              · rw [show fro B (e + 1) = fro B e by rw [fro, if_neg (by omega)]] at go
                exact go
              · rw [show fro B (e + 1) = h + 1 by rw [fro, if_pos (by omega), eh]] at go
                rw [e4]; exact go
            refine ⟨vp_in_nI (by omega) (by decide), fun q => ?_, fun q => ?_⟩
            · have eh : h = fh B e (fro B e) := by
                rcases Nat.lt_or_ge h (fh B e (fro B e)) with w | w
                · exact absurd q (fh_no b1 w hfh.2)
                · omega
              refine ⟨fun w => ⟨vp_in_nI (by omega) (by decide), fin _ ?_ eh⟩, fun w => fin _ ?_ eh⟩
              · rw [t1.2.2.2.2.2 h (by omega)]
                unfold ple ptn
                rw [← eh, if_pos (by omega), lat_s]
              · unfold ple ptn
                rw [← eh, if_neg (by omega)]; rfl
            · have hne : h ≠ fh B e (fro B e) := fun z => q (by rw [z]; exact fh_eq he hfl)
              exact ih2 (h + 1) (by omega) (by omega) (by omega)
        exact l143 (bH B + 1) (fro B e) (Nat.le_refl _) hfh.1 (by omega)
  have l59 : ∀ (k53 : Int32 → Int32 → Sg → Prop) (e : Nat), e < bE B → (∀ μ2 : Sg, (∀ k, k ≠ 26 → k ≠ 27 → μ2 k = μ k) → lfm B e μ2 → k53 (21 : Int32) (lat e) μ2) → ∀ (f j : Nat) (μ1 : Sg), j ≤ bH B + 1 → bH B + 1 < j + f → (∀ k, k ≠ 26 → k ≠ 27 → μ1 k = μ k) → lfm B (e + 1) μ1 → (∀ b, b < j → μ1 26 (21 * e + b) = nI (lf B (bE B - e) (bH B - b))) → wp_X8_hold_59 post k53 f (21 : Int32) (nI e) (nI j) μ1 := by
    intro k53 e he hk f
    induction f with
    | zero => intro j μ1 a1 a2; omega
    | succ f ih =>
      intro j μ1 a1 a2 hfr hlf hrow
      obtain ⟨d1, t1⟩ := dsame μ1 hfr
      unfold wp_X8_hold_59
      rw [t1.2.2.1, nI_ltI (by omega) (by omega), lat_m1]
      refine ⟨fun g => hk μ1 hfr (fun a b u1 u2 u3 => ?_), fun g => ⟨bH B + 2, ?_⟩⟩
      · by_cases w : a = e
        · rw [w]; exact hrow b (by omega)
        · exact hlf a b (by omega) u2 u3
      · have hj : j ≤ bH B := by omega
        have e1 : (21 : Int32) * nI e + nI j = nI (21 * e + j) := by rw [nlit 21, pk_mul, nI_add]
        have l74 : ∀ (f2 n : Nat), n ≤ bH B - j + 1 → bH B + 1 < j + n + f2 → wp_X8_hold_74 post (fun zx1 zx2 zx3 zσ => wp_X8_hold_59 post k53 f zx1 zx2 zx3 zσ) f2 (21 : Int32) (nI e) (nI j) (nI (mh B e j n)) (nI (j + n)) μ1 := by
          intro f2
          induction f2 with
          | zero => intro n b1 b2; omega
          | succ f2 ih2 =>
            intro n b1 b2
            unfold wp_X8_hold_74
            rw [e1, t1.2.2.1, nI_ltI (by omega) (by omega), nI_clamp (by omega), show nI j + (1 : Int32) = nI (j + 1) from nI_1 j, show nI (j + n) + (1 : Int32) = nI (j + (n + 1)) from nI_1 _]
            refine ⟨fun q => ⟨vp_in_nI (by omega) (by decide), fun μ3 e3 => ?_⟩, fun q => m_costWith hB d1 t1 he (by omega) (by omega) (fun b hb => hlf (e + 1) b (Nat.le_refl _) (by omega) hb) (fun y6 e6 => ?_)⟩
            · have hn : n = bH B - j + 1 := by omega
              rw [hn, mh_fin hB he hj] at e3
              refine ih (j + 1) μ3 (by omega) (by omega) (fun k u1 u2 => by rw [e3, sig_ne u1]; exact hfr k u1 u2) (fun a b u1 u2 u3 => ?_) (fun b hb => ?_)
              · rw [e3, sig_eq, pk_un (by omega)]; exact hlf a b u1 u2 u3
              · rw [e3, sig_eq]
                by_cases w : b = j
                · rw [w, pk_us]
                · rw [pk_un (by omega)]; exact hrow b (by omega)
            · have c1 := cwh_le hB (fr := j) he (show j + n ≤ bH B by omega)
              have c2 := mh_le1 B e j n
              have e9 : y6 = nI (mh B e j (n + 1)) := by
                rw [e6, mh]
                rcases Nat.lt_or_ge (cwh B e j (j + n)) (mh B e j n) with w | w
                · rw [if_pos ((nI_ltI (by omega) (by omega)).mpr w), Nat.min_eq_right (by omega)]
                · rw [if_neg (fun z => by have := (nI_ltI (by omega) (by omega)).mp z; omega), Nat.min_eq_left w]
              rw [e9]
              exact ih2 (n + 1) (by omega) (by omega)
        exact l74 (bH B + 2) 0 (Nat.zero_le _) (by omega)
  have l53 : ∀ (f s : Nat) (μ1 : Sg), s ≤ bE B → s < f → (∀ k, k ≠ 26 → k ≠ 27 → μ1 k = μ k) → lfm B s μ1 → wp_X8_hold_53 post f (21 : Int32) (lat s) μ1 := by
    intro f
    induction f with
    | zero => intro s μ1 a1 a2; omega
    | succ f ih =>
      intro s μ1 a1 a2 hfr hlf
      unfold wp_X8_hold_53
      rw [lat_lt (by omega)]
      refine ⟨fun g => ⟨bE B + 1, ?_⟩, fun g => ?_⟩
      · subst g
        exact l132 (bE B + 1) 0 μ1 (Nat.zero_le _) (by omega) hfr hlf (fun i hi => by omega)
      · obtain ⟨e, rfl⟩ : ∃ e, s = e + 1 := ⟨s - 1, by omega⟩
        rw [lat_s]
        exact ⟨bH B + 2, l59 _ e (by omega) (fun μ2 f2 h2 => ih e μ2 (by omega) (by omega) f2 h2) (bH B + 2) 0 μ1 (Nat.zero_le _) (by omega) hfr hlf (fun b hb => by omega)⟩
  have l5 : ∀ (f j : Nat) (μ1 : Sg), j ≤ bH B + 1 → bH B + 1 < j + f → (∀ k, k ≠ 26 → k ≠ 27 → μ1 k = μ k) → (∀ b, b < j → μ1 26 (21 * bE B + b) = nI (lf B 0 (bH B - b))) → wp_X8_hold_5 post f (21 : Int32) (nI j) μ1 := by
    intro f
    induction f with
    | zero => intro j μ1 a1 a2; omega
    | succ f ih =>
      intro j μ1 a1 a2 hfr hrow
      obtain ⟨d1, t1⟩ := dsame μ1 hfr
      have e1 : (21 : Int32) * nI (bE B) + nI j = nI (21 * bE B + j) := by rw [nlit 21, pk_mul, nI_add]
      unfold wp_X8_hold_5
      rw [t1.2.2.1, d1.2.2.2.1, e1, nI_ltI (by omega) (by omega), show nI j + (1 : Int32) = nI (j + 1) from nI_1 j, cl7, d1.2.2.1.1 7 (by decide), nI_clamp (by omega)]
      refine ⟨fun g y2 e2 => ⟨bE B + 1, ?_⟩, fun g => ⟨vp_in_nI (by omega) (by decide), fun μ6 e6 => ?_⟩⟩
      · rw [← pm1, lat_m1] at e2
        rw [e2]
        refine l53 (bE B + 1) (bE B) μ1 (Nat.le_refl _) (by omega) hfr (fun a b u1 u2 u3 => ?_)
        rw [show a = bE B by omega, Nat.sub_self]; exact hrow b (by omega)
      · rw [pk_sub (by omega), pk_mul] at e6
        refine ih (j + 1) μ6 (by omega) (by omega) (fun k u1 u2 => by rw [e6, sig_ne u1]; exact hfr k u1 u2) (fun b hb => ?_)
        rw [e6, sig_eq]
        by_cases w : b = j
        · rw [w, pk_us, lf]
        · rw [pk_un (by omega)]; exact hrow b (by omega)
  unfold wp_X8_hold
  exact ⟨bH B + 2, l5 (bH B + 2) 0 μ (Nat.zero_le _) (by omega) (fun _ _ _ => rfl) (fun b hb => by omega)⟩
