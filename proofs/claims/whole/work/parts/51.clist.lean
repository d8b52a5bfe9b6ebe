/-! Listing of the class: heads, the cost of partners -/
theorem cl4 : (4 : Int32).toNatClampNeg = 4 := by decide
theorem cl5 : (5 : Int32).toNatClampNeg = 5 := by decide
theorem cl6 : (6 : Int32).toNatClampNeg = 6 := by decide
theorem cl7 : (7 : Int32).toNatClampNeg = 7 := by decide
theorem byt4 {f g : Nat → Nat} (hf : ∀ i, f i ≤ 26) (hg : ∀ i, g i ≤ 26) (i j t : Nat) (ht : t < 4) : ((((nI (w4 f i) ^^^ nI (w4 g j)).toUInt32 >>> ((nI (8 * t)).toUInt32 &&& Int32.toUInt32 31)).toInt32 &&& (255 : Int32)) = 0) = (f (i + (3 - t)) = g (j + (3 - t))) := by
  have a := w4_lt hf i
  have b := w4_lt hg j
  have hx : w4 f i ^^^ w4 g j < 2 ^ 32 := Nat.xor_lt_two_pow (by omega) (by omega)
  have hs : (((nI (8 * t)).toUInt32 &&& Int32.toUInt32 31).toBitVec % 32).toNat = 8 * t := by
    rcases (show t = 0 ∨ t = 1 ∨ t = 2 ∨ t = 3 by omega) with rfl | rfl | rfl | rfl <;> decide
  rw [fb_xorI, pk_ushrN hx _ (8 * t) hs, pk_andN (Nat.lt_of_le_of_lt (Nat.div_le_self _ _) hx) 8 (by decide)]
  have hm : (w4 f i ^^^ w4 g j) / 2 ^ (8 * t) % 2 ^ 8 < 2 ^ 8 := Nat.mod_lt _ (by decide)
  have e1 : (nI ((w4 f i ^^^ w4 g j) / 2 ^ (8 * t) % 2 ^ 8) = 0) = ((w4 f i ^^^ w4 g j) / 2 ^ (8 * t) % 2 ^ 8 = 0) := propext (nI_eq (b := 0) (by omega) (by decide))
  rw [e1, Nat.xor_div_two_pow, Nat.xor_mod_two_pow]
  refine propext (xor0.trans ?_)
  have f0 := hf i; have f1 := hf (i + 1); have f2 := hf (i + 2); have f3 := hf (i + 3)
  have g0 := hg j; have g1 := hg (j + 1); have g2 := hg (j + 2); have g3 := hg (j + 3)
  unfold w4
  rcases (show t = 0 ∨ t = 1 ∨ t = 2 ∨ t = 3 by omega) with rfl | rfl | rfl | rfl
  · simp only [Nat.mul_zero, Nat.pow_zero, Nat.div_one, Nat.sub_zero, Nat.reducePow]; omega
  · simp only [Nat.mul_one, Nat.reducePow, Nat.reduceSub]; omega
  · simp only [Nat.reduceMul, Nat.reducePow, Nat.reduceSub]; omega
  · simp only [Nat.reduceMul, Nat.reducePow, Nat.reduceSub, Nat.add_zero]; omega
theorem s_X2_unlikePlaces_4 {f g : Nat → Nat} (hf : ∀ i, f i ≤ 26) (hg : ∀ i, g i ≤ 26) {i j t a n : Nat} (ht : t < 4) {post : Int32 → Prop} (hp : wp_X2_unlikePlaces_4 post n (nI (w4 f i)) (nI (w4 g j)) (nI (a + ne01 (f (i + (3 - t))) (g (j + (3 - t))))) (nI (8 * (t + 1)))) : wp_X2_unlikePlaces_4 post (n + 1) (nI (w4 f i)) (nI (w4 g j)) (nI a) (nI (8 * t)) := by
  unfold wp_X2_unlikePlaces_4
  rw [byt4 hf hg i j t ht, nlit 32, nI_leI (by decide) (by omega), show nI (8 * t) + (8 : Int32) = nI (8 * (t + 1)) by rw [nlit 8, nI_add]; congr 1, show nI a + (1 : Int32) = nI (a + 1) from nI_1 a]
  unfold ne01 at hp
  refine ⟨fun h => by omega, fun _ => ⟨fun h => ?_, fun h => ?_⟩⟩
  · rwa [if_pos h] at hp
  · rwa [if_neg h] at hp
theorem s_X2_unlikePlaces {f g : Nat → Nat} (hf : ∀ i, f i ≤ 26) (hg : ∀ i, g i ≤ 26) (i j : Nat) {post : Int32 → Prop} (hp : post (nI (ne01 (f i) (g j) + ne01 (f (i + 1)) (g (j + 1)) + ne01 (f (i + 2)) (g (j + 2)) + ne01 (f (i + 3)) (g (j + 3))))) : wp_X2_unlikePlaces (nI (w4 f i)) (nI (w4 g j)) post := by
  refine ⟨5, ?_⟩
  refine s_X2_unlikePlaces_4 hf hg (t := 0) (a := 0) (by decide) ?_
  refine s_X2_unlikePlaces_4 hf hg (t := 1) (by decide) ?_
  refine s_X2_unlikePlaces_4 hf hg (t := 2) (by decide) ?_
  refine s_X2_unlikePlaces_4 hf hg (t := 3) (by decide) ?_
  unfold wp_X2_unlikePlaces_4
  refine ⟨fun _ => ?_, fun h => absurd (by decide) h⟩
  simp only [Nat.reduceSub, Nat.add_zero, Nat.sub_self, Nat.sub_zero]
  rw [show 0 + ne01 (f (i + 3)) (g (j + 3)) + ne01 (f (i + 2)) (g (j + 2)) + ne01 (f (i + 1)) (g (j + 1)) + ne01 (f i) (g j) = ne01 (f i) (g j) + ne01 (f (i + 1)) (g (j + 1)) + ne01 (f (i + 2)) (g (j + 2)) + ne01 (f (i + 3)) (g (j + 3)) by omega]
  exact hp
def hdsOK (B : Bk) (σ : Sg) : Prop := σ 12 0 = nI (bH B) ∧ ∀ j, j < bH B → σ 40 j = nI (hd B j)
theorem s_X2_gatherHeads {B : Bk} {σ : Sg} {τ : Tg} (hB : bok B) (hL : σ 5 0 = nI (bL B)) (hv : tLv B σ) {post : Sg → Tg → Prop} (hp : ∀ σ' : Sg, (∀ k, k ≠ 12 → k ≠ 40 → σ' k = σ k) → hdsOK B σ' → post σ' τ) : wp_X2_gatherHeads σ τ post := by
  have h20 := hB.L
  have loop : ∀ (f l : Nat) (σ1 : Sg), l ≤ bL B → bL B < l + f → (∀ k, k ≠ 12 → k ≠ 40 → σ1 k = σ k) → σ1 12 0 = nI (hn B l) → (∀ i, i < l → lv B i ≠ 0 → σ1 40 (hn B i) = nI i) → wp_X2_gatherHeads_7 post f (nI l) σ1 τ := by
    intro f
    induction f with
    | zero => intro l σ1 a1 a2; omega
    | succ f ih =>
      intro l σ1 a1 a2 hfr h12 h40
      have hh := hn_le B l
      have h3 := lv_le B l
      unfold wp_X2_gatherHeads_7
      rw [hfr 5 (by decide) (by decide), hL, nI_leI (by omega) (by omega)]
      refine ⟨fun h => ?_, fun h => ?_⟩
      · have : l = bL B := by omega
        subst this
        refine hp σ1 hfr ⟨h12, fun j hj => ?_⟩
        obtain ⟨u1, u2, u3⟩ := hdl_ok (B := B) (bL B) j hj
        have := h40 _ u1 u2
        rwa [u3] at this
      · have hl : l < bL B := by omega
        rw [nI_clamp (show l < 2 ^ 31 by omega), hfr 28 (by decide) (by decide), hv l hl, h12, nI_clamp (show hn B l < 2 ^ 31 by omega), show (nI (lv B l) ≤ 0) = (lv B l ≤ 0) from propext (nI_leI (b := 0) (by omega) (by decide)), show nI l + (1 : Int32) = nI (l + 1) from nI_1 l]
        refine ⟨vp_in_nI (by omega) (by decide), fun g => ih (l + 1) σ1 (by omega) (by omega) hfr (by rw [hn, if_pos (by omega)]; exact h12) (fun i hi h0 => ?_), fun g => ⟨vp_in_nI (by omega) (by decide), fun σ5 e5 σ6 e6 => ?_⟩⟩
        · rcases Nat.lt_or_ge i l with q | q
          · exact h40 i q h0
          · rw [show i = l by omega] at h0; omega
        · have e9 : σ5 12 0 = nI (hn B l) := by rw [e5, sig_ne (by decide)]; exact h12
          rw [e9, show nI (hn B l) + (1 : Int32) = nI (hn B l + 1) from nI_1 _] at e6
          refine ih (l + 1) σ6 (by omega) (by omega) (fun k u1 u2 => by rw [e6, sig_ne u1, e5, sig_ne u2]; exact hfr k u1 u2) (by rw [e6, sig_eq, hn, if_neg (by omega)]) (fun i hi h0 => ?_)
          rw [e6, sig_ne (by decide), e5, sig_eq]
          rcases Nat.lt_or_ge i l with q | q
          · have hm : hn B i < hn B l := by
              have e8 : hn B (i + 1) = hn B i + 1 := by rw [hn, if_neg h0]
              have mono : ∀ d, hn B (i + 1) ≤ hn B (i + 1 + d) := by
                intro d
                induction d with
                | zero => exact Nat.le_refl _
                | succ d ih2 =>
                  show hn B (i + 1) ≤ hn B (i + 1 + d) + (if lv B (i + 1 + d) = 0 then 0 else 1)
                  omega
              have h9 := mono (l - (i + 1))
              rw [show i + 1 + (l - (i + 1)) = l by omega] at h9
              omega
            rw [pk_un (by omega)]; exact h40 i q h0
          · rw [show i = l by omega, pk_us]
  unfold wp_X2_gatherHeads
  intro σ1 e1
  exact ⟨bL B + 1, loop (bL B + 1) 0 σ1 (Nat.zero_le _) (by omega) (fun k u _ => by rw [e1, sig_ne u]) (by rw [e1, sig_eq]; rfl) (fun i hi => by omega)⟩
/-- what the list is held against -/
def lok (B : Bk) (σ : Sg) : Prop := cLn B σ ∧ cPg B σ ∧ cSe B σ ∧ cEn B σ ∧ tLv B σ ∧ hdsOK B σ
theorem bH_le {B : Bk} (hB : bok B) : bH B ≤ 20 := Nat.le_trans (hn_le B _) hB.L
theorem lok_same {B : Bk} {σ σ' : Sg} (h : ∀ k, k ≠ 11 → k ≠ 38 → k ≠ 39 → k ≠ 41 → σ' k = σ k) (hk : lok B σ) : lok B σ' := by
  obtain ⟨h1, h2, h3, h4, h5, h6, h7⟩ := hk
  refine ⟨cLn_same (fun k hk => h k (by omega) (by omega) (by omega) (by omega)) h1, cPg_same (fun k hk => h k (by omega) (by omega) (by omega) (by omega)) h2, cSe_same (fun k hk => h k (by omega) (by omega) (by omega) (by omega)) h3, cEn_same (fun k hk => h k (by omega) (by omega) (by omega) (by omega)) h4, fun l hl => by rw [h 28 (by decide) (by decide) (by decide) (by decide)]; exact h5 l hl, by rw [h 12 (by decide) (by decide) (by decide) (by decide)]; exact h6, fun j hj => by rw [h 40 (by decide) (by decide) (by decide) (by decide)]; exact h7 j hj⟩
theorem s_X2_pairCost {B : Bk} {σ : Sg} {τ : Tg} (hB : bok B) (hk : lok B σ) {e j : Nat} (he : e < bE B) (hj : j < bH B) {post : Int32 → Sg → Tg → Prop} (hp : post (nI (pcost B e (hd B j))) σ τ) : wp_X2_pairCost (nI e) (nI j) σ τ post := by
  have h20 := hB.L
  have h12 := hB.E
  have hH := bH_le hB
  have hN := hB.N
  obtain ⟨hL, hP, hS, hE, hv, hh⟩ := hk
  obtain ⟨l, hle⟩ : ∃ l, l = hd B j := ⟨_, rfl⟩
  obtain ⟨hl, -, -⟩ := hdl_ok (B := B) (bL B) j hj
  rw [← hle] at hp
  have hl : l < bL B := by rw [hle]; exact hl
  have ve : vp_in (nI e) 12 := vp_in_nI (by omega) (by decide)
  have vl : vp_in (nI l) 20 := vp_in_nI (by omega) (by decide)
  obtain ⟨l1, -, -, -, l5, l6, -⟩ := hL.2.1 l hl
  obtain ⟨e1, e2, e3, e4⟩ := hE.2 e he
  have hpg := hB.hpg hl
  have b1 := hB.hel he
  have b2 := lv_le B l
  have b3 := hB.hrd (pg B l)
  have b4 := hB.hen e
  unfold wp_X2_pairCost
  refine ⟨vp_in_nI (by omega) (by decide), fun y2 e9 => ?_⟩
  rw [nI_clamp (by omega), hh.2 j hj, ← hle] at e9
  subst e9
  rw [nI_clamp (show e < 2 ^ 31 by omega), nI_clamp (show l < 2 ^ 31 by omega), e1, e2, e3, e4, l1, l5, l6, hv l hl, nI_clamp (show pg B l < 2 ^ 31 by omega), hP.2 _ (by omega), nI_eq (by omega) (by omega)]
  refine ⟨ve, vl, s_X2_unlikePlaces (fun i => (hB.hwd i).2.1) (fun i => (hB.hwd i).1) _ _ ⟨ve, vl, s_X2_unlikePlaces (fun i => (hB.hwd i).2.1) (fun i => (hB.hwd i).1) _ _ (fun y9 e9 => ⟨ve, vl, fun y12 e12 => ⟨vl, vp_in_nI (by omega) (by decide), ve, ?_⟩⟩)⟩⟩
  rw [nI_add] at e9
  rw [abs_nI (by omega) (by omega)] at e12
  have e13 : y9 = nI (slips B e l) := e9
  rw [e13, e12]
  unfold pcost at hp
  refine ⟨fun h => ⟨fun _ => ?_, fun z => absurd rfl z⟩, fun h => ⟨fun z => absurd z (by decide), fun _ => ?_⟩⟩
  · rw [cl4, cl5, cl6, hS.2.1 4 (by decide), hS.2.1 5 (by decide), hS.2.1 6 (by decide), pk_mul, pk_mul, nI_add, nI_add]
    rwa [if_neg h] at hp
  · rw [cl4, cl5, hS.2.1 4 (by decide), hS.2.1 5 (by decide), pk_mul, pk_mul, nI_add, nlit 0, nI_add]
    rwa [if_pos h] at hp
/-- the costs from a place on, entries from e on and of entry e heads from j on -/
def lfs (B : Bk) (e j : Nat) (σ : Sg) : Prop := ∀ a b, a ≤ bE B → b ≤ bH B → (e < a ∨ (e = a ∧ j ≤ b)) → σ 41 (a * 21 + b) = nI (lf B (bE B - a) (bH B - b))
theorem s_X2_leastFrom {B : Bk} {σ : Sg} {τ : Tg} (hB : bok B) (hk : lok B σ) {e j : Nat} (he : e ≤ bE B) (hj : j ≤ bH B) (hs : lfs B e (j + 1) σ) {post : Int32 → Sg → Tg → Prop} (hp : post (nI (lf B (bE B - e) (bH B - j))) σ τ) : wp_X2_leastFrom (nI e) (nI j) σ τ post := by
  have h12 := hB.E
  have hH := bH_le hB
  have h7 := hB.hpr 7
  have bnd : ∀ a b, a ≤ 12 → b ≤ 20 → lf B a b ≤ 1600 := fun a b ha hb => by
    have h1 := lf_le (B := B) a b
    have h2 : pr B 7 * (a + b) ≤ 50 * 32 := Nat.mul_le_mul h7 (by omega)
    omega
  unfold wp_X2_leastFrom
  intro y2 e2
  rw [cl7, hk.2.2.1.2.1 7 (by decide)] at e2
  rw [e2, hk.2.2.2.1.1, hk.2.2.2.2.2.1, nI_eq (by omega) (by omega), nI_eq (by omega) (by omega)]
  refine ⟨fun h1 => ⟨fun h2 y5 e5 => ?_, fun h2 => ?_⟩, fun h1 => ?_⟩
  · have he : e < bE B := by omega
    have hj : j < bH B := by omega
    have e6 : y5 = nI (e * 21 + j) := by rw [e5, nlit 21, pk_mul, nI_add]
    have e7 : y5 + (21 : Int32) = nI ((e + 1) * 21 + j) := by rw [e6, nlit 21, nI_add]; congr 1; omega
    have e8 : y5 + (1 : Int32) = nI (e * 21 + (j + 1)) := by rw [e6, nI_1]; rfl
    have e10 : nI ((e + 1) * 21 + j) + (1 : Int32) = nI ((e + 1) * 21 + (j + 1)) := by rw [nI_1]; rfl
    rw [e7, e8, e10, nI_clamp (show (e + 1) * 21 + j < 2 ^ 31 by omega), nI_clamp (show e * 21 + (j + 1) < 2 ^ 31 by omega), nI_clamp (show (e + 1) * 21 + (j + 1) < 2 ^ 31 by omega), hs (e + 1) j (by omega) (by omega) (by omega), hs e (j + 1) (by omega) (by omega) (by omega)]
    refine ⟨vp_in_nI (by omega) (by decide), vp_in_nI (by omega) (by decide), fun y8 ey8 => s_X2_pairCost hB hk he hj ⟨vp_in_nI (by omega) (by decide), ?_⟩⟩
    rw [hs (e + 1) (j + 1) (by omega) (by omega) (by omega), nI_add]
    have c1 := bnd (bE B - (e + 1)) (bH B - j) (by omega) (by omega)
    have c2 := bnd (bE B - e) (bH B - (j + 1)) (by omega) (by omega)
    have c3 := bnd (bE B - (e + 1)) (bH B - (j + 1)) (by omega) (by omega)
    have c4 := pcost_le hB he (hd B j)
    have y9 : y8 = nI (pr B 7 + min (lf B (bE B - (e + 1)) (bH B - j)) (lf B (bE B - e) (bH B - (j + 1)))) := by
      rcases Nat.lt_or_ge (lf B (bE B - e) (bH B - (j + 1))) (lf B (bE B - (e + 1)) (bH B - j)) with q | q
      · rw [ey8, if_pos (nI_lt q (by omega)), nI_add]; congr 1; omega
      · rw [ey8, if_neg (nI_nlt q (by omega)), nI_add]; congr 1; omega
    have el : lf B (bE B - e) (bH B - j) = min (pr B 7 + min (lf B (bE B - (e + 1)) (bH B - j)) (lf B (bE B - e) (bH B - (j + 1)))) (pcost B e (hd B j) + lf B (bE B - (e + 1)) (bH B - (j + 1))) := by
      rw [show bE B - e = (bE B - (e + 1)) + 1 by omega, show bH B - j = (bH B - (j + 1)) + 1 by omega, lf, show bE B - (bE B - (e + 1) + 1) = e by omega, show bH B - (bH B - (j + 1) + 1) = j by omega]
    rw [el] at hp
    rw [y9]
    rcases Nat.lt_or_ge (pcost B e (hd B j) + lf B (bE B - (e + 1)) (bH B - (j + 1))) (pr B 7 + min (lf B (bE B - (e + 1)) (bH B - j)) (lf B (bE B - e) (bH B - (j + 1)))) with q | q
    · rw [if_pos (nI_lt q (by omega))]
      rwa [Nat.min_eq_right (Nat.le_of_lt q)] at hp
    · rw [if_neg (nI_nlt q (by omega))]
      rwa [Nat.min_eq_left q] at hp
  · rw [pk_sub he, pk_mul]
    rwa [show bH B - j = 0 by omega, lf_0] at hp
  · rw [pk_sub hj, pk_mul]
    rwa [show bE B - e = 0 by omega, lf] at hp
