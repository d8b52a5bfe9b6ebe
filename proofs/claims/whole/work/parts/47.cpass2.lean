/-! a line is passed: all states of a row -/
theorem far_eq : (1152921504606846976 : Int64) = lN (2 ^ 60) := rfl
def dps (B : Bk) (l : Nat) (σ : Sg) (τ : Tg) : Prop := ∃ (K S : Nat → Nat) (n : Nat), (∀ q, q < 2744 → τ 0 q = lN (K q)) ∧ (∀ i, i < n → σ 31 i = nI (S i)) ∧ σ 8 0 = nI n ∧ rok K S n ∧ (∀ q, q < 2744 → τ 1 q = lN (2 ^ 60)) ∧ lowK B l K ∧ bndK l K ∧ ∃ i, i < n ∧ K (S i) + kb B (bL B - l) (up3 (S i)) ≤ tgt B
theorem s_X6_passLine_22 {B : Bk} (hB : bok B) {l D : Nat} (hl : l < bL B) (hD : D ≤ 3) (hDr : run B l = false → D = 3) (hDt : run B l = true → D = 0) {K S : Nat → Nat} {n : Nat} (hR : rok K S n) (hlow : lowK B l K) (hbnd : bndK l K) {i0 : Nat} (hi0 : i0 < n) (hopt : K (S i0) + kb B (bL B - l) (up3 (S i0)) ≤ tgt B) {post : Sg → Tg → Prop} {σ0 : Sg}
    (hp : ∀ (σ : Sg) (τ : Tg), (∀ j, j ≠ 33 → j ≠ 32 → j ≠ 9 → j ≠ 31 → j ≠ 8 → σ j = σ0 j) → σ 33 0 = 1 → dps B (l + 1) σ τ → post σ τ) :
    ∀ (f k : Nat) (σ : Sg) (τ : Tg) (K' S' : Nat → Nat) (n' : Nat) (Kk : Nat → Nat), k ≤ n → n < k + f → sok B σ → (∀ j, 1 ≤ j → j ≤ 3 → σ 30 j = nI (mx B j (bL B - (l + 1)) + 1)) → (∀ j, j ≠ 33 → j ≠ 32 → j ≠ 9 → σ j = σ0 j) → (∀ i, i < n → σ 31 i = nI (S i)) → σ 8 0 = nI n → (∀ q, q < 2744 → τ 0 q = lN (Kk q)) →
      (∀ i, k ≤ i → i < n → Kk (S i) = K (S i)) → (∀ i, i < k → Kk (S i) = 2 ^ 60) → (∀ q, q < 2744 → (∀ i, i < n → S i ≠ q) → Kk q = 2 ^ 60) → nrow K' S' n' σ τ → lowK B (l + 1) K' → bndK (l + 1) K' → (i0 < k → K' (dst B l (up3 (S i0)) (gv B (bL B - (l + 1)) (up3 (S i0)))) + kb B (bL B - (l + 1)) (up3 (dst B l (up3 (S i0)) (gv B (bL B - (l + 1)) (up3 (S i0))))) ≤ tgt B) → wp_X6_passLine_22 post f (nI l) (nI D) (nI k) σ τ := by
  have h20 := hB.L
  have hn := hR.le
  intro f
  induction f with
  | zero => intro k σ τ K' S' n' Kk a1 a2; omega
  | succ f ih =>
    intro k σ τ K' S' n' Kk a1 a2 hk hcp hfr h31 h8 hτ b1 b2 b3 hN hlo hbd hat
    unfold wp_X6_passLine_22
    rw [h8, nI_leI (by omega) (by omega)]
    refine ⟨fun h => ?_, fun h => ?_⟩
    · have hkn : k = n := by omega
      subst hkn
      have hall : ∀ q, q < 2744 → Kk q = 2 ^ 60 := fun q hq => by
        by_cases g : ∃ i, i < k ∧ S i = q
        · obtain ⟨i, hi, e⟩ := g
          rw [← e]; exact b2 i hi
        · exact b3 q hq (fun i hi e => g ⟨i, hi, e⟩)
      unfold wp_X6_swapRows
      refine hp _ _ (fun j u1 u2 u3 u4 u5 => ?_) ?_ ⟨K', S', n', fun q hq => ?_, fun i hi => ?_, ?_, hN.2.2.2, fun q hq => ?_, hlo, hbd, ?_⟩
      · show sw_σ σ j = σ0 j
        unfold sw_σ
        rw [sig_ne u5, sig_ne u2, sig_ne u4]; exact hfr j u1 u2 u3
      · show sw_σ σ 33 0 = 1
        unfold sw_σ
        rw [sig_ne (by decide), sig_ne (by decide), sig_ne (by decide)]; exact hk.2.2.2
      · show sw_τ τ 0 q = _
        unfold sw_τ
        rw [sig_ne (by decide), sig_eq]; exact hN.1 q hq
      · show sw_σ σ 31 i = _
        unfold sw_σ
        rw [sig_ne (by decide), sig_ne (by decide), sig_eq]; exact hN.2.1 i hi
      · show sw_σ σ 8 0 = _
        unfold sw_σ
        rw [sig_eq]; exact hN.2.2.1
      · show sw_τ τ 1 q = _
        unfold sw_τ
        rw [sig_eq, hτ q hq, hall q hq]
      · have h1 := hat hi0
        have hd := dst_lt hB l (up3 (S i0)) (gv B (bL B - (l + 1)) (up3 (S i0)))
        have hKd : K' (dst B l (up3 (S i0)) (gv B (bL B - (l + 1)) (up3 (S i0)))) < 2 ^ 60 := by
          have hb0 := hbnd (S i0) (hR.1 i0 hi0).2
          have hle := ls_le hB (bL B) (0, 0, 0)
          have hbl := bits_lt (B := B) (bL B) (0, 0, 0)
          have hpw : 4 ^ (20 - bL B + bL B) = 2 ^ 40 := by
            rw [show 20 - bL B + bL B = 20 by omega]
          have ht : tgt B = ls B (bL B) (0, 0, 0) * 2 ^ 40 + bits B (bL B) (0, 0, 0) := rfl
          omega
        obtain ⟨i, hi, hs⟩ := hN.2.2.2.2.1 _ hd hKd
        exact ⟨i, hi, by rw [hs]; exact h1⟩
    · have hkn : k < n := by omega
      obtain ⟨hSk, hKk⟩ := hR.1 k hkn
      have hvk : vp_in (nI k) 2744 := vp_in_nI (by omega) (by decide)
      refine ⟨hvk, fun y5 e5 => ?_⟩
      rw [nI_clamp (by omega), h31 k hkn] at e5
      subst e5
      have hvs : vp_in (nI (S k)) 2744 := vp_in_nI hSk (by decide)
      refine ⟨hvs, fun y7 e7 => ⟨hvs, fun τ9 e9 => ?_⟩⟩
      rw [nI_clamp (by omega)] at e7 e9
      rw [hτ _ hSk, b1 k (Nat.le_refl k) hkn] at e7
      subst e7
      rw [far_eq] at e9
      refine ⟨5, s_X6_passLine_60 hB hl hD hDr hDt hSk (hbnd _ hKk) (hlow _ hSk hKk) (k := k) (σ0 := σ) (τ0 := τ9) (K0 := K') (fun σ3 τ3 K3 S3 n3 g1 g2 g3 g4 g5 g6 g7 g8 => ?_) 5 0 σ τ9 K' S' n' (by omega) (by omega) hk hcp (fun _ _ _ _ => rfl) rfl ⟨fun q hq => by rw [e9, sig_ne (by decide)]; exact hN.1 q hq, hN.2.1, hN.2.2.1, hN.2.2.2⟩ hlo hbd (fun j => Nat.le_refl _) (fun w hw => by omega)⟩
      refine ih (k + 1) σ3 τ3 K3 S3 n3 (fun q => if q = S k then 2 ^ 60 else Kk q) (by omega) (by omega) (sok_same (fun j hj => g1 j (by omega) (by omega) (by omega)) g2 hk) (fun j u1 u2 => by rw [g1 30 (by decide) (by decide) (by decide)]; exact hcp j u1 u2) (fun j u1 u2 u3 => (g1 j u1 u2 u3).trans (hfr j u1 u2 u3)) (fun i hi => by rw [g1 31 (by decide) (by decide) (by decide)]; exact h31 i hi) (by rw [g1 8 (by decide) (by decide) (by decide)]; exact h8) (fun q hq => ?_) (fun i u1 u2 => ?_) (fun i hi => ?_) (fun q hq u => ?_) g4 g5 g6 (fun hi => ?_)
      · rw [g3, e9, sig_eq]
        by_cases w : q = S k
        · rw [w, pk_uLs]; (try dsimp only); rw [if_pos rfl]
        · rw [pk_uLn w]; (try dsimp only); rw [if_neg w]; exact hτ q hq
      · try dsimp only
        rw [if_neg (fun e => hR.2.2.1 k i (by omega) u2 e.symm)]
        exact b1 i (by omega) u2
      · try dsimp only
        rcases Nat.lt_or_ge i k with w | w
        · rw [if_neg (hR.2.2.1 i k w hkn)]; exact b2 i w
        · rw [show i = k by omega, if_pos rfl]
      · try dsimp only
        rw [if_neg (fun e => u k hkn e.symm)]
        exact b3 q hq u
      · rcases Nat.lt_or_ge i0 k with w | w
        · exact Nat.le_trans (Nat.add_le_add_right (g7 _) _) (hat w)
        · have e : i0 = k := by omega
          subst e
          obtain ⟨v1, v2, v3⟩ := kb_eqL hB hl (up3 (S i0))
          have h9 := g8 _ v1 v2
          rw [dst_kb hB]
          omega
theorem s_X6_passLine {B : Bk} {σ : Sg} {τ : Tg} (hB : bok B) {l : Nat} (hl : l < bL B) (hk : sok B σ) (hcp : ∀ j, 1 ≤ j → j ≤ 3 → σ 30 j = nI (mx B j (bL B - (l + 1)) + 1)) (hd : dps B l σ τ) {post : Sg → Tg → Prop}
    (hp : ∀ (σ' : Sg) (τ' : Tg), (∀ j, j ≠ 33 → j ≠ 32 → j ≠ 9 → j ≠ 31 → j ≠ 8 → σ' j = σ j) → σ' 33 0 = 1 → dps B (l + 1) σ' τ' → post σ' τ') : wp_X6_passLine (nI l) σ τ post := by
  have h20 := hB.L
  obtain ⟨K, S, n, h0, h31, h8, hR, h1, hlo, hbd, i0, hi0, hopt⟩ := hd
  have go : ∀ D : Nat, D ≤ 3 → (run B l = false → D = 3) → (run B l = true → D = 0) → wp_X6_passLine_14 post (nI l) (nI D) σ τ := fun D d1 d2 d3 => by
    unfold wp_X6_passLine_14
    intro σ1 e1
    refine ⟨n + 1, s_X6_passLine_22 hB hl d1 d2 d3 hR hlo hbd hi0 hopt (σ0 := σ) hp (n + 1) 0 σ1 τ (fun _ => 2 ^ 60) S 0 K (Nat.zero_le _) (by omega) (sok_same (fun j hj => by rw [e1, sig_ne (by omega)]) (by rw [e1, sig_ne (by decide)]; exact hk.2.2.2) hk) (fun j u1 u2 => by rw [e1, sig_ne (by decide)]; exact hcp j u1 u2) (fun j _ _ u3 => by rw [e1, sig_ne u3]) (fun i hi => by rw [e1, sig_ne (by decide)]; exact h31 i hi) (by rw [e1, sig_ne (by decide)]; exact h8) h0 (fun _ _ _ => rfl) (fun i hi => by omega) (fun q hq u => ?_) ⟨h1, fun i hi => by omega, by rw [e1, sig_eq]; rfl, ⟨fun i hi => by omega, fun q _ w => absurd w (Nat.lt_irrefl _), fun i j _ hj => by omega, fun q => Nat.le_refl _⟩⟩ (fun q _ w => absurd w (Nat.lt_irrefl _)) (fun q w => absurd w (Nat.lt_irrefl _)) (fun h => by omega)⟩
    rcases Nat.lt_or_ge (K q) (2 ^ 60) with w | w
    · obtain ⟨i, hi, e⟩ := hR.2.1 q hq w
      exact absurd e (u i hi)
    · have := hR.2.2.2 q; omega
  unfold wp_X6_passLine
  rw [nI_clamp (by omega), hk.2.2.1 l hl]
  refine ⟨vp_in_nI (by omega) (by decide), fun h => go 3 (by decide) (fun _ => rfl) (fun z => by rw [if_pos z] at h; exact absurd h (by decide)), fun h => go 0 (by decide) (fun z => by rw [z] at h; exact absurd rfl h) (fun _ => rfl)⟩
