/-! the class: its caches made fresh -/
theorem s_in {x : Int32} {a b : Nat} (ha : a < 2 ^ 31) (hb : b < 2 ^ 31) {post : Int32 → Prop} (h1 : ∀ p, a ≤ p → p ≤ b → x = nI p → post 1) (h0 : (∀ p, a ≤ p → p ≤ b → x ≠ nI p) → post 0) : wp_X7_isWithin x (nI a) (nI b) post := by
  unfold wp_X7_isWithin
  by_cases hx : x < 0
  · have hno : ∀ p, a ≤ p → p ≤ b → x ≠ nI p := fun p _ hp e => nI_pos (n := p) (by omega) (by rw [← e]; exact hx)
    refine ⟨fun _ => h0 hno, fun g => absurd (Int32.lt_of_lt_of_le hx (nI_pos' ha)) g⟩
  · obtain ⟨j, hj, e⟩ := nI_of hx
    subst e
    rw [nI_ltI hj ha, nI_ltI hb hj]
    refine ⟨fun g => h0 (fun p p1 p2 e => by have := nI_inj hj (by omega) e; omega), fun g => ⟨fun g2 => h0 (fun p p1 p2 e => by have := nI_inj hj (by omega) e; omega), fun g2 => h1 j (by omega) (by omega) rfl⟩⟩
theorem s_in0 {x : Int32} {n : Nat} (hn : n < 2 ^ 31) {post : Int32 → Prop} (h1 : ∀ p, p < n → x = nI p → post 1) (h0 : (∀ p, p < n → x ≠ nI p) → post 0) : wp_X7_isWithin x (0 : Int32) (nI n - (1 : Int32)) post := by
  rcases Nat.eq_zero_or_pos n with q | q
  · subst q
    unfold wp_X7_isWithin
    have hz : post 0 := h0 (fun p hp => by omega)
    refine ⟨fun _ => hz, fun g => ⟨fun _ => hz, fun g2 => ?_⟩⟩
    exfalso
    have e : nI 0 - (1 : Int32) = -1 := by decide
    rw [e] at g2
    have h3 : (0 : Int32) ≤ x := Int32.not_lt.mp g
    have h4 : x ≤ -1 := Int32.not_lt.mp g2
    exact absurd (Int32.le_trans h3 h4) (by decide)
  · rw [show (0 : Int32) = nI 0 from rfl, nlit 1, pk_sub q]
    exact s_in (by decide) (by omega) (fun p _ p2 e => h1 p (by omega) e) (fun g => h0 (fun p hp => g p (Nat.zero_le _) (by omega)))
theorem bz_0 : bz 0 := Or.inl rfl
theorem bz_1 : bz 1 := Or.inr rfl
theorem s_X3_has {B : Bk} {σ : Sg} {τ : Tg} (hB : bok B) (hP : cPg B σ) {x : Int32} {post : Int32 → Sg → Tg → Prop} (h1 : ∀ p, p < bN B → x = nI p → post 1 σ τ) (h0 : (∀ p, p < bN B → x ≠ nI p) → post 0 σ τ) : wp_X3_has x σ τ post := by
  have hN := hB.N
  unfold wp_X3_has
  rw [hP.1]
  exact s_in0 (by omega) (fun p hp e => ⟨bz_1, h1 p hp e⟩) (fun g => ⟨bz_0, h0 g⟩)
theorem s_X1_has {B : Bk} {σ : Sg} {τ : Tg} (hB : bok B) (hL : cLn B σ) {x : Int32} {post : Int32 → Sg → Tg → Prop} (h1 : ∀ l, l < bL B → x = nI l → post 1 σ τ) (h0 : (∀ l, l < bL B → x ≠ nI l) → post 0 σ τ) : wp_X1_has x σ τ post := by
  have h20 := hB.L
  unfold wp_X1_has
  rw [hL.1]
  exact s_in0 (by omega) (fun p hp e => ⟨bz_1, h1 p hp e⟩) (fun g => ⟨bz_0, h0 g⟩)
theorem s_X7_freshTree {B : Bk} {σ : Sg} {τ : Tg} (hI : CI B σ τ) {post : Sg → Tg → Prop} (hp : ∀ (σ' : Sg) (τ' : Tg), CI B σ' τ' → σ' 0 0 = 0 → treeOK B σ' → post σ' τ') : wp_X7_freshTree σ τ post := by
  obtain ⟨hB, ⟨c1, c2, c3, c4, c5, c6, c7⟩, f1, f2, f3⟩ := hI
  unfold wp_X7_freshTree
  refine ⟨fun h => ?_, fun h => s_X6_search hB c2 c3 c5 c6 (fun σ2 τ2 g1 g2 g3 g4 σ4 e4 σ5 e5 => ?_)⟩
  · rcases f1 with z | z
    · rw [z] at h; exact absurd h (by decide)
    · exact hp σ τ ⟨hB, ⟨c1, c2, c3, c4, c5, c6, c7⟩, Or.inr z, f2, f3⟩ h z.2
  · have e9 : ∀ k, k ≠ 0 → k ≠ 1 → σ5 k = σ2 k := fun k u1 u2 => by rw [e5, sig_ne u2, e4, sig_ne u1]
    have e8 : ∀ k, (2 ≤ k ∧ k < 6) ∨ (10 ≤ k ∧ k ≤ 26) ∨ 34 ≤ k → σ5 k = σ k := fun k hk => by rw [e9 k (by omega) (by omega)]; exact g1 k (by omega)
    have h0 : σ5 0 0 = 0 := by rw [e5, sig_ne (by decide), e4, sig_eq]
    have h1 : σ5 1 0 = 1 := by rw [e5, sig_eq]
    have ht : treeOK B σ5 := treeOK_same (fun k hk => e9 k (by omega) (by omega)) g4
    refine hp σ5 τ2 ⟨hB, ⟨cPg_same (fun k hk => e8 k (by omega)) c1, cLn_same (fun k hk => e8 k (by omega)) c2, cSe_same (fun k hk => e8 k (by omega)) c3, cEn_same (fun k hk => e8 k (by omega)) c4, by rw [e9 33 (by decide) (by decide)]; exact g2, g3, fun t ht => by rw [e8 46 (by omega)]; exact c7 t ht⟩, Or.inr ⟨h0, ht⟩, Or.inl h1, ?_⟩ h0 ht
    rw [e8 2 (by omega)]
    rcases f3 with z | z
    · exact Or.inl z
    · exact Or.inr ⟨z.1, shOK_same (fun k hk => e8 k (by omega)) z.2⟩
theorem s_X7_freshListing {B : Bk} {σ : Sg} {τ : Tg} (hI : CI B σ τ) {post : Sg → Tg → Prop} (hp : ∀ (σ' : Sg) (τ' : Tg), CI B σ' τ' → treeOK B σ' → listOK B σ' → post σ' τ') : wp_X7_freshListing σ τ post := by
  unfold wp_X7_freshListing
  refine s_X7_freshTree hI (fun σ1 τ1 hI1 h0 ht => ?_)
  obtain ⟨hB, ⟨c1, c2, c3, c4, c5, c6, c7⟩, f1, f2, f3⟩ := id hI1
  refine ⟨fun h => ?_, fun h => s_X2_hold hB c2 c1 c3 c4 ht.2.2.2.1 (fun σ4 g1 g2 σ6 e6 => ?_)⟩
  · rcases f2 with z | z
    · rw [z] at h; exact absurd h (by decide)
    · rcases z.2 with w | w
      · rw [w] at h0; exact absurd h0 (by decide)
      · exact hp σ1 τ1 hI1 ht w
  · have e8 : ∀ k, k ≠ 1 → k ≠ 11 → k ≠ 12 → k ≠ 38 → k ≠ 39 → k ≠ 40 → k ≠ 41 → σ6 k = σ1 k := fun k u0 u1 u2 u3 u4 u5 u6 => by rw [e6, sig_ne u0]; exact g1 k u1 u2 u3 u4 u5 u6
    have hl : listOK B σ6 := listOK_same (fun k hk => by rw [e6, sig_ne (by omega)]) g2
    have ht6 : treeOK B σ6 := treeOK_same (fun k hk => e8 k (by omega) (by omega) (by omega) (by omega) (by omega) (by omega) (by omega)) ht
    refine hp σ6 τ1 ⟨hB, ⟨cPg_same (fun k hk => e8 k (by omega) (by omega) (by omega) (by omega) (by omega) (by omega) (by omega)) c1, cLn_same (fun k hk => e8 k (by omega) (by omega) (by omega) (by omega) (by omega) (by omega) (by omega)) c2, cSe_same (fun k hk => e8 k (by omega) (by omega) (by omega) (by omega) (by omega) (by omega) (by omega)) c3, cEn_same (fun k hk => e8 k (by omega) (by omega) (by omega) (by omega) (by omega) (by omega) (by omega)) c4, by rw [e8 33 (by decide) (by decide) (by decide) (by decide) (by decide) (by decide) (by decide)]; exact c5, c6, fun t ht => by rw [e8 46 (by decide) (by decide) (by decide) (by decide) (by decide) (by decide) (by decide)]; exact c7 t ht⟩, Or.inr ⟨by rw [e8 0 (by decide) (by decide) (by decide) (by decide) (by decide) (by decide) (by decide)]; exact h0, ht6⟩, Or.inr ⟨by rw [e6, sig_eq], Or.inr hl⟩, ?_⟩ ht6 hl
    rw [e8 2 (by decide) (by decide) (by decide) (by decide) (by decide) (by decide) (by decide)]
    rcases f3 with z | z
    · exact Or.inl z
    · exact Or.inr ⟨z.1, shOK_same (fun k hk => e8 k (by omega) (by omega) (by omega) (by omega) (by omega) (by omega) (by omega)) z.2⟩
theorem s_X7_freshShifts {B : Bk} {σ : Sg} {τ : Tg} (hI : CI B σ τ) {post : Sg → Tg → Prop} (hp : ∀ (σ' : Sg) (τ' : Tg), CI B σ' τ' → shOK B σ' → post σ' τ') : wp_X7_freshShifts σ τ post := by
  obtain ⟨hB, ⟨c1, c2, c3, c4, c5, c6, c7⟩, f1, f2, f3⟩ := id hI
  unfold wp_X7_freshShifts
  refine ⟨fun h => ?_, fun h => s_X5_explain hB c1 c3 c7 (fun σ2 g1 g2 g3 σ4 e4 => ?_)⟩
  · rcases f3 with z | z
    · rw [z] at h; exact absurd h (by decide)
    · exact hp σ τ hI z.2
  · have e8 : ∀ k, k ≠ 2 → (k < 13 ∨ (16 ≤ k ∧ k ≤ 41)) → σ4 k = σ k := fun k u1 u2 => by rw [e4, sig_ne u1]; exact g1 k u2
    have hs : shOK B σ4 := shOK_same (fun k hk => by rw [e4, sig_ne (by omega)]) g3
    refine hp σ4 τ ⟨hB, ⟨cPg_same (fun k hk => e8 k (by omega) (by omega)) c1, cLn_same (fun k hk => e8 k (by omega) (by omega)) c2, cSe_same (fun k hk => e8 k (by omega) (by omega)) c3, cEn_same (fun k hk => e8 k (by omega) (by omega)) c4, by rw [e8 33 (by decide) (by omega)]; exact c5, c6, fun t ht => by rw [e4, sig_ne (by decide)]; exact g2 t ht⟩, ?_, ?_, Or.inr ⟨by rw [e4, sig_eq], hs⟩⟩ hs
    · rw [e8 0 (by decide) (by omega)]
      rcases f1 with z | z
      · exact Or.inl z
      · exact Or.inr ⟨z.1, treeOK_same (fun k hk => e8 k (by omega) (by omega)) z.2⟩
    · rw [e8 1 (by decide) (by omega), e8 0 (by decide) (by omega)]
      rcases f2 with z | z
      · exact Or.inl z
      · refine Or.inr ⟨z.1, ?_⟩
        rcases z.2 with w | w
        · exact Or.inl w
        · exact Or.inr (listOK_same (fun k hk => e8 k (by omega) (by omega)) w)
