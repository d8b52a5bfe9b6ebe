/-! both sides: of, shift -/
theorem out7 {y : Int32} (h : y.toInt < 0 ∨ 7 < y.toInt) (w : Nat) (hw : w ≤ 7) : y ≠ nI w := fun e => by
  rw [e, nI_toInt (by omega)] at h
  omega
theorem s_X7_of {B : Bk} {σ : Sg} {τ : Tg} (hI : CI B σ τ) {x y : Int32} {post : Int32 → Sg → Tg → Prop} {postX : Sg → Tg → Prop} (h1 : ∀ (l w : Nat) (σ' : Sg) (τ' : Tg), l < bL B → x = nI l → w ≤ 7 → y = nI w → CI B σ' τ' → post (a_of B l w) σ' τ') (h0 : (∀ l w, l < bL B → x = nI l → w ≤ 7 → y ≠ nI w) → postX σ τ) : wp_X7_of x y σ τ post postX := by
  obtain ⟨hB, ⟨c1, c2, c3, c4, -⟩, -⟩ := id hI
  have h20 := hB.L
  have hN := hB.N
  unfold wp_X7_of
  refine s_X1_has hB c2 (fun l hl ex => ⟨fun _ => ?_, fun z => absurd z (by decide)⟩) (fun g => ⟨fun z => absurd rfl z, fun _ => h0 (fun l w hl ex _ _ => g l hl ex)⟩)
  have hv : vp_in x 20 := by rw [ex]; exact vp_in_nI (by omega) (by decide)
  have ec : x.toNatClampNeg = l := by rw [ex]; exact nI_clamp (by omega)
  have hq : ∀ (w : Nat) (σ' : Sg) (τ' : Tg), w ≤ 7 → y = nI w → CI B σ' τ' → post (a_of B l w) σ' τ' := fun w σ' τ' hw ey hc => h1 l w σ' τ' hl ex hw ey hc
  rw [ec]
  refine ⟨fun g => ⟨hv, ?_⟩, fun g => ?_, fun g => s_X7_freshTree hI (fun σ2 τ2 hI2 _ ht => ⟨hv, fun w => ?_, fun w => ?_⟩), fun g => s_X7_freshTree hI (fun σ2 τ2 hI2 _ ht => ⟨hv, ?_⟩), fun g => ⟨hv, ?_⟩, fun g => s_X7_freshTree hI (fun σ2 τ2 hI2 _ ht => ?_), fun g => s_X7_freshListing hI (fun σ2 τ2 hI2 ht hl2 => ⟨hv, ?_⟩), fun g => s_X7_freshTree hI (fun σ2 τ2 hI2 _ ht => ?_), fun g => h0 (fun l w _ _ hw => out7 g w hw)⟩
  · rw [(c2.2.1 l hl).1]; exact hq 0 σ τ (by decide) g hI
  · rw [ex]; exact s_X1_look hB c2 hl (hq 1 σ τ (by decide) g hI)
  · have h9 : post (if run B l = true then 1 else 0) σ2 τ2 := hq 2 σ2 τ2 (by decide) g hI2
    rw [ht.1 l hl] at w
    rw [w] at h9; exact h9
  · have h9 : post (if run B l = true then 1 else 0) σ2 τ2 := hq 2 σ2 τ2 (by decide) g hI2
    rw [ht.1 l hl] at w
    have hr : run B l = true := by
      rcases Bool.eq_false_or_eq_true (run B l) with z | z
      · exact z
      · rw [if_neg (by rw [z]; decide)] at w; exact absurd rfl w
    rw [if_pos hr] at h9; exact h9
  · rw [ht.2.2.2.1 l hl]; exact hq 3 σ2 τ2 (by decide) g hI2
  · rw [(c2.2.1 l hl).2.2.2.2.2.2]; exact hq 4 σ τ (by decide) g hI
  · obtain ⟨d1, d2, -⟩ := id hI2.2.1
    rw [ex, d1.1, nlit 1, pk_sub hN.1]
    exact s_X6_lastPage hB d2 ht.2.2.2.1 hl (hq 5 σ2 τ2 (by decide) g hI2)
  · rw [hl2.2.2 l (by omega)]; exact hq 6 σ2 τ2 (by decide) g hI2
  · rw [ex]; exact s_X6_headAbove hB ht.2.2.2.1 hl (hq 7 σ2 τ2 (by decide) g hI2)
theorem s_X7_shift {B : Bk} {σ : Sg} {τ : Tg} (hI : CI B σ τ) {x : Int32} {post : Int32 → Sg → Tg → Prop} {postX : Sg → Tg → Prop} (h1 : ∀ (p : Nat) (σ' : Sg) (τ' : Tg), p < bN B → x = nI p → CI B σ' τ' → post (shI (ssp B p)) σ' τ') (h0 : (∀ p, p < bN B → x ≠ nI p) → postX σ τ) : wp_X7_shift x σ τ post postX := by
  obtain ⟨hB, ⟨c1, -⟩, -⟩ := id hI
  have hN := hB.N
  unfold wp_X7_shift
  refine s_X3_has hB c1 (fun p hp e => ⟨fun _ => s_X7_freshShifts hI (fun σ2 τ2 hI2 hs => ?_), fun z => absurd z (by decide)⟩) (fun g => ⟨fun z => absurd rfl z, fun _ => h0 g⟩)
  rw [e, nI_clamp (by omega), (hs.2.2.2 p hp).2]
  exact ⟨vp_in_nI (by omega) (by decide), h1 p σ2 τ2 hp e hI2⟩
section
variable {B : Bk} {n : Nat} {σ : Sg} {τ : Tg} {μ : Sg}
theorem J_of (hn : n + 1 < 2 ^ 31) (hC : CI B σ τ) (hM : MI B n μ) (x y : Int32) : wp_X7_of x y σ τ (fun r σ' τ' => wp_X8_of x y μ (fun r' μ' => r = r' ∧ μ' 3 0 = 0 ∧ JI (n + 1) σ' τ' μ')) (fun σ' τ' => wp_X8_of x y μ (fun _ μ' => μ' 3 0 = 1 ∧ JI (n + 1) σ' τ' μ')) := by
  have h20 := hC.1.L
  refine s_X7_of hC (fun l w σ' τ' hl ex hw ey hc => m_of hn hM (fun l' w' μ' hl' ex' hw' ey' hm ht => ?_) (fun g => absurd ey (g l w hl ex hw))) (fun g => m_of hn hM (fun l' w' μ' hl' ex' hw' ey' hm ht => absurd ey' (g l' w' hl' ex' hw')) (fun _ μ' hm ht => ⟨ht, B, hC, hm⟩))
  have e1 : l = l' := nI_inj (by omega) (by omega) (ex.symm.trans ex')
  have e2 : w = w' := nI_inj (by omega) (by omega) (ey.symm.trans ey')
  subst e1
  subst e2
  exact ⟨rfl, ht, _, hc, hm⟩
theorem J_shift (hn : n + 1 < 2 ^ 31) (hC : CI B σ τ) (hM : MI B n μ) (x : Int32) : wp_X7_shift x σ τ (fun r σ' τ' => wp_X8_shift x μ (fun r' μ' => r = r' ∧ μ' 3 0 = 0 ∧ JI (n + 1) σ' τ' μ')) (fun σ' τ' => wp_X8_shift x μ (fun _ μ' => μ' 3 0 = 1 ∧ JI (n + 1) σ' τ' μ')) := by
  have hN := hC.1.N
  refine s_X7_shift hC (fun p σ' τ' hp ex hc => m_shift hn hM (fun p' μ' hp' ex' hm ht => ?_) (fun g => absurd ex (g p hp))) (fun g => m_shift hn hM (fun p' μ' hp' ex' hm ht => absurd ex' (g p' hp')) (fun _ μ' hm ht => ⟨ht, B, hC, hm⟩))
  have e1 : p = p' := nI_inj (by omega) (by omega) (ex.symm.trans ex')
  subst e1
  exact ⟨rfl, ht, _, hc, hm⟩
end
