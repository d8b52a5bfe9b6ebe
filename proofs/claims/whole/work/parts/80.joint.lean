/-! both sides, call by call -/
def JI (n : Nat) (σ : Sg) (τ : Tg) (μ : Sg) : Prop := ∃ B, CI B σ τ ∧ MI B n μ
abbrev JP (n : Nat) (σ' : Sg) (τ' : Tg) (r r' : Int32) (μ' : Sg) : Prop := r = r' ∧ JI n σ' τ' μ'
section
variable {B : Bk} {n : Nat} {σ : Sg} {τ : Tg} {μ : Sg}
theorem J_book (hC : CI B σ τ) (hM : MI B n μ) (x : Int32) : wp_X7_book x σ τ (fun r σ' τ' => wp_X8_book x μ (fun r' μ' => JP (n + 1) σ' τ' r r' μ')) := by
  refine s_X7_book hC (fun m σ' m1 m2 ex hc => m_book hM (fun m' μ' q1 q2 ex' hm => ?_) (fun g => absurd ex (g m m1 m2))) (fun g => m_book hM (fun m' μ' q1 q2 ex' hm => absurd ex' (g m' q1 q2)) (fun _ μ' hm => ⟨rfl, B, hC, hm⟩))
  have e : m = m' := nI_inj (by omega) (by omega) (ex.symm.trans ex')
  subst e
  exact ⟨rfl, _, hc, hm⟩
theorem J_read (hC : CI B σ τ) (hM : MI B n μ) (x y : Int32) : wp_X7_read x y σ τ (fun r σ' τ' => wp_X8_read x y μ (fun r' μ' => JP (n + 1) σ' τ' r r' μ')) := by
  have hN := hC.1.N
  refine s_X7_read hC (fun p v σ' hp ex hv ey hc => m_read hM (fun p' v' μ' hp' ex' hv' ey' hm => ?_) (fun g => absurd ⟨⟨p, hp, ex⟩, v, hv, ey⟩ g)) (fun g => m_read hM (fun p' v' μ' hp' ex' hv' ey' hm => absurd ⟨⟨p', hp', ex'⟩, v', hv', ey'⟩ g) (fun _ μ' hm => ⟨rfl, B, hC, hm⟩))
  have e1 : p = p' := nI_inj (by omega) (by omega) (ex.symm.trans ex')
  have e2 : v = v' := nI_inj (by omega) (by omega) (ey.symm.trans ey')
  subst e1
  subst e2
  exact ⟨rfl, _, hc, hm⟩
theorem J_line (hC : CI B σ τ) (hM : MI B n μ) (x y z : Int32) (c : Nat) (hc1 : c ≤ 1) (a b u : Int32) : wp_X7_line x y z (nI c) a b u σ τ (fun r σ' τ' => wp_X8_line x y z (nI c) a b u μ (fun r' μ' => JP (n + 1) σ' τ' r r' μ')) := by
  have hN := hC.1.N
  obtain ⟨na, hna, rfl⟩ := wb32 a
  obtain ⟨nb, hnb, rfl⟩ := wb32 b
  refine s_X7_line hC hc1 hna hnb (fun p s b v σ' ex ey ez eu hk hc => m_line hM hc1 hna hnb (fun p' s' b' v' μ' ex' ey' ez' eu' hk' hm => ?_) (fun g => absurd hk (g p s b v ex ey ez eu))) (fun g => m_line hM hc1 hna hnb (fun p' s' b' v' μ' ex' ey' ez' eu' hk' hm => absurd hk' (g p' s' b' v' ex' ey' ez' eu')) (fun _ μ' hm => ⟨rfl, B, hC, hm⟩))
  obtain ⟨k1, -, -, k4, k5, -, -, k8⟩ := id hk
  obtain ⟨k1', -, -, k4', k5', -, -, k8'⟩ := id hk'
  have u1 := k8.1
  have u2 := k8'.1
  have e1 : p = p' := nI_inj (by omega) (by omega) (ex.symm.trans ex')
  have e2 : s = s' := nI_inj (by omega) (by omega) (ey.symm.trans ey')
  have e3 : b = b' := nI_inj (by omega) (by omega) (ez.symm.trans ez')
  have e4 : v = v' := nI_inj (by omega) (by omega) (eu.symm.trans eu')
  subst e1
  subst e2
  subst e3
  subst e4
  exact ⟨rfl, _, hc, hm⟩
theorem J_right (hC : CI B σ τ) (hM : MI B n μ) (x y z : Int32) : wp_X7_right x y z σ τ (fun r σ' τ' => wp_X8_right x y z μ (fun r' μ' => JP (n + 1) σ' τ' r r' μ')) := by
  have h20 := hC.1.L
  refine s_X7_right hC (fun l s v σ' hl ex hs ey hv ez hc => m_right hM (fun l' s' v' μ' hl' ex' hs' ey' hv' ez' hm => ?_) (fun g => absurd ez (g l s v hl ex hs ey hv))) (fun g => m_right hM (fun l' s' v' μ' hl' ex' hs' ey' hv' ez' hm => absurd ez' (g l' s' v' hl' ex' hs' ey' hv')) (fun _ μ' hm => ⟨rfl, B, hC, hm⟩))
  have u1 := hv.1
  have u2 := hv'.1
  have e1 : l = l' := nI_inj (by omega) (by omega) (ex.symm.trans ex')
  have e2 : s = s' := nI_inj (by omega) (by omega) (ey.symm.trans ey')
  have e3 : v = v' := nI_inj (by omega) (by omega) (ez.symm.trans ez')
  subst e1
  subst e2
  subst e3
  exact ⟨rfl, _, hc, hm⟩
theorem J_drop (hC : CI B σ τ) (hM : MI B n μ) : wp_X7_drop σ τ (fun r σ' τ' => wp_X8_drop μ (fun r' μ' => JP (n + 1) σ' τ' r r' μ')) :=
  s_X7_drop hC (fun h σ' hc => m_drop hM (fun _ μ' hm => ⟨rfl, _, hc, hm⟩) (fun g => absurd h (by omega))) (fun h => m_drop hM (fun g => absurd g (by omega)) (fun _ μ' hm => ⟨rfl, _, hC, hm⟩))
theorem J_price (hC : CI B σ τ) (hM : MI B n μ) (x y : Int32) : wp_X7_price x y σ τ (fun r σ' τ' => wp_X8_price x y μ (fun r' μ' => JP (n + 1) σ' τ' r r' μ')) := by
  refine s_X7_price hC (fun p v σ' hp ex hv ey hc => m_price hM (fun p' v' μ' hp' ex' hv' ey' hm => ?_) (fun g => absurd ⟨⟨p, hp, ex⟩, v, hv, ey⟩ g)) (fun g => m_price hM (fun p' v' μ' hp' ex' hv' ey' hm => absurd ⟨⟨p', hp', ex'⟩, v', hv', ey'⟩ g) (fun _ μ' hm => ⟨rfl, B, hC, hm⟩))
  have e1 : p = p' := nI_inj (by omega) (by omega) (ex.symm.trans ex')
  have e2 : v = v' := nI_inj (by omega) (by omega) (ey.symm.trans ey')
  subst e1
  subst e2
  exact ⟨rfl, _, hc, hm⟩
theorem J_want (hC : CI B σ τ) (hM : MI B n μ) (x y : Int32) : wp_X7_want x y σ τ (fun r σ' τ' => wp_X8_want x y μ (fun r' μ' => JP (n + 1) σ' τ' r r' μ')) := by
  refine s_X7_want hC (fun p v σ' hp ex v1 v2 ey hc => m_want hM (fun p' v' μ' hp' ex' v1' v2' ey' hm => ?_) (fun g => absurd ey (g p v hp ex v1 v2))) (fun g => m_want hM (fun p' v' μ' hp' ex' v1' v2' ey' hm => absurd ey' (g p' v' hp' ex' v1' v2')) (fun _ μ' hm => ⟨rfl, B, hC, hm⟩))
  have e1 : p = p' := nI_inj (by omega) (by omega) (ex.symm.trans ex')
  subst e1
  have b1 : v < 2 ^ 31 := by
    rcases Nat.eq_zero_or_pos p with q | q
    · have := v2 q; omega
    · have := v1 q; omega
  have b2 : v' < 2 ^ 31 := by
    rcases Nat.eq_zero_or_pos p with q | q
    · have := v2' q; omega
    · have := v1' q; omega
  have e2 : v = v' := nI_inj b1 b2 (ey.symm.trans ey')
  subst e2
  exact ⟨rfl, _, hc, hm⟩
theorem J_count (hn : n + 1 < 2 ^ 31) (hC : CI B σ τ) (hM : MI B n μ) (x : Int32) : wp_X7_count x σ τ (fun r σ' τ' => wp_X8_count x μ (fun r' μ' => JP (n + 1) σ' τ' r r' μ')) :=
  s_X7_count hC (fun σ' τ' hc => m_count hn hM (fun μ' hm => ⟨rfl, _, hc, hm⟩))
theorem J_counter (hn : n + 1 < 2 ^ 31) (hC : CI B σ τ) (hM : MI B n μ) (x y : Int32) : wp_X7_counter x y σ τ (fun r σ' τ' => wp_X8_counter x y μ (fun r' μ' => JP (n + 1) σ' τ' r r' μ')) := by
  have h20 := hC.1.L
  refine s_X7_counter hC (fun l k σ' τ' hl ex k1 k3 ey hc => m_counter hn hM (fun l' k' μ' hl' ex' k1' k3' ey' hm => ?_) (fun g => absurd ⟨⟨l, hl, ex⟩, k, k1, k3, ey⟩ g)) (fun g => m_counter hn hM (fun l' k' μ' hl' ex' k1' k3' ey' hm => absurd ⟨⟨l', hl', ex'⟩, k', k1', k3', ey'⟩ g) (fun _ μ' hm => ⟨rfl, B, hC, hm⟩))
  have e1 : l = l' := nI_inj (by omega) (by omega) (ex.symm.trans ex')
  have e2 : k = k' := nI_inj (by omega) (by omega) (ey.symm.trans ey')
  subst e1
  subst e2
  exact ⟨rfl, _, hc, hm⟩
theorem J_entry (hC : CI B σ τ) (hM : MI B n μ) (x y a b : Int32) : wp_X7_entry x y a b σ τ (fun r σ' τ' => wp_X8_entry x y a b μ (fun r' μ' => JP (n + 1) σ' τ' r r' μ')) := by
  obtain ⟨na, hna, rfl⟩ := wb32 a
  obtain ⟨nb, hnb, rfl⟩ := wb32 b
  refine s_X7_entry hC hna hnb (fun lev num σ' h1 h2 h3 ex h5 ey h7 h8 hc => m_entry hM hna hnb (fun lev' num' μ' h1' h2' h3' ex' h5' ey' h7' h8' hm => ?_) (fun g => absurd h8 (g lev num h1 h2 h3 ex h5 ey h7))) (fun g => m_entry hM hna hnb (fun lev' num' μ' h1' h2' h3' ex' h5' ey' h7' h8' hm => absurd h8' (g lev' num' h1' h2' h3' ex' h5' ey' h7')) (fun _ μ' hm => ⟨rfl, B, hC, hm⟩))
  have e1 : lev = lev' := nI_inj (by omega) (by omega) (ex.symm.trans ex')
  have e2 : num = num' := nI_inj (by omega) (by omega) (ey.symm.trans ey')
  subst e1
  subst e2
  exact ⟨rfl, _, hc, hm⟩
theorem J_clear (hC : CI B σ τ) (hM : MI B n μ) : wp_X7_clear σ τ (fun r σ' τ' => wp_X8_clear μ (fun r' μ' => JP (n + 1) σ' τ' r r' μ')) :=
  s_X7_clear hC (fun σ' hc => m_clear hM (fun μ' hm => ⟨rfl, _, hc, hm⟩))
theorem J_partner (hn : n + 1 < 2 ^ 31) (hC : CI B σ τ) (hM : MI B n μ) (x : Int32) : wp_X7_partner x σ τ (fun r σ' τ' => wp_X8_partner x μ (fun r' μ' => JP (n + 1) σ' τ' r r' μ')) := by
  have h12 := hC.1.E
  refine s_X7_partner hC (fun e σ' τ' he ex hc => m_partner hn hM (fun e' μ' he' ex' hm => ?_) (fun g => absurd ex (g e he))) (fun g => m_partner hn hM (fun e' μ' he' ex' hm => absurd ex' (g e' he')) (fun _ μ' hm => ⟨rfl, B, hC, hm⟩))
  have e1 : e = e' := nI_inj (by omega) (by omega) (ex.symm.trans ex')
  subst e1
  exact ⟨rfl, _, hc, hm⟩
theorem J_span (hn : n + 1 < 2 ^ 31) (hC : CI B σ τ) (hM : MI B n μ) (x : Int32) : wp_X7_span x σ τ (fun r σ' τ' => wp_X8_span x μ (fun r' μ' => JP (n + 1) σ' τ' r r' μ')) := by
  have hN := hC.1.N
  refine s_X7_span hC (fun e σ' τ' he ex hc => m_span hn hM (fun e' μ' he' ex' hm => ?_) (fun g => absurd ex (g e he))) (fun g => m_span hn hM (fun e' μ' he' ex' hm => absurd ex' (g e' he')) (fun _ μ' hm => ⟨rfl, B, hC, hm⟩))
  have e1 : e = e' := nI_inj (by omega) (by omega) (ex.symm.trans ex')
  subst e1
  exact ⟨rfl, _, hc, hm⟩
theorem J_wrong (hn : n + 1 < 2 ^ 31) (hC : CI B σ τ) (hM : MI B n μ) (x : Int32) : wp_X7_wrong x σ τ (fun r σ' τ' => wp_X8_wrong x μ (fun r' μ' => JP (n + 1) σ' τ' r r' μ')) := by
  have hN := hC.1.N
  refine s_X7_wrong hC (fun e σ' τ' he ex hc => m_wrong hn hM (fun e' μ' he' ex' hm => ?_) (fun g => absurd ex (g e he))) (fun g => m_wrong hn hM (fun e' μ' he' ex' hm => absurd ex' (g e' he')) (fun _ μ' hm => ⟨rfl, B, hC, hm⟩))
  have e1 : e = e' := nI_inj (by omega) (by omega) (ex.symm.trans ex')
  subst e1
  exact ⟨rfl, _, hc, hm⟩
end
/-! the start -/
def Bk0 : Bk := fun k => ([(fun _ => 1), (fun _ => 0), (fun _ => 0), (fun _ => 0), (fun _ => 0), (fun _ => 0), (fun _ => 0), (fun _ => 0), (fun _ => 0), (fun _ => 0), (fun _ => 0), (va_up (va_up (va_up (va_up (va_up (va_up (va_up (va_up (va_up (va_up (fun _ => 0) 0 1) 1 2) 2 5) 3 1) 4 2) 5 4) 6 3) 7 12) 8 6) 9 4), (va_up (va_up (va_up (va_up (fun _ => 0) 0 3) 1 18) 2 13) 3 8), (fun _ => 0), (fun _ => 0), (fun _ => 0)] : List (Nat → Nat)).getD k (fun _ => 0)
theorem up_le {f : Nat → Nat} {k v m : Nat} (hf : ∀ j, f j ≤ m) (hv : v ≤ m) (j : Nat) : va_up f k v j ≤ m := by
  rw [up1]; split
  · exact hv
  · exact hf j
theorem Bk0_pr (k : Nat) : pr Bk0 k ≤ 50 := up_le (up_le (up_le (up_le (up_le (up_le (up_le (up_le (up_le (up_le (fun _ => Nat.zero_le _) (by decide)) (by decide)) (by decide)) (by decide)) (by decide)) (by decide)) (by decide)) (by decide)) (by decide)) (by decide) k
theorem Bk0_wa (k : Nat) : wa Bk0 k ≤ 21 := up_le (up_le (up_le (up_le (fun _ => Nat.zero_le _) (by decide)) (by decide)) (by decide)) (by decide) k
theorem Bk0_ok : bok Bk0 :=
  ⟨⟨Nat.le_refl 1, by decide, Nat.zero_le _, Nat.zero_le _⟩, fun _ => Nat.zero_le _, fun l hl => absurd hl (Nat.not_lt_zero l), fun l hl => absurd hl (Nat.not_lt_zero _), fun _ => ⟨Nat.zero_le _, Nat.zero_le _, Nat.zero_le _, Nat.zero_le _⟩, fun _ => ⟨Nat.zero_le _, Nat.zero_le _, Nat.zero_le _⟩, fun l k hl => absurd hl (Nat.not_lt_zero l), Bk0_pr, fun k _ => Bk0_wa k, ⟨by decide, by decide⟩, fun e he => absurd he (Nat.not_lt_zero e), fun _ => Nat.zero_le _⟩
theorem ten {P : Nat → Prop} (h : P 0 ∧ P 1 ∧ P 2 ∧ P 3 ∧ P 4 ∧ P 5 ∧ P 6 ∧ P 7 ∧ P 8 ∧ P 9) : ∀ k, k < 10 → P k := by
  intro k hk
  rcases (show k = 0 ∨ k = 1 ∨ k = 2 ∨ k = 3 ∨ k = 4 ∨ k = 5 ∨ k = 6 ∨ k = 7 ∨ k = 8 ∨ k = 9 by omega) with rfl | rfl | rfl | rfl | rfl | rfl | rfl | rfl | rfl | rfl
  · exact h.1
  · exact h.2.1
  · exact h.2.2.1
  · exact h.2.2.2.1
  · exact h.2.2.2.2.1
  · exact h.2.2.2.2.2.1
  · exact h.2.2.2.2.2.2.1
  · exact h.2.2.2.2.2.2.2.1
  · exact h.2.2.2.2.2.2.2.2.1
  · exact h.2.2.2.2.2.2.2.2.2
theorem CI_0 {τ : Tg} (h0 : ∀ j, j < 2744 → τ 0 j = 1152921504606846976) (h1 : ∀ j, j < 2744 → τ 1 j = 1152921504606846976) : CI Bk0 cfσ0 τ := by
  refine ⟨Bk0_ok, ⟨⟨rfl, fun _ _ => rfl⟩, ⟨rfl, fun l hl => absurd hl (Nat.not_lt_zero l), fun i hi => absurd hi (Nat.not_lt_zero i)⟩, ⟨rfl, ten ⟨rfl, rfl, rfl, rfl, rfl, rfl, rfl, rfl, rfl, rfl⟩, fun k k1 k3 => ?_⟩, ⟨rfl, fun e he => absurd he (Nat.not_lt_zero e)⟩, rfl, fun q hq => ⟨?_, ?_⟩, fun _ _ => rfl⟩, Or.inl rfl, Or.inl rfl, Or.inl rfl⟩
  · rcases (show k = 1 ∨ k = 2 ∨ k = 3 by omega) with rfl | rfl | rfl <;> rfl
  · rw [h0 q hq]; exact far_eq
  · rw [h1 q hq]; exact far_eq
theorem MI_0 : MI Bk0 0 mdσ0 := by
  refine ⟨Bk0_ok, ⟨⟨rfl, fun _ _ => rfl⟩, ⟨rfl, fun l hl => absurd hl (Nat.not_lt_zero l), fun i hi => absurd hi (Nat.not_lt_zero i), fun l k hl => absurd hl (Nat.not_lt_zero l)⟩, ⟨ten ⟨rfl, rfl, rfl, rfl, rfl, rfl, rfl, rfl, rfl, rfl⟩, fun k hk => ?_⟩, ⟨rfl, fun e he => absurd he (Nat.not_lt_zero e), fun i hi => absurd hi (Nat.not_lt_zero i)⟩⟩, ⟨0, Nat.le_refl 0, rfl, fun p _ => ⟨0, Nat.le_refl 0, rfl⟩⟩, Or.inl rfl⟩
  rcases (show k = 0 ∨ k = 1 ∨ k = 2 ∨ k = 3 by omega) with rfl | rfl | rfl | rfl <;> rfl
