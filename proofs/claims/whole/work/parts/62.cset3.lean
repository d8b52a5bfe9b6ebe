/-! the class: right, entry -/
def bRight (B : Bk) (l s v : Nat) : Bk := va_up (va_up (va_up B 5 (va_up (B 5) l s)) 9 (va_up (B 9) l (cp v))) 10 (fun i => if 3 * l ≤ i ∧ i < 3 * l + 3 then pn v (i - 3 * l) else B 10 i)
theorem pn_ok {v : Nat} (h : nok v) (k : Nat) : pn v k ≤ 12 ∧ (1 ≤ pn v k ↔ k < cp v) := by
  unfold pn
  by_cases g : k < cp v
  · rw [if_pos g]
    have := h.2 (cp v - 1 - k) (by omega)
    exact ⟨this.2, fun _ => g, fun _ => this.1⟩
  · rw [if_neg g]
    exact ⟨by decide, fun z => absurd z (by decide), fun z => absurd z g⟩
theorem bRight_ok {B : Bk} (h : bok B) {l s v : Nat} (hs : s ≤ 9) (hv : nok v) : bok (bRight B l s v) := by
  refine ⟨h.1, h.2.1, h.2.2.1, h.2.2.2.1, fun q => ?_, fun i => ?_, fun q k hq hk => ?_, h.2.2.2.2.2.2.2.1, h.2.2.2.2.2.2.2.2.1, h.2.2.2.2.2.2.2.2.2.1, h.2.2.2.2.2.2.2.2.2.2.1, h.2.2.2.2.2.2.2.2.2.2.2⟩
  · have h1 := h.hsz q
    have h2 := cp_le v
    show (if q = l then s else sz B q) ≤ 9 ∧ bl B q ≤ 9 ∧ ce B q ≤ 1 ∧ (if q = l then cp v else np B q) ≤ 3
    by_cases w : q = l
    · rw [if_pos w, if_pos w]; omega
    · rw [if_neg w, if_neg w]; omega
  · have h1 := h.hwd i
    refine ⟨h1.1, h1.2.1, ?_⟩
    show (if 3 * l ≤ i ∧ i < 3 * l + 3 then pn v (i - 3 * l) else nu B i) ≤ 12
    split
    · exact (pn_ok hv _).1
    · exact h1.2.2
  · show 1 ≤ (if 3 * l ≤ 3 * q + k ∧ 3 * q + k < 3 * l + 3 then pn v (3 * q + k - 3 * l) else nu B (3 * q + k)) ↔ k < (if q = l then cp v else np B q)
    by_cases w : q = l
    · rw [if_pos (by omega), if_pos w, show 3 * q + k - 3 * l = k by omega]
      exact (pn_ok hv k).2
    · rw [if_neg (by omega), if_neg w]
      exact h.hnu hq hk
theorem s_X7_right {B : Bk} {σ : Sg} {τ : Tg} (hI : CI B σ τ) {x y z : Int32} {post : Int32 → Sg → Tg → Prop} (h1 : ∀ (l s v : Nat) (σ' : Sg), l < bL B → x = nI l → s ≤ 9 → y = nI s → nok v → z = nI v → CI (bRight B l s v) σ' τ → post 1 σ' τ) (h0 : (∀ l s v, l < bL B → x = nI l → s ≤ 9 → y = nI s → nok v → z ≠ nI v) → post 0 σ τ) : wp_X7_right x y z σ τ post := by
  obtain ⟨hB, ⟨c1, c2, c3, c4, c5, c6, c7⟩, f1, f2, f3⟩ := id hI
  have h20 := hB.L
  unfold wp_X7_right
  refine s_X1_has hB c2 (fun l hl ex => ⟨fun w => absurd w (by decide), fun _ => ?_⟩) (fun g => ⟨fun _ => h0 (fun l s v hl ex _ _ _ _ => g l hl ex), fun w => absurd rfl w⟩)
  refine s_in (a := 0) (b := 9) (by decide) (by decide) (fun s _ hs ey => ⟨fun w => absurd w (by decide), fun _ => ?_⟩) (fun g => ⟨fun _ => h0 (fun l s v hl ex hs ey _ _ => g s (Nat.zero_le _) hs ey), fun w => absurd rfl w⟩)
  refine s_X7_areNumbers (fun v ez hv => ⟨fun _ => ?_, fun w => absurd w (by decide)⟩) (fun g => ⟨fun w => absurd rfl w, fun _ => h0 (fun l s v hl ex hs ey hv ez => g v ez hv)⟩)
  rw [ex, ey, ez]
  refine s_X1_putSizeAndNumbers (by omega) hv.1 (fun σ9 g1 g2 g3 g4 g5 σ11 e11 => ?_)
  have e8 : ∀ k, k ≠ 0 → k ≠ 20 → k ≠ 25 → k ≠ 26 → σ11 k = σ k := fun k u0 u1 u2 u3 => by rw [e11, sig_ne u0]; exact g1 k u1 u2 u3
  have e9 : ∀ k, k ≠ 0 → σ11 k = σ9 k := fun k u0 => by rw [e11, sig_ne u0]
  have hd : deq B (bRight B l s v) := fun k hk => by
    show va_up (va_up (va_up B 5 _) 9 _) 10 _ k = B k
    rw [sig_ne (by omega), sig_ne (by omega), sig_ne (by omega)]
  have ho : σ11 0 0 = 1 := by rw [e11, sig_eq]
  refine h1 l s v σ11 hl ex hs ey hv ez ⟨bRight_ok hB hs hv, ⟨cPg_same (σ := σ) (fun k hk => e8 k (by omega) (by omega) (by omega) (by omega)) c1, ⟨by rw [e8 5 (by decide) (by decide) (by decide) (by decide)]; exact c2.1, fun q hq => ?_, fun i hi => ?_⟩, cSe_same (σ := σ) (fun k hk => e8 k (by omega) (by omega) (by omega) (by omega)) c3, cEn_same (σ := σ) (fun k hk => e8 k (by omega) (by omega) (by omega) (by omega)) c4, by rw [e8 33 (by decide) (by decide) (by decide) (by decide)]; exact c5, c6, fun t ht => by rw [e8 46 (by decide) (by decide) (by decide) (by decide)]; exact c7 t ht⟩, Or.inl ho, ?_, ?_⟩
  · obtain ⟨d1, d2, d3, d4, d5, d6, d7⟩ := c2.2.1 q hq
    rw [e8 19 (by decide) (by decide) (by decide) (by decide), e9 20 (by decide), e8 21 (by decide) (by decide) (by decide) (by decide), e8 22 (by decide) (by decide) (by decide) (by decide), e8 23 (by decide) (by decide) (by decide) (by decide), e8 24 (by decide) (by decide) (by decide) (by decide), e9 25 (by decide), g2, g3]
    refine ⟨d1, ?_, d3, d4, d5, d6, ?_⟩
    · show _ = nI (if q = l then s else sz B q)
      by_cases w : q = l
      · rw [if_pos w, if_pos w]
      · rw [if_neg w, if_neg w]; exact d2
    · show _ = nI (if q = l then cp v else np B q)
      by_cases w : q = l
      · rw [if_pos w, if_pos w]
      · rw [if_neg w, if_neg w]; exact d7
  · rw [e9 26 (by decide)]
    show σ9 26 i = nI (if 3 * l ≤ i ∧ i < 3 * l + 3 then pn v (i - 3 * l) else nu B i)
    by_cases w : 3 * l ≤ i ∧ i < 3 * l + 3
    · rw [if_pos w]
      have := g5 (i - 3 * l) (by omega)
      rwa [show 3 * l + (i - 3 * l) = i by omega] at this
    · rw [if_neg w, g4 i (by omega)]; exact c2.2.2 i hi
  · rw [e8 1 (by decide) (by decide) (by decide) (by decide)]
    rcases f2 with w | w
    · exact Or.inl w
    · exact Or.inr ⟨w.1, Or.inl ho⟩
  · rw [e8 2 (by decide) (by decide) (by decide) (by decide)]
    rcases f3 with w | w
    · exact Or.inl w
    · exact Or.inr ⟨w.1, shOK_same (fun k hk => e8 k (by omega) (by omega) (by omega) (by omega)) (shOK_c hd w.2)⟩
/-- the byte at place k of an int -/
def by4 (n k : Nat) : Nat := n / 2 ^ (8 * (3 - k)) % 256
theorem by4_ok {n : Nat} (h : wok n) (k : Nat) : by4 n k ≤ 26 := h (3 - k) (by omega)
theorem by4_w4 {n : Nat} (hn : n < 2 ^ 32) {f : Nat → Nat} {i : Nat} (h : ∀ k, k < 4 → f (i + k) = by4 n k) : w4 f i = n := by
  have a0 := h 0 (by decide); have a1 := h 1 (by decide); have a2 := h 2 (by decide); have a3 := h 3 (by decide)
  unfold by4 at a0 a1 a2 a3
  simp only [Nat.add_zero, Nat.sub_zero, Nat.reduceMul, Nat.reducePow, Nat.reduceSub, Nat.sub_self, Nat.mul_zero, Nat.pow_zero, Nat.div_one] at a0 a1 a2 a3
  unfold w4
  rw [a0, a1, a2, a3]
  omega
def putw (f : Nat → Nat) (e na nb : Nat) : Nat → Nat := fun i => if 8 * e ≤ i ∧ i < 8 * e + 4 then by4 na (i - 8 * e) else if 8 * e + 4 ≤ i ∧ i < 8 * e + 8 then by4 nb (i - (8 * e + 4)) else f i
theorem putw_a (f : Nat → Nat) (e : Nat) {na : Nat} (nb : Nat) (h : na < 2 ^ 32) : w4 (putw f e na nb) (8 * e) = na := by4_w4 h (fun k hk => by
  unfold putw; rw [if_pos (by omega), show 8 * e + k - 8 * e = k by omega])
theorem putw_b (f : Nat → Nat) (e na : Nat) {nb : Nat} (h : nb < 2 ^ 32) : w4 (putw f e na nb) (8 * e + 4) = nb := by4_w4 h (fun k hk => by
  unfold putw; rw [if_neg (by omega), if_pos (by omega), show 8 * e + 4 + k - (8 * e + 4) = k by omega])
theorem putw_o (f : Nat → Nat) {e i : Nat} (na nb : Nat) (h : i < 8 * e) : putw f e na nb i = f i := by
  unfold putw; rw [if_neg (by omega), if_neg (by omega)]
theorem w4_cong {f g : Nat → Nat} {i : Nat} (h : ∀ k, k < 4 → f (i + k) = g (i + k)) : w4 f i = w4 g i := by
  have a0 := h 0 (by decide); have a1 := h 1 (by decide); have a2 := h 2 (by decide); have a3 := h 3 (by decide)
  simp only [Nat.add_zero] at a0
  unfold w4; rw [a0, a1, a2, a3]
