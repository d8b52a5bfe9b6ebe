/-! the class: line -/
def bLine (B : Bk) (p s b c na nb v : Nat) : Bk := va_up (va_up (va_up (va_up (va_up (va_up (va_up (va_up B 4 (va_up (B 4) (bL B) p)) 5 (va_up (B 5) (bL B) s)) 6 (va_up (B 6) (bL B) b)) 7 (va_up (B 7) (bL B) c)) 8 (putw (B 8) (bL B) na nb)) 9 (va_up (B 9) (bL B) (cp v))) 10 (fun i => if 3 * bL B ≤ i ∧ i < 3 * bL B + 3 then pn v (i - 3 * bL B) else B 10 i)) 1 (fun _ => bL B + 1)
/-- what a line that is taken fulfils -/
def lnok (B : Bk) (p s b : Nat) (na nb v : Nat) : Prop := p < bN B ∧ bL B < 20 ∧ (bL B = 0 ∨ pg B (bL B - 1) ≤ p) ∧ s ≤ 9 ∧ b ≤ 9 ∧ wok na ∧ wok nb ∧ nok v
theorem bLine_ok {B : Bk} (h : bok B) {p s b c na nb v : Nat} (hk : lnok B p s b na nb v) (hc : c ≤ 1) : bok (bLine B p s b c na nb v) := by
  obtain ⟨k1, k2, k3, k4, k5, k6, k7, k8⟩ := hk
  refine ⟨⟨h.1.1, h.1.2.1, k2, h.1.2.2.2⟩, h.2.1, fun q hq => ?_, fun q hq => ?_, fun q => ?_, fun i => ?_, fun q k hq hk => ?_, h.2.2.2.2.2.2.2.1, h.2.2.2.2.2.2.2.2.1, h.2.2.2.2.2.2.2.2.2.1, h.2.2.2.2.2.2.2.2.2.2.1, h.2.2.2.2.2.2.2.2.2.2.2⟩
  · have hq : q < bL B + 1 := hq
    show (if q = bL B then p else pg B q) < bN B
    by_cases w : q = bL B
    · rw [if_pos w]; exact k1
    · rw [if_neg w]; exact h.hpg (by omega)
  · have hq : q + 1 < bL B + 1 := hq
    show (if q = bL B then p else pg B q) ≤ (if q + 1 = bL B then p else pg B (q + 1))
    rw [if_neg (by omega)]
    by_cases w : q + 1 = bL B
    · rw [if_pos w]
      rcases k3 with z | z
      · omega
      · rwa [show bL B - 1 = q by omega] at z
    · rw [if_neg w]; exact h.hup (by omega)
  · have h1 := h.hsz q
    have h2 := cp_le v
    show (if q = bL B then s else sz B q) ≤ 9 ∧ (if q = bL B then b else bl B q) ≤ 9 ∧ (if q = bL B then c else ce B q) ≤ 1 ∧ (if q = bL B then cp v else np B q) ≤ 3
    by_cases w : q = bL B
    · rw [if_pos w, if_pos w, if_pos w, if_pos w]; omega
    · rw [if_neg w, if_neg w, if_neg w, if_neg w]; omega
  · have h1 := h.hwd i
    refine ⟨putw_le (fun i => (h.hwd i).1) k6 k7 i, h1.2.1, ?_⟩
    show (if 3 * bL B ≤ i ∧ i < 3 * bL B + 3 then pn v (i - 3 * bL B) else nu B i) ≤ 12
    split
    · exact (pn_ok k8 _).1
    · exact h1.2.2
  · have hq : q < bL B + 1 := hq
    show 1 ≤ (if 3 * bL B ≤ 3 * q + k ∧ 3 * q + k < 3 * bL B + 3 then pn v (3 * q + k - 3 * bL B) else nu B (3 * q + k)) ↔ k < (if q = bL B then cp v else np B q)
    by_cases w : q = bL B
    · rw [if_pos (by omega), if_pos w, show 3 * q + k - 3 * bL B = k by omega]
      exact (pn_ok k8 k).2
    · rw [if_neg (by omega), if_neg w]
      exact h.hnu (by omega) hk
theorem s_X1_canFollow {B : Bk} {σ : Sg} {τ : Tg} (hB : bok B) (hL : cLn B σ) {p : Nat} (hp : p < 60) {post : Int32 → Sg → Tg → Prop} (h1 : bL B < 20 → (bL B = 0 ∨ pg B (bL B - 1) ≤ p) → post 1 σ τ) (h0 : ¬ (bL B < 20 ∧ (bL B = 0 ∨ pg B (bL B - 1) ≤ p)) → post 0 σ τ) : wp_X1_canFollow (nI p) σ τ post := by
  have h20 := hB.L
  have hN := hB.N
  unfold wp_X1_canFollow
  rw [hL.1, nlit 20, nI_ltI (by omega) (by decide), show (nI (bL B) = 0) = (bL B = 0) from propext (nI_eq (b := 0) (by omega) (by decide))]
  refine ⟨fun h => ⟨fun g => h1 h (Or.inl g), fun g => ?_⟩, fun h => h0 (fun z => h z.1)⟩
  have hpg := hB.hpg (l := bL B - 1) (by omega)
  rw [nlit 1, pk_sub (by omega), nI_clamp (by omega), (hL.2.1 (bL B - 1) (by omega)).1, nI_ltI (by omega) (by omega)]
  exact ⟨vp_in_nI (by omega) (by decide), fun w => h0 (fun z => by omega), fun w => h1 h (Or.inr (by omega))⟩
theorem s_X7_line {B : Bk} {σ : Sg} {τ : Tg} (hI : CI B σ τ) {x y z u : Int32} {c na nb : Nat} (hc : c ≤ 1) (hna : na < 2 ^ 32) (hnb : nb < 2 ^ 32) {post : Int32 → Sg → Tg → Prop} (h1 : ∀ (p s b v : Nat) (σ' : Sg), x = nI p → y = nI s → z = nI b → u = nI v → lnok B p s b na nb v → CI (bLine B p s b c na nb v) σ' τ → post (nI (bL B)) σ' τ) (h0 : (∀ p s b v, x = nI p → y = nI s → z = nI b → u = nI v → ¬ lnok B p s b na nb v) → post (-1) σ τ) : wp_X7_line x y z (nI c) (nI na) (nI nb) u σ τ post := by
  obtain ⟨hB, ⟨c1, c2, c3, c4, c5, c6, c7⟩, f1, f2, f3⟩ := id hI
  have h20 := hB.L
  have hN := hB.N
  unfold wp_X7_line
  refine s_X3_has hB c1 (fun p hp ex => ⟨fun w => absurd w (by decide), fun _ => ?_⟩) (fun g => ⟨fun _ => h0 (fun p s b v ex _ _ _ hk => g p hk.1 ex), fun w => absurd rfl w⟩)
  subst ex
  refine s_X1_canFollow hB c2 (by omega) (fun q1 q2 => ⟨fun _ => ?_, fun w => absurd w (by decide)⟩) (fun g => ⟨fun w => absurd rfl w, fun _ => h0 (fun p' s b v ex _ _ _ hk => ?_)⟩)
  · refine s_in (a := 0) (b := 9) (by decide) (by decide) (fun s _ hs ey => ⟨fun w => absurd w (by decide), fun _ => ?_⟩) (fun g => ⟨fun _ => h0 (fun p s b v _ ey _ _ hk => g s (Nat.zero_le _) hk.2.2.2.1 ey), fun w => absurd rfl w⟩)
    refine s_in (a := 0) (b := 9) (by decide) (by decide) (fun b _ hb ez => ⟨fun _ => ?_, fun w => absurd w (by decide)⟩) (fun g => ⟨fun w => absurd rfl w, fun _ => h0 (fun p s b v _ _ ez _ hk => g b (Nat.zero_le _) hk.2.2.2.2.1 ez)⟩)
    refine s_X7_areWords hna (fun wa9 => ⟨fun w => absurd w (by decide), fun _ => ?_⟩) (fun g => ⟨fun _ => h0 (fun p s b v _ _ _ _ hk => g hk.2.2.2.2.2.1), fun w => absurd rfl w⟩)
    refine s_X7_areWords hnb (fun wb9 => ⟨fun w => absurd w (by decide), fun _ => ?_⟩) (fun g => ⟨fun _ => h0 (fun p s b v _ _ _ _ hk => g hk.2.2.2.2.2.2.1), fun w => absurd rfl w⟩)
    refine s_X7_areNumbers (fun v eu hv => ⟨fun _ y19 e19 => ?_, fun w => absurd w (by decide)⟩) (fun g => ⟨fun w => absurd rfl w, fun _ => h0 (fun p s b v _ _ _ eu hk => g v eu hk.2.2.2.2.2.2.2)⟩)
    rw [c2.1] at e19
    subst e19
    have hk : lnok B p s b na nb v := ⟨hp, q1, q2, hs, hb, wa9, wb9, hv⟩
    have hvl : vp_in (nI (bL B)) 20 := vp_in_nI (by omega) (by decide)
    rw [nI_clamp (by omega), ey, ez, eu]
    refine ⟨hvl, fun σ21 e21 => ⟨hvl, fun σ23 e23 => ⟨hvl, ?_, fun σ26 e26 => ⟨hvl, fun σ28 e28 => ⟨hvl, fun σ30 e30 => ?_⟩⟩⟩⟩⟩
    · rcases (show c = 0 ∨ c = 1 by omega) with rfl | rfl
      · exact Or.inl rfl
      · exact Or.inr rfl
    refine s_X1_putSizeAndNumbers q1 hv.1 (fun σ31 g1 g2 g3 g4 g5 σ33 e33 σ34 e34 => ?_)
    have e8 : ∀ k, k ≠ 0 → k ≠ 5 → (k < 19 ∨ 26 < k) → σ34 k = σ k := fun k u0 u5 u9 => by rw [e34, sig_ne u0, e33, sig_ne u5, g1 k (by omega) (by omega) (by omega), e30, sig_ne (by omega), e28, sig_ne (by omega), e26, sig_ne (by omega), e23, sig_ne (by omega), e21, sig_ne (by omega)]
    have e9 : ∀ k, k ≠ 0 → k ≠ 5 → σ34 k = σ31 k := fun k u0 u5 => by rw [e34, sig_ne u0, e33, sig_ne u5]
    have g19 : σ34 19 = upd (σ 19) (bL B) (nI p) := by rw [e9 19 (by decide) (by decide), g1 19 (by decide) (by decide) (by decide), e30, sig_ne (by decide), e28, sig_ne (by decide), e26, sig_ne (by decide), e23, sig_ne (by decide), e21, sig_eq]
    have g21 : σ34 21 = upd (σ 21) (bL B) (nI b) := by rw [e9 21 (by decide) (by decide), g1 21 (by decide) (by decide) (by decide), e30, sig_ne (by decide), e28, sig_ne (by decide), e26, sig_ne (by decide), e23, sig_eq, e21, sig_ne (by decide)]
    have g22 : σ34 22 = upd (σ 22) (bL B) (nI c) := by rw [e9 22 (by decide) (by decide), g1 22 (by decide) (by decide) (by decide), e30, sig_ne (by decide), e28, sig_ne (by decide), e26, sig_eq, e23, sig_ne (by decide), e21, sig_ne (by decide)]
    have g23 : σ34 23 = upd (σ 23) (bL B) (nI na) := by rw [e9 23 (by decide) (by decide), g1 23 (by decide) (by decide) (by decide), e30, sig_ne (by decide), e28, sig_eq, e26, sig_ne (by decide), e23, sig_ne (by decide), e21, sig_ne (by decide)]
    have g24 : σ34 24 = upd (σ 24) (bL B) (nI nb) := by rw [e9 24 (by decide) (by decide), g1 24 (by decide) (by decide) (by decide), e30, sig_eq, e28, sig_ne (by decide), e26, sig_ne (by decide), e23, sig_ne (by decide), e21, sig_ne (by decide)]
    have k20 : σ30 20 = σ 20 := by rw [e30, sig_ne (by decide), e28, sig_ne (by decide), e26, sig_ne (by decide), e23, sig_ne (by decide), e21, sig_ne (by decide)]
    have k25 : σ30 25 = σ 25 := by rw [e30, sig_ne (by decide), e28, sig_ne (by decide), e26, sig_ne (by decide), e23, sig_ne (by decide), e21, sig_ne (by decide)]
    have k26 : σ30 26 = σ 26 := by rw [e30, sig_ne (by decide), e28, sig_ne (by decide), e26, sig_ne (by decide), e23, sig_ne (by decide), e21, sig_ne (by decide)]
    have h5 : σ34 5 0 = nI (bL B + 1) := by rw [e34, sig_ne (by decide), e33, sig_eq]; exact nI_1 _
    have ho : σ34 0 0 = 1 := by rw [e34, sig_eq]
    have hd : deq B (bLine B p s b c na nb v) := fun k hk => by
      show va_up (va_up (va_up (va_up (va_up (va_up (va_up (va_up B 4 _) 5 _) 6 _) 7 _) 8 _) 9 _) 10 _) 1 _ k = B k
      rw [sig_ne (by omega), sig_ne (by omega), sig_ne (by omega), sig_ne (by omega), sig_ne (by omega), sig_ne (by omega), sig_ne (by omega), sig_ne (by omega)]
    refine h1 p s b v σ34 rfl ey ez eu hk ⟨bLine_ok hB hk hc, ⟨cPg_same (σ := σ) (fun k hk => e8 k (by omega) (by omega) (by omega)) c1, ⟨h5, fun q hq => ?_, fun i hi => ?_⟩, cSe_same (σ := σ) (fun k hk => e8 k (by omega) (by omega) (by omega)) c3, cEn_same (σ := σ) (fun k hk => e8 k (by omega) (by omega) (by omega)) c4, by rw [e8 33 (by decide) (by decide) (by omega)]; exact c5, c6, fun t ht => by rw [e8 46 (by decide) (by decide) (by omega)]; exact c7 t ht⟩, Or.inl ho, ?_, ?_⟩
    · have hq : q < bL B + 1 := hq
      rw [g19, e9 20 (by decide) (by decide), g2 q, g21, g22, g23, g24, e9 25 (by decide) (by decide), g3 q, k20, k25]
      show _ = nI (if q = bL B then p else pg B q) ∧ _ = nI (if q = bL B then s else sz B q) ∧ _ = nI (if q = bL B then b else bl B q) ∧ _ = nI (if q = bL B then c else ce B q) ∧ _ = nI (w4 (putw (B 8) (bL B) na nb) (8 * q)) ∧ _ = nI (w4 (putw (B 8) (bL B) na nb) (8 * q + 4)) ∧ _ = nI (if q = bL B then cp v else np B q)
      by_cases w : q = bL B
      · subst w
        rw [pk_us, pk_us, pk_us, pk_us, pk_us, putw_a _ _ _ hna, putw_b _ _ _ hnb]
        simp only [if_true]
        exact ⟨trivial, trivial, trivial, trivial, trivial, trivial, trivial⟩
      · rw [pk_un w, pk_un w, pk_un w, pk_un w, pk_un w, w4_cong (g := B 8) (fun k hk => putw_o _ _ _ (by omega)), w4_cong (g := B 8) (fun k hk => putw_o _ _ _ (by omega))]
        simp only [if_neg w]
        exact c2.2.1 q (by omega)
    · have hi : i < 3 * (bL B + 1) := hi
      rw [e9 26 (by decide) (by decide)]
      show σ31 26 i = nI (if 3 * bL B ≤ i ∧ i < 3 * bL B + 3 then pn v (i - 3 * bL B) else nu B i)
      by_cases w : 3 * bL B ≤ i ∧ i < 3 * bL B + 3
      · rw [if_pos w]
        have := g5 (i - 3 * bL B) (by omega)
        rwa [show 3 * bL B + (i - 3 * bL B) = i by omega] at this
      · rw [if_neg w, g4 i (by omega), k26]; exact c2.2.2 i (by omega)
    · rw [e8 1 (by decide) (by decide) (by omega)]
      rcases f2 with w | w
      · exact Or.inl w
      · exact Or.inr ⟨w.1, Or.inl ho⟩
    · rw [e8 2 (by decide) (by decide) (by omega)]
      rcases f3 with w | w
      · exact Or.inl w
      · exact Or.inr ⟨w.1, shOK_same (fun k hk => e8 k (by omega) (by omega) (by omega)) (shOK_c hd w.2)⟩
  · have e2 : p = p' := nI_inj (by omega) (by have := hk.1; omega) ex
    subst e2
    exact g ⟨hk.2.1, hk.2.2.1⟩
