/-! Shifts of the class: spans told -/
theorem zero_shI : (0 : Int32) = shI 59 := by decide
theorem s_X5_bestShift {B : Bk} {σ : Sg} {τ : Tg} (hB : bok B) (hP : cPg B σ) (hz : tmz σ) {a b : Nat} (hab : a ≤ b) (hb : b ≤ 60) {post : Int32 → Sg → Tg → Prop} (hq : ∀ σ' : Sg, (∀ k, k ≠ 46 → σ' k = σ k) → tmz σ' → post (shI (bs B a (b - a))) σ' τ) : wp_X5_bestShift (nI a) (nI b) σ τ post := by
  have loop : ∀ (f n : Nat) (σ1 : Sg), a + n ≤ b → b < a + n + f → (∀ k, k ≠ 46 → σ1 k = σ k) → (∀ t, t < 1059 → σ1 46 t = nI (cn B a t n)) → wp_X5_bestShift_8 post f (nI a) (nI b) (shI (bs B a n)) (nI (mc B a n)) (nI (a + n)) σ1 τ := by
    intro f
    induction f with
    | zero => intro n σ1 a1 a2; omega
    | succ f ih =>
      intro n σ1 a1 a2 hfr ht
      have hP1 : cPg B σ1 := cPg_same (fun k hk => hfr k (by omega)) hP
      have hal := al_le B a n
      have hmc := mc_al B a n
      unfold wp_X5_bestShift_8
      rw [nI_leI (by omega) (by omega)]
      refine ⟨fun h => ?_, fun h => ?_⟩
      · have hn : n = b - a := by omega
        refine s_X5_forgetTimes hB hP1 hab hb (fun t ht2 => ?_) (fun σ2 g1 g2 => ?_)
        · rw [ht t ht2]
          by_cases w : cn B a t n = 0
          · rw [w]; exact Or.inl rfl
          · obtain ⟨q, q1, q2, q3⟩ := cn_ex n w
            exact Or.inr ⟨q, q1, by omega, q3⟩
        · rw [hn]
          exact hq σ2 (fun k hk => by rw [g1 k hk]; exact hfr k hk) g2
      · have hin : a + n < 60 := by omega
        have hrd := hB.hrd (a + n)
        have hv60 : vp_in (nI (a + n)) 60 := vp_in_nI (by omega) (by decide)
        rw [nI_clamp (show a + n < 2 ^ 31 by omega), hP1.2 (a + n) hin, show (nI (rd B (a + n)) ≤ 0) = (rd B (a + n) ≤ 0) from propext (nI_leI (b := 0) (by omega) (by decide)), show nI (a + n) + (1 : Int32) = nI (a + (n + 1)) from nI_1 _]
        refine ⟨hv60, fun g => ?_, fun g => s_X5_addTime hB hP1 hin ht (fun σ2 g1 g2 => ⟨hv60, fun y10 e10 => ?_⟩)⟩
        · have hr0 : rd B (a + n) = 0 := by omega
          have t1 := ih (n + 1) σ1 (by omega) (by omega) hfr (fun t ht2 => by rw [cn_same B a t n hr0]; exact ht t ht2)
          rwa [show bs B a (n + 1) = bs B a n by rw [bs, if_pos hr0], show mc B a (n + 1) = mc B a n by rw [mc, if_pos hr0]] at t1
        · have hr0 : rd B (a + n) ≠ 0 := by omega
          have hcn := cn_al B a (spl B (a + n)) n
          have ec : cn B a (spl B (a + n)) (n + 1) = cn B a (spl B (a + n)) n + 1 := by rw [cn, if_pos ⟨hr0, rfl⟩]
          have t1 := ih (n + 1) σ2 (by omega) (by omega) (fun k hk => (g1 k hk).trans (hfr k hk)) (fun t ht2 => by rw [g2 t ht2, cn_step B a t n hr0])
          have em : mc B a (n + 1) = max (mc B a n) (cn B a (spl B (a + n)) n + 1) := by rw [mc, if_neg hr0, ec]
          have eb := bs.eq_2 B a n
          rw [if_neg hr0, ec] at eb
          have hP2 : cPg B σ2 := cPg_same (fun k hk => g1 k (by omega)) hP1
          rw [hP2.2 (a + n) hin, sh_nI hin] at e10
          rw [e10, nI_ltI (by omega) (by omega), nI_eq (by omega) (by omega), shI_le (bs_lt hB a n) (spl_lt hB _), ← show nI (a + n) + (1 : Int32) = nI (a + (n + 1)) from nI_1 _]
          rw [em, eb, ← show nI (a + n) + (1 : Int32) = nI (a + (n + 1)) from nI_1 _] at t1
          refine ⟨fun w => ?_, fun w => ⟨fun w2 => ?_, fun w2 => ⟨fun w3 => ?_, fun w3 => ?_⟩⟩⟩
          · rw [if_pos w, Nat.max_eq_right (by omega)] at t1
            exact t1
          · rw [if_neg w, if_neg (fun z => w2 z.1), Nat.max_eq_left (by omega)] at t1
            exact t1
          · rw [if_neg w, if_neg (fun z => by omega), Nat.max_eq_left (by omega)] at t1
            exact t1
          · rw [if_neg w, if_pos ⟨w2, by omega⟩, Nat.max_eq_right (by omega)] at t1
            exact t1
  unfold wp_X5_bestShift
  refine ⟨b + 1, ?_⟩
  have h := loop (b + 1) 0 σ (by omega) (by omega) (fun _ _ => rfl) hz
  rw [show bs B a 0 = 59 from rfl, show mc B a 0 = 0 from rfl, ← zero_shI] at h
  exact h
theorem s_X5_isWrong {B : Bk} {σ : Sg} {τ : Tg} (hB : bok B) (hP : cPg B σ) {p t : Nat} (hp : p < 60) (ht : t < 1059) (h42 : σ 42 p = shI t) {post : Int32 → Sg → Tg → Prop} (hq : post (nI (if rd B p = 0 then 0 else if spl B p = t then 0 else 1)) σ τ) : wp_X5_isWrong (nI p) σ τ post := by
  have hrd := hB.hrd p
  have hv : vp_in (nI p) 60 := vp_in_nI hp (by decide)
  unfold wp_X5_isWrong
  rw [nI_clamp (by omega), hP.2 p hp, h42]
  refine ⟨hv, fun y2 e2 => ?_⟩
  have e3 : (nI (rd B p) = nI p + shI t) = (spl B p = t) := propext (by
    rw [← shI_eq (spl_lt hB p) ht, ← sh_nI hp]
    constructor
    · intro h; rw [h, Int32.add_comm, Int32.add_sub_cancel]
    · intro h; rw [← h, Int32.add_comm, Int32.sub_add_cancel])
  rw [e2, e3, show (nI (rd B p) ≤ 0) = (rd B p ≤ 0) from propext (nI_leI (b := 0) (by omega) (by decide))]
  refine ⟨fun h => ?_, fun h => ⟨hv, fun g => ?_, fun g => ?_⟩⟩
  · rw [if_pos (by omega)] at hq; exact hq
  · rw [if_neg (by omega), if_pos g] at hq; exact hq
  · rw [if_neg (by omega), if_neg g] at hq; exact hq
def shOK (B : Bk) (σ : Sg) : Prop := σ 13 0 = nI (sE B (bN B) / 64) ∧ σ 14 0 = nI (sE B (bN B) % 64) ∧ σ 15 0 = nI (wrs B (bN B)) ∧ ∀ p, p < bN B → σ 43 p = nI (fsp B p) ∧ σ 42 p = shI (ssp B p)
theorem wrs_le (B : Bk) : ∀ p, wrs B p ≤ p
  | 0 => Nat.le_refl 0
  | p + 1 => by
    have := wrs_le B p
    have h : wrg B p ≤ 1 := by unfold wrg; repeat' split
                               all_goals omega
    rw [wrs]; omega
theorem s_X5_tellSpans {B : Bk} {σ : Sg} {τ : Tg} (hB : bok B) (hP : cPg B σ) (hz : tmz σ) (h45 : ∀ a, a < bN B → σ 45 a = nI (a + se B (bN B - (a + 1)) + 1)) {post : Sg → Tg → Prop}
    (hq : ∀ σ' : Sg, (∀ k, k ≠ 15 → k ≠ 42 → k ≠ 43 → k ≠ 46 → σ' k = σ k) → tmz σ' → σ' 15 0 = nI (wrs B (bN B)) → (∀ p, p < bN B → σ' 43 p = nI (fsp B p) ∧ σ' 42 p = shI (ssp B p)) → post σ' τ) : wp_X5_tellSpans σ τ post := by
  have hN := hB.N
  have loop : ∀ (f p : Nat) (sI : Int32) (σ1 : Sg), p ≤ bN B → bN B < p + f → (∀ k, k ≠ 15 → k ≠ 42 → k ≠ 43 → k ≠ 46 → σ1 k = σ k) → tmz σ1 → σ1 15 0 = nI (wrs B p) → (∀ q, q < p → σ1 43 q = nI (fsp B q) ∧ σ1 42 q = shI (ssp B q)) → (0 < p → sI = shI (bs B (fe B p).1 ((fe B p).2 - (fe B p).1))) → wp_X5_tellSpans_14 post f (nI (fe B p).1) (nI (fe B p).2) sI (nI p) σ1 τ := by
    intro f
    induction f with
    | zero => intro p sI σ1 a1 a2; omega
    | succ f ih =>
      intro p sI σ1 a1 a2 hfr hz1 h15 hdn hsI
      have hP1 : cPg B σ1 := cPg_same (fun k hk => hfr k (by omega) (by omega) (by omega) (by omega)) hP
      have hfe := fe_ok (B := B) p a1
      unfold wp_X5_tellSpans_14
      rw [hP1.1, nI_leI (by omega) (by omega)]
      refine ⟨fun h => ?_, fun h => ?_⟩
      · have : p = bN B := by omega
        subst this
        exact hq σ1 hfr hz1 h15 hdn
      · have hp : p < bN B := by omega
        have hfe1 := fe_ok (B := B) (p + 1) (by omega)
        have hv60 : vp_in (nI p) 60 := vp_in_nI (by omega) (by decide)
        -- the page is told
        have tell : ∀ σ2 : Sg, (∀ k, k ≠ 46 → σ2 k = σ1 k) → tmz σ2 → wp_X5_tellSpans_50 post (fun zx1 zx2 zx3 zx4 zσ zτ => wp_X5_tellSpans_14 post f zx1 zx2 zx3 zx4 zσ zτ) (nI (fsp B p)) (nI (esp B p)) (shI (ssp B p)) (nI p) σ2 τ := fun σ2 g1 g2 => by
          have hw := wrs_le B p
          unfold wp_X5_tellSpans_50
          rw [nI_clamp (by omega)]
          refine ⟨hv60, fun σ3 e3 => ⟨hv60, fun σ4 e4 => ?_⟩⟩
          have hP4 : cPg B σ4 := cPg_same (fun k hk => by rw [e4, sig_ne (by omega), e3, sig_ne (by omega), g1 k (by omega)]) hP1
          have h42 : σ4 42 p = shI (ssp B p) := by rw [e4, sig_eq, pk_us]
          have h15' : σ4 15 0 = nI (wrs B p) := by rw [e4, sig_ne (by decide), e3, sig_ne (by decide), g1 15 (by decide)]; exact h15
          refine s_X5_isWrong (t := ssp B p) hB hP4 (by omega) (bs_lt hB _ _) h42 ?_
          rw [h15', show nI p + (1 : Int32) = nI (p + 1) from nI_1 p]
          have fin : ∀ (σ9 : Sg) (w : Nat), σ9 = va_up σ4 15 (fun _ => nI w) → w = wrs B (p + 1) → wp_X5_tellSpans_14 post f (nI (fsp B p)) (nI (esp B p)) (shI (ssp B p)) (nI (p + 1)) σ9 τ := fun σ9 w e9 hw9 => by
            refine ih (p + 1) (shI (ssp B p)) σ9 (by omega) (by omega) (fun k u1 u2 u3 u4 => by rw [e9, sig_ne u1, e4, sig_ne u2, e3, sig_ne u3, g1 k u4]; exact hfr k u1 u2 u3 u4) (fun t ht => by rw [e9, sig_ne (by decide), e4, sig_ne (by decide), e3, sig_ne (by decide)]; exact g2 t ht) (by rw [e9, sig_eq, hw9]) (fun q hq2 => ?_) (fun _ => rfl)
            rw [e9, sig_ne (by decide), sig_ne (by decide), e4, sig_eq, sig_ne (show (43 : Nat) ≠ 42 by decide), e3, sig_eq, sig_ne (show (42 : Nat) ≠ 43 by decide)]
            rcases Nat.lt_or_ge q p with w2 | w2
            · rw [pk_un (by omega), pk_un (by omega), g1 43 (by decide), g1 42 (by decide)]
              exact hdn q w2
            · rw [show q = p by omega, pk_us, pk_us]; exact ⟨rfl, rfl⟩
          have ew : (if rd B p = 0 then 0 else if spl B p = ssp B p then 0 else 1) = wrg B p := rfl
          have hg : wrg B p ≤ 1 := by unfold wrg; repeat' split
                                      all_goals omega
          rw [ew, show (nI (wrg B p) = 0) = (wrg B p = 0) from propext (nI_eq (b := 0) (by omega) (by decide))]
          refine ⟨fun g σ9 e9 => ?_, fun g σ9 e9 => ?_⟩
          · rw [show nI (wrs B p) + (0 : Int32) = nI (wrs B p + 0) from nI_add _ 0] at e9
            exact fin σ9 _ e9 (by rw [wrs, g])
          · rw [show nI (wrs B p) + (1 : Int32) = nI (wrs B p + 1) from nI_1 _] at e9
            exact fin σ9 _ e9 (by rw [wrs, show wrg B p = 1 by omega])
        rw [nI_eq (by omega) (by omega)]
        refine ⟨fun g => ?_, fun g => ⟨hv60, fun y4 e4 => ?_⟩⟩
        · have e1 : fe B (p + 1) = fe B p := by rw [fe, if_neg g]
          have t1 := tell σ1 (fun _ _ => rfl) hz1
          have hp0 : 0 < p := by
            rcases Nat.eq_zero_or_pos p with z | z
            · subst z; exact absurd rfl g
            · exact z
          have es : ssp B p = bs B (fe B p).1 ((fe B p).2 - (fe B p).1) := by
            show bs B (fe B (p + 1)).1 ((fe B (p + 1)).2 - (fe B (p + 1)).1) = _
            rw [e1]
          have ef : fsp B p = (fe B p).1 := by show (fe B (p + 1)).1 = _; rw [e1]
          have ee : esp B p = (fe B p).2 := by show (fe B (p + 1)).2 = _; rw [e1]
          rw [es, ef, ee, ← hsI hp0] at t1
          exact t1
        · have e1 : fe B (p + 1) = (p, p + se B (bN B - (p + 1)) + 1) := by rw [fe, if_pos g]
          have ef : fsp B p = p := by show (fe B (p + 1)).1 = _; rw [e1]
          have ee : esp B p = p + se B (bN B - (p + 1)) + 1 := by show (fe B (p + 1)).2 = _; rw [e1]
          have hse := se_le B (bN B - (p + 1))
          rw [nI_clamp (by omega), hfr 45 (by decide) (by decide) (by decide) (by decide), h45 p hp, ← ee] at e4
          rw [e4]
          refine s_X5_bestShift hB hP1 hz1 (by omega) (by omega) (fun σ2 g1 g2 => ?_)
          have t1 := tell σ2 g1 g2
          have es : ssp B p = bs B p (esp B p - p) := by
            show bs B (fsp B p) (esp B p - fsp B p) = _
            rw [ef]
          rw [es, ef] at t1
          exact t1
  unfold wp_X5_tellSpans
  intro σ1 e1
  exact ⟨bN B + 1, loop (bN B + 1) 0 0 σ1 (Nat.zero_le _) (by omega) (fun k u1 _ _ _ => by rw [e1, sig_ne u1]) (fun t ht => by rw [e1, sig_ne (by decide)]; exact hz t ht) (by rw [e1, sig_eq]; rfl) (fun q hq2 => by omega) (fun z => absurd z (Nat.lt_irrefl 0))⟩
theorem s_X5_explain {B : Bk} {σ : Sg} {τ : Tg} (hB : bok B) (hP : cPg B σ) (hS : cSe B σ) (hz : tmz σ) {post : Sg → Tg → Prop}
    (hq : ∀ σ' : Sg, (∀ k, (k < 13 ∨ (16 ≤ k ∧ k ≤ 41)) → σ' k = σ k) → tmz σ' → shOK B σ' → post σ' τ) : wp_X5_explain σ τ post := by
  have hN := hB.N
  have loop : ∀ (f s : Nat) (σ1 : Sg), s ≤ bN B → s < f → (∀ k, k ≠ 44 → k ≠ 45 → k ≠ 46 → σ1 k = σ k) → tmz σ1 → (∀ a, s ≤ a → a ≤ bN B → σ1 44 a = nI (sE B (bN B - a))) → (∀ a, s ≤ a → a < bN B → σ1 45 a = nI (a + se B (bN B - (a + 1)) + 1)) → wp_X5_explain_23 post f (lat s) σ1 τ := by
    intro f
    induction f with
    | zero => intro s σ1 a1 a2; omega
    | succ f ih =>
      intro s σ1 a1 a2 hfr hz1 h44 h45
      have hP1 : cPg B σ1 := cPg_same (fun k hk => hfr k (by omega) (by omega) (by omega)) hP
      have hS1 : cSe B σ1 := cSe_same (fun k hk => hfr k (by omega) (by omega) (by omega)) hS
      unfold wp_X5_explain_23
      rw [lat_lt (by omega)]
      refine ⟨fun h σ3 e3 σ5 e5 => ?_, fun h => ?_⟩
      · subst h
        have hse := sE_le hB (bN B) (by omega)
        have h0 : σ1 44 0 = nI (sE B (bN B)) := h44 0 (Nat.le_refl _) (Nat.zero_le _)
        have h0' : σ3 44 0 = nI (sE B (bN B)) := by rw [e3, sig_ne (by decide)]; exact h0
        rw [cl0, h0, nlit 64, pk_div (by omega) (by decide) (by decide)] at e3
        rw [cl0, h0', nlit 64, pk_rem (by omega) (by decide) (by decide)] at e5
        refine s_X5_tellSpans hB (cPg_same (fun k hk => by rw [e5, sig_ne (by omega), e3, sig_ne (by omega)]) hP1) (fun t ht => by rw [e5, sig_ne (by decide), e3, sig_ne (by decide)]; exact hz1 t ht) (fun a ha => by rw [e5, sig_ne (by decide), e3, sig_ne (by decide)]; exact h45 a (Nat.zero_le _) ha) (fun σ6 g1 g2 g3 g4 => hq σ6 (fun k hk => ?_) g2 ⟨?_, ?_, g3, g4⟩)
        · rw [g1 k (by omega) (by omega) (by omega) (by omega), e5, sig_ne (by omega), e3, sig_ne (by omega)]
          exact hfr k (by omega) (by omega) (by omega)
        · rw [g1 13 (by decide) (by decide) (by decide) (by decide), e5, sig_ne (by decide), e3, sig_eq]
        · rw [g1 14 (by decide) (by decide) (by decide) (by decide), e5, sig_eq]
      · obtain ⟨i, rfl⟩ : ∃ i, s = i + 1 := ⟨s - 1, by omega⟩
        rw [lat_s, lat_m1]
        refine s_X5_findFirstSpan hB hP1 hS1 (by omega) hz1 (fun a u1 u2 => h44 a u1 u2) (fun σ2 g1 g2 g3 g4 g5 => ?_)
        have hP2 : cPg B σ2 := cPg_same (fun k hk => g1 k (by omega) (by omega) (by omega)) hP1
        rw [hP2.1]
        refine s_X5_forgetTimes hB hP2 (by omega) (by omega) (fun t ht => ?_) (fun σ3 d1 d2 => ?_)
        · rw [g5 t ht]
          by_cases w : cn B i t (bN B - i) = 0
          · rw [w]; exact Or.inl rfl
          · obtain ⟨q, q1, q2, q3⟩ := cn_ex _ w
            exact Or.inr ⟨q, q1, by omega, q3⟩
        · refine ih i σ3 (by omega) (by omega) (fun k u1 u2 u3 => by rw [d1 k u3, g1 k u1 u2 u3]; exact hfr k u1 u2 u3) d2 (fun a u1 u2 => ?_) (fun a u1 u2 => ?_)
          · rw [d1 44 (by decide)]
            by_cases w : a = i
            · rw [w]; exact g3
            · rw [(g2 a w).1]; exact h44 a (by omega) u2
          · rw [d1 45 (by decide)]
            by_cases w : a = i
            · rw [w]; exact g4
            · rw [(g2 a w).2]; exact h45 a (by omega) u2
  unfold wp_X5_explain
  rw [hP.1, nI_clamp (by omega)]
  refine ⟨vp_in_nI (by omega) (by decide), fun σ2 e2 y3 e3 => ?_⟩
  have h4 : σ2 4 0 = nI (bN B) := by rw [e2, sig_ne (by decide)]; exact hP.1
  rw [h4, nlit 1, pk_sub hN.1, ← lat_s, show bN B - 1 + 1 = bN B by omega] at e3
  rw [e3]
  refine ⟨bN B + 1, loop (bN B + 1) (bN B) σ2 (Nat.le_refl _) (by omega) (fun k u1 _ _ => by rw [e2, sig_ne u1]) (fun t ht => by rw [e2, sig_ne (by decide)]; exact hz t ht) (fun a u1 u2 => ?_) (fun a u1 u2 => by omega)⟩
  rw [e2, sig_eq, show a = bN B by omega, pk_us, Nat.sub_self]; rfl
