/-! Shifts of the class -/
theorem s_X5_shiftPlace {B : Bk} {σ : Sg} {τ : Tg} (hP : cPg B σ) {p : Nat} (hp : p < 60) {post : Int32 → Sg → Tg → Prop} (hq : post (nI (spl B p)) σ τ) : wp_X5_shiftPlace (nI p) σ τ post := by
  unfold wp_X5_shiftPlace
  rw [nI_clamp (by omega), hP.2 p hp, nlit 59, pl_nI (by omega)]
  exact ⟨vp_in_nI hp (by decide), hq⟩
theorem s_X5_addTime {B : Bk} {σ : Sg} {τ : Tg} (hB : bok B) (hP : cPg B σ) {p : Nat} (hp : p < 60) {c : Nat → Nat} (hc : ∀ t, t < 1059 → σ 46 t = nI (c t)) {post : Int32 → Sg → Tg → Prop}
    (hq : ∀ σ' : Sg, (∀ k, k ≠ 46 → σ' k = σ k) → (∀ t, t < 1059 → σ' 46 t = nI (if spl B p = t then c t + 1 else c t)) → post (nI (c (spl B p) + 1)) σ' τ) : wp_X5_addTime (nI p) σ τ post := by
  have hs := spl_lt hB p
  unfold wp_X5_addTime
  refine s_X5_shiftPlace hP hp ?_
  have hv : vp_in (nI (spl B p)) 1059 := vp_in_nI hs (by decide)
  rw [nI_clamp (by omega), hc _ hs]
  refine ⟨hv, hv, fun σ6 e6 => ⟨hv, ?_⟩⟩
  rw [show nI (c (spl B p)) + (1 : Int32) = nI (c (spl B p) + 1) from nI_1 _] at e6
  have e7 : σ6 46 (spl B p) = nI (c (spl B p) + 1) := by rw [e6, sig_eq, pk_us]
  rw [e7]
  refine hq σ6 (fun k hk => by rw [e6, sig_ne hk]) (fun t ht => ?_)
  rw [e6, sig_eq]
  by_cases w : t = spl B p
  · rw [w, pk_us, if_pos rfl]
  · rw [pk_un w, if_neg (fun z => w z.symm)]; exact hc t ht
theorem cn_ex {B : Bk} {i t : Nat} : ∀ n, cn B i t n ≠ 0 → ∃ q, i ≤ q ∧ q < i + n ∧ spl B q = t
  | 0, h => absurd rfl h
  | n + 1, h => by
    by_cases g : rd B (i + n) ≠ 0 ∧ spl B (i + n) = t
    · exact ⟨i + n, by omega, by omega, g.2⟩
    · rw [cn, if_neg g] at h
      obtain ⟨q, h1, h2, h3⟩ := cn_ex n h
      exact ⟨q, h1, by omega, h3⟩
def tmz (σ : Sg) : Prop := ∀ t, t < 1059 → σ 46 t = nI 0
theorem s_X5_forgetTimes {B : Bk} {σ : Sg} {τ : Tg} (hB : bok B) (hP : cPg B σ) {a b : Nat} (hab : a ≤ b) (hb : b ≤ 60) (ht : ∀ t, t < 1059 → σ 46 t = nI 0 ∨ ∃ q, a ≤ q ∧ q < b ∧ spl B q = t) {post : Sg → Tg → Prop} (hq : ∀ σ' : Sg, (∀ k, k ≠ 46 → σ' k = σ k) → tmz σ' → post σ' τ) : wp_X5_forgetTimes (nI a) (nI b) σ τ post := by
  have loop : ∀ (f p : Nat) (σ1 : Sg), p ≤ b → b < p + f → (∀ k, k ≠ 46 → σ1 k = σ k) → (∀ t, t < 1059 → σ1 46 t = nI 0 ∨ ∃ q, p ≤ q ∧ q < b ∧ spl B q = t) → wp_X5_forgetTimes_2 post f (nI b) (nI p) σ1 τ := by
    intro f
    induction f with
    | zero => intro p σ1 a1 a2; omega
    | succ f ih =>
      intro p σ1 a1 a2 hfr h1
      unfold wp_X5_forgetTimes_2
      rw [nI_leI (by omega) (by omega), show nI p + (1 : Int32) = nI (p + 1) from nI_1 p]
      refine ⟨fun h => hq σ1 hfr (fun t ht => ?_), fun h => s_X5_shiftPlace (cPg_same (fun k hk => hfr k (by omega)) hP) (by omega) ⟨vp_in_nI (spl_lt hB p) (by decide), fun σ6 e6 => ?_⟩⟩
      · rcases h1 t ht with g | ⟨q, g1, g2, -⟩
        · exact g
        · omega
      · have hs := spl_lt hB p
        rw [nI_clamp (by omega)] at e6
        refine ih (p + 1) σ6 (by omega) (by omega) (fun k hk => by rw [e6, sig_ne hk]; exact hfr k hk) (fun t ht => ?_)
        rw [e6, sig_eq]
        by_cases w : t = spl B p
        · rw [w, pk_us]; exact Or.inl rfl
        · rw [pk_un w]
          rcases h1 t ht with g | ⟨q, g1, g2, g3⟩
          · exact Or.inl g
          · refine Or.inr ⟨q, ?_, g2, g3⟩
            rcases Nat.lt_or_ge p q with z | z
            · exact z
            · rw [show q = p by omega] at g3; exact absurd g3.symm w
  exact ⟨b + 1, loop (b + 1) a σ hab (by omega) (fun _ _ => rfl) ht⟩
theorem cn_step (B : Bk) (i t n : Nat) (h : rd B (i + n) ≠ 0) : (if spl B (i + n) = t then cn B i t n + 1 else cn B i t n) = cn B i t (n + 1) := by
  rw [cn]
  by_cases g : spl B (i + n) = t
  · rw [if_pos g, if_pos ⟨h, g⟩]
  · rw [if_neg g, if_neg (fun z => g z.2)]; rfl
theorem cn_same (B : Bk) (i t n : Nat) (h : rd B (i + n) = 0) : cn B i t (n + 1) = cn B i t n := by
  rw [cn, if_neg (fun z => z.1 h)]; rfl
theorem cl8 : (8 : Int32).toNatClampNeg = 8 := by decide
theorem cl9 : (9 : Int32).toNatClampNeg = 9 := by decide
theorem s_X5_findFirstSpan {B : Bk} {σ : Sg} {τ : Tg} (hB : bok B) (hP : cPg B σ) (hS : cSe B σ) {i : Nat} (hi : i < bN B) (hz : tmz σ) (hl : ∀ a, i < a → a ≤ bN B → σ 44 a = nI (sE B (bN B - a))) {post : Sg → Tg → Prop}
    (hq : ∀ σ' : Sg, (∀ k, k ≠ 44 → k ≠ 45 → k ≠ 46 → σ' k = σ k) → (∀ a, a ≠ i → σ' 44 a = σ 44 a ∧ σ' 45 a = σ 45 a) → σ' 44 i = nI (sE B (bN B - i)) → σ' 45 i = nI (i + se B (bN B - (i + 1)) + 1) → (∀ t, t < 1059 → σ' 46 t = nI (cn B i t (bN B - i))) → post σ' τ) : wp_X5_findFirstSpan (nI i) σ τ post := by
  have hN := hB.N
  have h8 := hB.hpr 8
  have h9 := hB.hpr 9
  have hcs : ∀ m, m ≤ bN B - (i + 1) → cs B (bN B - (i + 1)) m ≤ 500000 := fun m hm => by
    have h1 := fc_le hB (bN B - (i + 1)) m (by omega)
    have h2 := sE_le hB (bN B - (i + 1) - m) (by omega)
    unfold cs; omega
  have loop : ∀ (f n : Nat) (σ1 : Sg), i + n ≤ bN B → bN B < i + n + f → (∀ k, k ≠ 44 → k ≠ 45 → k ≠ 46 → σ1 k = σ k) → (∀ a, a ≠ i → σ1 44 a = σ 44 a ∧ σ1 45 a = σ 45 a) → (n = 0 → σ1 44 i = nI 1073741824) → (0 < n → σ1 44 i = nI (mn (cs B (bN B - (i + 1))) (n - 1)) ∧ σ1 45 i = nI (i + lm (cs B (bN B - (i + 1))) (mn (cs B (bN B - (i + 1))) (n - 1)) (n - 1) + 1)) → (∀ t, t < 1059 → σ1 46 t = nI (cn B i t n)) →
      wp_X5_findFirstSpan_47 post f (nI i) (nI (pr B 8 * 64 + 1)) (nI (pr B 9 * 64)) (nI (al B i n)) (nI (mc B i n)) (nI (i + n)) σ1 τ := by
    intro f
    induction f with
    | zero => intro n σ1 a1 a2; omega
    | succ f ih =>
      intro n σ1 a1 a2 hfr hoth h0 h1 ht
      have hP1 : cPg B σ1 := cPg_same (fun k hk => hfr k (by omega) (by omega) (by omega)) hP
      have hal := al_le B i n
      have hmc := mc_al B i n
      unfold wp_X5_findFirstSpan_47
      rw [hP1.1, nI_leI (by omega) (by omega)]
      refine ⟨fun h => ?_, fun h => ?_⟩
      · have hn : n = bN B - i := by omega
        obtain ⟨g1, g2⟩ := h1 (by omega)
        rw [show n - 1 = bN B - (i + 1) by omega, ← sE_s, show bN B - (i + 1) + 1 = bN B - i by omega] at g1 g2
        refine hq σ1 hfr hoth g1 ?_ (by rw [← hn]; exact ht)
        unfold se
        rw [show bN B - (i + 1) + 1 = bN B - i by omega]
        exact g2
      · have hin : i + n < bN B := by omega
        have hrd := hB.hrd (i + n)
        have hv60 : vp_in (nI (i + n)) 60 := vp_in_nI (by omega) (by decide)
        rw [nI_clamp (show i + n < 2 ^ 31 by omega), hP1.2 (i + n) (by omega), show (nI (rd B (i + n)) ≤ 0) = (rd B (i + n) ≤ 0) from propext (nI_leI (b := 0) (by omega) (by decide))]
        -- the end of a turn
        have turn : ∀ σ2 : Sg, (∀ k, k ≠ 46 → σ2 k = σ1 k) → (∀ t, t < 1059 → σ2 46 t = nI (cn B i t (n + 1))) → wp_X5_findFirstSpan_88 post (fun zx1 zx2 zx3 zx4 zx5 zx6 zσ zτ => wp_X5_findFirstSpan_47 post f zx1 zx2 zx3 zx4 zx5 zx6 zσ zτ) (nI i) (nI (pr B 8 * 64 + 1)) (nI (pr B 9 * 64)) (nI (al B i (n + 1))) (nI (mc B i (n + 1))) (nI (i + n)) σ2 τ := fun σ2 g1 g2 => by
          have hm1 := mc_al B i (n + 1)
          have hc := hcs n (by omega)
          unfold wp_X5_findFirstSpan_88
          rw [show nI (i + n) + (1 : Int32) = nI (i + (n + 1)) from nI_1 _, nI_clamp (show i + (n + 1) < 2 ^ 31 by omega), nI_clamp (show i < 2 ^ 31 by omega)]
          have hv61 : vp_in (nI i) 61 := vp_in_nI (by omega) (by decide)
          refine ⟨vp_in_nI (by omega) (by decide), fun y2 e2 => ?_⟩
          rw [g1 44 (by decide), (hoth (i + (n + 1)) (by omega)).1, hl _ (by omega) (by omega), pk_sub hm1, pk_mul, nI_add, nI_add] at e2
          have e3 : y2 = nI (cs B (bN B - (i + 1)) n) := by
            rw [e2]; unfold cs fc
            rw [show bN B - (bN B - (i + 1) + 1) = i by omega, show bN B - (i + (n + 1)) = bN B - (i + 1) - n by omega]
          rw [e3, g1 44 (by decide)]
          have hfr2 : ∀ k, k ≠ 44 → k ≠ 45 → k ≠ 46 → σ2 k = σ k := fun k u1 u2 u3 => (g1 k u3).trans (hfr k u1 u2 u3)
          have keep : (0 < n) → mn (cs B (bN B - (i + 1))) (n - 1) < cs B (bN B - (i + 1)) n → wp_X5_findFirstSpan_47 post f (nI i) (nI (pr B 8 * 64 + 1)) (nI (pr B 9 * 64)) (nI (al B i (n + 1))) (nI (mc B i (n + 1))) (nI (i + (n + 1))) σ2 τ := fun hn0 hlt => by
            obtain ⟨w1, w2⟩ := h1 hn0
            have em : mn (cs B (bN B - (i + 1))) n = mn (cs B (bN B - (i + 1))) (n - 1) := by
              obtain ⟨k, rfl⟩ : ∃ k, n = k + 1 := ⟨n - 1, by omega⟩
              rw [mn, Nat.add_sub_cancel] at *; omega
            have el : lm (cs B (bN B - (i + 1))) (mn (cs B (bN B - (i + 1))) n) n = lm (cs B (bN B - (i + 1))) (mn (cs B (bN B - (i + 1))) (n - 1)) (n - 1) := by
              rw [em]
              obtain ⟨k, rfl⟩ : ∃ k, n = k + 1 := ⟨n - 1, by omega⟩
              rw [Nat.add_sub_cancel] at hlt ⊢
              rw [lm, if_neg (by omega)]
            refine ih (n + 1) σ2 (by omega) (by omega) hfr2 (fun a ha => by rw [g1 44 (by decide), g1 45 (by decide)]; exact hoth a ha) (fun z => by omega) (fun _ => ?_) g2
            rw [Nat.add_sub_cancel, el, em, g1 44 (by decide), g1 45 (by decide)]
            exact ⟨w1, w2⟩
          have put : (n = 0 ∨ cs B (bN B - (i + 1)) n ≤ mn (cs B (bN B - (i + 1))) (n - 1)) → ∀ σ8 : Sg, σ8 = va_up (va_up σ2 44 (upd (σ2 44) i (nI (cs B (bN B - (i + 1)) n)))) 45 (upd (va_up σ2 44 (upd (σ2 44) i (nI (cs B (bN B - (i + 1)) n))) 45) i (nI (i + (n + 1)))) → wp_X5_findFirstSpan_47 post f (nI i) (nI (pr B 8 * 64 + 1)) (nI (pr B 9 * 64)) (nI (al B i (n + 1))) (nI (mc B i (n + 1))) (nI (i + (n + 1))) σ8 τ := fun hor σ8 e8 => by
            have em : mn (cs B (bN B - (i + 1))) n = cs B (bN B - (i + 1)) n := by
              rcases Nat.eq_zero_or_pos n with q | q
              · subst q; rfl
              · obtain ⟨k, rfl⟩ : ∃ k, n = k + 1 := ⟨n - 1, by omega⟩
                rw [Nat.add_sub_cancel] at hor
                rw [mn]; omega
            have el : lm (cs B (bN B - (i + 1))) (cs B (bN B - (i + 1)) n) n = n := by
              rcases Nat.eq_zero_or_pos n with q | q
              · subst q; rfl
              · obtain ⟨k, rfl⟩ : ∃ k, n = k + 1 := ⟨n - 1, by omega⟩
                rw [lm, if_pos rfl]
            refine ih (n + 1) σ8 (by omega) (by omega) (fun k u1 u2 u3 => by rw [e8, sig_ne u2, sig_ne u1]; exact hfr2 k u1 u2 u3) (fun a ha => ?_) (fun z => by omega) (fun _ => ?_) (fun t ht2 => by rw [e8, sig_ne (by decide), sig_ne (by decide)]; exact g2 t ht2)
            · rw [e8, sig_ne (show (44 : Nat) ≠ 45 by decide), sig_eq, pk_un ha, sig_eq, pk_un ha, sig_ne (by decide), g1 44 (by decide), g1 45 (by decide)]
              exact hoth a ha
            · rw [Nat.add_sub_cancel, em, el, e8, sig_ne (show (44 : Nat) ≠ 45 by decide), sig_eq, pk_us, sig_eq, pk_us]
              exact ⟨rfl, rfl⟩
          rcases Nat.eq_zero_or_pos n with q | q
          · rw [h0 q, nI_ltI (by decide) (by omega)]
            exact ⟨hv61, fun w => by omega, fun _ => ⟨hv61, fun σ6 e6 => ⟨vp_in_nI (by omega) (by decide), fun σ8 e8 => put (Or.inl q) σ8 (by rw [e8, e6, g1 44 (by decide)])⟩⟩⟩
          · have hmn : mn (cs B (bN B - (i + 1))) (n - 1) ≤ cs B (bN B - (i + 1)) 0 := mn_le _ _ 0 (Nat.zero_le _)
            have hc0 := hcs 0 (Nat.zero_le _)
            rw [(h1 q).1, nI_ltI (by omega) (by omega)]
            exact ⟨hv61, fun w => keep q w, fun w => ⟨hv61, fun σ6 e6 => ⟨vp_in_nI (by omega) (by decide), fun σ8 e8 => put (Or.inr (by omega)) σ8 (by rw [e8, e6, g1 44 (by decide)])⟩⟩⟩
        refine ⟨hv60, fun g => ?_, fun g => s_X5_addTime hB hP1 (by omega) ht (fun σ2 g1 g2 y7 e7 => ?_)⟩
        · have hr0 : rd B (i + n) = 0 := by omega
          have t1 := turn σ1 (fun _ _ => rfl) (fun t ht2 => by rw [cn_same B i t n hr0]; exact ht t ht2)
          rw [show al B i (n + 1) = al B i n by rw [al, if_pos hr0]; rfl, show mc B i (n + 1) = mc B i n by rw [mc, if_pos hr0]] at t1
          exact t1
        · have hr0 : rd B (i + n) ≠ 0 := by omega
          have t1 := turn σ2 g1 (fun t ht2 => by rw [g2 t ht2, cn_step B i t n hr0])
          have hcn := cn_al B i (spl B (i + n)) n
          have ec : cn B i (spl B (i + n)) n + 1 = cn B i (spl B (i + n)) (n + 1) := by rw [cn, if_pos ⟨hr0, rfl⟩]
          have e8 : y7 = nI (mc B i (n + 1)) := by
            rw [mc, if_neg hr0, ← ec]
            rcases Nat.lt_or_ge (mc B i n) (cn B i (spl B (i + n)) n + 1) with w | w
            · rw [e7, if_pos (nI_lt w (by omega)), Nat.max_eq_right (Nat.le_of_lt w)]
            · rw [e7, if_neg (nI_nlt w (by omega)), Nat.max_eq_left w]
          rw [e8, show nI (al B i n) + (1 : Int32) = nI (al B i (n + 1)) by rw [al, if_neg hr0]; exact nI_1 _]
          exact t1
  unfold wp_X5_findFirstSpan
  intro y2 e2 y4 e4
  rw [cl8, hS.2.1 8 (by decide), nlit 64, pk_mul, show nI (pr B 8 * 64) + (1 : Int32) = nI (pr B 8 * 64 + 1) from nI_1 _] at e2
  rw [cl9, hS.2.1 9 (by decide), nlit 64, pk_mul] at e4
  refine ⟨vp_in_nI (by omega) (by decide), fun σ6 e6 => ⟨bN B + 1, ?_⟩⟩
  rw [nI_clamp (by omega)] at e6
  rw [e2, e4]
  refine loop (bN B + 1) 0 σ6 (by omega) (by omega) (fun k u1 _ _ => by rw [e6, sig_ne u1]) (fun a ha => ⟨by rw [e6, sig_eq, pk_un ha], by rw [e6, sig_ne (by decide)]⟩) (fun _ => by rw [e6, sig_eq, pk_us]; rfl) (fun z => absurd z (Nat.lt_irrefl 0)) (fun t ht => by rw [e6, sig_ne (by decide)]; exact hz t ht)
