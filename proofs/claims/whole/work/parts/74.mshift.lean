/-! the reference: wrong ones in a span, its shift -/
def rR (B : Bk) (i N : Nat) : Nat → Nat
  | 0 => 0
  | n + 1 => if rd B (i + n) = 0 then rR B i N n else max (rR B i N n) (cn B i (spl B (i + n)) N)
def rS (B : Bk) (i N : Nat) : Nat → Nat
  | 0 => 59
  | n + 1 => if rd B (i + n) = 0 then rS B i N n else if rR B i N n < cn B i (spl B (i + n)) N then spl B (i + n) else if cn B i (spl B (i + n)) N = rR B i N n ∧ spl B (i + n) < rS B i N n then spl B (i + n) else rS B i N n
theorem rR_le (B : Bk) (i N : Nat) : ∀ n, rR B i N n ≤ N
  | 0 => Nat.zero_le _
  | n + 1 => by
    have h1 := rR_le B i N n
    have h2 := cn_al B i (spl B (i + n)) N
    have h3 := al_le B i N
    unfold rR
    split <;> omega
theorem rS_lt {B : Bk} (hB : bok B) (i N : Nat) : ∀ n, rS B i N n < 1059
  | 0 => by unfold rS; omega
  | n + 1 => by
    have h1 := rS_lt hB i N n
    have h2 := spl_lt hB (i + n)
    unfold rS
    repeat' split
    all_goals omega
theorem cn_pos (B : Bk) (i : Nat) : ∀ N k, k < N → rd B (i + k) ≠ 0 → 0 < cn B i (spl B (i + k)) N
  | 0, k, h, _ => by omega
  | N + 1, k, h, hr => by
    rw [cn]
    by_cases w : k = N
    · rw [w] at hr ⊢
      rw [if_pos ⟨hr, rfl⟩]; omega
    · have := cn_pos B i N k (by omega) hr
      omega
theorem cn_ex0 {B : Bk} {i t : Nat} : ∀ n, cn B i t n ≠ 0 → ∃ k, k < n ∧ rd B (i + k) ≠ 0 ∧ spl B (i + k) = t
  | 0, h => absurd rfl h
  | n + 1, h => by
    by_cases g : rd B (i + n) ≠ 0 ∧ spl B (i + n) = t
    · exact ⟨n, by omega, g.1, g.2⟩
    · rw [cn, if_neg g] at h
      obtain ⟨k, h1, h2, h3⟩ := cn_ex0 n h
      exact ⟨k, by omega, h2, h3⟩
theorem rr_ok {B : Bk} (i N : Nat) : ∀ n, n ≤ N → (∀ k, k < n → rd B (i + k) ≠ 0 → cn B i (spl B (i + k)) N ≤ rR B i N n) ∧ (rR B i N n = 0 → rS B i N n = 59) ∧ (0 < rR B i N n → cn B i (rS B i N n) N = rR B i N n ∧ ∀ k, k < n → rd B (i + k) ≠ 0 → cn B i (spl B (i + k)) N = rR B i N n → rS B i N n ≤ spl B (i + k))
  | 0, _ => ⟨fun k h => by omega, fun _ => rfl, fun h => absurd h (by unfold rR; decide)⟩
  | n + 1, hn => by
    obtain ⟨h1, h2, h3⟩ := rr_ok (B := B) i N n (by omega)
    by_cases h : rd B (i + n) = 0
    · have e1 : rR B i N (n + 1) = rR B i N n := by rw [rR, if_pos h]
      have e2 : rS B i N (n + 1) = rS B i N n := by rw [rS, if_pos h]
      rw [e1, e2]
      refine ⟨fun k hk hr => ?_, h2, fun g => ⟨(h3 g).1, fun k hk hr hc => ?_⟩⟩
      · by_cases w : k = n
        · rw [w] at hr; exact absurd h hr
        · exact h1 k (by omega) hr
      · by_cases w : k = n
        · rw [w] at hr; exact absurd h hr
        · exact (h3 g).2 k (by omega) hr hc
    · have hpos := cn_pos B i N n (by omega) h
      have em : rR B i N (n + 1) = max (rR B i N n) (cn B i (spl B (i + n)) N) := by rw [rR, if_neg h]
      rw [em]
      refine ⟨fun k hk hr => ?_, fun g => by omega, fun _ => ?_⟩
      · by_cases w : k = n
        · rw [w]; omega
        · have := h1 k (by omega) hr; omega
      · rw [rS, if_neg h]
        by_cases g1 : rR B i N n < cn B i (spl B (i + n)) N
        · rw [if_pos g1]
          refine ⟨by omega, fun k hk hr hc => ?_⟩
          by_cases w : k = n
          · rw [w]; exact Nat.le_refl _
          · have := h1 k (by omega) hr; omega
        · rw [if_neg g1]
          have h4 := h3 (by omega)
          by_cases g2 : cn B i (spl B (i + n)) N = rR B i N n ∧ spl B (i + n) < rS B i N n
          · rw [if_pos g2]
            refine ⟨by omega, fun k hk hr hc => ?_⟩
            by_cases w : k = n
            · rw [w]; exact Nat.le_refl _
            · have := h4.2 k (by omega) hr (by omega); omega
          · rw [if_neg g2]
            refine ⟨by omega, fun k hk hr hc => ?_⟩
            by_cases w : k = n
            · rw [w] at hc ⊢
              rcases Nat.lt_or_ge (spl B (i + n)) (rS B i N n) with z | z
              · exact absurd ⟨by omega, z⟩ g2
              · exact z
            · exact h4.2 k (by omega) hr (by omega)
theorem rR_mc {B : Bk} (i N : Nat) : rR B i N N = mc B i N ∧ rS B i N N = bs B i N := by
  obtain ⟨h1, h2, h3⟩ := rr_ok (B := B) i N N (Nat.le_refl N)
  obtain ⟨b0, b1⟩ := bs_ok (B := B) i N
  have lo : rR B i N N ≤ mc B i N := by
    rcases Nat.eq_zero_or_pos (rR B i N N) with q | q
    · omega
    · rw [← (h3 q).1]; exact cn_mc B i _ N
  have hi : mc B i N ≤ rR B i N N := by
    rcases Nat.eq_zero_or_pos (mc B i N) with q | q
    · omega
    · obtain ⟨k, k1, k2, k3⟩ := cn_ex0 (B := B) (i := i) (t := bs B i N) N (by rw [(b1 q).1]; omega)
      rw [← (b1 q).1, ← k3]
      exact h1 k k1 k2
  have e : rR B i N N = mc B i N := by omega
  refine ⟨e, ?_⟩
  rcases Nat.eq_zero_or_pos (mc B i N) with q | q
  · rw [b0 q, h2 (by omega)]
  · obtain ⟨k, k1, k2, k3⟩ := cn_ex0 (B := B) (i := i) (t := bs B i N) N (by rw [(b1 q).1]; omega)
    have u1 := (h3 (by omega)).2 k k1 k2 (by rw [k3, (b1 q).1, e])
    rw [k3] at u1
    have u2 := (b1 q).2 (rS B i N N) (by rw [(h3 (by omega)).1, e])
    omega
theorem m_wrongIn {B : Bk} {μ : Sg} (hB : bok B) (hP : mPg B μ) {i N : Nat} (hN : i + N ≤ 60) {post : Int32 → Sg → Prop} (hp : ∀ μ' : Sg, (∀ k, k ≠ 8 → μ' k = μ k) → μ' 8 0 = shI (bs B i N) → post (nI (al B i N - mc B i N)) μ') : wp_X8_wrongIn (nI i) (nI (i + N)) μ post := by
  have l13 : ∀ (f n : Nat) (μ1 : Sg), n ≤ N → N < n + f → (∀ k, k ≠ 8 → μ1 k = μ k) → μ1 8 0 = shI (rS B i N n) → wp_X8_wrongIn_13 post f (nI i) (nI (i + N)) (nI (al B i n)) (nI (rR B i N n)) (nI (i + n)) μ1 := by
    intro f
    induction f with
    | zero => intro n μ1 a1 a2; omega
    | succ f ih =>
      intro n μ1 a1 a2 hfr h8
      have hrR := rR_le B i N n
      have hP1 : mPg B μ1 := mPg_same (fun k hk => hfr k (by omega)) hP
      have hal := al_le B i n
      unfold wp_X8_wrongIn_13
      rw [nI_leI (by omega) (by omega), nI_clamp (by omega), show nI (i + n) + (1 : Int32) = nI (i + (n + 1)) from nI_1 _, show nI (al B i n) + (1 : Int32) = nI (al B i n + 1) from nI_1 _]
      refine ⟨fun g => ?_, fun g => ⟨vp_in_nI (by omega) (by decide), ?_⟩⟩
      · have hn : n = N := by omega
        subst hn
        obtain ⟨q1, q2⟩ := rR_mc (B := B) i n
        rw [q1, pk_sub (mc_al B i n)]
        exact hp μ1 hfr (by rw [h8, q2])
      · have hin : i + n < 60 := by omega
        have hrd := hB.hrd (i + n)
        rw [hP1.2 (i + n) hin, nI_eq0 (by omega)]
        refine ⟨fun g2 => ⟨vp_in_nI (by omega) (by decide), fun y5 e5 => ⟨N + 1, ?_⟩⟩, fun g2 => ?_⟩
        · rw [sh_nI hin] at e5
          rw [e5]
          have l53 : ∀ (f2 m : Nat), m ≤ N → N < m + f2 → wp_X8_wrongIn_53 post (fun zx1 zx2 zx3 zx4 zx5 zσ => wp_X8_wrongIn_13 post f zx1 zx2 zx3 zx4 zx5 zσ) f2 (nI i) (nI (i + N)) (nI (al B i n + 1)) (nI (rR B i N n)) (nI (i + n)) (shI (spl B (i + n))) (nI (cn B i (spl B (i + n)) m)) (nI (i + m)) μ1 := by
            intro f2
            induction f2 with
            | zero => intro m b1 b2; omega
            | succ f2 ih2 =>
              intro m b1 b2
              have hcn := cn_al B i (spl B (i + n)) m
              have ham := al_le B i m
              unfold wp_X8_wrongIn_53
              rw [nI_leI (by omega) (by omega), nI_ltI (by omega) (by omega), nI_eq (by omega) (by omega), h8, shI_le (rS_lt hB i N n) (spl_lt hB _), nI_clamp (show i + m < 2 ^ 31 by omega), show nI (i + m) + (1 : Int32) = nI (i + (m + 1)) from nI_1 _, show nI (i + n) + (1 : Int32) = nI (i + (n + 1)) from nI_1 _, show nI (cn B i (spl B (i + n)) m) + (1 : Int32) = nI (cn B i (spl B (i + n)) m + 1) from nI_1 _]
              refine ⟨fun q => ?_, fun q => ⟨vp_in_nI (by omega) (by decide), ?_⟩⟩
              · have hm : m = N := by omega
                subst hm
                have eal : al B i (n + 1) = al B i n + 1 := by rw [al, if_neg g2]
                have em : rR B i m (n + 1) = max (rR B i m n) (cn B i (spl B (i + n)) m) := by rw [rR, if_neg g2]
                have eS : rS B i m (n + 1) = _ := rfl
                have t1 : ∀ μ2 : Sg, (∀ k, k ≠ 8 → μ2 k = μ1 k) → μ2 8 0 = shI (rS B i m (n + 1)) → wp_X8_wrongIn_13 post f (nI i) (nI (i + m)) (nI (al B i n + 1)) (nI (max (rR B i m n) (cn B i (spl B (i + n)) m))) (nI (i + (n + 1))) μ2 := fun μ2 u1 u2 => by
                  have := ih (n + 1) μ2 (by omega) (by omega) (fun k hk => (u1 k hk).trans (hfr k hk)) u2
                  rw [eal, em] at this
                  exact this
                have take : rS B i m (n + 1) = spl B (i + n) → rR B i m n ≤ cn B i (spl B (i + n)) m → wp_X8_wrongIn_116 post (fun zx1 zx2 zx3 zx4 zx5 zσ => wp_X8_wrongIn_13 post f zx1 zx2 zx3 zx4 zx5 zσ) (nI i) (nI (i + m)) (nI (al B i n + 1)) (nI (i + n)) (shI (spl B (i + n))) (nI (cn B i (spl B (i + n)) m)) μ1 := fun es hle => by
                  unfold wp_X8_wrongIn_116
                  intro μ2 e2
                  have := t1 μ2 (fun k hk => by rw [e2, sig_ne hk]) (by rw [e2, sig_eq, es])
                  rw [Nat.max_eq_right hle] at this
                  rw [show nI (i + n) + (1 : Int32) = nI (i + (n + 1)) from nI_1 _]
                  exact this
                have keep : rS B i m (n + 1) = rS B i m n → cn B i (spl B (i + n)) m ≤ rR B i m n → wp_X8_wrongIn_13 post f (nI i) (nI (i + m)) (nI (al B i n + 1)) (nI (rR B i m n)) (nI (i + (n + 1))) μ1 := fun es hle => by
                  have := t1 μ1 (fun _ _ => rfl) (by rw [es]; exact h8)
                  rw [Nat.max_eq_left hle] at this
                  exact this
                refine ⟨fun w => take (by rw [rS, if_neg g2, if_pos w]) (by omega), fun w => ⟨fun w2 => keep (by rw [rS, if_neg g2, if_neg w, if_neg (fun z => w2 z.1)]) (by omega), fun w2 => ⟨fun w3 => keep (by rw [rS, if_neg g2, if_neg w, if_neg (fun z => by omega)]) (by omega), fun w3 => take (by rw [rS, if_neg g2, if_neg w, if_pos ⟨w2, by omega⟩]) (by omega)⟩⟩⟩
              · have him : i + m < 60 := by omega
                have hrm := hB.hrd (i + m)
                rw [hP1.2 (i + m) him, nI_le0 (by omega), sh_nI him, shI_eq (spl_lt hB _) (spl_lt hB _)]
                have i2 := ih2 (m + 1) (by omega) (by omega)
                rw [cn] at i2
                refine ⟨fun w => ?_, fun w => ⟨vp_in_nI (by omega) (by decide), fun w2 => ?_, fun w2 => ?_⟩⟩
                · rw [if_neg (fun z => z.1 w)] at i2; exact i2
                · rw [if_neg (fun z => w2 z.2)] at i2; exact i2
                · rw [if_pos ⟨w, w2⟩] at i2; exact i2
          exact l53 (N + 1) 0 (Nat.zero_le _) (by omega)
        · have t1 := ih (n + 1) μ1 (by omega) (by omega) hfr (by rw [rS, if_pos g2]; exact h8)
          rw [al, if_pos g2, rR, if_pos g2, Nat.add_zero] at t1
          exact t1
  unfold wp_X8_wrongIn
  intro μ1 e1
  exact ⟨N + 1, l13 (N + 1) 0 μ1 (Nat.zero_le _) (by omega) (fun k hk => by rw [e1, sig_ne hk]) (by rw [e1, sig_eq, zero_shI]; rfl)⟩
/-! cost and spans in two numbers -/
theorem cs_two {B : Bk} {r m : Nat} (h : sE B (r - m) % 64 < 63) : cs B r m / 64 = pr B 8 + pr B 9 * (al B (bN B - (r + 1)) (m + 1) - mc B (bN B - (r + 1)) (m + 1)) + sE B (r - m) / 64 ∧ cs B r m % 64 = 1 + sE B (r - m) % 64 := by
  unfold cs fc
  rw [Nat.mul_right_comm]
  omega
theorem sE_mod (B : Bk) : ∀ n r, r ≤ n → r ≤ 60 → sE B r % 64 ≤ r
  | 0, r, h, _ => by rw [show r = 0 by omega, sE_0]; omega
  | n + 1, r, h, h60 => by
    rcases Nat.eq_zero_or_pos r with q | q
    · rw [q, sE_0]; omega
    · obtain ⟨s, rfl⟩ : ∃ s, r = s + 1 := ⟨r - 1, by omega⟩
      have h1 := lm_at (cs B s) s
      have h2 := lm_le (cs B s) (mn (cs B s) s) s
      have h3 := sE_mod B n (s - lm (cs B s) (mn (cs B s) s) s) (by omega) (by omega)
      rw [sE_s, ← h1, (cs_two (by omega)).2]
      omega
theorem lm_unique {f : Nat → Nat} {r M V : Nat} (hM : M ≤ r) (hf : f M = V) (h1 : ∀ m, m ≤ r → V ≤ f m) (h2 : ∀ m, M < m → m ≤ r → V < f m) : V = mn f r ∧ M = lm f (mn f r) r := by
  have a1 := mn_le f r M hM
  have a2 := lm_at f r
  have a3 := lm_le f (mn f r) r
  have a4 := h1 _ a3
  have e : V = mn f r := by omega
  refine ⟨e, ?_⟩
  rcases Nat.lt_trichotomy M (lm f (mn f r) r) with w | w | w
  · have := h2 _ w a3; omega
  · exact w
  · exact absurd (by rw [hf, e]) (lm_after f (mn f r) r M w hM)
theorem fe_run {B : Bk} {i : Nat} (h : (fe B i).2 = i) : ∀ n, n ≤ se B (bN B - (i + 1)) → fe B (i + 1 + n) = (i, i + se B (bN B - (i + 1)) + 1)
  | 0, _ => by rw [Nat.add_zero, fe, if_pos h.symm]
  | n + 1, hn => by
    have ih := fe_run h n (by omega)
    rw [show i + 1 + (n + 1) = (i + 1 + n) + 1 by omega, fe, ih, if_neg (show ¬ i + 1 + n = i + se B (bN B - (i + 1)) + 1 by omega)]
