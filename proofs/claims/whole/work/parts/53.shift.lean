/-! SHIFTS, in plain numbers: a shift is told by its place, 59 more than it is -/
def spl (B : Bk) (p : Nat) : Nat := rd B p + 59 - p
theorem spl_lt {B : Bk} (hB : bok B) (p : Nat) : spl B p < 1059 := by
  have := hB.hrd p
  unfold spl; omega
def shI (t : Nat) : Int32 := nI t - nI 59
theorem shI_toInt {t : Nat} (h : t < 1059) : (shI t).toInt = (t : Int) - 59 := pk_sub_toInt (by omega) (by decide)
theorem shI_le {t u : Nat} (ht : t < 1059) (hu : u < 1059) : shI t ≤ shI u ↔ t ≤ u := by
  rw [Int32.le_iff_toInt_le, shI_toInt ht, shI_toInt hu]; omega
theorem shI_eq {t u : Nat} (ht : t < 1059) (hu : u < 1059) : shI t = shI u ↔ t = u := by
  rw [← Int32.toInt_inj, shI_toInt ht, shI_toInt hu]; omega
theorem pl_nI {a b : Nat} (h : b ≤ a + 59) : nI a - nI b + nI 59 = nI (a + 59 - b) := by
  rw [Int32.sub_eq_add_neg, Int32.add_assoc, Int32.add_comm (-nI b), ← Int32.add_assoc, ← Int32.sub_eq_add_neg, nI_add, pk_sub h]
theorem sh_nI {B : Bk} {p : Nat} (hp : p < 60) : nI (rd B p) - nI p = shI (spl B p) := by
  unfold shI spl
  rw [← pl_nI (by omega), Int32.add_sub_cancel]
/-- pages of i .. i+n-1 with a read number; those of place t -/
def al (B : Bk) (i : Nat) : Nat → Nat
  | 0 => 0
  | n + 1 => al B i n + (if rd B (i + n) = 0 then 0 else 1)
def cn (B : Bk) (i t : Nat) : Nat → Nat
  | 0 => 0
  | n + 1 => cn B i t n + (if rd B (i + n) ≠ 0 ∧ spl B (i + n) = t then 1 else 0)
def mc (B : Bk) (i : Nat) : Nat → Nat
  | 0 => 0
  | n + 1 => if rd B (i + n) = 0 then mc B i n else max (mc B i n) (cn B i (spl B (i + n)) (n + 1))
def bs (B : Bk) (i : Nat) : Nat → Nat
  | 0 => 59
  | n + 1 => if rd B (i + n) = 0 then bs B i n else if mc B i n < cn B i (spl B (i + n)) (n + 1) then spl B (i + n) else if cn B i (spl B (i + n)) (n + 1) = mc B i n ∧ spl B (i + n) < bs B i n then spl B (i + n) else bs B i n
theorem al_le (B : Bk) (i : Nat) : ∀ n, al B i n ≤ n
  | 0 => Nat.le_refl 0
  | n + 1 => by have := al_le B i n; unfold al; split <;> omega
theorem cn_al (B : Bk) (i t : Nat) : ∀ n, cn B i t n ≤ al B i n
  | 0 => Nat.le_refl 0
  | n + 1 => by
    have := cn_al B i t n
    unfold cn al
    by_cases h : rd B (i + n) = 0
    · rw [if_neg (fun z => z.1 h), if_pos h]; omega
    · rw [if_neg h]; split <;> omega
theorem mc_al (B : Bk) (i : Nat) : ∀ n, mc B i n ≤ al B i n
  | 0 => Nat.le_refl 0
  | n + 1 => by
    have h1 := mc_al B i n
    have h2 := cn_al B i (spl B (i + n)) (n + 1)
    unfold mc
    split
    · unfold al; omega
    · have : al B i n ≤ al B i (n + 1) := by rw [al]; omega
      omega
theorem cn_mc (B : Bk) (i t : Nat) : ∀ n, cn B i t n ≤ mc B i n
  | 0 => Nat.le_refl 0
  | n + 1 => by
    have h1 := cn_mc B i t n
    unfold mc
    by_cases h : rd B (i + n) = 0
    · rw [if_pos h, cn, if_neg (fun z => z.1 h)]; omega
    · rw [if_neg h]
      by_cases g : spl B (i + n) = t
      · rw [g]; omega
      · rw [show cn B i t (n + 1) = cn B i t n by rw [cn, if_neg (fun z => g z.2)]; rfl]; omega
theorem bs_lt {B : Bk} (hB : bok B) (i : Nat) : ∀ n, bs B i n < 1059
  | 0 => by unfold bs; omega
  | n + 1 => by
    have h1 := bs_lt hB i n
    have h2 := spl_lt hB (i + n)
    unfold bs
    repeat' split
    all_goals omega
/-- the place that is told: it has the most, and is the least such -/
theorem bs_ok {B : Bk} (i : Nat) : ∀ n, (mc B i n = 0 → bs B i n = 59) ∧ (0 < mc B i n → cn B i (bs B i n) n = mc B i n ∧ ∀ t, cn B i t n = mc B i n → bs B i n ≤ t)
  | 0 => ⟨fun _ => rfl, fun h => absurd h (by unfold mc; decide)⟩
  | n + 1 => by
    obtain ⟨h0, h1⟩ := bs_ok (B := B) i n
    by_cases h : rd B (i + n) = 0
    · have e1 : mc B i (n + 1) = mc B i n := by rw [mc, if_pos h]
      have e2 : bs B i (n + 1) = bs B i n := by rw [bs, if_pos h]
      have e3 : ∀ t, cn B i t (n + 1) = cn B i t n := fun t => by rw [cn, if_neg (fun z => z.1 h)]; rfl
      rw [e1, e2, e3]
      exact ⟨h0, fun g => ⟨(h1 g).1, fun t => by rw [e3]; exact (h1 g).2 t⟩⟩
    · have ec : cn B i (spl B (i + n)) (n + 1) = cn B i (spl B (i + n)) n + 1 := by rw [cn, if_pos ⟨h, rfl⟩]
      have eo : ∀ t, t ≠ spl B (i + n) → cn B i t (n + 1) = cn B i t n := fun t ht => by rw [cn, if_neg (fun z => ht z.2.symm)]; rfl
      have em : mc B i (n + 1) = max (mc B i n) (cn B i (spl B (i + n)) (n + 1)) := by rw [mc, if_neg h]
      have hm := cn_mc B i (spl B (i + n)) n
      rw [em]
      refine ⟨fun g => by omega, fun _ => ?_⟩
      rw [bs, if_neg h]
      by_cases g1 : mc B i n < cn B i (spl B (i + n)) (n + 1)
      · rw [if_pos g1]
        refine ⟨by omega, fun t ht => ?_⟩
        by_cases g : t = spl B (i + n)
        · omega
        · rw [eo t g] at ht
          have := cn_mc B i t n
          omega
      · rw [if_neg g1]
        have hpos : 0 < mc B i n := by omega
        obtain ⟨u1, u2⟩ := h1 hpos
        by_cases g2 : cn B i (spl B (i + n)) (n + 1) = mc B i n ∧ spl B (i + n) < bs B i n
        · rw [if_pos g2]
          refine ⟨by omega, fun t ht => ?_⟩
          by_cases g : t = spl B (i + n)
          · omega
          · rw [eo t g] at ht
            have := u2 t (by omega)
            omega
        · rw [if_neg g2]
          have hne : bs B i n ≠ spl B (i + n) := fun z => by rw [z] at u1; omega
          refine ⟨by rw [eo _ hne]; omega, fun t ht => ?_⟩
          by_cases g : t = spl B (i + n)
          · rw [g] at ht ⊢
            rcases Nat.lt_or_ge (spl B (i + n)) (bs B i n) with w | w
            · exact absurd ⟨by omega, w⟩ g2
            · exact w
          · rw [eo t g] at ht
            exact u2 t (by omega)
/-- the cost (64 times it, and the spans) of a first span of m+1 pages, r pages being behind its first -/
def fc (B : Bk) (r m : Nat) : Nat := pr B 8 * 64 + 1 + pr B 9 * 64 * (al B (bN B - (r + 1)) (m + 1) - mc B (bN B - (r + 1)) (m + 1))
def mn (f : Nat → Nat) : Nat → Nat
  | 0 => f 0
  | k + 1 => min (mn f k) (f (k + 1))
def sT (B : Bk) : Nat → Nat → Nat
  | 0 => fun _ => 0
  | n + 1 => fun r => if r = n + 1 then mn (fun m => fc B n m + sT B n (n - m)) n else sT B n r
def sE (B : Bk) (r : Nat) : Nat := sT B r r
theorem sT_eq (B : Bk) : ∀ n r, r ≤ n → sT B n r = sE B r
  | 0, r, h => by rw [show r = 0 by omega]; rfl
  | n + 1, r, h => by
    by_cases g : r = n + 1
    · rw [g]; rfl
    · rw [← sT_eq B n r (by omega)]
      show (if r = n + 1 then _ else sT B n r) = _
      rw [if_neg g]
theorem mn_cong {f g : Nat → Nat} : ∀ k, (∀ m, m ≤ k → f m = g m) → mn f k = mn g k
  | 0, h => h 0 (Nat.le_refl 0)
  | k + 1, h => by rw [mn, mn, mn_cong k (fun m hm => h m (by omega)), h (k + 1) (Nat.le_refl _)]
def cs (B : Bk) (r m : Nat) : Nat := fc B r m + sE B (r - m)
theorem sE_0 (B : Bk) : sE B 0 = 0 := rfl
theorem sE_s (B : Bk) (r : Nat) : sE B (r + 1) = mn (cs B r) r := by
  show (if r + 1 = r + 1 then mn (fun m => fc B r m + sT B r (r - m)) r else _) = _
  rw [if_pos rfl]
  exact mn_cong r (fun m hm => by rw [sT_eq B r (r - m) (by omega)]; rfl)
theorem mn_le (f : Nat → Nat) : ∀ k m, m ≤ k → mn f k ≤ f m
  | 0, m, h => by rw [show m = 0 by omega]; exact Nat.le_refl _
  | k + 1, m, h => by
    rw [mn]
    by_cases g : m = k + 1
    · rw [g]; omega
    · have := mn_le f k m (by omega); omega
def lm (f : Nat → Nat) (v : Nat) : Nat → Nat
  | 0 => 0
  | k + 1 => if f (k + 1) = v then k + 1 else lm f v k
theorem lm_le (f : Nat → Nat) (v : Nat) : ∀ k, lm f v k ≤ k
  | 0 => Nat.le_refl 0
  | k + 1 => by have := lm_le f v k; unfold lm; split <;> omega
theorem lm_after (f : Nat → Nat) (v : Nat) : ∀ k m, lm f v k < m → m ≤ k → f m ≠ v
  | 0, m, h1, h2 => by omega
  | k + 1, m, h1, h2 => by
    unfold lm at h1
    by_cases g : f (k + 1) = v
    · rw [if_pos g] at h1; omega
    · rw [if_neg g] at h1
      by_cases e : m = k + 1
      · rw [e]; exact g
      · exact lm_after f v k m h1 (by omega)
theorem lm_at (f : Nat → Nat) : ∀ k, f (lm f (mn f k) k) = mn f k := by
  have key : ∀ (v : Nat) k, (∃ m, m ≤ k ∧ f m = v) → f (lm f v k) = v := by
    intro v k
    induction k with
    | zero => intro ⟨m, hm, e⟩; unfold lm; rw [show m = 0 by omega] at e; exact e
    | succ k ih =>
      intro ⟨m, hm, e⟩
      unfold lm
      by_cases g : f (k + 1) = v
      · rw [if_pos g]; exact g
      · rw [if_neg g]
        refine ih ⟨m, ?_, e⟩
        by_cases z : m = k + 1
        · rw [z] at e; exact absurd e g
        · omega
  have ex : ∀ k, ∃ m, m ≤ k ∧ f m = mn f k := by
    intro k
    induction k with
    | zero => exact ⟨0, Nat.le_refl 0, rfl⟩
    | succ k ih =>
      obtain ⟨m, hm, e⟩ := ih
      rw [mn]
      rcases Nat.lt_or_ge (f (k + 1)) (mn f k) with q | q
      · exact ⟨k + 1, Nat.le_refl _, by omega⟩
      · exact ⟨m, by omega, by omega⟩
  exact fun k => key _ k (ex k)
/-- the first span's length less one, with r pages behind its first -/
def se (B : Bk) (r : Nat) : Nat := lm (cs B r) (sE B (r + 1)) r
theorem se_le (B : Bk) (r : Nat) : se B r ≤ r := lm_le _ _ _
/-- first page and end of the span that is told at a page -/
def fe (B : Bk) : Nat → Nat × Nat
  | 0 => (0, 0)
  | p + 1 => if p = (fe B p).2 then (p, p + se B (bN B - (p + 1)) + 1) else fe B p
/-- behind page p: its span, its shift's place -/
abbrev fsp (B : Bk) (p : Nat) : Nat := (fe B (p + 1)).1
abbrev esp (B : Bk) (p : Nat) : Nat := (fe B (p + 1)).2
def ssp (B : Bk) (p : Nat) : Nat := bs B (fsp B p) (esp B p - fsp B p)
def wrg (B : Bk) (p : Nat) : Nat := if rd B p = 0 then 0 else if spl B p = ssp B p then 0 else 1
def wrs (B : Bk) : Nat → Nat
  | 0 => 0
  | p + 1 => wrs B p + wrg B p
theorem fe_ok {B : Bk} : ∀ p, p ≤ bN B → (fe B p).1 ≤ p ∧ p ≤ (fe B p).2 ∧ (fe B p).2 ≤ bN B ∧ (0 < p → (fe B p).1 < p)
  | 0, _ => ⟨Nat.le_refl 0, Nat.le_refl 0, Nat.zero_le _, fun h => absurd h (Nat.lt_irrefl 0)⟩
  | p + 1, h => by
    have ih := fe_ok (B := B) p (by omega)
    have hs := se_le B (bN B - (p + 1))
    unfold fe
    by_cases g : p = (fe B p).2
    · rw [if_pos g]
      refine ⟨?_, ?_, ?_, fun _ => ?_⟩
      · show p ≤ p + 1; omega
      · show p + 1 ≤ p + se B (bN B - (p + 1)) + 1; omega
      · show p + se B (bN B - (p + 1)) + 1 ≤ bN B; omega
      · show p < p + 1; omega
    · rw [if_neg g]
      have : (fe B p).1 ≤ p := ih.1
      exact ⟨by omega, by omega, ih.2.2.1, fun _ => by omega⟩
theorem fc_le {B : Bk} (hB : bok B) (r m : Nat) (hm : m < 60) : fc B r m ≤ 64 * 3050 + 1 := by
  have h8 := hB.hpr 8
  have h9 := hB.hpr 9
  have ha := al_le B (bN B - (r + 1)) (m + 1)
  have h1 : pr B 9 * 64 * (al B (bN B - (r + 1)) (m + 1) - mc B (bN B - (r + 1)) (m + 1)) ≤ 50 * 64 * 60 := Nat.mul_le_mul (Nat.mul_le_mul_right _ h9) (by omega)
  unfold fc; omega
theorem sE_le {B : Bk} (hB : bok B) : ∀ r, r ≤ 60 → sE B r ≤ 3300 * r
  | 0, _ => Nat.le_refl _
  | r + 1, h => by
    have ih := sE_le hB r (by omega)
    have h1 := mn_le (cs B r) r 0 (Nat.zero_le _)
    have h8 := hB.hpr 8
    have hz : al B (bN B - (r + 1)) 1 - mc B (bN B - (r + 1)) 1 = 0 := by
      unfold al mc
      by_cases g : rd B (bN B - (r + 1) + 0) = 0
      · rw [if_pos g, if_pos g]; unfold al mc; omega
      · have e : cn B (bN B - (r + 1)) (spl B (bN B - (r + 1) + 0)) (0 + 1) = 1 := by rw [cn, if_pos ⟨g, rfl⟩]; rfl
        rw [if_neg g, if_neg g, e]; unfold al mc; omega
    rw [sE_s]
    refine Nat.le_trans h1 ?_
    unfold cs fc
    rw [hz, Nat.mul_zero, Nat.sub_zero]
    omega
