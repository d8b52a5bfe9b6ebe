/-! the book: what both sides hold, in plain numbers -/
theorem nlit (n : Nat) : (OfNat.ofNat n : Int32) = nI n := rfl
theorem nI_inj {a b : Nat} (ha : a < 2 ^ 31) (hb : b < 2 ^ 31) (h : nI a = nI b) : a = b := (nI_eq ha hb).mp h
theorem sig_ne {α : Type} {f : Nat → α} {k j : Nat} {v : α} (h : j ≠ k) : va_up f k v j = f j := va_up_ne f v h
theorem sig_eq {α : Type} (f : Nat → α) (k : Nat) (v : α) : va_up f k v k = v := va_up_self f k v
abbrev Bk : Type := Nat → Nat → Nat
abbrev bN (B : Bk) : Nat := B 0 0
abbrev bL (B : Bk) : Nat := B 1 0
abbrev bE (B : Bk) : Nat := B 2 0
abbrev rd (B : Bk) (p : Nat) : Nat := B 3 p
abbrev pg (B : Bk) (l : Nat) : Nat := B 4 l
abbrev sz (B : Bk) (l : Nat) : Nat := B 5 l
abbrev bl (B : Bk) (l : Nat) : Nat := B 6 l
abbrev ce (B : Bk) (l : Nat) : Nat := B 7 l
abbrev wd (B : Bk) (i : Nat) : Nat := B 8 i
abbrev np (B : Bk) (l : Nat) : Nat := B 9 l
abbrev nu (B : Bk) (i : Nat) : Nat := B 10 i
abbrev pr (B : Bk) (k : Nat) : Nat := B 11 k
abbrev wa (B : Bk) (k : Nat) : Nat := B 12 k
abbrev el (B : Bk) (e : Nat) : Nat := B 13 e
abbrev en (B : Bk) (e : Nat) : Nat := B 14 e
abbrev ew (B : Bk) (i : Nat) : Nat := B 15 i
def bok (B : Bk) : Prop :=
  (1 ≤ bN B ∧ bN B ≤ 60 ∧ bL B ≤ 20 ∧ bE B ≤ 12) ∧ (∀ p, rd B p ≤ 999) ∧ (∀ l, l < bL B → pg B l < bN B) ∧ (∀ l, l + 1 < bL B → pg B l ≤ pg B (l + 1)) ∧
  (∀ l, sz B l ≤ 9 ∧ bl B l ≤ 9 ∧ ce B l ≤ 1 ∧ np B l ≤ 3) ∧ (∀ i, wd B i ≤ 26 ∧ ew B i ≤ 26 ∧ nu B i ≤ 12) ∧
  (∀ l k, l < bL B → k < 3 → (1 ≤ nu B (3 * l + k) ↔ k < np B l)) ∧ (∀ k, pr B k ≤ 50) ∧ (∀ k, 1 ≤ k → wa B k ≤ 21) ∧ (2 ≤ wa B 0 ∧ wa B 0 ≤ 60) ∧
  (∀ e, e < bE B → 1 ≤ el B e ∧ el B e ≤ 3) ∧ (∀ e, en B e ≤ 999)
theorem bok.N {B : Bk} (h : bok B) : 1 ≤ bN B ∧ bN B ≤ 60 := ⟨h.1.1, h.1.2.1⟩
theorem bok.L {B : Bk} (h : bok B) : bL B ≤ 20 := h.1.2.2.1
theorem bok.E {B : Bk} (h : bok B) : bE B ≤ 12 := h.1.2.2.2
theorem bok.hrd {B : Bk} (h : bok B) (p : Nat) : rd B p ≤ 999 := h.2.1 p
theorem bok.hpg {B : Bk} (h : bok B) {l : Nat} (hl : l < bL B) : pg B l < bN B := h.2.2.1 l hl
theorem bok.hup {B : Bk} (h : bok B) {l : Nat} (hl : l + 1 < bL B) : pg B l ≤ pg B (l + 1) := h.2.2.2.1 l hl
theorem bok.hsz {B : Bk} (h : bok B) (l : Nat) : sz B l ≤ 9 ∧ bl B l ≤ 9 ∧ ce B l ≤ 1 ∧ np B l ≤ 3 := h.2.2.2.2.1 l
theorem bok.hwd {B : Bk} (h : bok B) (i : Nat) : wd B i ≤ 26 ∧ ew B i ≤ 26 ∧ nu B i ≤ 12 := h.2.2.2.2.2.1 i
theorem bok.hnu {B : Bk} (h : bok B) {l k : Nat} (hl : l < bL B) (hk : k < 3) : 1 ≤ nu B (3 * l + k) ↔ k < np B l := h.2.2.2.2.2.2.1 l k hl hk
theorem bok.hpr {B : Bk} (h : bok B) (k : Nat) : pr B k ≤ 50 := h.2.2.2.2.2.2.2.1 k
theorem bok.hwa {B : Bk} (h : bok B) {k : Nat} (hk : 1 ≤ k) : wa B k ≤ 21 := h.2.2.2.2.2.2.2.2.1 k hk
theorem bok.hmany {B : Bk} (h : bok B) : 2 ≤ wa B 0 ∧ wa B 0 ≤ 60 := h.2.2.2.2.2.2.2.2.2.1
theorem bok.hel {B : Bk} (h : bok B) {e : Nat} (he : e < bE B) : 1 ≤ el B e ∧ el B e ≤ 3 := h.2.2.2.2.2.2.2.2.2.2.1 e he
theorem bok.hen {B : Bk} (h : bok B) (e : Nat) : en B e ≤ 999 := h.2.2.2.2.2.2.2.2.2.2.2 e
/-- four places of words in one number -/
def w4 (f : Nat → Nat) (i : Nat) : Nat := f i * 16777216 + f (i + 1) * 65536 + f (i + 2) * 256 + f (i + 3)
def look (B : Bk) (l : Nat) : Nat := sz B l + bl B l + 3 * ce B l
theorem look_le {B : Bk} (h : bok B) (l : Nat) : look B l ≤ 21 := by
  have := h.hsz l
  unfold look; omega
/-! the class's side -/
def cPg (B : Bk) (σ : Sg) : Prop := σ 4 0 = nI (bN B) ∧ ∀ p, p < 60 → σ 18 p = nI (rd B p)
def cLn (B : Bk) (σ : Sg) : Prop := σ 5 0 = nI (bL B) ∧ (∀ l, l < bL B → σ 19 l = nI (pg B l) ∧ σ 20 l = nI (sz B l) ∧ σ 21 l = nI (bl B l) ∧ σ 22 l = nI (ce B l) ∧ σ 23 l = nI (w4 (wd B) (8 * l)) ∧ σ 24 l = nI (w4 (wd B) (8 * l + 4)) ∧ σ 25 l = nI (np B l)) ∧ ∀ i, i < 3 * bL B → σ 26 i = nI (nu B i)
def cSe (B : Bk) (σ : Sg) : Prop := σ 3 0 = nI (wa B 0) ∧ (∀ k, k < 10 → σ 16 k = nI (pr B k)) ∧ ∀ k, 1 ≤ k → k ≤ 3 → σ 17 k = nI (wa B k)
def cEn (B : Bk) (σ : Sg) : Prop := σ 10 0 = nI (bE B) ∧ ∀ e, e < bE B → σ 34 e = nI (el B e) ∧ σ 35 e = nI (en B e) ∧ σ 36 e = nI (w4 (ew B) (8 * e)) ∧ σ 37 e = nI (w4 (ew B) (8 * e + 4))
/-! the reference's side -/
def mPg (B : Bk) (μ : Sg) : Prop := μ 0 0 = nI (bN B) ∧ ∀ p, p < 60 → μ 9 p = nI (rd B p)
def mLn (B : Bk) (μ : Sg) : Prop := μ 1 0 = nI (bL B) ∧ (∀ l, l < bL B → μ 10 l = nI (pg B l) ∧ μ 11 l = nI (sz B l) ∧ μ 12 l = nI (bl B l) ∧ μ 13 l = nI (ce B l) ∧ μ 15 l = nI (np B l)) ∧ (∀ i, i < 8 * bL B → μ 14 i = nI (wd B i)) ∧ ∀ l k, l < bL B → k < np B l → μ 16 (3 * l + k) = nI (nu B (3 * l + k))
def mSe (B : Bk) (μ : Sg) : Prop := (∀ k, k < 10 → μ 17 k = nI (pr B k)) ∧ ∀ k, k ≤ 3 → μ 18 k = nI (wa B k)
def mEn (B : Bk) (μ : Sg) : Prop := μ 2 0 = nI (bE B) ∧ (∀ e, e < bE B → μ 19 e = nI (el B e) ∧ μ 20 e = nI (en B e)) ∧ ∀ i, i < 8 * bE B → μ 21 i = nI (ew B i)
/-! running lines -/
def alike (B : Bk) (a b : Nat) : Prop := sz B a = sz B b ∧ ∀ k, k < 8 → wd B (8 * a + k) = wd B (8 * b + k)
def alikeB (B : Bk) (a b : Nat) : Bool := sz B a == sz B b && (List.range 8).all (fun k => wd B (8 * a + k) == wd B (8 * b + k))
theorem alikeB_iff {B : Bk} {a b : Nat} : alikeB B a b = true ↔ alike B a b := by
  simp [alikeB, alike]
def rf (B : Bk) (l : Nat) : Nat → Nat × Nat
  | 0 => (0, 0)
  | k + 1 => if alikeB B l k = true ∧ (rf B l k).2 ≠ pg B k + 1 then ((rf B l k).1 + 1, pg B k + 1) else rf B l k
def blankB (B : Bk) (l : Nat) : Bool := (List.range 8).all (fun k => wd B (8 * l + k) == 0)
theorem blankB_iff {B : Bk} {l : Nat} : blankB B l = true ↔ ∀ k, k < 8 → wd B (8 * l + k) = 0 := by
  simp [blankB]
def run (B : Bk) (l : Nat) : Bool := !blankB B l && decide (wa B 0 ≤ (rf B l (bL B)).1)
theorem rf_le (B : Bk) (l : Nat) : ∀ k, (rf B l k).1 ≤ k
  | 0 => Nat.le_refl 0
  | k + 1 => by
    have := rf_le B l k
    unfold rf
    split
    · show (rf B l k).1 + 1 ≤ k + 1
      omega
    · omega
/-- the page that was seen last: -1, or a page -/
def lat (t : Nat) : Int32 := if t = 0 then -1 else nI (t - 1)
theorem lat_eq {p t : Nat} (hp : p < 2 ^ 31) (ht : t < 2 ^ 31) : nI p = lat t ↔ t = p + 1 := by
  unfold lat
  by_cases h : t = 0
  · rw [if_pos h]
    constructor
    · intro e
      have h1 := nI_pos' hp
      rw [e] at h1
      exact absurd h1 (by decide)
    · intro e; omega
  · rw [if_neg h, nI_eq hp (by omega)]
    omega
theorem rf_page {B : Bk} (hB : bok B) (l : Nat) : ∀ k, k ≤ bL B → (rf B l k).2 ≤ 60
  | 0, _ => by unfold rf; decide
  | k + 1, h => by
    have ih := rf_page hB l k (by omega)
    have h1 := hB.hpg (l := k) (by omega)
    have h2 := hB.N
    unfold rf
    split
    · show pg B k + 1 ≤ 60
      omega
    · exact ih
theorem w4_inj {f : Nat → Nat} (hf : ∀ i, f i ≤ 26) (i j : Nat) : w4 f i = w4 f j ↔ ∀ k, k < 4 → f (i + k) = f (j + k) := by
  have a0 := hf i; have a1 := hf (i + 1); have a2 := hf (i + 2); have a3 := hf (i + 3)
  have b0 := hf j; have b1 := hf (j + 1); have b2 := hf (j + 2); have b3 := hf (j + 3)
  unfold w4
  constructor
  · intro h k hk
    rcases (show k = 0 ∨ k = 1 ∨ k = 2 ∨ k = 3 by omega) with rfl | rfl | rfl | rfl
    · simp only [Nat.add_zero]; omega
    · omega
    · omega
    · omega
  · intro h
    have h0 := h 0 (by omega); have h1 := h 1 (by omega); have h2 := h 2 (by omega); have h3 := h 3 (by omega)
    simp only [Nat.add_zero] at h0
    rw [h0, h1, h2, h3]
theorem w4_lt {f : Nat → Nat} (hf : ∀ i, f i ≤ 26) (i : Nat) : w4 f i < 2 ^ 31 := by
  have a0 := hf i; have a1 := hf (i + 1); have a2 := hf (i + 2); have a3 := hf (i + 3)
  unfold w4; omega
theorem w4_zero {f : Nat → Nat} (i : Nat) : w4 f i = 0 ↔ ∀ k, k < 4 → f (i + k) = 0 := by
  unfold w4
  constructor
  · intro h k hk
    rcases (show k = 0 ∨ k = 1 ∨ k = 2 ∨ k = 3 by omega) with rfl | rfl | rfl | rfl
    · simp only [Nat.add_zero]; omega
    · omega
    · omega
    · omega
  · intro h
    have h0 := h 0 (by omega); have h1 := h 1 (by omega); have h2 := h 2 (by omega); have h3 := h 3 (by omega)
    simp only [Nat.add_zero] at h0
    rw [h0, h1, h2, h3]
theorem alike_w4 {B : Bk} (hB : bok B) (a b : Nat) : alike B a b ↔ sz B a = sz B b ∧ w4 (wd B) (8 * a) = w4 (wd B) (8 * b) ∧ w4 (wd B) (8 * a + 4) = w4 (wd B) (8 * b + 4) := by
  rw [w4_inj (fun i => (hB.hwd i).1), w4_inj (fun i => (hB.hwd i).1)]
  unfold alike
  constructor
  · intro ⟨h1, h2⟩
    exact ⟨h1, fun k hk => h2 k (by omega), fun k hk => by have := h2 (4 + k) (by omega); rwa [← Nat.add_assoc, ← Nat.add_assoc] at this⟩
  · intro ⟨h1, h2, h3⟩
    refine ⟨h1, fun k hk => ?_⟩
    rcases Nat.lt_or_ge k 4 with q | q
    · exact h2 k q
    · have := h3 (k - 4) (by omega)
      rwa [show 8 * a + 4 + (k - 4) = 8 * a + k by omega, show 8 * b + 4 + (k - 4) = 8 * b + k by omega] at this
theorem blank_w4 {B : Bk} (l : Nat) : blankB B l = true ↔ w4 (wd B) (8 * l) = 0 ∧ w4 (wd B) (8 * l + 4) = 0 := by
  rw [blankB_iff, w4_zero, w4_zero]
  constructor
  · intro h
    exact ⟨fun k hk => h k (by omega), fun k hk => by rw [Nat.add_assoc]; exact h (4 + k) (by omega)⟩
  · intro ⟨h2, h3⟩ k hk
    rcases Nat.lt_or_ge k 4 with q | q
    · exact h2 k q
    · have := h3 (k - 4) (by omega)
      rwa [show 8 * l + 4 + (k - 4) = 8 * l + k by omega] at this
