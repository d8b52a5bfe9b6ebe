/-! the reference: its data, its small methods -/
theorem m_in {x : Int32} {a b : Nat} (ha : a < 2 ^ 31) (hb : b < 2 ^ 31) {post : Int32 → Prop} (h1 : ∀ p, a ≤ p → p ≤ b → x = nI p → post 1) (h0 : (∀ p, a ≤ p → p ≤ b → x ≠ nI p) → post 0) : wp_X8_in x (nI a) (nI b) post := s_in ha hb h1 h0
theorem m_in0 {x : Int32} {n : Nat} (hn : n < 2 ^ 31) {post : Int32 → Prop} (h1 : ∀ p, p < n → x = nI p → post 1) (h0 : (∀ p, p < n → x ≠ nI p) → post 0) : wp_X8_in x (0 : Int32) (nI n - (1 : Int32)) post := s_in0 hn h1 h0
def mdat (B : Bk) (μ : Sg) : Prop := mPg B μ ∧ mLn B μ ∧ mSe B μ ∧ mEn B μ
theorem mPg_same {B : Bk} {μ μ' : Sg} (h : ∀ k, k = 0 ∨ k = 9 → μ' k = μ k) (hd : mPg B μ) : mPg B μ' := by
  unfold mPg at hd ⊢
  rw [h 0 (by omega), h 9 (by omega)]; exact hd
theorem mLn_same {B : Bk} {μ μ' : Sg} (h : ∀ k, k = 1 ∨ (10 ≤ k ∧ k ≤ 16) → μ' k = μ k) (hd : mLn B μ) : mLn B μ' := by
  unfold mLn at hd ⊢
  rw [h 1 (by omega), h 10 (by omega), h 11 (by omega), h 12 (by omega), h 13 (by omega), h 14 (by omega), h 15 (by omega), h 16 (by omega)]; exact hd
theorem mSe_same {B : Bk} {μ μ' : Sg} (h : ∀ k, k = 17 ∨ k = 18 → μ' k = μ k) (hd : mSe B μ) : mSe B μ' := by
  unfold mSe at hd ⊢
  rw [h 17 (by omega), h 18 (by omega)]; exact hd
theorem mEn_same {B : Bk} {μ μ' : Sg} (h : ∀ k, k = 2 ∨ (19 ≤ k ∧ k ≤ 21) → μ' k = μ k) (hd : mEn B μ) : mEn B μ' := by
  unfold mEn at hd ⊢
  rw [h 2 (by omega), h 19 (by omega), h 20 (by omega), h 21 (by omega)]; exact hd
theorem mdat_same {B : Bk} {μ μ' : Sg} (h : ∀ k, k < 3 ∨ (9 ≤ k ∧ k ≤ 21) → μ' k = μ k) (hd : mdat B μ) : mdat B μ' :=
  ⟨mPg_same (fun k hk => h k (by omega)) hd.1, mLn_same (fun k hk => h k (by omega)) hd.2.1, mSe_same (fun k hk => h k (by omega)) hd.2.2.1, mEn_same (fun k hk => h k (by omega)) hd.2.2.2⟩
theorem m_isLine {B : Bk} {μ : Sg} (hB : bok B) (hL : mLn B μ) {x : Int32} {post : Int32 → Sg → Prop} (h1 : ∀ l, l < bL B → x = nI l → post 1 μ) (h0 : (∀ l, l < bL B → x ≠ nI l) → post 0 μ) : wp_X8_isLine x μ post := by
  have h20 := hB.L
  unfold wp_X8_isLine
  rw [hL.1]
  exact m_in0 (by omega) (fun p hp e => ⟨bz_1, h1 p hp e⟩) (fun g => ⟨bz_0, h0 g⟩)
theorem m_look {B : Bk} {μ : Sg} (hB : bok B) (hL : mLn B μ) {l : Nat} (hl : l < bL B) {post : Int32 → Sg → Prop} (hp : post (nI (look B l)) μ) : wp_X8_look (nI l) μ post := by
  have h20 := hB.L
  have hs := hB.hsz l
  obtain ⟨-, h2, h3, h4, -⟩ := hL.2.1 l hl
  have hv : vp_in (nI l) 20 := vp_in_nI (by omega) (by decide)
  unfold wp_X8_look
  rw [nI_clamp (by omega), h2, h3, h4]
  refine ⟨hv, hv, hv, fun h0 => ?_, fun h0 => ?_⟩
  · have h0 : ce B l = 0 := nI_inj (by omega) (by omega) h0
    rw [nlit 0, nI_add, nI_add]
    unfold look at hp; rw [h0] at hp; exact hp
  · have h0 : ce B l = 1 := by
      rcases Nat.lt_or_ge (ce B l) 1 with q | q
      · exact absurd (by rw [show ce B l = 0 by omega]; rfl) h0
      · omega
    rw [nlit 3, nI_add, nI_add]
    unfold look at hp; rw [h0] at hp; exact hp
theorem m_areLike {B : Bk} {μ : Sg} (hB : bok B) (hL : mLn B μ) {a b : Nat} (ha : a < bL B) (hb : b < bL B) {post : Int32 → Sg → Prop} (hp : post (if alikeB B a b = true then 1 else 0) μ) : wp_X8_areLike (nI a) (nI b) μ post := by
  have h20 := hB.L
  have loop : ∀ (f k : Nat), k ≤ 8 → 8 < k + f → (∀ j, j < k → wd B (8 * a + j) = wd B (8 * b + j)) → sz B a = sz B b → wp_X8_areLike_19 post f (nI a) (nI b) (nI k) μ := by
    intro f
    induction f with
    | zero => intro k a1 a2; omega
    | succ f ih =>
      intro k a1 a2 hd hs
      unfold wp_X8_areLike_19
      have e1 : (8 : Int32) * nI a + nI k = nI (8 * a + k) := by rw [nlit 8, pk_mul, nI_add]
      have e2 : (8 : Int32) * nI b + nI k = nI (8 * b + k) := by rw [nlit 8, pk_mul, nI_add]
      have w1 := (hB.hwd (8 * a + k)).1
      have w2 := (hB.hwd (8 * b + k)).1
      rw [e1, e2, nlit 8, nI_leI (by decide) (by omega), show nI k + (1 : Int32) = nI (k + 1) from nI_1 k]
      refine ⟨fun h => ?_, fun h => ?_⟩
      · rwa [if_pos (alikeB_iff.mpr ⟨hs, fun j hj => hd j (by omega)⟩)] at hp
      · rw [nI_clamp (by omega), nI_clamp (by omega), hL.2.2.1 _ (by omega), hL.2.2.1 _ (by omega), nI_eq (by omega) (by omega)]
        refine ⟨vp_in_nI (by omega) (by decide), vp_in_nI (by omega) (by decide), fun g => ih (k + 1) (by omega) (by omega) (fun j hj => ?_) hs, fun g => ?_⟩
        · rcases Nat.lt_or_ge j k with q | q
          · exact hd j q
          · rw [show j = k by omega]; exact g
        · rwa [if_neg (fun z => g ((alikeB_iff.mp z).2 k (by omega)))] at hp
  unfold wp_X8_areLike
  have s1 := (hB.hsz a).1
  have s2 := (hB.hsz b).1
  rw [nI_clamp (show a < 2 ^ 31 by omega), nI_clamp (show b < 2 ^ 31 by omega), (hL.2.1 a ha).2.1, (hL.2.1 b hb).2.1, nI_eq (by omega) (by omega)]
  refine ⟨vp_in_nI (by omega) (by decide), vp_in_nI (by omega) (by decide), fun g => ⟨9, loop 9 0 (by decide) (by decide) (fun j hj => by omega) g⟩, fun g => ?_⟩
  rwa [if_neg (fun z => g (alikeB_iff.mp z).1)] at hp
theorem alikeB_sym (B : Bk) (a b : Nat) : alikeB B a b = alikeB B b a := by
  rw [Bool.eq_iff_iff, alikeB_iff, alikeB_iff]
  exact ⟨fun h => ⟨h.1.symm, fun k hk => (h.2 k hk).symm⟩, fun h => ⟨h.1.symm, fun k hk => (h.2 k hk).symm⟩⟩
def orw (B : Bk) (l : Nat) : Nat → Nat
  | 0 => 0
  | k + 1 => orw B l k ||| wd B (8 * l + k)
theorem or0 {a b : Nat} : a ||| b = 0 ↔ a = 0 ∧ b = 0 := by
  constructor
  · intro h
    have h1 : a ≤ a ||| b := Nat.left_le_or
    have h2 : b ≤ a ||| b := Nat.right_le_or
    omega
  · intro h; rw [h.1, h.2]; rfl
theorem orw_lt {B : Bk} (hB : bok B) (l : Nat) : ∀ k, orw B l k < 2 ^ 5
  | 0 => by unfold orw; decide
  | k + 1 => by
    have h := (hB.hwd (8 * l + k)).1
    exact Nat.or_lt_two_pow (orw_lt hB l k) (by omega)
theorem orw_0 (B : Bk) (l : Nat) : ∀ k, orw B l k = 0 ↔ ∀ j, j < k → wd B (8 * l + j) = 0
  | 0 => ⟨fun _ j hj => by omega, fun _ => rfl⟩
  | k + 1 => by
    rw [orw, or0, orw_0 B l k]
    constructor
    · intro h j hj
      rcases Nat.lt_or_ge j k with q | q
      · exact h.1 j q
      · rw [show j = k by omega]; exact h.2
    · intro h
      exact ⟨fun j hj => h j (by omega), h k (by omega)⟩
theorem m_isRunning {B : Bk} {μ : Sg} (hB : bok B) (hL : mLn B μ) (hS : mSe B μ) {l : Nat} (hl : l < bL B) {post : Int32 → Sg → Prop} (hp : post (if run B l = true then 1 else 0) μ) : wp_X8_isRunning (nI l) μ post := by
  have h20 := hB.L
  have hN := hB.N
  have hm := hB.hmany
  have l2 : ∀ (n i : Nat), i ≤ bL B → bL B < i + n → post (if wa B 0 ≤ (rf B l (bL B)).1 then 1 else 0) μ → wp_X8_isRunning_44 post n (nI l) (nI (rf B l i).1) (lat (rf B l i).2) (nI i) μ := by
    intro n
    induction n with
    | zero => intro i h1 h2; omega
    | succ n ih =>
      intro i h1 h2 hp
      unfold wp_X8_isRunning_44
      have hr := rf_le B l i
      have hr2 := rf_page hB l i h1
      rw [hL.1, nI_leI (by omega) (by omega), cl0, hS.2 0 (by decide), nI_ltI (by omega) (by omega), show nI i + (1 : Int32) = nI (i + 1) from nI_1 i, show nI (rf B l i).1 + (1 : Int32) = nI ((rf B l i).1 + 1) from nI_1 _]
      refine ⟨fun h => ⟨fun h3 => ?_, fun h3 => ?_⟩, fun h => ?_⟩
      · rw [show i = bL B by omega] at h3
        rwa [if_neg (by omega)] at hp
      · rw [show i = bL B by omega] at h3
        rwa [if_pos (by omega)] at hp
      · have hi : i < bL B := by omega
        have hv : vp_in (nI i) 20 := vp_in_nI (by omega) (by decide)
        have hpg := hB.hpg hi
        refine m_areLike hB hL hi hl ?_
        rw [alikeB_sym, nI_clamp (show i < 2 ^ 31 by omega), (hL.2.1 i hi).1, lat_eq (by omega) (by omega)]
        have ih1 := ih (i + 1) hi (by omega) hp
        rw [rf] at ih1
        refine ⟨fun h3 => ?_, fun h3 => ⟨hv, fun h4 => ⟨hv, fun y hy => ?_⟩, fun h4 => ?_⟩⟩
        · have h5 : ¬ alikeB B l i = true := fun z => by rw [if_pos z] at h3; exact absurd h3 (by decide)
          rwa [if_neg (fun z => h5 z.1)] at ih1
        · have h5 : alikeB B l i = true := by
            rcases Bool.eq_false_or_eq_true (alikeB B l i) with z | z
            · exact z
            · rw [z] at h3; exact absurd rfl h3
          rw [if_pos ⟨h5, h4⟩] at ih1
          have e3 : lat (pg B i + 1) = nI (pg B i) := by unfold lat; rw [if_neg (by omega)]; rfl
          rw [show ((rf B l i).1 + 1, pg B i + 1).2 = pg B i + 1 from rfl, e3] at ih1
          rw [hy]
          exact ih1
        · rwa [if_neg (fun z => z.2 h4)] at ih1
  have l1 : ∀ (f k : Nat), k ≤ 8 → 8 < k + f → wp_X8_isRunning_4 post f (nI l) (nI (orw B l k)) (nI k) μ := by
    intro f
    induction f with
    | zero => intro k a1 a2; omega
    | succ f ih =>
      intro k a1 a2
      have ho := orw_lt hB l k
      unfold wp_X8_isRunning_4
      have e1 : (8 : Int32) * nI l + nI k = nI (8 * l + k) := by rw [nlit 8, pk_mul, nI_add]
      rw [e1, nlit 8, nI_leI (by decide) (by omega), show nI k + (1 : Int32) = nI (k + 1) from nI_1 k, nI_eq0 (by omega)]
      refine ⟨fun h => ?_, fun h => ⟨vp_in_nI (by omega) (by decide), fun y ey => ?_⟩⟩
      · have hk : k = 8 := by omega
        subst hk
        refine ⟨fun g => ⟨bL B + 1, l2 (bL B + 1) 0 (Nat.zero_le _) (by omega) ?_⟩, fun g => ?_⟩
        · have hb : blankB B l = false := by
            rcases Bool.eq_false_or_eq_true (blankB B l) with z | z
            · exact absurd ((orw_0 B l 8).mpr (blankB_iff.mp z)) g
            · exact z
          simpa [run, hb] using hp
        · have hb : blankB B l = true := blankB_iff.mpr ((orw_0 B l 8).mp g)
          simpa [run, hb] using hp
      · rw [nI_clamp (by omega), hL.2.2.1 _ (by omega), fa_or] at ey
        rw [ey]
        exact ih (k + 1) (by omega) (by omega)
  unfold wp_X8_isRunning
  exact ⟨9, l1 9 0 (by decide) (by decide)⟩
