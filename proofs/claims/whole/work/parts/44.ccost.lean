/-! heads that are right, costs, caps: of the class -/
theorem okB_iff {B : Bk} {l : Nat} {c : C3} {v : Nat} (hv1 : 1 ≤ v) (hv3 : v ≤ 3) : okB B l c v = true ↔ gt3 c (v - 1) ≠ 0 ∧ (np B l = 0 ∨ (np B l = v ∧ (∀ j, 1 ≤ j → j < v → nu B (3 * l + (j - 1)) = gt3 c j) ∧ gt3 c v < nu B (3 * l + (v - 1)))) := by
  rcases (show v = 1 ∨ v = 2 ∨ v = 3 by omega) with rfl | rfl | rfl
  · have e : (∀ j, 1 ≤ j → j < 1 → nu B (3 * l + (j - 1)) = gt3 c j) ↔ True := ⟨fun _ => trivial, fun _ j a b => by omega⟩
    rw [e]; simp [okB]
  · have e : (∀ j, 1 ≤ j → j < 2 → nu B (3 * l + (j - 1)) = gt3 c j) ↔ nu B (3 * l) = gt3 c 1 := ⟨fun h => h 1 (by omega) (by omega), fun h j a b => by rw [show j = 1 by omega]; exact h⟩
    rw [e]; simp [okB]
    intro _
    constructor
    · intro h; rcases h with h | h
      · exact Or.inl h
      · exact Or.inr ⟨h.1.1, h.1.2, h.2⟩
    · intro h; rcases h with h | h
      · exact Or.inl h
      · exact Or.inr ⟨⟨h.1, h.2.1⟩, h.2.2⟩
  · have e : (∀ j, 1 ≤ j → j < 3 → nu B (3 * l + (j - 1)) = gt3 c j) ↔ nu B (3 * l) = gt3 c 1 ∧ nu B (3 * l + 1) = gt3 c 2 := ⟨fun h => ⟨h 1 (by omega) (by omega), h 2 (by omega) (by omega)⟩, fun h j a b => by
      rcases (show j = 1 ∨ j = 2 by omega) with rfl | rfl
      · exact h.1
      · exact h.2⟩
    rw [e]; simp [okB]
    intro _
    constructor
    · intro h; rcases h with h | h
      · exact Or.inl h
      · exact Or.inr ⟨h.1.1.1, ⟨h.1.1.2, h.1.2⟩, h.2⟩
    · intro h; rcases h with h | h
      · exact Or.inl h
      · exact Or.inr ⟨⟨⟨h.1, h.2.1.1⟩, h.2.1.2⟩, h.2.2⟩
theorem s_X0_allowHead_39 {B : Bk} {σ : Sg} {τ : Tg} (hB : bok B) (hL : cLn B σ) {l v : Nat} (hl : l < bL B) (hv1 : 1 ≤ v) (hv3 : v ≤ 3) {c : C3} (hc : atc c σ) (bc : ∀ k, k ≤ 3 → gt3 c k < 2 ^ 31) {post : Int32 → Sg → Tg → Prop}
    (h1 : (∀ j, 1 ≤ j → j < v → nu B (3 * l + (j - 1)) = gt3 c j) ∧ gt3 c v < nu B (3 * l + (v - 1)) → post 1 σ τ) (h0 : ¬ ((∀ j, 1 ≤ j → j < v → nu B (3 * l + (j - 1)) = gt3 c j) ∧ gt3 c v < nu B (3 * l + (v - 1))) → post 0 σ τ) :
    ∀ (n k : Nat), 1 ≤ k → k ≤ v → v < k + n → (∀ j, 1 ≤ j → j < k → nu B (3 * l + (j - 1)) = gt3 c j) → wp_X0_allowHead_39 post n (nI l) (nI v) (nI k) σ τ := by
  intro n
  induction n with
  | zero => intro k a1 a2 a3; omega
  | succ n ih =>
    intro k a1 a2 a3 a4
    have nb := fun i => (hB.hwd i).2.2
    unfold wp_X0_allowHead_39
    rw [nI_leI (by omega) (by omega), nI_clamp (show v < 2 ^ 31 by omega), nI_clamp (show k < 2 ^ 31 by omega), show nI k + (1 : Int32) = nI (k + 1) from nI_1 k]
    refine ⟨fun h => s_X1_partAt hB hL hl hv1 hv3 ⟨vp_in_nI (by omega) (by decide), ?_⟩, fun h => s_X1_partAt hB hL hl a1 (by omega) ⟨vp_in_nI (by omega) (by decide), ?_⟩⟩
    · have hkv : k = v := by omega
      subst hkv
      have n1 := nb (3 * l + (k - 1))
      rw [hc k hv3, nI_leI (by omega) (bc k hv3)]
      exact ⟨fun h => h0 (fun z => by omega), fun h => h1 ⟨a4, by omega⟩⟩
    · have n1 := nb (3 * l + (k - 1))
      rw [hc k (by omega), nI_eq (by omega) (bc k (by omega))]
      refine ⟨fun h => ih (k + 1) (by omega) (by omega) (by omega) (fun j b1 b2 => ?_), fun h => h0 (fun z => h (z.1 k a1 (by omega)))⟩
      rcases Nat.lt_or_ge j k with q | q
      · exact a4 j b1 q
      · rw [show j = k by omega]; exact h
theorem s_X0_allowHead {B : Bk} {σ : Sg} {τ : Tg} (hB : bok B) (hL : cLn B σ) {l v : Nat} (hl : l < bL B) (hv1 : 1 ≤ v) (hv3 : v ≤ 3) {c : C3} (hc : atc c σ) (bc : ∀ k, k ≤ 3 → gt3 c k < 2 ^ 31) {post : Int32 → Sg → Tg → Prop}
    (hp : post (if okB B l c v = true then 1 else 0) σ τ) : wp_X0_allowHead (nI l) (nI v) σ τ post := by
  have h20 := hB.L
  have hs := hB.hsz l
  obtain ⟨-, -, -, -, -, -, h7⟩ := hL.2.1 l hl
  have e1 := okB_iff (B := B) (l := l) (c := c) hv1 hv3
  unfold wp_X0_allowHead
  rw [show nI v - (1 : Int32) = nI (v - 1) from pk_sub hv1, nI_clamp (show v - 1 < 2 ^ 31 by omega), nI_clamp (show l < 2 ^ 31 by omega), hc (v - 1) (by omega), h7, show (nI (gt3 c (v - 1)) = 0) = (gt3 c (v - 1) = 0) from propext (nI_eq (b := 0) (bc _ (by omega)) (by decide))]
  refine ⟨vp_in_nI (by omega) (by decide), fun h => ⟨vp_in_nI (by omega) (by decide), fun y hy => ?_⟩, fun h => ?_⟩
  · rw [hy, nI_eq (by omega) (by omega), show (nI (np B l) = 0) = (np B l = 0) from propext (nI_eq (b := 0) (by omega) (by decide))]
    refine ⟨fun h2 => ⟨fun h3 => ⟨4, s_X0_allowHead_39 hB hL hl hv1 hv3 hc bc (fun z => ?_) (fun z => ?_) 4 1 (by omega) hv1 (by omega) (fun j a b => by omega)⟩, fun h3 => ?_⟩, fun h2 => ?_⟩
    · rwa [if_pos (e1.mpr ⟨h, Or.inr ⟨h3, z⟩⟩)] at hp
    · rwa [if_neg (fun w => (e1.mp w).2.elim h2 (fun w => z w.2))] at hp
    · rwa [if_neg (fun w => (e1.mp w).2.elim h2 (fun w => h3 w.1))] at hp
    · rwa [if_pos (e1.mpr ⟨h, Or.inl h2⟩)] at hp
  · rwa [if_neg (fun w => (e1.mp w).1 h)] at hp
theorem abs_nI {a b : Nat} (ha : a < 2 ^ 30) (hb : b < 2 ^ 30) : (if 0 ≤ nI a - nI b then nI a - nI b else 0 - (nI a - nI b)) = nI (absd a b) := by
  unfold absd
  rcases Nat.lt_or_ge a b with q | q
  · have h1 := pk_sneg hb q
    have h2 : ¬ (0 : Int32) ≤ nI a - nI b := Int32.not_le.mpr h1
    rw [if_neg h2, Int32.zero_sub, Int32.neg_sub, pk_sub (by omega)]
    congr 1; omega
  · rw [pk_sub q, if_pos (nI_pos' (by omega))]
    congr 1; omega
/-- what the tree's search knows of the lines -/
def rnn (B : Bk) (σ : Sg) : Prop := ∀ l, l < bL B → σ 27 l = if run B l = true then 1 else 0
theorem s_X6_textCost {B : Bk} {σ : Sg} {τ : Tg} (hB : bok B) (hL : cLn B σ) (hS : cSe B σ) (hr : rnn B σ) {l : Nat} (hl : l < bL B) {post : Int32 → Sg → Tg → Prop} (hp : post (nI (tcost B l)) σ τ) : wp_X6_textCost (nI l) σ τ post := by
  have h20 := hB.L
  unfold wp_X6_textCost
  rw [nI_clamp (show l < 2 ^ 31 by omega), hr l hl]
  unfold tcost at hp
  refine ⟨vp_in_nI (by omega) (by decide), fun h => s_X1_look hB hL hl ?_, fun h => ?_⟩
  · have h2 : ¬ run B l = true := fun z => by rw [if_pos z] at h; exact absurd h (by decide)
    rw [cl0, hS.2.1 0 (by decide), pk_mul]
    rwa [if_neg h2] at hp
  · have h2 : run B l = true := by
      rcases Bool.eq_false_or_eq_true (run B l) with z | z
      · exact z
      · rw [z] at h; exact absurd rfl h
    rw [if_pos h2] at hp
    exact hp
theorem s_X6_headCost {B : Bk} {σ : Sg} {τ : Tg} (hB : bok B) (hL : cLn B σ) (hS : cSe B σ) {l v : Nat} (hl : l < bL B) (hv1 : 1 ≤ v) (hv3 : v ≤ 3) {c : C3} (hc : atc c σ) (bc : ∀ k, k ≤ 3 → gt3 c k + 1 < 2 ^ 31) {post : Int32 → Sg → Tg → Prop} (hp : post (nI (hcost B l c v)) σ τ) : wp_X6_headCost (nI l) (nI v) σ τ post := by
  have h20 := hB.L
  have hs := hB.hsz l
  have hlk := look_le hB l
  have hw := hB.hwa hv1
  have hv4 : vp_in (nI v) 4 := vp_in_nI (by omega) (by decide)
  obtain ⟨-, -, -, -, -, -, h7⟩ := hL.2.1 l hl
  unfold wp_X6_headCost
  refine s_X1_look hB hL hl ⟨hv4, fun y5 e5 y7 e7 => ?_⟩
  rw [nI_clamp (show v < 2 ^ 31 by omega), hS.2.2 v hv1 hv3, abs_nI (by omega) (by omega)] at e5
  rw [cl1, hS.2.1 1 (by decide), e5, pk_mul] at e7
  rw [e7, nI_clamp (show l < 2 ^ 31 by omega), nI_clamp (show v < 2 ^ 31 by omega), h7, show (nI (np B l) = 0) = (np B l = 0) from propext (nI_eq (b := 0) (by omega) (by decide))]
  unfold hcost at hp
  refine ⟨vp_in_nI (by omega) (by decide), fun h => s_X1_partAt hB hL hl hv1 hv3 ⟨hv4, ?_⟩, fun h => ?_⟩
  · have n1 := (hB.hwd (3 * l + (v - 1))).2.2
    rw [hc v hv3, show nI (gt3 c v) + (1 : Int32) = nI (gt3 c v + 1) from nI_1 _, nI_eq (by omega) (bc v hv3)]
    rw [if_neg h] at hp
    refine ⟨fun h2 => ⟨fun _ => ?_, fun z => absurd rfl z⟩, fun h2 => ⟨fun z => absurd z (by decide), fun _ => ?_⟩⟩
    · rw [cl2, hS.2.1 2 (by decide), nI_add]
      rwa [if_neg h2] at hp
    · rwa [if_pos h2] at hp
  · rw [cl3, hS.2.1 3 (by decide), nI_add]
    rwa [if_pos h] at hp
theorem s_X6_findCapsBehind_14 {B : Bk} {σ : Sg} {τ : Tg} (hB : bok B) (hL : cLn B σ) {k l : Nat} (hk1 : 1 ≤ k) (hk3 : k ≤ 3) {post : Sg → Tg → Prop} {k2 : Int32 → Int32 → Sg → Tg → Prop} (hl : l < bL B)
    (hp : ∀ σ' : Sg, σ' = va_up σ 30 (upd (σ 30) k (nI (mx B k (bL B - (l + 1)) + 1))) → k2 (nI l) (nI (k + 1)) σ' τ) :
    ∀ (n i g : Nat), i ≤ bL B → l < i → bL B < i + n → g ≤ 12 → max g (mx B k (bL B - i)) = mx B k (bL B - (l + 1)) → wp_X6_findCapsBehind_14 post k2 n (nI l) (nI k) (nI g) (nI i) σ τ := by
  have h20 := hB.L
  intro n
  induction n with
  | zero => intro i g a1 a2 a3; omega
  | succ n ih =>
    intro i g a1 a2 a3 a4 a5
    unfold wp_X6_findCapsBehind_14
    rw [hL.1, nI_leI (by omega) (by omega), nI_clamp (show k < 2 ^ 31 by omega)]
    refine ⟨fun h => ⟨vp_in_nI (by omega) (by decide), fun σ3 e3 => ?_⟩, fun h => s_X1_partAt hB hL (by omega) hk1 hk3 (fun y hy => ?_)⟩
    · rw [show nI k + (1 : Int32) = nI (k + 1) from nI_1 k]
      rw [show nI g + (1 : Int32) = nI (g + 1) from nI_1 g] at e3
      rw [show bL B - i = 0 by omega, mx] at a5
      exact hp σ3 (by rw [e3, ← a5]; simp)
    · have n1 := (hB.hwd (3 * i + (k - 1))).2.2
      have hy2 : y = nI (max g (nu B (3 * i + (k - 1)))) := by
        rcases Nat.lt_or_ge g (nu B (3 * i + (k - 1))) with q | q
        · rw [hy, if_pos (nI_lt q (by omega))]; congr 1; omega
        · rw [hy, if_neg (nI_nlt q (by omega))]; congr 1; omega
      rw [hy2, show nI i + (1 : Int32) = nI (i + 1) from nI_1 i]
      refine ih (i + 1) _ (by omega) (by omega) (by omega) (by omega) ?_
      rw [← a5, show bL B - i = (bL B - (i + 1)) + 1 by omega, mx, show bL B - (bL B - (i + 1) + 1) = i by omega]
      omega
theorem s_X6_findCapsBehind_2 {B : Bk} {τ : Tg} (hB : bok B) {l : Nat} {post : Sg → Tg → Prop} (hl : l < bL B) : ∀ (n k : Nat) (σ : Sg), cLn B σ → 1 ≤ k → k ≤ 4 → 4 < k + n →
    (∀ σ' : Sg, (∀ j, j ≠ 30 → σ' j = σ j) → (∀ j, k ≤ j → j ≤ 3 → σ' 30 j = nI (mx B j (bL B - (l + 1)) + 1)) → (∀ j, j < k → σ' 30 j = σ 30 j) → post σ' τ) → wp_X6_findCapsBehind_2 post n (nI l) (nI k) σ τ := by
  intro n
  induction n with
  | zero => intro k σ _ h1 h2 h3; omega
  | succ n ih =>
    intro k σ hL h1 h2 h3 hp
    unfold wp_X6_findCapsBehind_2
    rw [nlit 3, nI_ltI (by decide) (by omega)]
    refine ⟨fun h => hp σ (fun _ _ => rfl) (fun j a b => by omega) (fun _ _ => rfl), fun h y hy => ?_⟩
    rw [hy, show nI l + (1 : Int32) = nI (l + 1) from nI_1 l]
    refine ⟨bL B + 1, s_X6_findCapsBehind_14 hB hL h1 (by omega) hl (fun σ3 e3 => ?_) (bL B + 1) (l + 1) 0 (by omega) (by omega) (by omega) (by omega) (by omega)⟩
    refine ih (k + 1) σ3 (cLn_same (fun j hj => by rw [e3, sig_ne (by omega)]) hL) (by omega) (by omega) (by omega) (fun σ' g1 g2 g3 => hp σ' (fun j hj => ?_) (fun j a b => ?_) (fun j hj => ?_))
    · rw [g1 j hj, e3, sig_ne hj]
    · rcases Nat.lt_or_ge k j with q | q
      · exact g2 j q b
      · rw [g3 j (by omega), e3, sig_eq, show j = k by omega, pk_us]
    · rw [g3 j (by omega), e3, sig_eq, pk_un (by omega)]
theorem s_X6_findCapsBehind {B : Bk} {σ : Sg} {τ : Tg} (hB : bok B) (hL : cLn B σ) {l : Nat} {post : Sg → Tg → Prop} (hl : l < bL B)
    (hp : ∀ σ' : Sg, (∀ j, j ≠ 30 → σ' j = σ j) → (∀ j, 1 ≤ j → j ≤ 3 → σ' 30 j = nI (mx B j (bL B - (l + 1)) + 1)) → post σ' τ) : wp_X6_findCapsBehind (nI l) σ τ post :=
  ⟨4, s_X6_findCapsBehind_2 hB hl 4 1 σ hL (by omega) (by omega) (by omega) (fun σ' g1 g2 _ => hp σ' g1 g2)⟩
