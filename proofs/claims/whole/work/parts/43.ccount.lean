/-! Counters of the class -/
def atc (c : C3) (σ : Sg) : Prop := ∀ k, k ≤ 3 → σ 33 k = nI (gt3 c k)
def up3 (s : Nat) : C3 := (s / 196, s / 14 % 14, s % 14)
def pk3 (c : C3) : Nat := (c.1 * 14 + c.2.1) * 14 + c.2.2
theorem up3_pk3 {c : C3} (h2 : c.2.1 < 14) (h3 : c.2.2 < 14) : up3 (pk3 c) = c := by
  obtain ⟨a, b, d⟩ := c
  have h2 : b < 14 := h2
  have h3 : d < 14 := h3
  unfold up3 pk3
  have e1 : ((a * 14 + b) * 14 + d) / 196 = a := by omega
  have e2 : ((a * 14 + b) * 14 + d) / 14 % 14 = b := by omega
  have e3 : ((a * 14 + b) * 14 + d) % 14 = d := by omega
  show (_, _, _) = _
  rw [e1, e2, e3]
theorem gt3_0 (c : C3) : gt3 c 0 = 1 := rfl
theorem gt3_1 (c : C3) : gt3 c 1 = c.1 := rfl
theorem gt3_2 (c : C3) : gt3 c 2 = c.2.1 := rfl
theorem gt3_3 (c : C3) : gt3 c 3 = c.2.2 := rfl
theorem cLn_same {B : Bk} {σ σ' : Sg} (h : ∀ k, k = 5 ∨ (19 ≤ k ∧ k ≤ 26) → σ' k = σ k) (hL : cLn B σ) : cLn B σ' := by
  unfold cLn at hL ⊢
  rw [h 5 (by omega), h 19 (by omega), h 20 (by omega), h 21 (by omega), h 22 (by omega), h 23 (by omega), h 24 (by omega), h 25 (by omega), h 26 (by omega)]
  exact hL
theorem cSe_same {B : Bk} {σ σ' : Sg} (h : ∀ k, k = 3 ∨ k = 16 ∨ k = 17 → σ' k = σ k) (hL : cSe B σ) : cSe B σ' := by
  unfold cSe at hL ⊢
  rw [h 3 (by omega), h 16 (by omega), h 17 (by omega)]
  exact hL
theorem cPg_same {B : Bk} {σ σ' : Sg} (h : ∀ k, k = 4 ∨ k = 18 → σ' k = σ k) (hL : cPg B σ) : cPg B σ' := by
  unfold cPg at hL ⊢
  rw [h 4 (by omega), h 18 (by omega)]
  exact hL
theorem cEn_same {B : Bk} {σ σ' : Sg} (h : ∀ k, k = 10 ∨ (34 ≤ k ∧ k ≤ 37) → σ' k = σ k) (hL : cEn B σ) : cEn B σ' := by
  unfold cEn at hL ⊢
  rw [h 10 (by omega), h 34 (by omega), h 35 (by omega), h 36 (by omega), h 37 (by omega)]
  exact hL
theorem cl1 : (1 : Int32).toNatClampNeg = 1 := by decide
theorem cl2 : (2 : Int32).toNatClampNeg = 2 := by decide
theorem cl3 : (3 : Int32).toNatClampNeg = 3 := by decide
theorem cl0 : (0 : Int32).toNatClampNeg = 0 := by decide
theorem s_X0_unpack {σ : Sg} {τ : Tg} {s : Nat} (hs : s < 2744) (h0 : σ 33 0 = 1) {post : Sg → Tg → Prop} (hp : ∀ σ' : Sg, (∀ k, k ≠ 33 → σ' k = σ k) → atc (up3 s) σ' → post σ' τ) : wp_X0_unpack (nI s) σ τ post := by
  unfold wp_X0_unpack
  intro σ2 e2 σ4 e4 σ6 e6
  have v1 : nI s / (196 : Int32) = nI (s / 196) := pk_div (by omega) (by decide) (by decide)
  have v2 : nI s / (14 : Int32) = nI (s / 14) := pk_div (by omega) (by decide) (by decide)
  have v3 : nI (s / 14) - nI (s / 14) / (14 : Int32) * (14 : Int32) = nI (s / 14 % 14) := pk_rem (by omega) (by decide) (by decide)
  have v4 : nI s - nI s / (14 : Int32) * (14 : Int32) = nI (s % 14) := pk_rem (by omega) (by decide) (by decide)
  rw [v4] at e6
  rw [v2, v3] at e4
  rw [v1] at e2
  rw [cl1] at e2
  rw [cl2] at e4
  rw [cl3] at e6
  refine hp σ6 (fun k hk => ?_) (fun k hk => ?_)
  · rw [e6, sig_ne hk, e4, sig_ne hk, e2, sig_ne hk]
  · rw [e6, sig_eq, e4, sig_eq, e2, sig_eq]
    rcases (show k = 0 ∨ k = 1 ∨ k = 2 ∨ k = 3 by omega) with rfl | rfl | rfl | rfl
    · rw [pk_un (by decide), pk_un (by decide), pk_un (by decide), h0]; rfl
    · rw [pk_un (by decide), pk_un (by decide), pk_us]; rfl
    · rw [pk_un (by decide), pk_us]; rfl
    · rw [pk_us]; rfl
theorem s_X0_pack_4 {σ : Sg} {τ : Tg} {c cp : C3} (hc : atc c σ) (hcp : ∀ k, 1 ≤ k → k ≤ 3 → σ 30 k = nI (gt3 cp k)) (bc : ∀ k, gt3 c k < 2 ^ 31) (bp : ∀ k, 1 ≤ k → k ≤ 3 → gt3 cp k ≤ 13) {post : Int32 → Sg → Tg → Prop} {a : Nat} (ha : a ≤ 2743) {k : Nat} (hk : 1 ≤ k) (hk3 : k ≤ 3) (n : Nat)
    (hn : wp_X0_pack_caps_4 post n (nI (a * 14 + min (gt3 c k) (gt3 cp k))) (nI (k + 1)) σ τ) : wp_X0_pack_caps_4 post (n + 1) (nI a) (nI k) σ τ := by
  have hv : vp_in (nI k) 4 := vp_in_nI (by omega) (by decide)
  have b1 := bp k hk hk3
  unfold wp_X0_pack_caps_4
  rw [nI_clamp (by omega), hc k hk3, hcp k hk hk3, nI_leI (by omega) (bc k), nlit 3, nI_ltI (by decide) (by omega)]
  refine ⟨fun h => by omega, fun _ => ⟨hv, hv, fun h => ⟨hv, fun y hy => ?_⟩, fun h => ⟨hv, fun y hy => ?_⟩⟩⟩
  · rw [hy, nlit 14, pk_mul, nI_add, show nI k + (1 : Int32) = nI (k + 1) from nI_1 k]
    rwa [show min (gt3 c k) (gt3 cp k) = gt3 cp k by omega] at hn
  · rw [hy, nlit 14, pk_mul, nI_add, show nI k + (1 : Int32) = nI (k + 1) from nI_1 k]
    rwa [show min (gt3 c k) (gt3 cp k) = gt3 c k by omega] at hn
theorem s_X0_pack {σ : Sg} {τ : Tg} {c cp : C3} (hc : atc c σ) (hcp : ∀ k, 1 ≤ k → k ≤ 3 → σ 30 k = nI (gt3 cp k)) (bc : ∀ k, gt3 c k < 2 ^ 31) (bp : ∀ k, 1 ≤ k → k ≤ 3 → gt3 cp k ≤ 13) {post : Int32 → Sg → Tg → Prop}
    (hp : post (nI (pk3 (min c.1 cp.1, min c.2.1 cp.2.1, min c.2.2 cp.2.2))) σ τ) : wp_X0_pack_caps σ τ post := by
  have b1 := bp 1 (by decide) (by decide)
  have b2 := bp 2 (by decide) (by decide)
  have b3 := bp 3 (by decide) (by decide)
  rw [gt3_1] at b1
  rw [gt3_2] at b2
  rw [gt3_3] at b3
  refine ⟨4, ?_⟩
  refine s_X0_pack_4 hc hcp bc bp (a := 0) (by omega) (k := 1) (by decide) (by decide) 3 ?_
  refine s_X0_pack_4 hc hcp bc bp (by rw [gt3_1, gt3_1]; omega) (k := 2) (by decide) (by decide) 2 ?_
  refine s_X0_pack_4 hc hcp bc bp (by rw [gt3_1, gt3_1, gt3_2, gt3_2]; omega) (k := 3) (by decide) (by decide) 1 ?_
  unfold wp_X0_pack_caps_4
  refine ⟨fun _ => ?_, fun h => absurd (by decide) h⟩
  rw [gt3_1, gt3_1, gt3_2, gt3_2, gt3_3, gt3_3]
  unfold pk3 at hp
  simpa using hp
theorem s_X0_passHead_42 {σ : Sg} {τ : Tg} {post : Sg → Tg → Prop} : ∀ (n k : Nat) (σ : Sg), 1 ≤ k → k ≤ 4 → 4 < k + n → (∀ σ' : Sg, (∀ j, j ≠ 33 → σ' j = σ j) → (∀ j, j < k → σ' 33 j = σ 33 j) → (∀ j, k ≤ j → j ≤ 3 → σ' 33 j = 0) → post σ' τ) → wp_X0_passHead_42 post n (nI k) σ τ := by
  intro n
  induction n with
  | zero => intro k σ h1 h2 h3; omega
  | succ n ih =>
    intro k σ h1 h2 h3 hp
    unfold wp_X0_passHead_42
    rw [nlit 3, nI_ltI (by decide) (by omega), nI_clamp (by omega)]
    refine ⟨fun h => hp σ (fun _ _ => rfl) (fun _ _ => rfl) (fun j a b => by omega), fun h => ⟨vp_in_nI (by omega) (by decide), fun σ3 e3 => ?_⟩⟩
    rw [show nI k + (1 : Int32) = nI (k + 1) from nI_1 k]
    refine ih (k + 1) σ3 (by omega) (by omega) (by omega) (fun σ' g1 g2 g3 => hp σ' (fun j hj => ?_) (fun j hj => ?_) (fun j a b => ?_))
    · rw [g1 j hj, e3, sig_ne hj]
    · rw [g2 j (by omega), e3, sig_eq, pk_un (by omega)]
    · rcases Nat.lt_or_ge k j with q | q
      · exact g3 j q b
      · rw [g2 j (by omega), e3, sig_eq, show j = k by omega, pk_us]
theorem s_X0_passHead {B : Bk} {σ : Sg} {τ : Tg} (hB : bok B) (hL : cLn B σ) {l v : Nat} (hl : l < bL B) (hv1 : 1 ≤ v) (hv3 : v ≤ 3) {c : C3} (hc : atc c σ) {post : Sg → Tg → Prop}
    (hp : ∀ σ' : Sg, (∀ k, k ≠ 33 → σ' k = σ k) → atc (nxt B l c v) σ' → post σ' τ) : wp_X0_passHead (nI l) (nI v) σ τ post := by
  have h20 := hB.L
  have hl20 : vp_in (nI l) 20 := vp_in_nI (by omega) (by decide)
  have hv4 : vp_in (nI v) 4 := vp_in_nI (by omega) (by decide)
  have hs := hB.hsz l
  obtain ⟨-, -, -, -, -, -, h7⟩ := hL.2.1 l hl
  unfold wp_X0_passHead
  rw [nI_clamp (show l < 2 ^ 31 by omega), nI_clamp (show v < 2 ^ 31 by omega), h7, show (nI (np B l) = 0) = (np B l = 0) from propext (nI_eq (b := 0) (by omega) (by decide)), show nI v + (1 : Int32) = nI (v + 1) from nI_1 v]
  have fin : ∀ (σ3 σ' : Sg), (∀ k, k ≠ 33 → σ3 k = σ k) → (∀ j, j < v → σ3 33 j = σ 33 j) → σ3 33 v = nI (nx B l c v) → (∀ j, j ≠ 33 → σ' j = σ3 j) → (∀ j, j < v + 1 → σ' 33 j = σ3 33 j) → (∀ j, v + 1 ≤ j → j ≤ 3 → σ' 33 j = 0) → post σ' τ := fun σ3 σ' a1 a2 a3 b1 b2 b3 => by
    refine hp σ' (fun k hk => (b1 k hk).trans (a1 k hk)) (fun k hk => ?_)
    rcases Nat.eq_zero_or_pos k with q | q
    · rw [q, b2 0 (by omega), a2 0 (by omega), hc 0 (by omega)]; rfl
    · rw [gt3_nxt B l c hv1 hv3 q hk]
      by_cases h1 : k < v
      · rw [if_pos h1, b2 k (by omega), a2 k h1, hc k hk]
      · rw [if_neg h1]
        by_cases h2 : k = v
        · rw [if_pos h2, h2, b2 v (by omega), a3]
        · rw [if_neg h2, b3 k (by omega) hk]; rfl
  refine ⟨hl20, fun h => ?_, fun h => ⟨hv4, hv4, fun σ3 e3 y hy => ?_⟩⟩
  · refine s_X1_partAt hB hL hl hv1 hv3 ⟨hv4, fun σ3 e3 y hy => ?_⟩
    rw [hy]
    refine ⟨4, s_X0_passHead_42 (σ := σ3) 4 (v + 1) σ3 (by omega) (by omega) (by omega) (fun σ' b1 b2 b3 => fin σ3 σ' (fun k hk => by rw [e3, sig_ne hk]) (fun j hj => by rw [e3, sig_eq, pk_un (by omega)]) (by rw [e3, sig_eq, pk_us]; unfold nx; rw [if_neg h]) b1 b2 b3)⟩
  · rw [hy]
    refine ⟨4, s_X0_passHead_42 (σ := σ3) 4 (v + 1) σ3 (by omega) (by omega) (by omega) (fun σ' b1 b2 b3 => fin σ3 σ' (fun k hk => by rw [e3, sig_ne hk]) (fun j hj => by rw [e3, sig_eq, pk_un (by omega)]) (by rw [e3, sig_eq, pk_us, hc v hv3, show nI (gt3 c v) + (1 : Int32) = nI (gt3 c v + 1) from nI_1 _]; unfold nx; rw [if_pos h]) b1 b2 b3)⟩
