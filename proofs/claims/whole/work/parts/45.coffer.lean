/-! the rows of keys, and an offer to the next one -/
theorem litL (n : Nat) : (OfNat.ofNat n : Int64) = lN n := rfl
def rok (K S : Nat → Nat) (n : Nat) : Prop := (∀ i, i < n → S i < 2744 ∧ K (S i) < 2 ^ 60) ∧ (∀ q, q < 2744 → K q < 2 ^ 60 → ∃ i, i < n ∧ S i = q) ∧ (∀ i j, i < j → j < n → S i ≠ S j) ∧ (∀ q, K q ≤ 2 ^ 60)
def nrow (K S : Nat → Nat) (n : Nat) (σ : Sg) (τ : Tg) : Prop := (∀ q, q < 2744 → τ 1 q = lN (K q)) ∧ (∀ i, i < n → σ 32 i = nI (S i)) ∧ σ 9 0 = nI n ∧ rok K S n
theorem rok.le {K S : Nat → Nat} {n : Nat} (h : rok K S n) : n ≤ 2744 := fb_holes 2744 n S (fun i hi => (h.1 i hi).1) h.2.2.1
theorem rok.lt {K S : Nat → Nat} {n : Nat} (h : rok K S n) {q : Nat} (hq : q < 2744) (hf : ¬ K q < 2 ^ 60) : n < 2744 := by
  have h1 := fb_holes 2744 (n + 1) (fun i => if i < n then S i else q) (fun i hi => by
    by_cases g : i < n
    · simp only [if_pos g]; exact (h.1 i g).1
    · simp only [if_neg g]; exact hq) (fun i j hij hj => by
    have g : i < n := by omega
    by_cases g2 : j < n
    · simp only [if_pos g, if_pos g2]; exact h.2.2.1 i j hij g2
    · simp only [if_pos g, if_neg g2]
      intro z
      exact hf (by rw [← z]; exact (h.1 i g).2))
  exact h1
theorem s_X6_offer_94 {σ : Sg} {τ : Tg} {post : Sg → Tg → Prop} {x y z q a : Nat} (hq : q < 2744) (ha : a ≤ 2 ^ 60) (hx : x + y * 2 ^ 40 + z < 2 ^ 60) (hτ : τ 1 q = lN a) (hp : post σ (va_up τ 1 (vp_updL (τ 1) q (lN (min a (x + y * 2 ^ 40 + z)))))) : wp_X6_offer_94 post (lN x) (lN y) (lN z) (nI q) σ τ := by
  unfold wp_X6_offer_94
  have hv : vp_in (nI q) 2744 := vp_in_nI hq (by decide)
  have e1 : lN x + lN y <<< ((40 : Int32).toInt64 &&& 63) + lN z = lN (x + y * 2 ^ 40 + z) := by
    rw [show (40 : Int32) = nI 40 from rfl, wb_shl y (by decide), lN_add, lN_add]
  refine ⟨hv, hv, fun τ3 e3 => ?_⟩
  rw [nI_clamp (by omega), hτ, e1] at e3
  rw [e3]
  rcases Nat.lt_or_ge (x + y * 2 ^ 40 + z) a with g | g
  · rw [if_pos ((pk_lLT (by omega) (by omega)).mpr g)]
    rwa [show min a (x + y * 2 ^ 40 + z) = x + y * 2 ^ 40 + z by omega] at hp
  · rw [if_neg (fun w => by have := (pk_lLT (by omega) (by omega)).mp w; omega)]
    rwa [show min a (x + y * 2 ^ 40 + z) = a by omega] at hp
theorem s_X6_offer_46 {B : Bk} {σ : Sg} {τ : Tg} (hB : bok B) {r : Nat} {c : C3} (hc : atc c σ) (bc : ∀ k, gt3 c k < 2 ^ 31) (hcp : ∀ j, 1 ≤ j → j ≤ 3 → σ 30 j = nI (mx B j r + 1)) {K S : Nat → Nat} {n : Nat} (hN : nrow K S n σ τ) {post : Sg → Tg → Prop} {x y z : Nat} (hx : x + y * 2 ^ 40 + z < 2 ^ 60)
    (hp : ∀ (σ' : Sg) (τ' : Tg) (K' S' : Nat → Nat) (n' : Nat), (∀ k, k ≠ 32 → k ≠ 9 → σ' k = σ k) → τ' 0 = τ 0 → nrow K' S' n' σ' τ' → (∀ j, K' j = if j = pk3 (cap3 B r c) then min (K j) (x + y * 2 ^ 40 + z) else K j) → post σ' τ') : wp_X6_offer_46 post (lN x) (lN y) (lN z) σ τ := by
  have m1 := mx_le hB 1 r
  have m2 := mx_le hB 2 r
  have m3 := mx_le hB 3 r
  unfold wp_X6_offer_46
  refine s_X0_pack (cp := (mx B 1 r + 1, mx B 2 r + 1, mx B 3 r + 1)) hc (fun k h1 h2 => by
    rcases (show k = 1 ∨ k = 2 ∨ k = 3 by omega) with rfl | rfl | rfl
    · exact hcp 1 (by decide) (by decide)
    · exact hcp 2 (by decide) (by decide)
    · exact hcp 3 (by decide) (by decide)) bc (fun k h1 h2 => by
    rcases (show k = 1 ∨ k = 2 ∨ k = 3 by omega) with rfl | rfl | rfl
    · rw [gt3_1]; show mx B 1 r + 1 ≤ 13; omega
    · rw [gt3_2]; show mx B 2 r + 1 ≤ 13; omega
    · rw [gt3_3]; show mx B 3 r + 1 ≤ 13; omega) ?_
  show _ ∧ _ ∧ _
  obtain ⟨q, hqe⟩ : ∃ q, q = pk3 (cap3 B r c) := ⟨_, rfl⟩
  have hqe2 : pk3 (min c.1 (mx B 1 r + 1), min c.2.1 (mx B 2 r + 1), min c.2.2 (mx B 3 r + 1)) = q := hqe.symm
  have hq : q < 2744 := by
    rw [← hqe2]; unfold pk3
    show (min c.1 (mx B 1 r + 1) * 14 + min c.2.1 (mx B 2 r + 1)) * 14 + min c.2.2 (mx B 3 r + 1) < 2744
    omega
  rw [← hqe] at hp
  rw [hqe2, nI_clamp (by omega), hN.1 q hq]
  obtain ⟨h1, h2, h3, h4⟩ := hN
  have hv : vp_in (nI q) 2744 := vp_in_nI hq (by decide)
  have hK := h4.2.2.2 q
  have efar : (1152921504606846976 : Int64) = lN (2 ^ 60) := rfl
  have ecmp : (lg_cmp (lN (K q)) (1152921504606846976 : Int64) = 0) = (K q = 2 ^ 60) := propext (by
    rw [efar]
    unfold lg_cmp
    constructor
    · intro w
      split at w
      · exact absurd w (by decide)
      · split at w
        · next e => exact (pk_lEQ (by omega) (by decide)).mp e
        · exact absurd w (by decide)
    · intro w
      rw [w]
      simp)
  rw [ecmp]
  refine ⟨hv, fun g => ?_, fun g => ⟨by rw [h3]; exact vp_in_nI (h4.lt hq (by omega)) (by decide), fun σ7 e7 σ8 e8 => ?_⟩⟩
  · refine s_X6_offer_94 hq hK hx (h1 q hq) (hp σ _ (fun j => if j = q then min (K j) (x + y * 2 ^ 40 + z) else K j) S n (fun _ _ _ => rfl) (sig_ne (by decide)) ⟨fun j hj => ?_, h2, h3, ⟨fun i hi => ?_, fun j hj w => ?_, h4.2.2.1, fun j => ?_⟩⟩ (fun j => rfl))
    · rw [sig_eq]
      by_cases w : j = q
      · rw [w, pk_uLs]; dsimp only; rw [if_pos rfl]
      · rw [pk_uLn w]; dsimp only; rw [if_neg w]; exact h1 j hj
    · refine ⟨(h4.1 i hi).1, ?_⟩
      have := (h4.1 i hi).2
      show (if S i = q then min (K (S i)) _ else K (S i)) < 2 ^ 60
      split <;> omega
    · by_cases e : j = q
      · rw [e]; exact h4.2.1 q hq (by omega)
      · have w : (if j = q then min (K j) (x + y * 2 ^ 40 + z) else K j) < 2 ^ 60 := w
        rw [if_neg e] at w; exact h4.2.1 j hj w
    · have := h4.2.2.2 j
      show (if j = q then min (K j) _ else K j) ≤ 2 ^ 60
      split <;> omega
  · have hn := h4.lt hq (by omega)
    rw [h3, nI_clamp (by omega)] at e7
    have e9 : σ7 9 = σ 9 := by rw [e7, sig_ne (by decide)]
    rw [e9, h3, show nI n + (1 : Int32) = nI (n + 1) from nI_1 n] at e8
    have e32 : σ8 32 = upd (σ 32) n (nI q) := by rw [e8, sig_ne (by decide), e7, sig_eq]
    refine s_X6_offer_94 hq hK hx (h1 q hq) (hp σ8 _ (fun j => if j = q then min (K j) (x + y * 2 ^ 40 + z) else K j) (fun i => if i < n then S i else q) (n + 1) (fun k a b => ?_) (sig_ne (by decide)) ⟨fun j hj => ?_, fun i hi => ?_, ?_, ⟨fun i hi => ?_, fun j hj w => ?_, fun i j hij hj => ?_, fun j => ?_⟩⟩ (fun j => rfl))
    · rw [e8, sig_ne b, e7, sig_ne a]
    · rw [sig_eq]
      by_cases w : j = q
      · rw [w, pk_uLs]; dsimp only; rw [if_pos rfl]
      · rw [pk_uLn w]; dsimp only; rw [if_neg w]; exact h1 j hj
    · rw [e32]
      by_cases w : i < n
      · rw [pk_un (by omega)]; dsimp only; rw [if_pos w]; exact h2 i w
      · rw [show i = n by omega, pk_us]; dsimp only; rw [if_neg (Nat.lt_irrefl n)]
    · rw [e8, sig_eq]
    · by_cases w : i < n
      · simp only [if_pos w]
        refine ⟨(h4.1 i w).1, ?_⟩
        have := (h4.1 i w).2
        split <;> omega
      · simp only [if_neg w]
        refine ⟨hq, ?_⟩
        rw [if_pos trivial]; omega
    · by_cases e : j = q
      · exact ⟨n, by omega, by simp only [if_neg (Nat.lt_irrefl n)]; exact e.symm⟩
      · have w : (if j = q then min (K j) (x + y * 2 ^ 40 + z) else K j) < 2 ^ 60 := w
        rw [if_neg e] at w
        obtain ⟨i, hi, hs⟩ := h4.2.1 j hj w
        exact ⟨i, by omega, by simp only [if_pos hi]; exact hs⟩
    · have w : i < n := by omega
      by_cases w2 : j < n
      · simp only [if_pos w, if_pos w2]; exact h4.2.2.1 i j hij w2
      · simp only [if_pos w, if_neg w2]
        intro e
        have := (h4.1 i w).2
        rw [e] at this; omega
    · have := h4.2.2.2 j
      show (if j = q then min (K j) _ else K j) ≤ 2 ^ 60
      split <;> omega
theorem atc_same {c : C3} {σ σ' : Sg} (h : σ' 33 = σ 33) (hc : atc c σ) : atc c σ' := fun k hk => by rw [h]; exact hc k hk
theorem s_X6_offer {B : Bk} {σ : Sg} {τ : Tg} (hB : bok B) (hL : cLn B σ) (hS : cSe B σ) (hr : rnn B σ) {l v : Nat} (hl : l < bL B) (hv : v ≤ 3) {c : C3} (hc : atc c σ) (bc : ∀ k, gt3 c k ≤ 13) (hcp : ∀ j, 1 ≤ j → j ≤ 3 → σ 30 j = nI (mx B j (bL B - (l + 1)) + 1)) {K S : Nat → Nat} {n : Nat} (hN : nrow K S n σ τ) {post : Sg → Tg → Prop} {x : Nat}
    (hx : x + lcost B l c v * 2 ^ 40 + v * 4 ^ (19 - l) < 2 ^ 60)
    (hp : ∀ (σ' : Sg) (τ' : Tg) (K' S' : Nat → Nat) (n' : Nat), (∀ k, k ≠ 33 → k ≠ 32 → k ≠ 9 → σ' k = σ k) → σ' 33 0 = 1 → τ' 0 = τ 0 → nrow K' S' n' σ' τ' → (∀ j, K' j = if j = pk3 (cap3 B (bL B - (l + 1)) (nc B l c v)) then min (K j) (x + lcost B l c v * 2 ^ 40 + v * 4 ^ (19 - l)) else K j) → post σ' τ') : wp_X6_offer (nI l) (nI v) (lN x) σ τ post := by
  have h20 := hB.L
  have hlc := lcost_le hB l c v
  have hnu := fun i => (hB.hwd i).2.2
  have e40 : ∀ a : Nat, a ≤ 1100 → (nI a).toInt64 = lN a := fun a ha => nI_l (by omega)
  have go : ∀ a : Nat, a = lcost B l c v → wp_X6_offer_20 post (nI l) (nI v) (lN x) (lN a) σ τ := fun a ha => by
    subst ha
    unfold wp_X6_offer_20
    intro y hy
    have e1 : (2 : Int32) * ((19 : Int32) - nI l) = nI (2 * (19 - l)) := by
      rw [nlit 2, nlit 19, pk_sub (by omega), pk_mul]
    have e2 : y = lN (v * 4 ^ (19 - l)) := by
      rw [hy, e1, nI_l (by omega), wb_shl v (by omega), Nat.pow_mul]
    rw [e2, show (nI v ≤ 0) = (v ≤ 0) from propext (nI_leI (b := 0) (by omega) (by decide))]
    refine ⟨fun h => ?_, fun h => s_X0_passHead hB hL hl (by omega) hv hc (fun σ3 g1 g2 => ?_)⟩
    · have hv0 : v = 0 := by omega
      refine s_X6_offer_46 hB hc (fun k => by have := bc k; omega) hcp hN hx (fun σ' τ' K' S' n' f1 f2 f3 f4 => hp σ' τ' K' S' n' (fun k _ a b => f1 k a b) ?_ f2 f3 ?_)
      · rw [f1 33 (by decide) (by decide), hc 0 (by decide)]; rfl
      · have e3 : nc B l c v = c := by unfold nc; rw [if_pos hv0]
        rw [e3]; exact f4
    · have e3 : nc B l c v = nxt B l c v := by unfold nc; rw [if_neg (by omega)]
      refine s_X6_offer_46 hB g2 (fun k => ?_) (fun j a b => by rw [g1 30 (by decide)]; exact hcp j a b) (K := K) (S := S) (n := n) ⟨hN.1, fun i hi => by rw [g1 32 (by decide)]; exact hN.2.1 i hi, by rw [g1 9 (by decide)]; exact hN.2.2.1, hN.2.2.2⟩ hx (fun σ' τ' K' S' n' f1 f2 f3 f4 => hp σ' τ' K' S' n' (fun k b1 b2 b3 => (f1 k b2 b3).trans (g1 k b1)) ?_ f2 f3 ?_)
      · rcases Nat.lt_or_ge k 1 with w | w
        · rw [show k = 0 by omega, gt3_0]; decide
        · rcases Nat.lt_or_ge 3 k with w3 | w3
          · have e9 : gt3 (nxt B l c v) k = gt3 (nxt B l c v) 3 := by
              unfold gt3
              rw [if_neg (show ¬ k = 0 by omega), if_neg (show ¬ k = 1 by omega), if_neg (show ¬ k = 2 by omega), if_neg (show ¬ (3 : Nat) = 0 by decide), if_neg (show ¬ (3 : Nat) = 1 by decide), if_neg (show ¬ (3 : Nat) = 2 by decide)]
            rw [e9, gt3_nxt B l c (by omega) hv (by decide) (by decide)]
            have b1 := bc 3
            have b2 := bc v
            have b3 := hnu (3 * l + (v - 1))
            unfold nx
            repeat' split
            all_goals omega
          · rw [gt3_nxt B l c (by omega) hv w w3]
            have b1 := bc k
            have b2 := bc v
            have b3 := hnu (3 * l + (v - 1))
            unfold nx
            repeat' split
            all_goals omega
      · rw [f1 33 (by decide) (by decide), g2 0 (by decide)]; rfl
      · rw [e3]; exact f4
  unfold wp_X6_offer
  rw [show (nI v = 0) = (v = 0) from propext (nI_eq (b := 0) (by omega) (by decide))]
  refine ⟨fun h => s_X6_headCost hB hL hS hl (by omega) hv hc (fun k _ => by have := bc k; omega) ?_, fun h => s_X6_textCost hB hL hS hr hl ?_⟩
  · have e5 : lcost B l c v = hcost B l c v := by unfold lcost; rw [if_neg h]
    rw [e40 _ (by rw [← e5]; exact hlc)]
    exact go _ e5.symm
  · have e5 : lcost B l c v = tcost B l := by unfold lcost; rw [if_pos h]
    rw [e40 _ (by rw [← e5]; exact hlc)]
    exact go _ e5.symm
