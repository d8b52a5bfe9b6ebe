/-! the class: a part's last page, the head above -/
def lpR (B : Bk) (l : Nat) : Nat → Int32
  | 0 => nI (bN B - 1)
  | r + 1 => if lv B (bL B - (r + 1)) ≠ 0 ∧ lv B (bL B - (r + 1)) ≤ lv B l then nI (pg B (bL B - (r + 1))) else lpR B l r
def ebd (B : Bk) (l : Nat) : Int32 := if lv B l = 0 then -1 else lpR B l (bL B - (l + 1))
def abR (B : Bk) (l : Nat) : Nat → Int32
  | 0 => -1
  | k + 1 => if lv B k ≠ 0 ∧ lv B k < lv B l then nI k else abR B l k
theorem nI_le0 {a : Nat} (h : a < 2 ^ 31) : nI a ≤ 0 ↔ a = 0 := by
  rw [show (0 : Int32) = nI 0 from rfl, nI_leI h (by decide)]; omega
theorem nI_eq0 {a : Nat} (h : a < 2 ^ 31) : nI a = 0 ↔ a = 0 := nI_eq (b := 0) h (by decide)
theorem s_X6_lastPage {B : Bk} {σ : Sg} {τ : Tg} (hB : bok B) (hL : cLn B σ) (ht : tLv B σ) {l : Nat} (hl : l < bL B) {post : Int32 → Sg → Tg → Prop} (hp : post (ebd B l) σ τ) : wp_X6_lastPage (nI l) (nI (bN B - 1)) σ τ post := by
  have h20 := hB.L
  have hv := lv_le B
  have loop : ∀ (n r : Nat), r ≤ bL B → r < n → post (lpR B l r) σ τ → wp_X6_lastPage_15 post n (nI l) (nI (bN B - 1)) (nI (bL B - r)) σ τ := by
    intro n
    induction n with
    | zero => intro r _ h; omega
    | succ n ih =>
      intro r h1 h2 hq
      unfold wp_X6_lastPage_15
      rw [hL.1, nI_leI (by omega) (by omega)]
      refine ⟨fun h => ?_, fun h => ?_⟩
      · rw [show r = 0 by omega, lpR] at hq; exact hq
      · obtain ⟨r, rfl⟩ : ∃ q, r = q + 1 := ⟨r - 1, by omega⟩
        have hk : bL B - (r + 1) < bL B := by omega
        have vk : vp_in (nI (bL B - (r + 1))) 20 := vp_in_nI (by omega) (by decide)
        have vl : vp_in (nI l) 20 := vp_in_nI (by omega) (by decide)
        have a1 := hv l
        have a2 := hv (bL B - (r + 1))
        rw [nI_clamp (show bL B - (r + 1) < 2 ^ 31 by omega), nI_clamp (show l < 2 ^ 31 by omega), ht _ hk, ht _ hl, nI_le0 (by omega), nI_ltI (by omega) (by omega), (hL.2.1 _ hk).1, nI_1, show bL B - (r + 1) + 1 = bL B - r by omega]
        rw [lpR] at hq
        refine ⟨vk, fun g => ih r (by omega) (by omega) ?_, fun g => ⟨vk, vl, fun g2 => ih r (by omega) (by omega) ?_, fun g2 => ⟨vk, ?_⟩⟩⟩
        · rwa [if_neg (fun z => z.1 g)] at hq
        · rwa [if_neg (fun z => by omega)] at hq
        · rwa [if_pos ⟨g, by omega⟩] at hq
  unfold wp_X6_lastPage
  have a1 := hv l
  rw [nI_clamp (show l < 2 ^ 31 by omega), ht _ hl, nI_eq0 (by omega)]
  unfold ebd at hp
  refine ⟨vp_in_nI (by omega) (by decide), fun g y ey => ⟨21, ?_⟩, fun g => ?_⟩
  · rw [if_neg g] at hp
    rw [ey, nI_1, show l + 1 = bL B - (bL B - (l + 1)) by omega]
    exact loop 21 _ (by omega) (by omega) hp
  · rwa [if_pos g] at hp
theorem nI_m1 {k : Nat} : nI (k + 1) + (-1 : Int32) = nI k := by
  rw [← nI_1, Int32.add_assoc, show (1 : Int32) + -1 = 0 from rfl, Int32.add_zero]
theorem pm1 (k : Nat) : nI k + (-1 : Int32) = nI k - (1 : Int32) := by rw [Int32.sub_eq_add_neg]
theorem ns1 (k : Nat) : nI (k + 1) - (1 : Int32) = nI k := by rw [nlit 1, pk_sub (by omega), Nat.add_sub_cancel]
theorem nI_0m1 : nI 0 + (-1 : Int32) = -1 := rfl
theorem s_X6_headAbove {B : Bk} {σ : Sg} {τ : Tg} (hB : bok B) (ht : tLv B σ) {l : Nat} (hl : l < bL B) {post : Int32 → Sg → Tg → Prop} (hp : post (abR B l l) σ τ) : wp_X6_headAbove (nI l) σ τ post := by
  have h20 := hB.L
  have hv := lv_le B
  have loop : ∀ (n k : Nat), k ≤ l → k < n → post (abR B l k) σ τ → wp_X6_headAbove_4 post n (nI l) (nI k - (1 : Int32)) σ τ := by
    intro n
    induction n with
    | zero => intro k _ h; omega
    | succ n ih =>
      intro k h1 h2 hq
      unfold wp_X6_headAbove_4
      rcases k with _ | k
      · exact ⟨fun _ => hq, fun z => absurd (by decide) z⟩
      · rw [ns1]
        have hk : k < bL B := by omega
        have vk : vp_in (nI k) 20 := vp_in_nI (by omega) (by decide)
        have vl : vp_in (nI l) 20 := vp_in_nI (by omega) (by decide)
        have a1 := hv l
        have a2 := hv k
        rw [nI_clamp (show k < 2 ^ 31 by omega), nI_clamp (show l < 2 ^ 31 by omega), ht _ hk, ht _ hl, nI_le0 (by omega), nI_leI (by omega) (by omega), pm1]
        rw [abR] at hq
        refine ⟨fun z => absurd z (nI_pos (by omega)), fun _ => ⟨vk, fun g => ?_, fun g => ⟨vk, vl, fun g2 => ?_, fun g2 => ?_⟩⟩⟩
        · refine ih k (by omega) (by omega) ?_
          rwa [if_neg (fun z => z.1 g)] at hq
        · refine ih k (by omega) (by omega) ?_
          rwa [if_neg (fun z => by omega)] at hq
        · rwa [if_pos ⟨g, by omega⟩] at hq
  unfold wp_X6_headAbove
  intro y ey
  exact ⟨21, by rw [ey]; exact loop 21 l (Nat.le_refl _) (by omega) hp⟩
