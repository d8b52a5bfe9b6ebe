/-! a line is passed: from a row of keys to the next -/
theorem kb_leL {B : Bk} (hB : bok B) {l : Nat} (hl : l < bL B) (c : C3) {v : Nat} (hv : v ≤ 3) (hm : may B l c v = true) : kb B (bL B - l) c ≤ lcost B l c v * 2 ^ 40 + v * 4 ^ (19 - l) + kb B (bL B - (l + 1)) (nc B l c v) := by
  have h20 := hB.L
  have h := kb_le hB (r := bL B - (l + 1)) (by omega) c hv (by rw [show bL B - (bL B - (l + 1) + 1) = l by omega]; exact hm)
  rw [show bL B - (bL B - (l + 1) + 1) = l by omega, show 20 - bL B + (bL B - (l + 1)) = 19 - l by omega, show bL B - (l + 1) + 1 = bL B - l by omega] at h
  exact h
theorem kb_eqL {B : Bk} (hB : bok B) {l : Nat} (hl : l < bL B) (c : C3) : gv B (bL B - (l + 1)) c ≤ 3 ∧ may B l c (gv B (bL B - (l + 1)) c) = true ∧ kb B (bL B - l) c = lcost B l c (gv B (bL B - (l + 1)) c) * 2 ^ 40 + gv B (bL B - (l + 1)) c * 4 ^ (19 - l) + kb B (bL B - (l + 1)) (nc B l c (gv B (bL B - (l + 1)) c)) := by
  have h20 := hB.L
  have h := kb_eq hB (r := bL B - (l + 1)) (by omega) c
  have h2 := gv_may hB (r := bL B - (l + 1)) (by omega) c
  rw [show bL B - (bL B - (l + 1) + 1) = l by omega] at h h2
  rw [show 20 - bL B + (bL B - (l + 1)) = 19 - l by omega, show bL B - (l + 1) + 1 = bL B - l by omega] at h
  exact ⟨gv_le _ _ _, h2, h⟩
theorem pow_l {B : Bk} (hB : bok B) {l : Nat} (hl : l < bL B) : 4 ^ (20 - l) = 4 * 4 ^ (19 - l) ∧ 1 ≤ 4 ^ (19 - l) ∧ 4 * 4 ^ (19 - l) ≤ 2 ^ 40 := by
  have h20 := hB.L
  have e : 4 ^ (20 - l) = 4 * 4 ^ (19 - l) := by
    rw [show 20 - l = (19 - l) + 1 by omega, Nat.pow_succ]; omega
  refine ⟨e, Nat.pow_pos (by decide), ?_⟩
  rw [← e, show (2 : Nat) ^ 40 = 4 ^ 20 by decide]
  exact Nat.pow_le_pow_right (by decide) (by omega)
def tgt (B : Bk) : Nat := kb B (bL B) (0, 0, 0)
def lowK (B : Bk) (l : Nat) (K : Nat → Nat) : Prop := ∀ q, q < 2744 → K q < 2 ^ 60 → tgt B ≤ K q + kb B (bL B - l) (up3 q)
def bndK (l : Nat) (K : Nat → Nat) : Prop := ∀ q, K q < 2 ^ 60 → K q ≤ 1100 * l * 2 ^ 40 + (2 ^ 40 - 4 ^ (20 - l))
/-- where level v of state c leads -/
def dst (B : Bk) (l : Nat) (c : C3) (v : Nat) : Nat := pk3 (cap3 B (bL B - (l + 1)) (nc B l c v))
theorem cap3_le {B : Bk} (hB : bok B) (r : Nat) (c : C3) : (cap3 B r c).1 < 14 ∧ (cap3 B r c).2.1 < 14 ∧ (cap3 B r c).2.2 < 14 := by
  have m1 := mx_le hB 1 r
  have m2 := mx_le hB 2 r
  have m3 := mx_le hB 3 r
  unfold cap3
  refine ⟨?_, ?_, ?_⟩
  · show min c.1 (mx B 1 r + 1) < 14; omega
  · show min c.2.1 (mx B 2 r + 1) < 14; omega
  · show min c.2.2 (mx B 3 r + 1) < 14; omega
theorem dst_lt {B : Bk} (hB : bok B) (l : Nat) (c : C3) (v : Nat) : dst B l c v < 2744 := by
  obtain ⟨h1, h2, h3⟩ := cap3_le hB (bL B - (l + 1)) (nc B l c v)
  unfold dst pk3; omega
theorem dst_kb {B : Bk} (hB : bok B) (l : Nat) (c : C3) (v : Nat) : kb B (bL B - (l + 1)) (up3 (dst B l c v)) = kb B (bL B - (l + 1)) (nc B l c v) := by
  obtain ⟨h1, h2, h3⟩ := cap3_le hB (bL B - (l + 1)) (nc B l c v)
  unfold dst
  rw [up3_pk3 h2 h3, kb_cap]
theorem up3_le {q : Nat} (hq : q < 2744) (k : Nat) : gt3 (up3 q) k ≤ 13 := by
  unfold gt3 up3
  dsimp only
  repeat' split
  all_goals omega
/-- what the search knows while it passes lines -/
def sok (B : Bk) (σ : Sg) : Prop := cLn B σ ∧ cSe B σ ∧ rnn B σ ∧ σ 33 0 = 1
theorem sok_same {B : Bk} {σ σ' : Sg} (h : ∀ k, k = 3 ∨ k = 5 ∨ (16 ≤ k ∧ k ≤ 27) → σ' k = σ k) (h0 : σ' 33 0 = 1) (hk : sok B σ) : sok B σ' :=
  ⟨cLn_same (fun k hk => h k (by omega)) hk.1, cSe_same (fun k hk => h k (by omega)) hk.2.1, fun l hl => by rw [h 27 (by omega)]; exact hk.2.2.1 l hl, h0⟩
def donK (B : Bk) (l : Nat) (c : C3) (x : Nat) (K : Nat → Nat) (v : Nat) : Prop := may B l c v = true → K (dst B l c v) ≤ x + lcost B l c v * 2 ^ 40 + v * 4 ^ (19 - l)
theorem s_X6_passLine_60 {B : Bk} (hB : bok B) {l D q k : Nat} (hl : l < bL B) (hD : D ≤ 3) (hDr : run B l = false → D = 3) (hDt : run B l = true → D = 0) (hq : q < 2744) {x : Nat} (hx : x ≤ 1100 * l * 2 ^ 40 + (2 ^ 40 - 4 ^ (20 - l))) (hlow : tgt B ≤ x + kb B (bL B - l) (up3 q)) {post : Sg → Tg → Prop} {k22 : Int32 → Int32 → Int32 → Sg → Tg → Prop} {σ0 : Sg} {τ0 : Tg} {K0 : Nat → Nat}
    (hp : ∀ (σ : Sg) (τ : Tg) (K S : Nat → Nat) (n : Nat), (∀ j, j ≠ 33 → j ≠ 32 → j ≠ 9 → σ j = σ0 j) → σ 33 0 = 1 → τ 0 = τ0 0 → nrow K S n σ τ → lowK B (l + 1) K → bndK (l + 1) K → (∀ j, K j ≤ K0 j) → (∀ v, v ≤ 3 → donK B l (up3 q) x K v) → k22 (nI l) (nI D) (nI (k + 1)) σ τ) :
    ∀ (f v : Nat) (σ : Sg) (τ : Tg) (K S : Nat → Nat) (n : Nat), v ≤ D + 1 → D + 1 < v + f → sok B σ → (∀ j, 1 ≤ j → j ≤ 3 → σ 30 j = nI (mx B j (bL B - (l + 1)) + 1)) → (∀ j, j ≠ 33 → j ≠ 32 → j ≠ 9 → σ j = σ0 j) → τ 0 = τ0 0 → nrow K S n σ τ → lowK B (l + 1) K → bndK (l + 1) K → (∀ j, K j ≤ K0 j) → (∀ w, w < v → donK B l (up3 q) x K w) → wp_X6_passLine_60 post k22 f (nI l) (nI D) (nI k) (nI q) (lN x) (nI v) σ τ := by
  have h20 := hB.L
  obtain ⟨p1, p2, p3⟩ := pow_l hB hl
  intro f
  induction f with
  | zero => intro v σ τ K S n a1 a2; omega
  | succ f ih =>
    intro v σ τ K S n a1 a2 hk hcp hfr hτ hN hlo hbd hle hdn
    unfold wp_X6_passLine_60
    rw [nI_ltI (by omega) (by omega)]
    refine ⟨fun h => ?_, fun h => ?_⟩
    · rw [show nI k + (1 : Int32) = nI (k + 1) from nI_1 k]
      refine hp σ τ K S n hfr hk.2.2.2 hτ hN hlo hbd hle (fun w hw => ?_)
      rcases Nat.lt_or_ge w v with g | g
      · exact hdn w g
      · intro hm
        cases hrun : run B l
        · have := hDr hrun; omega
        · rw [may, hrun] at hm
          have : w = 0 := by simpa using hm
          omega
    · refine s_X0_unpack hq hk.2.2.2 (fun σ2 g1 g2 => ?_)
      have hk2 : sok B σ2 := sok_same (fun j hj => g1 j (by omega)) (by rw [g2 0 (by decide)]; rfl) hk
      have hcp2 : ∀ j, 1 ≤ j → j ≤ 3 → σ2 30 j = nI (mx B j (bL B - (l + 1)) + 1) := fun j u1 u2 => by rw [g1 30 (by decide)]; exact hcp j u1 u2
      have hfr2 : ∀ j, j ≠ 33 → j ≠ 32 → j ≠ 9 → σ2 j = σ0 j := fun j u1 u2 u3 => (g1 j u1).trans (hfr j u1 u2 u3)
      have hN2 : nrow K S n σ2 τ := ⟨hN.1, fun i hi => by rw [g1 32 (by decide)]; exact hN.2.1 i hi, by rw [g1 9 (by decide)]; exact hN.2.2.1, hN.2.2.2⟩
      have hv3 : v ≤ 3 := by omega
      have hlc := lcost_le hB l (up3 q) v
      have hvP : v * 4 ^ (19 - l) ≤ 3 * 4 ^ (19 - l) := Nat.mul_le_mul_right _ hv3
      have hmul : 1100 * (l + 1) * 2 ^ 40 = 1100 * l * 2 ^ 40 + 1100 * 2 ^ 40 := by rw [Nat.mul_add, Nat.mul_one, Nat.add_mul]
      have hl20 : 1100 * l * 2 ^ 40 ≤ 1100 * 19 * 2 ^ 40 := Nat.mul_le_mul_right _ (Nat.mul_le_mul_left _ (by omega))
      have hlc40 : lcost B l (up3 q) v * 2 ^ 40 ≤ 1100 * 2 ^ 40 := Nat.mul_le_mul_right _ hlc
      rw [p1] at hx
      have hxx : x + lcost B l (up3 q) v * 2 ^ 40 + v * 4 ^ (19 - l) < 2 ^ 60 := by omega
      -- an offer at level v
      have off : may B l (up3 q) v = true → wp_X6_passLine_93 post (fun zx1 zx2 zx3 zx4 zx5 zx7 zσ zτ => wp_X6_passLine_60 post k22 f zx1 zx2 zx3 zx4 zx5 zx7 zσ zτ) (nI l) (nI D) (nI k) (nI q) (lN x) (nI v) σ2 τ := fun hm => by
        unfold wp_X6_passLine_93
        refine s_X6_offer hB hk2.1 hk2.2.1 hk2.2.2.1 hl hv3 g2 (up3_le hq) hcp2 hN2 hxx (fun σ3 τ3 K3 S3 n3 e1 e2 e3 e4 e5 => ?_)
        rw [show nI v + (1 : Int32) = nI (v + 1) from nI_1 v]
        have hkl := kb_leL hB hl (up3 q) hv3 hm
        have hdk := dst_kb hB l (up3 q) v
        have e5 : ∀ j, K3 j = if j = dst B l (up3 q) v then min (K j) (x + lcost B l (up3 q) v * 2 ^ 40 + v * 4 ^ (19 - l)) else K j := e5
        have hle3 : ∀ j, K3 j ≤ K j := fun j => by rw [e5 j]; split <;> omega
        refine ih (v + 1) σ3 τ3 K3 S3 n3 (by omega) (by omega) (sok_same (fun j hj => e1 j (by omega) (by omega) (by omega)) e2 hk2) (fun j u1 u2 => by rw [e1 30 (by decide) (by decide) (by decide)]; exact hcp2 j u1 u2) (fun j u1 u2 u3 => (e1 j u1 u2 u3).trans (hfr2 j u1 u2 u3)) (e3.trans hτ) e4 (fun j hj hj2 => ?_) (fun j hj => ?_) (fun j => Nat.le_trans (hle3 j) (hle j)) (fun w hw hmw => ?_)
        · rw [e5 j] at hj2 ⊢
          by_cases hjd : j = dst B l (up3 q) v
          · rw [if_pos hjd] at hj2 ⊢
            rcases Nat.lt_or_ge (K j) (x + lcost B l (up3 q) v * 2 ^ 40 + v * 4 ^ (19 - l)) with u | u
            · rw [Nat.min_eq_left (Nat.le_of_lt u)]
              exact hlo j hj (by omega)
            · rw [Nat.min_eq_right u, hjd, hdk]
              omega
          · rw [if_neg hjd] at hj2 ⊢
            exact hlo j hj hj2
        · have hb := hbd j
          rw [e5 j] at hj ⊢
          rw [show 20 - (l + 1) = 19 - l by omega, hmul] at hb ⊢
          by_cases hjd : j = dst B l (up3 q) v
          · rw [if_pos hjd] at hj ⊢
            omega
          · rw [if_neg hjd] at hj ⊢
            exact hb hj
        · rcases Nat.lt_or_ge w v with u | u
          · exact Nat.le_trans (hle3 _) (hdn w u hmw)
          · have : w = v := by omega
            subst this
            rw [e5, if_pos rfl]
            exact Nat.min_le_right _ _
      rw [show (nI v = 0) = (v = 0) from propext (nI_eq (b := 0) (by omega) (by decide))]
      refine ⟨fun hv0 => off (by rw [hv0]; exact may_0 _ _ _), fun hv0 => ?_⟩
      refine s_X0_allowHead hB hk2.1 hl (by omega) hv3 g2 (fun j _ => by have := up3_le hq j; omega) ?_
      have hrun : run B l = false := by
        cases hr : run B l
        · rfl
        · have := hDt hr; omega
      refine ⟨fun hr => ?_, fun hr => off ?_⟩
      · rw [show nI v + (1 : Int32) = nI (v + 1) from nI_1 v]
        refine ih (v + 1) σ2 τ K S n (by omega) (by omega) hk2 hcp2 hfr2 hτ hN2 hlo hbd hle (fun w hw hmw => ?_)
        rcases Nat.lt_or_ge w v with u | u
        · exact hdn w u hmw
        · have : w = v := by omega
          subst this
          have hok : okB B l (up3 q) w = true := by
            unfold may at hmw
            simpa [hv0, hrun] using hmw
          rw [if_pos hok] at hr
          exact absurd hr (by decide)
      · have hok : okB B l (up3 q) v = true := by
          rcases Bool.eq_false_or_eq_true (okB B l (up3 q) v) with z | z
          · exact z
          · rw [z] at hr; exact absurd rfl hr
        unfold may
        simp [hrun, hok]
