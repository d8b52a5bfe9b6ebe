/-! THE TREE, in plain numbers: least cost from a line on, the level that is taken, both in one number -/
abbrev C3 : Type := Nat × Nat × Nat
def gt3 (c : C3) (k : Nat) : Nat := if k = 0 then 1 else if k = 1 then c.1 else if k = 2 then c.2.1 else c.2.2
def okB (B : Bk) (l : Nat) (c : C3) (v : Nat) : Bool :=
  decide (gt3 c (v - 1) ≠ 0) && (decide (np B l = 0) || (decide (np B l = v) && (decide (v ≤ 1) || decide (nu B (3 * l) = gt3 c 1)) && (decide (v ≤ 2) || decide (nu B (3 * l + 1) = gt3 c 2)) && decide (gt3 c v < nu B (3 * l + (v - 1)))))
def nx (B : Bk) (l : Nat) (c : C3) (v : Nat) : Nat := if np B l = 0 then gt3 c v + 1 else nu B (3 * l + (v - 1))
def nxt (B : Bk) (l : Nat) (c : C3) (v : Nat) : C3 := if v = 1 then (nx B l c v, 0, 0) else if v = 2 then (c.1, nx B l c v, 0) else (c.1, c.2.1, nx B l c v)
def absd (a b : Nat) : Nat := (a - b) + (b - a)
def hcost (B : Bk) (l : Nat) (c : C3) (v : Nat) : Nat := pr B 1 * absd (look B l) (wa B v) + (if np B l = 0 then pr B 3 else if nu B (3 * l + (v - 1)) = gt3 c v + 1 then 0 else pr B 2)
def tcost (B : Bk) (l : Nat) : Nat := if run B l = true then 0 else look B l * pr B 0
def lcost (B : Bk) (l : Nat) (c : C3) (v : Nat) : Nat := if v = 0 then tcost B l else hcost B l c v
def nc (B : Bk) (l : Nat) (c : C3) (v : Nat) : C3 := if v = 0 then c else nxt B l c v
def may (B : Bk) (l : Nat) (c : C3) (v : Nat) : Bool := decide (v = 0) || (!run B l && okB B l c v)
def cwN (B : Bk) (r : Nat) (rec : C3 → Nat) (c : C3) (v : Nat) : Nat := if may B (bL B - (r + 1)) c v = true then lcost B (bL B - (r + 1)) c v + rec (nc B (bL B - (r + 1)) c v) else 1000000
def ls (B : Bk) : Nat → C3 → Nat
  | 0, _ => 0
  | r + 1, c => min (min (min (min 1000000 (cwN B r (ls B r) c 0)) (cwN B r (ls B r) c 1)) (cwN B r (ls B r) c 2)) (cwN B r (ls B r) c 3)
def cw (B : Bk) (r : Nat) (c : C3) (v : Nat) : Nat := cwN B r (ls B r) c v
def gv (B : Bk) (r : Nat) (c : C3) : Nat := if cw B r c 0 = ls B (r + 1) c then 0 else if cw B r c 1 = ls B (r + 1) c then 1 else if cw B r c 2 = ls B (r + 1) c then 2 else 3
def bits (B : Bk) : Nat → C3 → Nat
  | 0, _ => 0
  | r + 1, c => gv B r c * 4 ^ (20 - bL B + r) + bits B r (nc B (bL B - (r + 1)) c (gv B r c))
def kb (B : Bk) (r : Nat) (c : C3) : Nat := ls B r c * 2 ^ 40 + bits B r c
theorem ls_succ (B : Bk) (r : Nat) (c : C3) : ls B (r + 1) c = min (min (min (min 1000000 (cw B r c 0)) (cw B r c 1)) (cw B r c 2)) (cw B r c 3) := rfl
theorem tcost_le {B : Bk} (hB : bok B) (l : Nat) : tcost B l ≤ 1050 := by
  unfold tcost
  split
  · omega
  · have h1 := look_le hB l
    have h2 := hB.hpr 0
    calc look B l * pr B 0 ≤ 21 * 50 := Nat.mul_le_mul h1 h2
      _ = 1050 := rfl
theorem hcost_le {B : Bk} (hB : bok B) (l : Nat) (c : C3) {v : Nat} (hv : 1 ≤ v) : hcost B l c v ≤ 1100 := by
  have h1 := look_le hB l
  have h2 := hB.hpr 1
  have h3 := hB.hpr 2
  have h4 := hB.hpr 3
  have h5 := hB.hwa hv
  have h6 : absd (look B l) (wa B v) ≤ 21 := by unfold absd; omega
  have h7 : pr B 1 * absd (look B l) (wa B v) ≤ 50 * 21 := Nat.mul_le_mul h2 h6
  unfold hcost
  split
  · omega
  · split <;> omega
theorem lcost_le {B : Bk} (hB : bok B) (l : Nat) (c : C3) (v : Nat) : lcost B l c v ≤ 1100 := by
  unfold lcost
  split
  · have := tcost_le hB l; omega
  · exact hcost_le hB l c (by omega)
theorem may_0 (B : Bk) (l : Nat) (c : C3) : may B l c 0 = true := by simp [may]
theorem cw_0 (B : Bk) (r : Nat) (c : C3) : cw B r c 0 = tcost B (bL B - (r + 1)) + ls B r c := by
  unfold cw cwN
  rw [if_pos (may_0 _ _ _)]
  rfl
theorem ls_le {B : Bk} (hB : bok B) : ∀ (r : Nat) (c : C3), ls B r c ≤ 1050 * r
  | 0, _ => Nat.le_refl _
  | r + 1, c => by
    have h1 := ls_le hB r c
    have h2 := cw_0 B r c
    have h3 := tcost_le hB (bL B - (r + 1))
    rw [ls_succ]
    omega
theorem cw_may {B : Bk} {r : Nat} {c : C3} {v : Nat} (h : may B (bL B - (r + 1)) c v = true) : cw B r c v = lcost B (bL B - (r + 1)) c v + ls B r (nc B (bL B - (r + 1)) c v) := by
  unfold cw cwN
  rw [if_pos h]
theorem cw_not {B : Bk} {r : Nat} {c : C3} {v : Nat} (h : ¬ may B (bL B - (r + 1)) c v = true) : cw B r c v = 1000000 := by
  unfold cw cwN
  rw [if_neg h]
theorem gv_le (B : Bk) (r : Nat) (c : C3) : gv B r c ≤ 3 := by
  unfold gv
  split
  · omega
  · split
    · omega
    · split <;> omega
theorem gv_eq {B : Bk} (hB : bok B) {r : Nat} (hr : r + 1 ≤ bL B) (c : C3) : cw B r c (gv B r c) = ls B (r + 1) c := by
  have h1 := ls_le hB (r + 1) c
  have h20 := hB.L
  have h2 := ls_succ B r c
  unfold gv
  by_cases a0 : cw B r c 0 = ls B (r + 1) c
  · rw [if_pos a0]; exact a0
  · rw [if_neg a0]
    by_cases a1 : cw B r c 1 = ls B (r + 1) c
    · rw [if_pos a1]; exact a1
    · rw [if_neg a1]
      by_cases a2 : cw B r c 2 = ls B (r + 1) c
      · rw [if_pos a2]; exact a2
      · rw [if_neg a2]
        omega
theorem gv_first {B : Bk} {r : Nat} {c : C3} {v : Nat} (h3 : v ≤ 3) (h : cw B r c v = ls B (r + 1) c) : gv B r c ≤ v := by
  unfold gv
  split
  · omega
  · split
    · rcases (show v = 0 ∨ 1 ≤ v by omega) with rfl | q
      · contradiction
      · exact q
    · split
      · rcases (show v = 0 ∨ v = 1 ∨ 2 ≤ v by omega) with rfl | rfl | q
        · contradiction
        · contradiction
        · exact q
      · rcases (show v = 0 ∨ v = 1 ∨ v = 2 ∨ v = 3 by omega) with rfl | rfl | rfl | rfl
        · contradiction
        · contradiction
        · contradiction
        · omega
theorem gv_may {B : Bk} (hB : bok B) {r : Nat} (hr : r + 1 ≤ bL B) (c : C3) : may B (bL B - (r + 1)) c (gv B r c) = true := by
  have h1 := ls_le hB (r + 1) c
  have h20 := hB.L
  have h2 := gv_eq hB hr c
  by_cases h : may B (bL B - (r + 1)) c (gv B r c) = true
  · exact h
  · rw [cw_not h] at h2; omega
theorem bits_lt {B : Bk} : ∀ (r : Nat) (c : C3), bits B r c < 4 ^ (20 - bL B + r)
  | 0, _ => Nat.pow_pos (by decide)
  | r + 1, c => by
    have h1 := bits_lt (B := B) r (nc B (bL B - (r + 1)) c (gv B r c))
    have h2 := gv_le B r c
    have h3 : gv B r c * 4 ^ (20 - bL B + r) ≤ 3 * 4 ^ (20 - bL B + r) := Nat.mul_le_mul_right _ h2
    rw [show 20 - bL B + (r + 1) = (20 - bL B + r) + 1 by omega, Nat.pow_succ]
    unfold bits
    omega
theorem kb_eq {B : Bk} (hB : bok B) {r : Nat} (hr : r + 1 ≤ bL B) (c : C3) : kb B (r + 1) c = lcost B (bL B - (r + 1)) c (gv B r c) * 2 ^ 40 + gv B r c * 4 ^ (20 - bL B + r) + kb B r (nc B (bL B - (r + 1)) c (gv B r c)) := by
  unfold kb
  rw [← gv_eq hB hr c, cw_may (gv_may hB hr c), bits, Nat.add_mul]
  omega
theorem kb_le {B : Bk} (hB : bok B) {r : Nat} (hr : r + 1 ≤ bL B) (c : C3) {v : Nat} (hv : v ≤ 3) (hm : may B (bL B - (r + 1)) c v = true) : kb B (r + 1) c ≤ lcost B (bL B - (r + 1)) c v * 2 ^ 40 + v * 4 ^ (20 - bL B + r) + kb B r (nc B (bL B - (r + 1)) c v) := by
  have h20 := hB.L
  have e := cw_may hm
  have hle : ls B (r + 1) c ≤ cw B r c v := by
    rw [ls_succ]
    rcases (show v = 0 ∨ v = 1 ∨ v = 2 ∨ v = 3 by omega) with rfl | rfl | rfl | rfl <;> omega
  have hb := bits_lt (B := B) (r + 1) c
  have hp : 4 ^ (20 - bL B + (r + 1)) ≤ 2 ^ 40 := by
    have : (2 : Nat) ^ 40 = 4 ^ 20 := by decide
    rw [this]
    exact Nat.pow_le_pow_right (by decide) (by omega)
  unfold kb
  rcases Nat.lt_or_ge (ls B (r + 1) c) (cw B r c v) with q | q
  · have h1 : (ls B (r + 1) c + 1) * 2 ^ 40 ≤ cw B r c v * 2 ^ 40 := Nat.mul_le_mul_right _ q
    rw [e, Nat.add_mul, Nat.add_mul] at h1
    omega
  · have h1 : cw B r c v = ls B (r + 1) c := by omega
    have h2 := gv_first hv h1
    rw [← h1, e, Nat.add_mul]
    rcases Nat.lt_or_ge (gv B r c) v with q2 | q2
    · have h3 := bits_lt (B := B) r (nc B (bL B - (r + 1)) c (gv B r c))
      have h4 : (gv B r c + 1) * 4 ^ (20 - bL B + r) ≤ v * 4 ^ (20 - bL B + r) := Nat.mul_le_mul_right _ q2
      rw [Nat.add_mul] at h4
      rw [bits]
      omega
    · have h5 : gv B r c = v := by omega
      rw [bits, h5]
      omega
/-! counters that no part to come can reach act alike -/
def mx (B : Bk) (k : Nat) : Nat → Nat
  | 0 => 0
  | r + 1 => max (nu B (3 * (bL B - (r + 1)) + (k - 1))) (mx B k r)
theorem mx_le {B : Bk} (hB : bok B) (k : Nat) : ∀ r, mx B k r ≤ 12
  | 0 => Nat.zero_le _
  | r + 1 => by
    have h1 := mx_le hB k r
    have h2 := (hB.hwd (3 * (bL B - (r + 1)) + (k - 1))).2.2
    unfold mx; omega
def eqv (B : Bk) (r : Nat) (c d : C3) : Prop := ∀ k, 1 ≤ k → k ≤ 3 → gt3 c k = gt3 d k ∨ (mx B k r < gt3 c k ∧ mx B k r < gt3 d k)
theorem gt3_nxt (B : Bk) (l : Nat) (c : C3) {v k : Nat} (hv : 1 ≤ v) (hv3 : v ≤ 3) (hk : 1 ≤ k) (hk3 : k ≤ 3) : gt3 (nxt B l c v) k = if k < v then gt3 c k else if k = v then nx B l c v else 0 := by
  rcases (show v = 1 ∨ v = 2 ∨ v = 3 by omega) with rfl | rfl | rfl <;> rcases (show k = 1 ∨ k = 2 ∨ k = 3 by omega) with rfl | rfl | rfl <;> simp [gt3, nxt]
theorem eqv_ok {B : Bk} {r : Nat} {c d : C3} (h : eqv B (r + 1) c d) {v : Nat} (hv : 1 ≤ v) (hv3 : v ≤ 3) : okB B (bL B - (r + 1)) c v = okB B (bL B - (r + 1)) d v := by
  have m1 : ∀ k, 1 ≤ k → nu B (3 * (bL B - (r + 1)) + (k - 1)) ≤ mx B k (r + 1) := fun k _ => by unfold mx; omega
  have a1 := h 1 (by omega) (by omega)
  have a2 := h 2 (by omega) (by omega)
  have a3 := h 3 (by omega) (by omega)
  have b1 := m1 1 (by omega)
  have b2 := m1 2 (by omega)
  have b3 := m1 3 (by omega)
  simp only [Nat.sub_self, Nat.add_zero, Nat.reduceSub] at b1 b2 b3
  unfold okB
  have g0 : ∀ c : C3, gt3 c 0 = 1 := fun c => rfl
  rcases (show v = 1 ∨ v = 2 ∨ v = 3 by omega) with rfl | rfl | rfl
  · have e1 : decide (gt3 c 1 < nu B (3 * (bL B - (r + 1)))) = decide (gt3 d 1 < nu B (3 * (bL B - (r + 1)))) := decide_eq_decide.mpr (by omega)
    simp [g0, e1]
  · have e0 : decide (gt3 c 1 = 0) = decide (gt3 d 1 = 0) := decide_eq_decide.mpr (by omega)
    have e1 : decide (nu B (3 * (bL B - (r + 1))) = gt3 c 1) = decide (nu B (3 * (bL B - (r + 1))) = gt3 d 1) := decide_eq_decide.mpr (by omega)
    have e2 : decide (gt3 c 2 < nu B (3 * (bL B - (r + 1)) + 1)) = decide (gt3 d 2 < nu B (3 * (bL B - (r + 1)) + 1)) := decide_eq_decide.mpr (by omega)
    simp [e0, e1, e2]
  · have e0 : decide (gt3 c 2 = 0) = decide (gt3 d 2 = 0) := decide_eq_decide.mpr (by omega)
    have e1 : decide (nu B (3 * (bL B - (r + 1))) = gt3 c 1) = decide (nu B (3 * (bL B - (r + 1))) = gt3 d 1) := decide_eq_decide.mpr (by omega)
    have e2 : decide (nu B (3 * (bL B - (r + 1)) + 1) = gt3 c 2) = decide (nu B (3 * (bL B - (r + 1)) + 1) = gt3 d 2) := decide_eq_decide.mpr (by omega)
    have e3 : decide (gt3 c 3 < nu B (3 * (bL B - (r + 1)) + 2)) = decide (gt3 d 3 < nu B (3 * (bL B - (r + 1)) + 2)) := decide_eq_decide.mpr (by omega)
    simp [e0, e1, e2, e3]
theorem eqv_cost {B : Bk} {r : Nat} {c d : C3} (h : eqv B (r + 1) c d) (v : Nat) (hv3 : v ≤ 3) : lcost B (bL B - (r + 1)) c v = lcost B (bL B - (r + 1)) d v := by
  unfold lcost
  split
  · rfl
  · have a := h v (by omega) hv3
    have b : nu B (3 * (bL B - (r + 1)) + (v - 1)) ≤ mx B v (r + 1) := by unfold mx; omega
    have e : (nu B (3 * (bL B - (r + 1)) + (v - 1)) = gt3 c v + 1) = (nu B (3 * (bL B - (r + 1)) + (v - 1)) = gt3 d v + 1) := propext (by omega)
    unfold hcost
    simp only [e]
theorem eqv_next {B : Bk} {r : Nat} {c d : C3} (h : eqv B (r + 1) c d) (v : Nat) (hv3 : v ≤ 3) : eqv B r (nc B (bL B - (r + 1)) c v) (nc B (bL B - (r + 1)) d v) := by
  have m1 : ∀ k, mx B k r ≤ mx B k (r + 1) := fun k => by rw [mx]; omega
  intro k hk hk3
  have a := h k hk hk3
  have b := m1 k
  unfold nc
  by_cases hv : v = 0
  · rw [if_pos hv, if_pos hv]; omega
  · rw [if_neg hv, if_neg hv, gt3_nxt B _ c (by omega) hv3 hk hk3, gt3_nxt B _ d (by omega) hv3 hk hk3]
    by_cases h1 : k < v
    · rw [if_pos h1, if_pos h1]; omega
    · rw [if_neg h1, if_neg h1]
      by_cases h2 : k = v
      · rw [if_pos h2, if_pos h2]
        subst h2
        unfold nx
        split
        · omega
        · exact Or.inl rfl
      · rw [if_neg h2, if_neg h2]; exact Or.inl rfl
theorem eqv_may {B : Bk} {r : Nat} {c d : C3} (h : eqv B (r + 1) c d) (v : Nat) (hv3 : v ≤ 3) : may B (bL B - (r + 1)) c v = may B (bL B - (r + 1)) d v := by
  unfold may
  by_cases hv : v = 0
  · simp [hv]
  · rw [eqv_ok h (by omega) hv3]
theorem eqv_all {B : Bk} : ∀ (r : Nat) (c d : C3), eqv B r c d → ls B r c = ls B r d ∧ bits B r c = bits B r d
  | 0, _, _, _ => ⟨rfl, rfl⟩
  | r + 1, c, d, h => by
    have e : ∀ v, v ≤ 3 → cw B r c v = cw B r d v := fun v hv => by
      by_cases hm : may B (bL B - (r + 1)) c v = true
      · rw [cw_may hm, cw_may (by rw [← eqv_may h v hv]; exact hm), eqv_cost h v hv, (eqv_all r _ _ (eqv_next h v hv)).1]
      · rw [cw_not hm, cw_not (by rw [← eqv_may h v hv]; exact hm)]
    have e1 : ls B (r + 1) c = ls B (r + 1) d := by
      rw [ls_succ, ls_succ, e 0 (by omega), e 1 (by omega), e 2 (by omega), e 3 (by omega)]
    have e2 : gv B r c = gv B r d := by
      unfold gv
      rw [e 0 (by omega), e 1 (by omega), e 2 (by omega), e1]
    refine ⟨e1, ?_⟩
    rw [bits, bits, e2, (eqv_all r _ _ (eqv_next h (gv B r d) (gv_le B r d))).2]
theorem kb_eqv {B : Bk} {r : Nat} {c d : C3} (h : eqv B r c d) : kb B r c = kb B r d := by
  unfold kb
  rw [(eqv_all r c d h).1, (eqv_all r c d h).2]
def cap3 (B : Bk) (r : Nat) (c : C3) : C3 := (min c.1 (mx B 1 r + 1), min c.2.1 (mx B 2 r + 1), min c.2.2 (mx B 3 r + 1))
theorem eqv_cap (B : Bk) (r : Nat) (c : C3) : eqv B r c (cap3 B r c) := by
  intro k hk hk3
  rcases (show k = 1 ∨ k = 2 ∨ k = 3 by omega) with rfl | rfl | rfl
  · show c.1 = min c.1 (mx B 1 r + 1) ∨ (mx B 1 r < c.1 ∧ mx B 1 r < min c.1 (mx B 1 r + 1)); omega
  · show c.2.1 = min c.2.1 (mx B 2 r + 1) ∨ (mx B 2 r < c.2.1 ∧ mx B 2 r < min c.2.1 (mx B 2 r + 1)); omega
  · show c.2.2 = min c.2.2 (mx B 3 r + 1) ∨ (mx B 3 r < c.2.2 ∧ mx B 3 r < min c.2.2 (mx B 3 r + 1)); omega
theorem kb_cap (B : Bk) (r : Nat) (c : C3) : kb B r (cap3 B r c) = kb B r c := (kb_eqv (eqv_cap B r c)).symm
