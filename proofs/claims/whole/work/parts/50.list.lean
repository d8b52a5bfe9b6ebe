/-! THE LIST, in plain numbers -/
theorem fb_xorI (a b : Nat) : nI a ^^^ nI b = nI (a ^^^ b) := by
  apply Int32.toBitVec_inj.1
  show BitVec.ofNat 32 a ^^^ BitVec.ofNat 32 b = BitVec.ofNat 32 (a ^^^ b)
  apply BitVec.eq_of_getLsbD_eq
  intro i hi
  simp [hi]
theorem xor0 {x y : Nat} : x ^^^ y = 0 ↔ x = y := by
  constructor
  · intro h
    have e : (x ^^^ y) ^^^ y = 0 ^^^ y := by rw [h]
    rw [Nat.xor_assoc, Nat.xor_self, Nat.xor_zero, Nat.zero_xor] at e
    exact e
  · intro h; rw [h, Nat.xor_self]
def ne01 (a b : Nat) : Nat := if a = b then 0 else 1
theorem ne01_le (a b : Nat) : ne01 a b ≤ 1 := by unfold ne01; split <;> omega
def hdl (B : Bk) : Nat → Nat → Nat
  | 0, _ => 0
  | l + 1, j => if lv B l ≠ 0 ∧ hn B l = j then l else hdl B l j
theorem hdl_of {B : Bk} {l : Nat} (h0 : lv B l ≠ 0) : ∀ L, l < L → hdl B L (hn B l) = l
  | 0, h => by omega
  | L + 1, h => by
    unfold hdl
    by_cases e : l = L
    · subst e; rw [if_pos ⟨h0, rfl⟩]
    · have hm : hn B (l + 1) ≤ hn B L := by
        have : ∀ d, hn B (l + 1) ≤ hn B (l + 1 + d) := by
          intro d
          induction d with
          | zero => exact Nat.le_refl _
          | succ d ih =>
            show hn B (l + 1) ≤ hn B (l + 1 + d) + (if lv B (l + 1 + d) = 0 then 0 else 1)
            omega
        have h9 := this (L - (l + 1))
        rwa [show l + 1 + (L - (l + 1)) = L by omega] at h9
      rw [hn, if_neg h0] at hm
      rw [if_neg (fun z => by omega)]
      exact hdl_of h0 L (by omega)
theorem hdl_ok {B : Bk} : ∀ L j, j < hn B L → hdl B L j < L ∧ lv B (hdl B L j) ≠ 0 ∧ hn B (hdl B L j) = j
  | 0, j, h => by unfold hn at h; omega
  | L + 1, j, h => by
    unfold hdl
    by_cases e : lv B L ≠ 0 ∧ hn B L = j
    · rw [if_pos e]; exact ⟨by omega, e.1, e.2⟩
    · rw [if_neg e]
      rw [hn] at h
      have hj : j < hn B L := by
        by_cases e0 : lv B L = 0
        · rw [if_pos e0] at h; omega
        · rw [if_neg e0] at h
          have : hn B L ≠ j := fun z => e ⟨e0, z⟩
          omega
      have := hdl_ok L j hj
      exact ⟨by omega, this.2⟩
abbrev bH (B : Bk) : Nat := hn B (bL B)
abbrev hd (B : Bk) (j : Nat) : Nat := hdl B (bL B) j
def slips (B : Bk) (e l : Nat) : Nat := (ne01 (ew B (8 * e)) (wd B (8 * l)) + ne01 (ew B (8 * e + 1)) (wd B (8 * l + 1)) + ne01 (ew B (8 * e + 2)) (wd B (8 * l + 2)) + ne01 (ew B (8 * e + 3)) (wd B (8 * l + 3))) + (ne01 (ew B (8 * e + 4)) (wd B (8 * l + 4)) + ne01 (ew B (8 * e + 5)) (wd B (8 * l + 5)) + ne01 (ew B (8 * e + 6)) (wd B (8 * l + 6)) + ne01 (ew B (8 * e + 7)) (wd B (8 * l + 7)))
def pcost (B : Bk) (e l : Nat) : Nat := pr B 4 * slips B e l + pr B 5 * absd (el B e) (lv B l) + (if rd B (pg B l) = en B e then 0 else pr B 6)
theorem slips_le (B : Bk) (e l : Nat) : slips B e l ≤ 8 := by
  unfold slips
  have := ne01_le (ew B (8 * e)) (wd B (8 * l)); have := ne01_le (ew B (8 * e + 1)) (wd B (8 * l + 1)); have := ne01_le (ew B (8 * e + 2)) (wd B (8 * l + 2)); have := ne01_le (ew B (8 * e + 3)) (wd B (8 * l + 3))
  have := ne01_le (ew B (8 * e + 4)) (wd B (8 * l + 4)); have := ne01_le (ew B (8 * e + 5)) (wd B (8 * l + 5)); have := ne01_le (ew B (8 * e + 6)) (wd B (8 * l + 6)); have := ne01_le (ew B (8 * e + 7)) (wd B (8 * l + 7))
  omega
theorem pcost_le {B : Bk} (hB : bok B) {e : Nat} (he : e < bE B) (l : Nat) : pcost B e l ≤ 600 := by
  have h1 := slips_le B e l
  have h2 := hB.hel he
  have h3 := lv_le B l
  have h4 := hB.hpr 4; have h5 := hB.hpr 5; have h6 := hB.hpr 6
  have h7 : absd (el B e) (lv B l) ≤ 3 := by unfold absd; omega
  have m1 : pr B 4 * slips B e l ≤ 50 * 8 := Nat.mul_le_mul h4 h1
  have m2 : pr B 5 * absd (el B e) (lv B l) ≤ 50 * 3 := Nat.mul_le_mul h5 h7
  unfold pcost
  split <;> omega
/-- least cost of the last a entries and the last b heads -/
def lf (B : Bk) : Nat → Nat → Nat
  | 0, b => pr B 7 * b
  | a + 1, 0 => pr B 7 * (a + 1)
  | a + 1, b + 1 => min (pr B 7 + min (lf B a (b + 1)) (lf B (a + 1) b)) (pcost B (bE B - (a + 1)) (hd B (bH B - (b + 1))) + lf B a b)
theorem lf_0 (B : Bk) : ∀ a, lf B a 0 = pr B 7 * a
  | 0 => by rw [lf]
  | a + 1 => by rw [lf]
theorem lf_le {B : Bk} : ∀ a b, lf B a b ≤ pr B 7 * (a + b)
  | 0, b => by unfold lf; rw [Nat.zero_add]; exact Nat.le_refl _
  | a + 1, 0 => by unfold lf; exact Nat.le_refl _
  | a + 1, b + 1 => by
    have h := lf_le (B := B) a (b + 1)
    unfold lf
    have e : pr B 7 * (a + 1 + (b + 1)) = pr B 7 + pr B 7 * (a + (b + 1)) := by
      rw [show a + 1 + (b + 1) = (a + (b + 1)) + 1 by omega, Nat.mul_add, Nat.mul_one]; omega
    omega
theorem lf_b {B : Bk} : ∀ a b, lf B a (b + 1) ≤ pr B 7 + lf B a b
  | 0, b => by unfold lf; rw [Nat.mul_add, Nat.mul_one]; omega
  | a + 1, b => by
    rw [lf]; omega
theorem lf_a {B : Bk} : ∀ a b, lf B (a + 1) b ≤ pr B 7 + lf B a b
  | a, 0 => by rw [lf_0, lf_0, Nat.mul_add, Nat.mul_one]; omega
  | a, b + 1 => by rw [lf]; omega
/-- the cost if entry E-(a+1) takes the head t places on -/
def ct (B : Bk) (a b t : Nat) : Nat := pr B 7 * t + pcost B (bE B - (a + 1)) (hd B (bH B - (b - t))) + lf B a (b - t - 1)
theorem lf_ct {B : Bk} (a : Nat) : ∀ b t, t < b → lf B (a + 1) b ≤ ct B a b t
  | 0, t, h => by omega
  | b + 1, t, h => by
    rw [lf]
    rcases Nat.eq_zero_or_pos t with q | q
    · subst q
      unfold ct
      rw [Nat.mul_zero, Nat.sub_zero, Nat.add_sub_cancel]
      omega
    · have ih := lf_ct (B := B) a b (t - 1) (by omega)
      have e : ct B a (b + 1) t = pr B 7 + ct B a b (t - 1) := by
        unfold ct
        rw [show b + 1 - t = b - (t - 1) by omega, show pr B 7 * t = pr B 7 + pr B 7 * (t - 1) by
          rw [show t = (t - 1) + 1 by omega, Nat.mul_add, Nat.mul_one, Nat.add_sub_cancel]; omega]
        omega
      rw [e]; omega
theorem lf_some {B : Bk} (a : Nat) : ∀ b, lf B (a + 1) b = pr B 7 + lf B a b ∨ ∃ t, t < b ∧ lf B (a + 1) b = ct B a b t
  | 0 => Or.inl (by rw [lf_0, lf_0, Nat.mul_add, Nat.mul_one]; omega)
  | b + 1 => by
    have ha := lf_a (B := B) a (b + 1)
    have hb := lf_b (B := B) a b
    have e0 : lf B (a + 1) (b + 1) = min (pr B 7 + min (lf B a (b + 1)) (lf B (a + 1) b)) (pcost B (bE B - (a + 1)) (hd B (bH B - (b + 1))) + lf B a b) := by rw [lf]
    have c0 : ct B a (b + 1) 0 = pcost B (bE B - (a + 1)) (hd B (bH B - (b + 1))) + lf B a b := by
      unfold ct; rw [Nat.mul_zero, Nat.sub_zero, Nat.add_sub_cancel, Nat.zero_add]
    by_cases h1 : lf B (a + 1) (b + 1) = pr B 7 + lf B a (b + 1)
    · exact Or.inl h1
    · by_cases h2 : lf B (a + 1) (b + 1) = ct B a (b + 1) 0
      · exact Or.inr ⟨0, by omega, h2⟩
      · have h3 : lf B (a + 1) (b + 1) = pr B 7 + lf B (a + 1) b := by omega
        rcases lf_some (B := B) a b with q | ⟨t, ht, q⟩
        · omega
        · refine Or.inr ⟨t + 1, by omega, ?_⟩
          rw [h3, q]
          unfold ct
          rw [show b + 1 - (t + 1) = b - t by omega, Nat.mul_add, Nat.mul_one]
          omega
/-- the first place where p holds, from h on, n places looked at -/
def frst (p : Nat → Bool) : Nat → Nat → Nat
  | h, 0 => h
  | h, n + 1 => if p h = true then h else frst p (h + 1) n
def fpr (B : Bk) (e fr h : Nat) : Bool := decide (pr B 7 * (h - fr) + pcost B e (hd B h) + lf B (bE B - (e + 1)) (bH B - (h + 1)) = lf B (bE B - e) (bH B - fr))
/-- the head that entry e takes (bH: none), the heads ahead of fr being gone -/
def fh (B : Bk) (e fr : Nat) : Nat := frst (fpr B e fr) fr (bH B - fr)
def fro (B : Bk) : Nat → Nat
  | 0 => 0
  | e + 1 => if fh B e (fro B e) < bH B then fh B e (fro B e) + 1 else fro B e
theorem frst_le (p : Nat → Bool) : ∀ n h, h ≤ frst p h n ∧ frst p h n ≤ h + n
  | 0, h => ⟨Nat.le_refl _, Nat.le_refl _⟩
  | n + 1, h => by
    unfold frst
    split
    · omega
    · have := frst_le p n (h + 1); omega
theorem fro_le (B : Bk) : ∀ e, fro B e ≤ bH B
  | 0 => Nat.zero_le _
  | e + 1 => by
    have := fro_le B e
    unfold fro
    split <;> omega
theorem fh_le (B : Bk) (e : Nat) : fro B e ≤ fh B e (fro B e) ∧ fh B e (fro B e) ≤ bH B := by
  have h1 := frst_le (fpr B e (fro B e)) (bH B - fro B e) (fro B e)
  have h2 := fro_le B e
  unfold fh; omega
