/-! the class: calls that change the book (first part) -/
def bClear (B : Bk) : Bk := va_up B 2 (fun _ => 0)
def bDrop (B : Bk) : Bk := va_up B 1 (fun _ => bL B - 1)
def bRead (B : Bk) (p v : Nat) : Bk := va_up B 3 (va_up (B 3) p v)
def bPrice (B : Bk) (k v : Nat) : Bk := va_up B 11 (va_up (B 11) k v)
def bWant (B : Bk) (k v : Nat) : Bk := va_up B 12 (va_up (B 12) k v)
def bBook (B : Bk) (n : Nat) : Bk := va_up (va_up (va_up (va_up B 0 (fun _ => n)) 3 (fun _ => 0)) 1 (fun _ => 0)) 2 (fun _ => 0)
theorem up1 (f : Nat → Nat) (k v j : Nat) : va_up f k v j = if j = k then v else f j := rfl
theorem bClear_ok {B : Bk} (h : bok B) : bok (bClear B) :=
  ⟨⟨h.1.1, h.1.2.1, h.1.2.2.1, Nat.zero_le _⟩, h.2.1, h.2.2.1, h.2.2.2.1, h.2.2.2.2.1, h.2.2.2.2.2.1, h.2.2.2.2.2.2.1, h.2.2.2.2.2.2.2.1, h.2.2.2.2.2.2.2.2.1, h.2.2.2.2.2.2.2.2.2.1, fun e he => absurd he (Nat.not_lt_zero e), h.2.2.2.2.2.2.2.2.2.2.2⟩
theorem bDrop_ok {B : Bk} (h : bok B) : bok (bDrop B) := by
  have e : bL (bDrop B) = bL B - 1 := rfl
  exact ⟨⟨h.1.1, h.1.2.1, by rw [e]; have := h.L; omega, h.1.2.2.2⟩, h.2.1, fun l hl => h.2.2.1 l (by rw [e] at hl; omega), fun l hl => h.2.2.2.1 l (by rw [e] at hl; omega), h.2.2.2.2.1, h.2.2.2.2.2.1, fun l k hl hk => h.2.2.2.2.2.2.1 l k (by rw [e] at hl; omega) hk, h.2.2.2.2.2.2.2.1, h.2.2.2.2.2.2.2.2.1, h.2.2.2.2.2.2.2.2.2.1, h.2.2.2.2.2.2.2.2.2.2.1, h.2.2.2.2.2.2.2.2.2.2.2⟩
theorem bRead_ok {B : Bk} (h : bok B) {p v : Nat} (hv : v ≤ 999) : bok (bRead B p v) := by
  refine ⟨h.1, fun q => ?_, h.2.2.1, h.2.2.2.1, h.2.2.2.2.1, h.2.2.2.2.2.1, h.2.2.2.2.2.2.1, h.2.2.2.2.2.2.2.1, h.2.2.2.2.2.2.2.2.1, h.2.2.2.2.2.2.2.2.2.1, h.2.2.2.2.2.2.2.2.2.2.1, h.2.2.2.2.2.2.2.2.2.2.2⟩
  show (if q = p then v else rd B q) ≤ 999
  have := h.hrd q
  split <;> omega
theorem bPrice_ok {B : Bk} (h : bok B) {k v : Nat} (hv : v ≤ 50) : bok (bPrice B k v) := by
  refine ⟨h.1, h.2.1, h.2.2.1, h.2.2.2.1, h.2.2.2.2.1, h.2.2.2.2.2.1, h.2.2.2.2.2.2.1, fun q => ?_, h.2.2.2.2.2.2.2.2.1, h.2.2.2.2.2.2.2.2.2.1, h.2.2.2.2.2.2.2.2.2.2.1, h.2.2.2.2.2.2.2.2.2.2.2⟩
  show (if q = k then v else pr B q) ≤ 50
  have := h.hpr q
  split <;> omega
theorem bWant_ok {B : Bk} (h : bok B) {k v : Nat} (hv : 1 ≤ k → v ≤ 21) (h0 : k = 0 → 2 ≤ v ∧ v ≤ 60) : bok (bWant B k v) := by
  refine ⟨h.1, h.2.1, h.2.2.1, h.2.2.2.1, h.2.2.2.2.1, h.2.2.2.2.2.1, h.2.2.2.2.2.2.1, h.2.2.2.2.2.2.2.1, fun q hq => ?_, ?_, h.2.2.2.2.2.2.2.2.2.2.1, h.2.2.2.2.2.2.2.2.2.2.2⟩
  · show (if q = k then v else wa B q) ≤ 21
    have := h.hwa hq
    split
    · exact hv (by omega)
    · exact this
  · show 2 ≤ (if 0 = k then v else wa B 0) ∧ (if 0 = k then v else wa B 0) ≤ 60
    have := h.hmany
    split
    · exact h0 (by omega)
    · exact this
theorem bBook_ok {B : Bk} (h : bok B) {n : Nat} (h1 : 1 ≤ n) (h2 : n ≤ 60) : bok (bBook B n) :=
  ⟨⟨h1, h2, Nat.zero_le _, Nat.zero_le _⟩, fun _ => Nat.zero_le _, fun l hl => absurd hl (Nat.not_lt_zero l), fun l hl => absurd hl (Nat.not_lt_zero _), h.2.2.2.2.1, h.2.2.2.2.2.1, fun l k hl => absurd hl (Nat.not_lt_zero l), h.2.2.2.2.2.2.2.1, h.2.2.2.2.2.2.2.2.1, h.2.2.2.2.2.2.2.2.2.1, fun e he => absurd he (Nat.not_lt_zero e), h.2.2.2.2.2.2.2.2.2.2.2⟩
theorem s_X7_clear {B : Bk} {σ : Sg} {τ : Tg} (hI : CI B σ τ) {post : Int32 → Sg → Tg → Prop} (hp : ∀ σ' : Sg, CI (bClear B) σ' τ → post (nI (bE B)) σ' τ) : wp_X7_clear σ τ post := by
  obtain ⟨hB, ⟨c1, c2, c3, c4, c5, c6, c7⟩, f1, f2, f3⟩ := id hI
  unfold wp_X7_clear
  intro y1 e1 σ2 e2 σ3 e3
  have e8 : ∀ k, k ≠ 1 → k ≠ 10 → σ3 k = σ k := fun k u1 u2 => by rw [e3, sig_ne u1, e2, sig_ne u2]
  have hc : ceq B (bClear B) := fun k hk => sig_ne (by omega)
  have hd : deq B (bClear B) := fun k hk => sig_ne (by omega)
  rw [e1, c4.1]
  refine hp σ3 ⟨bClear_ok hB, ⟨cPg_same (σ := σ) (fun k hk => e8 k (by omega) (by omega)) c1, cLn_same (σ := σ) (fun k hk => e8 k (by omega) (by omega)) c2, cSe_same (σ := σ) (fun k hk => e8 k (by omega) (by omega)) c3, ⟨by rw [e3, sig_ne (by decide), e2, sig_eq]; rfl, fun e he => absurd he (Nat.not_lt_zero e)⟩, by rw [e8 33 (by decide) (by decide)]; exact c5, c6, fun t ht => by rw [e8 46 (by decide) (by decide)]; exact c7 t ht⟩, ?_, Or.inl (by rw [e3, sig_eq]), ?_⟩
  · rw [e8 0 (by decide) (by decide)]
    rcases f1 with z | z
    · exact Or.inl z
    · exact Or.inr ⟨z.1, treeOK_same (fun k hk => e8 k (by omega) (by omega)) (treeOK_c hc z.2)⟩
  · rw [e8 2 (by decide) (by decide)]
    rcases f3 with z | z
    · exact Or.inl z
    · exact Or.inr ⟨z.1, shOK_same (fun k hk => e8 k (by omega) (by omega)) (shOK_c hd z.2)⟩
theorem s_X7_drop {B : Bk} {σ : Sg} {τ : Tg} (hI : CI B σ τ) {post : Int32 → Sg → Tg → Prop} (h1 : 0 < bL B → ∀ σ' : Sg, CI (bDrop B) σ' τ → post (nI (bL B - 1)) σ' τ) (h0 : bL B = 0 → post (-1) σ τ) : wp_X7_drop σ τ post := by
  obtain ⟨hB, ⟨c1, c2, c3, c4, c5, c6, c7⟩, f1, f2, f3⟩ := id hI
  have h20 := hB.L
  unfold wp_X7_drop
  rw [c2.1, show (nI (bL B) = 0) = (bL B = 0) from propext (nI_eq (b := 0) (by omega) (by decide))]
  refine ⟨fun h σ2 e2 σ3 e3 => ?_, h0⟩
  rw [nlit 1, pk_sub (by omega)] at e2
  have e8 : ∀ k, k ≠ 0 → k ≠ 5 → σ3 k = σ k := fun k u1 u2 => by rw [e3, sig_ne u1, e2, sig_ne u2]
  have h5 : σ3 5 0 = nI (bL B - 1) := by rw [e3, sig_ne (by decide), e2, sig_eq]
  have hd : deq B (bDrop B) := fun k hk => sig_ne (by omega)
  have eL : bL (bDrop B) = bL B - 1 := rfl
  rw [h5]
  refine h1 (by omega) σ3 ⟨bDrop_ok hB, ⟨cPg_same (σ := σ) (fun k hk => e8 k (by omega) (by omega)) c1, ⟨h5, fun l hl => ?_, fun i hi => ?_⟩, cSe_same (σ := σ) (fun k hk => e8 k (by omega) (by omega)) c3, cEn_same (σ := σ) (fun k hk => e8 k (by omega) (by omega)) c4, by rw [e8 33 (by decide) (by decide)]; exact c5, c6, fun t ht => by rw [e8 46 (by decide) (by decide)]; exact c7 t ht⟩, Or.inl (by rw [e3, sig_eq]), ?_, ?_⟩
  · rw [e8 19 (by decide) (by decide), e8 20 (by decide) (by decide), e8 21 (by decide) (by decide), e8 22 (by decide) (by decide), e8 23 (by decide) (by decide), e8 24 (by decide) (by decide), e8 25 (by decide) (by decide)]
    exact c2.2.1 l (by rw [eL] at hl; omega)
  · rw [e8 26 (by decide) (by decide)]
    exact c2.2.2 i (by rw [eL] at hi; omega)
  · rw [e8 1 (by decide) (by decide)]
    rcases f2 with z | z
    · exact Or.inl z
    · exact Or.inr ⟨z.1, Or.inl (by rw [e3, sig_eq])⟩
  · rw [e8 2 (by decide) (by decide)]
    rcases f3 with z | z
    · exact Or.inl z
    · exact Or.inr ⟨z.1, shOK_same (fun k hk => e8 k (by omega) (by omega)) (shOK_c hd z.2)⟩
theorem s_X7_read {B : Bk} {σ : Sg} {τ : Tg} (hI : CI B σ τ) {x y : Int32} {post : Int32 → Sg → Tg → Prop} (h1 : ∀ (p v : Nat) (σ' : Sg), p < bN B → x = nI p → v ≤ 999 → y = nI v → CI (bRead B p v) σ' τ → post 1 σ' τ) (h0 : ¬ ((∃ p, p < bN B ∧ x = nI p) ∧ ∃ v, v ≤ 999 ∧ y = nI v) → post 0 σ τ) : wp_X7_read x y σ τ post := by
  obtain ⟨hB, ⟨c1, c2, c3, c4, c5, c6, c7⟩, f1, f2, f3⟩ := id hI
  have hN := hB.N
  unfold wp_X7_read
  refine s_X3_has hB c1 (fun p hp ex => ⟨fun z => absurd z (by decide), fun _ => ?_⟩) (fun g => ⟨fun _ => h0 (fun z => by obtain ⟨⟨p, hp, e⟩, -⟩ := z; exact g p hp e), fun z => absurd rfl z⟩)
  refine s_in (a := 0) (b := 999) (by decide) (by decide) (fun v _ hv ey => ⟨fun _ => ⟨by rw [ex]; exact vp_in_nI (by omega) (by decide), fun σ8 e8' σ9 e9 σ10 e10 => ?_⟩, fun z => absurd z (by decide)⟩) (fun g => ⟨fun z => absurd rfl z, fun _ => h0 (fun z => by obtain ⟨-, v, hv, e⟩ := z; exact g v (Nat.zero_le _) hv e)⟩)
  rw [ex, ey, nI_clamp (by omega)] at e8'
  have e8 : ∀ k, k ≠ 1 → k ≠ 2 → k ≠ 18 → σ10 k = σ k := fun k u1 u2 u3 => by rw [e10, sig_ne u2, e9, sig_ne u1, e8', sig_ne u3]
  have hc : ceq B (bRead B p v) := fun k hk => sig_ne (by omega)
  refine h1 p v σ10 hp ex hv ey ⟨bRead_ok hB hv, ⟨⟨by rw [e8 4 (by decide) (by decide) (by decide)]; exact c1.1, fun q hq => ?_⟩, cLn_same (σ := σ) (fun k hk => e8 k (by omega) (by omega) (by omega)) c2, cSe_same (σ := σ) (fun k hk => e8 k (by omega) (by omega) (by omega)) c3, cEn_same (σ := σ) (fun k hk => e8 k (by omega) (by omega) (by omega)) c4, by rw [e8 33 (by decide) (by decide) (by decide)]; exact c5, c6, fun t ht => by rw [e8 46 (by decide) (by decide) (by decide)]; exact c7 t ht⟩, ?_, Or.inl (by rw [e10, sig_ne (by decide), e9, sig_eq]), Or.inl (by rw [e10, sig_eq])⟩
  · rw [e10, sig_ne (by decide), e9, sig_ne (by decide), e8', sig_eq]
    show upd (σ 18) p (nI v) q = nI (if q = p then v else rd B q)
    by_cases w : q = p
    · rw [w, pk_us, if_pos rfl]
    · rw [pk_un w, if_neg w]; exact c1.2 q hq
  · rw [e8 0 (by decide) (by decide) (by decide)]
    rcases f1 with z | z
    · exact Or.inl z
    · exact Or.inr ⟨z.1, treeOK_same (fun k hk => e8 k (by omega) (by omega) (by omega)) (treeOK_c hc z.2)⟩
theorem s_X7_price {B : Bk} {σ : Sg} {τ : Tg} (hI : CI B σ τ) {x y : Int32} {post : Int32 → Sg → Tg → Prop} (h1 : ∀ (k v : Nat) (σ' : Sg), k ≤ 9 → x = nI k → v ≤ 50 → y = nI v → CI (bPrice B k v) σ' τ → post (nI (pr B k)) σ' τ) (h0 : ¬ ((∃ k, k ≤ 9 ∧ x = nI k) ∧ ∃ v, v ≤ 50 ∧ y = nI v) → post (-1) σ τ) : wp_X7_price x y σ τ post := by
  obtain ⟨hB, ⟨c1, c2, c3, c4, c5, c6, c7⟩, f1, f2, f3⟩ := id hI
  unfold wp_X7_price
  refine s_in (a := 0) (b := 9) (by decide) (by decide) (fun k _ hk ex => ⟨fun z => absurd z (by decide), fun _ => ?_⟩) (fun g => ⟨fun _ => h0 (fun z => by obtain ⟨⟨k, hk, e⟩, -⟩ := z; exact g k (Nat.zero_le _) hk e), fun z => absurd rfl z⟩)
  have hvx : vp_in x 10 := by rw [ex]; exact vp_in_nI (by omega) (by decide)
  refine s_in (a := 0) (b := 50) (by decide) (by decide) (fun v _ hv ey => ⟨fun _ => ⟨hvx, fun y6 e6 => ⟨hvx, fun σ8 e8' σ1 e1 σ2 e2 σ3 e3 => ?_⟩⟩, fun z => absurd z (by decide)⟩) (fun g => ⟨fun z => absurd rfl z, fun _ => h0 (fun z => by obtain ⟨-, v, hv, e⟩ := z; exact g v (Nat.zero_le _) hv e)⟩)
  rw [ex, nI_clamp (by omega), c3.2.1 k (by omega)] at e6
  rw [ex, ey, nI_clamp (by omega)] at e8'
  rw [e6]
  have e8 : ∀ j, 3 ≤ j → j ≠ 16 → σ3 j = σ j := fun j u1 u2 => by rw [e3, sig_ne (by omega), e2, sig_ne (by omega), e1, sig_ne (by omega), e8', sig_ne u2]
  refine h1 k v σ3 hk ex hv ey ⟨bPrice_ok hB hv, ⟨cPg_same (σ := σ) (fun k hk => e8 k (by omega) (by omega)) c1, cLn_same (σ := σ) (fun k hk => e8 k (by omega) (by omega)) c2, ⟨by rw [e8 3 (by decide) (by decide)]; exact c3.1, fun j hj => ?_, fun j u1 u2 => by rw [e8 17 (by decide) (by decide)]; exact c3.2.2 j u1 u2⟩, cEn_same (σ := σ) (fun k hk => e8 k (by omega) (by omega)) c4, by rw [e8 33 (by decide) (by decide)]; exact c5, c6, fun t ht => by rw [e8 46 (by decide) (by decide)]; exact c7 t ht⟩, Or.inl (by rw [e3, sig_ne (by decide), e2, sig_ne (by decide), e1, sig_eq]), Or.inl (by rw [e3, sig_ne (by decide), e2, sig_eq]), Or.inl (by rw [e3, sig_eq])⟩
  rw [e3, sig_ne (by decide), e2, sig_ne (by decide), e1, sig_ne (by decide), e8', sig_eq]
  show upd (σ 16) k (nI v) j = nI (if j = k then v else pr B j)
  by_cases w : j = k
  · rw [w, pk_us, if_pos rfl]
  · rw [pk_un w, if_neg w]; exact c3.2.1 j hj
