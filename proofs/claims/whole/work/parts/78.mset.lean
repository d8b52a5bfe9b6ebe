/-! the reference: calls that change the book -/
theorem MI.set {B B' : Bk} {n : Nat} {μ μ' : Sg} (hI : MI B n μ) (hB : bok B') (hd : mdat B' μ') (h7 : μ' 7 = μ 7) (h34 : μ' 34 = μ 34) (h4 : μ' 4 0 = 0) : MI B' (n + 1) μ' := by
  obtain ⟨-, -, ⟨T, hT, c1, c2⟩, -⟩ := hI
  exact ⟨hB, hd, ⟨T, by omega, by rw [h7]; exact c1, fun p hp => by rw [h34]; exact c2 p hp⟩, Or.inl h4⟩
theorem m_clear {B : Bk} {n : Nat} {μ : Sg} (hI : MI B n μ) {post : Int32 → Sg → Prop} (hp : ∀ μ' : Sg, MI (bClear B) (n + 1) μ' → post (nI (bE B)) μ') : wp_X8_clear μ post := by
  unfold wp_X8_clear
  intro μ1 e1 y2 e2 μ3 e3 μ4 e4
  obtain ⟨hB, ⟨c1, c2, c3, c4⟩, -⟩ := id hI
  have k : ∀ j, j ≠ 2 → j ≠ 3 → j ≠ 4 → μ4 j = μ j := fun j u1 u2 u3 => by rw [e4, sig_ne u3, e3, sig_ne u1, e1, sig_ne u2]
  rw [e1, sig_ne (by decide), c4.1] at e2
  rw [e2]
  exact hp μ4 (hI.set (bClear_ok hB) ⟨mPg_same (μ := μ) (fun j hj => k j (by omega) (by omega) (by omega)) c1, mLn_same (μ := μ) (fun j hj => k j (by omega) (by omega) (by omega)) c2, mSe_same (μ := μ) (fun j hj => k j (by omega) (by omega) (by omega)) c3, ⟨by rw [e4, sig_ne (by decide), e3, sig_eq]; rfl, fun e he => absurd he (Nat.not_lt_zero e), fun i hi => absurd hi (Nat.not_lt_zero i)⟩⟩ (k 7 (by decide) (by decide) (by decide)) (k 34 (by decide) (by decide) (by decide)) (by rw [e4, sig_eq]))
theorem m_drop {B : Bk} {n : Nat} {μ : Sg} (hI : MI B n μ) {post : Int32 → Sg → Prop} (h1 : 0 < bL B → ∀ μ' : Sg, MI (bDrop B) (n + 1) μ' → post (nI (bL B - 1)) μ') (h0 : bL B = 0 → ∀ μ' : Sg, MI B (n + 1) μ' → post (-1) μ') : wp_X8_drop μ post := by
  unfold wp_X8_drop
  intro μ1 e1
  obtain ⟨hB, ⟨c1, c2, c3, c4⟩, -⟩ := id hI
  have h20 := hB.L
  have h11 : μ1 1 0 = nI (bL B) := by rw [e1, sig_ne (by decide)]; exact c2.1
  rw [h11, nI_eq0 (by omega)]
  refine ⟨fun g μ3 e3 μ4 e4 => ?_, fun g => h0 g μ1 ((hI.thr e1).mono (by omega))⟩
  rw [nlit 1, pk_sub (by omega)] at e3
  have k : ∀ j, j ≠ 1 → j ≠ 3 → j ≠ 4 → μ4 j = μ j := fun j u1 u2 u3 => by rw [e4, sig_ne u3, e3, sig_ne u1, e1, sig_ne u2]
  have h41 : μ4 1 0 = nI (bL B - 1) := by rw [e4, sig_ne (by decide), e3, sig_eq]
  have eL : bL (bDrop B) = bL B - 1 := rfl
  rw [h41]
  refine h1 (by omega) μ4 (hI.set (bDrop_ok hB) ⟨mPg_same (μ := μ) (fun j hj => k j (by omega) (by omega) (by omega)) c1, ⟨h41, fun l hl => ?_, fun i hi => ?_, fun l j hl hj => ?_⟩, mSe_same (μ := μ) (fun j hj => k j (by omega) (by omega) (by omega)) c3, mEn_same (μ := μ) (fun j hj => k j (by omega) (by omega) (by omega)) c4⟩ (k 7 (by decide) (by decide) (by decide)) (k 34 (by decide) (by decide) (by decide)) (by rw [e4, sig_eq]))
  · rw [k 10 (by decide) (by decide) (by decide), k 11 (by decide) (by decide) (by decide), k 12 (by decide) (by decide) (by decide), k 13 (by decide) (by decide) (by decide), k 15 (by decide) (by decide) (by decide)]
    exact c2.2.1 l (by rw [eL] at hl; omega)
  · rw [k 14 (by decide) (by decide) (by decide)]
    exact c2.2.2.1 i (by rw [eL] at hi; omega)
  · rw [k 16 (by decide) (by decide) (by decide)]
    exact c2.2.2.2 l j (by rw [eL] at hl; omega) hj
theorem m_read {B : Bk} {n : Nat} {μ : Sg} (hI : MI B n μ) {x y : Int32} {post : Int32 → Sg → Prop} (h1 : ∀ (p v : Nat) (μ' : Sg), p < bN B → x = nI p → v ≤ 999 → y = nI v → MI (bRead B p v) (n + 1) μ' → post 1 μ') (h0 : ¬ ((∃ p, p < bN B ∧ x = nI p) ∧ ∃ v, v ≤ 999 ∧ y = nI v) → ∀ μ' : Sg, MI B (n + 1) μ' → post 0 μ') : wp_X8_read x y μ post := by
  unfold wp_X8_read
  intro μ1 e1
  obtain ⟨hB, ⟨c1, c2, c3, c4⟩, -⟩ := id hI
  have hN := hB.N
  have h10 : μ1 0 0 = nI (bN B) := by rw [e1, sig_ne (by decide)]; exact c1.1
  have no : ¬ ((∃ p, p < bN B ∧ x = nI p) ∧ ∃ v, v ≤ 999 ∧ y = nI v) → post 0 μ1 := fun z => h0 z μ1 ((hI.thr e1).mono (by omega))
  rw [h10]
  refine m_in0 (by omega) (fun p hp ex => ⟨fun z => absurd z (by decide), fun _ => ?_⟩) (fun g => ⟨fun _ => no (fun z => by obtain ⟨⟨p, hp, e⟩, -⟩ := z; exact g p hp e), fun z => absurd rfl z⟩)
  refine m_in (a := 0) (b := 999) (by decide) (by decide) (fun v _ hv ey => ⟨fun _ => ⟨by rw [ex]; exact vp_in_nI (by omega) (by decide), fun μ7 e7 μ8 e8 => ?_⟩, fun z => absurd z (by decide)⟩) (fun g => ⟨fun z => absurd rfl z, fun _ => no (fun z => by obtain ⟨-, v, hv, e⟩ := z; exact g v (Nat.zero_le _) hv e)⟩)
  rw [ex, ey, nI_clamp (by omega)] at e7
  have k : ∀ j, j ≠ 3 → j ≠ 4 → j ≠ 9 → μ8 j = μ j := fun j u1 u2 u3 => by rw [e8, sig_ne u2, e7, sig_ne u3, e1, sig_ne u1]
  refine h1 p v μ8 hp ex hv ey (hI.set (bRead_ok hB hv) ⟨⟨by rw [k 0 (by decide) (by decide) (by decide)]; exact c1.1, fun q hq => ?_⟩, mLn_same (μ := μ) (fun j hj => k j (by omega) (by omega) (by omega)) c2, mSe_same (μ := μ) (fun j hj => k j (by omega) (by omega) (by omega)) c3, mEn_same (μ := μ) (fun j hj => k j (by omega) (by omega) (by omega)) c4⟩ (k 7 (by decide) (by decide) (by decide)) (k 34 (by decide) (by decide) (by decide)) (by rw [e8, sig_eq]))
  rw [e8, sig_ne (by decide), e7, sig_eq]
  show upd (μ1 9) p (nI v) q = nI (if q = p then v else rd B q)
  by_cases w : q = p
  · rw [w, pk_us, if_pos rfl]
  · rw [pk_un w, if_neg w, e1, sig_ne (by decide)]; exact c1.2 q hq
theorem m_price {B : Bk} {n : Nat} {μ : Sg} (hI : MI B n μ) {x y : Int32} {post : Int32 → Sg → Prop} (h1 : ∀ (k v : Nat) (μ' : Sg), k ≤ 9 → x = nI k → v ≤ 50 → y = nI v → MI (bPrice B k v) (n + 1) μ' → post (nI (pr B k)) μ') (h0 : ¬ ((∃ k, k ≤ 9 ∧ x = nI k) ∧ ∃ v, v ≤ 50 ∧ y = nI v) → ∀ μ' : Sg, MI B (n + 1) μ' → post (-1) μ') : wp_X8_price x y μ post := by
  unfold wp_X8_price
  intro μ1 e1
  obtain ⟨hB, ⟨c1, c2, c3, c4⟩, -⟩ := id hI
  have no : ¬ ((∃ k, k ≤ 9 ∧ x = nI k) ∧ ∃ v, v ≤ 50 ∧ y = nI v) → post (-1) μ1 := fun z => h0 z μ1 ((hI.thr e1).mono (by omega))
  refine m_in (a := 0) (b := 9) (by decide) (by decide) (fun p _ hp ex => ⟨fun z => absurd z (by decide), fun _ => ?_⟩) (fun g => ⟨fun _ => no (fun z => by obtain ⟨⟨p, hp, e⟩, -⟩ := z; exact g p (Nat.zero_le _) hp e), fun z => absurd rfl z⟩)
  have hvx : vp_in x 10 := by rw [ex]; exact vp_in_nI (by omega) (by decide)
  refine m_in (a := 0) (b := 50) (by decide) (by decide) (fun v _ hv ey => ⟨fun _ => ⟨hvx, fun y7 e7 => ⟨hvx, fun μ9 e9 μ10 e10 => ?_⟩⟩, fun z => absurd z (by decide)⟩) (fun g => ⟨fun z => absurd rfl z, fun _ => no (fun z => by obtain ⟨-, v, hv, e⟩ := z; exact g v (Nat.zero_le _) hv e)⟩)
  rw [ex, nI_clamp (by omega), e1, sig_ne (by decide), c3.1 p (by omega)] at e7
  rw [ex, ey, nI_clamp (by omega)] at e9
  rw [e7]
  have k : ∀ j, j ≠ 3 → j ≠ 4 → j ≠ 17 → μ10 j = μ j := fun j u1 u2 u3 => by rw [e10, sig_ne u2, e9, sig_ne u3, e1, sig_ne u1]
  refine h1 p v μ10 hp ex hv ey (hI.set (bPrice_ok hB hv) ⟨mPg_same (μ := μ) (fun j hj => k j (by omega) (by omega) (by omega)) c1, mLn_same (μ := μ) (fun j hj => k j (by omega) (by omega) (by omega)) c2, ⟨fun q hq => ?_, fun q hq => by rw [k 18 (by decide) (by decide) (by decide)]; exact c3.2 q hq⟩, mEn_same (μ := μ) (fun j hj => k j (by omega) (by omega) (by omega)) c4⟩ (k 7 (by decide) (by decide) (by decide)) (k 34 (by decide) (by decide) (by decide)) (by rw [e10, sig_eq]))
  rw [e10, sig_ne (by decide), e9, sig_eq]
  show upd (μ1 17) p (nI v) q = nI (if q = p then v else pr B q)
  by_cases w : q = p
  · rw [w, pk_us, if_pos rfl]
  · rw [pk_un w, if_neg w, e1, sig_ne (by decide)]; exact c3.1 q hq
theorem m_want {B : Bk} {n : Nat} {μ : Sg} (hI : MI B n μ) {x y : Int32} {post : Int32 → Sg → Prop} (h1 : ∀ (k v : Nat) (μ' : Sg), k ≤ 3 → x = nI k → (1 ≤ k → v ≤ 21) → (k = 0 → 2 ≤ v ∧ v ≤ 60) → y = nI v → MI (bWant B k v) (n + 1) μ' → post (nI (wa B k)) μ') (h0 : (∀ k v, k ≤ 3 → x = nI k → (1 ≤ k → v ≤ 21) → (k = 0 → 2 ≤ v ∧ v ≤ 60) → y ≠ nI v) → ∀ μ' : Sg, MI B (n + 1) μ' → post (-1) μ') : wp_X8_want x y μ post := by
  unfold wp_X8_want
  intro μ1 e1
  obtain ⟨hB, ⟨c1, c2, c3, c4⟩, -⟩ := id hI
  have no : (∀ k v, k ≤ 3 → x = nI k → (1 ≤ k → v ≤ 21) → (k = 0 → 2 ≤ v ∧ v ≤ 60) → y ≠ nI v) → post (-1) μ1 := fun z => h0 z μ1 ((hI.thr e1).mono (by omega))
  refine m_in (a := 0) (b := 3) (by decide) (by decide) (fun p _ hp ex => ⟨fun z => absurd z (by decide), fun _ => ?_⟩) (fun g => ⟨fun _ => no (fun p v hp ex _ _ _ => g p (Nat.zero_le _) hp ex), fun z => absurd rfl z⟩)
  have hvx : vp_in x 4 := by rw [ex]; exact vp_in_nI (by omega) (by decide)
  have put : ∀ v, (1 ≤ p → v ≤ 21) → (p = 0 → 2 ≤ v ∧ v ≤ 60) → y = nI v → wp_X8_want_43 post x y μ1 := fun v v1 v2 ey => by
    unfold wp_X8_want_43
    refine ⟨hvx, fun y2 e2 => ⟨hvx, fun μ4 e4 μ5 e5 => ?_⟩⟩
    rw [ex, nI_clamp (by omega), e1, sig_ne (by decide), c3.2 p (by omega)] at e2
    rw [ex, ey, nI_clamp (by omega)] at e4
    rw [e2]
    have k : ∀ j, j ≠ 3 → j ≠ 4 → j ≠ 18 → μ5 j = μ j := fun j u1 u2 u3 => by rw [e5, sig_ne u2, e4, sig_ne u3, e1, sig_ne u1]
    refine h1 p v μ5 hp ex v1 v2 ey (hI.set (bWant_ok hB v1 v2) ⟨mPg_same (μ := μ) (fun j hj => k j (by omega) (by omega) (by omega)) c1, mLn_same (μ := μ) (fun j hj => k j (by omega) (by omega) (by omega)) c2, ⟨fun q hq => by rw [k 17 (by decide) (by decide) (by decide)]; exact c3.1 q hq, fun q hq => ?_⟩, mEn_same (μ := μ) (fun j hj => k j (by omega) (by omega) (by omega)) c4⟩ (k 7 (by decide) (by decide) (by decide)) (k 34 (by decide) (by decide) (by decide)) (by rw [e5, sig_eq]))
    rw [e5, sig_ne (by decide), e4, sig_eq]
    show upd (μ1 18) p (nI v) q = nI (if q = p then v else wa B q)
    by_cases w : q = p
    · rw [w, pk_us, if_pos rfl]
    · rw [pk_un w, if_neg w, e1, sig_ne (by decide)]; exact c3.2 q hq
  have same : ∀ k, k ≤ 3 → x = nI k → k = p := fun k hk e => nI_inj (by omega) (by omega) (by rw [← e, ex])
  have hx0 : (x = 0) = (p = 0) := by rw [ex]; exact propext (nI_eq0 (by omega))
  rw [hx0]
  refine ⟨fun g => ?_, fun g => ?_⟩
  · refine m_in (a := 0) (b := 21) (by decide) (by decide) (fun v _ hv ey => ⟨fun _ => put v (fun _ => hv) (fun z => absurd z g) ey, fun z => absurd z (by decide)⟩) (fun w => ⟨fun z => absurd rfl z, fun _ => no (fun k v hk ek v1 _ ey => ?_)⟩)
    have := same k hk ek
    exact w v (Nat.zero_le _) (v1 (by omega)) ey
  · refine m_in (a := 2) (b := 60) (by decide) (by decide) (fun v hv1 hv ey => ⟨fun _ => put v (fun z => by omega) (fun _ => ⟨hv1, hv⟩) ey, fun z => absurd z (by decide)⟩) (fun w => ⟨fun z => absurd rfl z, fun _ => no (fun k v hk ek _ v2 ey => ?_)⟩)
    have := same k hk ek
    have v3 := v2 (by omega)
    exact w v v3.1 v3.2 ey
theorem m_book {B : Bk} {n : Nat} {μ : Sg} (hI : MI B n μ) {x : Int32} {post : Int32 → Sg → Prop} (h1 : ∀ (m : Nat) (μ' : Sg), 1 ≤ m → m ≤ 60 → x = nI m → MI (bBook B m) (n + 1) μ' → post 1 μ') (h0 : (∀ m, 1 ≤ m → m ≤ 60 → x ≠ nI m) → ∀ μ' : Sg, MI B (n + 1) μ' → post 0 μ') : wp_X8_book x μ post := by
  unfold wp_X8_book
  intro μ1 e1
  obtain ⟨hB, ⟨c1, c2, c3, c4⟩, -⟩ := id hI
  refine m_in (a := 1) (b := 60) (by decide) (by decide) (fun m m1 m2 ex => ⟨fun _ μ4 e4 => ⟨61, ?_⟩, fun z => absurd z (by decide)⟩) (fun g => ⟨fun z => absurd rfl z, fun _ => h0 g μ1 ((hI.thr e1).mono (by omega))⟩)
  have loop : ∀ (f i : Nat) (μ5 : Sg), i ≤ 60 → 60 < i + f → (∀ j, j ≠ 0 → j ≠ 3 → j ≠ 9 → μ5 j = μ j) → μ5 0 0 = nI m → (∀ q, q < i → μ5 9 q = nI 0) → wp_X8_book_24 post f (nI i) μ5 := by
    intro f
    induction f with
    | zero => intro i μ5 a1 a2; omega
    | succ f ih =>
      intro i μ5 a1 a2 hfr h50 hz
      unfold wp_X8_book_24
      rw [nlit 60, nI_leI (by decide) (by omega), nI_clamp (by omega), show nI i + (1 : Int32) = nI (i + 1) from nI_1 i]
      refine ⟨fun g μ6 e6 μ7 e7 μ8 e8 => ?_, fun g => ⟨vp_in_nI (by omega) (by decide), fun μ6 e6 => ?_⟩⟩
      · have k : ∀ j, j ≠ 1 → j ≠ 2 → j ≠ 4 → μ8 j = μ5 j := fun j u1 u2 u3 => by rw [e8, sig_ne u3, e7, sig_ne u2, e6, sig_ne u1]
        have k2 : ∀ j, j ≠ 0 → j ≠ 1 → j ≠ 2 → j ≠ 3 → j ≠ 4 → j ≠ 9 → μ8 j = μ j := fun j u0 u1 u2 u3 u4 u9 => by rw [k j u1 u2 u4]; exact hfr j u0 u3 u9
        exact h1 m μ8 m1 m2 ex (hI.set (bBook_ok hB m1 m2) ⟨⟨by rw [k 0 (by decide) (by decide) (by decide)]; exact h50, fun p hp => by rw [k 9 (by decide) (by decide) (by decide)]; exact hz p (by omega)⟩, ⟨by rw [e8, sig_ne (by decide), e7, sig_ne (by decide), e6, sig_eq]; rfl, fun l hl => absurd hl (Nat.not_lt_zero l), fun i hi => absurd hi (Nat.not_lt_zero i), fun l j hl => absurd hl (Nat.not_lt_zero l)⟩, mSe_same (μ := μ) (fun j hj => k2 j (by omega) (by omega) (by omega) (by omega) (by omega) (by omega)) c3, ⟨by rw [e8, sig_ne (by decide), e7, sig_eq]; rfl, fun e he => absurd he (Nat.not_lt_zero e), fun i hi => absurd hi (Nat.not_lt_zero i)⟩⟩ (k2 7 (by decide) (by decide) (by decide) (by decide) (by decide) (by decide)) (k2 34 (by decide) (by decide) (by decide) (by decide) (by decide) (by decide)) (by rw [e8, sig_eq]))
      · refine ih (i + 1) μ6 (by omega) (by omega) (fun j u0 u3 u9 => by rw [e6, sig_ne u9]; exact hfr j u0 u3 u9) (by rw [e6, sig_ne (by decide)]; exact h50) (fun q hq => ?_)
        rw [e6, sig_eq]
        by_cases w : q = i
        · rw [w, pk_us]; rfl
        · rw [pk_un w]; exact hz q (by omega)
  exact loop 61 0 μ4 (by decide) (by decide) (fun j u0 u3 _ => by rw [e4, sig_ne u0, e1, sig_ne u3]) (by rw [e4, sig_eq, ex]) (fun q hq => by omega)
