/-! the class: calls that change the book (second part) -/
theorem want_ci {B : Bk} {σ σ' : Sg} {τ : Tg} (hI : CI B σ τ) {k v : Nat} (hk : k ≤ 3) (hv : 1 ≤ k → v ≤ 21) (h0 : k = 0 → 2 ≤ v ∧ v ≤ 60) (e8 : ∀ j, j ≠ 0 → j ≠ 3 → j ≠ 17 → σ' j = σ j) (h3 : σ' 3 0 = nI (if 0 = k then v else wa B 0)) (h17 : ∀ j, 1 ≤ j → j ≤ 3 → σ' 17 j = nI (if j = k then v else wa B j)) (ho : σ' 0 0 = 1) : CI (bWant B k v) σ' τ := by
  obtain ⟨hB, ⟨c1, c2, c3, c4, c5, c6, c7⟩, f1, f2, f3⟩ := id hI
  have hd : deq B (bWant B k v) := fun k hk => sig_ne (by omega)
  refine ⟨bWant_ok hB hv h0, ⟨cPg_same (σ := σ) (fun k hk => e8 k (by omega) (by omega) (by omega)) c1, cLn_same (σ := σ) (fun k hk => e8 k (by omega) (by omega) (by omega)) c2, ⟨h3, fun j hj => by rw [e8 16 (by decide) (by decide) (by decide)]; exact c3.2.1 j hj, h17⟩, cEn_same (σ := σ) (fun k hk => e8 k (by omega) (by omega) (by omega)) c4, by rw [e8 33 (by decide) (by decide) (by decide)]; exact c5, c6, fun t ht => by rw [e8 46 (by decide) (by decide) (by decide)]; exact c7 t ht⟩, Or.inl ho, ?_, ?_⟩
  · rw [e8 1 (by decide) (by decide) (by decide)]
    rcases f2 with z | z
    · exact Or.inl z
    · exact Or.inr ⟨z.1, Or.inl ho⟩
  · rw [e8 2 (by decide) (by decide) (by decide)]
    rcases f3 with z | z
    · exact Or.inl z
    · exact Or.inr ⟨z.1, shOK_same (fun k hk => e8 k (by omega) (by omega) (by omega)) (shOK_c hd z.2)⟩
theorem s_X7_want {B : Bk} {σ : Sg} {τ : Tg} (hI : CI B σ τ) {x y : Int32} {post : Int32 → Sg → Tg → Prop} (h1 : ∀ (k v : Nat) (σ' : Sg), k ≤ 3 → x = nI k → (1 ≤ k → v ≤ 21) → (k = 0 → 2 ≤ v ∧ v ≤ 60) → y = nI v → CI (bWant B k v) σ' τ → post (nI (wa B k)) σ' τ) (h0 : (∀ k v, k ≤ 3 → x = nI k → (1 ≤ k → v ≤ 21) → (k = 0 → 2 ≤ v ∧ v ≤ 60) → y ≠ nI v) → post (-1) σ τ) : wp_X7_want x y σ τ post := by
  obtain ⟨hB, ⟨c1, c2, c3, c4, c5, c6, c7⟩, f1, f2, f3⟩ := id hI
  unfold wp_X7_want
  refine ⟨fun hx => ?_, fun hx => ?_⟩
  · refine s_in (a := 1) (b := 3) (by decide) (by decide) (fun k k1 k3 ex => ⟨fun z => absurd z (by decide), fun _ => ?_⟩) (fun g => ⟨fun _ => h0 (fun k v k3 ex _ _ _ => ?_), fun z => absurd rfl z⟩)
    · have hvx : vp_in x 4 := by rw [ex]; exact vp_in_nI (by omega) (by decide)
      refine s_in (a := 0) (b := 21) (by decide) (by decide) (fun v _ hv ey => ⟨fun _ => ⟨hvx, fun y7 e7 => ⟨hvx, fun σ9 e9 σ10 e10 => ?_⟩⟩, fun z => absurd z (by decide)⟩) (fun g => ⟨fun z => absurd rfl z, fun _ => h0 (fun k' v k3' ex' hv1 _ ey => ?_)⟩)
      · rw [ex, nI_clamp (by omega), c3.2.2 k k1 k3] at e7
        rw [ex, ey, nI_clamp (by omega)] at e9
        rw [e7]
        refine h1 k v σ10 k3 ex (fun _ => hv) (fun z => by omega) ey (want_ci hI k3 (fun _ => hv) (fun z => by omega) (fun j u1 u2 u3 => by rw [e10, sig_ne u1, e9, sig_ne u3]) ?_ (fun j u1 u2 => ?_) (by rw [e10, sig_eq]))
        · rw [if_neg (by omega), e10, sig_ne (by decide), e9, sig_ne (by decide)]; exact c3.1
        · rw [e10, sig_ne (by decide), e9, sig_eq]
          by_cases w : j = k
          · rw [w, pk_us, if_pos rfl]
          · rw [pk_un w, if_neg w]; exact c3.2.2 j u1 u2
      · rw [ex] at ex'
        have := nI_inj (by omega) (by omega) ex'
        exact g v (Nat.zero_le _) (hv1 (by omega)) ey
    · rcases Nat.eq_zero_or_pos k with q | q
      · subst q; exact hx ex
      · exact g k q k3 ex
  · unfold wp_X7_putMany
    refine s_in (a := 2) (b := 60) (by decide) (by decide) (fun v v1 v2 ey => ⟨fun _ y3 e3 σ4 e4 σ5 e5 => ?_, fun z => absurd z (by decide)⟩) (fun g => ⟨fun z => absurd rfl z, fun _ => h0 (fun k v k3 ex _ hv0 ey => ?_)⟩)
    · rw [e3, c3.1]
      rw [ey] at e4
      refine h1 0 v σ5 (by decide) hx (fun z => by omega) (fun _ => ⟨v1, v2⟩) ey (want_ci hI (by decide) (fun z => by omega) (fun _ => ⟨v1, v2⟩) (fun j u1 u2 u3 => by rw [e5, sig_ne u1, e4, sig_ne u2]) ?_ (fun j u1 u2 => ?_) (by rw [e5, sig_eq]))
      · rw [if_pos rfl, e5, sig_ne (by decide), e4, sig_eq]
      · rw [if_neg (by omega), e5, sig_ne (by decide), e4, sig_ne (by decide)]; exact c3.2.2 j u1 u2
    · have hk : k = 0 := by
        rw [hx] at ex
        exact (nI_inj (a := 0) (by decide) (by omega) ex).symm
      obtain ⟨a, b⟩ := hv0 hk
      exact g v a b ey
theorem s_X7_book {B : Bk} {σ : Sg} {τ : Tg} (hI : CI B σ τ) {x : Int32} {post : Int32 → Sg → Tg → Prop} (h1 : ∀ (n : Nat) (σ' : Sg), 1 ≤ n → n ≤ 60 → x = nI n → CI (bBook B n) σ' τ → post 1 σ' τ) (h0 : (∀ n, 1 ≤ n → n ≤ 60 → x ≠ nI n) → post 0 σ τ) : wp_X7_book x σ τ post := by
  obtain ⟨hB, ⟨c1, c2, c3, c4, c5, c6, c7⟩, f1, f2, f3⟩ := id hI
  unfold wp_X7_book
  refine s_in (a := 1) (b := 60) (by decide) (by decide) (fun n n1 n2 ex => ⟨fun _ => ?_, fun z => absurd z (by decide)⟩) (fun g => ⟨fun z => absurd rfl z, fun _ => h0 g⟩)
  unfold wp_X3_begin
  intro σ1 e1 f3' p1 p2 σ2 e2 σ5 e5 σ6 e6
  unfold wp_X7_allIsOld
  intro σ7 e7 σ8 e8' σ9 e9
  have e8 : ∀ j, 3 ≤ j → j ≠ 4 → j ≠ 18 → j ≠ 5 → j ≠ 10 → σ9 j = σ j := fun j u1 u2 u3 u4 u5 => by rw [e9, sig_ne (by omega), e8', sig_ne (by omega), e7, sig_ne (by omega), e6, sig_ne u5, e5, sig_ne u4, e2, sig_ne u3, e1, sig_ne u2]
  have g4 : σ9 4 0 = nI n := by rw [e9, sig_ne (by decide), e8', sig_ne (by decide), e7, sig_ne (by decide), e6, sig_ne (by decide), e5, sig_ne (by decide), e2, sig_ne (by decide), e1, sig_eq, ex]
  have g18 : σ9 18 = f3' := by rw [e9, sig_ne (by decide), e8', sig_ne (by decide), e7, sig_ne (by decide), e6, sig_ne (by decide), e5, sig_ne (by decide), e2, sig_eq]
  have g5 : σ9 5 0 = nI 0 := by rw [e9, sig_ne (by decide), e8', sig_ne (by decide), e7, sig_ne (by decide), e6, sig_ne (by decide), e5, sig_eq]; rfl
  have g10 : σ9 10 0 = nI 0 := by rw [e9, sig_ne (by decide), e8', sig_ne (by decide), e7, sig_ne (by decide), e6, sig_eq]; rfl
  refine h1 n σ9 n1 n2 ex ⟨bBook_ok hB n1 n2, ⟨⟨g4, fun p hp => by rw [g18, p1 p hp]; rfl⟩, ⟨g5, fun l hl => absurd hl (Nat.not_lt_zero l), fun i hi => absurd hi (Nat.not_lt_zero i)⟩, cSe_same (σ := σ) (fun k hk => e8 k (by omega) (by omega) (by omega) (by omega) (by omega)) c3, ⟨g10, fun e he => absurd he (Nat.not_lt_zero e)⟩, by rw [e8 33 (by decide) (by decide) (by decide) (by decide) (by decide)]; exact c5, c6, fun t ht => by rw [e8 46 (by decide) (by decide) (by decide) (by decide) (by decide)]; exact c7 t ht⟩, Or.inl (by rw [e9, sig_ne (by decide), e8', sig_ne (by decide), e7, sig_eq]), Or.inl (by rw [e9, sig_ne (by decide), e8', sig_eq]), Or.inl (by rw [e9, sig_eq])⟩
