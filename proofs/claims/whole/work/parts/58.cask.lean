/-! the class: its questions -/
def a_count (B : Bk) (x : Int32) : Int32 := if x = 0 then nI (bN B) else if x = 1 then nI (bL B) else if x = 2 then nI (bE B) else if x = 3 then nI (bH B) else if x = 4 then nI (ls B (bL B) (0, 0, 0)) else if x = 5 then nI (lf B (bE B) (bH B)) else if x = 6 then nI (sE B (bN B) / 64) else if x = 7 then nI (sE B (bN B) % 64) else if x = 8 then nI (wrs B (bN B)) else -1
theorem out8 {x : Int32} (h : x.toInt < 0 ∨ 8 < x.toInt) : x ≠ 0 ∧ x ≠ 1 ∧ x ≠ 2 ∧ x ≠ 3 ∧ x ≠ 4 ∧ x ≠ 5 ∧ x ≠ 6 ∧ x ≠ 7 ∧ x ≠ 8 := by
  refine ⟨?_, ?_, ?_, ?_, ?_, ?_, ?_, ?_, ?_⟩ <;> (intro e; rw [e] at h; revert h; decide)
theorem s_X7_count {B : Bk} {σ : Sg} {τ : Tg} (hI : CI B σ τ) {x : Int32} {post : Int32 → Sg → Tg → Prop} (hp : ∀ (σ' : Sg) (τ' : Tg), CI B σ' τ' → post (a_count B x) σ' τ') : wp_X7_count x σ τ post := by
  obtain ⟨hB, ⟨c1, c2, c3, c4, -⟩, -⟩ := id hI
  unfold wp_X7_count
  refine ⟨fun h => ?_, fun h => ?_, fun h => ?_, fun h => s_X7_freshTree hI (fun σ2 τ2 hI2 _ ht => ?_), fun h => s_X7_freshTree hI (fun σ2 τ2 hI2 _ ht => ?_), fun h => s_X7_freshListing hI (fun σ2 τ2 hI2 _ hl => ?_), fun h => s_X7_freshShifts hI (fun σ2 τ2 hI2 hs => ?_), fun h => s_X7_freshShifts hI (fun σ2 τ2 hI2 hs => ?_), fun h => s_X7_freshShifts hI (fun σ2 τ2 hI2 hs => ?_), fun h => ?_⟩
  · subst h; rw [c1.1]; have := hp σ τ hI; simpa [a_count] using this
  · subst h; rw [c2.1]; have := hp σ τ hI; simpa [a_count] using this
  · subst h; rw [c4.1]; have := hp σ τ hI; simpa [a_count] using this
  · subst h; rw [ht.2.2.1]; have := hp σ2 τ2 hI2; simpa [a_count] using this
  · subst h; rw [ht.2.1]; have := hp σ2 τ2 hI2; simpa [a_count] using this
  · subst h; rw [hl.1]; have := hp σ2 τ2 hI2; simpa [a_count] using this
  · subst h; rw [hs.1]; have := hp σ2 τ2 hI2; simpa [a_count] using this
  · subst h; rw [hs.2.1]; have := hp σ2 τ2 hI2; simpa [a_count] using this
  · subst h; rw [hs.2.2.1]; have := hp σ2 τ2 hI2; simpa [a_count] using this
  · obtain ⟨n0, n1, n2, n3, n4, n5, n6, n7, n8⟩ := out8 h
    have := hp σ τ hI
    rwa [a_count, if_neg n0, if_neg n1, if_neg n2, if_neg n3, if_neg n4, if_neg n5, if_neg n6, if_neg n7, if_neg n8] at this
theorem s_X7_counter {B : Bk} {σ : Sg} {τ : Tg} (hI : CI B σ τ) {x y : Int32} {post : Int32 → Sg → Tg → Prop} (h1 : ∀ (l k : Nat) (σ' : Sg) (τ' : Tg), l < bL B → x = nI l → 1 ≤ k → k ≤ 3 → y = nI k → CI B σ' τ' → post (nI (gt3 (st B (l + 1)) k)) σ' τ') (h0 : ¬ ((∃ l, l < bL B ∧ x = nI l) ∧ ∃ k, 1 ≤ k ∧ k ≤ 3 ∧ y = nI k) → post (-1) σ τ) : wp_X7_counter x y σ τ post := by
  obtain ⟨hB, ⟨c1, c2, c3, c4, -⟩, -⟩ := id hI
  have h20 := hB.L
  unfold wp_X7_counter
  refine s_X1_has hB c2 (fun l hl e => ⟨fun z => absurd z (by decide), fun _ => ?_⟩) (fun g => ⟨fun _ => h0 (fun z => by obtain ⟨⟨l, hl, e⟩, -⟩ := z; exact g l hl e), fun z => absurd rfl z⟩)
  refine s_in (a := 1) (b := 3) (by decide) (by decide) (fun k k1 k3 ek => ⟨fun _ => s_X7_freshTree hI (fun σ2 τ2 hI2 _ ht => ?_), fun z => absurd z (by decide)⟩) (fun g => ⟨fun z => absurd rfl z, fun _ => h0 (fun z => by obtain ⟨-, k, k1, k3, ek⟩ := z; exact g k k1 k3 ek)⟩)
  have e6 : x * (3 : Int32) + y - (1 : Int32) = nI (3 * l + (k - 1)) := by
    rw [e, ek, nlit 3, nlit 1, pk_mul, nI_add, pk_sub (by omega)]; congr 1; omega
  rw [e6, nI_clamp (by omega), ht.2.2.2.2 l k hl k1 k3]
  exact ⟨vp_in_nI (by omega) (by decide), h1 l k σ2 τ2 hl e k1 k3 ek hI2⟩
theorem s_X7_partner {B : Bk} {σ : Sg} {τ : Tg} (hI : CI B σ τ) {x : Int32} {post : Int32 → Sg → Tg → Prop} (h1 : ∀ (e : Nat) (σ' : Sg) (τ' : Tg), e < bE B → x = nI e → CI B σ' τ' → post (lat (ple B e)) σ' τ') (h0 : (∀ e, e < bE B → x ≠ nI e) → post (-1) σ τ) : wp_X7_partner x σ τ post := by
  obtain ⟨hB, ⟨c1, c2, c3, c4, -⟩, -⟩ := id hI
  have h12 := hB.E
  unfold wp_X7_partner
  rw [c4.1]
  refine s_in0 (by omega) (fun e he ee => ⟨fun _ => s_X7_freshListing hI (fun σ2 τ2 hI2 _ hl => ?_), fun z => absurd z (by decide)⟩) (fun g => ⟨fun z => absurd rfl z, fun _ => h0 g⟩)
  rw [ee, nI_clamp (by omega), hl.2.1 e he]
  exact ⟨vp_in_nI (by omega) (by decide), h1 e σ2 τ2 he ee hI2⟩
theorem s_X7_span {B : Bk} {σ : Sg} {τ : Tg} (hI : CI B σ τ) {x : Int32} {post : Int32 → Sg → Tg → Prop} (h1 : ∀ (p : Nat) (σ' : Sg) (τ' : Tg), p < bN B → x = nI p → CI B σ' τ' → post (nI (fsp B p)) σ' τ') (h0 : (∀ p, p < bN B → x ≠ nI p) → post (-1) σ τ) : wp_X7_span x σ τ post := by
  obtain ⟨hB, ⟨c1, -⟩, -⟩ := id hI
  have hN := hB.N
  unfold wp_X7_span
  refine s_X3_has hB c1 (fun p hp e => ⟨fun _ => s_X7_freshShifts hI (fun σ2 τ2 hI2 hs => ?_), fun z => absurd z (by decide)⟩) (fun g => ⟨fun z => absurd rfl z, fun _ => h0 g⟩)
  rw [e, nI_clamp (by omega), (hs.2.2.2 p hp).1]
  exact ⟨vp_in_nI (by omega) (by decide), h1 p σ2 τ2 hp e hI2⟩
theorem s_X7_wrong {B : Bk} {σ : Sg} {τ : Tg} (hI : CI B σ τ) {x : Int32} {post : Int32 → Sg → Tg → Prop} (h1 : ∀ (p : Nat) (σ' : Sg) (τ' : Tg), p < bN B → x = nI p → CI B σ' τ' → post (nI (wrg B p)) σ' τ') (h0 : (∀ p, p < bN B → x ≠ nI p) → post (-1) σ τ) : wp_X7_wrong x σ τ post := by
  obtain ⟨hB, ⟨c1, -⟩, -⟩ := id hI
  have hN := hB.N
  unfold wp_X7_wrong
  refine s_X3_has hB c1 (fun p hp e => ⟨fun _ => s_X7_freshShifts hI (fun σ2 τ2 hI2 hs => ?_), fun z => absurd z (by decide)⟩) (fun g => ⟨fun z => absurd rfl z, fun _ => h0 g⟩)
  rw [e]
  refine s_X5_isWrong (t := ssp B p) hB hI2.2.1.1 (by omega) (bs_lt hB _ _) (hs.2.2.2 p hp).2 ?_
  have ew : (if rd B p = 0 then 0 else if spl B p = ssp B p then 0 else 1) = wrg B p := rfl
  have hg : wrg B p ≤ 1 := by
    unfold wrg
    repeat' split
    all_goals omega
  have hq := h1 p σ2 τ2 hp e hI2
  rw [ew, show (nI (wrg B p) = 0) = (wrg B p = 0) from propext (nI_eq (b := 0) (by omega) (by decide))]
  refine ⟨fun g => ?_, fun g => ?_⟩
  · rw [g] at hq; exact hq
  · rw [show wrg B p = 1 by omega] at hq; exact hq
