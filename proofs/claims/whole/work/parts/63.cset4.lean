/-! the class: entry, line -/
def bEntry (B : Bk) (lev num na nb : Nat) : Bk := va_up (va_up (va_up (va_up B 13 (va_up (B 13) (bE B) lev)) 14 (va_up (B 14) (bE B) num)) 15 (putw (B 15) (bE B) na nb)) 2 (fun _ => bE B + 1)
theorem putw_le {f : Nat → Nat} {e na nb : Nat} (hf : ∀ i, f i ≤ 26) (ha : wok na) (hb : wok nb) (i : Nat) : putw f e na nb i ≤ 26 := by
  unfold putw
  split
  · exact by4_ok ha _
  · split
    · exact by4_ok hb _
    · exact hf i
theorem bEntry_ok {B : Bk} (h : bok B) {lev num na nb : Nat} (he : bE B < 12) (h1 : 1 ≤ lev) (h3 : lev ≤ 3) (hn : num ≤ 999) (ha : wok na) (hb : wok nb) : bok (bEntry B lev num na nb) := by
  refine ⟨⟨h.1.1, h.1.2.1, h.1.2.2.1, he⟩, h.2.1, h.2.2.1, h.2.2.2.1, h.2.2.2.2.1, fun i => ⟨(h.hwd i).1, putw_le (fun i => (h.hwd i).2.1) ha hb i, (h.hwd i).2.2⟩, h.2.2.2.2.2.2.1, h.2.2.2.2.2.2.2.1, h.2.2.2.2.2.2.2.2.1, h.2.2.2.2.2.2.2.2.2.1, fun e he2 => ?_, fun e => ?_⟩
  · have he2 : e < bE B + 1 := he2
    show 1 ≤ (if e = bE B then lev else el B e) ∧ (if e = bE B then lev else el B e) ≤ 3
    by_cases w : e = bE B
    · rw [if_pos w]; exact ⟨h1, h3⟩
    · rw [if_neg w]; exact h.hel (by omega)
  · have := h.hen e
    show (if e = bE B then num else en B e) ≤ 999
    split <;> omega
theorem wb32 (x : Int32) : ∃ n, n < 2 ^ 32 ∧ x = nI n := wb_of32 x
theorem nI_32 {a b : Nat} (ha : a < 2 ^ 32) (hb : b < 2 ^ 32) (h : nI a = nI b) : a = b := by
  have := congrArg (fun x : Int32 => x.toBitVec.toNat) h
  simp only [pk_tn ha, pk_tn hb] at this
  exact this
theorem s_X7_entry {B : Bk} {σ : Sg} {τ : Tg} (hI : CI B σ τ) {x y : Int32} {na nb : Nat} (hna : na < 2 ^ 32) (hnb : nb < 2 ^ 32) {post : Int32 → Sg → Tg → Prop} (h1 : ∀ (lev num : Nat) (σ' : Sg), bE B < 12 → 1 ≤ lev → lev ≤ 3 → x = nI lev → num ≤ 999 → y = nI num → wok na → wok nb → CI (bEntry B lev num na nb) σ' τ → post (nI (bE B)) σ' τ) (h0 : (∀ lev num, bE B < 12 → 1 ≤ lev → lev ≤ 3 → x = nI lev → num ≤ 999 → y = nI num → wok na → ¬ wok nb) → post (-1) σ τ) : wp_X7_entry x y (nI na) (nI nb) σ τ post := by
  obtain ⟨hB, ⟨c1, c2, c3, c4, c5, c6, c7⟩, f1, f2, f3⟩ := id hI
  have h12 := hB.E
  unfold wp_X7_entry
  rw [c4.1, nlit 12, nI_leI (by decide) (by omega)]
  refine ⟨fun h => h0 (fun _ _ z => by omega), fun h => ?_⟩
  refine s_in (a := 1) (b := 3) (by decide) (by decide) (fun lev l1 l3 ex => ⟨fun _ => ?_, fun w => absurd w (by decide)⟩) (fun g => ⟨fun w => absurd rfl w, fun _ => h0 (fun lev num _ l1 l3 ex _ _ _ => absurd ex (g lev l1 l3))⟩)
  refine s_in (a := 0) (b := 999) (by decide) (by decide) (fun num _ hnum ey => ⟨fun w => absurd w (by decide), fun _ => ?_⟩) (fun g => ⟨fun _ => h0 (fun lev num _ _ _ _ hn ey _ => absurd ey (g num (Nat.zero_le _) hn)), fun w => absurd rfl w⟩)
  refine s_X7_areWords hna (fun wa9 => ⟨fun w => absurd w (by decide), fun _ => ?_⟩) (fun g => ⟨fun _ => h0 (fun _ _ _ _ _ _ _ _ wa9 => absurd wa9 g), fun w => absurd rfl w⟩)
  refine s_X7_areWords hnb (fun wb9 => ⟨fun _ y10 e10 => ?_, fun w => absurd w (by decide)⟩) (fun g => ⟨fun w => absurd rfl w, fun _ => h0 (fun _ _ _ _ _ _ _ _ _ => g)⟩)
  subst e10
  have hv : vp_in (nI (bE B)) 12 := vp_in_nI (by omega) (by decide)
  rw [nI_clamp (by omega), ex, ey]
  refine ⟨hv, fun σ12 e12 => ⟨hv, fun σ14 e14 => ⟨hv, fun σ16 e16 => ⟨hv, fun σ18 e18 σ19 e19 σ20 e20 => ?_⟩⟩⟩⟩
  have e8 : ∀ k, k ≠ 1 → k ≠ 10 → k ≠ 34 → k ≠ 35 → k ≠ 36 → k ≠ 37 → σ20 k = σ k := fun k u1 u2 u3 u4 u5 u6 => by rw [e20, sig_ne u1, e19, sig_ne u2, e18, sig_ne u6, e16, sig_ne u5, e14, sig_ne u4, e12, sig_ne u3]
  have g34 : σ20 34 = upd (σ 34) (bE B) (nI lev) := by rw [e20, sig_ne (by decide), e19, sig_ne (by decide), e18, sig_ne (by decide), e16, sig_ne (by decide), e14, sig_ne (by decide), e12, sig_eq]
  have g35 : σ20 35 = upd (σ 35) (bE B) (nI num) := by rw [e20, sig_ne (by decide), e19, sig_ne (by decide), e18, sig_ne (by decide), e16, sig_ne (by decide), e14, sig_eq, e12, sig_ne (by decide)]
  have g36 : σ20 36 = upd (σ 36) (bE B) (nI na) := by rw [e20, sig_ne (by decide), e19, sig_ne (by decide), e18, sig_ne (by decide), e16, sig_eq, e14, sig_ne (by decide), e12, sig_ne (by decide)]
  have g37 : σ20 37 = upd (σ 37) (bE B) (nI nb) := by rw [e20, sig_ne (by decide), e19, sig_ne (by decide), e18, sig_eq, e16, sig_ne (by decide), e14, sig_ne (by decide), e12, sig_ne (by decide)]
  have g10 : σ20 10 0 = nI (bE B + 1) := by rw [e20, sig_ne (by decide), e19, sig_eq]; exact nI_1 _
  have hc : ceq B (bEntry B lev num na nb) := fun k hk => by
    show va_up (va_up (va_up (va_up B 13 _) 14 _) 15 _) 2 _ k = B k
    rw [sig_ne (by omega), sig_ne (by omega), sig_ne (by omega), sig_ne (by omega)]
  have hd : deq B (bEntry B lev num na nb) := fun k hk => by
    show va_up (va_up (va_up (va_up B 13 _) 14 _) 15 _) 2 _ k = B k
    rw [sig_ne (by omega), sig_ne (by omega), sig_ne (by omega), sig_ne (by omega)]
  refine h1 lev num σ20 (by omega) l1 l3 ex hnum ey wa9 wb9 ⟨bEntry_ok hB (by omega) l1 l3 hnum wa9 wb9, ⟨cPg_same (σ := σ) (fun k hk => e8 k (by omega) (by omega) (by omega) (by omega) (by omega) (by omega)) c1, cLn_same (σ := σ) (fun k hk => e8 k (by omega) (by omega) (by omega) (by omega) (by omega) (by omega)) c2, cSe_same (σ := σ) (fun k hk => e8 k (by omega) (by omega) (by omega) (by omega) (by omega) (by omega)) c3, ⟨g10, fun e he => ?_⟩, by rw [e8 33 (by decide) (by decide) (by decide) (by decide) (by decide) (by decide)]; exact c5, c6, fun t ht => by rw [e8 46 (by decide) (by decide) (by decide) (by decide) (by decide) (by decide)]; exact c7 t ht⟩, ?_, Or.inl (by rw [e20, sig_eq]), ?_⟩
  · have he : e < bE B + 1 := he
    rw [g34, g35, g36, g37]
    show _ = nI (if e = bE B then lev else el B e) ∧ _ = nI (if e = bE B then num else en B e) ∧ _ = nI (w4 (putw (B 15) (bE B) na nb) (8 * e)) ∧ _ = nI (w4 (putw (B 15) (bE B) na nb) (8 * e + 4))
    by_cases w : e = bE B
    · rw [w, pk_us, pk_us, pk_us, pk_us, if_pos rfl, if_pos rfl, putw_a _ _ _ hna, putw_b _ _ _ hnb]
      exact ⟨rfl, rfl, rfl, rfl⟩
    · rw [pk_un w, pk_un w, pk_un w, pk_un w, if_neg w, if_neg w, w4_cong (g := B 15) (fun k hk => putw_o _ _ _ (by omega)), w4_cong (g := B 15) (fun k hk => putw_o _ _ _ (by omega))]
      exact c4.2 e (by omega)
  · rw [e8 0 (by decide) (by decide) (by decide) (by decide) (by decide) (by decide)]
    rcases f1 with z | z
    · exact Or.inl z
    · exact Or.inr ⟨z.1, treeOK_same (fun k hk => e8 k (by omega) (by omega) (by omega) (by omega) (by omega) (by omega)) (treeOK_c hc z.2)⟩
  · rw [e8 2 (by decide) (by decide) (by decide) (by decide) (by decide) (by decide)]
    rcases f3 with z | z
    · exact Or.inl z
    · exact Or.inr ⟨z.1, shOK_same (fun k hk => e8 k (by omega) (by omega) (by omega) (by omega) (by omega) (by omega)) (shOK_c hd z.2)⟩
