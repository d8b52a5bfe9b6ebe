/-! the reference: words and numbers by ints -/
theorem sh_by {n k : Nat} (hn : n < 2 ^ 32) (hk : k < 4) : (((nI n).toUInt32 >>> (((24 : Int32) - (8 : Int32) * nI k).toUInt32 &&& Int32.toUInt32 31)).toInt32 &&& (255 : Int32)) = nI (by4 n k) := by
  have hs : ((((24 : Int32) - (8 : Int32) * nI k).toUInt32 &&& Int32.toUInt32 31).toBitVec % 32).toNat = 8 * (3 - k) := by
    rcases (show k = 0 ∨ k = 1 ∨ k = 2 ∨ k = 3 by omega) with rfl | rfl | rfl | rfl <;> decide
  rw [pk_ushrN hn _ _ hs, pk_andN (Nat.lt_of_le_of_lt (Nat.div_le_self _ _) hn) 8 (by decide)]
  rfl
theorem by4_lt (n k : Nat) : by4 n k < 256 := Nat.mod_lt _ (by decide)
theorem wok_by {n : Nat} (h : ∀ k, k < 4 → by4 n k ≤ 26) : wok n := fun t ht => by
  have := h (3 - t) (by omega)
  unfold by4 at this
  rwa [show 3 - (3 - t) = t by omega] at this
theorem m_areWords {na nb : Nat} (hna : na < 2 ^ 32) (hnb : nb < 2 ^ 32) {post : Int32 → Prop} (h1 : wok na → wok nb → post 1) (h0 : ¬ (wok na ∧ wok nb) → post 0) : wp_X8_areWords (nI na) (nI nb) post := by
  have loop : ∀ (f k : Nat), k ≤ 4 → 4 < k + f → (∀ j, j < k → by4 na j ≤ 26 ∧ by4 nb j ≤ 26) → wp_X8_areWords_2 post f (nI na) (nI nb) (nI k) := by
    intro f
    induction f with
    | zero => intro k a1 a2; omega
    | succ f ih =>
      intro k a1 a2 hd
      unfold wp_X8_areWords_2
      rw [nlit 4, nI_leI (by decide) (by omega), show nI k + (1 : Int32) = nI (k + 1) from nI_1 k]
      refine ⟨fun g => h1 (wok_by (fun j hj => (hd j (by omega)).1)) (wok_by (fun j hj => (hd j (by omega)).2)), fun g => ?_⟩
      have l1 := by4_lt na k
      have l2 := by4_lt nb k
      rw [sh_by hna (show k < 4 by omega), sh_by hnb (show k < 4 by omega), nlit 26, nI_ltI (by decide) (by omega), nI_leI (by omega) (by decide)]
      refine ⟨fun w => h0 (fun z => by have := by4_ok z.1 k; omega), fun w => ⟨fun w2 => ih (k + 1) (by omega) (by omega) (fun j hj => ?_), fun w2 => h0 (fun z => w2 (by4_ok z.2 k))⟩⟩
      by_cases z : j = k
      · rw [z]; exact ⟨by omega, w2⟩
      · exact hd j (by omega)
  unfold wp_X8_areWords
  exact ⟨5, loop 5 0 (by decide) (by decide) (fun j hj => by omega)⟩
theorem m_many {x1 x3 : Int32} {μ : Sg} {F : Int32 → Prop} {neg : Prop} (h1 : ∀ v, v ≤ 121212 → x1 = nI v → F (nI (cp v))) (h0 : (∀ v, v ≤ 121212 → x1 ≠ nI v) → neg) :
    (x1 < 0 → neg) ∧ (¬ x1 < 0 → (x1 ≤ (121212 : Int32) → (¬ x1 = 0 → ((100 : Int32) ≤ x1 → ((10000 : Int32) ≤ x1 → F (3 : Int32)) ∧ (¬ (10000 : Int32) ≤ x1 → F (2 : Int32))) ∧ (¬ (100 : Int32) ≤ x1 → F (1 : Int32))) ∧ (x1 = 0 → F (0 : Int32))) ∧ (¬ x1 ≤ (121212 : Int32) → neg)) := by
  by_cases hx : x1 < 0
  · refine ⟨fun _ => h0 (fun v hv e => nI_pos (n := v) (by omega) (by rw [← e]; exact hx)), fun g => absurd hx g⟩
  · obtain ⟨v, hv, rfl⟩ := nI_of hx
    rw [nlit 121212, nlit 100, nlit 10000, nI_leI hv (by decide), nI_leI (by decide) hv, nI_leI (by decide) hv, nI_eq0 hv]
    refine ⟨fun g => absurd g hx, fun _ => ⟨fun g => ?_, fun g => h0 (fun w hw e => by have := nI_inj hv (by omega) e; omega)⟩⟩
    have hq := h1 v g rfl
    unfold cp at hq
    refine ⟨fun h => ⟨fun h2 => ⟨fun h3 => ?_, fun h3 => ?_⟩, fun h2 => ?_⟩, fun h => ?_⟩
    · rw [if_neg h, if_neg (by omega), if_neg (by omega)] at hq; exact hq
    · rw [if_neg h, if_neg (by omega), if_pos (by omega)] at hq; exact hq
    · rw [if_neg h, if_pos (by omega)] at hq; exact hq
    · rw [if_pos h] at hq; exact hq
theorem m_partsNull {x x3 : Int32} {μ : Sg} {post : Int32 → Sg → Prop} (h1 : ∀ v, x = nI v → nok v → post (nI (cp v)) μ) (h0 : (∀ v, x = nI v → ¬ nok v) → post (-1) μ) : wp_X8_partsOf_null x x3 μ post := by
  unfold wp_X8_partsOf_null
  refine m_many (x3 := x3) (μ := μ) (F := fun s => wp_X8_partsOf_null_42 post x x3 s μ) (fun v hv ex => ?_) (fun g => h0 (fun v ex hk => g v hk.1 ex))
  subst ex
  have hc := cp_le v
  have loop : ∀ (f s : Nat), s ≤ cp v → s < f → (∀ j, j < cp v - s → 1 ≤ v / 100 ^ j % 100 ∧ v / 100 ^ j % 100 ≤ 12) → wp_X8_partsOf_null_53 post f x3 (nI (cp v)) (nI (v / 100 ^ (cp v - s))) (lat s) μ := by
    intro f
    induction f with
    | zero => intro s a1 a2; omega
    | succ f ih =>
      intro s a1 a2 hd
      unfold wp_X8_partsOf_null_53
      have hb : v / 100 ^ (cp v - s) ≤ v := Nat.div_le_self _ _
      rw [lat_lt (by omega), nlit 100, pk_rem (by omega) (by decide) (by decide)]
      refine ⟨fun g => h1 v rfl ⟨hv, fun j hj => hd j (by omega)⟩, fun g y2 e2 => ?_⟩
      subst e2
      refine m_in (a := 1) (b := 12) (by decide) (by decide) (fun d d1 d2 ed => ⟨fun _ => ?_, fun z => absurd z (by decide)⟩) (fun w => ⟨fun z => absurd rfl z, fun _ => h0 (fun u eu hk => ?_)⟩)
      · have hm : v / 100 ^ (cp v - s) % 100 < 100 := Nat.mod_lt _ (by decide)
        have ed2 := nI_inj (by omega) (by omega) ed
        unfold wp_X8_partsOf_null_90
        intro y1 e1
        rw [e1, nlit 100, pk_div (by omega) (by decide) (by decide), show s = (s - 1) + 1 by omega, lat_s, lat_m1, Nat.div_div_eq_div_mul, ← Nat.pow_succ, show (cp v - (s - 1 + 1)).succ = cp v - (s - 1) by omega]
        refine ih (s - 1) (by omega) (by omega) (fun j hj => ?_)
        by_cases z : j = cp v - s
        · rw [z]; omega
        · exact hd j (by omega)
      · have e3 : v = u := nI_inj (by omega) (by have := hk.1; omega) eu
        subst e3
        have h3 := hk.2 (cp v - s) (by omega)
        exact w _ h3.1 h3.2 rfl
  unfold wp_X8_partsOf_null_42
  intro y1 e1
  refine ⟨4, ?_⟩
  rw [e1, ← pm1, lat_m1]
  have := loop 4 (cp v) (Nat.le_refl _) (by omega) (fun j hj => by omega)
  rw [Nat.sub_self, Nat.pow_zero, Nat.div_one] at this
  exact this
theorem m_partsPut {v L : Nat} (hk : nok v) (hL : 3 * L + 3 ≤ 60) {μ : Sg} {post : Int32 → Sg → Prop} (hp : ∀ μ' : Sg, (∀ k, k ≠ 16 → μ' k = μ k) → (∀ i, i < 3 * L ∨ 3 * L + 3 ≤ i → μ' 16 i = μ 16 i) → (∀ k, k < cp v → μ' 16 (3 * L + k) = nI (pn v k)) → post (nI (cp v)) μ') : wp_X8_partsOf_numbers (nI v) (nI (3 * L)) μ post := by
  unfold wp_X8_partsOf_numbers
  have hc := cp_le v
  refine m_many (x3 := nI (3 * L)) (μ := μ) (F := fun s => wp_X8_partsOf_numbers_42 post (nI v) (nI (3 * L)) s μ) (fun u hu eu => ?_) (fun g => absurd rfl (g v hk.1))
  have e0 : v = u := nI_inj (by have := hk.1; omega) (by omega) eu
  subst e0
  have loop : ∀ (f s : Nat) (μ1 : Sg), s ≤ cp v → s < f → (∀ k, k ≠ 16 → μ1 k = μ k) → (∀ i, i < 3 * L ∨ 3 * L + 3 ≤ i → μ1 16 i = μ 16 i) → (∀ k, s ≤ k → k < cp v → μ1 16 (3 * L + k) = nI (pn v k)) → wp_X8_partsOf_numbers_53 post f (nI (3 * L)) (nI (cp v)) (nI (v / 100 ^ (cp v - s))) (lat s) μ1 := by
    intro f
    induction f with
    | zero => intro s μ1 a1 a2; omega
    | succ f ih =>
      intro s μ1 a1 a2 hfr hout hd
      unfold wp_X8_partsOf_numbers_53
      have hb : v / 100 ^ (cp v - s) ≤ v := Nat.div_le_self _ _
      rw [lat_lt (by omega), nlit 100, pk_rem (by omega) (by decide) (by decide)]
      refine ⟨fun g => hp μ1 hfr hout (fun k hk2 => hd k (by omega) hk2), fun g y2 e2 => ?_⟩
      subst e2
      obtain ⟨k, rfl⟩ : ∃ k, s = k + 1 := ⟨s - 1, by omega⟩
      rw [lat_s, nI_add, nI_clamp (by omega)]
      have h3 := hk.2 (cp v - (k + 1)) (by omega)
      refine m_in (a := 1) (b := 12) (by decide) (by decide) (fun d d1 d2 ed => ⟨fun _ => ⟨vp_in_nI (by omega) (by decide), fun μ6 e6 => ?_⟩, fun z => absurd z (by decide)⟩) (fun w => absurd rfl (w _ h3.1 h3.2))
      unfold wp_X8_partsOf_numbers_90
      intro y1 e1
      rw [e1, nlit 100, pk_div (by omega) (by decide) (by decide), lat_m1, Nat.div_div_eq_div_mul, ← Nat.pow_succ, show (cp v - (k + 1)).succ = cp v - k by omega]
      refine ih k μ6 (by omega) (by omega) (fun j hj => by rw [e6, sig_ne hj]; exact hfr j hj) (fun i hi => by rw [e6, sig_eq, pk_un (by omega)]; exact hout i hi) (fun j j1 j2 => ?_)
      rw [e6, sig_eq]
      by_cases z : j = k
      · rw [z, pk_us]
        unfold pn
        rw [if_pos (by omega), show cp v - 1 - k = cp v - (k + 1) by omega]
      · rw [pk_un (by omega)]; exact hd j (by omega) j2
  unfold wp_X8_partsOf_numbers_42
  intro y1 e1
  refine ⟨4, ?_⟩
  rw [e1, ← pm1, lat_m1]
  have := loop 4 (cp v) μ (Nat.le_refl _) (by omega) (fun _ _ => rfl) (fun _ _ => rfl) (fun j j1 j2 => by omega)
  rw [Nat.sub_self, Nat.pow_zero, Nat.div_one] at this
  exact this
theorem m_laywords {na nb L : Nat} (hna : na < 2 ^ 32) (hnb : nb < 2 ^ 32) (hL : 8 * L + 8 ≤ 160) {μ : Sg} {post : Sg → Prop} (hp : ∀ μ' : Sg, (∀ k, k ≠ 14 → μ' k = μ k) → (∀ i, i < 8 * L → μ' 14 i = μ 14 i) → (∀ k, k < 4 → μ' 14 (8 * L + k) = nI (by4 na k) ∧ μ' 14 (8 * L + 4 + k) = nI (by4 nb k)) → post μ') : wp_X8_layWords_words (nI na) (nI nb) (nI (8 * L)) μ post := by
  have loop : ∀ (f k : Nat) (μ1 : Sg), k ≤ 4 → 4 < k + f → (∀ j, j ≠ 14 → μ1 j = μ j) → (∀ i, i < 8 * L → μ1 14 i = μ 14 i) → (∀ j, j < k → μ1 14 (8 * L + j) = nI (by4 na j) ∧ μ1 14 (8 * L + 4 + j) = nI (by4 nb j)) → wp_X8_layWords_words_3 post f (nI na) (nI nb) (nI (8 * L)) (nI k) μ1 := by
    intro f
    induction f with
    | zero => intro k μ1 a1 a2; omega
    | succ f ih =>
      intro k μ1 a1 a2 hfr hlo hdn
      unfold wp_X8_layWords_words_3
      have e2 : nI (8 * L) + (4 : Int32) + nI k = nI (8 * L + 4 + k) := by rw [nlit 4, nI_add, nI_add]
      rw [e2, nI_add, nlit 4, nI_leI (by decide) (by omega), show nI k + (1 : Int32) = nI (k + 1) from nI_1 k, nI_clamp (by omega), nI_clamp (by omega)]
      refine ⟨fun g => hp μ1 hfr hlo (fun j hj => hdn j (by omega)), fun g => ?_⟩
      rw [sh_by hna (show k < 4 by omega), sh_by hnb (show k < 4 by omega)]
      refine ⟨vp_in_nI (by omega) (by decide), fun μ3 e3 => ⟨vp_in_nI (by omega) (by decide), fun μ5 e5 => ?_⟩⟩
      have g5 : ∀ i, μ5 14 i = if i = 8 * L + 4 + k then nI (by4 nb k) else if i = 8 * L + k then nI (by4 na k) else μ1 14 i := fun i => by
        rw [e5, sig_eq]
        by_cases w : i = 8 * L + 4 + k
        · rw [if_pos w, w, pk_us]
        · rw [if_neg w, pk_un w, e3, sig_eq]
          by_cases w2 : i = 8 * L + k
          · rw [if_pos w2, w2, pk_us]
          · rw [if_neg w2, pk_un w2]
      refine ih (k + 1) μ5 (by omega) (by omega) (fun j hj => by rw [e5, sig_ne hj, e3, sig_ne hj]; exact hfr j hj) (fun i hi => by rw [g5, if_neg (by omega), if_neg (by omega)]; exact hlo i hi) (fun j hj => ?_)
      rw [g5, g5]
      by_cases w : j = k
      · rw [w, if_neg (by omega), if_pos rfl, if_pos rfl]; exact ⟨rfl, rfl⟩
      · rw [if_neg (by omega), if_neg (by omega), if_neg (by omega), if_neg (by omega)]; exact hdn j (by omega)
  unfold wp_X8_layWords_words
  exact ⟨5, loop 5 0 μ (by decide) (by decide) (fun _ _ => rfl) (fun _ _ => rfl) (fun j hj => by omega)⟩
theorem m_layentryWords {na nb L : Nat} (hna : na < 2 ^ 32) (hnb : nb < 2 ^ 32) (hL : 8 * L + 8 ≤ 96) {μ : Sg} {post : Sg → Prop} (hp : ∀ μ' : Sg, (∀ k, k ≠ 21 → μ' k = μ k) → (∀ i, i < 8 * L → μ' 21 i = μ 21 i) → (∀ k, k < 4 → μ' 21 (8 * L + k) = nI (by4 na k) ∧ μ' 21 (8 * L + 4 + k) = nI (by4 nb k)) → post μ') : wp_X8_layWords_entryWords (nI na) (nI nb) (nI (8 * L)) μ post := by
  have loop : ∀ (f k : Nat) (μ1 : Sg), k ≤ 4 → 4 < k + f → (∀ j, j ≠ 21 → μ1 j = μ j) → (∀ i, i < 8 * L → μ1 21 i = μ 21 i) → (∀ j, j < k → μ1 21 (8 * L + j) = nI (by4 na j) ∧ μ1 21 (8 * L + 4 + j) = nI (by4 nb j)) → wp_X8_layWords_entryWords_3 post f (nI na) (nI nb) (nI (8 * L)) (nI k) μ1 := by
    intro f
    induction f with
    | zero => intro k μ1 a1 a2; omega
    | succ f ih =>
      intro k μ1 a1 a2 hfr hlo hdn
      unfold wp_X8_layWords_entryWords_3
      have e2 : nI (8 * L) + (4 : Int32) + nI k = nI (8 * L + 4 + k) := by rw [nlit 4, nI_add, nI_add]
      rw [e2, nI_add, nlit 4, nI_leI (by decide) (by omega), show nI k + (1 : Int32) = nI (k + 1) from nI_1 k, nI_clamp (by omega), nI_clamp (by omega)]
      refine ⟨fun g => hp μ1 hfr hlo (fun j hj => hdn j (by omega)), fun g => ?_⟩
      rw [sh_by hna (show k < 4 by omega), sh_by hnb (show k < 4 by omega)]
      refine ⟨vp_in_nI (by omega) (by decide), fun μ3 e3 => ⟨vp_in_nI (by omega) (by decide), fun μ5 e5 => ?_⟩⟩
      have g5 : ∀ i, μ5 21 i = if i = 8 * L + 4 + k then nI (by4 nb k) else if i = 8 * L + k then nI (by4 na k) else μ1 21 i := fun i => by
        rw [e5, sig_eq]
        by_cases w : i = 8 * L + 4 + k
        · rw [if_pos w, w, pk_us]
        · rw [if_neg w, pk_un w, e3, sig_eq]
          by_cases w2 : i = 8 * L + k
          · rw [if_pos w2, w2, pk_us]
          · rw [if_neg w2, pk_un w2]
      refine ih (k + 1) μ5 (by omega) (by omega) (fun j hj => by rw [e5, sig_ne hj, e3, sig_ne hj]; exact hfr j hj) (fun i hi => by rw [g5, if_neg (by omega), if_neg (by omega)]; exact hlo i hi) (fun j hj => ?_)
      rw [g5, g5]
      by_cases w : j = k
      · rw [w, if_neg (by omega), if_pos rfl, if_pos rfl]; exact ⟨rfl, rfl⟩
      · rw [if_neg (by omega), if_neg (by omega), if_neg (by omega), if_neg (by omega)]; exact hdn j (by omega)
  unfold wp_X8_layWords_entryWords
  exact ⟨5, loop 5 0 μ (by decide) (by decide) (fun _ _ => rfl) (fun _ _ => rfl) (fun j hj => by omega)⟩
