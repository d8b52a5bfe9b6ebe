/-! words and numbers that are given by ints: of the class -/
def wok (n : Nat) : Prop := ∀ t, t < 4 → n / 2 ^ (8 * t) % 256 ≤ 26
theorem s_X7_areWords {n : Nat} (hn : n < 2 ^ 32) {post : Int32 → Prop} (h1 : wok n → post 1) (h0 : ¬ wok n → post 0) : wp_X7_areWords (nI n) post := by
  have loop : ∀ (f t : Nat), t ≤ 4 → 4 < t + f → (∀ i, i < t → n / 2 ^ (8 * i) % 256 ≤ 26) → wp_X7_areWords_2 post f (nI n) (nI (8 * t)) := by
    intro f
    induction f with
    | zero => intro t a1 a2; omega
    | succ f ih =>
      intro t a1 a2 hd
      unfold wp_X7_areWords_2
      rw [nlit 32, nI_leI (by decide) (by omega)]
      refine ⟨fun h => h1 (fun i hi => hd i (by omega)), fun h => ?_⟩
      have hs : (((nI (8 * t)).toUInt32 &&& Int32.toUInt32 31).toBitVec % 32).toNat = 8 * t := by
        rcases (show t = 0 ∨ t = 1 ∨ t = 2 ∨ t = 3 by omega) with rfl | rfl | rfl | rfl <;> decide
      have hm : n / 2 ^ (8 * t) % 2 ^ 8 < 2 ^ 8 := Nat.mod_lt _ (by decide)
      rw [pk_ushrN hn _ (8 * t) hs, pk_andN (Nat.lt_of_le_of_lt (Nat.div_le_self _ _) hn) 8 (by decide), nlit 26, nI_leI (by omega) (by decide), show nI (8 * t) + (8 : Int32) = nI (8 * (t + 1)) by rw [nlit 8, nI_add]; congr 1]
      refine ⟨fun g => ih (t + 1) (by omega) (by omega) (fun i hi => ?_), fun g => h0 (fun z => g (z t (by omega)))⟩
      rcases Nat.lt_or_ge i t with q | q
      · exact hd i q
      · rw [show i = t by omega]; exact g
  unfold wp_X7_areWords
  exact ⟨5, loop 5 0 (by decide) (by decide) (fun i hi => by omega)⟩
def cp (v : Nat) : Nat := if v = 0 then 0 else if v < 100 then 1 else if v < 10000 then 2 else 3
theorem cp_le (v : Nat) : cp v ≤ 3 := by
  unfold cp
  repeat' split
  all_goals omega
def nok (v : Nat) : Prop := v ≤ 121212 ∧ ∀ j, j < cp v → 1 ≤ v / 100 ^ j % 100 ∧ v / 100 ^ j % 100 ≤ 12
def pn (v k : Nat) : Nat := if k < cp v then v / 100 ^ (cp v - 1 - k) % 100 else 0
theorem s_X7_countParts {v : Nat} (hv : v < 2 ^ 31) {post : Int32 → Prop} (hp : post (nI (cp v))) : wp_X7_countParts (nI v) post := by
  unfold wp_X7_countParts
  rw [show (nI v = 0) = (v = 0) from propext (nI_eq (b := 0) hv (by decide)), nlit 100, nlit 10000, nI_leI (by decide) hv, nI_leI (by decide) hv]
  unfold cp at hp
  refine ⟨fun h => ⟨fun h2 => ⟨fun h3 => ?_, fun h3 => ?_⟩, fun h2 => ?_⟩, fun h => ?_⟩
  · rw [if_neg h, if_neg (by omega), if_neg (by omega)] at hp; exact hp
  · rw [if_neg h, if_neg (by omega), if_pos (by omega)] at hp; exact hp
  · rw [if_neg h, if_pos (by omega)] at hp; exact hp
  · rw [if_pos h] at hp; exact hp
theorem s_X7_areNumbers {x : Int32} {post : Int32 → Prop} (h1 : ∀ v, x = nI v → nok v → post 1) (h0 : (∀ v, x = nI v → ¬ nok v) → post 0) : wp_X7_areNumbers x post := by
  unfold wp_X7_areNumbers
  refine s_in (a := 0) (b := 121212) (by decide) (by decide) (fun v _ hv ex => ⟨fun _ => ?_, fun z => absurd z (by decide)⟩) (fun g => ⟨fun z => absurd rfl z, fun _ => h0 (fun v ex hk => g v (Nat.zero_le _) hk.1 ex)⟩)
  subst ex
  have hc := cp_le v
  have loop : ∀ (f j : Nat), j ≤ cp v → cp v < j + f → (∀ i, i < j → 1 ≤ v / 100 ^ i % 100 ∧ v / 100 ^ i % 100 ≤ 12) → wp_X7_areNumbers_19 post f (nI (v / 100 ^ j)) (nI (cp v - j)) := by
    intro f
    induction f with
    | zero => intro j a1 a2; omega
    | succ f ih =>
      intro j a1 a2 hd
      unfold wp_X7_areNumbers_19
      have hb : v / 100 ^ j ≤ v := Nat.div_le_self _ _
      rw [show (nI (cp v - j) ≤ 0) = (cp v - j ≤ 0) from propext (nI_leI (b := 0) (by omega) (by decide)), nlit 100, pk_rem (by omega) (by decide) (by decide), pk_div (by omega) (by decide) (by decide)]
      refine ⟨fun h => h1 v rfl ⟨hv, fun i hi => hd i (by omega)⟩, fun h => ?_⟩
      refine s_in (a := 1) (b := 12) (by decide) (by decide) (fun d d1 d2 ed => ⟨fun _ y ey => ?_, fun z => absurd z (by decide)⟩) (fun g => ⟨fun z => absurd rfl z, fun _ => h0 (fun w ew hk => ?_)⟩)
      · have ed2 := nI_inj (by have : v / 100 ^ j % 100 < 100 := Nat.mod_lt _ (by decide)
                               omega) (by omega) ed
        have e1 : nI (cp v - j) + (-1 : Int32) = nI (cp v - (j + 1)) := by
          rw [show cp v - j = (cp v - (j + 1)) + 1 by omega]; exact pk_m1 _
        rw [ey, e1, Nat.div_div_eq_div_mul, ← Nat.pow_succ]
        refine ih (j + 1) (by omega) (by omega) (fun i hi => ?_)
        rcases Nat.lt_or_ge i j with q | q
        · exact hd i q
        · rw [show i = j by omega]; omega
      · have e2 : v = w := nI_inj (by omega) (by have := hk.1; omega) ew
        subst e2
        have h3 := hk.2 j (by omega)
        exact g _ h3.1 h3.2 rfl
  refine s_X7_countParts (by omega) ⟨4, ?_⟩
  have := loop 4 0 (Nat.zero_le _) (by omega) (fun i hi => by omega)
  rw [Nat.pow_zero, Nat.div_one, Nat.sub_zero] at this
  exact this
theorem s_X1_put_23 {l v : Nat} {τ : Tg} (hl : l < 20) (hv : v ≤ 121212) {post : Sg → Tg → Prop} : ∀ (f p : Nat) (σ : Sg), p ≤ 3 → p < f → σ 25 l = nI (cp v) → (∀ σ' : Sg, (∀ k, k ≠ 26 → σ' k = σ k) → (∀ i, i < 3 * l ∨ 3 * l + p ≤ i → σ' 26 i = σ 26 i) → (∀ k, k < p → σ' 26 (3 * l + k) = nI (pn v k)) → post σ' τ) → wp_X1_putSizeAndNumbers_23 post f (nI l) (nI (v / 100 ^ (cp v - p))) (nI p) σ τ := by
  have hc := cp_le v
  intro f
  induction f with
  | zero => intro p σ a1 a2; omega
  | succ f ih =>
    intro p σ a1 a2 h25 hp
    have hb : v / 100 ^ (cp v - p) ≤ v := Nat.div_le_self _ _
    unfold wp_X1_putSizeAndNumbers_23
    rw [nlit 1, nI_ltI (by omega) (by decide), nI_clamp (by omega), h25, nI_ltI (by omega) (by omega)]
    refine ⟨fun h => hp σ (fun _ _ => rfl) (fun _ _ => rfl) (fun k hk => by omega), fun h => ⟨vp_in_nI hl (by decide), fun g => ?_, fun g => ?_⟩⟩
    all_goals
      have e6 : nI l * (3 : Int32) + nI p - (1 : Int32) = nI (3 * l + (p - 1)) := by
        rw [nlit 3, nlit 1, pk_mul, nI_add, pk_sub (by omega)]; congr 1; omega
      have e7 : nI p + (-1 : Int32) = nI (p - 1) := by
        rw [show p = (p - 1) + 1 by omega, pk_m1, Nat.add_sub_cancel]
      unfold wp_X1_putSizeAndNumbers_45
    · refine ⟨fun _ => ?_, fun z => absurd rfl z⟩
      unfold wp_X1_putSizeAndNumbers_73
      rw [e6, nI_clamp (by omega), e7]
      refine ⟨vp_in_nI (by omega) (by decide), fun σ2 e2 => ⟨fun _ => ?_, fun z => absurd rfl z⟩⟩
      have i1 := ih (p - 1) σ2 (by omega) (by omega) (by rw [e2, sig_ne (by decide)]; exact h25) (fun σ' g1 g2 g3 => hp σ' (fun k hk => by rw [g1 k hk, e2, sig_ne hk]) (fun i hi => by rw [g2 i (by omega), e2, sig_eq, pk_un (by omega)]) (fun k hk => ?_))
      · rw [show cp v - (p - 1) = cp v - p by omega] at i1
        exact i1
      · rcases Nat.lt_or_ge k (p - 1) with q | q
        · exact g3 k q
        · rw [g2 _ (by omega), e2, sig_eq, show k = p - 1 by omega, pk_us]
          unfold pn; rw [if_neg (by omega)]; rfl
    · refine ⟨fun z => absurd z (by decide), fun _ => ?_⟩
      unfold wp_X1_putSizeAndNumbers_73
      rw [e6, nI_clamp (by omega), e7, nlit 100, pk_rem (by omega) (by decide) (by decide), pk_div (by omega) (by decide) (by decide)]
      refine ⟨vp_in_nI (by omega) (by decide), fun σ2 e2 => ⟨fun z => absurd z (by decide), fun _ y4 e4 => ?_⟩⟩
      have i1 := ih (p - 1) σ2 (by omega) (by omega) (by rw [e2, sig_ne (by decide)]; exact h25) (fun σ' g1 g2 g3 => hp σ' (fun k hk => by rw [g1 k hk, e2, sig_ne hk]) (fun i hi => by rw [g2 i (by omega), e2, sig_eq, pk_un (by omega)]) (fun k hk => ?_))
      · rw [show cp v - (p - 1) = (cp v - p) + 1 by omega, Nat.pow_succ, ← Nat.div_div_eq_div_mul] at i1
        rw [e4]
        exact i1
      · rcases Nat.lt_or_ge k (p - 1) with q | q
        · exact g3 k q
        · rw [g2 _ (by omega), e2, sig_eq, show k = p - 1 by omega, pk_us]
          unfold pn; rw [if_pos (by omega), show cp v - 1 - (p - 1) = cp v - p by omega]
theorem s_X1_putSizeAndNumbers {l s v : Nat} {σ : Sg} {τ : Tg} (hl : l < 20) (hv : v ≤ 121212) {post : Sg → Tg → Prop} (hp : ∀ σ' : Sg, (∀ k, k ≠ 20 → k ≠ 25 → k ≠ 26 → σ' k = σ k) → (∀ i, σ' 20 i = if i = l then nI s else σ 20 i) → (∀ i, σ' 25 i = if i = l then nI (cp v) else σ 25 i) → (∀ i, i < 3 * l ∨ 3 * l + 3 ≤ i → σ' 26 i = σ 26 i) → (∀ k, k < 3 → σ' 26 (3 * l + k) = nI (pn v k)) → post σ' τ) : wp_X1_putSizeAndNumbers (nI l) (nI s) (nI v) σ τ post := by
  unfold wp_X1_putSizeAndNumbers
  rw [nI_clamp (by omega)]
  refine ⟨vp_in_nI hl (by decide), fun σ2 e2 => s_X7_countParts (by omega) ⟨vp_in_nI hl (by decide), fun σ5 e5 => ⟨4, ?_⟩⟩⟩
  have hc := cp_le v
  have i1 := s_X1_put_23 (l := l) (v := v) (τ := τ) hl hv (post := post) 4 3 σ5 (by decide) (by decide) (by rw [e5, sig_eq, pk_us]) (fun σ' g1 g2 g3 => hp σ' (fun k u1 u2 u3 => by rw [g1 k u3, e5, sig_ne u2, e2, sig_ne u1]) (fun i => ?_) (fun i => ?_) (fun i hi => by rw [g2 i hi, e5, sig_ne (by decide), e2, sig_ne (by decide)]) g3)
  · rw [show cp v - 3 = 0 by omega, Nat.pow_zero, Nat.div_one] at i1
    exact i1
  · rw [g1 20 (by decide), e5, sig_ne (by decide), e2, sig_eq]
    by_cases w : i = l
    · rw [w, pk_us, if_pos rfl]
    · rw [pk_un w, if_neg w]
  · rw [g1 25 (by decide), e5, sig_eq]
    by_cases w : i = l
    · rw [w, pk_us, if_pos rfl]
    · rw [pk_un w, if_neg w, e2, sig_ne (by decide)]
