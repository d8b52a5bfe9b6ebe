/-! the tree that is taken, read off the least key -/
def st (B : Bk) : Nat → C3
  | 0 => (0, 0, 0)
  | l + 1 => nc B l (st B l) (gv B (bL B - (l + 1)) (st B l))
def lv (B : Bk) (l : Nat) : Nat := gv B (bL B - (l + 1)) (st B l)
def hn (B : Bk) : Nat → Nat
  | 0 => 0
  | l + 1 => hn B l + (if lv B l = 0 then 0 else 1)
theorem hn_le (B : Bk) : ∀ l, hn B l ≤ l
  | 0 => Nat.le_refl 0
  | l + 1 => by
    have := hn_le B l
    unfold hn
    split <;> omega
theorem lv_le (B : Bk) (l : Nat) : lv B l ≤ 3 := gv_le _ _ _
theorem tgt_at {B : Bk} (hB : bok B) : ∀ l, l ≤ bL B → ∃ A, tgt B = A * 4 ^ (20 - l) + bits B (bL B - l) (st B l)
  | 0, _ => ⟨ls B (bL B) (0, 0, 0), by
      show ls B (bL B) (0, 0, 0) * 2 ^ 40 + bits B (bL B) (0, 0, 0) = _
      rw [show (2 : Nat) ^ 40 = 4 ^ (20 - 0) by decide]; rfl⟩
  | l + 1, h => by
    have h20 := hB.L
    obtain ⟨A, hA⟩ := tgt_at hB l (by omega)
    obtain ⟨p1, -, -⟩ := pow_l hB (l := l) (by omega)
    refine ⟨4 * A + lv B l, ?_⟩
    rw [hA, p1, show bL B - l = (bL B - (l + 1)) + 1 by omega, bits, show bL B - (bL B - (l + 1) + 1) = l by omega, show 20 - bL B + (bL B - (l + 1)) = 19 - l by omega, show 20 - (l + 1) = 19 - l by omega]
    show A * (4 * 4 ^ (19 - l)) + (lv B l * 4 ^ (19 - l) + bits B (bL B - (l + 1)) (st B (l + 1))) = _
    rw [Nat.add_mul, ← Nat.mul_assoc, Nat.mul_comm A 4]
    omega
theorem lv_digit {B : Bk} (hB : bok B) {l : Nat} (hl : l < bL B) : tgt B / 4 ^ (19 - l) % 4 = lv B l := by
  have h20 := hB.L
  obtain ⟨A, hA⟩ := tgt_at hB l (by omega)
  obtain ⟨p1, p2, -⟩ := pow_l hB hl
  have hb := bits_lt (B := B) (bL B - (l + 1)) (st B (l + 1))
  rw [show 20 - bL B + (bL B - (l + 1)) = 19 - l by omega] at hb
  have e : tgt B = (4 * A + lv B l) * 4 ^ (19 - l) + bits B (bL B - (l + 1)) (st B (l + 1)) := by
    rw [hA, p1, show bL B - l = (bL B - (l + 1)) + 1 by omega, bits, show bL B - (bL B - (l + 1) + 1) = l by omega, show 20 - bL B + (bL B - (l + 1)) = 19 - l by omega]
    show A * (4 * 4 ^ (19 - l)) + (lv B l * 4 ^ (19 - l) + bits B (bL B - (l + 1)) (st B (l + 1))) = _
    rw [Nat.add_mul, ← Nat.mul_assoc, Nat.mul_comm A 4]
    omega
  have h3 := lv_le B l
  rw [e, Nat.mul_comm, Nat.mul_add_div (by omega), Nat.div_eq_of_lt hb]
  omega
theorem tgt_cost {B : Bk} (hB : bok B) : tgt B / 2 ^ 40 = ls B (bL B) (0, 0, 0) ∧ tgt B < 2 ^ 60 := by
  have h20 := hB.L
  have hb := bits_lt (B := B) (bL B) (0, 0, 0)
  have hl := ls_le hB (bL B) (0, 0, 0)
  rw [show 20 - bL B + bL B = 20 by omega, show (4 : Nat) ^ 20 = 2 ^ 40 by decide] at hb
  have e : tgt B = ls B (bL B) (0, 0, 0) * 2 ^ 40 + bits B (bL B) (0, 0, 0) := rfl
  omega
def tidle (τ : Tg) : Prop := ∀ q, q < 2744 → τ 0 q = lN (2 ^ 60) ∧ τ 1 q = lN (2 ^ 60)
theorem s_X6_takeLeastKey {B : Bk} {σ : Sg} {τ : Tg} (hd : dps B (bL B) σ τ) (ht : tgt B < 2 ^ 60) {post : Int64 → Sg → Tg → Prop} (hp : ∀ τ' : Tg, tidle τ' → post (lN (tgt B)) σ τ') : wp_X6_takeLeastKey σ τ post := by
  obtain ⟨K, S, n, h0, h31, h8, hR, h1, hlo, -, i0, hi0, hopt⟩ := hd
  have hn := hR.le
  have kb0 : ∀ c, kb B (bL B - bL B) c = 0 := fun c => by rw [Nat.sub_self]; simp [kb, ls, bits]
  rw [kb0] at hopt
  have loop : ∀ (f k m : Nat) (τ : Tg) (Kk : Nat → Nat), k ≤ n → n < k + f → m ≤ 2 ^ 60 → tgt B ≤ m → (i0 < k → m ≤ tgt B) → (∀ q, q < 2744 → τ 0 q = lN (Kk q)) → (∀ q, q < 2744 → τ 1 q = lN (2 ^ 60)) → (∀ i, k ≤ i → i < n → Kk (S i) = K (S i)) → (∀ i, i < k → Kk (S i) = 2 ^ 60) → (∀ q, q < 2744 → (∀ i, i < n → S i ≠ q) → Kk q = 2 ^ 60) → wp_X6_takeLeastKey_6 post f (lN m) (nI k) σ τ := by
    intro f
    induction f with
    | zero => intro k m τ Kk a1 a2; omega
    | succ f ih =>
      intro k m τ Kk a1 a2 hm hlow hat hτ hτ1 b1 b2 b3
      unfold wp_X6_takeLeastKey_6
      rw [h8, nI_leI (by omega) (by omega)]
      refine ⟨fun h => ?_, fun h => ?_⟩
      · have hkn : k = n := by omega
        subst hkn
        have hmt : m = tgt B := by have := hat hi0; omega
        rw [hmt]
        refine hp τ (fun q hq => ⟨?_, hτ1 q hq⟩)
        rw [hτ q hq]
        by_cases g : ∃ i, i < k ∧ S i = q
        · obtain ⟨i, hi, e⟩ := g
          rw [← e, b2 i hi]
        · rw [b3 q hq (fun i hi e => g ⟨i, hi, e⟩)]
      · have hkn : k < n := by omega
        obtain ⟨hSk, hKk⟩ := hR.1 k hkn
        have hvk : vp_in (nI k) 2744 := vp_in_nI (by omega) (by decide)
        have hvs : vp_in (nI (S k)) 2744 := vp_in_nI hSk (by decide)
        rw [nI_clamp (show k < 2 ^ 31 by omega), h31 k hkn, nI_clamp (show S k < 2 ^ 31 by omega), hτ _ hSk, b1 k (Nat.le_refl k) hkn]
        refine ⟨hvk, hvs, fun y4 e4 => ⟨hvk, hvs, fun τ7 e7 => ?_⟩⟩
        have hl2 := hlo _ hSk hKk
        rw [kb0] at hl2
        have e5 : y4 = lN (min m (K (S k))) := by
          rcases Nat.lt_or_ge (K (S k)) m with g | g
          · rw [e4, if_pos ((pk_lLT (by omega) (by omega)).mpr g), Nat.min_eq_right (Nat.le_of_lt g)]
          · rw [e4, if_neg (fun w => by have := (pk_lLT (by omega) (by omega)).mp w; omega), Nat.min_eq_left g]
        rw [e5, show nI k + (1 : Int32) = nI (k + 1) from nI_1 k]
        rw [far_eq] at e7
        refine ih (k + 1) _ τ7 (fun q => if q = S k then 2 ^ 60 else Kk q) (by omega) (by omega) (by omega) (by omega) (fun hi => ?_) (fun q hq => ?_) (fun q hq => by rw [e7, sig_ne (by decide)]; exact hτ1 q hq) (fun i u1 u2 => ?_) (fun i hi => ?_) (fun q hq u => ?_)
        · rcases Nat.lt_or_ge i0 k with w | w
          · have := hat w; omega
          · rw [show i0 = k by omega] at hopt; omega
        · rw [e7, sig_eq]
          by_cases w : q = S k
          · rw [w, pk_uLs, if_pos rfl]
          · rw [pk_uLn w, if_neg w]; exact hτ q hq
        · rw [if_neg (fun e => hR.2.2.1 k i (by omega) u2 e.symm)]
          exact b1 i (by omega) u2
        · rcases Nat.lt_or_ge i k with w | w
          · rw [if_neg (hR.2.2.1 i k w hkn)]; exact b2 i w
          · rw [show i = k by omega, if_pos rfl]
        · rw [if_neg (fun e => u k hkn e.symm)]
          exact b3 q hq u
  refine ⟨n + 1, ?_⟩
  rw [far_eq]
  exact loop (n + 1) 0 (2 ^ 60) τ K (Nat.zero_le _) (by omega) (Nat.le_refl _) (by omega) (fun h => by omega) h0 h1 (fun _ _ _ => rfl) (fun i hi => by omega) (fun q hq u => by
    rcases Nat.lt_or_ge (K q) (2 ^ 60) with w | w
    · obtain ⟨i, hi, e⟩ := hR.2.1 q hq w
      exact absurd e (u i hi)
    · have := hR.2.2.2 q; omega)
theorem shr_nI {a k : Nat} (ha : a < 2 ^ 62) (hk : k < 64) : lN a >>> ((nI k).toInt64 &&& 63) = lN (a / 2 ^ k) := by
  refine pf_shr ?_ ha
  rw [wb_c k hk]
  show ((BitVec.ofNat 64 k).smod 64).toNat = k
  rw [wb_sm k hk, BitVec.toNat_ofNat, Nat.mod_eq_of_lt (by omega)]
theorem land3 (a : Nat) : lN a &&& (3 : Int64) = lN (a % 4) := fb_maskL a 2
def tLv (B : Bk) (σ : Sg) : Prop := ∀ l, l < bL B → σ 28 l = nI (lv B l)
theorem s_X6_tellLevels {B : Bk} {σ : Sg} {τ : Tg} (hB : bok B) (hL : σ 5 0 = nI (bL B)) {post : Sg → Tg → Prop}
    (hp : ∀ σ' : Sg, (∀ k, k ≠ 6 → k ≠ 7 → k ≠ 28 → σ' k = σ k) → σ' 7 0 = nI (ls B (bL B) (0, 0, 0)) → σ' 6 0 = nI (hn B (bL B)) → tLv B σ' → post σ' τ) : wp_X6_tellLevels (lN (tgt B)) σ τ post := by
  have h20 := hB.L
  obtain ⟨ht1, ht2⟩ := tgt_cost hB
  have loop : ∀ (f l : Nat) (σ1 : Sg), l ≤ bL B → bL B < l + f → (∀ k, k ≠ 6 → k ≠ 7 → k ≠ 28 → σ1 k = σ k) → σ1 7 0 = nI (ls B (bL B) (0, 0, 0)) → σ1 6 0 = nI (hn B l) → (∀ i, i < l → σ1 28 i = nI (lv B i)) → wp_X6_tellLevels_16 post f (lN (tgt B)) (nI l) σ1 τ := by
    intro f
    induction f with
    | zero => intro l σ1 a1 a2; omega
    | succ f ih =>
      intro l σ1 a1 a2 hfr h7 h6 hlv
      unfold wp_X6_tellLevels_16
      rw [hfr 5 (by decide) (by decide) (by decide), hL, nI_leI (by omega) (by omega)]
      refine ⟨fun h => ?_, fun h => ⟨vp_in_nI (by omega) (by decide), fun σ3 e3 => ?_⟩⟩
      · have : l = bL B := by omega
        subst this
        exact hp σ1 hfr h7 h6 hlv
      · have hl : l < bL B := by omega
        have e1 : (2 : Int32) * ((19 : Int32) - nI l) = nI (2 * (19 - l)) := by
          rw [nlit 2, nlit 19, pk_sub (by omega), pk_mul]
        have e2 : ((lN (tgt B) >>> (((2 : Int32) * ((19 : Int32) - nI l)).toInt64 &&& 63)) &&& (3 : Int64)).toInt32 = nI (lv B l) := by
          rw [e1, shr_nI (by omega) (by omega), land3, lN_i, Nat.pow_mul, show (2 : Nat) ^ 2 = 4 from rfl, lv_digit hB hl]
        rw [e2, nI_clamp (by omega)] at e3
        have h28 : σ3 28 l = nI (lv B l) := by rw [e3, sig_eq, pk_us]
        have h36 : σ3 6 0 = nI (hn B l) := by rw [e3, sig_ne (by decide)]; exact h6
        have hlv3 := lv_le B l
        have hh := hn_le B l
        rw [nI_clamp (show l < 2 ^ 31 by omega), h28, h36, show (nI (lv B l) ≤ 0) = (lv B l ≤ 0) from propext (nI_leI (b := 0) (by omega) (by decide)), show nI l + (1 : Int32) = nI (l + 1) from nI_1 l]
        have fin : ∀ (σ6 : Sg) (w : Nat), σ6 = va_up σ3 6 (fun _ => nI w) → w = hn B (l + 1) → wp_X6_tellLevels_16 post f (lN (tgt B)) (nI (l + 1)) σ6 τ := fun σ6 w e6 hw => by
          refine ih (l + 1) σ6 (by omega) (by omega) (fun k u1 u2 u3 => by rw [e6, sig_ne u1, e3, sig_ne u3]; exact hfr k u1 u2 u3) (by rw [e6, sig_ne (by decide), e3, sig_ne (by decide)]; exact h7) (by rw [e6, sig_eq, hw]) (fun i hi => ?_)
          rw [e6, sig_ne (by decide), e3, sig_eq]
          rcases Nat.lt_or_ge i l with q | q
          · rw [pk_un (by omega)]; exact hlv i q
          · rw [show i = l by omega, pk_us]
        refine ⟨vp_in_nI (by omega) (by decide), fun g σ6 e6 => ?_, fun g σ6 e6 => ?_⟩
        · rw [show nI (hn B l) + (0 : Int32) = nI (hn B l) from (nI_add _ 0)] at e6
          exact fin σ6 _ e6 (by rw [hn, if_pos (by omega)]; rfl)
        · rw [show nI (hn B l) + (1 : Int32) = nI (hn B l + 1) from nI_1 _] at e6
          exact fin σ6 _ e6 (by rw [hn, if_neg (by omega)])
  unfold wp_X6_tellLevels
  intro σ1 e1 σ2 e2
  rw [show (40 : Int32) = nI 40 from rfl, shr_nI (by omega) (by decide), lN_i, ht1] at e1
  refine ⟨bL B + 1, loop (bL B + 1) 0 σ2 (Nat.zero_le _) (by omega) (fun k u1 u2 _ => by rw [e2, sig_ne u1, e1, sig_ne u2]) (by rw [e2, sig_ne (by decide), e1, sig_eq]) (by rw [e2, sig_eq]; rfl) (fun i hi => by omega)⟩
def tCo (B : Bk) (σ : Sg) : Prop := ∀ l k, l < bL B → 1 ≤ k → k ≤ 3 → σ 29 (3 * l + (k - 1)) = nI (gt3 (st B (l + 1)) k)
theorem s_X6_tellCounters_46 {B : Bk} {τ : Tg} (hB : bok B) {l : Nat} (hl : l < bL B) {c : C3} {post : Sg → Tg → Prop} {k10 : Int32 → Sg → Tg → Prop} : ∀ (f k : Nat) (σ : Sg), 1 ≤ k → k ≤ 4 → 4 < k + f → atc c σ →
    (∀ σ' : Sg, (∀ j, j ≠ 29 → σ' j = σ j) → (∀ i, i < 3 * l → σ' 29 i = σ 29 i) → (∀ j, j < k → 1 ≤ j → σ' 29 (3 * l + (j - 1)) = σ 29 (3 * l + (j - 1))) → (∀ j, k ≤ j → j ≤ 3 → σ' 29 (3 * l + (j - 1)) = nI (gt3 c j)) → k10 (nI (l + 1)) σ' τ) → wp_X6_tellCounters_46 post k10 f (nI l) (nI k) σ τ := by
  have h20 := hB.L
  intro f
  induction f with
  | zero => intro k σ h1 h2 h3; omega
  | succ f ih =>
    intro k σ h1 h2 h3 hc hp
    unfold wp_X6_tellCounters_46
    rw [nlit 3, nI_ltI (by decide) (by omega), show nI l + (1 : Int32) = nI (l + 1) from nI_1 l, show nI k + (1 : Int32) = nI (k + 1) from nI_1 k]
    refine ⟨fun h => hp σ (fun _ _ => rfl) (fun _ _ => rfl) (fun _ _ _ => rfl) (fun j a b => by omega), fun h => ?_⟩
    have e : nI l * nI 3 + nI k - (1 : Int32) = nI (3 * l + (k - 1)) := by
      rw [nlit 1, pk_mul, nI_add, pk_sub (by omega)]
      congr 1; omega
    rw [e, nI_clamp (by omega), nI_clamp (show k < 2 ^ 31 by omega), hc k (by omega)]
    refine ⟨vp_in_nI (by omega) (by decide), vp_in_nI (by omega) (by decide), fun σ4 e4 => ?_⟩
    refine ih (k + 1) σ4 (by omega) (by omega) (by omega) (atc_same (by rw [e4, sig_ne (by decide)]) hc) (fun σ' g1 g2 g3 g4 => hp σ' (fun j hj => by rw [g1 j hj, e4, sig_ne hj]) (fun i hi => ?_) (fun j u1 u2 => ?_) (fun j u1 u2 => ?_))
    · rw [g2 i hi, e4, sig_eq, pk_un (by omega)]
    · rw [g3 j (by omega) u2, e4, sig_eq, pk_un (by omega)]
    · rcases Nat.lt_or_ge k j with q | q
      · exact g4 j q u2
      · rw [g3 j (by omega) (by omega), e4, sig_eq, show j = k by omega, pk_us]
theorem s_X6_tellCounters {B : Bk} {σ : Sg} {τ : Tg} (hB : bok B) (hL : cLn B σ) (h33 : σ 33 0 = 1) (hv : tLv B σ) {post : Sg → Tg → Prop}
    (hp : ∀ σ' : Sg, (∀ k, k ≠ 29 → k ≠ 33 → σ' k = σ k) → σ' 33 0 = 1 → tCo B σ' → post σ' τ) : wp_X6_tellCounters σ τ post := by
  have h20 := hB.L
  have loop : ∀ (f l : Nat) (σ1 : Sg), l ≤ bL B → bL B < l + f → (∀ k, k ≠ 29 → k ≠ 33 → σ1 k = σ k) → atc (st B l) σ1 → (∀ i k, i < l → 1 ≤ k → k ≤ 3 → σ1 29 (3 * i + (k - 1)) = nI (gt3 (st B (i + 1)) k)) → wp_X6_tellCounters_10 post f (nI l) σ1 τ := by
    intro f
    induction f with
    | zero => intro l σ1 a1 a2; omega
    | succ f ih =>
      intro l σ1 a1 a2 hfr hc ht
      unfold wp_X6_tellCounters_10
      rw [hfr 5 (by decide) (by decide), hL.1, nI_leI (by omega) (by omega)]
      refine ⟨fun h => ?_, fun h => ?_⟩
      · have : l = bL B := by omega
        subst this
        exact hp σ1 hfr (by rw [hc 0 (by decide)]; rfl) ht
      · have hl : l < bL B := by omega
        have h3 := lv_le B l
        have hvl : vp_in (nI l) 20 := vp_in_nI (by omega) (by decide)
        rw [nI_clamp (by omega), hfr 28 (by decide) (by decide), hv l hl, show (nI (lv B l) ≤ 0) = (lv B l ≤ 0) from propext (nI_leI (b := 0) (by omega) (by decide))]
        have go : ∀ σ2 : Sg, (∀ k, k ≠ 33 → σ2 k = σ1 k) → atc (st B (l + 1)) σ2 → ∃ fu, wp_X6_tellCounters_46 post (fun zx1 zσ zτ => wp_X6_tellCounters_10 post f zx1 zσ zτ) fu (nI l) (1 : Int32) σ2 τ := fun σ2 g1 g2 =>
          ⟨4, s_X6_tellCounters_46 hB hl 4 1 σ2 (by decide) (by decide) (by decide) g2 (fun σ' f1 f2 f3 f4 => ih (l + 1) σ' (by omega) (by omega) (fun k u1 u2 => by rw [f1 k u1, g1 k u2]; exact hfr k u1 u2) (atc_same (f1 33 (by decide)) g2) (fun i k u1 u2 u3 => by
            rcases Nat.lt_or_ge i l with q | q
            · rw [f2 _ (by omega), g1 29 (by decide)]; exact ht i k q u2 u3
            · rw [show i = l by omega]; exact f4 k u2 u3))⟩
        refine ⟨hvl, fun g => go σ1 (fun _ _ => rfl) ?_, fun g => ⟨hvl, s_X0_passHead hB (cLn_same (fun k hk => hfr k (by omega) (by omega)) hL) hl (by omega) h3 hc (fun σ2 g1 g2 => go σ2 g1 ?_)⟩⟩
        · have e : st B (l + 1) = st B l := by
            show nc B l (st B l) (lv B l) = _
            unfold nc; rw [if_pos (by omega)]
          rw [e]; exact hc
        · have e : st B (l + 1) = nxt B l (st B l) (lv B l) := by
            show nc B l (st B l) (lv B l) = _
            unfold nc; rw [if_neg (by omega)]
          rw [e]; exact g2
  unfold wp_X6_tellCounters
  refine s_X0_unpack (s := 0) (by decide) h33 (fun σ1 g1 g2 => ⟨bL B + 1, loop (bL B + 1) 0 σ1 (Nat.zero_le _) (by omega) (fun k _ u => g1 k u) g2 (fun i k hi => by omega)⟩)
def k00 (q : Nat) : Nat := if q = 0 then 0 else 2 ^ 60
theorem k00_ne {q : Nat} (h : q ≠ 0) : k00 q = 2 ^ 60 := if_neg h
theorem k00_lt {q : Nat} (h : k00 q < 2 ^ 60) : q = 0 := by
  by_cases z : q = 0
  · exact z
  · rw [k00_ne z] at h; exact absurd h (Nat.lt_irrefl _)
theorem k00_0 : k00 0 = 0 := rfl
theorem dps_0 {B : Bk} {σ : Sg} {τ : Tg} (h0 : ∀ q, q < 2744 → τ 0 q = lN (k00 q)) (h31 : σ 31 0 = nI 0) (h8 : σ 8 0 = nI 1) (h1 : ∀ q, q < 2744 → τ 1 q = lN (2 ^ 60)) : dps B 0 σ τ := by
  have hz : k00 0 + kb B (bL B - 0) (up3 0) = tgt B := by rw [k00_0, Nat.zero_add]; rfl
  refine ⟨k00, fun _ => 0, 1, h0, fun i hi => by rw [show i = 0 by omega]; exact h31, h8, ⟨fun i hi => ⟨Nat.zero_lt_succ _, by rw [k00_0]; exact Nat.pow_pos (by decide)⟩, fun q hq w => ⟨0, by decide, (k00_lt w).symm⟩, fun i j hij hj => by omega, fun q => ?_⟩, h1, fun q hq w => ?_, fun q w => ?_, 0, by decide, ?_⟩
  · by_cases z : q = 0
    · rw [z, k00_0]; exact Nat.zero_le _
    · rw [k00_ne z]; exact Nat.le_refl _
  · rw [k00_lt w, hz]; exact Nat.le_refl _
  · rw [k00_lt w, k00_0]; exact Nat.zero_le _
  · exact Nat.le_of_eq hz
/-- what holds behind a search -/
def treeOK (B : Bk) (σ : Sg) : Prop := rnn B σ ∧ σ 7 0 = nI (ls B (bL B) (0, 0, 0)) ∧ σ 6 0 = nI (hn B (bL B)) ∧ tLv B σ ∧ tCo B σ
theorem s_X6_search {B : Bk} {σ : Sg} {τ : Tg} (hB : bok B) (hL : cLn B σ) (hS : cSe B σ) (h33 : σ 33 0 = 1) (ht : tidle τ) {post : Sg → Tg → Prop}
    (hp : ∀ (σ' : Sg) (τ' : Tg), (∀ k, (k < 6 ∨ (10 ≤ k ∧ k ≤ 26) ∨ 34 ≤ k) → σ' k = σ k) → σ' 33 0 = 1 → tidle τ' → treeOK B σ' → post σ' τ') : wp_X6_search σ τ post := by
  have h20 := hB.L
  have hN := hB.N
  have l2 : ∀ (f l : Nat) (σ1 : Sg) (τ1 : Tg), l ≤ bL B → bL B < l + f → (∀ k, (k < 6 ∨ (10 ≤ k ∧ k ≤ 26) ∨ 34 ≤ k) → σ1 k = σ k) → rnn B σ1 → σ1 33 0 = 1 → dps B l σ1 τ1 → wp_X6_search_61 post f (nI l) σ1 τ1 := by
    intro f
    induction f with
    | zero => intro l σ1 τ1 a1 a2; omega
    | succ f ih =>
      intro l σ1 τ1 a1 a2 hfr hr h3 hd
      have hL1 : cLn B σ1 := cLn_same (fun k hk => hfr k (by omega)) hL
      have hS1 : cSe B σ1 := cSe_same (fun k hk => hfr k (by omega)) hS
      unfold wp_X6_search_61
      rw [hL1.1, nI_leI (by omega) (by omega)]
      refine ⟨fun h => ?_, fun h => s_X6_findCapsBehind hB hL1 (by omega) (fun σ2 g1 g2 => ?_)⟩
      · have : l = bL B := by omega
        subst this
        refine s_X6_takeLeastKey hd (tgt_cost hB).2 (fun τ2 ht2 => s_X6_tellLevels hB hL1.1 (fun σ3 b1 b2 b3 b4 => s_X6_tellCounters hB (cLn_same (fun k hk => b1 k (by omega) (by omega) (by omega)) hL1) (by rw [b1 33 (by decide) (by decide) (by decide)]; exact h3) b4 (fun σ4 d1 d2 d3 => hp σ4 τ2 (fun k hk => ?_) d2 ht2 ⟨fun l hl => ?_, ?_, ?_, fun l hl => ?_, d3⟩)))
        · rw [d1 k (by omega) (by omega), b1 k (by omega) (by omega) (by omega)]; exact hfr k hk
        · rw [d1 27 (by decide) (by decide), b1 27 (by decide) (by decide) (by decide)]; exact hr l hl
        · rw [d1 7 (by decide) (by decide)]; exact b2
        · rw [d1 6 (by decide) (by decide)]; exact b3
        · rw [d1 28 (by decide) (by decide)]; exact b4 l hl
      · obtain ⟨K, S, n, e1, e2, e3, e4⟩ := hd
        refine s_X6_passLine hB (by omega) (sok_same (fun k hk => g1 k (by omega)) (by rw [g1 33 (by decide)]; exact h3) ⟨hL1, hS1, hr, h3⟩) g2 ⟨K, S, n, e1, fun i hi => by rw [g1 31 (by decide)]; exact e2 i hi, by rw [g1 8 (by decide)]; exact e3, e4⟩ (fun σ3 τ3 b1 b2 b3 => ?_)
        rw [show nI l + (1 : Int32) = nI (l + 1) from nI_1 l]
        refine ih (l + 1) σ3 τ3 (by omega) (by omega) (fun k hk => by rw [b1 k (by omega) (by omega) (by omega) (by omega) (by omega), g1 k (by omega)]; exact hfr k hk) (fun i hi => by rw [b1 27 (by decide) (by decide) (by decide) (by decide) (by decide), g1 27 (by decide)]; exact hr i hi) b2 b3
  have l1 : ∀ (f l : Nat) (σ1 : Sg), l ≤ bL B → bL B < l + f → (∀ k, k ≠ 27 → σ1 k = σ k) → (∀ i, i < l → σ1 27 i = if run B i = true then 1 else 0) → wp_X6_search_2 post f (nI l) σ1 τ := by
    intro f
    induction f with
    | zero => intro l σ1 a1 a2; omega
    | succ f ih =>
      intro l σ1 a1 a2 hfr hr
      have hL1 : cLn B σ1 := cLn_same (fun k hk => hfr k (by omega)) hL
      unfold wp_X6_search_2
      rw [hL1.1, nI_leI (by omega) (by omega), hfr 3 (by decide), hS.1]
      refine ⟨fun h σ2 e2 σ4 e4 τ6 e6 => ?_, fun h => s_X1_isRunning hB hL1 (by omega) ⟨vp_in_nI (by omega) (by decide), ?_, fun σ3 e3 => ?_⟩⟩
      · have : l = bL B := by omega
        subst this
        rw [cl0] at e4 e6
        refine ⟨bL B + 1, l2 (bL B + 1) 0 σ4 τ6 (Nat.zero_le _) (by omega) (fun k hk => by rw [e4, sig_ne (by omega), e2, sig_ne (by omega)]; exact hfr k (by omega)) (fun i hi => by rw [e4, sig_ne (by decide), e2, sig_ne (by decide)]; exact hr i hi) (by rw [e4, sig_ne (by decide), e2, sig_ne (by decide), hfr 33 (by decide)]; exact h33) (dps_0 (fun q hq => ?_) ?_ ?_ (fun q hq => ?_))⟩
        · rw [e6, sig_eq]
          by_cases w : q = 0
          · rw [w, pk_uLs]; rfl
          · rw [pk_uLn w, k00_ne w]; exact (ht q hq).1
        · rw [e4, sig_eq, pk_us]; rfl
        · rw [e4, sig_ne (by decide), e2, sig_eq]; rfl
        · rw [e6, sig_ne (by decide)]; exact (ht q hq).2
      · unfold bz; split
        · exact Or.inr rfl
        · exact Or.inl rfl
      · rw [nI_clamp (by omega)] at e3
        rw [show nI l + (1 : Int32) = nI (l + 1) from nI_1 l]
        refine ih (l + 1) σ3 (by omega) (by omega) (fun k hk => by rw [e3, sig_ne hk]; exact hfr k hk) (fun i hi => ?_)
        rw [e3, sig_eq]
        rcases Nat.lt_or_ge i l with q | q
        · rw [pk_un (by omega)]; exact hr i q
        · rw [show i = l by omega, pk_us]
  exact ⟨bL B + 1, l1 (bL B + 1) 0 σ (Nat.zero_le _) (by omega) (fun _ _ => rfl) (fun i hi => by omega)⟩
