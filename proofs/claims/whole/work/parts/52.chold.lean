/-! Listing of the class: the list is held -/
theorem lat_s (t : Nat) : lat (t + 1) = nI t := by unfold lat; rw [if_neg (by omega), Nat.add_sub_cancel]
theorem lat_0 : lat 0 = -1 := rfl
theorem lat_lt {t : Nat} (h : t < 2 ^ 31) : (lat t < 0) = (t = 0) := propext (by
  rcases Nat.eq_zero_or_pos t with q | q
  · subst q; exact ⟨fun _ => rfl, fun _ => by decide⟩
  · rw [show t = (t - 1) + 1 by omega, lat_s]
    exact ⟨fun z => absurd z (nI_pos (by omega)), fun z => by omega⟩)
theorem lat_m1 (t : Nat) : nI t + (-1 : Int32) = lat t := by
  rcases Nat.eq_zero_or_pos t with q | q
  · subst q; rfl
  · rw [show t = (t - 1) + 1 by omega, lat_s, pk_m1]
theorem lat_ne {t : Nat} (h : t < 2 ^ 31) : (lat t = (-1 : Int32)) = (t = 0) := propext (by
  rcases Nat.eq_zero_or_pos t with q | q
  · subst q; exact ⟨fun _ => rfl, fun _ => rfl⟩
  · rw [show t = (t - 1) + 1 by omega, lat_s]
    refine ⟨fun z => ?_, fun z => by omega⟩
    have h1 := nI_pos' (n := t - 1) (by omega)
    rw [z] at h1
    exact absurd h1 (by decide))
def lfa (B : Bk) (s : Nat) (σ : Sg) : Prop := ∀ a b, s ≤ a → a ≤ bE B → b ≤ bH B → σ 41 (a * 21 + b) = nI (lf B (bE B - a) (bH B - b))
theorem s_X2_hold_18 {B : Bk} {τ : Tg} (hB : bok B) {e : Nat} (he : e ≤ bE B) {post : Sg → Tg → Prop} {k9 : Int32 → Sg → Tg → Prop} : ∀ (f t : Nat) (σ : Sg), t ≤ bH B + 1 → t < f → lok B σ → lfs B e t σ → (∀ σ' : Sg, (∀ k, k ≠ 41 → σ' k = σ k) → lfs B e 0 σ' → k9 (lat e) σ' τ) → wp_X2_hold_18 post k9 f (nI e) (lat t) σ τ := by
  have h12 := hB.E
  have hH := bH_le hB
  intro f
  induction f with
  | zero => intro t σ a1 a2; omega
  | succ f ih =>
    intro t σ a1 a2 hk hs hp
    unfold wp_X2_hold_18
    rw [lat_lt (by omega), lat_m1]
    refine ⟨fun h => hp σ (fun _ _ => rfl) (by rw [h] at hs; exact hs), fun h => ?_⟩
    obtain ⟨j, rfl⟩ : ∃ j, t = j + 1 := ⟨t - 1, by omega⟩
    rw [lat_s]
    have e6 : nI e * (21 : Int32) + nI j = nI (e * 21 + j) := by rw [nlit 21, pk_mul, nI_add]
    rw [e6, lat_m1]
    refine s_X2_leastFrom hB hk he (by omega) hs ⟨vp_in_nI (by omega) (by decide), fun σ6 e9 => ?_⟩
    rw [nI_clamp (by omega)] at e9
    refine ih j σ6 (by omega) (by omega) (lok_same (fun k _ _ _ u => by rw [e9, sig_ne u]) hk) (fun a b u1 u2 u3 => ?_) (fun σ' g1 g2 => hp σ' (fun k hk => by rw [g1 k hk, e9, sig_ne hk]) g2)
    rw [e9, sig_eq]
    by_cases w : a = e ∧ b = j
    · rw [w.1, w.2, pk_us]
    · rw [pk_un (by omega)]
      exact hs a b u1 u2 (by omega)
theorem s_X2_firstCheapHead {B : Bk} {σ : Sg} {τ : Tg} (hB : bok B) (hk : lok B σ) (ha : lfa B 0 σ) {e fr : Nat} (he : e < bE B) (hf : fr ≤ bH B) {post : Int32 → Sg → Tg → Prop} (hp : post (if fh B e fr < bH B then nI (fh B e fr) else -1) σ τ) : wp_X2_firstCheapHead (nI e) (nI fr) σ τ post := by
  have h12 := hB.E
  have hH := bH_le hB
  have h7 := hB.hpr 7
  have bnd : ∀ a b, a ≤ 12 → b ≤ 20 → lf B a b ≤ 1600 := fun a b ha hb => by
    have h1 := lf_le (B := B) a b
    have h2 : pr B 7 * (a + b) ≤ 50 * 32 := Nat.mul_le_mul h7 (by omega)
    omega
  have loop : ∀ (f h : Nat), fr ≤ h → h ≤ bH B → bH B < h + f → post (if frst (fpr B e fr) h (bH B - h) < bH B then nI (frst (fpr B e fr) h (bH B - h)) else -1) σ τ → wp_X2_firstCheapHead_18 post f (nI e) (nI (lf B (bE B - e) (bH B - fr))) (nI (pr B 7 * (h - fr))) (nI h) σ τ := by
    intro f
    induction f with
    | zero => intro h a1 a2 a3; omega
    | succ f ih =>
      intro h a1 a2 a3 hq
      unfold wp_X2_firstCheapHead_18
      rw [hk.2.2.2.2.2.1, nI_leI (by omega) (by omega)]
      refine ⟨fun g => ?_, fun g => ?_⟩
      · rw [show bH B - h = 0 by omega] at hq
        rwa [if_neg (show ¬ frst (fpr B e fr) h 0 < bH B by unfold frst; omega)] at hq
      · have e6 : (nI e + (1 : Int32)) * (21 : Int32) + nI h + (1 : Int32) = nI ((e + 1) * 21 + (h + 1)) := by
          rw [nI_1, nlit 21, pk_mul, nI_add, nI_1]; rfl
        rw [e6, nI_clamp (by omega), ha (e + 1) (h + 1) (Nat.zero_le _) (by omega) (by omega)]
        refine ⟨vp_in_nI (by omega) (by decide), fun y3 e3 => s_X2_pairCost hB hk he (by omega) ?_⟩
        have c1 := bnd (bE B - e) (bH B - fr) (by omega) (by omega)
        have c2 := bnd (bE B - (e + 1)) (bH B - (h + 1)) (by omega) (by omega)
        have c3 := pcost_le hB he (hd B h)
        have c4 : pr B 7 * (h - fr) ≤ 50 * 20 := Nat.mul_le_mul h7 (by omega)
        rw [e3, nI_add, nI_add, nI_eq (by omega) (by omega)]
        rw [show bH B - h = (bH B - (h + 1)) + 1 by omega, frst] at hq
        have hfp : (fpr B e fr h = true) = (pr B 7 * (h - fr) + pcost B e (hd B h) + lf B (bE B - (e + 1)) (bH B - (h + 1)) = lf B (bE B - e) (bH B - fr)) := propext (by unfold fpr; exact decide_eq_true_iff)
        refine ⟨fun w y9 e9 => ?_, fun w => ?_⟩
        · have hf : ¬ fpr B e fr h = true := by rw [hfp]; exact w
          rw [if_neg hf] at hq
          rw [cl7, hk.2.2.1.2.1 7 (by decide), nI_add, show pr B 7 * (h - fr) + pr B 7 = pr B 7 * (h + 1 - fr) by rw [show h + 1 - fr = (h - fr) + 1 by omega, Nat.mul_add, Nat.mul_one]] at e9
          rw [e9, show nI h + (1 : Int32) = nI (h + 1) from nI_1 h]
          exact ih (h + 1) (by omega) (by omega) (by omega) hq
        · have hf : fpr B e fr h = true := by rw [hfp]; exact w
          rw [if_pos hf, if_pos (show h < bH B by omega)] at hq
          exact hq
  unfold wp_X2_firstCheapHead
  have e6 : nI e * (21 : Int32) + nI fr = nI (e * 21 + fr) := by rw [nlit 21, pk_mul, nI_add]
  rw [e6, nI_clamp (by omega), ha e fr (Nat.zero_le _) (by omega) hf]
  refine ⟨vp_in_nI (by omega) (by decide), fun y2 e2 => ⟨bH B + 1, ?_⟩⟩
  have hl := loop (bH B + 1) fr (Nat.le_refl _) hf (by omega) hp
  rw [Nat.sub_self, Nat.mul_zero] at hl
  rw [e2]
  exact hl
def ptn (B : Bk) (e : Nat) : Nat := fh B e (fro B e)
/-- an entry's partner: a line and one, or 0 -/
def ple (B : Bk) (e : Nat) : Nat := if ptn B e < bH B then hd B (ptn B e) + 1 else 0
/-- a line's partner among the first n entries: an entry and one, or 0 -/
def pel (B : Bk) (l : Nat) : Nat → Nat
  | 0 => 0
  | e + 1 => if ple B e = l + 1 then e + 1 else pel B l e
theorem s_X2_tellPartners {B : Bk} {σ : Sg} {τ : Tg} (hB : bok B) (hk : lok B σ) (ha : lfa B 0 σ) {post : Sg → Tg → Prop}
    (hp : ∀ σ' : Sg, (∀ k, k ≠ 38 → k ≠ 39 → σ' k = σ k) → (∀ e, e < bE B → σ' 38 e = lat (ple B e)) → (∀ l, l < 20 → σ' 39 l = lat (pel B l (bE B))) → post σ' τ) : wp_X2_tellPartners σ τ post := by
  have h12 := hB.E
  have hH := bH_le hB
  have h20 := hB.L
  have loop : ∀ (f e : Nat) (σ1 : Sg), e ≤ bE B → bE B < e + f → (∀ k, k ≠ 38 → k ≠ 39 → σ1 k = σ k) → (∀ i, i < e → σ1 38 i = lat (ple B i)) → (∀ i, e ≤ i → i < 12 → σ1 38 i = -1) → (∀ l, l < 20 → σ1 39 l = lat (pel B l e)) → wp_X2_tellPartners_20 post f (nI (fro B e)) (nI e) σ1 τ := by
    intro f
    induction f with
    | zero => intro e σ1 a1 a2; omega
    | succ f ih =>
      intro e σ1 a1 a2 hfr b1 b2 b3
      have hk1 : lok B σ1 := lok_same (fun k _ u1 u2 _ => hfr k u1 u2) hk
      have ha1 : lfa B 0 σ1 := fun a b u1 u2 u3 => by rw [hfr 41 (by decide) (by decide)]; exact ha a b u1 u2 u3
      unfold wp_X2_tellPartners_20
      rw [hk1.2.2.2.1.1, nI_leI (by omega) (by omega), show nI e + (1 : Int32) = nI (e + 1) from nI_1 e]
      refine ⟨fun h => ?_, fun h => s_X2_firstCheapHead hB hk1 ha1 (by omega) (fro_le B e) ?_⟩
      · have : e = bE B := by omega
        subst this
        exact hp σ1 hfr b1 b3
      · have hle := fh_le B e
        by_cases g : fh B e (fro B e) < bH B
        · rw [if_pos g]
          have hl : hd B (fh B e (fro B e)) < bL B := (hdl_ok (B := B) (bL B) (fh B e (fro B e)) g).1
          have hpl : ple B e = hd B (fh B e (fro B e)) + 1 := by unfold ple ptn; rw [if_pos g]
          have hne : (nI (fh B e (fro B e)) = (-1 : Int32)) = False := by
            rw [← lat_s, lat_ne (by omega)]; exact propext ⟨fun z => by omega, False.elim⟩
          rw [hne, nI_clamp (show fh B e (fro B e) < 2 ^ 31 by omega), nI_clamp (show e < 2 ^ 31 by omega), hk1.2.2.2.2.2.2 _ g]
          refine ⟨False.elim, fun _ => ⟨vp_in_nI (by omega) (by decide), vp_in_nI (by omega) (by decide), fun σ8 e8 => ?_⟩⟩
          have e40 : σ8 40 (fh B e (fro B e)) = nI (hd B (fh B e (fro B e))) := by rw [e8, sig_ne (by decide)]; exact hk1.2.2.2.2.2.2 _ g
          rw [e40, nI_clamp (show hd B (fh B e (fro B e)) < 2 ^ 31 by omega)]
          refine ⟨vp_in_nI (by omega) (by decide), vp_in_nI (by omega) (by decide), fun σ11 e11 y12 e12 => ?_⟩
          have hfe : fro B (e + 1) = fh B e (fro B e) + 1 := by rw [fro, if_pos g]
          rw [e12, show nI (fh B e (fro B e)) + (1 : Int32) = nI (fro B (e + 1)) by rw [hfe]; exact nI_1 _]
          refine ih (e + 1) σ11 (by omega) (by omega) (fun k u1 u2 => by rw [e11, sig_ne u2, e8, sig_ne u1]; exact hfr k u1 u2) (fun i hi => ?_) (fun i u1 u2 => ?_) (fun l hl2 => ?_)
          · rw [e11, sig_ne (by decide), e8, sig_eq]
            rcases Nat.lt_or_ge i e with q | q
            · rw [pk_un (by omega)]; exact b1 i q
            · rw [show i = e by omega, pk_us, hpl, lat_s]
          · rw [e11, sig_ne (by decide), e8, sig_eq, pk_un (by omega)]; exact b2 i (by omega) u2
          · rw [e11, sig_eq, pel, hpl]
            by_cases w : l = hd B (fh B e (fro B e))
            · rw [w, pk_us, if_pos rfl, lat_s]
            · rw [pk_un w, if_neg (by omega), e8, sig_ne (by decide)]; exact b3 l hl2
        · rw [if_neg g]
          have hpl : ple B e = 0 := by unfold ple ptn; rw [if_neg g]
          refine ⟨fun _ => ?_, fun z => absurd rfl z⟩
          have hfe : fro B (e + 1) = fro B e := by rw [fro, if_neg g]
          have ih1 := ih (e + 1) σ1 (by omega) (by omega) hfr (fun i hi => by
            rcases Nat.lt_or_ge i e with q | q
            · exact b1 i q
            · rw [show i = e by omega, hpl, lat_0]; exact b2 e (Nat.le_refl e) (by omega)) (fun i u1 u2 => b2 i (by omega) u2) (fun l hl2 => by rw [pel, hpl, if_neg (by omega)]; exact b3 l hl2)
          rwa [hfe] at ih1
  unfold wp_X2_tellPartners
  intro f2 p1 p2 σ1 e1 f4 p3 p4 σ3 e3
  refine ⟨bE B + 1, loop (bE B + 1) 0 σ3 (Nat.zero_le _) (by omega) (fun k u1 u2 => by rw [e3, sig_ne u2, e1, sig_ne u1]) (fun i hi => by omega) (fun i _ hi => by rw [e3, sig_ne (by decide), e1, sig_eq]; exact p1 i hi) (fun l hl => by rw [e3, sig_eq]; exact p3 l hl)⟩
/-- what holds behind a holding -/
def listOK (B : Bk) (σ : Sg) : Prop := σ 11 0 = nI (lf B (bE B) (bH B)) ∧ (∀ e, e < bE B → σ 38 e = lat (ple B e)) ∧ (∀ l, l < 20 → σ 39 l = lat (pel B l (bE B)))
theorem s_X2_hold {B : Bk} {σ : Sg} {τ : Tg} (hB : bok B) (hL : cLn B σ) (hP : cPg B σ) (hS : cSe B σ) (hE : cEn B σ) (hv : tLv B σ) {post : Sg → Tg → Prop}
    (hp : ∀ σ' : Sg, (∀ k, k ≠ 11 → k ≠ 12 → k ≠ 38 → k ≠ 39 → k ≠ 40 → k ≠ 41 → σ' k = σ k) → listOK B σ' → post σ' τ) : wp_X2_hold σ τ post := by
  have h12 := hB.E
  have hH := bH_le hB
  have loop : ∀ (f s : Nat) (σ1 : Sg), s ≤ bE B + 1 → s < f → (∀ k, k ≠ 12 → k ≠ 40 → k ≠ 41 → σ1 k = σ k) → lok B σ1 → lfa B s σ1 → wp_X2_hold_9 post f (lat s) σ1 τ := by
    intro f
    induction f with
    | zero => intro s σ1 a1 a2; omega
    | succ f ih =>
      intro s σ1 a1 a2 hfr hk ha
      unfold wp_X2_hold_9
      rw [lat_lt (by omega)]
      refine ⟨fun h σ3 e3 => ?_, fun h y6 e6 => ?_⟩
      · subst h
        have hk3 : lok B σ3 := lok_same (fun k u _ _ _ => by rw [e3, sig_ne u]) hk
        have ha3 : lfa B 0 σ3 := fun a b u1 u2 u3 => by rw [e3, sig_ne (by decide)]; exact ha a b u1 u2 u3
        refine s_X2_tellPartners hB hk3 ha3 (fun σ4 g1 g2 g3 => hp σ4 (fun k u1 u2 u3 u4 u5 u6 => ?_) ⟨?_, g2, g3⟩)
        · rw [g1 k u3 u4, e3, sig_ne u1]; exact hfr k u2 u5 u6
        · rw [g1 11 (by decide) (by decide), e3, sig_eq, cl0]
          exact ha 0 0 (Nat.le_refl _) (Nat.zero_le _) (Nat.zero_le _)
      · obtain ⟨e, rfl⟩ : ∃ e, s = e + 1 := ⟨s - 1, by omega⟩
        rw [hk.2.2.2.2.2.1, ← lat_s] at e6
        rw [e6, lat_s]
        refine ⟨bH B + 3, s_X2_hold_18 hB (by omega) (bH B + 3) (bH B + 1) σ1 (by omega) (by omega) hk (fun a b u1 u2 u3 => ha a b (by omega) u1 u2) (fun σ' g1 g2 => ?_)⟩
        exact ih e σ' (by omega) (by omega) (fun k u1 u2 u3 => by rw [g1 k u3]; exact hfr k u1 u2 u3) (lok_same (fun k _ _ _ u => g1 k u) hk) (fun a b u1 u2 u3 => g2 a b u2 u3 (by omega))
  unfold wp_X2_hold
  refine s_X2_gatherHeads hB hL.1 hv (fun σ1 g1 g2 y3 e3 => ?_)
  have hk : lok B σ1 := ⟨cLn_same (fun k hk => g1 k (by omega) (by omega)) hL, cPg_same (fun k hk => g1 k (by omega) (by omega)) hP, cSe_same (fun k hk => g1 k (by omega) (by omega)) hS, cEn_same (fun k hk => g1 k (by omega) (by omega)) hE, fun l hl => by rw [g1 28 (by decide) (by decide)]; exact hv l hl, g2⟩
  rw [hk.2.2.2.1.1, ← lat_s] at e3
  rw [e3]
  exact ⟨bE B + 3, loop (bE B + 3) (bE B + 1) σ1 (by omega) (by omega) (fun k u1 u2 _ => g1 k u1 u2) hk (fun a b u1 u2 _ => by omega)⟩
