/-! the reference: states, heads that are right, costs -/
def p33 (c : C3) : Nat := (33 * c.1 + c.2.1) * 33 + c.2.2
def bnd (c : C3) (m : Nat) : Prop := c.1 ≤ m ∧ c.2.1 ≤ m ∧ c.2.2 ≤ m
theorem bnd.mono {c : C3} {m n : Nat} (h : bnd c m) (hn : m ≤ n) : bnd c n := ⟨Nat.le_trans h.1 hn, Nat.le_trans h.2.1 hn, Nat.le_trans h.2.2 hn⟩
theorem bnd.gt {c : C3} {m : Nat} (h : bnd c m) (hm : 1 ≤ m) (k : Nat) : gt3 c k ≤ m := by
  obtain ⟨h1, h2, h3⟩ := h
  unfold gt3
  repeat' split
  all_goals omega
theorem p33_lt {c : C3} (h : bnd c 32) : p33 c < 35937 := by
  obtain ⟨h1, h2, h3⟩ := h
  unfold p33; omega
theorem p33_inj {c d : C3} (hc : bnd c 32) (hd : bnd d 32) (h : p33 c = p33 d) : c = d := by
  obtain ⟨a, b, e⟩ := c
  obtain ⟨a', b', e'⟩ := d
  obtain ⟨h1, h2, h3⟩ := hc
  obtain ⟨g1, g2, g3⟩ := hd
  have h1 : a ≤ 32 := h1
  have h2 : b ≤ 32 := h2
  have h3 : e ≤ 32 := h3
  have g1 : a' ≤ 32 := g1
  have g2 : b' ≤ 32 := g2
  have g3 : e' ≤ 32 := g3
  have h : (33 * a + b) * 33 + e = (33 * a' + b') * 33 + e' := h
  have e1 : e = e' := by omega
  have e2 : b = b' := by omega
  have e3 : a = a' := by omega
  rw [e1, e2, e3]
theorem m_counterOf {c : C3} (hc : bnd c 32) {k : Nat} (hk : 1 ≤ k) (hk3 : k ≤ 3) {post : Int32 → Prop} (hp : post (nI (gt3 c k))) : wp_X8_counterOf (nI (p33 c)) (nI k) post := by
  have hl := p33_lt hc
  obtain ⟨a, b, d⟩ := c
  obtain ⟨h1, h2, h3⟩ := hc
  have h1 : a ≤ 32 := h1
  have h2 : b ≤ 32 := h2
  have h3 : d ≤ 32 := h3
  have e0 : p33 (a, b, d) = (33 * a + b) * 33 + d := rfl
  unfold wp_X8_counterOf
  rcases (show k = 1 ∨ k = 2 ∨ k = 3 by omega) with rfl | rfl | rfl
  · refine ⟨fun h => absurd rfl h, fun _ => ?_⟩
    rw [nlit 1089, pk_div (by omega) (by decide) (by decide), show p33 (a, b, d) / 1089 = a by omega]
    exact hp
  · refine ⟨fun _ => ⟨fun h => absurd rfl h, fun _ => ?_⟩, fun h => absurd h (by decide)⟩
    rw [nlit 33, pk_div (by omega) (by decide) (by decide), pk_rem (by omega) (by decide) (by decide), show p33 (a, b, d) / 33 % 33 = b by omega]
    exact hp
  · refine ⟨fun _ => ⟨fun _ => ?_, fun h => absurd h (by decide)⟩, fun h => absurd h (by decide)⟩
    rw [nlit 33, pk_rem (by omega) (by decide) (by decide), show p33 (a, b, d) % 33 = d by omega]
    exact hp
theorem p33_I (a b d : Nat) : ((33 : Int32) * nI a + nI b) * (33 : Int32) + nI d = nI (p33 (a, b, d)) := by
  rw [nlit 33, pk_mul, nI_add, pk_mul, nI_add]; rfl
theorem m_b113 {c : C3} (hc : bnd c 32) {v n : Nat} (hv : 1 ≤ v) (hv3 : v ≤ 3) (hn : n ≤ 32) {μ : Sg} {post : Int32 → Sg → Prop} (hp : post (nI (p33 (if v = 1 then (n, 0, 0) else if v = 2 then (c.1, n, 0) else (c.1, c.2.1, n)))) μ) : wp_X8_behind_113 post (nI (p33 c)) (nI v) (nI n) μ := by
  unfold wp_X8_behind_113
  refine ⟨fun _ => ?_, fun h => absurd (by rw [nlit 33, nI_ltI (by omega) (by decide)]; omega) h⟩
  rcases (show v = 1 ∨ v = 2 ∨ v = 3 by omega) with rfl | rfl | rfl
  · refine ⟨fun h => absurd rfl h, fun _ => ⟨fun _ => ⟨fun h => absurd h (by decide), fun _ => ⟨fun _ => ?_, fun h => absurd h (by decide)⟩⟩, fun h => absurd h (by decide)⟩⟩
    unfold wp_X8_behind_176
    rw [nlit 0, p33_I]; exact hp
  · refine ⟨fun _ => m_counterOf (k := 1) hc (by decide) (by decide) ⟨fun h => absurd rfl h, fun _ => ⟨fun _ => ?_, fun h => absurd h (by decide)⟩⟩, fun h => absurd h (by decide)⟩
    unfold wp_X8_behind_176
    rw [nlit 0, p33_I]; exact hp
  · refine ⟨fun _ => m_counterOf (k := 1) hc (by decide) (by decide) ⟨fun _ => ⟨fun _ => m_counterOf (k := 2) hc (by decide) (by decide) ⟨fun h => absurd rfl h, fun _ => ?_⟩, fun h => absurd (by decide) h⟩, fun h => absurd h (by decide)⟩, fun h => absurd h (by decide)⟩
    unfold wp_X8_behind_176
    rw [p33_I]; exact hp
theorem nx_le {B : Bk} (hB : bok B) {l v m : Nat} {c : C3} (hc : bnd c m) (hm : 12 ≤ m) : nx B l c v ≤ m + 1 := by
  have h1 := hc.gt (by omega) v
  have h2 := (hB.hwd (3 * l + (v - 1))).2.2
  unfold nx; split <;> omega
theorem nc_bnd {B : Bk} (hB : bok B) {l v m : Nat} {c : C3} (hc : bnd c m) (hm : 12 ≤ m) : bnd (nc B l c v) (m + 1) := by
  have h1 := nx_le hB (l := l) (v := v) hc hm
  obtain ⟨a1, a2, a3⟩ := hc
  unfold nc
  split
  · exact ⟨by omega, by omega, by omega⟩
  · unfold nxt
    split
    · exact ⟨h1, Nat.zero_le _, Nat.zero_le _⟩
    · split
      · exact ⟨Nat.le_succ_of_le a1, h1, Nat.zero_le _⟩
      · exact ⟨Nat.le_succ_of_le a1, Nat.le_succ_of_le a2, h1⟩
theorem m_behind {B : Bk} {μ : Sg} (hB : bok B) (hL : mLn B μ) {l v : Nat} (hl : l < bL B) (hv : 1 ≤ v) (hv3 : v ≤ 3) {c : C3} (hc : bnd c (12 + l)) {post : Int32 → Sg → Prop} (h1 : okB B l c v = true → post (nI (p33 (nxt B l c v))) μ) (h0 : ¬ okB B l c v = true → post (-1) μ) : wp_X8_behind (nI (p33 c)) (nI l) (nI v) μ post := by
  have h20 := hB.L
  have hs := hB.hsz l
  have hc32 : bnd c 32 := hc.mono (by omega)
  have hn := nx_le hB (l := l) (v := v) hc (by omega)
  have hg := fun k => hc32.gt (by decide) k
  obtain ⟨-, -, -, -, h15⟩ := hL.2.1 l hl
  have e1 := okB_iff (B := B) (l := l) (c := c) hv hv3
  have hvl : vp_in (nI l) 20 := vp_in_nI (by omega) (by decide)
  have key : gt3 c (v - 1) ≠ 0 → wp_X8_behind_17 post (nI (p33 c)) (nI l) (nI v) μ := fun hz => by
    unfold wp_X8_behind_17
    refine m_counterOf hc32 hv hv3 (fun y ey => ?_)
    rw [nI_1] at ey
    rw [nI_clamp (by omega), h15, nI_le0 (by omega), nI_eq (by omega) (by omega)]
    refine ⟨hvl, fun g => ?_, fun g => ⟨hvl, fun g2 => ⟨4, ?_⟩, fun g2 => h0 (fun z => ?_)⟩⟩
    · rw [ey]
      have hx : nx B l c v = gt3 c v + 1 := by unfold nx; rw [if_pos g]
      refine m_b113 hc32 hv hv3 (by omega) ?_
      have := h1 (e1.mpr ⟨hz, Or.inl g⟩)
      unfold nxt at this
      rw [hx] at this
      exact this
    · have loop : ∀ (f k : Nat), 1 ≤ k → k ≤ v → v < k + f → (∀ j, 1 ≤ j → j < k → nu B (3 * l + (j - 1)) = gt3 c j) → wp_X8_behind_54 post f (nI (p33 c)) (nI l) (nI v) (nI (gt3 c v)) (nI k) μ := by
        intro f
        induction f with
        | zero => intro k b1 b2 b3; omega
        | succ f ih =>
          intro k b1 b2 b3 hd
          unfold wp_X8_behind_54
          have ev : ∀ j, 1 ≤ j → j ≤ v → (3 : Int32) * nI l + nI j - (1 : Int32) = nI (3 * l + (j - 1)) := fun j q1 _ => by
            rw [nlit 3, nlit 1, pk_mul, nI_add, pk_sub (by omega)]; congr 1; omega
          have e16 : ∀ j, 1 ≤ j → j ≤ v → μ 16 (3 * l + (j - 1)) = nI (nu B (3 * l + (j - 1))) := fun j q1 q2 => hL.2.2.2 l (j - 1) hl (by omega)
          have hnu := fun j => (hB.hwd (3 * l + (j - 1))).2.2
          have hgv := hg v
          have hgk := hg k
          have hnv := hnu v
          have hnk := hnu k
          rw [ev v hv (Nat.le_refl v), ev k b1 b2, nI_leI (by omega) (by omega), nI_clamp (by omega), nI_clamp (by omega), e16 v hv (Nat.le_refl v), e16 k b1 b2, show nI k + (1 : Int32) = nI (k + 1) from nI_1 k]
          refine ⟨fun q => ⟨vp_in_nI (by omega) (by decide), fun y3 e3 => ?_⟩, fun q => ⟨vp_in_nI (by omega) (by decide), m_counterOf hc32 b1 (by omega) ?_⟩⟩
          · have hkv : k = v := by omega
            subst hkv
            rw [e3, nI_ltI (by omega) (by omega)]
            refine ⟨fun q2 => m_b113 hc32 hv hv3 (by omega) ?_, fun q2 => h0 (fun z => ?_)⟩
            · have := h1 (e1.mpr ⟨hz, Or.inr ⟨g2, hd, q2⟩⟩)
              unfold nxt at this
              rw [show nx B l c k = nu B (3 * l + (k - 1)) by unfold nx; rw [if_neg g]] at this
              exact this
            · rcases (e1.mp z).2 with w | w
              · exact g w
              · exact q2 w.2.2
          · rw [nI_eq (by omega) (by omega)]
            refine ⟨fun q2 => ih (k + 1) (by omega) (by omega) (by omega) (fun j j1 j2 => ?_), fun q2 => h0 (fun z => ?_)⟩
            · rcases Nat.lt_or_ge j k with w | w
              · exact hd j j1 w
              · rw [show j = k by omega]; exact q2
            · rcases (e1.mp z).2 with w | w
              · exact g w
              · exact q2 (w.2.1 k b1 (by omega))
      exact loop 4 1 (by decide) hv (by omega) (fun j j1 j2 => by omega)
    · rcases (e1.mp z).2 with w | w
      · exact g w
      · exact g2 w.1
  unfold wp_X8_behind
  rw [nlit 1, nI_leI (by omega) (by decide)]
  refine ⟨fun g => key ?_, fun g => ?_⟩
  · rw [show v - 1 = 0 by omega]; exact Nat.one_ne_zero
  · rw [pk_sub (by omega)]
    have hgv := hg (v - 1)
    refine m_counterOf hc32 (by omega) (by omega) ?_
    rw [nI_eq0 (by omega)]
    exact ⟨fun q => key q, fun q => h0 (fun z => (e1.mp z).1 q)⟩
def mrn (B : Bk) (μ : Sg) : Prop := ∀ l, l < bL B → μ 33 l = if run B l = true then 1 else 0
theorem m_costOf {B : Bk} {μ : Sg} (hB : bok B) (hL : mLn B μ) (hS : mSe B μ) (hr : mrn B μ) {l v : Nat} (hl : l < bL B) (hv3 : v ≤ 3) {c : C3} (hc : bnd c 32) (hn : 1 ≤ v → np B l = 0 ∨ np B l = v) {post : Int32 → Sg → Prop} (hp : post (nI (lcost B l c v)) μ) : wp_X8_costOf (nI (p33 c)) (nI l) (nI v) μ post := by
  have h20 := hB.L
  have hs := hB.hsz l
  obtain ⟨-, -, -, -, h15⟩ := hL.2.1 l hl
  have hvl : vp_in (nI l) 20 := vp_in_nI (by omega) (by decide)
  unfold wp_X8_costOf
  rw [nI_eq0 (by omega), nI_clamp (show l < 2 ^ 31 by omega), nI_clamp (show v < 2 ^ 31 by omega)]
  unfold lcost at hp
  refine ⟨fun g => m_look hB hL hl ⟨vp_in_nI (by omega) (by decide), fun y ey => ⟨hvl, fun g2 => ?_, fun g2 => ?_⟩⟩, fun g => ⟨hvl, fun g2 => m_look hB hL hl ?_, fun g2 => ?_⟩⟩
  · rw [if_neg g] at hp
    unfold hcost at hp
    rw [h15, nI_eq0 (by omega)] at g2
    have hl1 := look_le hB l
    have hw1 := hB.hwa (k := v) (by omega)
    rw [cl1, hS.1 1 (by decide), hS.2 v hv3, abs_nI (by omega) (by omega), pk_mul] at ey
    have e6 : (3 : Int32) * nI l + nI v - (1 : Int32) = nI (3 * l + (v - 1)) := by
      rw [nlit 3, nlit 1, pk_mul, nI_add, pk_sub (by omega)]; congr 1; omega
    have hnp : np B l = v := by
      rcases hn (by omega) with w | w
      · exact absurd w g2
      · exact w
    have hnu := (hB.hwd (3 * l + (v - 1))).2.2
    have hg := hc.gt (by decide) v
    rw [e6, nI_clamp (by omega), hL.2.2.2 l (v - 1) hl (by omega), cl2, hS.1 2 (by decide)]
    rw [if_neg g2] at hp
    refine ⟨vp_in_nI (by omega) (by decide), m_counterOf hc (by omega) hv3 ?_⟩
    rw [nI_1, nI_eq (by omega) (by omega), ey]
    refine ⟨fun w => ?_, fun w => ?_⟩
    · rw [if_neg w] at hp; rw [nI_add]; exact hp
    · rw [if_pos w] at hp; exact hp
  · rw [if_neg g] at hp
    unfold hcost at hp
    rw [h15, nI_eq0 (by omega)] at g2
    have hl1 := look_le hB l
    have hw1 := hB.hwa (k := v) (by omega)
    rw [cl1, hS.1 1 (by decide), hS.2 v hv3, abs_nI (by omega) (by omega), pk_mul] at ey
    rw [if_pos g2] at hp
    rw [ey, cl3, hS.1 3 (by decide), nI_add]
    exact hp
  · rw [if_pos g] at hp
    unfold tcost at hp
    have : ¬ run B l = true := fun z => by rw [hr l hl, if_pos z] at g2; exact absurd g2 (by decide)
    rw [if_neg this] at hp
    rw [cl0, hS.1 0 (by decide), pk_mul]; exact hp
  · rw [if_pos g] at hp
    unfold tcost at hp
    have : run B l = true := by
      rcases Bool.eq_false_or_eq_true (run B l) with z | z
      · exact z
      · rw [hr l hl, if_neg (by rw [z]; decide)] at g2; exact absurd rfl g2
    rw [if_pos this] at hp
    exact hp
/-! least cost, kept by turns -/
def mst (B : Bk) (T : Nat) (μ : Sg) : Prop := mLn B μ ∧ mSe B μ ∧ mrn B μ ∧ μ 7 0 = nI T ∧ (∀ p, p < 718740 → ∃ t, t ≤ T ∧ μ 34 p = nI t) ∧ ∀ (l : Nat) (c : C3), l < bL B → bnd c (12 + l) → μ 34 (35937 * l + p33 c) = nI T → μ 22 (35937 * l + p33 c) = nI (ls B (bL B - l) c)
theorem cw_l {B : Bk} {l : Nat} (hl : l < bL B) (c : C3) (v : Nat) : cw B (bL B - (l + 1)) c v = if may B l c v = true then lcost B l c v + ls B (bL B - (l + 1)) (nc B l c v) else 1000000 := by
  unfold cw cwN
  rw [show bL B - (bL B - (l + 1) + 1) = l by omega]
theorem m_cwl {B : Bk} {T : Nat} {μ : Sg} {wl : WL} (hB : bok B) (hI : mst B T μ) {l v : Nat} (hl : l < bL B) (hv3 : v ≤ 3) {c : C3} (hc : bnd c (12 + l))
    (hw : ∀ (c' : C3) (μ' : Sg) (post' : Int32 → Sg → Prop), bnd c' (12 + (l + 1)) → mst B T μ' → (∀ μ'' : Sg, (∀ k, k ≠ 22 → k ≠ 34 → μ'' k = μ' k) → mst B T μ'' → post' (nI (ls B (bL B - (l + 1)) c')) μ'') → wl (nI (l + 1)) (nI (p33 c')) μ' post')
    {post : Int32 → Sg → Prop} (hp : ∀ μ' : Sg, (∀ k, k ≠ 22 → k ≠ 34 → μ' k = μ k) → mst B T μ' → post (nI (cw B (bL B - (l + 1)) c v)) μ') : wp_X8_costWithLevel wl (nI l) (nI (p33 c)) (nI v) μ post := by
  have h20 := hB.L
  obtain ⟨hL, hS, hr, h7, ha, hm⟩ := id hI
  have hc32 : bnd c 32 := hc.mono (by omega)
  have m28 : ∀ c' : C3, bnd c' (12 + (l + 1)) → may B l c v = true → nc B l c v = c' → (1 ≤ v → np B l = 0 ∨ np B l = v) → wp_X8_costWithLevel_28 wl post (nI l) (nI (p33 c)) (nI v) (nI (p33 c')) μ := fun c' hc' hmay ec hnp => by
    unfold wp_X8_costWithLevel_28
    have hlt := p33_lt (hc'.mono (show 12 + (l + 1) ≤ 32 by omega))
    refine ⟨fun _ => m_costOf hB hL hS hr hl hv3 hc32 hnp ?_, fun g => ?_⟩
    · rw [nI_1]
      refine hw c' μ _ hc' hI (fun μ'' f1 f2 => ?_)
      have := hp μ'' f1 f2
      rw [cw_l hl, if_pos hmay, ec] at this
      rw [nI_add]; exact this
    · exfalso
      have h1 := nI_pos' (n := p33 c') (by omega)
      rw [g] at h1
      exact absurd h1 (by decide)
  have mno : ¬ may B l c v = true → wp_X8_costWithLevel_28 wl post (nI l) (nI (p33 c)) (nI v) (-1 : Int32) μ := fun hmay => by
    unfold wp_X8_costWithLevel_28
    refine ⟨fun g => absurd rfl g, fun _ => ?_⟩
    have := hp μ (fun _ _ _ => rfl) hI
    rw [cw_l hl, if_neg hmay] at this
    exact this
  unfold wp_X8_costWithLevel
  rw [nI_eq0 (by omega), nI_clamp (by omega), hr l hl]
  refine ⟨fun g => ⟨vp_in_nI (by omega) (by decide), fun g2 => ?_, fun g2 => mno (fun z => ?_)⟩, fun g => ?_⟩
  · have hrun : run B l = false := by
      rcases Bool.eq_false_or_eq_true (run B l) with z | z
      · rw [if_pos z] at g2; exact absurd g2 (by decide)
      · exact z
    have emay : may B l c v = okB B l c v := by simp [may, hrun, g]
    refine m_behind hB hL hl (by omega) hv3 hc (fun ho => m28 _ ?_ (by rw [emay]; exact ho) (by unfold nc; rw [if_neg g]) (fun _ => ?_)) (fun ho => mno (by rw [emay]; exact ho))
    · have := nc_bnd hB (l := l) (v := v) hc (by omega)
      unfold nc at this
      rw [if_neg g] at this
      exact this
    · rcases ((okB_iff (by omega) hv3).mp ho).2 with w | w
      · exact Or.inl w
      · exact Or.inr w.1
  · have hrun : run B l = true := by
      rcases Bool.eq_false_or_eq_true (run B l) with z | z
      · exact z
      · rw [if_neg (by rw [z]; decide)] at g2; exact absurd rfl g2
    simp [may, hrun, g] at z
  · subst g
    exact m28 c (hc.mono (by omega)) (may_0 B l c) rfl (fun z => by omega)
def bm (f : Nat → Nat) : Nat → Nat
  | 0 => 1000000
  | v + 1 => min (bm f v) (f v)
theorem bm_le (f : Nat → Nat) : ∀ v, bm f v ≤ 1000000
  | 0 => Nat.le_refl _
  | v + 1 => by have := bm_le f v; unfold bm; omega
theorem cw_le {B : Bk} (hB : bok B) {r : Nat} (hr : r < 20) (c : C3) (v : Nat) : cw B r c v ≤ 1000000 := by
  by_cases h : may B (bL B - (r + 1)) c v = true
  · have h1 := lcost_le hB (bL B - (r + 1)) c v
    have h2 := ls_le hB r (nc B (bL B - (r + 1)) c v)
    rw [cw_may h]; omega
  · rw [cw_not h]; exact Nat.le_refl _
theorem m_leastFrom {B : Bk} {T : Nat} (hB : bok B) (hT : T < 2 ^ 31) : ∀ (d l : Nat) (c : C3) (μ : Sg) (post : Int32 → Sg → Prop), l ≤ bL B → bL B < l + d → bnd c (12 + l) → mst B T μ → (∀ μ' : Sg, (∀ k, k ≠ 22 → k ≠ 34 → μ' k = μ k) → mst B T μ' → post (nI (ls B (bL B - l) c)) μ') → wp_X8_leastFrom d (nI l) (nI (p33 c)) μ post := by
  have h20 := hB.L
  intro d
  induction d with
  | zero => intro l c μ post a1 a2; omega
  | succ d ihd =>
    intro l c μ post a1 a2 hc hI hp
    have hc32 : bnd c 32 := hc.mono (by omega)
    have hlt := p33_lt hc32
    rw [wp_X8_leastFrom]
    unfold wq_X8_leastFrom
    rw [hI.1.1, nI_eq (by omega) (by omega)]
    refine ⟨fun g y ey => ?_, fun g => ?_⟩
    · have hl : l < bL B := by omega
      have e1 : (35937 : Int32) * nI l + nI (p33 c) = nI (35937 * l + p33 c) := by rw [nlit 35937, pk_mul, nI_add]
      rw [e1] at ey
      have hvp : vp_in (nI (35937 * l + p33 c)) 718740 := vp_in_nI (by omega) (by decide)
      rw [ey, nI_clamp (by omega), hI.2.2.2.1]
      refine ⟨hvp, fun g2 => ⟨5, ?_⟩, fun g2 => ⟨hvp, ?_⟩⟩
      · have loop : ∀ (f v : Nat) (μ1 : Sg), v ≤ 4 → 4 < v + f → (∀ k, k ≠ 22 → k ≠ 34 → μ1 k = μ k) → mst B T μ1 → wp_X8_leastFrom_44 (fun a b σ post => wp_X8_leastFrom d a b σ post) post f (nI l) (nI (p33 c)) (nI (35937 * l + p33 c)) (nI (bm (cw B (bL B - (l + 1)) c) v)) (nI v) μ1 := by
          intro f
          induction f with
          | zero => intro v μ1 b1 b2; omega
          | succ f ih =>
            intro v μ1 b1 b2 hfr hI1
            unfold wp_X8_leastFrom_44
            rw [nlit 4, nI_leI (by decide) (by omega), nI_clamp (by omega), hI1.2.2.2.1, show nI v + (1 : Int32) = nI (v + 1) from nI_1 v]
            refine ⟨fun q => ⟨hvp, fun μ3 e3 => ⟨hvp, fun μ5 e5 => ?_⟩⟩, fun q => m_cwl hB hI1 hl (by omega) hc (fun c' μ' post' u1 u2 u3 => ihd (l + 1) c' μ' post' (by omega) (by omega) u1 u2 u3) (fun μ2 f1 f2 y8 e8 => ?_)⟩
            · have hv4 : v = 4 := by omega
              subst hv4
              have els : bm (cw B (bL B - (l + 1)) c) 4 = ls B (bL B - l) c := by
                rw [show bL B - l = (bL B - (l + 1)) + 1 by omega]; rfl
              rw [els] at e5 ⊢
              have k5 : ∀ k, k ≠ 22 → k ≠ 34 → μ5 k = μ1 k := fun k u1 u2 => by rw [e5, sig_ne u1, e3, sig_ne u2]
              have k34 : ∀ p, μ5 34 p = if p = 35937 * l + p33 c then nI T else μ1 34 p := fun p => by
                rw [e5, sig_ne (by decide), e3, sig_eq]
                by_cases w : p = 35937 * l + p33 c
                · rw [w, pk_us, if_pos rfl]
                · rw [pk_un w, if_neg w]
              refine hp μ5 (fun k u1 u2 => (k5 k u1 u2).trans (hfr k u1 u2)) ⟨mLn_same (fun k hk => k5 k (by omega) (by omega)) hI1.1, mSe_same (fun k hk => k5 k (by omega) (by omega)) hI1.2.1, fun i hi => by rw [k5 33 (by decide) (by decide)]; exact hI1.2.2.1 i hi, by rw [k5 7 (by decide) (by decide)]; exact hI1.2.2.2.1, fun p hp2 => ?_, fun l2 c2 hl2 hc2 hk => ?_⟩
              · rw [k34]
                by_cases w : p = 35937 * l + p33 c
                · rw [if_pos w]; exact ⟨T, Nat.le_refl T, rfl⟩
                · rw [if_neg w]; exact hI1.2.2.2.2.1 p hp2
              · have hc232 : bnd c2 32 := hc2.mono (by omega)
                have hlt2 := p33_lt hc232
                rw [e5, sig_eq]
                by_cases w : 35937 * l2 + p33 c2 = 35937 * l + p33 c
                · have q1 : l2 = l := by omega
                  have q2 : p33 c2 = p33 c := by omega
                  rw [w, pk_us, q1, p33_inj hc232 hc32 q2]
                · rw [pk_un w, e3, sig_ne (by decide)]
                  rw [k34, if_neg w] at hk
                  exact hI1.2.2.2.2.2 l2 c2 hl2 hc2 hk
            · have hb := bm_le (cw B (bL B - (l + 1)) c) v
              have hcw := cw_le hB (r := bL B - (l + 1)) (by omega) c v
              have e9 : y8 = nI (bm (cw B (bL B - (l + 1)) c) (v + 1)) := by
                rw [e8, bm]
                rcases Nat.lt_or_ge (cw B (bL B - (l + 1)) c v) (bm (cw B (bL B - (l + 1)) c) v) with w | w
                · rw [if_pos ((nI_ltI (by omega) (by omega)).mpr w), Nat.min_eq_right (by omega)]
                · rw [if_neg (fun z => by have := (nI_ltI (by omega) (by omega)).mp z; omega), Nat.min_eq_left w]
              rw [e9]
              exact ih (v + 1) μ2 (by omega) (by omega) (fun k u1 u2 => (f1 k u1 u2).trans (hfr k u1 u2)) f2
        exact loop 5 0 μ (by decide) (by decide) (fun _ _ _ => rfl) hI
      · rw [hI.2.2.2.2.2 l c hl hc g2]
        exact hp μ (fun _ _ _ => rfl) hI
    · have := hp μ (fun _ _ _ => rfl) hI
      rw [g, Nat.sub_self] at this
      exact this
