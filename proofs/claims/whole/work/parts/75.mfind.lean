/-! the reference: shifts are found; all is found -/
def msh (B : Bk) (μ : Sg) : Prop := μ 28 0 = nI (sE B (bN B) / 64) ∧ μ 29 0 = nI (sE B (bN B) % 64) ∧ ∀ p, p < bN B → μ 31 p = nI (fsp B p) ∧ μ 32 p = shI (ssp B p)
def spn (B : Bk) (s : Nat) (μ : Sg) : Prop := ∀ a, s ≤ a → a ≤ bN B → μ 28 a = nI (sE B (bN B - a) / 64) ∧ μ 29 a = nI (sE B (bN B - a) % 64)
def spe (B : Bk) (s : Nat) (μ : Sg) : Prop := ∀ a, s ≤ a → a < bN B → μ 30 a = nI (a + se B (bN B - (a + 1)) + 1)
/-- the best of the last d ends of a first span -/
def best (B : Bk) (i d : Nat) (μ : Sg) : Prop := (d = 0 ∧ μ 28 i = nI 1000000) ∨ ∃ M, M ≤ bN B - (i + 1) ∧ bN B - (i + 1) < M + d ∧ (∀ m, bN B - (i + 1) < m + d → m ≤ bN B - (i + 1) → cs B (bN B - (i + 1)) M ≤ cs B (bN B - (i + 1)) m) ∧ (∀ m, M < m → m ≤ bN B - (i + 1) → cs B (bN B - (i + 1)) M < cs B (bN B - (i + 1)) m) ∧ μ 28 i = nI (cs B (bN B - (i + 1)) M / 64) ∧ μ 29 i = nI (cs B (bN B - (i + 1)) M % 64) ∧ μ 30 i = nI (i + M + 1)
theorem cs_le {B : Bk} (hB : bok B) {r m : Nat} (hr : r < 60) (hm : m ≤ r) : cs B r m ≤ 400000 := by
  have h1 := fc_le hB r m (by omega)
  have h2 := sE_le hB (r - m) (by omega)
  unfold cs; omega
theorem m_findShifts {B : Bk} {μ : Sg} (hB : bok B) (hP : mPg B μ) (hS : mSe B μ) {post : Sg → Prop} (hp : ∀ μ' : Sg, (∀ k, k ≠ 8 → k < 28 ∨ 32 < k → μ' k = μ k) → msh B μ' → post μ') : wp_X8_findShifts μ post := by
  have hN := hB.N
  have l159 : ∀ (f i : Nat) (μ1 : Sg), i ≤ bN B → bN B < i + f → (∀ k, k ≠ 8 → k < 28 ∨ 32 < k → μ1 k = μ k) → spn B 0 μ1 → spe B 0 μ1 → (fe B i).2 = i → (∀ q, q < i → μ1 31 q = nI (fsp B q) ∧ μ1 32 q = shI (ssp B q)) → wp_X8_findShifts_159 post f (nI i) μ1 := by
    intro f
    induction f with
    | zero => intro i μ1 a1 a2; omega
    | succ f ih =>
      intro i μ1 a1 a2 hfr hsn hse hfe htl
      have hP1 : mPg B μ1 := mPg_same (fun k hk => hfr k (by omega) (by omega)) hP
      unfold wp_X8_findShifts_159
      rw [hP1.1, nI_leI (by omega) (by omega)]
      refine ⟨fun g => ?_, fun g => ?_⟩
      · have hi : i = bN B := by omega
        subst hi
        have h0 := hsn 0 (Nat.le_refl _) (Nat.zero_le _)
        rw [Nat.sub_zero] at h0
        exact hp μ1 hfr ⟨h0.1, h0.2, htl⟩
      · have hse' := se_le B (bN B - (i + 1))
        have e30 := hse i (Nat.zero_le _) (by omega)
        rw [nI_clamp (by omega), e30]
        refine ⟨vp_in_nI (by omega) (by decide), ?_⟩
        rw [show i + se B (bN B - (i + 1)) + 1 = i + (se B (bN B - (i + 1)) + 1) by omega]
        refine m_wrongIn hB hP1 (by omega) (fun μ2 f2 h82 => ⟨bN B + 1, ?_⟩)
        have l181 : ∀ (f2 p : Nat) (μ3 : Sg), i ≤ p → p ≤ i + se B (bN B - (i + 1)) + 1 → bN B < p + f2 → (∀ k, k ≠ 31 → k ≠ 32 → μ3 k = μ2 k) → (∀ q, q < p → μ3 31 q = nI (fsp B q) ∧ μ3 32 q = shI (ssp B q)) → wp_X8_findShifts_181 post (fun zx1 zσ => wp_X8_findShifts_159 post f zx1 zσ) f2 (nI i) (nI p) μ3 := by
          intro f3
          induction f3 with
          | zero => intro p μ3 b1 b2 b3; omega
          | succ f3 ih2 =>
            intro p μ3 b1 b2 b3 hfr3 htl3
            have k31 : ∀ k, k ≠ 8 → k ≠ 31 → k ≠ 32 → μ3 k = μ1 k := fun k u0 u1 u2 => by rw [hfr3 k u1 u2, f2 k u0]
            unfold wp_X8_findShifts_181
            rw [nI_clamp (show i < 2 ^ 31 by omega), k31 30 (by decide) (by decide) (by decide), e30, nI_leI (by omega) (by omega), nI_clamp (show p < 2 ^ 31 by omega), show nI p + (1 : Int32) = nI (p + 1) from nI_1 p]
            refine ⟨vp_in_nI (by omega) (by decide), fun q => ⟨vp_in_nI (by omega) (by decide), fun y4 e4 => ?_⟩, fun q => ⟨vp_in_nI (by omega) (by decide), fun μ6 e6 => ⟨vp_in_nI (by omega) (by decide), fun μ8 e8 => ?_⟩⟩⟩
            · have hpe : p = i + se B (bN B - (i + 1)) + 1 := by omega
              rw [e4, ← hpe]
              refine ih p μ3 (by omega) (by omega) (fun k u1 u2 => by rw [k31 k u1 (by omega) (by omega)]; exact hfr k u1 u2) (fun a u1 u2 => by rw [k31 28 (by decide) (by decide) (by decide), k31 29 (by decide) (by decide) (by decide)]; exact hsn a u1 u2) (fun a u1 u2 => by rw [k31 30 (by decide) (by decide) (by decide)]; exact hse a u1 u2) ?_ htl3
              have := fe_run hfe (se B (bN B - (i + 1))) (Nat.le_refl _)
              rw [show i + 1 + se B (bN B - (i + 1)) = p by omega] at this
              rw [this]; exact hpe.symm
            · have hr := fe_run hfe (p - i) (by omega)
              rw [show i + 1 + (p - i) = p + 1 by omega] at hr
              have e1 : fsp B p = i := by show (fe B (p + 1)).1 = _; rw [hr]
              have e2 : ssp B p = bs B i (se B (bN B - (i + 1)) + 1) := by
                show bs B (fe B (p + 1)).1 ((fe B (p + 1)).2 - (fe B (p + 1)).1) = _
                rw [hr]
                show bs B i (i + se B (bN B - (i + 1)) + 1 - i) = _
                rw [show i + se B (bN B - (i + 1)) + 1 - i = se B (bN B - (i + 1)) + 1 by omega]
              have h68 : μ6 8 0 = shI (ssp B p) := by rw [e6, sig_ne (by decide), hfr3 8 (by decide) (by decide), h82, e2]
              rw [h68] at e8
              refine ih2 (p + 1) μ8 (by omega) (by omega) (by omega) (fun k u1 u2 => by rw [e8, sig_ne u2, e6, sig_ne u1]; exact hfr3 k u1 u2) (fun w hw => ?_)
              rw [e8, sig_ne (show (31 : Nat) ≠ 32 by decide), sig_eq, e6, sig_eq, sig_ne (show (32 : Nat) ≠ 31 by decide)]
              by_cases z : w = p
              · rw [z, pk_us, pk_us, e1]; exact ⟨rfl, rfl⟩
              · rw [pk_un z, pk_un z]; exact htl3 w (by omega)
        exact l181 (bN B + 1) i μ2 (Nat.le_refl _) (by omega) (by omega) (fun _ _ _ => rfl) (fun q hq => by rw [f2 31 (by decide), f2 32 (by decide)]; exact htl q hq)
  have l44 : ∀ (k27 : Int32 → Sg → Prop) (i : Nat), i < bN B → (∀ μ2 : Sg, (∀ k, k ≠ 8 → k < 28 ∨ 32 < k → μ2 k = μ k) → spn B i μ2 → spe B i μ2 → k27 (lat i) μ2) → ∀ (f d : Nat) (μ1 : Sg), d ≤ bN B - i → bN B - i < d + f → (∀ k, k ≠ 8 → k < 28 ∨ 32 < k → μ1 k = μ k) → spn B (i + 1) μ1 → spe B (i + 1) μ1 → best B i d μ1 → wp_X8_findShifts_44 post k27 f (nI i) (nI (bN B - d)) μ1 := by
    intro k27 i hi hk f
    induction f with
    | zero => intro d μ1 a1 a2; omega
    | succ f ih =>
      intro d μ1 a1 a2 hfr hsn hse hbt
      have hP1 : mPg B μ1 := mPg_same (fun k hk => hfr k (by omega) (by omega)) hP
      have hS1 : mSe B μ1 := mSe_same (fun k hk => hfr k (by omega) (by omega)) hS
      have hir : bN B - (bN B - (i + 1) + 1) = i := by omega
      unfold wp_X8_findShifts_44
      rw [nI_leI (by omega) (by omega), lat_m1]
      refine ⟨fun g => ?_, fun g => ?_⟩
      · have hd : d = bN B - i := by omega
        rcases hbt with z | ⟨M, m1, m2, m3, m4, m5, m6, m7⟩
        · omega
        · obtain ⟨q1, q2⟩ := lm_unique (f := cs B (bN B - (i + 1))) m1 rfl (fun m hm => m3 m (by omega) hm) m4
          have eE : sE B (bN B - i) = cs B (bN B - (i + 1)) M := by rw [show bN B - i = bN B - (i + 1) + 1 by omega, sE_s, q1]
          have eM : se B (bN B - (i + 1)) = M := by unfold se; rw [sE_s]; exact q2.symm
          refine hk μ1 hfr (fun a u1 u2 => ?_) (fun a u1 u2 => ?_)
          · by_cases w : a = i
            · rw [w, eE]; exact ⟨m5, m6⟩
            · exact hsn a (by omega) u2
          · by_cases w : a = i
            · rw [w, eM]; exact m7
            · exact hse a (by omega) u2
      · have hj1 : i + 1 ≤ bN B - d := by omega
        have em : bN B - d = i + (bN B - (i + 1) - d + 1) := by omega
        have hwr : wp_X8_wrongIn (nI i) (nI (bN B - d)) μ1 = wp_X8_wrongIn (nI i) (nI (i + (bN B - (i + 1) - d + 1))) μ1 := by rw [← em]
        rw [hwr]
        refine m_wrongIn hB hP1 (by omega) (fun μ5 f5 h85 => ?_)
        have k5 : ∀ k, k ≠ 8 → μ5 k = μ1 k := f5
        obtain ⟨s1, s2⟩ := hsn (bN B - d) hj1 (by omega)
        rw [show bN B - (bN B - d) = d by omega] at s1 s2
        have hmod := sE_mod B 60 d (by omega) (by omega)
        obtain ⟨t1, t2⟩ := cs_two (B := B) (r := bN B - (i + 1)) (m := bN B - (i + 1) - d) (by rw [show bN B - (i + 1) - (bN B - (i + 1) - d) = d by omega]; omega)
        rw [hir, show bN B - (i + 1) - (bN B - (i + 1) - d) = d by omega] at t1
        rw [show bN B - (i + 1) - (bN B - (i + 1) - d) = d by omega] at t2
        have hcs := cs_le hB (r := bN B - (i + 1)) (m := bN B - (i + 1) - d) (by omega) (by omega)
        rw [nI_clamp (show bN B - d < 2 ^ 31 by omega), nI_clamp (show i < 2 ^ 31 by omega), k5 28 (by decide), k5 29 (by decide), s1, s2, cl8, cl9, hS1.1 8 (by decide), hS1.1 9 (by decide), pk_mul, nI_add, nI_add, ← t1, show (1 : Int32) + nI (sE B d % 64) = nI (1 + sE B d % 64) from nI_add 1 _, ← t2]
        have hvj : vp_in (nI (bN B - d)) 61 := vp_in_nI (by omega) (by decide)
        have hvi : vp_in (nI i) 61 := vp_in_nI (by omega) (by decide)
        refine ⟨hvj, fun y7 e7 => ⟨hvj, fun y9 e9 => ⟨hvi, ?_⟩⟩⟩
        subst e7
        subst e9
        have ejd : lat (bN B - d) = nI (bN B - (d + 1)) := by rw [show bN B - d = bN B - (d + 1) + 1 by omega, lat_s]
        have keep : (∃ M, M ≤ bN B - (i + 1) ∧ bN B - (i + 1) < M + d ∧ (∀ m, bN B - (i + 1) < m + d → m ≤ bN B - (i + 1) → cs B (bN B - (i + 1)) M ≤ cs B (bN B - (i + 1)) m) ∧ (∀ m, M < m → m ≤ bN B - (i + 1) → cs B (bN B - (i + 1)) M < cs B (bN B - (i + 1)) m) ∧ μ1 28 i = nI (cs B (bN B - (i + 1)) M / 64) ∧ μ1 29 i = nI (cs B (bN B - (i + 1)) M % 64) ∧ μ1 30 i = nI (i + M + 1) ∧ cs B (bN B - (i + 1)) M ≤ cs B (bN B - (i + 1)) (bN B - (i + 1) - d)) → wp_X8_findShifts_44 post k27 f (nI i) (lat (bN B - d)) μ5 := fun z => by
          obtain ⟨M, m1, m2, m3, m4, m5, m6, m7, m8⟩ := z
          rw [ejd]
          refine ih (d + 1) μ5 (by omega) (by omega) (fun k u1 u2 => by rw [k5 k u1]; exact hfr k u1 u2) (fun a u1 u2 => by rw [k5 28 (by decide), k5 29 (by decide)]; exact hsn a u1 u2) (fun a u1 u2 => by rw [k5 30 (by decide)]; exact hse a u1 u2) (Or.inr ⟨M, m1, by omega, fun m u1 u2 => ?_, m4, by rw [k5 28 (by decide)]; exact m5, by rw [k5 29 (by decide)]; exact m6, by rw [k5 30 (by decide)]; exact m7⟩)
          by_cases w : m = bN B - (i + 1) - d
          · rw [w]; exact m8
          · exact m3 m (by omega) u2
        have take : (∀ m, bN B - (i + 1) < m + d → m ≤ bN B - (i + 1) → cs B (bN B - (i + 1)) (bN B - (i + 1) - d) < cs B (bN B - (i + 1)) m) → wp_X8_findShifts_123 post (fun zx1 zx2 zσ => wp_X8_findShifts_44 post k27 f zx1 zx2 zσ) (nI i) (nI (bN B - d)) (nI (cs B (bN B - (i + 1)) (bN B - (i + 1) - d) / 64)) (nI (cs B (bN B - (i + 1)) (bN B - (i + 1) - d) % 64)) μ5 := fun z => by
          unfold wp_X8_findShifts_123
          rw [nI_clamp (by omega), lat_m1, ejd]
          refine ⟨hvi, fun μ6 e6 => ⟨hvi, fun μ7 e7 => ⟨hvi, fun μ8 e8 => ?_⟩⟩⟩
          have k8 : ∀ k, k ≠ 8 → k ≠ 28 → k ≠ 29 → k ≠ 30 → μ8 k = μ1 k := fun k u0 u1 u2 u3 => by rw [e8, sig_ne u3, e7, sig_ne u2, e6, sig_ne u1, k5 k u0]
          have g28 : μ8 28 = upd (μ1 28) i (nI (cs B (bN B - (i + 1)) (bN B - (i + 1) - d) / 64)) := by rw [e8, sig_ne (by decide), e7, sig_ne (by decide), e6, sig_eq, k5 28 (by decide)]
          have g29 : μ8 29 = upd (μ1 29) i (nI (cs B (bN B - (i + 1)) (bN B - (i + 1) - d) % 64)) := by rw [e8, sig_ne (by decide), e7, sig_eq, e6, sig_ne (by decide), k5 29 (by decide)]
          have g30 : μ8 30 = upd (μ1 30) i (nI (bN B - d)) := by rw [e8, sig_eq, e7, sig_ne (by decide), e6, sig_ne (by decide), k5 30 (by decide)]
          refine ih (d + 1) μ8 (by omega) (by omega) (fun k u1 u2 => by rw [k8 k u1 (by omega) (by omega) (by omega)]; exact hfr k u1 u2) (fun a u1 u2 => by rw [g28, g29, pk_un (by omega), pk_un (by omega)]; exact hsn a u1 u2) (fun a u1 u2 => by rw [g30, pk_un (by omega)]; exact hse a u1 u2) (Or.inr ⟨bN B - (i + 1) - d, by omega, by omega, fun m u1 u2 => ?_, fun m u1 u2 => z m (by omega) u2, by rw [g28, pk_us], by rw [g29, pk_us], by rw [g30, pk_us]; congr 1⟩)
          by_cases w : m = bN B - (i + 1) - d
          · rw [w]; exact Nat.le_refl _
          · exact Nat.le_of_lt (z m (by omega) u2)
        rw [lat_m1]
        rcases hbt with z | ⟨M, m1, m2, m3, m4, m5, m6, m7⟩
        · obtain ⟨z1, z2⟩ := z
          subst z1
          rw [z2, nI_ltI (by decide) (by omega), nI_eq (by omega) (by decide)]
          refine ⟨fun w => by omega, fun w => ⟨hvi, fun w2 => take (fun m u1 u2 => by omega), fun w2 => by omega⟩⟩
        · have hcM := cs_le hB (r := bN B - (i + 1)) (m := M) (by omega) m1
          rw [m5, m6, nI_ltI (by omega) (by omega), nI_eq (by omega) (by omega), nI_ltI (by omega) (by omega)]
          refine ⟨fun w => keep ⟨M, m1, m2, m3, m4, m5, m6, m7, by omega⟩, fun w => ⟨hvi, fun w2 => take (fun m u1 u2 => ?_), fun w2 => ⟨hvi, fun w3 => take (fun m u1 u2 => ?_), fun w3 => keep ⟨M, m1, m2, m3, m4, m5, m6, m7, by omega⟩⟩⟩⟩
          · have := m3 m u1 u2; omega
          · have := m3 m u1 u2; omega
  have l27 : ∀ (f s : Nat) (μ1 : Sg), s ≤ bN B → s < f → (∀ k, k ≠ 8 → k < 28 ∨ 32 < k → μ1 k = μ k) → spn B s μ1 → spe B s μ1 → wp_X8_findShifts_27 post f (lat s) μ1 := by
    intro f
    induction f with
    | zero => intro s μ1 a1 a2; omega
    | succ f ih =>
      intro s μ1 a1 a2 hfr hsn hse
      have hP1 : mPg B μ1 := mPg_same (fun k hk => hfr k (by omega) (by omega)) hP
      unfold wp_X8_findShifts_27
      rw [lat_lt (by omega)]
      refine ⟨fun g => ⟨bN B + 1, ?_⟩, fun g => ?_⟩
      · subst g
        exact l159 (bN B + 1) 0 μ1 (Nat.zero_le _) (by omega) hfr hsn hse rfl (fun q hq => by omega)
      · obtain ⟨i, rfl⟩ : ∃ i, s = i + 1 := ⟨s - 1, by omega⟩
        rw [lat_s, nI_clamp (by omega)]
        refine ⟨vp_in_nI (by omega) (by decide), fun μ4 e4 y5 e5 => ⟨bN B + 1, ?_⟩⟩
        have k4 : ∀ k, k ≠ 28 → μ4 k = μ1 k := fun k u => by rw [e4, sig_ne u]
        rw [e5, k4 0 (by decide), hP1.1]
        refine l44 _ i (by omega) (fun μ2 f2 h1 h2 => ih i μ2 (by omega) (by omega) f2 h1 h2) (bN B + 1) 0 μ4 (Nat.zero_le _) (by omega) (fun k u1 u2 => by rw [k4 k (by omega)]; exact hfr k u1 u2) (fun a u1 u2 => ?_) (fun a u1 u2 => by rw [k4 30 (by decide)]; exact hse a u1 u2) (Or.inl ⟨rfl, by rw [e4, sig_eq, pk_us]; rfl⟩)
        rw [k4 29 (by decide), e4, sig_eq, pk_un (by omega)]
        exact hsn a u1 u2
  unfold wp_X8_findShifts
  rw [hP.1, nI_clamp (by omega)]
  refine ⟨vp_in_nI (by omega) (by decide), fun μ2 e2 => ?_⟩
  have h20 : μ2 0 0 = nI (bN B) := by rw [e2, sig_ne (by decide)]; exact hP.1
  rw [h20, nI_clamp (by omega)]
  refine ⟨vp_in_nI (by omega) (by decide), fun μ4 e4 y5 e5 => ⟨bN B + 1, ?_⟩⟩
  have h40 : μ4 0 0 = nI (bN B) := by rw [e4, sig_ne (by decide)]; exact h20
  rw [h40, ← pm1, lat_m1] at e5
  rw [e5]
  refine l27 (bN B + 1) (bN B) μ4 (Nat.le_refl _) (by omega) (fun k u1 u2 => by rw [e4, sig_ne (by omega), e2, sig_ne (by omega)]) (fun a u1 u2 => ?_) (fun a u1 u2 => by omega)
  have ea : a = bN B := by omega
  subst ea
  rw [Nat.sub_self, sE_0]
  constructor
  · rw [e4, sig_ne (by decide), e2, sig_eq, pk_us]; rfl
  · rw [e4, sig_eq, pk_us]; rfl
/-- what holds of the reference between its calls, after at most n of them -/
def MI (B : Bk) (n : Nat) (μ : Sg) : Prop := bok B ∧ mdat B μ ∧ (∃ T, T ≤ n ∧ μ 7 0 = nI T ∧ ∀ p, p < 718740 → ∃ t, t ≤ T ∧ μ 34 p = nI t) ∧ (μ 4 0 = 0 ∨ (μ 4 0 = 1 ∧ mtree B μ ∧ mlist B μ ∧ msh B μ))
theorem m_find {B : Bk} {n : Nat} {μ : Sg} (hn : n + 1 < 2 ^ 31) (hI : MI B n μ) {post : Sg → Prop} (hp : ∀ μ' : Sg, MI B (n + 1) μ' → μ' 3 = μ 3 → mtree B μ' → mlist B μ' → msh B μ' → post μ') : wp_X8_find μ post := by
  obtain ⟨hB, hd, ⟨T, hT, h7, ha⟩, hf⟩ := id hI
  unfold wp_X8_find
  refine ⟨fun g μ2 e2 => ?_, fun g => ?_⟩
  · have k2 : ∀ k, k ≠ 4 → μ2 k = μ k := fun k u => by rw [e2, sig_ne u]
    have d2 : mdat B μ2 := mdat_same (fun k hk => k2 k (by omega)) hd
    refine m_findTree (T := T) hB d2.2.1 d2.2.2.1 (by rw [k2 7 (by decide)]; exact h7) (fun p hp2 => by rw [k2 34 (by decide)]; exact ha p hp2) (by omega) (fun μ3 f3 h73 ha3 t3 => ?_)
    have d3 : mdat B μ3 := mdat_same (fun k hk => f3 k (by omega)) d2
    refine m_hold hB d3 t3 (fun μ4 f4 l4 => ?_)
    have d4 : mdat B μ4 := mdat_same (fun k hk => f4 k (by omega) (by omega)) d3
    refine m_findShifts hB d4.1 d4.2.2.1 (fun μ5 f5 s5 => ?_)
    have d5 : mdat B μ5 := mdat_same (fun k hk => f5 k (by omega) (by omega)) d4
    have t5 : mtree B μ5 := mtree_same (fun k hk => by rw [f5 k (by omega) (by omega), f4 k (by omega) (by omega)]) t3
    have l5 : mlist B μ5 := by
      unfold mlist at l4 ⊢
      rw [f5 26 (by decide) (by decide), f5 27 (by decide) (by decide)]; exact l4
    refine hp μ5 ⟨hB, d5, ⟨T + 1, by omega, ?_, fun p hp2 => ?_⟩, Or.inr ⟨?_, t5, l5, s5⟩⟩ ?_ t5 l5 s5
    · rw [f5 7 (by decide) (by decide), f4 7 (by decide) (by decide)]; exact h73
    · rw [f5 34 (by decide) (by decide), f4 34 (by decide) (by decide)]; exact ha3 p hp2
    · rw [f5 4 (by decide) (by decide), f4 4 (by decide) (by decide), f3 4 (by decide), e2, sig_eq]
    · rw [f5 3 (by decide) (by decide), f4 3 (by decide) (by decide), f3 3 (by decide), k2 3 (by decide)]
  · rcases hf with z | ⟨z1, z2, z3, z4⟩
    · exact absurd z g
    · exact hp μ ⟨hB, hd, ⟨T, by omega, h7, ha⟩, Or.inr ⟨z1, z2, z3, z4⟩⟩ rfl z2 z3 z4
