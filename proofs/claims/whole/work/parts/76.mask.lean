/-! the reference: its questions -/
theorem MI.mono {B : Bk} {n m : Nat} {μ : Sg} (h : MI B n μ) (hm : n ≤ m) : MI B m μ := by
  obtain ⟨a, b, ⟨T, hT, c⟩, d⟩ := h
  exact ⟨a, b, ⟨T, by omega, c⟩, d⟩
theorem MI.thr {B : Bk} {n : Nat} {μ μ' : Sg} {v : Int32} (h : MI B n μ) (e : μ' = va_up μ 3 (fun _ => v)) : MI B n μ' := by
  obtain ⟨a, b, ⟨T, hT, c1, c2⟩, d⟩ := h
  have k : ∀ j, j ≠ 3 → μ' j = μ j := fun j u => by rw [e, sig_ne u]
  refine ⟨a, mdat_same (fun j hj => k j (by omega)) b, ⟨T, hT, by rw [k 7 (by decide)]; exact c1, fun p hp => by rw [k 34 (by decide)]; exact c2 p hp⟩, ?_⟩
  rw [k 4 (by decide)]
  rcases d with z | ⟨z1, z2, z3, z4⟩
  · exact Or.inl z
  · refine Or.inr ⟨z1, mtree_same (fun j hj => k j (by omega)) z2, ?_, ?_⟩
    · unfold mlist at z3 ⊢
      rw [k 26 (by decide), k 27 (by decide)]; exact z3
    · unfold msh at z4 ⊢
      rw [k 28 (by decide), k 29 (by decide), k 31 (by decide), k 32 (by decide)]; exact z4
theorem m_isWrong {B : Bk} {μ : Sg} (hB : bok B) (hP : mPg B μ) (hs : msh B μ) {p : Nat} (hp : p < bN B) {post : Int32 → Sg → Prop} (hq : post (nI (wrg B p)) μ) : wp_X8_isWrong (nI p) μ post := by
  have hN := hB.N
  have hrd := hB.hrd p
  have hv : vp_in (nI p) 60 := vp_in_nI (by omega) (by decide)
  have ht : ssp B p < 1059 := bs_lt hB _ _
  unfold wp_X8_isWrong
  have e3 : (nI (rd B p) = nI p + shI (ssp B p)) = (spl B p = ssp B p) := propext (by
    rw [← shI_eq (spl_lt hB p) ht, ← sh_nI (B := B) (p := p) (by omega)]
    constructor
    · intro h; rw [h, Int32.add_comm, Int32.add_sub_cancel]
    · intro h; rw [← h, Int32.add_comm, Int32.sub_add_cancel])
  rw [nI_clamp (by omega), hP.2 p (by omega), (hs.2.2 p hp).2, e3, nI_le0 (by omega)]
  unfold wrg at hq
  refine ⟨hv, fun h => ?_, fun h => ⟨hv, hv, fun g => ?_, fun g => ?_⟩⟩
  · rw [if_pos h] at hq; exact hq
  · rw [if_neg h, if_pos g] at hq; exact hq
  · rw [if_neg h, if_neg g] at hq; exact hq
theorem wrg_le (B : Bk) (p : Nat) : wrg B p ≤ 1 := by
  unfold wrg
  repeat' split
  all_goals omega
theorem m_count {B : Bk} {n : Nat} {μ : Sg} (hn : n + 1 < 2 ^ 31) (hI : MI B n μ) {x : Int32} {post : Int32 → Sg → Prop} (hp : ∀ μ' : Sg, MI B (n + 1) μ' → post (a_count B x) μ') : wp_X8_count x μ post := by
  unfold wp_X8_count
  intro μ1 e1
  refine m_find hn (hI.thr e1) (fun μ2 hI2 _ ht hl hs => ?_)
  obtain ⟨hB, hd, -⟩ := id hI2
  have hN := hB.N
  have hq := hp μ2 hI2
  refine ⟨fun h => ?_, fun h => ?_, fun h => ?_, fun h => ?_, fun h => ?_, fun h => ?_, fun h => ?_, fun h => ?_, fun h => ⟨bN B + 1, ?_⟩, fun h => ?_⟩
  · subst h; rw [hd.1.1]; simpa [a_count] using hq
  · subst h; rw [hd.2.1.1]; simpa [a_count] using hq
  · subst h; rw [hd.2.2.2.1]; simpa [a_count] using hq
  · subst h; rw [ht.2.2.1]; simpa [a_count] using hq
  · subst h; rw [ht.2.1]; simpa [a_count] using hq
  · subst h; rw [cl0, hl.1]; simpa [a_count] using hq
  · subst h; rw [cl0, hs.1]; simpa [a_count] using hq
  · subst h; rw [cl0, hs.2.1]; simpa [a_count] using hq
  · subst h
    have hq : post (nI (wrs B (bN B))) μ2 := by simpa [a_count] using hq
    have loop : ∀ (f p : Nat), p ≤ bN B → bN B < p + f → wp_X8_count_112 post f (nI (wrs B p)) (nI p) μ2 := by
      intro f
      induction f with
      | zero => intro p a1 a2; omega
      | succ f ih =>
        intro p a1 a2
        unfold wp_X8_count_112
        rw [hd.1.1, nI_leI (by omega) (by omega), show nI p + (1 : Int32) = nI (p + 1) from nI_1 p, show nI (wrs B p) + (1 : Int32) = nI (wrs B p + 1) from nI_1 _]
        refine ⟨fun g => ?_, fun g => m_isWrong hB hd.1 hs (by omega) ?_⟩
        · rw [show p = bN B by omega]; exact hq
        · have hw := wrg_le B p
          have i1 := ih (p + 1) (by omega) (by omega)
          rw [wrs] at i1
          rw [nI_eq0 (by omega)]
          refine ⟨fun w => ?_, fun w => ?_⟩
          · rw [w] at i1; exact i1
          · rw [show wrg B p = 1 by omega] at i1; exact i1
    exact loop (bN B + 1) 0 (Nat.zero_le _) (by omega)
  · obtain ⟨n0, n1, n2, n3, n4, n5, n6, n7, n8⟩ := out8 h
    rwa [a_count, if_neg n0, if_neg n1, if_neg n2, if_neg n3, if_neg n4, if_neg n5, if_neg n6, if_neg n7, if_neg n8] at hq
theorem m_endOf {B : Bk} {μ : Sg} (hB : bok B) (hd : mdat B μ) (ht : mtree B μ) {l : Nat} (hl : l < bL B) {post : Int32 → Sg → Prop} (hp : post (ebd B l) μ) : wp_X8_endOf (nI l) μ post := by
  have h20 := hB.L
  have hN := hB.N
  have hv := lv_le B
  have loop : ∀ (n r : Nat), r ≤ bL B → r < n → post (lpR B l r) μ → wp_X8_endOf_15 post n (nI l) (nI (bL B - r)) μ := by
    intro n
    induction n with
    | zero => intro r _ h; omega
    | succ n ih =>
      intro r h1 h2 hq
      unfold wp_X8_endOf_15
      rw [hd.2.1.1, hd.1.1, nI_leI (by omega) (by omega)]
      refine ⟨fun h => ?_, fun h => ?_⟩
      · rw [show r = 0 by omega, lpR] at hq
        rw [nlit 1, pk_sub hN.1]; exact hq
      · obtain ⟨r, rfl⟩ : ∃ q, r = q + 1 := ⟨r - 1, by omega⟩
        have hk : bL B - (r + 1) < bL B := by omega
        have vk : vp_in (nI (bL B - (r + 1))) 20 := vp_in_nI (by omega) (by decide)
        have vl : vp_in (nI l) 20 := vp_in_nI (by omega) (by decide)
        have a1 := hv l
        have a2 := hv (bL B - (r + 1))
        rw [nI_clamp (show bL B - (r + 1) < 2 ^ 31 by omega), nI_clamp (show l < 2 ^ 31 by omega), ht.2.2.2.1 _ hk, ht.2.2.2.1 _ hl, nI_le0 (by omega), nI_ltI (by omega) (by omega), (hd.2.1.2.1 _ hk).1, nI_1, show bL B - (r + 1) + 1 = bL B - r by omega]
        rw [lpR] at hq
        refine ⟨vk, fun g => ih r (by omega) (by omega) ?_, fun g => ⟨vk, vl, fun g2 => ih r (by omega) (by omega) ?_, fun g2 => ⟨vk, ?_⟩⟩⟩
        · rwa [if_neg (fun z => z.1 g)] at hq
        · rwa [if_neg (fun z => by omega)] at hq
        · rwa [if_pos ⟨g, by omega⟩] at hq
  unfold wp_X8_endOf
  have a1 := hv l
  rw [nI_clamp (show l < 2 ^ 31 by omega), ht.2.2.2.1 _ hl, nI_eq0 (by omega)]
  unfold ebd at hp
  refine ⟨vp_in_nI (by omega) (by decide), fun g y ey => ⟨21, ?_⟩, fun g => ?_⟩
  · rw [if_neg g] at hp
    rw [ey, nI_1, show l + 1 = bL B - (bL B - (l + 1)) by omega]
    exact loop 21 _ (by omega) (by omega) hp
  · rwa [if_pos g] at hp
theorem abR_0 {B : Bk} {l : Nat} (h : lv B l = 0) : ∀ k, abR B l k = -1
  | 0 => rfl
  | k + 1 => by rw [abR, if_neg (fun z => by omega)]; exact abR_0 h k
theorem m_aboveOf {B : Bk} {μ : Sg} (hB : bok B) (ht : mtree B μ) {l : Nat} (hl : l < bL B) {post : Int32 → Sg → Prop} (hp : post (abR B l l) μ) : wp_X8_aboveOf (nI l) μ post := by
  have h20 := hB.L
  have hv := lv_le B
  have loop : ∀ (n k : Nat), k ≤ l → k < n → post (abR B l k) μ → wp_X8_aboveOf_15 post n (nI l) (nI k - (1 : Int32)) μ := by
    intro n
    induction n with
    | zero => intro k _ h; omega
    | succ n ih =>
      intro k h1 h2 hq
      unfold wp_X8_aboveOf_15
      rcases k with _ | k
      · exact ⟨fun _ => hq, fun z => absurd (by decide) z⟩
      · rw [ns1]
        have hk : k < bL B := by omega
        have vk : vp_in (nI k) 20 := vp_in_nI (by omega) (by decide)
        have vl : vp_in (nI l) 20 := vp_in_nI (by omega) (by decide)
        have a1 := hv l
        have a2 := hv k
        rw [nI_clamp (show k < 2 ^ 31 by omega), nI_clamp (show l < 2 ^ 31 by omega), ht.2.2.2.1 _ hk, ht.2.2.2.1 _ hl, nI_le0 (by omega), nI_leI (by omega) (by omega), pm1]
        rw [abR] at hq
        refine ⟨fun z => absurd z (nI_pos (by omega)), fun _ => ⟨vk, fun g => ?_, fun g => ⟨vk, vl, fun g2 => ?_, fun g2 => ?_⟩⟩⟩
        · refine ih k (by omega) (by omega) ?_
          rwa [if_neg (fun z => z.1 g)] at hq
        · refine ih k (by omega) (by omega) ?_
          rwa [if_neg (fun z => by omega)] at hq
        · rwa [if_pos ⟨g, by omega⟩] at hq
  unfold wp_X8_aboveOf
  have a1 := hv l
  rw [nI_clamp (show l < 2 ^ 31 by omega), ht.2.2.2.1 _ hl, nI_eq0 (by omega)]
  refine ⟨vp_in_nI (by omega) (by decide), fun g y ey => ⟨21, by rw [ey]; exact loop 21 l (Nat.le_refl _) (by omega) hp⟩, fun g => ?_⟩
  rwa [abR_0 g] at hp
theorem fro_mono (B : Bk) : ∀ d e, fro B e ≤ fro B (e + d)
  | 0, e => Nat.le_refl _
  | d + 1, e => by
    have h1 := fro_mono B d e
    have h2 := fh_le B (e + d)
    show fro B e ≤ fro B (e + d + 1)
    rw [fro]
    split <;> omega
theorem ple_uniq {B : Bk} {e e' l : Nat} (h : e < e') (h1 : ple B e = l + 1) (h2 : ple B e' = l + 1) : False := by
  unfold ple at h1 h2
  by_cases g1 : ptn B e < bH B
  · rw [if_pos g1] at h1
    by_cases g2 : ptn B e' < bH B
    · rw [if_pos g2] at h2
      have a1 := (hdl_ok (B := B) (bL B) (ptn B e) g1).2.2
      have a2 := (hdl_ok (B := B) (bL B) (ptn B e') g2).2.2
      have eh : hd B (ptn B e) = hd B (ptn B e') := by omega
      have ep : ptn B e = ptn B e' := by rw [← a1, ← a2]; exact congrArg (hn B) eh
      have f1 : fro B (e + 1) = ptn B e + 1 := by
        rw [fro]; exact if_pos g1
      have f2 := fro_mono B (e' - (e + 1)) (e + 1)
      rw [show e + 1 + (e' - (e + 1)) = e' by omega] at f2
      have f3 := (fh_le B e').1
      have f4 : fh B e' (fro B e') = ptn B e' := rfl
      omega
    · rw [if_neg g2] at h2; omega
  · rw [if_neg g1] at h1; omega
theorem pel_none {B : Bk} {l : Nat} : ∀ n, (∀ e, e < n → ple B e ≠ l + 1) → pel B l n = 0
  | 0, _ => rfl
  | n + 1, h => by
    rw [pel, if_neg (h n (by omega))]
    exact pel_none n (fun e he => h e (by omega))
theorem pel_some {B : Bk} {l e : Nat} (h : ple B e = l + 1) : ∀ n, e < n → pel B l n = e + 1
  | 0, hn => by omega
  | n + 1, hn => by
    rw [pel]
    by_cases w : e = n
    · rw [← w, if_pos h]
    · rw [if_neg (fun z => ple_uniq (show e < n by omega) h z)]
      exact pel_some h n (by omega)
theorem ple_le {B : Bk} (e : Nat) : ple B e ≤ bL B := by
  unfold ple
  split
  · have := hd_lt (B := B) (h := ptn B e) (by assumption); omega
  · omega
theorem m_partnerOfLine {B : Bk} {μ : Sg} (hB : bok B) (hd : mdat B μ) (hl : mlist B μ) {l : Nat} (hl2 : l < bL B) {post : Int32 → Sg → Prop} (hp : post (lat (pel B l (bE B))) μ) : wp_X8_partnerOfLine (nI l) μ post := by
  have h20 := hB.L
  have h12 := hB.E
  have loop : ∀ (f e : Nat), e ≤ bE B → bE B < e + f → (∀ i, i < e → ple B i ≠ l + 1) → wp_X8_partnerOfLine_2 post f (nI l) (nI e) μ := by
    intro f
    induction f with
    | zero => intro e a1 a2; omega
    | succ f ih =>
      intro e a1 a2 hno
      unfold wp_X8_partnerOfLine_2
      rw [hd.2.2.2.1, nI_leI (by omega) (by omega), show nI e + (1 : Int32) = nI (e + 1) from nI_1 e]
      refine ⟨fun g => ?_, fun g => ?_⟩
      · rw [pel_none (bE B) (fun i hi => hno i (by omega))] at hp; exact hp
      · have he : e < bE B := by omega
        have hpl := ple_le (B := B) e
        have e5 : (lat (ple B e) = nI l) = (ple B e = l + 1) := propext ⟨fun z => (lat_eq (by omega) (by omega)).mp z.symm, fun z => ((lat_eq (by omega) (by omega)).mpr z).symm⟩
        rw [nI_clamp (by omega), hl.2 e he, e5]
        refine ⟨vp_in_nI (by omega) (by decide), fun w => ih (e + 1) (by omega) (by omega) (fun i hi => ?_), fun w => ?_⟩
        · by_cases z : i = e
          · rw [z]; exact w
          · exact hno i (by omega)
        · rw [pel_some w (bE B) he, lat_s] at hp; exact hp
  unfold wp_X8_partnerOfLine
  exact ⟨bE B + 1, loop (bE B + 1) 0 (Nat.zero_le _) (by omega) (fun i hi => by omega)⟩
def a_of (B : Bk) (l w : Nat) : Int32 := if w = 0 then nI (pg B l) else if w = 1 then nI (look B l) else if w = 2 then (if run B l = true then 1 else 0) else if w = 3 then nI (lv B l) else if w = 4 then nI (np B l) else if w = 5 then ebd B l else if w = 6 then lat (pel B l (bE B)) else abR B l l
theorem m_of {B : Bk} {n : Nat} {μ : Sg} (hn : n + 1 < 2 ^ 31) (hI : MI B n μ) {x y : Int32} {post : Int32 → Sg → Prop} (h1 : ∀ (l w : Nat) (μ' : Sg), l < bL B → x = nI l → w ≤ 7 → y = nI w → MI B (n + 1) μ' → μ' 3 0 = 0 → post (a_of B l w) μ') (h0 : (∀ l w, l < bL B → x = nI l → w ≤ 7 → y ≠ nI w) → ∀ μ' : Sg, MI B (n + 1) μ' → μ' 3 0 = 1 → post 0 μ') : wp_X8_of x y μ post := by
  unfold wp_X8_of
  intro μ1 e1
  have hI1 := hI.thr e1
  have h20 := hI.1.L
  have t1 : μ1 3 0 = 0 := by rw [e1, sig_eq]
  have no : (∀ l w, l < bL B → x = nI l → w ≤ 7 → y ≠ nI w) → ∀ μ5 : Sg, μ5 = va_up μ1 3 (fun _ => (1 : Int32)) → post 0 μ5 := fun z μ5 e5 => h0 z μ5 ((hI1.thr e5).mono (by omega)) (by rw [e5, sig_eq])
  refine m_isLine hI1.1 hI1.2.1.2.1 (fun l hl ex => ⟨fun z => absurd z (by decide), fun _ => ?_⟩) (fun g => ⟨fun _ => no (fun l w hl ex _ _ => g l hl ex), fun z => absurd rfl z⟩)
  refine m_in (a := 0) (b := 7) (by decide) (by decide) (fun w _ hw ey => ⟨fun _ => ?_, fun z => absurd z (by decide)⟩) (fun g => ⟨fun z => absurd rfl z, fun _ => no (fun l w hl ex hw ey => g w (Nat.zero_le _) hw ey)⟩)
  refine m_find hn hI1 (fun μ8 hI8 e3 ht hls hs => ?_)
  obtain ⟨hB, hd, -⟩ := id hI8
  have hq := h1 l w μ8 hl ex hw ey hI8 (by rw [e3]; exact t1)
  have hv : vp_in (nI l) 20 := vp_in_nI (by omega) (by decide)
  rw [ex, ey, nI_clamp (by omega)]
  rcases (show w = 0 ∨ w = 1 ∨ w = 2 ∨ w = 3 ∨ w = 4 ∨ w = 5 ∨ w = 6 ∨ w = 7 by omega) with rfl | rfl | rfl | rfl | rfl | rfl | rfl | rfl
  · refine ⟨fun _ => ⟨hv, by rw [(hd.2.1.2.1 l hl).1]; exact hq⟩, fun z => absurd z (by decide), fun z => absurd z (by decide), fun z => absurd z (by decide), fun z => absurd z (by decide), fun z => absurd z (by decide), fun z => absurd z (by decide), fun z => absurd z (by decide)⟩
  · refine ⟨fun z => absurd z (by decide), fun _ => m_look hB hd.2.1 hl hq, fun z => absurd z (by decide), fun z => absurd z (by decide), fun z => absurd z (by decide), fun z => absurd z (by decide), fun z => absurd z (by decide), fun z => absurd z (by decide)⟩
  · refine ⟨fun z => absurd z (by decide), fun z => absurd z (by decide), fun _ => ⟨hv, fun g => ?_, fun g => ?_⟩, fun z => absurd z (by decide), fun z => absurd z (by decide), fun z => absurd z (by decide), fun z => absurd z (by decide), fun z => absurd z (by decide)⟩
    · have hq : post (if run B l = true then 1 else 0) μ8 := hq
      rw [ht.1 l hl] at g
      rw [g] at hq; exact hq
    · have hq : post (if run B l = true then 1 else 0) μ8 := hq
      rw [ht.1 l hl] at g
      have hr : run B l = true := by
        rcases Bool.eq_false_or_eq_true (run B l) with z | z
        · exact z
        · rw [if_neg (by rw [z]; decide)] at g; exact absurd rfl g
      rw [if_pos hr] at hq; exact hq
  · refine ⟨fun z => absurd z (by decide), fun z => absurd z (by decide), fun z => absurd z (by decide), fun _ => ⟨hv, by rw [ht.2.2.2.1 l hl]; exact hq⟩, fun z => absurd z (by decide), fun z => absurd z (by decide), fun z => absurd z (by decide), fun z => absurd z (by decide)⟩
  · refine ⟨fun z => absurd z (by decide), fun z => absurd z (by decide), fun z => absurd z (by decide), fun z => absurd z (by decide), fun _ => ⟨hv, by rw [(hd.2.1.2.1 l hl).2.2.2.2]; exact hq⟩, fun z => absurd z (by decide), fun z => absurd z (by decide), fun z => absurd z (by decide)⟩
  · refine ⟨fun z => absurd z (by decide), fun z => absurd z (by decide), fun z => absurd z (by decide), fun z => absurd z (by decide), fun z => absurd z (by decide), fun _ => m_endOf hB hd ht hl hq, fun z => absurd z (by decide), fun z => absurd z (by decide)⟩
  · refine ⟨fun z => absurd z (by decide), fun z => absurd z (by decide), fun z => absurd z (by decide), fun z => absurd z (by decide), fun z => absurd z (by decide), fun z => absurd z (by decide), fun _ => m_partnerOfLine hB hd hls hl hq, fun z => absurd z (by decide)⟩
  · refine ⟨fun z => absurd z (by decide), fun z => absurd z (by decide), fun z => absurd z (by decide), fun z => absurd z (by decide), fun z => absurd z (by decide), fun z => absurd z (by decide), fun z => absurd z (by decide), fun _ => m_aboveOf hB ht hl hq⟩
theorem m_counter {B : Bk} {n : Nat} {μ : Sg} (hn : n + 1 < 2 ^ 31) (hI : MI B n μ) {x y : Int32} {post : Int32 → Sg → Prop} (h1 : ∀ (l k : Nat) (μ' : Sg), l < bL B → x = nI l → 1 ≤ k → k ≤ 3 → y = nI k → MI B (n + 1) μ' → post (nI (gt3 (st B (l + 1)) k)) μ') (h0 : ¬ ((∃ l, l < bL B ∧ x = nI l) ∧ ∃ k, 1 ≤ k ∧ k ≤ 3 ∧ y = nI k) → ∀ μ' : Sg, MI B (n + 1) μ' → post (-1) μ') : wp_X8_counter x y μ post := by
  unfold wp_X8_counter
  intro μ1 e1
  have hI1 := hI.thr e1
  have h20 := hI.1.L
  have no : ¬ ((∃ l, l < bL B ∧ x = nI l) ∧ ∃ k, 1 ≤ k ∧ k ≤ 3 ∧ y = nI k) → post (-1) μ1 := fun z => h0 z μ1 (hI1.mono (by omega))
  refine m_isLine hI1.1 hI1.2.1.2.1 (fun l hl ex => ⟨fun z => absurd z (by decide), fun _ => ?_⟩) (fun g => ⟨fun _ => no (fun z => by obtain ⟨⟨l, hl, e⟩, -⟩ := z; exact g l hl e), fun z => absurd rfl z⟩)
  refine m_in (a := 1) (b := 3) (by decide) (by decide) (fun k k1 k3 ek => ⟨fun _ => ?_, fun z => absurd z (by decide)⟩) (fun g => ⟨fun z => absurd rfl z, fun _ => no (fun z => by obtain ⟨-, k, k1, k3, ek⟩ := z; exact g k k1 k3 ek)⟩)
  refine m_find hn hI1 (fun μ7 hI7 _ ht _ _ => ?_)
  have e6 : (3 : Int32) * x + y - (1 : Int32) = nI (3 * l + (k - 1)) := by
    rw [ex, ek, nlit 3, nlit 1, pk_mul, nI_add, pk_sub (by omega)]; congr 1; omega
  rw [e6, nI_clamp (by omega), ht.2.2.2.2.1 l (k - 1) hl (by omega), show k - 1 + 1 = k by omega]
  exact ⟨vp_in_nI (by omega) (by decide), h1 l k μ7 hl ex k1 k3 ek hI7⟩
theorem m_partner {B : Bk} {n : Nat} {μ : Sg} (hn : n + 1 < 2 ^ 31) (hI : MI B n μ) {x : Int32} {post : Int32 → Sg → Prop} (h1 : ∀ (e : Nat) (μ' : Sg), e < bE B → x = nI e → MI B (n + 1) μ' → post (lat (ple B e)) μ') (h0 : (∀ e, e < bE B → x ≠ nI e) → ∀ μ' : Sg, MI B (n + 1) μ' → post (-1) μ') : wp_X8_partner x μ post := by
  unfold wp_X8_partner
  intro μ1 e1
  have hI1 := hI.thr e1
  have h12 := hI.1.E
  rw [hI1.2.1.2.2.2.1]
  refine m_in0 (by omega) (fun e he ex => ⟨fun _ => m_find hn hI1 (fun μ4 hI4 _ _ hl _ => ?_), fun z => absurd z (by decide)⟩) (fun g => ⟨fun z => absurd rfl z, fun _ => h0 g μ1 (hI1.mono (by omega))⟩)
  rw [ex, nI_clamp (by omega), hl.2 e he]
  exact ⟨vp_in_nI (by omega) (by decide), h1 e μ4 he ex hI4⟩
theorem m_shift {B : Bk} {n : Nat} {μ : Sg} (hn : n + 1 < 2 ^ 31) (hI : MI B n μ) {x : Int32} {post : Int32 → Sg → Prop} (h1 : ∀ (p : Nat) (μ' : Sg), p < bN B → x = nI p → MI B (n + 1) μ' → μ' 3 0 = 0 → post (shI (ssp B p)) μ') (h0 : (∀ p, p < bN B → x ≠ nI p) → ∀ μ' : Sg, MI B (n + 1) μ' → μ' 3 0 = 1 → post 0 μ') : wp_X8_shift x μ post := by
  unfold wp_X8_shift
  intro μ1 e1
  have hI1 := hI.thr e1
  have hN := hI.1.N
  have t1 : μ1 3 0 = 0 := by rw [e1, sig_eq]
  rw [hI1.2.1.1.1]
  refine m_in0 (by omega) (fun p hp ex => ⟨fun _ => m_find hn hI1 (fun μ4 hI4 e3 _ _ hs => ?_), fun z => absurd z (by decide)⟩) (fun g => ⟨fun z => absurd rfl z, fun _ μ6 e6 => h0 g μ6 ((hI1.thr e6).mono (by omega)) (by rw [e6, sig_eq])⟩)
  rw [ex, nI_clamp (by omega), (hs.2.2 p hp).2]
  exact ⟨vp_in_nI (by omega) (by decide), h1 p μ4 hp ex hI4 (by rw [e3]; exact t1)⟩
theorem m_span {B : Bk} {n : Nat} {μ : Sg} (hn : n + 1 < 2 ^ 31) (hI : MI B n μ) {x : Int32} {post : Int32 → Sg → Prop} (h1 : ∀ (p : Nat) (μ' : Sg), p < bN B → x = nI p → MI B (n + 1) μ' → post (nI (fsp B p)) μ') (h0 : (∀ p, p < bN B → x ≠ nI p) → ∀ μ' : Sg, MI B (n + 1) μ' → post (-1) μ') : wp_X8_span x μ post := by
  unfold wp_X8_span
  intro μ1 e1
  have hI1 := hI.thr e1
  have hN := hI.1.N
  rw [hI1.2.1.1.1]
  refine m_in0 (by omega) (fun p hp ex => ⟨fun _ => m_find hn hI1 (fun μ4 hI4 _ _ _ hs => ?_), fun z => absurd z (by decide)⟩) (fun g => ⟨fun z => absurd rfl z, fun _ => h0 g μ1 (hI1.mono (by omega))⟩)
  rw [ex, nI_clamp (by omega), (hs.2.2 p hp).1]
  exact ⟨vp_in_nI (by omega) (by decide), h1 p μ4 hp ex hI4⟩
theorem m_wrong {B : Bk} {n : Nat} {μ : Sg} (hn : n + 1 < 2 ^ 31) (hI : MI B n μ) {x : Int32} {post : Int32 → Sg → Prop} (h1 : ∀ (p : Nat) (μ' : Sg), p < bN B → x = nI p → MI B (n + 1) μ' → post (nI (wrg B p)) μ') (h0 : (∀ p, p < bN B → x ≠ nI p) → ∀ μ' : Sg, MI B (n + 1) μ' → post (-1) μ') : wp_X8_wrong x μ post := by
  unfold wp_X8_wrong
  intro μ1 e1
  have hI1 := hI.thr e1
  have hN := hI.1.N
  rw [hI1.2.1.1.1]
  refine m_in0 (by omega) (fun p hp ex => ⟨fun _ => m_find hn hI1 (fun μ4 hI4 _ _ _ hs => ?_), fun z => absurd z (by decide)⟩) (fun g => ⟨fun z => absurd rfl z, fun _ => h0 g μ1 (hI1.mono (by omega))⟩)
  rw [ex]
  have hw := wrg_le B p
  have hq := h1 p μ4 hp ex hI4
  refine m_isWrong hI4.1 hI4.2.1.1 hs hp ?_
  rw [nI_eq0 (by omega)]
  refine ⟨fun g => ?_, fun g => ?_⟩
  · rw [g] at hq; exact hq
  · rw [show wrg B p = 1 by omega] at hq; exact hq
