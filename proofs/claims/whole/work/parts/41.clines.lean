/-! Lines and Pages of the class -/
theorem s_X7_isWithin {v a b : Nat} (hv : v < 2 ^ 31) (ha : a < 2 ^ 31) (hb : b < 2 ^ 31) {post : Int32 → Prop} (hp : post (if a ≤ v ∧ v ≤ b then 1 else 0)) : wp_X7_isWithin (nI v) (nI a) (nI b) post := by
  unfold wp_X7_isWithin
  rw [nI_ltI hv ha, nI_ltI hb hv]
  refine ⟨fun h => ?_, fun h => ⟨fun h2 => ?_, fun h2 => ?_⟩⟩
  · rwa [if_neg (by omega)] at hp
  · rwa [if_neg (by omega)] at hp
  · rwa [if_pos (by omega)] at hp
theorem s_X1_partAt {B : Bk} {σ : Sg} {τ : Tg} (hB : bok B) (hL : cLn B σ) {l k : Nat} (hl : l < bL B) (hk1 : 1 ≤ k) (hk : k ≤ 3) {post : Int32 → Sg → Tg → Prop} (hp : post (nI (nu B (3 * l + (k - 1)))) σ τ) : wp_X1_partAt (nI l) (nI k) σ τ post := by
  have h20 := hB.L
  unfold wp_X1_partAt
  have e : nI l * (3 : Int32) + nI k - (1 : Int32) = nI (3 * l + (k - 1)) := by
    rw [nlit 3, nlit 1, pk_mul, nI_add, pk_sub (by omega)]
    congr 1; omega
  rw [e, nI_clamp (by omega), hL.2.2 _ (by omega)]
  exact ⟨vp_in_nI (by omega) (by decide), hp⟩
theorem s_X1_look {B : Bk} {σ : Sg} {τ : Tg} (hB : bok B) (hL : cLn B σ) {l : Nat} (hl : l < bL B) {post : Int32 → Sg → Tg → Prop} (hp : post (nI (look B l)) σ τ) : wp_X1_look (nI l) σ τ post := by
  have h20 := hB.L
  have hs := hB.hsz l
  obtain ⟨-, h2, h3, h4, -, -, -⟩ := hL.2.1 l hl
  have hv : vp_in (nI l) 20 := vp_in_nI (by omega) (by decide)
  unfold wp_X1_look
  rw [nI_clamp (by omega), h2, h3, h4]
  refine ⟨hv, hv, hv, fun h0 => ?_, fun h0 => ?_⟩
  · have h0 : ce B l = 0 := nI_inj (by omega) (by omega) h0
    rw [nlit 0, nI_add, nI_add]
    unfold look at hp; rw [h0] at hp; exact hp
  · have h0 : ce B l = 1 := by
      rcases Nat.lt_or_ge (ce B l) 1 with q | q
      · exact absurd (by rw [show ce B l = 0 by omega]; rfl) h0
      · omega
    rw [nlit 3, nI_add, nI_add]
    unfold look at hp; rw [h0] at hp; exact hp
theorem s_X1_areAlike {B : Bk} {σ : Sg} {τ : Tg} (hB : bok B) (hL : cLn B σ) {a b : Nat} (ha : a < bL B) (hb : b < bL B) {post : Int32 → Sg → Tg → Prop} (hp : post (if alikeB B a b = true then 1 else 0) σ τ) : wp_X1_areAlike (nI a) (nI b) σ τ post := by
  have h20 := hB.L
  have va : vp_in (nI a) 20 := vp_in_nI (by omega) (by decide)
  have vb : vp_in (nI b) 20 := vp_in_nI (by omega) (by decide)
  obtain ⟨-, a2, -, -, a5, a6, -⟩ := hL.2.1 a ha
  obtain ⟨-, b2, -, -, b5, b6, -⟩ := hL.2.1 b hb
  have hs1 := (hB.hsz a).1
  have hs2 := (hB.hsz b).1
  have hw := fun i => (hB.hwd i).1
  have e : (alikeB B a b = true) = (sz B a = sz B b ∧ w4 (wd B) (8 * a) = w4 (wd B) (8 * b) ∧ w4 (wd B) (8 * a + 4) = w4 (wd B) (8 * b + 4)) := propext (alikeB_iff.trans (alike_w4 hB a b))
  simp only [e] at hp
  unfold wp_X1_areAlike
  rw [nI_clamp (show a < 2 ^ 31 by omega), nI_clamp (show b < 2 ^ 31 by omega), a2, a5, a6, b2, b5, b6, nI_eq (by omega) (by omega), nI_eq (w4_lt hw _) (w4_lt hw _), nI_eq (w4_lt hw _) (w4_lt hw _)]
  refine ⟨va, vb, fun h1 => ?_, fun h1 => ⟨va, vb, fun h2 => ?_, fun h2 => ⟨va, vb, fun h3 => ?_, fun h3 => ?_⟩⟩⟩
  · rwa [if_neg (fun z => h1 z.1)] at hp
  · rwa [if_neg (fun z => h2 z.2.1)] at hp
  · rwa [if_neg (fun z => h3 z.2.2)] at hp
  · rwa [if_pos ⟨h1, h2, h3⟩] at hp
theorem s_X1_isRunning_28 {B : Bk} {σ : Sg} {τ : Tg} (hB : bok B) (hL : cLn B σ) {l : Nat} (hl : l < bL B) {post : Int32 → Sg → Tg → Prop} (hp : post (if wa B 0 ≤ (rf B l (bL B)).1 then 1 else 0) σ τ) : ∀ (n i : Nat), i ≤ bL B → bL B < i + n → wp_X1_isRunning_28 post n (nI l) (nI (wa B 0)) (nI (rf B l i).1) (lat (rf B l i).2) (nI i) σ τ := by
  have h20 := hB.L
  have hm := hB.hmany
  intro n
  induction n with
  | zero => intro i h1 h2; omega
  | succ n ih =>
    intro i h1 h2
    unfold wp_X1_isRunning_28
    have hr := rf_le B l i
    have hr2 := rf_page hB l i h1
    rw [hL.1, nI_leI (by omega) (by omega), nI_ltI (by omega) (by omega)]
    refine ⟨fun h => ⟨fun h3 => ?_, fun h3 => ?_⟩, fun h => ?_⟩
    · rw [show i = bL B by omega] at h3
      rwa [if_neg (by omega)] at hp
    · rw [show i = bL B by omega] at h3
      rwa [if_pos (by omega)] at hp
    · have hi : i < bL B := by omega
      have hv : vp_in (nI i) 20 := vp_in_nI (by omega) (by decide)
      have hpg := hB.hpg hi
      have hN := hB.N
      refine s_X1_areAlike hB hL hl hi ?_
      have e1 : nI i + (1 : Int32) = nI (i + 1) := nI_1 i
      have e2 : nI (rf B l i).1 + (1 : Int32) = nI ((rf B l i).1 + 1) := nI_1 _
      rw [nI_clamp (show i < 2 ^ 31 by omega), (hL.2.1 i hi).1, lat_eq (by omega) (by omega), e1, e2]
      have ih1 := ih (i + 1) hi (by omega)
      rw [rf] at ih1
      refine ⟨fun h3 => ?_, fun h3 => ⟨hv, fun h4 => ?_, fun h4 => ⟨hv, fun y hy => ?_⟩⟩⟩
      · have h5 : ¬ alikeB B l i = true := fun z => by rw [if_pos z] at h3; exact absurd h3 (by decide)
        rwa [if_neg (fun z => h5 z.1)] at ih1
      · rwa [if_neg (fun z => z.2 h4)] at ih1
      · have h5 : alikeB B l i = true := by
          rcases Bool.eq_false_or_eq_true (alikeB B l i) with z | z
          · exact z
          · rw [z] at h3; exact absurd rfl h3
        rw [if_pos ⟨h5, h4⟩] at ih1
        have e3 : lat (pg B i + 1) = nI (pg B i) := by unfold lat; rw [if_neg (by omega)]; rfl
        rw [show ((rf B l i).1 + 1, pg B i + 1).2 = pg B i + 1 from rfl, e3] at ih1
        rw [hy]
        exact ih1
theorem s_X1_isRunning {B : Bk} {σ : Sg} {τ : Tg} (hB : bok B) (hL : cLn B σ) {l : Nat} (hl : l < bL B) {post : Int32 → Sg → Tg → Prop} (hp : post (if run B l = true then 1 else 0) σ τ) : wp_X1_isRunning (nI l) (nI (wa B 0)) σ τ post := by
  have h20 := hB.L
  have hv : vp_in (nI l) 20 := vp_in_nI (by omega) (by decide)
  obtain ⟨-, -, -, -, h5, h6, -⟩ := hL.2.1 l hl
  have hw := fun i => (hB.hwd i).1
  have lp : ¬ blankB B l = true → wp_X1_isRunning_20 post (nI l) (nI (wa B 0)) σ τ := fun hb => by
    refine ⟨bL B + 1, s_X1_isRunning_28 hB hL hl ?_ (bL B + 1) 0 (Nat.zero_le _) (by omega)⟩
    have hb : blankB B l = false := by simpa using hb
    simpa [run, hb] using hp
  unfold wp_X1_isRunning
  have e0 : ∀ i, (nI (w4 (wd B) i) = 0) = (w4 (wd B) i = 0) := fun i => propext (nI_eq (b := 0) (w4_lt hw i) (by decide))
  rw [nI_clamp (by omega), h5, h6, e0, e0]
  refine ⟨hv, fun h => lp (fun z => h ((blank_w4 l).mp z).1), fun h => ⟨hv, fun h' => lp (fun z => h' ((blank_w4 l).mp z).2), fun h' => ?_⟩⟩
  have hb : blankB B l = true := (blank_w4 l).mpr ⟨h, h'⟩
  simpa [run, hb] using hp
