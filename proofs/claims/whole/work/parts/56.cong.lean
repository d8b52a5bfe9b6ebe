/-! what the tree, and the shifts, depend on -/
def ceq (B B' : Bk) : Prop := ∀ k, k = 1 ∨ (4 ≤ k ∧ k ≤ 12) → B' k = B k
section Cong
variable {B B' : Bk}
theorem q_pg (h : ceq B B') : pg B' = pg B := h 4 (by omega)
theorem q_sz (h : ceq B B') : sz B' = sz B := h 5 (by omega)
theorem q_bl (h : ceq B B') : bl B' = bl B := h 6 (by omega)
theorem q_ce (h : ceq B B') : ce B' = ce B := h 7 (by omega)
theorem q_wd (h : ceq B B') : wd B' = wd B := h 8 (by omega)
theorem q_np (h : ceq B B') : np B' = np B := h 9 (by omega)
theorem q_nu (h : ceq B B') : nu B' = nu B := h 10 (by omega)
theorem q_pr (h : ceq B B') : pr B' = pr B := h 11 (by omega)
theorem q_wa (h : ceq B B') : wa B' = wa B := h 12 (by omega)
theorem q_L (h : ceq B B') : bL B' = bL B := congrFun (h 1 (by omega)) 0
theorem look_c (h : ceq B B') (l : Nat) : look B' l = look B l := by
  unfold look; rw [q_sz h, q_bl h, q_ce h]
theorem alikeB_c (h : ceq B B') (a b : Nat) : alikeB B' a b = alikeB B a b := by
  unfold alikeB; rw [q_sz h, q_wd h]
theorem rf_c (h : ceq B B') (l : Nat) : ∀ k, rf B' l k = rf B l k
  | 0 => rfl
  | k + 1 => by unfold rf; rw [rf_c h l k, alikeB_c h, q_pg h]
theorem run_c (h : ceq B B') (l : Nat) : run B' l = run B l := by
  unfold run blankB; rw [rf_c h, q_wd h, q_wa h, q_L h]
theorem okB_c (h : ceq B B') (l : Nat) (c : C3) (v : Nat) : okB B' l c v = okB B l c v := by
  unfold okB; rw [q_np h, q_nu h]
theorem nxt_c (h : ceq B B') (l : Nat) (c : C3) (v : Nat) : nxt B' l c v = nxt B l c v := by
  unfold nxt nx; rw [q_np h, q_nu h]
theorem nc_c (h : ceq B B') (l : Nat) (c : C3) (v : Nat) : nc B' l c v = nc B l c v := by
  unfold nc; rw [nxt_c h]
theorem lcost_c (h : ceq B B') (l : Nat) (c : C3) (v : Nat) : lcost B' l c v = lcost B l c v := by
  unfold lcost tcost hcost; rw [run_c h, look_c h, q_np h, q_nu h, q_pr h, q_wa h]
theorem may_c (h : ceq B B') (l : Nat) (c : C3) (v : Nat) : may B' l c v = may B l c v := by
  unfold may; rw [run_c h, okB_c h]
theorem cwN_c (h : ceq B B') (r : Nat) (f : C3 → Nat) (c : C3) (v : Nat) : cwN B' r f c v = cwN B r f c v := by
  unfold cwN; rw [q_L h, may_c h, lcost_c h, nc_c h]
theorem ls_c (h : ceq B B') : ∀ r, ls B' r = ls B r
  | 0 => rfl
  | r + 1 => by
    funext c
    rw [ls, ls, ls_c h r, cwN_c h, cwN_c h, cwN_c h, cwN_c h]
theorem gv_c (h : ceq B B') (r : Nat) (c : C3) : gv B' r c = gv B r c := by
  unfold gv cw; rw [ls_c h, ls_c h, cwN_c h, cwN_c h, cwN_c h]
theorem st_c (h : ceq B B') : ∀ l, st B' l = st B l
  | 0 => rfl
  | l + 1 => by rw [st, st, st_c h l, gv_c h, nc_c h, q_L h]
theorem lv_c (h : ceq B B') (l : Nat) : lv B' l = lv B l := by
  unfold lv; rw [st_c h, gv_c h, q_L h]
theorem hn_c (h : ceq B B') : ∀ l, hn B' l = hn B l
  | 0 => rfl
  | l + 1 => by rw [hn, hn, hn_c h l, lv_c h]
theorem treeOK_c (h : ceq B B') {σ : Sg} (ht : treeOK B σ) : treeOK B' σ := by
  obtain ⟨h1, h2, h3, h4, h5⟩ := ht
  have e1 : bL B' = bL B := q_L h
  refine ⟨fun l hl => ?_, ?_, ?_, fun l hl => ?_, fun l k hl a b => ?_⟩
  · rw [run_c h]; exact h1 l (by rw [← e1]; exact hl)
  · rw [e1, ls_c h]; exact h2
  · rw [e1, hn_c h]; exact h3
  · rw [lv_c h]; exact h4 l (by rw [← e1]; exact hl)
  · rw [st_c h]; exact h5 l k (by rw [← e1]; exact hl) a b
def deq (B B' : Bk) : Prop := ∀ k, k = 0 ∨ k = 3 ∨ k = 11 → B' k = B k
theorem p_rd (h : deq B B') : rd B' = rd B := h 3 (by omega)
theorem p_pr (h : deq B B') : pr B' = pr B := h 11 (by omega)
theorem p_N (h : deq B B') : bN B' = bN B := congrFun (h 0 (by omega)) 0
theorem spl_c (h : deq B B') (p : Nat) : spl B' p = spl B p := by unfold spl; rw [p_rd h]
theorem al_c (h : deq B B') (i : Nat) : ∀ n, al B' i n = al B i n
  | 0 => rfl
  | n + 1 => by rw [al, al, al_c h i n, p_rd h]
theorem cn_c (h : deq B B') (i t : Nat) : ∀ n, cn B' i t n = cn B i t n
  | 0 => rfl
  | n + 1 => by rw [cn, cn, cn_c h i t n, p_rd h, spl_c h]
theorem mc_c (h : deq B B') (i : Nat) : ∀ n, mc B' i n = mc B i n
  | 0 => rfl
  | n + 1 => by rw [mc, mc, mc_c h i n, p_rd h, spl_c h, cn_c h]
theorem bs_c (h : deq B B') (i : Nat) : ∀ n, bs B' i n = bs B i n
  | 0 => rfl
  | n + 1 => by rw [bs, bs, bs_c h i n, p_rd h, spl_c h, cn_c h, mc_c h]
theorem fc_c (h : deq B B') (r m : Nat) : fc B' r m = fc B r m := by
  unfold fc; rw [p_pr h, p_N h, al_c h, mc_c h]
theorem sT_c (h : deq B B') : ∀ n, sT B' n = sT B n
  | 0 => rfl
  | n + 1 => by
    funext r
    have e : (fun m => fc B' n m + sT B' n (n - m)) = (fun m => fc B n m + sT B n (n - m)) := funext fun m => by rw [fc_c h, sT_c h n]
    show (if r = n + 1 then mn (fun m => fc B' n m + sT B' n (n - m)) n else sT B' n r) = (if r = n + 1 then mn (fun m => fc B n m + sT B n (n - m)) n else sT B n r)
    rw [e, sT_c h n]
theorem sE_c (h : deq B B') (r : Nat) : sE B' r = sE B r := by unfold sE; rw [sT_c h]
theorem se_c (h : deq B B') (r : Nat) : se B' r = se B r := by
  have e : cs B' r = cs B r := funext fun m => by unfold cs; rw [fc_c h, sE_c h]
  unfold se; rw [e, sE_c h]
theorem fe_c (h : deq B B') : ∀ p, fe B' p = fe B p
  | 0 => rfl
  | p + 1 => by rw [fe, fe, fe_c h p, se_c h, p_N h]
theorem fsp_c (h : deq B B') (p : Nat) : fsp B' p = fsp B p := by
  show (fe B' (p + 1)).1 = (fe B (p + 1)).1; rw [fe_c h]
theorem esp_c (h : deq B B') (p : Nat) : esp B' p = esp B p := by
  show (fe B' (p + 1)).2 = (fe B (p + 1)).2; rw [fe_c h]
theorem ssp_c (h : deq B B') (p : Nat) : ssp B' p = ssp B p := by
  unfold ssp; rw [fsp_c h, esp_c h, bs_c h]
theorem wrs_c (h : deq B B') : ∀ p, wrs B' p = wrs B p
  | 0 => rfl
  | p + 1 => by
    have e : wrg B' p = wrg B p := by unfold wrg; rw [p_rd h, spl_c h, ssp_c h]
    rw [wrs, wrs, wrs_c h p, e]
theorem shOK_c (h : deq B B') {σ : Sg} (hs : shOK B σ) : shOK B' σ := by
  obtain ⟨h1, h2, h3, h4⟩ := hs
  have e0 : bN B' = bN B := p_N h
  refine ⟨?_, ?_, ?_, fun p hp => ?_⟩
  · rw [e0, sE_c h]; exact h1
  · rw [e0, sE_c h]; exact h2
  · rw [e0, wrs_c h]; exact h3
  · rw [ssp_c h, fsp_c h]; exact h4 p (by rw [← e0]; exact hp)
end Cong
/-- what holds of the class between its calls -/
def fl (B : Bk) (σ : Sg) : Prop := (σ 0 0 = 1 ∨ (σ 0 0 = 0 ∧ treeOK B σ)) ∧ (σ 1 0 = 1 ∨ (σ 1 0 = 0 ∧ (σ 0 0 = 1 ∨ listOK B σ))) ∧ (σ 2 0 = 1 ∨ (σ 2 0 = 0 ∧ shOK B σ))
def cdat (B : Bk) (σ : Sg) (τ : Tg) : Prop := cPg B σ ∧ cLn B σ ∧ cSe B σ ∧ cEn B σ ∧ σ 33 0 = 1 ∧ tidle τ ∧ tmz σ
def CI (B : Bk) (σ : Sg) (τ : Tg) : Prop := bok B ∧ cdat B σ τ ∧ fl B σ
theorem treeOK_same {B : Bk} {σ σ' : Sg} (h : ∀ k, k = 6 ∨ k = 7 ∨ (27 ≤ k ∧ k ≤ 29) → σ' k = σ k) (ht : treeOK B σ) : treeOK B σ' := by
  unfold treeOK rnn tLv tCo at ht ⊢
  rw [h 6 (by omega), h 7 (by omega), h 27 (by omega), h 28 (by omega), h 29 (by omega)]
  exact ht
theorem listOK_same {B : Bk} {σ σ' : Sg} (h : ∀ k, k = 11 ∨ k = 38 ∨ k = 39 → σ' k = σ k) (ht : listOK B σ) : listOK B σ' := by
  unfold listOK at ht ⊢
  rw [h 11 (by omega), h 38 (by omega), h 39 (by omega)]
  exact ht
theorem shOK_same {B : Bk} {σ σ' : Sg} (h : ∀ k, (13 ≤ k ∧ k ≤ 15) ∨ k = 42 ∨ k = 43 → σ' k = σ k) (ht : shOK B σ) : shOK B σ' := by
  unfold shOK at ht ⊢
  rw [h 13 (by omega), h 14 (by omega), h 15 (by omega), h 42 (by omega), h 43 (by omega)]
  exact ht
