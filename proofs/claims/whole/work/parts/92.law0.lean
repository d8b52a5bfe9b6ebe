def R_law : String := "ContentsFinderLaw"
def lw_P (b : Addr) (xs : List Int32) (args : Array Value) (s : State) : Prop := args = #[.ref b] ∧ s.IntsAt b xs ∧ xs.length ≤ 4096 ∧ (Jvm.Cond.and given_1 narrow_1).before args s = true
def lw_Q (_ : Array Value) (s : State) (o : Outcome) (t : State) : Prop := o = .returned (some (.int 1)) ∧ Framed s o t [] 601024 7293034
def lw_Z (below : List Frame) (a : Array Value) (s : State) : State → Prop := fun t => ∃ o, t.status = .running ∧ Ended t below o ∧ lw_Q a s o t
/-- the law's own end, with 1 on the stack, nothing written that was there before, its room as the claim has it -/
theorem lw_ret {p : Program} {l : Launch} {e : Env} {s : State} {m : MethodId} {below : List Frame} {meth : Method} {c : Code} {b : Nat} (hx : p.tables.exec = Jvm.exec) (hb : c.code = code) (hr : meth.sig.returnType = ret) (hlocks : meth.locks = false) {pc : Nat} {H : Heap} {ls : Array Slot} (hdg : decode code pc = .ok (.ireturn, 1)) : W p l e room_1 s m #[Value.ref b] below meth c H [] 601024 7293034 (lw_Z below #[Value.ref b] s) (F0 m pc ls [.int 1]) := by
  intro T hT X
  obtain ⟨fs, hret, hrun, hended, hW, hframe⟩ := X.leave (v := some (.int 1)) (hlocks := hlocks) (fun h => by rw [hr] at h; cases h)
  have hmeth' : T.vm.method? m = some meth := X.method'
  refine ⟨T.setFrames fs, ?_, .returned (some (.int 1)), hrun, hended, rfl, ⟨_, rfl⟩, hW, hframe⟩
  jvm_step X.here [X.here.top, hx, hb, hdg, hmeth', hr, ret, narrow_b1]
  (try refine ⟨rfl, ?_⟩); (try refine ⟨rfl, ?_⟩)
  first | (intro acts; rw [hret _ acts rfl rfl rfl]) | rw [hret _ _ rfl rfl rfl]
  exact Steps.refl _
/-- what holds at the law's entry: the machine, the code, the tables' words (any of lw_tbl by 'hts w (by decide +kernel)'), the script of L ints xs at the cell b, what the Statement gives of the start (any of its parts by flat_of_before) -/
def lw_At (p : Program) (s : State) (m : MethodId) (meth : Method) (c : Code) (b L : Nat) (xs : Nat → Int32) : Prop :=
  p.tables.exec = Jvm.exec ∧ c.code = code ∧ meth.sig.returnType = ret ∧ c.maxLocals = 7 ∧ s.vm.findClass R_law = some m.cls ∧ (∀ w ∈ lw_tbl, w.before #[Value.ref b] s = true) ∧ va_X b L xs s s.heap ∧ b < s.heap.size ∧ meth.locks = false ∧ (Jvm.Cond.and given_1 narrow_1).before #[Value.ref b] s = true
/-! the law: its world, its loop's state -/
def lA (s : State) : Nat → Prop := fun q => s.heap.size ≤ q
def LE (p : Program) (l : Launch) (s : State) (m : MethodId) (meth : Method) (c : Code) (b L : Nat) (xs : Nat → Int32) (D : va_G) (cy : Nat → ClassId) : Prop := lw_At p s m meth c b L xs ∧ L ≤ 4096 ∧ l.stackTraces = false ∧ kx D cy s ∧ xk s ∧ xz (lA s) s s.heap
abbrev LWd (cy : Nat → ClassId) (ad am : Nat → Nat) (o : Nat) (f : Nat → Int64) (κ : Nat → Nat) (σ : Sg) (τ : Tg) (μ : Sg) : va_W := (outW cy o f ++ cfW cy ad κ σ τ) ++ mdW cy am μ
def LG (p : Program) (l : Launch) (e : Env) (s : State) (m : MethodId) (below : List Frame) (meth : Method) (c : Code) (b : Nat) (D : va_G) (cy : Nat → ClassId) (ad am : Nat → Nat) (o : Nat) (n i pc : Nat) : Prop :=
  ∀ (f : Nat → Int64) (κ : Nat → Nat) (σ : Sg) (τ : Tg) (μ : Sg) (H : Heap) (locs : List Loc) (ls : Array Slot), Hw D (lA s) (LWd cy ad am o f κ σ τ μ) s H locs → JI n σ τ μ → lv_has ls 7 [(4, .int (nI (8 * i))), (0, .ref b), (1, .ref (ad 0)), (2, .ref (am 0)), (3, .ref o)] →
    W p l e room_1 s m #[Value.ref b] below meth c H locs (69 + n) (1451834 + 6 * n) (lw_Z below #[Value.ref b] s) (F0 m pc ls [])
theorem law_in {n L : Nat} (hn : 8 * n + 8 ≤ L) (hL : L ≤ 4096) (k : Nat) (hk : k < 8) : vp_in (nI (8 * n) + nI k) L := by
  rw [nI_add]; exact vp_in_nI (by omega) (by omega)
theorem law_room {n L : Nat} (hn : 8 * n + 8 ≤ L) (hL : L ≤ 4096) : 69 + n ≤ room_1.cells ∧ 1451834 + 6 * n ≤ room_1.slots := by
  show 69 + n ≤ 601024 ∧ 1451834 + 6 * n ≤ 7293034
  omega
theorem law_room1 {n L : Nat} (hn : 8 * n + 8 ≤ L) (hL : L ≤ 4096) : 69 + n + 1 ≤ room_1.cells ∧ 1451834 + 6 * n + 6 ≤ room_1.slots := by
  show 69 + n + 1 ≤ 601024 ∧ 1451834 + 6 * n + 6 ≤ 7293034
  omega
section
variable {D : va_G} {A : Nat → Prop} {s : State} {H : Heap} {locs : List Loc} {a b d : va_W}
theorem hw_rot (hw : Hw D A ((a ++ b) ++ d) s H locs) : Hw D A ((d ++ a) ++ b) s H locs := by
  have := hw_comm hw
  rwa [← List.append_assoc] at this
theorem hw_tor (hw : Hw D A ((d ++ a) ++ b) s H locs) : Hw D A ((a ++ b) ++ d) s H locs := by
  rw [List.append_assoc] at hw
  exact hw_comm hw
end
def bi (v : Int32) : Nat := if v = 0 then 0 else 1
theorem bi_le (v : Int32) : bi v ≤ 1 := by unfold bi; split <;> omega
theorem bi_0 {v : Int32} (h : v = 0) : nI (bi v) = 0 := by unfold bi; rw [if_pos h]; rfl
theorem bi_1 {v : Int32} (h : ¬ v = 0) : nI (bi v) = 1 := by unfold bi; rw [if_neg h]; rfl
theorem cmp_same (x : Int64) : lg_cmp x x = 0 := by
  unfold lg_cmp
  rw [if_neg (fun h => by rw [gt_iff_lt, Int64.lt_iff_toInt_lt] at h; omega), if_pos rfl]
