/-! the law: its cases -/
section
variable {p : Program} {l : Launch} {e : Env} {s : State} {m : MethodId} {below : List Frame} {meth : Method} {c : Code} {b L : Nat} {xs : Nat → Int32} {D : va_G} {cy : Nat → ClassId} {ad am : Nat → Nat} {o : Nat}
theorem law_b207 {R : Room} {args : Array Value} {H : Heap} {locs : List Loc} {cells slots : Nat} {Q : State → Prop} {ls : Array Slot} {rest : List Value} {v : Int32} (hx : p.tables.exec = Jvm.exec) (hb : c.code = cL_law) (kk : W p l e R s m args below meth c H locs cells slots Q (F0 m 215 ls (.int (nI (bi v)) :: rest))) : W p l e R s m args below meth c H locs cells slots Q (F0 m 207 ls (.int v :: rest)) := by
  refine lv_if_eq (tgt := 214) hx hb dL_law_207 (by decide) (fun g => ?_) (fun g => ?_)
  · refine lv_iconst (v := 0) hx hb dL_law_214 (by decide) ?_
    rw [bi_0 g] at kk; exact kk
  · refine lv_iconst (v := 1) hx hb dL_law_210 (by decide) ?_
    refine lv_goto (tgt := 215) hx hb dL_law_211 (by decide) ?_
    rw [bi_1 g] at kk; exact kk
theorem law_b263 {R : Room} {args : Array Value} {H : Heap} {locs : List Loc} {cells slots : Nat} {Q : State → Prop} {ls : Array Slot} {rest : List Value} {v : Int32} (hx : p.tables.exec = Jvm.exec) (hb : c.code = cL_law) (kk : W p l e R s m args below meth c H locs cells slots Q (F0 m 271 ls (.int (nI (bi v)) :: rest))) : W p l e R s m args below meth c H locs cells slots Q (F0 m 263 ls (.int v :: rest)) := by
  refine lv_if_eq (tgt := 270) hx hb dL_law_263 (by decide) (fun g => ?_) (fun g => ?_)
  · refine lv_iconst (v := 0) hx hb dL_law_270 (by decide) ?_
    rw [bi_0 g] at kk; exact kk
  · refine lv_iconst (v := 1) hx hb dL_law_266 (by decide) ?_
    refine lv_goto (tgt := 271) hx hb dL_law_267 (by decide) ?_
    rw [bi_1 g] at kk; exact kk
set_option maxHeartbeats 4000000 in
set_option maxRecDepth 100000 in
theorem law_c0 (E : LE p l s m meth c b L xs D cy) {n : Nat} (hn : 8 * n + 8 ≤ L) (k : LG p l e s m below meth c b D cy ad am o (n + 1) n 770) : LG p l e s m below meth c b D cy ad am o n n 120 := by
  obtain ⟨⟨hx, hb, hr, hml, hown, hts, hX, hbl, hlocks, hgv⟩, hL, hst, hkx, hxk, hxz⟩ := E
  intro f κ σ τ μ H locs ls hw hJ hl
  have hA : ∀ q, s.heap.size ≤ q → lA s q := fun _ h => h
  have hbA : ¬ lA s b := Nat.not_le.mpr hbl
  have F : CallFix p m c cL_law 7 s #[Value.ref b] lw_tbl RL := ⟨hx, hb, hml, hown, hts⟩
  obtain ⟨B, hC, hM⟩ := hJ
  have hn1 : n + 1 < 2 ^ 31 := by omega
  replace hw := hw_rot hw
  refine lv_aload_n hx hb dL_law_120 rfl (lv_at hl 2 rfl) ?_
  refine lv_aload_n hx hb dL_law_121 rfl (lv_at hl 1 rfl) ?_
  refine lv_iload hx hb dL_law_122 (lv_at hl 0 rfl) ?_
  refine lv_iconst (v := 1) hx hb dL_law_124 (by decide) ?_
  refine lv_iadd hx hb dL_law_125 ?_
  refine va_sld hx hb hX hbl hbA hw.2.2 (law_in hn hL 1 (by decide)) dL_law_126 ?_
  refine call_Fi (As := [.int (xs (nI (8 * n) + (1 : Int32)).toNatClampNeg)]) F hkx hw hA (c_X7_book l D cy ad κ σ τ _ _ (J_book hC hM (xs (nI (8 * n) + (1 : Int32)).toNatClampNeg))) (cwV 1 hts gA_X7_book rfl rfl rfl hd_X7_book ⟨Nat.le_of_ble_eq_true rfl, Nat.le_of_ble_eq_true rfl⟩) 0 7 rfl rfl rfl hl.1 rfl (Nat.le_of_ble_eq_true rfl) dL_law_127 (law_room hn hL) (fun r u H locs h hw => ?_)
  replace hw := hw_tor hw
  refine lv_aload_n hx hb dL_law_130 rfl (lv_at hl 3 rfl) ?_
  refine lv_aload_n hx hb dL_law_131 rfl (lv_at hl 1 rfl) ?_
  refine lv_iload hx hb dL_law_132 (lv_at hl 0 rfl) ?_
  refine lv_iconst (v := 1) hx hb dL_law_134 (by decide) ?_
  refine lv_iadd hx hb dL_law_135 ?_
  refine va_sld hx hb hX hbl hbA hw.2.2 (law_in hn hL 1 (by decide)) dL_law_136 ?_
  refine call_Fi (As := [.int (xs (nI (8 * n) + (1 : Int32)).toNatClampNeg)]) F hkx hw hA (c_X8_book l D cy am μ _ _ h) (cwV 1 hts gA_X8_book rfl rfl rfl hd_X8_book ⟨Nat.le_of_ble_eq_true rfl, Nat.le_of_ble_eq_true rfl⟩) 0 8 rfl rfl rfl hl.1 rfl (Nat.le_of_ble_eq_true rfl) dL_law_137 (law_room hn hL) (fun r2 u2 H locs h hw => ?_)
  obtain ⟨hr2, hJ⟩ := h
  refine lv_icmp_eq (tgt := 770) hx hb dL_law_140 (by decide) (fun _ => ?_) (fun g => absurd hr2 g)
  refine W.widen (k := 69 + (n + 1)) (n := 1451834 + 6 * (n + 1)) (by omega) (by omega) ?_
  exact k f u.1 u.2.1 u.2.2 u2 H locs ls hw hJ hl
set_option maxHeartbeats 4000000 in
set_option maxRecDepth 100000 in
theorem law_c1 (E : LE p l s m meth c b L xs D cy) {n : Nat} (hn : 8 * n + 8 ≤ L) (k : LG p l e s m below meth c b D cy ad am o (n + 1) n 770) : LG p l e s m below meth c b D cy ad am o n n 145 := by
  obtain ⟨⟨hx, hb, hr, hml, hown, hts, hX, hbl, hlocks, hgv⟩, hL, hst, hkx, hxk, hxz⟩ := E
  intro f κ σ τ μ H locs ls hw hJ hl
  have hA : ∀ q, s.heap.size ≤ q → lA s q := fun _ h => h
  have hbA : ¬ lA s b := Nat.not_le.mpr hbl
  have F : CallFix p m c cL_law 7 s #[Value.ref b] lw_tbl RL := ⟨hx, hb, hml, hown, hts⟩
  obtain ⟨B, hC, hM⟩ := hJ
  have hn1 : n + 1 < 2 ^ 31 := by omega
  replace hw := hw_rot hw
  refine lv_aload_n hx hb dL_law_145 rfl (lv_at hl 2 rfl) ?_
  refine lv_aload_n hx hb dL_law_146 rfl (lv_at hl 1 rfl) ?_
  refine lv_iload hx hb dL_law_147 (lv_at hl 0 rfl) ?_
  refine lv_iconst (v := 1) hx hb dL_law_149 (by decide) ?_
  refine lv_iadd hx hb dL_law_150 ?_
  refine va_sld hx hb hX hbl hbA hw.2.2 (law_in hn hL 1 (by decide)) dL_law_151 ?_
  refine lv_aload_n hx hb dL_law_152 rfl (lv_at hl 1 rfl) ?_
  refine lv_iload hx hb dL_law_153 (lv_at hl 0 rfl) ?_
  refine lv_iconst (v := 2) hx hb dL_law_155 (by decide) ?_
  refine lv_iadd hx hb dL_law_156 ?_
  refine va_sld hx hb hX hbl hbA hw.2.2 (law_in hn hL 2 (by decide)) dL_law_157 ?_
  refine call_Fi (As := [.int (xs (nI (8 * n) + (1 : Int32)).toNatClampNeg), .int (xs (nI (8 * n) + (2 : Int32)).toNatClampNeg)]) F hkx hw hA (c_X7_read l D cy ad κ σ τ _ _ _ (J_read hC hM (xs (nI (8 * n) + (1 : Int32)).toNatClampNeg) (xs (nI (8 * n) + (2 : Int32)).toNatClampNeg))) (cwV 2 hts gA_X7_read rfl rfl rfl hd_X7_read ⟨Nat.le_of_ble_eq_true rfl, Nat.le_of_ble_eq_true rfl⟩) 0 7 rfl rfl rfl hl.1 rfl (Nat.le_of_ble_eq_true rfl) dL_law_158 (law_room hn hL) (fun r u H locs h hw => ?_)
  replace hw := hw_tor hw
  refine lv_aload_n hx hb dL_law_161 rfl (lv_at hl 3 rfl) ?_
  refine lv_aload_n hx hb dL_law_162 rfl (lv_at hl 1 rfl) ?_
  refine lv_iload hx hb dL_law_163 (lv_at hl 0 rfl) ?_
  refine lv_iconst (v := 1) hx hb dL_law_165 (by decide) ?_
  refine lv_iadd hx hb dL_law_166 ?_
  refine va_sld hx hb hX hbl hbA hw.2.2 (law_in hn hL 1 (by decide)) dL_law_167 ?_
  refine lv_aload_n hx hb dL_law_168 rfl (lv_at hl 1 rfl) ?_
  refine lv_iload hx hb dL_law_169 (lv_at hl 0 rfl) ?_
  refine lv_iconst (v := 2) hx hb dL_law_171 (by decide) ?_
  refine lv_iadd hx hb dL_law_172 ?_
  refine va_sld hx hb hX hbl hbA hw.2.2 (law_in hn hL 2 (by decide)) dL_law_173 ?_
  refine call_Fi (As := [.int (xs (nI (8 * n) + (1 : Int32)).toNatClampNeg), .int (xs (nI (8 * n) + (2 : Int32)).toNatClampNeg)]) F hkx hw hA (c_X8_read l D cy am μ _ _ _ h) (cwV 2 hts gA_X8_read rfl rfl rfl hd_X8_read ⟨Nat.le_of_ble_eq_true rfl, Nat.le_of_ble_eq_true rfl⟩) 0 8 rfl rfl rfl hl.1 rfl (Nat.le_of_ble_eq_true rfl) dL_law_174 (law_room hn hL) (fun r2 u2 H locs h hw => ?_)
  obtain ⟨hr2, hJ⟩ := h
  refine lv_icmp_eq (tgt := 770) hx hb dL_law_177 (by decide) (fun _ => ?_) (fun g => absurd hr2 g)
  refine W.widen (k := 69 + (n + 1)) (n := 1451834 + 6 * (n + 1)) (by omega) (by omega) ?_
  exact k f u.1 u.2.1 u.2.2 u2 H locs ls hw hJ hl
set_option maxHeartbeats 4000000 in
set_option maxRecDepth 100000 in
theorem law_c2 (E : LE p l s m meth c b L xs D cy) {n : Nat} (hn : 8 * n + 8 ≤ L) (k : LG p l e s m below meth c b D cy ad am o (n + 1) n 770) : LG p l e s m below meth c b D cy ad am o n n 182 := by
  obtain ⟨⟨hx, hb, hr, hml, hown, hts, hX, hbl, hlocks, hgv⟩, hL, hst, hkx, hxk, hxz⟩ := E
  intro f κ σ τ μ H locs ls hw hJ hl
  have hA : ∀ q, s.heap.size ≤ q → lA s q := fun _ h => h
  have hbA : ¬ lA s b := Nat.not_le.mpr hbl
  have F : CallFix p m c cL_law 7 s #[Value.ref b] lw_tbl RL := ⟨hx, hb, hml, hown, hts⟩
  obtain ⟨B, hC, hM⟩ := hJ
  have hn1 : n + 1 < 2 ^ 31 := by omega
  replace hw := hw_rot hw
  refine lv_aload_n hx hb dL_law_182 rfl (lv_at hl 2 rfl) ?_
  refine lv_aload_n hx hb dL_law_183 rfl (lv_at hl 1 rfl) ?_
  refine lv_iload hx hb dL_law_184 (lv_at hl 0 rfl) ?_
  refine lv_iconst (v := 1) hx hb dL_law_186 (by decide) ?_
  refine lv_iadd hx hb dL_law_187 ?_
  refine va_sld hx hb hX hbl hbA hw.2.2 (law_in hn hL 1 (by decide)) dL_law_188 ?_
  refine lv_aload_n hx hb dL_law_189 rfl (lv_at hl 1 rfl) ?_
  refine lv_iload hx hb dL_law_190 (lv_at hl 0 rfl) ?_
  refine lv_iconst (v := 2) hx hb dL_law_192 (by decide) ?_
  refine lv_iadd hx hb dL_law_193 ?_
  refine va_sld hx hb hX hbl hbA hw.2.2 (law_in hn hL 2 (by decide)) dL_law_194 ?_
  refine lv_aload_n hx hb dL_law_195 rfl (lv_at hl 1 rfl) ?_
  refine lv_iload hx hb dL_law_196 (lv_at hl 0 rfl) ?_
  refine lv_iconst (v := 3) hx hb dL_law_198 (by decide) ?_
  refine lv_iadd hx hb dL_law_199 ?_
  refine va_sld hx hb hX hbl hbA hw.2.2 (law_in hn hL 3 (by decide)) dL_law_200 ?_
  refine lv_aload_n hx hb dL_law_201 rfl (lv_at hl 1 rfl) ?_
  refine lv_iload hx hb dL_law_202 (lv_at hl 0 rfl) ?_
  refine lv_iconst (v := 4) hx hb dL_law_204 (by decide) ?_
  refine lv_iadd hx hb dL_law_205 ?_
  refine va_sld hx hb hX hbl hbA hw.2.2 (law_in hn hL 4 (by decide)) dL_law_206 ?_
  refine law_b207 hx hb ?_
  refine lv_aload_n hx hb dL_law_215 rfl (lv_at hl 1 rfl) ?_
  refine lv_iload hx hb dL_law_216 (lv_at hl 0 rfl) ?_
  refine lv_iconst (v := 5) hx hb dL_law_218 (by decide) ?_
  refine lv_iadd hx hb dL_law_219 ?_
  refine va_sld hx hb hX hbl hbA hw.2.2 (law_in hn hL 5 (by decide)) dL_law_220 ?_
  refine lv_aload_n hx hb dL_law_221 rfl (lv_at hl 1 rfl) ?_
  refine lv_iload hx hb dL_law_222 (lv_at hl 0 rfl) ?_
  refine lv_bipush (v := 6) hx hb dL_law_224 (by decide) ?_
  refine lv_iadd hx hb dL_law_226 ?_
  refine va_sld hx hb hX hbl hbA hw.2.2 (law_in hn hL 6 (by decide)) dL_law_227 ?_
  refine lv_aload_n hx hb dL_law_228 rfl (lv_at hl 1 rfl) ?_
  refine lv_iload hx hb dL_law_229 (lv_at hl 0 rfl) ?_
  refine lv_bipush (v := 7) hx hb dL_law_231 (by decide) ?_
  refine lv_iadd hx hb dL_law_233 ?_
  refine va_sld hx hb hX hbl hbA hw.2.2 (law_in hn hL 7 (by decide)) dL_law_234 ?_
  refine call_Fi (As := [.int (xs (nI (8 * n) + (1 : Int32)).toNatClampNeg), .int (xs (nI (8 * n) + (2 : Int32)).toNatClampNeg), .int (xs (nI (8 * n) + (3 : Int32)).toNatClampNeg), .int (nI (bi (xs (nI (8 * n) + (4 : Int32)).toNatClampNeg))), .int (xs (nI (8 * n) + (5 : Int32)).toNatClampNeg), .int (xs (nI (8 * n) + (6 : Int32)).toNatClampNeg), .int (xs (nI (8 * n) + (7 : Int32)).toNatClampNeg)]) F hkx hw hA (c_X7_line l D cy ad κ σ τ _ _ _ _ _ _ _ _ (J_line hC hM (xs (nI (8 * n) + (1 : Int32)).toNatClampNeg) (xs (nI (8 * n) + (2 : Int32)).toNatClampNeg) (xs (nI (8 * n) + (3 : Int32)).toNatClampNeg) (bi (xs (nI (8 * n) + (4 : Int32)).toNatClampNeg)) (bi_le _) (xs (nI (8 * n) + (5 : Int32)).toNatClampNeg) (xs (nI (8 * n) + (6 : Int32)).toNatClampNeg) (xs (nI (8 * n) + (7 : Int32)).toNatClampNeg))) (cwV 7 hts gA_X7_line rfl rfl rfl hd_X7_line ⟨Nat.le_of_ble_eq_true rfl, Nat.le_of_ble_eq_true rfl⟩) 0 7 rfl rfl rfl hl.1 rfl (Nat.le_of_ble_eq_true rfl) dL_law_235 (law_room hn hL) (fun r u H locs h hw => ?_)
  replace hw := hw_tor hw
  refine lv_aload_n hx hb dL_law_238 rfl (lv_at hl 3 rfl) ?_
  refine lv_aload_n hx hb dL_law_239 rfl (lv_at hl 1 rfl) ?_
  refine lv_iload hx hb dL_law_240 (lv_at hl 0 rfl) ?_
  refine lv_iconst (v := 1) hx hb dL_law_242 (by decide) ?_
  refine lv_iadd hx hb dL_law_243 ?_
  refine va_sld hx hb hX hbl hbA hw.2.2 (law_in hn hL 1 (by decide)) dL_law_244 ?_
  refine lv_aload_n hx hb dL_law_245 rfl (lv_at hl 1 rfl) ?_
  refine lv_iload hx hb dL_law_246 (lv_at hl 0 rfl) ?_
  refine lv_iconst (v := 2) hx hb dL_law_248 (by decide) ?_
  refine lv_iadd hx hb dL_law_249 ?_
  refine va_sld hx hb hX hbl hbA hw.2.2 (law_in hn hL 2 (by decide)) dL_law_250 ?_
  refine lv_aload_n hx hb dL_law_251 rfl (lv_at hl 1 rfl) ?_
  refine lv_iload hx hb dL_law_252 (lv_at hl 0 rfl) ?_
  refine lv_iconst (v := 3) hx hb dL_law_254 (by decide) ?_
  refine lv_iadd hx hb dL_law_255 ?_
  refine va_sld hx hb hX hbl hbA hw.2.2 (law_in hn hL 3 (by decide)) dL_law_256 ?_
  refine lv_aload_n hx hb dL_law_257 rfl (lv_at hl 1 rfl) ?_
  refine lv_iload hx hb dL_law_258 (lv_at hl 0 rfl) ?_
  refine lv_iconst (v := 4) hx hb dL_law_260 (by decide) ?_
  refine lv_iadd hx hb dL_law_261 ?_
  refine va_sld hx hb hX hbl hbA hw.2.2 (law_in hn hL 4 (by decide)) dL_law_262 ?_
  refine law_b263 hx hb ?_
  refine lv_aload_n hx hb dL_law_271 rfl (lv_at hl 1 rfl) ?_
  refine lv_iload hx hb dL_law_272 (lv_at hl 0 rfl) ?_
  refine lv_iconst (v := 5) hx hb dL_law_274 (by decide) ?_
  refine lv_iadd hx hb dL_law_275 ?_
  refine va_sld hx hb hX hbl hbA hw.2.2 (law_in hn hL 5 (by decide)) dL_law_276 ?_
  refine lv_aload_n hx hb dL_law_277 rfl (lv_at hl 1 rfl) ?_
  refine lv_iload hx hb dL_law_278 (lv_at hl 0 rfl) ?_
  refine lv_bipush (v := 6) hx hb dL_law_280 (by decide) ?_
  refine lv_iadd hx hb dL_law_282 ?_
  refine va_sld hx hb hX hbl hbA hw.2.2 (law_in hn hL 6 (by decide)) dL_law_283 ?_
  refine lv_aload_n hx hb dL_law_284 rfl (lv_at hl 1 rfl) ?_
  refine lv_iload hx hb dL_law_285 (lv_at hl 0 rfl) ?_
  refine lv_bipush (v := 7) hx hb dL_law_287 (by decide) ?_
  refine lv_iadd hx hb dL_law_289 ?_
  refine va_sld hx hb hX hbl hbA hw.2.2 (law_in hn hL 7 (by decide)) dL_law_290 ?_
  refine call_Fi (As := [.int (xs (nI (8 * n) + (1 : Int32)).toNatClampNeg), .int (xs (nI (8 * n) + (2 : Int32)).toNatClampNeg), .int (xs (nI (8 * n) + (3 : Int32)).toNatClampNeg), .int (nI (bi (xs (nI (8 * n) + (4 : Int32)).toNatClampNeg))), .int (xs (nI (8 * n) + (5 : Int32)).toNatClampNeg), .int (xs (nI (8 * n) + (6 : Int32)).toNatClampNeg), .int (xs (nI (8 * n) + (7 : Int32)).toNatClampNeg)]) F hkx hw hA (c_X8_line l D cy am μ _ _ _ _ _ _ _ _ h) (cwV 7 hts gA_X8_line rfl rfl rfl hd_X8_line ⟨Nat.le_of_ble_eq_true rfl, Nat.le_of_ble_eq_true rfl⟩) 0 8 rfl rfl rfl hl.1 rfl (Nat.le_of_ble_eq_true rfl) dL_law_291 (law_room hn hL) (fun r2 u2 H locs h hw => ?_)
  obtain ⟨hr2, hJ⟩ := h
  refine lv_icmp_eq (tgt := 770) hx hb dL_law_294 (by decide) (fun _ => ?_) (fun g => absurd hr2 g)
  refine W.widen (k := 69 + (n + 1)) (n := 1451834 + 6 * (n + 1)) (by omega) (by omega) ?_
  exact k f u.1 u.2.1 u.2.2 u2 H locs ls hw hJ hl
set_option maxHeartbeats 4000000 in
set_option maxRecDepth 100000 in
theorem law_c3 (E : LE p l s m meth c b L xs D cy) {n : Nat} (hn : 8 * n + 8 ≤ L) (k : LG p l e s m below meth c b D cy ad am o (n + 1) n 770) : LG p l e s m below meth c b D cy ad am o n n 299 := by
  obtain ⟨⟨hx, hb, hr, hml, hown, hts, hX, hbl, hlocks, hgv⟩, hL, hst, hkx, hxk, hxz⟩ := E
  intro f κ σ τ μ H locs ls hw hJ hl
  have hA : ∀ q, s.heap.size ≤ q → lA s q := fun _ h => h
  have hbA : ¬ lA s b := Nat.not_le.mpr hbl
  have F : CallFix p m c cL_law 7 s #[Value.ref b] lw_tbl RL := ⟨hx, hb, hml, hown, hts⟩
  obtain ⟨B, hC, hM⟩ := hJ
  have hn1 : n + 1 < 2 ^ 31 := by omega
  replace hw := hw_rot hw
  refine lv_aload_n hx hb dL_law_299 rfl (lv_at hl 2 rfl) ?_
  refine lv_aload_n hx hb dL_law_300 rfl (lv_at hl 1 rfl) ?_
  refine lv_iload hx hb dL_law_301 (lv_at hl 0 rfl) ?_
  refine lv_iconst (v := 1) hx hb dL_law_303 (by decide) ?_
  refine lv_iadd hx hb dL_law_304 ?_
  refine va_sld hx hb hX hbl hbA hw.2.2 (law_in hn hL 1 (by decide)) dL_law_305 ?_
  refine lv_aload_n hx hb dL_law_306 rfl (lv_at hl 1 rfl) ?_
  refine lv_iload hx hb dL_law_307 (lv_at hl 0 rfl) ?_
  refine lv_iconst (v := 2) hx hb dL_law_309 (by decide) ?_
  refine lv_iadd hx hb dL_law_310 ?_
  refine va_sld hx hb hX hbl hbA hw.2.2 (law_in hn hL 2 (by decide)) dL_law_311 ?_
  refine lv_aload_n hx hb dL_law_312 rfl (lv_at hl 1 rfl) ?_
  refine lv_iload hx hb dL_law_313 (lv_at hl 0 rfl) ?_
  refine lv_iconst (v := 3) hx hb dL_law_315 (by decide) ?_
  refine lv_iadd hx hb dL_law_316 ?_
  refine va_sld hx hb hX hbl hbA hw.2.2 (law_in hn hL 3 (by decide)) dL_law_317 ?_
  refine call_Fi (As := [.int (xs (nI (8 * n) + (1 : Int32)).toNatClampNeg), .int (xs (nI (8 * n) + (2 : Int32)).toNatClampNeg), .int (xs (nI (8 * n) + (3 : Int32)).toNatClampNeg)]) F hkx hw hA (c_X7_right l D cy ad κ σ τ _ _ _ _ (J_right hC hM (xs (nI (8 * n) + (1 : Int32)).toNatClampNeg) (xs (nI (8 * n) + (2 : Int32)).toNatClampNeg) (xs (nI (8 * n) + (3 : Int32)).toNatClampNeg))) (cwV 3 hts gA_X7_right rfl rfl rfl hd_X7_right ⟨Nat.le_of_ble_eq_true rfl, Nat.le_of_ble_eq_true rfl⟩) 0 7 rfl rfl rfl hl.1 rfl (Nat.le_of_ble_eq_true rfl) dL_law_318 (law_room hn hL) (fun r u H locs h hw => ?_)
  replace hw := hw_tor hw
  refine lv_aload_n hx hb dL_law_321 rfl (lv_at hl 3 rfl) ?_
  refine lv_aload_n hx hb dL_law_322 rfl (lv_at hl 1 rfl) ?_
  refine lv_iload hx hb dL_law_323 (lv_at hl 0 rfl) ?_
  refine lv_iconst (v := 1) hx hb dL_law_325 (by decide) ?_
  refine lv_iadd hx hb dL_law_326 ?_
  refine va_sld hx hb hX hbl hbA hw.2.2 (law_in hn hL 1 (by decide)) dL_law_327 ?_
  refine lv_aload_n hx hb dL_law_328 rfl (lv_at hl 1 rfl) ?_
  refine lv_iload hx hb dL_law_329 (lv_at hl 0 rfl) ?_
  refine lv_iconst (v := 2) hx hb dL_law_331 (by decide) ?_
  refine lv_iadd hx hb dL_law_332 ?_
  refine va_sld hx hb hX hbl hbA hw.2.2 (law_in hn hL 2 (by decide)) dL_law_333 ?_
  refine lv_aload_n hx hb dL_law_334 rfl (lv_at hl 1 rfl) ?_
  refine lv_iload hx hb dL_law_335 (lv_at hl 0 rfl) ?_
  refine lv_iconst (v := 3) hx hb dL_law_337 (by decide) ?_
  refine lv_iadd hx hb dL_law_338 ?_
  refine va_sld hx hb hX hbl hbA hw.2.2 (law_in hn hL 3 (by decide)) dL_law_339 ?_
  refine call_Fi (As := [.int (xs (nI (8 * n) + (1 : Int32)).toNatClampNeg), .int (xs (nI (8 * n) + (2 : Int32)).toNatClampNeg), .int (xs (nI (8 * n) + (3 : Int32)).toNatClampNeg)]) F hkx hw hA (c_X8_right l D cy am μ _ _ _ _ h) (cwV 3 hts gA_X8_right rfl rfl rfl hd_X8_right ⟨Nat.le_of_ble_eq_true rfl, Nat.le_of_ble_eq_true rfl⟩) 0 8 rfl rfl rfl hl.1 rfl (Nat.le_of_ble_eq_true rfl) dL_law_340 (law_room hn hL) (fun r2 u2 H locs h hw => ?_)
  obtain ⟨hr2, hJ⟩ := h
  refine lv_icmp_eq (tgt := 770) hx hb dL_law_343 (by decide) (fun _ => ?_) (fun g => absurd hr2 g)
  refine W.widen (k := 69 + (n + 1)) (n := 1451834 + 6 * (n + 1)) (by omega) (by omega) ?_
  exact k f u.1 u.2.1 u.2.2 u2 H locs ls hw hJ hl
set_option maxHeartbeats 4000000 in
set_option maxRecDepth 100000 in
theorem law_c4 (E : LE p l s m meth c b L xs D cy) {n : Nat} (hn : 8 * n + 8 ≤ L) (k : LG p l e s m below meth c b D cy ad am o (n + 1) n 770) : LG p l e s m below meth c b D cy ad am o n n 348 := by
  obtain ⟨⟨hx, hb, hr, hml, hown, hts, hX, hbl, hlocks, hgv⟩, hL, hst, hkx, hxk, hxz⟩ := E
  intro f κ σ τ μ H locs ls hw hJ hl
  have hA : ∀ q, s.heap.size ≤ q → lA s q := fun _ h => h
  have hbA : ¬ lA s b := Nat.not_le.mpr hbl
  have F : CallFix p m c cL_law 7 s #[Value.ref b] lw_tbl RL := ⟨hx, hb, hml, hown, hts⟩
  obtain ⟨B, hC, hM⟩ := hJ
  have hn1 : n + 1 < 2 ^ 31 := by omega
  replace hw := hw_rot hw
  refine lv_aload_n hx hb dL_law_348 rfl (lv_at hl 2 rfl) ?_
  refine call_Fi (As := []) F hkx hw hA (c_X7_drop l D cy ad κ σ τ  _ (J_drop hC hM )) (cwV 0 hts gA_X7_drop rfl rfl rfl hd_X7_drop ⟨Nat.le_of_ble_eq_true rfl, Nat.le_of_ble_eq_true rfl⟩) 0 7 rfl rfl rfl hl.1 rfl (Nat.le_of_ble_eq_true rfl) dL_law_349 (law_room hn hL) (fun r u H locs h hw => ?_)
  replace hw := hw_tor hw
  refine lv_aload_n hx hb dL_law_352 rfl (lv_at hl 3 rfl) ?_
  refine call_Fi (As := []) F hkx hw hA (c_X8_drop l D cy am μ  _ h) (cwV 0 hts gA_X8_drop rfl rfl rfl hd_X8_drop ⟨Nat.le_of_ble_eq_true rfl, Nat.le_of_ble_eq_true rfl⟩) 0 8 rfl rfl rfl hl.1 rfl (Nat.le_of_ble_eq_true rfl) dL_law_353 (law_room hn hL) (fun r2 u2 H locs h hw => ?_)
  obtain ⟨hr2, hJ⟩ := h
  refine lv_icmp_eq (tgt := 770) hx hb dL_law_356 (by decide) (fun _ => ?_) (fun g => absurd hr2 g)
  refine W.widen (k := 69 + (n + 1)) (n := 1451834 + 6 * (n + 1)) (by omega) (by omega) ?_
  exact k f u.1 u.2.1 u.2.2 u2 H locs ls hw hJ hl
set_option maxHeartbeats 4000000 in
set_option maxRecDepth 100000 in
theorem law_c5 (E : LE p l s m meth c b L xs D cy) {n : Nat} (hn : 8 * n + 8 ≤ L) (k : LG p l e s m below meth c b D cy ad am o (n + 1) n 770) : LG p l e s m below meth c b D cy ad am o n n 361 := by
  obtain ⟨⟨hx, hb, hr, hml, hown, hts, hX, hbl, hlocks, hgv⟩, hL, hst, hkx, hxk, hxz⟩ := E
  intro f κ σ τ μ H locs ls hw hJ hl
  have hA : ∀ q, s.heap.size ≤ q → lA s q := fun _ h => h
  have hbA : ¬ lA s b := Nat.not_le.mpr hbl
  have F : CallFix p m c cL_law 7 s #[Value.ref b] lw_tbl RL := ⟨hx, hb, hml, hown, hts⟩
  obtain ⟨B, hC, hM⟩ := hJ
  have hn1 : n + 1 < 2 ^ 31 := by omega
  replace hw := hw_rot hw
  refine lv_aload_n hx hb dL_law_361 rfl (lv_at hl 2 rfl) ?_
  refine lv_aload_n hx hb dL_law_362 rfl (lv_at hl 1 rfl) ?_
  refine lv_iload hx hb dL_law_363 (lv_at hl 0 rfl) ?_
  refine lv_iconst (v := 1) hx hb dL_law_365 (by decide) ?_
  refine lv_iadd hx hb dL_law_366 ?_
  refine va_sld hx hb hX hbl hbA hw.2.2 (law_in hn hL 1 (by decide)) dL_law_367 ?_
  refine lv_aload_n hx hb dL_law_368 rfl (lv_at hl 1 rfl) ?_
  refine lv_iload hx hb dL_law_369 (lv_at hl 0 rfl) ?_
  refine lv_iconst (v := 2) hx hb dL_law_371 (by decide) ?_
  refine lv_iadd hx hb dL_law_372 ?_
  refine va_sld hx hb hX hbl hbA hw.2.2 (law_in hn hL 2 (by decide)) dL_law_373 ?_
  refine call_Fi (As := [.int (xs (nI (8 * n) + (1 : Int32)).toNatClampNeg), .int (xs (nI (8 * n) + (2 : Int32)).toNatClampNeg)]) F hkx hw hA (c_X7_price l D cy ad κ σ τ _ _ _ (J_price hC hM (xs (nI (8 * n) + (1 : Int32)).toNatClampNeg) (xs (nI (8 * n) + (2 : Int32)).toNatClampNeg))) (cwV 2 hts gA_X7_price rfl rfl rfl hd_X7_price ⟨Nat.le_of_ble_eq_true rfl, Nat.le_of_ble_eq_true rfl⟩) 0 7 rfl rfl rfl hl.1 rfl (Nat.le_of_ble_eq_true rfl) dL_law_374 (law_room hn hL) (fun r u H locs h hw => ?_)
  replace hw := hw_tor hw
  refine lv_aload_n hx hb dL_law_377 rfl (lv_at hl 3 rfl) ?_
  refine lv_aload_n hx hb dL_law_378 rfl (lv_at hl 1 rfl) ?_
  refine lv_iload hx hb dL_law_379 (lv_at hl 0 rfl) ?_
  refine lv_iconst (v := 1) hx hb dL_law_381 (by decide) ?_
  refine lv_iadd hx hb dL_law_382 ?_
  refine va_sld hx hb hX hbl hbA hw.2.2 (law_in hn hL 1 (by decide)) dL_law_383 ?_
  refine lv_aload_n hx hb dL_law_384 rfl (lv_at hl 1 rfl) ?_
  refine lv_iload hx hb dL_law_385 (lv_at hl 0 rfl) ?_
  refine lv_iconst (v := 2) hx hb dL_law_387 (by decide) ?_
  refine lv_iadd hx hb dL_law_388 ?_
  refine va_sld hx hb hX hbl hbA hw.2.2 (law_in hn hL 2 (by decide)) dL_law_389 ?_
  refine call_Fi (As := [.int (xs (nI (8 * n) + (1 : Int32)).toNatClampNeg), .int (xs (nI (8 * n) + (2 : Int32)).toNatClampNeg)]) F hkx hw hA (c_X8_price l D cy am μ _ _ _ h) (cwV 2 hts gA_X8_price rfl rfl rfl hd_X8_price ⟨Nat.le_of_ble_eq_true rfl, Nat.le_of_ble_eq_true rfl⟩) 0 8 rfl rfl rfl hl.1 rfl (Nat.le_of_ble_eq_true rfl) dL_law_390 (law_room hn hL) (fun r2 u2 H locs h hw => ?_)
  obtain ⟨hr2, hJ⟩ := h
  refine lv_icmp_eq (tgt := 770) hx hb dL_law_393 (by decide) (fun _ => ?_) (fun g => absurd hr2 g)
  refine W.widen (k := 69 + (n + 1)) (n := 1451834 + 6 * (n + 1)) (by omega) (by omega) ?_
  exact k f u.1 u.2.1 u.2.2 u2 H locs ls hw hJ hl
set_option maxHeartbeats 4000000 in
set_option maxRecDepth 100000 in
theorem law_c6 (E : LE p l s m meth c b L xs D cy) {n : Nat} (hn : 8 * n + 8 ≤ L) (k : LG p l e s m below meth c b D cy ad am o (n + 1) n 770) : LG p l e s m below meth c b D cy ad am o n n 398 := by
  obtain ⟨⟨hx, hb, hr, hml, hown, hts, hX, hbl, hlocks, hgv⟩, hL, hst, hkx, hxk, hxz⟩ := E
  intro f κ σ τ μ H locs ls hw hJ hl
  have hA : ∀ q, s.heap.size ≤ q → lA s q := fun _ h => h
  have hbA : ¬ lA s b := Nat.not_le.mpr hbl
  have F : CallFix p m c cL_law 7 s #[Value.ref b] lw_tbl RL := ⟨hx, hb, hml, hown, hts⟩
  obtain ⟨B, hC, hM⟩ := hJ
  have hn1 : n + 1 < 2 ^ 31 := by omega
  replace hw := hw_rot hw
  refine lv_aload_n hx hb dL_law_398 rfl (lv_at hl 2 rfl) ?_
  refine lv_aload_n hx hb dL_law_399 rfl (lv_at hl 1 rfl) ?_
  refine lv_iload hx hb dL_law_400 (lv_at hl 0 rfl) ?_
  refine lv_iconst (v := 1) hx hb dL_law_402 (by decide) ?_
  refine lv_iadd hx hb dL_law_403 ?_
  refine va_sld hx hb hX hbl hbA hw.2.2 (law_in hn hL 1 (by decide)) dL_law_404 ?_
  refine lv_aload_n hx hb dL_law_405 rfl (lv_at hl 1 rfl) ?_
  refine lv_iload hx hb dL_law_406 (lv_at hl 0 rfl) ?_
  refine lv_iconst (v := 2) hx hb dL_law_408 (by decide) ?_
  refine lv_iadd hx hb dL_law_409 ?_
  refine va_sld hx hb hX hbl hbA hw.2.2 (law_in hn hL 2 (by decide)) dL_law_410 ?_
  refine call_Fi (As := [.int (xs (nI (8 * n) + (1 : Int32)).toNatClampNeg), .int (xs (nI (8 * n) + (2 : Int32)).toNatClampNeg)]) F hkx hw hA (c_X7_want l D cy ad κ σ τ _ _ _ (J_want hC hM (xs (nI (8 * n) + (1 : Int32)).toNatClampNeg) (xs (nI (8 * n) + (2 : Int32)).toNatClampNeg))) (cwV 2 hts gA_X7_want rfl rfl rfl hd_X7_want ⟨Nat.le_of_ble_eq_true rfl, Nat.le_of_ble_eq_true rfl⟩) 0 7 rfl rfl rfl hl.1 rfl (Nat.le_of_ble_eq_true rfl) dL_law_411 (law_room hn hL) (fun r u H locs h hw => ?_)
  replace hw := hw_tor hw
  refine lv_aload_n hx hb dL_law_414 rfl (lv_at hl 3 rfl) ?_
  refine lv_aload_n hx hb dL_law_415 rfl (lv_at hl 1 rfl) ?_
  refine lv_iload hx hb dL_law_416 (lv_at hl 0 rfl) ?_
  refine lv_iconst (v := 1) hx hb dL_law_418 (by decide) ?_
  refine lv_iadd hx hb dL_law_419 ?_
  refine va_sld hx hb hX hbl hbA hw.2.2 (law_in hn hL 1 (by decide)) dL_law_420 ?_
  refine lv_aload_n hx hb dL_law_421 rfl (lv_at hl 1 rfl) ?_
  refine lv_iload hx hb dL_law_422 (lv_at hl 0 rfl) ?_
  refine lv_iconst (v := 2) hx hb dL_law_424 (by decide) ?_
  refine lv_iadd hx hb dL_law_425 ?_
  refine va_sld hx hb hX hbl hbA hw.2.2 (law_in hn hL 2 (by decide)) dL_law_426 ?_
  refine call_Fi (As := [.int (xs (nI (8 * n) + (1 : Int32)).toNatClampNeg), .int (xs (nI (8 * n) + (2 : Int32)).toNatClampNeg)]) F hkx hw hA (c_X8_want l D cy am μ _ _ _ h) (cwV 2 hts gA_X8_want rfl rfl rfl hd_X8_want ⟨Nat.le_of_ble_eq_true rfl, Nat.le_of_ble_eq_true rfl⟩) 0 8 rfl rfl rfl hl.1 rfl (Nat.le_of_ble_eq_true rfl) dL_law_427 (law_room hn hL) (fun r2 u2 H locs h hw => ?_)
  obtain ⟨hr2, hJ⟩ := h
  refine lv_icmp_eq (tgt := 770) hx hb dL_law_430 (by decide) (fun _ => ?_) (fun g => absurd hr2 g)
  refine W.widen (k := 69 + (n + 1)) (n := 1451834 + 6 * (n + 1)) (by omega) (by omega) ?_
  exact k f u.1 u.2.1 u.2.2 u2 H locs ls hw hJ hl
set_option maxHeartbeats 4000000 in
set_option maxRecDepth 100000 in
theorem law_c7 (E : LE p l s m meth c b L xs D cy) {n : Nat} (hn : 8 * n + 8 ≤ L) (k : LG p l e s m below meth c b D cy ad am o (n + 1) n 770) : LG p l e s m below meth c b D cy ad am o n n 435 := by
  obtain ⟨⟨hx, hb, hr, hml, hown, hts, hX, hbl, hlocks, hgv⟩, hL, hst, hkx, hxk, hxz⟩ := E
  intro f κ σ τ μ H locs ls hw hJ hl
  have hA : ∀ q, s.heap.size ≤ q → lA s q := fun _ h => h
  have hbA : ¬ lA s b := Nat.not_le.mpr hbl
  have F : CallFix p m c cL_law 7 s #[Value.ref b] lw_tbl RL := ⟨hx, hb, hml, hown, hts⟩
  obtain ⟨B, hC, hM⟩ := hJ
  have hn1 : n + 1 < 2 ^ 31 := by omega
  replace hw := hw_rot hw
  refine lv_aload_n hx hb dL_law_435 rfl (lv_at hl 2 rfl) ?_
  refine lv_aload_n hx hb dL_law_436 rfl (lv_at hl 1 rfl) ?_
  refine lv_iload hx hb dL_law_437 (lv_at hl 0 rfl) ?_
  refine lv_iconst (v := 1) hx hb dL_law_439 (by decide) ?_
  refine lv_iadd hx hb dL_law_440 ?_
  refine va_sld hx hb hX hbl hbA hw.2.2 (law_in hn hL 1 (by decide)) dL_law_441 ?_
  refine call_Fi (As := [.int (xs (nI (8 * n) + (1 : Int32)).toNatClampNeg)]) F hkx hw hA (c_X7_count l D cy ad κ σ τ _ _ (J_count hn1 hC hM (xs (nI (8 * n) + (1 : Int32)).toNatClampNeg))) (cwV 1 hts gA_X7_count rfl rfl rfl hd_X7_count ⟨Nat.le_of_ble_eq_true rfl, Nat.le_of_ble_eq_true rfl⟩) 0 7 rfl rfl rfl hl.1 rfl (Nat.le_of_ble_eq_true rfl) dL_law_442 (law_room hn hL) (fun r u H locs h hw => ?_)
  replace hw := hw_tor hw
  refine lv_aload_n hx hb dL_law_445 rfl (lv_at hl 3 rfl) ?_
  refine lv_aload_n hx hb dL_law_446 rfl (lv_at hl 1 rfl) ?_
  refine lv_iload hx hb dL_law_447 (lv_at hl 0 rfl) ?_
  refine lv_iconst (v := 1) hx hb dL_law_449 (by decide) ?_
  refine lv_iadd hx hb dL_law_450 ?_
  refine va_sld hx hb hX hbl hbA hw.2.2 (law_in hn hL 1 (by decide)) dL_law_451 ?_
  refine call_Fi (As := [.int (xs (nI (8 * n) + (1 : Int32)).toNatClampNeg)]) F hkx hw hA (c_X8_count l D cy am μ _ _ h) (cwV 1 hts gA_X8_count rfl rfl rfl hd_X8_count ⟨Nat.le_of_ble_eq_true rfl, Nat.le_of_ble_eq_true rfl⟩) 0 8 rfl rfl rfl hl.1 rfl (Nat.le_of_ble_eq_true rfl) dL_law_452 (law_room hn hL) (fun r2 u2 H locs h hw => ?_)
  obtain ⟨hr2, hJ⟩ := h
  refine lv_icmp_eq (tgt := 770) hx hb dL_law_455 (by decide) (fun _ => ?_) (fun g => absurd hr2 g)
  refine W.widen (k := 69 + (n + 1)) (n := 1451834 + 6 * (n + 1)) (by omega) (by omega) ?_
  exact k f u.1 u.2.1 u.2.2 u2 H locs ls hw hJ hl
set_option maxHeartbeats 4000000 in
set_option maxRecDepth 100000 in
theorem law_c8 (E : LE p l s m meth c b L xs D cy) {n : Nat} (hn : 8 * n + 8 ≤ L) (k : LG p l e s m below meth c b D cy ad am o (n + 1) n 770) : LG p l e s m below meth c b D cy ad am o n n 460 := by
  obtain ⟨⟨hx, hb, hr, hml, hown, hts, hX, hbl, hlocks, hgv⟩, hL, hst, hkx, hxk, hxz⟩ := E
  intro f κ σ τ μ H locs ls hw hJ hl
  have hA : ∀ q, s.heap.size ≤ q → lA s q := fun _ h => h
  have hbA : ¬ lA s b := Nat.not_le.mpr hbl
  have F : CallFix p m c cL_law 7 s #[Value.ref b] lw_tbl RL := ⟨hx, hb, hml, hown, hts⟩
  obtain ⟨B, hC, hM⟩ := hJ
  have hn1 : n + 1 < 2 ^ 31 := by omega
  replace hw := hw_comm hw
  refine lv_aload_n hx hb dL_law_460 rfl (lv_at hl 2 rfl) ?_
  refine lv_aload_n hx hb dL_law_461 rfl (lv_at hl 1 rfl) ?_
  refine lv_iload hx hb dL_law_462 (lv_at hl 0 rfl) ?_
  refine lv_iconst (v := 1) hx hb dL_law_464 (by decide) ?_
  refine lv_iadd hx hb dL_law_465 ?_
  refine va_sld hx hb hX hbl hbA hw.2.2 (law_in hn hL 1 (by decide)) dL_law_466 ?_
  refine lv_aload_n hx hb dL_law_467 rfl (lv_at hl 1 rfl) ?_
  refine lv_iload hx hb dL_law_468 (lv_at hl 0 rfl) ?_
  refine lv_iconst (v := 2) hx hb dL_law_470 (by decide) ?_
  refine lv_iadd hx hb dL_law_471 ?_
  refine va_sld hx hb hX hbl hbA hw.2.2 (law_in hn hL 2 (by decide)) dL_law_472 ?_
  refine lv_aload_n hx hb dL_law_473 rfl (lv_at hl 4 rfl) ?_
  refine call_SW (As := [.ref (ad 0), .int (xs (nI (8 * n) + (1 : Int32)).toNatClampNeg), .int (xs (nI (8 * n) + (2 : Int32)).toNatClampNeg), .ref o]) F hkx hxk hxz hw hA (c_L_of l hst D cy ad κ o f σ τ _ _ _ _ (J_of hn1 hC hM (xs (nI (8 * n) + (1 : Int32)).toNatClampNeg) (xs (nI (8 * n) + (2 : Int32)).toNatClampNeg))) (vx_cwSW 4 hts gA_L_of rfl rfl rfl hd_L_of ⟨Nat.le_of_ble_eq_true rfl, Nat.le_of_ble_eq_true rfl⟩) rfl hl.1 rfl (Nat.le_of_ble_eq_true rfl) dL_law_474 (law_room1 hn hL) (fun r u H locs h hw => ?_)
  replace hw := hw_comm hw
  refine lv_istore (lv' := [(5, .int r), (4, .int (nI (8 * n))), (0, .ref b), (1, .ref (ad 0)), (2, .ref (am 0)), (3, .ref o)]) hx hb dL_law_477 hl (by decide) rfl (fun ls hl => ?_)
  rcases h with ⟨er, v, ev, h⟩ | ⟨er, h⟩
  · refine lv_aload_n hx hb dL_law_479 rfl (lv_at hl 4 rfl) ?_
    refine lv_aload_n hx hb dL_law_480 rfl (lv_at hl 2 rfl) ?_
    refine lv_iload hx hb dL_law_481 (lv_at hl 1 rfl) ?_
    refine lv_iconst (v := 1) hx hb dL_law_483 (by decide) ?_
    refine lv_iadd hx hb dL_law_484 ?_
    refine va_sld hx hb hX hbl hbA hw.2.2 (law_in hn hL 1 (by decide)) dL_law_485 ?_
    refine lv_aload_n hx hb dL_law_486 rfl (lv_at hl 2 rfl) ?_
    refine lv_iload hx hb dL_law_487 (lv_at hl 1 rfl) ?_
    refine lv_iconst (v := 2) hx hb dL_law_489 (by decide) ?_
    refine lv_iadd hx hb dL_law_490 ?_
    refine va_sld hx hb hX hbl hbA hw.2.2 (law_in hn hL 2 (by decide)) dL_law_491 ?_
    refine call_Fi (As := [.int (xs (nI (8 * n) + (1 : Int32)).toNatClampNeg), .int (xs (nI (8 * n) + (2 : Int32)).toNatClampNeg)]) F hkx hw hA (c_X8_of l D cy am μ _ _ _ h) (cwV 2 hts gA_X8_of rfl rfl rfl hd_X8_of ⟨Nat.le_of_ble_eq_true rfl, Nat.le_of_ble_eq_true rfl⟩) 0 8 rfl rfl rfl hl.1 rfl (Nat.le_of_ble_eq_true rfl) dL_law_492 (law_room1 hn hL) (fun r2 u2 H locs h hw => ?_)
    obtain ⟨hr2, ht3, hJ⟩ := h
    refine lv_istore (lv' := [(6, .int r2), (5, .int r), (4, .int (nI (8 * n))), (0, .ref b), (1, .ref (ad 0)), (2, .ref (am 0)), (3, .ref o)]) hx hb dL_law_495 hl (by decide) rfl (fun ls hl => ?_)
    refine lv_aload_n hx hb dL_law_497 rfl (lv_at hl 5 rfl) ?_
    refine call_Fi (As := []) F hkx hw hA (c_X8_thrown l D cy am u2 (fun r3 μ3 => r3 = u2 3 0 ∧ μ3 = u2) ⟨rfl, rfl⟩) (cwV 0 hts gA_X8_thrown rfl rfl rfl hd_X8_thrown ⟨Nat.le_of_ble_eq_true rfl, Nat.le_of_ble_eq_true rfl⟩) 0 8 rfl rfl rfl hl.1 rfl (Nat.le_of_ble_eq_true rfl) dL_law_498 (law_room1 hn hL) (fun r3 u3 H locs h3 hw => ?_)
    obtain ⟨e3, e4⟩ := h3
    rw [e4] at hw
    refine lv_iload hx hb dL_law_501 (lv_at hl 1 rfl) ?_
    refine lv_icmp_eq (tgt := 508) hx hb dL_law_503 (by decide) (fun _ => ?_) (fun g => absurd (by rw [e3, ht3, er]) g)
    refine lv_iload hx hb dL_law_508 (lv_at hl 1 rfl) ?_
    refine lv_if_ne (tgt := 525) hx hb dL_law_510 (by decide) (fun g => absurd er g) (fun _ => ?_)
    refine lv_aload_n hx hb dL_law_513 rfl (lv_at hl 6 rfl) ?_
    refine lv_iconst (v := 0) hx hb dL_law_514 (by decide) ?_
    refine va_lald (i := 0) hx hb hkx.1 hw.1 0 1 rfl rfl (by unfold vp_in; decide) dL_law_515 ?_
    refine lv_iload hx hb dL_law_516 (lv_at hl 0 rfl) ?_
    refine lv_i2l hx hb dL_law_518 rfl ?_
    refine W.lcmp hx hb dL_law_519 ?_
    refine lv_if_eq (tgt := 525) hx hb dL_law_520 (by decide) (fun _ => ?_) (fun g => absurd (by rw [cl0, ev, hr2]; exact cmp_same _) g)
    refine lv_goto (tgt := 770) hx hb dL_law_525 (by decide) ?_
    refine W.widen (k := 69 + (n + 1)) (n := 1451834 + 6 * (n + 1)) (by omega) (by omega) ?_
    exact k u.1 u.2.1 u.2.2.1 u.2.2.2 u2 H locs ls hw hJ (lv_sub hl [2, 3, 4, 5, 6] rfl)
  · refine lv_aload_n hx hb dL_law_479 rfl (lv_at hl 4 rfl) ?_
    refine lv_aload_n hx hb dL_law_480 rfl (lv_at hl 2 rfl) ?_
    refine lv_iload hx hb dL_law_481 (lv_at hl 1 rfl) ?_
    refine lv_iconst (v := 1) hx hb dL_law_483 (by decide) ?_
    refine lv_iadd hx hb dL_law_484 ?_
    refine va_sld hx hb hX hbl hbA hw.2.2 (law_in hn hL 1 (by decide)) dL_law_485 ?_
    refine lv_aload_n hx hb dL_law_486 rfl (lv_at hl 2 rfl) ?_
    refine lv_iload hx hb dL_law_487 (lv_at hl 1 rfl) ?_
    refine lv_iconst (v := 2) hx hb dL_law_489 (by decide) ?_
    refine lv_iadd hx hb dL_law_490 ?_
    refine va_sld hx hb hX hbl hbA hw.2.2 (law_in hn hL 2 (by decide)) dL_law_491 ?_
    refine call_Fi (As := [.int (xs (nI (8 * n) + (1 : Int32)).toNatClampNeg), .int (xs (nI (8 * n) + (2 : Int32)).toNatClampNeg)]) F hkx hw hA (c_X8_of l D cy am μ _ _ _ h) (cwV 2 hts gA_X8_of rfl rfl rfl hd_X8_of ⟨Nat.le_of_ble_eq_true rfl, Nat.le_of_ble_eq_true rfl⟩) 0 8 rfl rfl rfl hl.1 rfl (Nat.le_of_ble_eq_true rfl) dL_law_492 (law_room1 hn hL) (fun r2 u2 H locs h hw => ?_)
    obtain ⟨ht3, hJ⟩ := h
    refine lv_istore (lv' := [(6, .int r2), (5, .int r), (4, .int (nI (8 * n))), (0, .ref b), (1, .ref (ad 0)), (2, .ref (am 0)), (3, .ref o)]) hx hb dL_law_495 hl (by decide) rfl (fun ls hl => ?_)
    refine lv_aload_n hx hb dL_law_497 rfl (lv_at hl 5 rfl) ?_
    refine call_Fi (As := []) F hkx hw hA (c_X8_thrown l D cy am u2 (fun r3 μ3 => r3 = u2 3 0 ∧ μ3 = u2) ⟨rfl, rfl⟩) (cwV 0 hts gA_X8_thrown rfl rfl rfl hd_X8_thrown ⟨Nat.le_of_ble_eq_true rfl, Nat.le_of_ble_eq_true rfl⟩) 0 8 rfl rfl rfl hl.1 rfl (Nat.le_of_ble_eq_true rfl) dL_law_498 (law_room1 hn hL) (fun r3 u3 H locs h3 hw => ?_)
    obtain ⟨e3, e4⟩ := h3
    rw [e4] at hw
    refine lv_iload hx hb dL_law_501 (lv_at hl 1 rfl) ?_
    refine lv_icmp_eq (tgt := 508) hx hb dL_law_503 (by decide) (fun _ => ?_) (fun g => absurd (by rw [e3, ht3, er]) g)
    refine lv_iload hx hb dL_law_508 (lv_at hl 1 rfl) ?_
    refine lv_if_ne (tgt := 525) hx hb dL_law_510 (by decide) (fun _ => ?_) (fun g => absurd (er.symm.trans g) (by decide))
    refine lv_goto (tgt := 770) hx hb dL_law_525 (by decide) ?_
    refine W.widen (k := 69 + (n + 1)) (n := 1451834 + 6 * (n + 1)) (by omega) (by omega) ?_
    exact k u.1 u.2.1 u.2.2.1 u.2.2.2 u2 H locs ls hw hJ (lv_sub hl [2, 3, 4, 5, 6] rfl)
set_option maxHeartbeats 4000000 in
set_option maxRecDepth 100000 in
theorem law_c9 (E : LE p l s m meth c b L xs D cy) {n : Nat} (hn : 8 * n + 8 ≤ L) (k : LG p l e s m below meth c b D cy ad am o (n + 1) n 770) : LG p l e s m below meth c b D cy ad am o n n 528 := by
  obtain ⟨⟨hx, hb, hr, hml, hown, hts, hX, hbl, hlocks, hgv⟩, hL, hst, hkx, hxk, hxz⟩ := E
  intro f κ σ τ μ H locs ls hw hJ hl
  have hA : ∀ q, s.heap.size ≤ q → lA s q := fun _ h => h
  have hbA : ¬ lA s b := Nat.not_le.mpr hbl
  have F : CallFix p m c cL_law 7 s #[Value.ref b] lw_tbl RL := ⟨hx, hb, hml, hown, hts⟩
  obtain ⟨B, hC, hM⟩ := hJ
  have hn1 : n + 1 < 2 ^ 31 := by omega
  replace hw := hw_rot hw
  refine lv_aload_n hx hb dL_law_528 rfl (lv_at hl 2 rfl) ?_
  refine lv_aload_n hx hb dL_law_529 rfl (lv_at hl 1 rfl) ?_
  refine lv_iload hx hb dL_law_530 (lv_at hl 0 rfl) ?_
  refine lv_iconst (v := 1) hx hb dL_law_532 (by decide) ?_
  refine lv_iadd hx hb dL_law_533 ?_
  refine va_sld hx hb hX hbl hbA hw.2.2 (law_in hn hL 1 (by decide)) dL_law_534 ?_
  refine lv_aload_n hx hb dL_law_535 rfl (lv_at hl 1 rfl) ?_
  refine lv_iload hx hb dL_law_536 (lv_at hl 0 rfl) ?_
  refine lv_iconst (v := 2) hx hb dL_law_538 (by decide) ?_
  refine lv_iadd hx hb dL_law_539 ?_
  refine va_sld hx hb hX hbl hbA hw.2.2 (law_in hn hL 2 (by decide)) dL_law_540 ?_
  refine call_Fi (As := [.int (xs (nI (8 * n) + (1 : Int32)).toNatClampNeg), .int (xs (nI (8 * n) + (2 : Int32)).toNatClampNeg)]) F hkx hw hA (c_X7_counter l D cy ad κ σ τ _ _ _ (J_counter hn1 hC hM (xs (nI (8 * n) + (1 : Int32)).toNatClampNeg) (xs (nI (8 * n) + (2 : Int32)).toNatClampNeg))) (cwV 2 hts gA_X7_counter rfl rfl rfl hd_X7_counter ⟨Nat.le_of_ble_eq_true rfl, Nat.le_of_ble_eq_true rfl⟩) 0 7 rfl rfl rfl hl.1 rfl (Nat.le_of_ble_eq_true rfl) dL_law_541 (law_room hn hL) (fun r u H locs h hw => ?_)
  replace hw := hw_tor hw
  refine lv_aload_n hx hb dL_law_544 rfl (lv_at hl 3 rfl) ?_
  refine lv_aload_n hx hb dL_law_545 rfl (lv_at hl 1 rfl) ?_
  refine lv_iload hx hb dL_law_546 (lv_at hl 0 rfl) ?_
  refine lv_iconst (v := 1) hx hb dL_law_548 (by decide) ?_
  refine lv_iadd hx hb dL_law_549 ?_
  refine va_sld hx hb hX hbl hbA hw.2.2 (law_in hn hL 1 (by decide)) dL_law_550 ?_
  refine lv_aload_n hx hb dL_law_551 rfl (lv_at hl 1 rfl) ?_
  refine lv_iload hx hb dL_law_552 (lv_at hl 0 rfl) ?_
  refine lv_iconst (v := 2) hx hb dL_law_554 (by decide) ?_
  refine lv_iadd hx hb dL_law_555 ?_
  refine va_sld hx hb hX hbl hbA hw.2.2 (law_in hn hL 2 (by decide)) dL_law_556 ?_
  refine call_Fi (As := [.int (xs (nI (8 * n) + (1 : Int32)).toNatClampNeg), .int (xs (nI (8 * n) + (2 : Int32)).toNatClampNeg)]) F hkx hw hA (c_X8_counter l D cy am μ _ _ _ h) (cwV 2 hts gA_X8_counter rfl rfl rfl hd_X8_counter ⟨Nat.le_of_ble_eq_true rfl, Nat.le_of_ble_eq_true rfl⟩) 0 8 rfl rfl rfl hl.1 rfl (Nat.le_of_ble_eq_true rfl) dL_law_557 (law_room hn hL) (fun r2 u2 H locs h hw => ?_)
  obtain ⟨hr2, hJ⟩ := h
  refine lv_icmp_eq (tgt := 770) hx hb dL_law_560 (by decide) (fun _ => ?_) (fun g => absurd hr2 g)
  refine W.widen (k := 69 + (n + 1)) (n := 1451834 + 6 * (n + 1)) (by omega) (by omega) ?_
  exact k f u.1 u.2.1 u.2.2 u2 H locs ls hw hJ hl
set_option maxHeartbeats 4000000 in
set_option maxRecDepth 100000 in
theorem law_c10 (E : LE p l s m meth c b L xs D cy) {n : Nat} (hn : 8 * n + 8 ≤ L) (k : LG p l e s m below meth c b D cy ad am o (n + 1) n 770) : LG p l e s m below meth c b D cy ad am o n n 565 := by
  obtain ⟨⟨hx, hb, hr, hml, hown, hts, hX, hbl, hlocks, hgv⟩, hL, hst, hkx, hxk, hxz⟩ := E
  intro f κ σ τ μ H locs ls hw hJ hl
  have hA : ∀ q, s.heap.size ≤ q → lA s q := fun _ h => h
  have hbA : ¬ lA s b := Nat.not_le.mpr hbl
  have F : CallFix p m c cL_law 7 s #[Value.ref b] lw_tbl RL := ⟨hx, hb, hml, hown, hts⟩
  obtain ⟨B, hC, hM⟩ := hJ
  have hn1 : n + 1 < 2 ^ 31 := by omega
  replace hw := hw_rot hw
  refine lv_aload_n hx hb dL_law_565 rfl (lv_at hl 2 rfl) ?_
  refine lv_aload_n hx hb dL_law_566 rfl (lv_at hl 1 rfl) ?_
  refine lv_iload hx hb dL_law_567 (lv_at hl 0 rfl) ?_
  refine lv_iconst (v := 1) hx hb dL_law_569 (by decide) ?_
  refine lv_iadd hx hb dL_law_570 ?_
  refine va_sld hx hb hX hbl hbA hw.2.2 (law_in hn hL 1 (by decide)) dL_law_571 ?_
  refine lv_aload_n hx hb dL_law_572 rfl (lv_at hl 1 rfl) ?_
  refine lv_iload hx hb dL_law_573 (lv_at hl 0 rfl) ?_
  refine lv_iconst (v := 2) hx hb dL_law_575 (by decide) ?_
  refine lv_iadd hx hb dL_law_576 ?_
  refine va_sld hx hb hX hbl hbA hw.2.2 (law_in hn hL 2 (by decide)) dL_law_577 ?_
  refine lv_aload_n hx hb dL_law_578 rfl (lv_at hl 1 rfl) ?_
  refine lv_iload hx hb dL_law_579 (lv_at hl 0 rfl) ?_
  refine lv_iconst (v := 3) hx hb dL_law_581 (by decide) ?_
  refine lv_iadd hx hb dL_law_582 ?_
  refine va_sld hx hb hX hbl hbA hw.2.2 (law_in hn hL 3 (by decide)) dL_law_583 ?_
  refine lv_aload_n hx hb dL_law_584 rfl (lv_at hl 1 rfl) ?_
  refine lv_iload hx hb dL_law_585 (lv_at hl 0 rfl) ?_
  refine lv_iconst (v := 4) hx hb dL_law_587 (by decide) ?_
  refine lv_iadd hx hb dL_law_588 ?_
  refine va_sld hx hb hX hbl hbA hw.2.2 (law_in hn hL 4 (by decide)) dL_law_589 ?_
  refine call_Fi (As := [.int (xs (nI (8 * n) + (1 : Int32)).toNatClampNeg), .int (xs (nI (8 * n) + (2 : Int32)).toNatClampNeg), .int (xs (nI (8 * n) + (3 : Int32)).toNatClampNeg), .int (xs (nI (8 * n) + (4 : Int32)).toNatClampNeg)]) F hkx hw hA (c_X7_entry l D cy ad κ σ τ _ _ _ _ _ (J_entry hC hM (xs (nI (8 * n) + (1 : Int32)).toNatClampNeg) (xs (nI (8 * n) + (2 : Int32)).toNatClampNeg) (xs (nI (8 * n) + (3 : Int32)).toNatClampNeg) (xs (nI (8 * n) + (4 : Int32)).toNatClampNeg))) (cwV 4 hts gA_X7_entry rfl rfl rfl hd_X7_entry ⟨Nat.le_of_ble_eq_true rfl, Nat.le_of_ble_eq_true rfl⟩) 0 7 rfl rfl rfl hl.1 rfl (Nat.le_of_ble_eq_true rfl) dL_law_590 (law_room hn hL) (fun r u H locs h hw => ?_)
  replace hw := hw_tor hw
  refine lv_aload_n hx hb dL_law_593 rfl (lv_at hl 3 rfl) ?_
  refine lv_aload_n hx hb dL_law_594 rfl (lv_at hl 1 rfl) ?_
  refine lv_iload hx hb dL_law_595 (lv_at hl 0 rfl) ?_
  refine lv_iconst (v := 1) hx hb dL_law_597 (by decide) ?_
  refine lv_iadd hx hb dL_law_598 ?_
  refine va_sld hx hb hX hbl hbA hw.2.2 (law_in hn hL 1 (by decide)) dL_law_599 ?_
  refine lv_aload_n hx hb dL_law_600 rfl (lv_at hl 1 rfl) ?_
  refine lv_iload hx hb dL_law_601 (lv_at hl 0 rfl) ?_
  refine lv_iconst (v := 2) hx hb dL_law_603 (by decide) ?_
  refine lv_iadd hx hb dL_law_604 ?_
  refine va_sld hx hb hX hbl hbA hw.2.2 (law_in hn hL 2 (by decide)) dL_law_605 ?_
  refine lv_aload_n hx hb dL_law_606 rfl (lv_at hl 1 rfl) ?_
  refine lv_iload hx hb dL_law_607 (lv_at hl 0 rfl) ?_
  refine lv_iconst (v := 3) hx hb dL_law_609 (by decide) ?_
  refine lv_iadd hx hb dL_law_610 ?_
  refine va_sld hx hb hX hbl hbA hw.2.2 (law_in hn hL 3 (by decide)) dL_law_611 ?_
  refine lv_aload_n hx hb dL_law_612 rfl (lv_at hl 1 rfl) ?_
  refine lv_iload hx hb dL_law_613 (lv_at hl 0 rfl) ?_
  refine lv_iconst (v := 4) hx hb dL_law_615 (by decide) ?_
  refine lv_iadd hx hb dL_law_616 ?_
  refine va_sld hx hb hX hbl hbA hw.2.2 (law_in hn hL 4 (by decide)) dL_law_617 ?_
  refine call_Fi (As := [.int (xs (nI (8 * n) + (1 : Int32)).toNatClampNeg), .int (xs (nI (8 * n) + (2 : Int32)).toNatClampNeg), .int (xs (nI (8 * n) + (3 : Int32)).toNatClampNeg), .int (xs (nI (8 * n) + (4 : Int32)).toNatClampNeg)]) F hkx hw hA (c_X8_entry l D cy am μ _ _ _ _ _ h) (cwV 4 hts gA_X8_entry rfl rfl rfl hd_X8_entry ⟨Nat.le_of_ble_eq_true rfl, Nat.le_of_ble_eq_true rfl⟩) 0 8 rfl rfl rfl hl.1 rfl (Nat.le_of_ble_eq_true rfl) dL_law_618 (law_room hn hL) (fun r2 u2 H locs h hw => ?_)
  obtain ⟨hr2, hJ⟩ := h
  refine lv_icmp_eq (tgt := 770) hx hb dL_law_621 (by decide) (fun _ => ?_) (fun g => absurd hr2 g)
  refine W.widen (k := 69 + (n + 1)) (n := 1451834 + 6 * (n + 1)) (by omega) (by omega) ?_
  exact k f u.1 u.2.1 u.2.2 u2 H locs ls hw hJ hl
set_option maxHeartbeats 4000000 in
set_option maxRecDepth 100000 in
theorem law_c11 (E : LE p l s m meth c b L xs D cy) {n : Nat} (hn : 8 * n + 8 ≤ L) (k : LG p l e s m below meth c b D cy ad am o (n + 1) n 770) : LG p l e s m below meth c b D cy ad am o n n 626 := by
  obtain ⟨⟨hx, hb, hr, hml, hown, hts, hX, hbl, hlocks, hgv⟩, hL, hst, hkx, hxk, hxz⟩ := E
  intro f κ σ τ μ H locs ls hw hJ hl
  have hA : ∀ q, s.heap.size ≤ q → lA s q := fun _ h => h
  have hbA : ¬ lA s b := Nat.not_le.mpr hbl
  have F : CallFix p m c cL_law 7 s #[Value.ref b] lw_tbl RL := ⟨hx, hb, hml, hown, hts⟩
  obtain ⟨B, hC, hM⟩ := hJ
  have hn1 : n + 1 < 2 ^ 31 := by omega
  replace hw := hw_rot hw
  refine lv_aload_n hx hb dL_law_626 rfl (lv_at hl 2 rfl) ?_
  refine call_Fi (As := []) F hkx hw hA (c_X7_clear l D cy ad κ σ τ  _ (J_clear hC hM )) (cwV 0 hts gA_X7_clear rfl rfl rfl hd_X7_clear ⟨Nat.le_of_ble_eq_true rfl, Nat.le_of_ble_eq_true rfl⟩) 0 7 rfl rfl rfl hl.1 rfl (Nat.le_of_ble_eq_true rfl) dL_law_627 (law_room hn hL) (fun r u H locs h hw => ?_)
  replace hw := hw_tor hw
  refine lv_aload_n hx hb dL_law_630 rfl (lv_at hl 3 rfl) ?_
  refine call_Fi (As := []) F hkx hw hA (c_X8_clear l D cy am μ  _ h) (cwV 0 hts gA_X8_clear rfl rfl rfl hd_X8_clear ⟨Nat.le_of_ble_eq_true rfl, Nat.le_of_ble_eq_true rfl⟩) 0 8 rfl rfl rfl hl.1 rfl (Nat.le_of_ble_eq_true rfl) dL_law_631 (law_room hn hL) (fun r2 u2 H locs h hw => ?_)
  obtain ⟨hr2, hJ⟩ := h
  refine lv_icmp_eq (tgt := 770) hx hb dL_law_634 (by decide) (fun _ => ?_) (fun g => absurd hr2 g)
  refine W.widen (k := 69 + (n + 1)) (n := 1451834 + 6 * (n + 1)) (by omega) (by omega) ?_
  exact k f u.1 u.2.1 u.2.2 u2 H locs ls hw hJ hl
set_option maxHeartbeats 4000000 in
set_option maxRecDepth 100000 in
theorem law_c12 (E : LE p l s m meth c b L xs D cy) {n : Nat} (hn : 8 * n + 8 ≤ L) (k : LG p l e s m below meth c b D cy ad am o (n + 1) n 770) : LG p l e s m below meth c b D cy ad am o n n 639 := by
  obtain ⟨⟨hx, hb, hr, hml, hown, hts, hX, hbl, hlocks, hgv⟩, hL, hst, hkx, hxk, hxz⟩ := E
  intro f κ σ τ μ H locs ls hw hJ hl
  have hA : ∀ q, s.heap.size ≤ q → lA s q := fun _ h => h
  have hbA : ¬ lA s b := Nat.not_le.mpr hbl
  have F : CallFix p m c cL_law 7 s #[Value.ref b] lw_tbl RL := ⟨hx, hb, hml, hown, hts⟩
  obtain ⟨B, hC, hM⟩ := hJ
  have hn1 : n + 1 < 2 ^ 31 := by omega
  replace hw := hw_rot hw
  refine lv_aload_n hx hb dL_law_639 rfl (lv_at hl 2 rfl) ?_
  refine lv_aload_n hx hb dL_law_640 rfl (lv_at hl 1 rfl) ?_
  refine lv_iload hx hb dL_law_641 (lv_at hl 0 rfl) ?_
  refine lv_iconst (v := 1) hx hb dL_law_643 (by decide) ?_
  refine lv_iadd hx hb dL_law_644 ?_
  refine va_sld hx hb hX hbl hbA hw.2.2 (law_in hn hL 1 (by decide)) dL_law_645 ?_
  refine call_Fi (As := [.int (xs (nI (8 * n) + (1 : Int32)).toNatClampNeg)]) F hkx hw hA (c_X7_partner l D cy ad κ σ τ _ _ (J_partner hn1 hC hM (xs (nI (8 * n) + (1 : Int32)).toNatClampNeg))) (cwV 1 hts gA_X7_partner rfl rfl rfl hd_X7_partner ⟨Nat.le_of_ble_eq_true rfl, Nat.le_of_ble_eq_true rfl⟩) 0 7 rfl rfl rfl hl.1 rfl (Nat.le_of_ble_eq_true rfl) dL_law_646 (law_room hn hL) (fun r u H locs h hw => ?_)
  replace hw := hw_tor hw
  refine lv_aload_n hx hb dL_law_649 rfl (lv_at hl 3 rfl) ?_
  refine lv_aload_n hx hb dL_law_650 rfl (lv_at hl 1 rfl) ?_
  refine lv_iload hx hb dL_law_651 (lv_at hl 0 rfl) ?_
  refine lv_iconst (v := 1) hx hb dL_law_653 (by decide) ?_
  refine lv_iadd hx hb dL_law_654 ?_
  refine va_sld hx hb hX hbl hbA hw.2.2 (law_in hn hL 1 (by decide)) dL_law_655 ?_
  refine call_Fi (As := [.int (xs (nI (8 * n) + (1 : Int32)).toNatClampNeg)]) F hkx hw hA (c_X8_partner l D cy am μ _ _ h) (cwV 1 hts gA_X8_partner rfl rfl rfl hd_X8_partner ⟨Nat.le_of_ble_eq_true rfl, Nat.le_of_ble_eq_true rfl⟩) 0 8 rfl rfl rfl hl.1 rfl (Nat.le_of_ble_eq_true rfl) dL_law_656 (law_room hn hL) (fun r2 u2 H locs h hw => ?_)
  obtain ⟨hr2, hJ⟩ := h
  refine lv_icmp_eq (tgt := 770) hx hb dL_law_659 (by decide) (fun _ => ?_) (fun g => absurd hr2 g)
  refine W.widen (k := 69 + (n + 1)) (n := 1451834 + 6 * (n + 1)) (by omega) (by omega) ?_
  exact k f u.1 u.2.1 u.2.2 u2 H locs ls hw hJ hl
set_option maxHeartbeats 4000000 in
set_option maxRecDepth 100000 in
theorem law_c13 (E : LE p l s m meth c b L xs D cy) {n : Nat} (hn : 8 * n + 8 ≤ L) (k : LG p l e s m below meth c b D cy ad am o (n + 1) n 770) : LG p l e s m below meth c b D cy ad am o n n 664 := by
  obtain ⟨⟨hx, hb, hr, hml, hown, hts, hX, hbl, hlocks, hgv⟩, hL, hst, hkx, hxk, hxz⟩ := E
  intro f κ σ τ μ H locs ls hw hJ hl
  have hA : ∀ q, s.heap.size ≤ q → lA s q := fun _ h => h
  have hbA : ¬ lA s b := Nat.not_le.mpr hbl
  have F : CallFix p m c cL_law 7 s #[Value.ref b] lw_tbl RL := ⟨hx, hb, hml, hown, hts⟩
  obtain ⟨B, hC, hM⟩ := hJ
  have hn1 : n + 1 < 2 ^ 31 := by omega
  replace hw := hw_comm hw
  refine lv_aload_n hx hb dL_law_664 rfl (lv_at hl 2 rfl) ?_
  refine lv_aload_n hx hb dL_law_665 rfl (lv_at hl 1 rfl) ?_
  refine lv_iload hx hb dL_law_666 (lv_at hl 0 rfl) ?_
  refine lv_iconst (v := 1) hx hb dL_law_668 (by decide) ?_
  refine lv_iadd hx hb dL_law_669 ?_
  refine va_sld hx hb hX hbl hbA hw.2.2 (law_in hn hL 1 (by decide)) dL_law_670 ?_
  refine lv_aload_n hx hb dL_law_671 rfl (lv_at hl 4 rfl) ?_
  refine call_SW (As := [.ref (ad 0), .int (xs (nI (8 * n) + (1 : Int32)).toNatClampNeg), .ref o]) F hkx hxk hxz hw hA (c_L_shift l hst D cy ad κ o f σ τ _ _ _ (J_shift hn1 hC hM (xs (nI (8 * n) + (1 : Int32)).toNatClampNeg))) (vx_cwSW 3 hts gA_L_shift rfl rfl rfl hd_L_shift ⟨Nat.le_of_ble_eq_true rfl, Nat.le_of_ble_eq_true rfl⟩) rfl hl.1 rfl (Nat.le_of_ble_eq_true rfl) dL_law_672 (law_room1 hn hL) (fun r u H locs h hw => ?_)
  replace hw := hw_comm hw
  refine lv_istore (lv' := [(5, .int r), (4, .int (nI (8 * n))), (0, .ref b), (1, .ref (ad 0)), (2, .ref (am 0)), (3, .ref o)]) hx hb dL_law_675 hl (by decide) rfl (fun ls hl => ?_)
  rcases h with ⟨er, v, ev, h⟩ | ⟨er, h⟩
  · refine lv_aload_n hx hb dL_law_677 rfl (lv_at hl 4 rfl) ?_
    refine lv_aload_n hx hb dL_law_678 rfl (lv_at hl 2 rfl) ?_
    refine lv_iload hx hb dL_law_679 (lv_at hl 1 rfl) ?_
    refine lv_iconst (v := 1) hx hb dL_law_681 (by decide) ?_
    refine lv_iadd hx hb dL_law_682 ?_
    refine va_sld hx hb hX hbl hbA hw.2.2 (law_in hn hL 1 (by decide)) dL_law_683 ?_
    refine call_Fi (As := [.int (xs (nI (8 * n) + (1 : Int32)).toNatClampNeg)]) F hkx hw hA (c_X8_shift l D cy am μ _ _ h) (cwV 1 hts gA_X8_shift rfl rfl rfl hd_X8_shift ⟨Nat.le_of_ble_eq_true rfl, Nat.le_of_ble_eq_true rfl⟩) 0 8 rfl rfl rfl hl.1 rfl (Nat.le_of_ble_eq_true rfl) dL_law_684 (law_room1 hn hL) (fun r2 u2 H locs h hw => ?_)
    obtain ⟨hr2, ht3, hJ⟩ := h
    refine lv_istore (lv' := [(6, .int r2), (5, .int r), (4, .int (nI (8 * n))), (0, .ref b), (1, .ref (ad 0)), (2, .ref (am 0)), (3, .ref o)]) hx hb dL_law_687 hl (by decide) rfl (fun ls hl => ?_)
    refine lv_aload_n hx hb dL_law_689 rfl (lv_at hl 5 rfl) ?_
    refine call_Fi (As := []) F hkx hw hA (c_X8_thrown l D cy am u2 (fun r3 μ3 => r3 = u2 3 0 ∧ μ3 = u2) ⟨rfl, rfl⟩) (cwV 0 hts gA_X8_thrown rfl rfl rfl hd_X8_thrown ⟨Nat.le_of_ble_eq_true rfl, Nat.le_of_ble_eq_true rfl⟩) 0 8 rfl rfl rfl hl.1 rfl (Nat.le_of_ble_eq_true rfl) dL_law_690 (law_room1 hn hL) (fun r3 u3 H locs h3 hw => ?_)
    obtain ⟨e3, e4⟩ := h3
    rw [e4] at hw
    refine lv_iload hx hb dL_law_693 (lv_at hl 1 rfl) ?_
    refine lv_icmp_eq (tgt := 700) hx hb dL_law_695 (by decide) (fun _ => ?_) (fun g => absurd (by rw [e3, ht3, er]) g)
    refine lv_iload hx hb dL_law_700 (lv_at hl 1 rfl) ?_
    refine lv_if_ne (tgt := 717) hx hb dL_law_702 (by decide) (fun g => absurd er g) (fun _ => ?_)
    refine lv_aload_n hx hb dL_law_705 rfl (lv_at hl 6 rfl) ?_
    refine lv_iconst (v := 0) hx hb dL_law_706 (by decide) ?_
    refine va_lald (i := 0) hx hb hkx.1 hw.1 0 1 rfl rfl (by unfold vp_in; decide) dL_law_707 ?_
    refine lv_iload hx hb dL_law_708 (lv_at hl 0 rfl) ?_
    refine lv_i2l hx hb dL_law_710 rfl ?_
    refine W.lcmp hx hb dL_law_711 ?_
    refine lv_if_eq (tgt := 717) hx hb dL_law_712 (by decide) (fun _ => ?_) (fun g => absurd (by rw [cl0, ev, hr2]; exact cmp_same _) g)
    refine lv_goto (tgt := 770) hx hb dL_law_717 (by decide) ?_
    refine W.widen (k := 69 + (n + 1)) (n := 1451834 + 6 * (n + 1)) (by omega) (by omega) ?_
    exact k u.1 u.2.1 u.2.2.1 u.2.2.2 u2 H locs ls hw hJ (lv_sub hl [2, 3, 4, 5, 6] rfl)
  · refine lv_aload_n hx hb dL_law_677 rfl (lv_at hl 4 rfl) ?_
    refine lv_aload_n hx hb dL_law_678 rfl (lv_at hl 2 rfl) ?_
    refine lv_iload hx hb dL_law_679 (lv_at hl 1 rfl) ?_
    refine lv_iconst (v := 1) hx hb dL_law_681 (by decide) ?_
    refine lv_iadd hx hb dL_law_682 ?_
    refine va_sld hx hb hX hbl hbA hw.2.2 (law_in hn hL 1 (by decide)) dL_law_683 ?_
    refine call_Fi (As := [.int (xs (nI (8 * n) + (1 : Int32)).toNatClampNeg)]) F hkx hw hA (c_X8_shift l D cy am μ _ _ h) (cwV 1 hts gA_X8_shift rfl rfl rfl hd_X8_shift ⟨Nat.le_of_ble_eq_true rfl, Nat.le_of_ble_eq_true rfl⟩) 0 8 rfl rfl rfl hl.1 rfl (Nat.le_of_ble_eq_true rfl) dL_law_684 (law_room1 hn hL) (fun r2 u2 H locs h hw => ?_)
    obtain ⟨ht3, hJ⟩ := h
    refine lv_istore (lv' := [(6, .int r2), (5, .int r), (4, .int (nI (8 * n))), (0, .ref b), (1, .ref (ad 0)), (2, .ref (am 0)), (3, .ref o)]) hx hb dL_law_687 hl (by decide) rfl (fun ls hl => ?_)
    refine lv_aload_n hx hb dL_law_689 rfl (lv_at hl 5 rfl) ?_
    refine call_Fi (As := []) F hkx hw hA (c_X8_thrown l D cy am u2 (fun r3 μ3 => r3 = u2 3 0 ∧ μ3 = u2) ⟨rfl, rfl⟩) (cwV 0 hts gA_X8_thrown rfl rfl rfl hd_X8_thrown ⟨Nat.le_of_ble_eq_true rfl, Nat.le_of_ble_eq_true rfl⟩) 0 8 rfl rfl rfl hl.1 rfl (Nat.le_of_ble_eq_true rfl) dL_law_690 (law_room1 hn hL) (fun r3 u3 H locs h3 hw => ?_)
    obtain ⟨e3, e4⟩ := h3
    rw [e4] at hw
    refine lv_iload hx hb dL_law_693 (lv_at hl 1 rfl) ?_
    refine lv_icmp_eq (tgt := 700) hx hb dL_law_695 (by decide) (fun _ => ?_) (fun g => absurd (by rw [e3, ht3, er]) g)
    refine lv_iload hx hb dL_law_700 (lv_at hl 1 rfl) ?_
    refine lv_if_ne (tgt := 717) hx hb dL_law_702 (by decide) (fun _ => ?_) (fun g => absurd (er.symm.trans g) (by decide))
    refine lv_goto (tgt := 770) hx hb dL_law_717 (by decide) ?_
    refine W.widen (k := 69 + (n + 1)) (n := 1451834 + 6 * (n + 1)) (by omega) (by omega) ?_
    exact k u.1 u.2.1 u.2.2.1 u.2.2.2 u2 H locs ls hw hJ (lv_sub hl [2, 3, 4, 5, 6] rfl)
set_option maxHeartbeats 4000000 in
set_option maxRecDepth 100000 in
theorem law_c14 (E : LE p l s m meth c b L xs D cy) {n : Nat} (hn : 8 * n + 8 ≤ L) (k : LG p l e s m below meth c b D cy ad am o (n + 1) n 770) : LG p l e s m below meth c b D cy ad am o n n 720 := by
  obtain ⟨⟨hx, hb, hr, hml, hown, hts, hX, hbl, hlocks, hgv⟩, hL, hst, hkx, hxk, hxz⟩ := E
  intro f κ σ τ μ H locs ls hw hJ hl
  have hA : ∀ q, s.heap.size ≤ q → lA s q := fun _ h => h
  have hbA : ¬ lA s b := Nat.not_le.mpr hbl
  have F : CallFix p m c cL_law 7 s #[Value.ref b] lw_tbl RL := ⟨hx, hb, hml, hown, hts⟩
  obtain ⟨B, hC, hM⟩ := hJ
  have hn1 : n + 1 < 2 ^ 31 := by omega
  replace hw := hw_rot hw
  refine lv_aload_n hx hb dL_law_720 rfl (lv_at hl 2 rfl) ?_
  refine lv_aload_n hx hb dL_law_721 rfl (lv_at hl 1 rfl) ?_
  refine lv_iload hx hb dL_law_722 (lv_at hl 0 rfl) ?_
  refine lv_iconst (v := 1) hx hb dL_law_724 (by decide) ?_
  refine lv_iadd hx hb dL_law_725 ?_
  refine va_sld hx hb hX hbl hbA hw.2.2 (law_in hn hL 1 (by decide)) dL_law_726 ?_
  refine call_Fi (As := [.int (xs (nI (8 * n) + (1 : Int32)).toNatClampNeg)]) F hkx hw hA (c_X7_span l D cy ad κ σ τ _ _ (J_span hn1 hC hM (xs (nI (8 * n) + (1 : Int32)).toNatClampNeg))) (cwV 1 hts gA_X7_span rfl rfl rfl hd_X7_span ⟨Nat.le_of_ble_eq_true rfl, Nat.le_of_ble_eq_true rfl⟩) 0 7 rfl rfl rfl hl.1 rfl (Nat.le_of_ble_eq_true rfl) dL_law_727 (law_room hn hL) (fun r u H locs h hw => ?_)
  replace hw := hw_tor hw
  refine lv_aload_n hx hb dL_law_730 rfl (lv_at hl 3 rfl) ?_
  refine lv_aload_n hx hb dL_law_731 rfl (lv_at hl 1 rfl) ?_
  refine lv_iload hx hb dL_law_732 (lv_at hl 0 rfl) ?_
  refine lv_iconst (v := 1) hx hb dL_law_734 (by decide) ?_
  refine lv_iadd hx hb dL_law_735 ?_
  refine va_sld hx hb hX hbl hbA hw.2.2 (law_in hn hL 1 (by decide)) dL_law_736 ?_
  refine call_Fi (As := [.int (xs (nI (8 * n) + (1 : Int32)).toNatClampNeg)]) F hkx hw hA (c_X8_span l D cy am μ _ _ h) (cwV 1 hts gA_X8_span rfl rfl rfl hd_X8_span ⟨Nat.le_of_ble_eq_true rfl, Nat.le_of_ble_eq_true rfl⟩) 0 8 rfl rfl rfl hl.1 rfl (Nat.le_of_ble_eq_true rfl) dL_law_737 (law_room hn hL) (fun r2 u2 H locs h hw => ?_)
  obtain ⟨hr2, hJ⟩ := h
  refine lv_icmp_eq (tgt := 770) hx hb dL_law_740 (by decide) (fun _ => ?_) (fun g => absurd hr2 g)
  refine W.widen (k := 69 + (n + 1)) (n := 1451834 + 6 * (n + 1)) (by omega) (by omega) ?_
  exact k f u.1 u.2.1 u.2.2 u2 H locs ls hw hJ hl
set_option maxHeartbeats 4000000 in
set_option maxRecDepth 100000 in
theorem law_c15 (E : LE p l s m meth c b L xs D cy) {n : Nat} (hn : 8 * n + 8 ≤ L) (k : LG p l e s m below meth c b D cy ad am o (n + 1) n 770) : LG p l e s m below meth c b D cy ad am o n n 745 := by
  obtain ⟨⟨hx, hb, hr, hml, hown, hts, hX, hbl, hlocks, hgv⟩, hL, hst, hkx, hxk, hxz⟩ := E
  intro f κ σ τ μ H locs ls hw hJ hl
  have hA : ∀ q, s.heap.size ≤ q → lA s q := fun _ h => h
  have hbA : ¬ lA s b := Nat.not_le.mpr hbl
  have F : CallFix p m c cL_law 7 s #[Value.ref b] lw_tbl RL := ⟨hx, hb, hml, hown, hts⟩
  obtain ⟨B, hC, hM⟩ := hJ
  have hn1 : n + 1 < 2 ^ 31 := by omega
  replace hw := hw_rot hw
  refine lv_aload_n hx hb dL_law_745 rfl (lv_at hl 2 rfl) ?_
  refine lv_aload_n hx hb dL_law_746 rfl (lv_at hl 1 rfl) ?_
  refine lv_iload hx hb dL_law_747 (lv_at hl 0 rfl) ?_
  refine lv_iconst (v := 1) hx hb dL_law_749 (by decide) ?_
  refine lv_iadd hx hb dL_law_750 ?_
  refine va_sld hx hb hX hbl hbA hw.2.2 (law_in hn hL 1 (by decide)) dL_law_751 ?_
  refine call_Fi (As := [.int (xs (nI (8 * n) + (1 : Int32)).toNatClampNeg)]) F hkx hw hA (c_X7_wrong l D cy ad κ σ τ _ _ (J_wrong hn1 hC hM (xs (nI (8 * n) + (1 : Int32)).toNatClampNeg))) (cwV 1 hts gA_X7_wrong rfl rfl rfl hd_X7_wrong ⟨Nat.le_of_ble_eq_true rfl, Nat.le_of_ble_eq_true rfl⟩) 0 7 rfl rfl rfl hl.1 rfl (Nat.le_of_ble_eq_true rfl) dL_law_752 (law_room hn hL) (fun r u H locs h hw => ?_)
  replace hw := hw_tor hw
  refine lv_aload_n hx hb dL_law_755 rfl (lv_at hl 3 rfl) ?_
  refine lv_aload_n hx hb dL_law_756 rfl (lv_at hl 1 rfl) ?_
  refine lv_iload hx hb dL_law_757 (lv_at hl 0 rfl) ?_
  refine lv_iconst (v := 1) hx hb dL_law_759 (by decide) ?_
  refine lv_iadd hx hb dL_law_760 ?_
  refine va_sld hx hb hX hbl hbA hw.2.2 (law_in hn hL 1 (by decide)) dL_law_761 ?_
  refine call_Fi (As := [.int (xs (nI (8 * n) + (1 : Int32)).toNatClampNeg)]) F hkx hw hA (c_X8_wrong l D cy am μ _ _ h) (cwV 1 hts gA_X8_wrong rfl rfl rfl hd_X8_wrong ⟨Nat.le_of_ble_eq_true rfl, Nat.le_of_ble_eq_true rfl⟩) 0 8 rfl rfl rfl hl.1 rfl (Nat.le_of_ble_eq_true rfl) dL_law_762 (law_room hn hL) (fun r2 u2 H locs h hw => ?_)
  obtain ⟨hr2, hJ⟩ := h
  refine lv_icmp_eq (tgt := 770) hx hb dL_law_765 (by decide) (fun _ => ?_) (fun g => absurd hr2 g)
  refine W.widen (k := 69 + (n + 1)) (n := 1451834 + 6 * (n + 1)) (by omega) (by omega) ?_
  exact k f u.1 u.2.1 u.2.2 u2 H locs ls hw hJ hl
end
