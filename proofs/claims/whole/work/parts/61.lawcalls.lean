/-! ### the law: its script, and its calls -/
def lawP (L : Nat) (xs : Nat → Int32) : Pst := fun s A q => va_X q L xs s s.heap ∧ q < s.heap.size ∧ ¬ A q
abbrev lawZ : Zt := fun r _ _ _ => r = some (.int (nI 1))
section LawRules
variable {mi : MI} {L : Nat} {xs : Nat → Int32} {Z : Zt} {MC MS : Nat} {pc pc' : Nat} {Lc : List (Nat × Value)} {st : List Value} {w : Wd} {nc ns : Nat}
theorem aw_sldN {j : Nat} (d : Dc mi pc .iaload 1 pc') (hj : j < L) (hL : L < 2 ^ 31) (kk : AW mi (lawP L xs) Z MC MS pc' Lc (.int (xs j) :: st) w nc ns) : AW mi (lawP L xs) Z MC MS pc Lc (.int (nI j) :: .ref 8 :: st) w nc ns := by
  obtain ⟨d, rfl⟩ := d
  intro l p e s m args below meth c Q D dA A w0 ad0 C0 R ad H locs ls h
  have k0 := kk l p e s m args below meth c Q D dA A w0 ad0 C0 R ad H locs ls ⟨h.1, h.2.1, h.2.2.1, h.2.2.2.1, h.2.2.2.2.1, h.2.2.2.2.2.1, h.2.2.2.2.2.2.1, ok01 okI (ok1 (ok1 h.2.2.2.2.2.2.2.1)), h.2.2.2.2.2.2.2.2⟩
  refine va_sld C0.1 C0.2.1 h.1.1 h.1.2.1 h.1.2.2 h.2.2.2.2.1 (vp_in_nI hj hL) d ?_
  rw [nI_clamp (by omega)]
  exact k0
theorem aw_slen (d : Dc mi pc .arraylength 1 pc') (kk : AW mi (lawP L xs) Z MC MS pc' Lc (.int (nI L) :: st) w nc ns) : AW mi (lawP L xs) Z MC MS pc Lc (.ref 8 :: st) w nc ns := by
  obtain ⟨d, rfl⟩ := d
  intro l p e s m args below meth c Q D dA A w0 ad0 C0 R ad H locs ls h
  have k0 := kk l p e s m args below meth c Q D dA A w0 ad0 C0 R ad H locs ls ⟨h.1, h.2.1, h.2.2.1, h.2.2.2.1, h.2.2.2.2.1, h.2.2.2.2.2.1, h.2.2.2.2.2.2.1, ok01 okI (ok1 h.2.2.2.2.2.2.2.1), h.2.2.2.2.2.2.2.2⟩
  exact va_slen C0.1 C0.2.1 h.1.1 h.1.2.1 h.1.2.2 h.2.2.2.2.1 d k0
end LawRules
theorem LI.look {w : Wd} (h : LI w) : ∃ fs, look w 0 = some (.inr (5, fs)) := by
  obtain ⟨n, b, tc, fl, la, zs, cs, mo, ⟨ch, bn, c, pd, st, fa, o, be, pc, le, sz, wt, qu, kc, tw, mk, ru, ol, re, ms, sp, dy, rfl, _⟩, _⟩ := h
  exact ⟨_, rfl⟩
theorem nI_self (x : Int32) : x = nI x.toBitVec.toNat := by
  apply Int32.toBitVec_inj.mp
  show x.toBitVec = BitVec.ofNat 32 x.toBitVec.toNat
  simp
theorem and31 (x : Int32) : ∃ j, j < 32 ∧ x &&& nI 31 = nI j := by
  refine ⟨x.toBitVec.toNat % 2 ^ 5, Nat.mod_lt _ (by decide), ?_⟩
  conv => lhs; rw [nI_self x]
  exact fa_mask _ 5
section LawCalls
variable {L : Nat} {xs : Nat → Int32} {i : Nat} {w : Wd} {nc ns : Nat}
/-- what comes behind a call -/
def Go (L : Nat) (xs : Nat → Int32) (i nc ns : Nat) : Prop := ∀ (w' : Wd) (nc' ns' : Nat), LI w' → nc' ≤ nc + 1 → ns' ≤ ns + 4096 → AW M_law_law (lawP L xs) lawZ 600000 7302250 1176 [(0, .ref 8), (1, .ref 0), (2, .ref 6), (3, .int (nI i))] [] w' nc' ns'
theorem lc_length (hi : i + 6 ≤ L) (hL : L ≤ 3072) (hI : LI w) (hc : nc + 1 ≤ 600000) (hs : ns + 4096 ≤ 7302250) (hg : Go L xs i nc ns) : AW M_law_law (lawP L xs) lawZ 600000 7302250 172 [(0, .ref 8), (1, .ref 0), (2, .ref 6), (3, .int (nI i))] [] w nc ns := by
  obtain ⟨fs0, h0⟩ := hI.look
  refine aw_aload_n 1 D_law_law_172 rfl rfl ?_
  refine aw_aload_n 0 D_law_law_173 rfl rfl ?_
  refine aw_iload_n 3 D_law_law_174 rfl rfl ?_
  refine aw_iconst (nI 1) D_law_law_175 rfl ?_
  first | with_reducible refine aw_iaddN D_law_law_176 ?_ | refine aw_iadd D_law_law_176 ?_
  refine aw_sldN D_law_law_177 (by omega) (by omega) ?_
  refine aw_callV (As := [_]) D_law_law_178 kv_br_length (pr_length hI (xs (i + 1))) rfl rfl (h0) rfl rfl (Nat.le_of_ble_eq_true rfl) (by omega) (by omega) (fun r w' hp => ?_)
  obtain ⟨v, ⟨x, rfl⟩, rfl, ⟨fs6, h6⟩, hM2⟩ := hp
  show AW M_law_law _ _ _ _ 181 _ [.int x] _ _ _
  refine aw_aload_n 2 D_law_law_181 rfl rfl ?_
  refine aw_aload_n 0 D_law_law_182 rfl rfl ?_
  refine aw_iload_n 3 D_law_law_183 rfl rfl ?_
  refine aw_iconst (nI 1) D_law_law_184 rfl ?_
  first | with_reducible refine aw_iaddN D_law_law_185 ?_ | refine aw_iadd D_law_law_185 ?_
  refine aw_sldN D_law_law_186 (by omega) (by omega) ?_
  refine aw_callV (As := [_]) D_law_law_187 kv_mo_length (hM2) rfl rfl (h6) rfl rfl (Nat.le_of_ble_eq_true rfl) (by omega) (by omega) (fun r w' hp => ?_)
  obtain ⟨rfl, hI2⟩ := hp
  show AW M_law_law _ _ _ _ 190 _ [.int x, .int x] _ _ _
  refine aw_icmp_eq D_law_law_190 (fun h => ?_) (fun h => absurd rfl h)
  exact hg _ _ _ hI2 (by omega) (by omega)
theorem lc_set (hi : i + 6 ≤ L) (hL : L ≤ 3072) (hI : LI w) (hc : nc + 1 ≤ 600000) (hs : ns + 4096 ≤ 7302250) (hg : Go L xs i nc ns) : AW M_law_law (lawP L xs) lawZ 600000 7302250 195 [(0, .ref 8), (1, .ref 0), (2, .ref 6), (3, .int (nI i))] [] w nc ns := by
  obtain ⟨fs0, h0⟩ := hI.look
  refine aw_aload_n 1 D_law_law_195 rfl rfl ?_
  refine aw_aload_n 0 D_law_law_196 rfl rfl ?_
  refine aw_iload_n 3 D_law_law_197 rfl rfl ?_
  refine aw_iconst (nI 1) D_law_law_198 rfl ?_
  first | with_reducible refine aw_iaddN D_law_law_199 ?_ | refine aw_iadd D_law_law_199 ?_
  refine aw_sldN D_law_law_200 (by omega) (by omega) ?_
  refine aw_aload_n 0 D_law_law_201 rfl rfl ?_
  refine aw_iload_n 3 D_law_law_202 rfl rfl ?_
  refine aw_iconst (nI 2) D_law_law_203 rfl ?_
  first | with_reducible refine aw_iaddN D_law_law_204 ?_ | refine aw_iadd D_law_law_204 ?_
  refine aw_sldN D_law_law_205 (by omega) (by omega) ?_
  refine aw_callV (As := [_, _]) D_law_law_206 kv_br_set (pr_set hI (xs (i + 1)) (xs (i + 2))) rfl rfl (h0) rfl rfl (Nat.le_of_ble_eq_true rfl) (by omega) (by omega) (fun r w' hp => ?_)
  obtain ⟨v, ⟨x, rfl⟩, rfl, ⟨fs6, h6⟩, hM2⟩ := hp
  show AW M_law_law _ _ _ _ 209 _ [.int x] _ _ _
  refine aw_aload_n 2 D_law_law_209 rfl rfl ?_
  refine aw_aload_n 0 D_law_law_210 rfl rfl ?_
  refine aw_iload_n 3 D_law_law_211 rfl rfl ?_
  refine aw_iconst (nI 1) D_law_law_212 rfl ?_
  first | with_reducible refine aw_iaddN D_law_law_213 ?_ | refine aw_iadd D_law_law_213 ?_
  refine aw_sldN D_law_law_214 (by omega) (by omega) ?_
  refine aw_aload_n 0 D_law_law_215 rfl rfl ?_
  refine aw_iload_n 3 D_law_law_216 rfl rfl ?_
  refine aw_iconst (nI 2) D_law_law_217 rfl ?_
  first | with_reducible refine aw_iaddN D_law_law_218 ?_ | refine aw_iadd D_law_law_218 ?_
  refine aw_sldN D_law_law_219 (by omega) (by omega) ?_
  refine aw_callV (As := [_, _]) D_law_law_220 kv_mo_set (hM2) rfl rfl (h6) rfl rfl (Nat.le_of_ble_eq_true rfl) (by omega) (by omega) (fun r w' hp => ?_)
  obtain ⟨rfl, hI2⟩ := hp
  show AW M_law_law _ _ _ _ 223 _ [.int x, .int x] _ _ _
  refine aw_icmp_eq D_law_law_223 (fun h => ?_) (fun h => absurd rfl h)
  exact hg _ _ _ hI2 (by omega) (by omega)
theorem lc_linear (hi : i + 6 ≤ L) (hL : L ≤ 3072) (hI : LI w) (hc : nc + 1 ≤ 600000) (hs : ns + 4096 ≤ 7302250) (hg : Go L xs i nc ns) : AW M_law_law (lawP L xs) lawZ 600000 7302250 228 [(0, .ref 8), (1, .ref 0), (2, .ref 6), (3, .int (nI i))] [] w nc ns := by
  obtain ⟨fs0, h0⟩ := hI.look
  refine aw_aload_n 1 D_law_law_228 rfl rfl ?_
  refine aw_aload_n 0 D_law_law_229 rfl rfl ?_
  refine aw_iload_n 3 D_law_law_230 rfl rfl ?_
  refine aw_iconst (nI 1) D_law_law_231 rfl ?_
  first | with_reducible refine aw_iaddN D_law_law_232 ?_ | refine aw_iadd D_law_law_232 ?_
  refine aw_sldN D_law_law_233 (by omega) (by omega) ?_
  refine aw_aload_n 0 D_law_law_234 rfl rfl ?_
  refine aw_iload_n 3 D_law_law_235 rfl rfl ?_
  refine aw_iconst (nI 2) D_law_law_236 rfl ?_
  first | with_reducible refine aw_iaddN D_law_law_237 ?_ | refine aw_iadd D_law_law_237 ?_
  refine aw_sldN D_law_law_238 (by omega) (by omega) ?_
  refine aw_callV (As := [_, _]) D_law_law_239 kv_br_linear (pr_linear hI (xs (i + 1)) (xs (i + 2))) rfl rfl (h0) rfl rfl (Nat.le_of_ble_eq_true rfl) (by omega) (by omega) (fun r w' hp => ?_)
  obtain ⟨v, ⟨x, rfl⟩, rfl, ⟨fs6, h6⟩, hM2⟩ := hp
  show AW M_law_law _ _ _ _ 242 _ [.int x] _ _ _
  refine aw_aload_n 2 D_law_law_242 rfl rfl ?_
  refine aw_aload_n 0 D_law_law_243 rfl rfl ?_
  refine aw_iload_n 3 D_law_law_244 rfl rfl ?_
  refine aw_iconst (nI 1) D_law_law_245 rfl ?_
  first | with_reducible refine aw_iaddN D_law_law_246 ?_ | refine aw_iadd D_law_law_246 ?_
  refine aw_sldN D_law_law_247 (by omega) (by omega) ?_
  refine aw_aload_n 0 D_law_law_248 rfl rfl ?_
  refine aw_iload_n 3 D_law_law_249 rfl rfl ?_
  refine aw_iconst (nI 2) D_law_law_250 rfl ?_
  first | with_reducible refine aw_iaddN D_law_law_251 ?_ | refine aw_iadd D_law_law_251 ?_
  refine aw_sldN D_law_law_252 (by omega) (by omega) ?_
  refine aw_callV (As := [_, _]) D_law_law_253 kv_mo_linear (hM2) rfl rfl (h6) rfl rfl (Nat.le_of_ble_eq_true rfl) (by omega) (by omega) (fun r w' hp => ?_)
  obtain ⟨rfl, hI2⟩ := hp
  show AW M_law_law _ _ _ _ 256 _ [.int x, .int x] _ _ _
  refine aw_icmp_eq D_law_law_256 (fun h => ?_) (fun h => absurd rfl h)
  exact hg _ _ _ hI2 (by omega) (by omega)
theorem lc_take (hi : i + 6 ≤ L) (hL : L ≤ 3072) (hI : LI w) (hc : nc + 1 ≤ 600000) (hs : ns + 4096 ≤ 7302250) (hg : Go L xs i nc ns) : AW M_law_law (lawP L xs) lawZ 600000 7302250 261 [(0, .ref 8), (1, .ref 0), (2, .ref 6), (3, .int (nI i))] [] w nc ns := by
  obtain ⟨fs0, h0⟩ := hI.look
  refine aw_aload_n 1 D_law_law_261 rfl rfl ?_
  refine aw_aload_n 0 D_law_law_262 rfl rfl ?_
  refine aw_iload_n 3 D_law_law_263 rfl rfl ?_
  refine aw_iconst (nI 1) D_law_law_264 rfl ?_
  first | with_reducible refine aw_iaddN D_law_law_265 ?_ | refine aw_iadd D_law_law_265 ?_
  refine aw_sldN D_law_law_266 (by omega) (by omega) ?_
  refine aw_aload_n 0 D_law_law_267 rfl rfl ?_
  refine aw_iload_n 3 D_law_law_268 rfl rfl ?_
  refine aw_iconst (nI 2) D_law_law_269 rfl ?_
  first | with_reducible refine aw_iaddN D_law_law_270 ?_ | refine aw_iadd D_law_law_270 ?_
  refine aw_sldN D_law_law_271 (by omega) (by omega) ?_
  refine aw_aload_n 0 D_law_law_272 rfl rfl ?_
  refine aw_iload_n 3 D_law_law_273 rfl rfl ?_
  refine aw_iconst (nI 3) D_law_law_274 rfl ?_
  first | with_reducible refine aw_iaddN D_law_law_275 ?_ | refine aw_iadd D_law_law_275 ?_
  refine aw_sldN D_law_law_276 (by omega) (by omega) ?_
  refine aw_aload_n 0 D_law_law_277 rfl rfl ?_
  refine aw_iload_n 3 D_law_law_278 rfl rfl ?_
  refine aw_iconst (nI 4) D_law_law_279 rfl ?_
  first | with_reducible refine aw_iaddN D_law_law_280 ?_ | refine aw_iadd D_law_law_280 ?_
  refine aw_sldN D_law_law_281 (by omega) (by omega) ?_
  refine aw_aload_n 0 D_law_law_282 rfl rfl ?_
  refine aw_iload_n 3 D_law_law_283 rfl rfl ?_
  refine aw_iconst (nI 5) D_law_law_284 rfl ?_
  first | with_reducible refine aw_iaddN D_law_law_285 ?_ | refine aw_iadd D_law_law_285 ?_
  refine aw_sldN D_law_law_286 (by omega) (by omega) ?_
  refine aw_callV (As := [_, _, _, _, _]) D_law_law_287 kv_br_take (pr_take hI (xs (i + 1)) (xs (i + 2)) (xs (i + 3)) (xs (i + 4)) (xs (i + 5))) rfl rfl (h0) rfl rfl (Nat.le_of_ble_eq_true rfl) (by omega) (by omega) (fun r w' hp => ?_)
  obtain ⟨v, ⟨x, rfl⟩, rfl, ⟨fs6, h6⟩, hM2⟩ := hp
  show AW M_law_law _ _ _ _ 290 _ [.int x] _ _ _
  refine aw_aload_n 2 D_law_law_290 rfl rfl ?_
  refine aw_aload_n 0 D_law_law_291 rfl rfl ?_
  refine aw_iload_n 3 D_law_law_292 rfl rfl ?_
  refine aw_iconst (nI 1) D_law_law_293 rfl ?_
  first | with_reducible refine aw_iaddN D_law_law_294 ?_ | refine aw_iadd D_law_law_294 ?_
  refine aw_sldN D_law_law_295 (by omega) (by omega) ?_
  refine aw_aload_n 0 D_law_law_296 rfl rfl ?_
  refine aw_iload_n 3 D_law_law_297 rfl rfl ?_
  refine aw_iconst (nI 2) D_law_law_298 rfl ?_
  first | with_reducible refine aw_iaddN D_law_law_299 ?_ | refine aw_iadd D_law_law_299 ?_
  refine aw_sldN D_law_law_300 (by omega) (by omega) ?_
  refine aw_aload_n 0 D_law_law_301 rfl rfl ?_
  refine aw_iload_n 3 D_law_law_302 rfl rfl ?_
  refine aw_iconst (nI 3) D_law_law_303 rfl ?_
  first | with_reducible refine aw_iaddN D_law_law_304 ?_ | refine aw_iadd D_law_law_304 ?_
  refine aw_sldN D_law_law_305 (by omega) (by omega) ?_
  refine aw_aload_n 0 D_law_law_306 rfl rfl ?_
  refine aw_iload_n 3 D_law_law_307 rfl rfl ?_
  refine aw_iconst (nI 4) D_law_law_308 rfl ?_
  first | with_reducible refine aw_iaddN D_law_law_309 ?_ | refine aw_iadd D_law_law_309 ?_
  refine aw_sldN D_law_law_310 (by omega) (by omega) ?_
  refine aw_aload_n 0 D_law_law_311 rfl rfl ?_
  refine aw_iload_n 3 D_law_law_312 rfl rfl ?_
  refine aw_iconst (nI 5) D_law_law_313 rfl ?_
  first | with_reducible refine aw_iaddN D_law_law_314 ?_ | refine aw_iadd D_law_law_314 ?_
  refine aw_sldN D_law_law_315 (by omega) (by omega) ?_
  refine aw_callV (As := [_, _, _, _, _]) D_law_law_316 kv_mo_take (hM2) rfl rfl (h6) rfl rfl (Nat.le_of_ble_eq_true rfl) (by omega) (by omega) (fun r w' hp => ?_)
  obtain ⟨rfl, hI2⟩ := hp
  show AW M_law_law _ _ _ _ 319 _ [.int x, .int x] _ _ _
  refine aw_icmp_eq D_law_law_319 (fun h => ?_) (fun h => absurd rfl h)
  exact hg _ _ _ hI2 (by omega) (by omega)
theorem lc_feedback (hi : i + 6 ≤ L) (hL : L ≤ 3072) (hI : LI w) (hc : nc + 1 ≤ 600000) (hs : ns + 4096 ≤ 7302250) (hg : Go L xs i nc ns) : AW M_law_law (lawP L xs) lawZ 600000 7302250 324 [(0, .ref 8), (1, .ref 0), (2, .ref 6), (3, .int (nI i))] [] w nc ns := by
  obtain ⟨fs0, h0⟩ := hI.look
  refine aw_aload_n 1 D_law_law_324 rfl rfl ?_
  refine aw_aload_n 0 D_law_law_325 rfl rfl ?_
  refine aw_iload_n 3 D_law_law_326 rfl rfl ?_
  refine aw_iconst (nI 1) D_law_law_327 rfl ?_
  first | with_reducible refine aw_iaddN D_law_law_328 ?_ | refine aw_iadd D_law_law_328 ?_
  refine aw_sldN D_law_law_329 (by omega) (by omega) ?_
  refine aw_callV (As := [_]) D_law_law_330 kv_br_feedback (pr_feedback hI (xs (i + 1))) rfl rfl (h0) rfl rfl (Nat.le_of_ble_eq_true rfl) (by omega) (by omega) (fun r w' hp => ?_)
  obtain ⟨v, ⟨x, rfl⟩, rfl, ⟨fs6, h6⟩, hM2⟩ := hp
  show AW M_law_law _ _ _ _ 333 _ [.int x] _ _ _
  refine aw_aload_n 2 D_law_law_333 rfl rfl ?_
  refine aw_aload_n 0 D_law_law_334 rfl rfl ?_
  refine aw_iload_n 3 D_law_law_335 rfl rfl ?_
  refine aw_iconst (nI 1) D_law_law_336 rfl ?_
  first | with_reducible refine aw_iaddN D_law_law_337 ?_ | refine aw_iadd D_law_law_337 ?_
  refine aw_sldN D_law_law_338 (by omega) (by omega) ?_
  refine aw_callV (As := [_]) D_law_law_339 kv_mo_feedback (hM2) rfl rfl (h6) rfl rfl (Nat.le_of_ble_eq_true rfl) (by omega) (by omega) (fun r w' hp => ?_)
  obtain ⟨rfl, hI2⟩ := hp
  show AW M_law_law _ _ _ _ 342 _ [.int x, .int x] _ _ _
  refine aw_icmp_eq D_law_law_342 (fun h => ?_) (fun h => absurd rfl h)
  exact hg _ _ _ hI2 (by omega) (by omega)
theorem lc_step (hi : i + 6 ≤ L) (hL : L ≤ 3072) (hI : LI w) (hc : nc + 1 ≤ 600000) (hs : ns + 4096 ≤ 7302250) (hg : Go L xs i nc ns) : AW M_law_law (lawP L xs) lawZ 600000 7302250 347 [(0, .ref 8), (1, .ref 0), (2, .ref 6), (3, .int (nI i))] [] w nc ns := by
  obtain ⟨fs0, h0⟩ := hI.look
  refine aw_aload_n 1 D_law_law_347 rfl rfl ?_
  refine aw_aload_n 0 D_law_law_348 rfl rfl ?_
  refine aw_iload_n 3 D_law_law_349 rfl rfl ?_
  refine aw_iconst (nI 1) D_law_law_350 rfl ?_
  first | with_reducible refine aw_iaddN D_law_law_351 ?_ | refine aw_iadd D_law_law_351 ?_
  refine aw_sldN D_law_law_352 (by omega) (by omega) ?_
  refine aw_aload_n 0 D_law_law_353 rfl rfl ?_
  refine aw_iload_n 3 D_law_law_354 rfl rfl ?_
  refine aw_iconst (nI 2) D_law_law_355 rfl ?_
  first | with_reducible refine aw_iaddN D_law_law_356 ?_ | refine aw_iadd D_law_law_356 ?_
  refine aw_sldN D_law_law_357 (by omega) (by omega) ?_
  first | with_reducible refine aw_i2lN D_law_law_358 (by omega) ?_ | refine aw_i2l D_law_law_358 ?_
  refine aw_bipush (nI 32) D_law_law_359 rfl ?_
  refine aw_lshl D_law_law_361 ?_
  refine aw_aload_n 0 D_law_law_362 rfl rfl ?_
  refine aw_iload_n 3 D_law_law_363 rfl rfl ?_
  refine aw_iconst (nI 3) D_law_law_364 rfl ?_
  first | with_reducible refine aw_iaddN D_law_law_365 ?_ | refine aw_iadd D_law_law_365 ?_
  refine aw_sldN D_law_law_366 (by omega) (by omega) ?_
  first | with_reducible refine aw_i2lN D_law_law_367 (by omega) ?_ | refine aw_i2l D_law_law_367 ?_
  refine aw_ldc2 D_law_law_368 ?_
  refine aw_land D_law_law_371 ?_
  refine aw_lor D_law_law_372 ?_
  refine aw_callV (As := [_, _]) D_law_law_373 kv_br_step (pr_step hI (xs (i + 1)) ((xs (i + 2)).toInt64 <<< ((nI 32).toInt64 &&& 63) ||| (xs (i + 3)).toInt64 &&& lN 4294967295)) rfl rfl (h0) rfl rfl (Nat.le_of_ble_eq_true rfl) (by omega) (by omega) (fun r w' hp => ?_)
  obtain ⟨v, ⟨x, rfl⟩, rfl, ⟨fs6, h6⟩, hM2⟩ := hp
  show AW M_law_law _ _ _ _ 376 _ [.int x] _ _ _
  refine aw_aload_n 2 D_law_law_376 rfl rfl ?_
  refine aw_aload_n 0 D_law_law_377 rfl rfl ?_
  refine aw_iload_n 3 D_law_law_378 rfl rfl ?_
  refine aw_iconst (nI 1) D_law_law_379 rfl ?_
  first | with_reducible refine aw_iaddN D_law_law_380 ?_ | refine aw_iadd D_law_law_380 ?_
  refine aw_sldN D_law_law_381 (by omega) (by omega) ?_
  refine aw_aload_n 0 D_law_law_382 rfl rfl ?_
  refine aw_iload_n 3 D_law_law_383 rfl rfl ?_
  refine aw_iconst (nI 2) D_law_law_384 rfl ?_
  first | with_reducible refine aw_iaddN D_law_law_385 ?_ | refine aw_iadd D_law_law_385 ?_
  refine aw_sldN D_law_law_386 (by omega) (by omega) ?_
  first | with_reducible refine aw_i2lN D_law_law_387 (by omega) ?_ | refine aw_i2l D_law_law_387 ?_
  refine aw_bipush (nI 32) D_law_law_388 rfl ?_
  refine aw_lshl D_law_law_390 ?_
  refine aw_aload_n 0 D_law_law_391 rfl rfl ?_
  refine aw_iload_n 3 D_law_law_392 rfl rfl ?_
  refine aw_iconst (nI 3) D_law_law_393 rfl ?_
  first | with_reducible refine aw_iaddN D_law_law_394 ?_ | refine aw_iadd D_law_law_394 ?_
  refine aw_sldN D_law_law_395 (by omega) (by omega) ?_
  first | with_reducible refine aw_i2lN D_law_law_396 (by omega) ?_ | refine aw_i2l D_law_law_396 ?_
  refine aw_ldc2 D_law_law_397 ?_
  refine aw_land D_law_law_400 ?_
  refine aw_lor D_law_law_401 ?_
  refine aw_callV (As := [_, _]) D_law_law_402 kv_mo_step (hM2) rfl rfl (h6) rfl rfl (Nat.le_of_ble_eq_true rfl) (by omega) (by omega) (fun r w' hp => ?_)
  obtain ⟨rfl, hI2⟩ := hp
  show AW M_law_law _ _ _ _ 405 _ [.int x, .int x] _ _ _
  refine aw_icmp_eq D_law_law_405 (fun h => ?_) (fun h => absurd rfl h)
  exact hg _ _ _ hI2 (by omega) (by omega)
theorem lc_back (hi : i + 6 ≤ L) (hL : L ≤ 3072) (hI : LI w) (hc : nc + 1 ≤ 600000) (hs : ns + 4096 ≤ 7302250) (hg : Go L xs i nc ns) : AW M_law_law (lawP L xs) lawZ 600000 7302250 410 [(0, .ref 8), (1, .ref 0), (2, .ref 6), (3, .int (nI i))] [] w nc ns := by
  obtain ⟨fs0, h0⟩ := hI.look
  refine aw_aload_n 1 D_law_law_410 rfl rfl ?_
  refine aw_aload_n 0 D_law_law_411 rfl rfl ?_
  refine aw_iload_n 3 D_law_law_412 rfl rfl ?_
  refine aw_iconst (nI 1) D_law_law_413 rfl ?_
  first | with_reducible refine aw_iaddN D_law_law_414 ?_ | refine aw_iadd D_law_law_414 ?_
  refine aw_sldN D_law_law_415 (by omega) (by omega) ?_
  refine aw_aload_n 0 D_law_law_416 rfl rfl ?_
  refine aw_iload_n 3 D_law_law_417 rfl rfl ?_
  refine aw_iconst (nI 2) D_law_law_418 rfl ?_
  first | with_reducible refine aw_iaddN D_law_law_419 ?_ | refine aw_iadd D_law_law_419 ?_
  refine aw_sldN D_law_law_420 (by omega) (by omega) ?_
  refine aw_callV (As := [_, _]) D_law_law_421 kv_br_back (pr_back hI (xs (i + 1)) (xs (i + 2))) rfl rfl (h0) rfl rfl (Nat.le_of_ble_eq_true rfl) (by omega) (by omega) (fun r w' hp => ?_)
  obtain ⟨v, ⟨x, rfl⟩, rfl, ⟨fs6, h6⟩, hM2⟩ := hp
  show AW M_law_law _ _ _ _ 424 _ [.int x] _ _ _
  refine aw_aload_n 2 D_law_law_424 rfl rfl ?_
  refine aw_aload_n 0 D_law_law_425 rfl rfl ?_
  refine aw_iload_n 3 D_law_law_426 rfl rfl ?_
  refine aw_iconst (nI 1) D_law_law_427 rfl ?_
  first | with_reducible refine aw_iaddN D_law_law_428 ?_ | refine aw_iadd D_law_law_428 ?_
  refine aw_sldN D_law_law_429 (by omega) (by omega) ?_
  refine aw_aload_n 0 D_law_law_430 rfl rfl ?_
  refine aw_iload_n 3 D_law_law_431 rfl rfl ?_
  refine aw_iconst (nI 2) D_law_law_432 rfl ?_
  first | with_reducible refine aw_iaddN D_law_law_433 ?_ | refine aw_iadd D_law_law_433 ?_
  refine aw_sldN D_law_law_434 (by omega) (by omega) ?_
  refine aw_callV (As := [_, _]) D_law_law_435 kv_mo_back (hM2) rfl rfl (h6) rfl rfl (Nat.le_of_ble_eq_true rfl) (by omega) (by omega) (fun r w' hp => ?_)
  obtain ⟨rfl, hI2⟩ := hp
  show AW M_law_law _ _ _ _ 438 _ [.int x, .int x] _ _ _
  refine aw_icmp_eq D_law_law_438 (fun h => ?_) (fun h => absurd rfl h)
  exact hg _ _ _ hI2 (by omega) (by omega)
theorem lc_about (hi : i + 6 ≤ L) (hL : L ≤ 3072) (hI : LI w) (hc : nc + 1 ≤ 600000) (hs : ns + 4096 ≤ 7302250) (hg : Go L xs i nc ns) : AW M_law_law (lawP L xs) lawZ 600000 7302250 443 [(0, .ref 8), (1, .ref 0), (2, .ref 6), (3, .int (nI i))] [] w nc ns := by
  obtain ⟨fs0, h0⟩ := hI.look
  refine aw_aload_n 1 D_law_law_443 rfl rfl ?_
  refine aw_aload_n 0 D_law_law_444 rfl rfl ?_
  refine aw_iload_n 3 D_law_law_445 rfl rfl ?_
  refine aw_iconst (nI 1) D_law_law_446 rfl ?_
  first | with_reducible refine aw_iaddN D_law_law_447 ?_ | refine aw_iadd D_law_law_447 ?_
  refine aw_sldN D_law_law_448 (by omega) (by omega) ?_
  refine aw_aload_n 0 D_law_law_449 rfl rfl ?_
  refine aw_iload_n 3 D_law_law_450 rfl rfl ?_
  refine aw_iconst (nI 2) D_law_law_451 rfl ?_
  first | with_reducible refine aw_iaddN D_law_law_452 ?_ | refine aw_iadd D_law_law_452 ?_
  refine aw_sldN D_law_law_453 (by omega) (by omega) ?_
  refine aw_callV (As := [_, _]) D_law_law_454 kv_br_about (pr_about hI (xs (i + 1)) (xs (i + 2))) rfl rfl (h0) rfl rfl (Nat.le_of_ble_eq_true rfl) (by omega) (by omega) (fun r w' hp => ?_)
  obtain ⟨v, ⟨x, rfl⟩, rfl, ⟨fs6, h6⟩, hM2⟩ := hp
  show AW M_law_law _ _ _ _ 457 _ [.int x] _ _ _
  refine aw_aload_n 2 D_law_law_457 rfl rfl ?_
  refine aw_aload_n 0 D_law_law_458 rfl rfl ?_
  refine aw_iload_n 3 D_law_law_459 rfl rfl ?_
  refine aw_iconst (nI 1) D_law_law_460 rfl ?_
  first | with_reducible refine aw_iaddN D_law_law_461 ?_ | refine aw_iadd D_law_law_461 ?_
  refine aw_sldN D_law_law_462 (by omega) (by omega) ?_
  refine aw_aload_n 0 D_law_law_463 rfl rfl ?_
  refine aw_iload_n 3 D_law_law_464 rfl rfl ?_
  refine aw_iconst (nI 2) D_law_law_465 rfl ?_
  first | with_reducible refine aw_iaddN D_law_law_466 ?_ | refine aw_iadd D_law_law_466 ?_
  refine aw_sldN D_law_law_467 (by omega) (by omega) ?_
  refine aw_callV (As := [_, _]) D_law_law_468 kv_mo_about (hM2) rfl rfl (h6) rfl rfl (Nat.le_of_ble_eq_true rfl) (by omega) (by omega) (fun r w' hp => ?_)
  obtain ⟨rfl, hI2⟩ := hp
  show AW M_law_law _ _ _ _ 471 _ [.int x, .int x] _ _ _
  refine aw_icmp_eq D_law_law_471 (fun h => ?_) (fun h => absurd rfl h)
  exact hg _ _ _ hI2 (by omega) (by omega)
theorem lc_ring (hi : i + 6 ≤ L) (hL : L ≤ 3072) (hI : LI w) (hc : nc + 1 ≤ 600000) (hs : ns + 4096 ≤ 7302250) (hg : Go L xs i nc ns) : AW M_law_law (lawP L xs) lawZ 600000 7302250 476 [(0, .ref 8), (1, .ref 0), (2, .ref 6), (3, .int (nI i))] [] w nc ns := by
  obtain ⟨fs0, h0⟩ := hI.look
  refine aw_aload_n 1 D_law_law_476 rfl rfl ?_
  refine aw_aload_n 0 D_law_law_477 rfl rfl ?_
  refine aw_iload_n 3 D_law_law_478 rfl rfl ?_
  refine aw_iconst (nI 1) D_law_law_479 rfl ?_
  first | with_reducible refine aw_iaddN D_law_law_480 ?_ | refine aw_iadd D_law_law_480 ?_
  refine aw_sldN D_law_law_481 (by omega) (by omega) ?_
  refine aw_aload_n 0 D_law_law_482 rfl rfl ?_
  refine aw_iload_n 3 D_law_law_483 rfl rfl ?_
  refine aw_iconst (nI 2) D_law_law_484 rfl ?_
  first | with_reducible refine aw_iaddN D_law_law_485 ?_ | refine aw_iadd D_law_law_485 ?_
  refine aw_sldN D_law_law_486 (by omega) (by omega) ?_
  refine aw_callV (As := [_, _]) D_law_law_487 kv_br_ring (pr_ring hI (xs (i + 1)) (xs (i + 2))) rfl rfl (h0) rfl rfl (Nat.le_of_ble_eq_true rfl) (by omega) (by omega) (fun r w' hp => ?_)
  obtain ⟨v, ⟨x, rfl⟩, rfl, ⟨fs6, h6⟩, hM2⟩ := hp
  show AW M_law_law _ _ _ _ 490 _ [.int x] _ _ _
  refine aw_aload_n 2 D_law_law_490 rfl rfl ?_
  refine aw_aload_n 0 D_law_law_491 rfl rfl ?_
  refine aw_iload_n 3 D_law_law_492 rfl rfl ?_
  refine aw_iconst (nI 1) D_law_law_493 rfl ?_
  first | with_reducible refine aw_iaddN D_law_law_494 ?_ | refine aw_iadd D_law_law_494 ?_
  refine aw_sldN D_law_law_495 (by omega) (by omega) ?_
  refine aw_aload_n 0 D_law_law_496 rfl rfl ?_
  refine aw_iload_n 3 D_law_law_497 rfl rfl ?_
  refine aw_iconst (nI 2) D_law_law_498 rfl ?_
  first | with_reducible refine aw_iaddN D_law_law_499 ?_ | refine aw_iadd D_law_law_499 ?_
  refine aw_sldN D_law_law_500 (by omega) (by omega) ?_
  refine aw_callV (As := [_, _]) D_law_law_501 kv_mo_ring (hM2) rfl rfl (h6) rfl rfl (Nat.le_of_ble_eq_true rfl) (by omega) (by omega) (fun r w' hp => ?_)
  obtain ⟨rfl, hI2⟩ := hp
  show AW M_law_law _ _ _ _ 504 _ [.int x, .int x] _ _ _
  refine aw_icmp_eq D_law_law_504 (fun h => ?_) (fun h => absurd rfl h)
  exact hg _ _ _ hI2 (by omega) (by omega)
theorem lc_told (hi : i + 6 ≤ L) (hL : L ≤ 3072) (hI : LI w) (hc : nc + 1 ≤ 600000) (hs : ns + 4096 ≤ 7302250) (hg : Go L xs i nc ns) : AW M_law_law (lawP L xs) lawZ 600000 7302250 509 [(0, .ref 8), (1, .ref 0), (2, .ref 6), (3, .int (nI i))] [] w nc ns := by
  obtain ⟨fs0, h0⟩ := hI.look
  refine aw_aload_n 1 D_law_law_509 rfl rfl ?_
  refine aw_aload_n 0 D_law_law_510 rfl rfl ?_
  refine aw_iload_n 3 D_law_law_511 rfl rfl ?_
  refine aw_iconst (nI 1) D_law_law_512 rfl ?_
  first | with_reducible refine aw_iaddN D_law_law_513 ?_ | refine aw_iadd D_law_law_513 ?_
  refine aw_sldN D_law_law_514 (by omega) (by omega) ?_
  refine aw_callV (As := [_]) D_law_law_515 kv_br_told (pr_told hI (xs (i + 1))) rfl rfl (h0) rfl rfl (Nat.le_of_ble_eq_true rfl) (by omega) (by omega) (fun r w' hp => ?_)
  obtain ⟨v, ⟨x, rfl⟩, rfl, ⟨fs6, h6⟩, hM2⟩ := hp
  show AW M_law_law _ _ _ _ 518 _ [.int x] _ _ _
  refine aw_aload_n 2 D_law_law_518 rfl rfl ?_
  refine aw_aload_n 0 D_law_law_519 rfl rfl ?_
  refine aw_iload_n 3 D_law_law_520 rfl rfl ?_
  refine aw_iconst (nI 1) D_law_law_521 rfl ?_
  first | with_reducible refine aw_iaddN D_law_law_522 ?_ | refine aw_iadd D_law_law_522 ?_
  refine aw_sldN D_law_law_523 (by omega) (by omega) ?_
  refine aw_callV (As := [_]) D_law_law_524 kv_mo_told (hM2) rfl rfl (h6) rfl rfl (Nat.le_of_ble_eq_true rfl) (by omega) (by omega) (fun r w' hp => ?_)
  obtain ⟨rfl, hI2⟩ := hp
  show AW M_law_law _ _ _ _ 527 _ [.int x, .int x] _ _ _
  refine aw_icmp_eq D_law_law_527 (fun h => ?_) (fun h => absurd rfl h)
  exact hg _ _ _ hI2 (by omega) (by omega)
theorem lc_turn (hi : i + 6 ≤ L) (hL : L ≤ 3072) (hI : LI w) (hc : nc + 1 ≤ 600000) (hs : ns + 4096 ≤ 7302250) (hg : Go L xs i nc ns) : AW M_law_law (lawP L xs) lawZ 600000 7302250 532 [(0, .ref 8), (1, .ref 0), (2, .ref 6), (3, .int (nI i))] [] w nc ns := by
  obtain ⟨fs0, h0⟩ := hI.look
  refine aw_aload_n 1 D_law_law_532 rfl rfl ?_
  refine aw_aload_n 0 D_law_law_533 rfl rfl ?_
  refine aw_iload_n 3 D_law_law_534 rfl rfl ?_
  refine aw_iconst (nI 1) D_law_law_535 rfl ?_
  first | with_reducible refine aw_iaddN D_law_law_536 ?_ | refine aw_iadd D_law_law_536 ?_
  refine aw_sldN D_law_law_537 (by omega) (by omega) ?_
  refine aw_callV (As := [_]) D_law_law_538 kv_br_turn (pr_turn hI (xs (i + 1))) rfl rfl (h0) rfl rfl (Nat.le_of_ble_eq_true rfl) (by omega) (by omega) (fun r w' hp => ?_)
  obtain ⟨v, ⟨x, rfl⟩, rfl, ⟨fs6, h6⟩, hM2⟩ := hp
  show AW M_law_law _ _ _ _ 541 _ [.int x] _ _ _
  refine aw_aload_n 2 D_law_law_541 rfl rfl ?_
  refine aw_aload_n 0 D_law_law_542 rfl rfl ?_
  refine aw_iload_n 3 D_law_law_543 rfl rfl ?_
  refine aw_iconst (nI 1) D_law_law_544 rfl ?_
  first | with_reducible refine aw_iaddN D_law_law_545 ?_ | refine aw_iadd D_law_law_545 ?_
  refine aw_sldN D_law_law_546 (by omega) (by omega) ?_
  refine aw_callV (As := [_]) D_law_law_547 kv_mo_turn (hM2) rfl rfl (h6) rfl rfl (Nat.le_of_ble_eq_true rfl) (by omega) (by omega) (fun r w' hp => ?_)
  obtain ⟨rfl, hI2⟩ := hp
  show AW M_law_law _ _ _ _ 550 _ [.int x, .int x] _ _ _
  refine aw_icmp_eq D_law_law_550 (fun h => ?_) (fun h => absurd rfl h)
  exact hg _ _ _ hI2 (by omega) (by omega)
theorem lc_join (hi : i + 6 ≤ L) (hL : L ≤ 3072) (hI : LI w) (hc : nc + 1 ≤ 600000) (hs : ns + 4096 ≤ 7302250) (hg : Go L xs i nc ns) : AW M_law_law (lawP L xs) lawZ 600000 7302250 555 [(0, .ref 8), (1, .ref 0), (2, .ref 6), (3, .int (nI i))] [] w nc ns := by
  obtain ⟨fs0, h0⟩ := hI.look
  rcases pr_join hI with hP | hP
  · refine aw_aload_n 1 D_law_law_555 rfl rfl ?_
    refine aw_callV (As := []) D_law_law_556 kv_br_join (hP) rfl rfl (h0) rfl rfl (Nat.le_of_ble_eq_true rfl) (by omega) (by omega) (fun r w' hp => ?_)
    obtain ⟨v, ⟨x, rfl⟩, rfl, ⟨fs6, h6⟩, hM2⟩ := hp
    show AW M_law_law _ _ _ _ 559 _ [.int x] _ _ _
    refine aw_aload_n 2 D_law_law_559 rfl rfl ?_
    refine aw_callV (As := []) D_law_law_560 kv_mo_join (hM2) rfl rfl (h6) rfl rfl (Nat.le_of_ble_eq_true rfl) (by omega) (by omega) (fun r w' hp => ?_)
    obtain ⟨rfl, hI2⟩ := hp
    show AW M_law_law _ _ _ _ 563 _ [.int x, .int x] _ _ _
    refine aw_icmp_eq D_law_law_563 (fun h => ?_) (fun h => absurd rfl h)
    exact hg _ _ _ hI2 (by omega) (by omega)
  · refine aw_aload_n 1 D_law_law_555 rfl rfl ?_
    refine aw_callV (As := []) D_law_law_556 kv_br_join (hP) rfl rfl (h0) rfl rfl (Nat.le_of_ble_eq_true rfl) (by omega) (by omega) (fun r w' hp => ?_)
    obtain ⟨v, ⟨x, rfl⟩, rfl, ⟨fs6, h6⟩, hM2⟩ := hp
    show AW M_law_law _ _ _ _ 559 _ [.int x] _ _ _
    refine aw_aload_n 2 D_law_law_559 rfl rfl ?_
    refine aw_callV (As := []) D_law_law_560 kv_mo_join (hM2) rfl rfl (h6) rfl rfl (Nat.le_of_ble_eq_true rfl) (by omega) (by omega) (fun r w' hp => ?_)
    obtain ⟨rfl, hI2⟩ := hp
    show AW M_law_law _ _ _ _ 563 _ [.int x, .int x] _ _ _
    refine aw_icmp_eq D_law_law_563 (fun h => ?_) (fun h => absurd rfl h)
    exact hg _ _ _ hI2 (by omega) (by omega)
theorem lc_ways (hi : i + 6 ≤ L) (hL : L ≤ 3072) (hI : LI w) (hc : nc + 1 ≤ 600000) (hs : ns + 4096 ≤ 7302250) (hg : Go L xs i nc ns) : AW M_law_law (lawP L xs) lawZ 600000 7302250 568 [(0, .ref 8), (1, .ref 0), (2, .ref 6), (3, .int (nI i))] [] w nc ns := by
  obtain ⟨fs0, h0⟩ := hI.look
  rcases pr_ways hI with hP | hP
  · refine aw_aload_n 1 D_law_law_568 rfl rfl ?_
    refine aw_callV (As := []) D_law_law_569 kv_br_ways (hP) rfl rfl (h0) rfl rfl (Nat.le_of_ble_eq_true rfl) (by omega) (by omega) (fun r w' hp => ?_)
    obtain ⟨v, ⟨x, rfl⟩, rfl, ⟨fs6, h6⟩, hM2⟩ := hp
    show AW M_law_law _ _ _ _ 572 _ [.int x] _ _ _
    refine aw_aload_n 2 D_law_law_572 rfl rfl ?_
    refine aw_callV (As := []) D_law_law_573 kv_mo_ways (hM2) rfl rfl (h6) rfl rfl (Nat.le_of_ble_eq_true rfl) (by omega) (by omega) (fun r w' hp => ?_)
    obtain ⟨rfl, hI2⟩ := hp
    show AW M_law_law _ _ _ _ 576 _ [.int x, .int x] _ _ _
    refine aw_icmp_eq D_law_law_576 (fun h => ?_) (fun h => absurd rfl h)
    exact hg _ _ _ hI2 (by omega) (by omega)
  · refine aw_aload_n 1 D_law_law_568 rfl rfl ?_
    refine aw_callV (As := []) D_law_law_569 kv_br_ways (hP) rfl rfl (h0) rfl rfl (Nat.le_of_ble_eq_true rfl) (by omega) (by omega) (fun r w' hp => ?_)
    obtain ⟨v, ⟨x, rfl⟩, rfl, ⟨fs6, h6⟩, hM2⟩ := hp
    show AW M_law_law _ _ _ _ 572 _ [.int x] _ _ _
    refine aw_aload_n 2 D_law_law_572 rfl rfl ?_
    refine aw_callV (As := []) D_law_law_573 kv_mo_ways (hM2) rfl rfl (h6) rfl rfl (Nat.le_of_ble_eq_true rfl) (by omega) (by omega) (fun r w' hp => ?_)
    obtain ⟨rfl, hI2⟩ := hp
    show AW M_law_law _ _ _ _ 576 _ [.int x, .int x] _ _ _
    refine aw_icmp_eq D_law_law_576 (fun h => ?_) (fun h => absurd rfl h)
    exact hg _ _ _ hI2 (by omega) (by omega)
theorem lc_prefer (hi : i + 6 ≤ L) (hL : L ≤ 3072) (hI : LI w) (hc : nc + 1 ≤ 600000) (hs : ns + 4096 ≤ 7302250) (hg : Go L xs i nc ns) : AW M_law_law (lawP L xs) lawZ 600000 7302250 581 [(0, .ref 8), (1, .ref 0), (2, .ref 6), (3, .int (nI i))] [] w nc ns := by
  obtain ⟨fs0, h0⟩ := hI.look
  refine aw_aload_n 1 D_law_law_581 rfl rfl ?_
  refine aw_aload_n 0 D_law_law_582 rfl rfl ?_
  refine aw_iload_n 3 D_law_law_583 rfl rfl ?_
  refine aw_iconst (nI 1) D_law_law_584 rfl ?_
  first | with_reducible refine aw_iaddN D_law_law_585 ?_ | refine aw_iadd D_law_law_585 ?_
  refine aw_sldN D_law_law_586 (by omega) (by omega) ?_
  refine aw_callV (As := [_]) D_law_law_587 kv_br_prefer (pr_prefer hI (xs (i + 1))) rfl rfl (h0) rfl rfl (Nat.le_of_ble_eq_true rfl) (by omega) (by omega) (fun r w' hp => ?_)
  obtain ⟨v, ⟨x, rfl⟩, rfl, ⟨fs6, h6⟩, hM2⟩ := hp
  show AW M_law_law _ _ _ _ 590 _ [.int x] _ _ _
  refine aw_aload_n 2 D_law_law_590 rfl rfl ?_
  refine aw_aload_n 0 D_law_law_591 rfl rfl ?_
  refine aw_iload_n 3 D_law_law_592 rfl rfl ?_
  refine aw_iconst (nI 1) D_law_law_593 rfl ?_
  first | with_reducible refine aw_iaddN D_law_law_594 ?_ | refine aw_iadd D_law_law_594 ?_
  refine aw_sldN D_law_law_595 (by omega) (by omega) ?_
  refine aw_callV (As := [_]) D_law_law_596 kv_mo_prefer (hM2) rfl rfl (h6) rfl rfl (Nat.le_of_ble_eq_true rfl) (by omega) (by omega) (fun r w' hp => ?_)
  obtain ⟨rfl, hI2⟩ := hp
  show AW M_law_law _ _ _ _ 599 _ [.int x, .int x] _ _ _
  refine aw_icmp_eq D_law_law_599 (fun h => ?_) (fun h => absurd rfl h)
  exact hg _ _ _ hI2 (by omega) (by omega)
theorem lc_sheet (hi : i + 6 ≤ L) (hL : L ≤ 3072) (hI : LI w) (hc : nc + 1 ≤ 600000) (hs : ns + 4096 ≤ 7302250) (hg : Go L xs i nc ns) : AW M_law_law (lawP L xs) lawZ 600000 7302250 604 [(0, .ref 8), (1, .ref 0), (2, .ref 6), (3, .int (nI i))] [] w nc ns := by
  obtain ⟨fs0, h0⟩ := hI.look
  refine aw_aload_n 1 D_law_law_604 rfl rfl ?_
  refine aw_aload_n 0 D_law_law_605 rfl rfl ?_
  refine aw_iload_n 3 D_law_law_606 rfl rfl ?_
  refine aw_iconst (nI 1) D_law_law_607 rfl ?_
  first | with_reducible refine aw_iaddN D_law_law_608 ?_ | refine aw_iadd D_law_law_608 ?_
  refine aw_sldN D_law_law_609 (by omega) (by omega) ?_
  refine aw_aload_n 0 D_law_law_610 rfl rfl ?_
  refine aw_iload_n 3 D_law_law_611 rfl rfl ?_
  refine aw_iconst (nI 2) D_law_law_612 rfl ?_
  first | with_reducible refine aw_iaddN D_law_law_613 ?_ | refine aw_iadd D_law_law_613 ?_
  refine aw_sldN D_law_law_614 (by omega) (by omega) ?_
  refine aw_aload_n 0 D_law_law_615 rfl rfl ?_
  refine aw_iload_n 3 D_law_law_616 rfl rfl ?_
  refine aw_iconst (nI 3) D_law_law_617 rfl ?_
  first | with_reducible refine aw_iaddN D_law_law_618 ?_ | refine aw_iadd D_law_law_618 ?_
  refine aw_sldN D_law_law_619 (by omega) (by omega) ?_
  refine aw_callV (As := [_, _, _]) D_law_law_620 kv_br_sheet (pr_sheet hI (xs (i + 1)) (xs (i + 2)) (xs (i + 3))) rfl rfl (h0) rfl rfl (Nat.le_of_ble_eq_true rfl) (by omega) (by omega) (fun r w' hp => ?_)
  obtain ⟨v, ⟨x, rfl⟩, rfl, ⟨fs6, h6⟩, hM2⟩ := hp
  show AW M_law_law _ _ _ _ 623 _ [.int x] _ _ _
  refine aw_aload_n 2 D_law_law_623 rfl rfl ?_
  refine aw_aload_n 0 D_law_law_624 rfl rfl ?_
  refine aw_iload_n 3 D_law_law_625 rfl rfl ?_
  refine aw_iconst (nI 1) D_law_law_626 rfl ?_
  first | with_reducible refine aw_iaddN D_law_law_627 ?_ | refine aw_iadd D_law_law_627 ?_
  refine aw_sldN D_law_law_628 (by omega) (by omega) ?_
  refine aw_aload_n 0 D_law_law_629 rfl rfl ?_
  refine aw_iload_n 3 D_law_law_630 rfl rfl ?_
  refine aw_iconst (nI 2) D_law_law_631 rfl ?_
  first | with_reducible refine aw_iaddN D_law_law_632 ?_ | refine aw_iadd D_law_law_632 ?_
  refine aw_sldN D_law_law_633 (by omega) (by omega) ?_
  refine aw_aload_n 0 D_law_law_634 rfl rfl ?_
  refine aw_iload_n 3 D_law_law_635 rfl rfl ?_
  refine aw_iconst (nI 3) D_law_law_636 rfl ?_
  first | with_reducible refine aw_iaddN D_law_law_637 ?_ | refine aw_iadd D_law_law_637 ?_
  refine aw_sldN D_law_law_638 (by omega) (by omega) ?_
  refine aw_callV (As := [_, _, _]) D_law_law_639 kv_mo_sheet (hM2) rfl rfl (h6) rfl rfl (Nat.le_of_ble_eq_true rfl) (by omega) (by omega) (fun r w' hp => ?_)
  obtain ⟨rfl, hI2⟩ := hp
  show AW M_law_law _ _ _ _ 642 _ [.int x, .int x] _ _ _
  refine aw_icmp_eq D_law_law_642 (fun h => ?_) (fun h => absurd rfl h)
  exact hg _ _ _ hI2 (by omega) (by omega)
theorem lc_lose (hi : i + 6 ≤ L) (hL : L ≤ 3072) (hI : LI w) (hc : nc + 1 ≤ 600000) (hs : ns + 4096 ≤ 7302250) (hg : Go L xs i nc ns) : AW M_law_law (lawP L xs) lawZ 600000 7302250 647 [(0, .ref 8), (1, .ref 0), (2, .ref 6), (3, .int (nI i))] [] w nc ns := by
  obtain ⟨fs0, h0⟩ := hI.look
  refine aw_aload_n 1 D_law_law_647 rfl rfl ?_
  refine aw_aload_n 0 D_law_law_648 rfl rfl ?_
  refine aw_iload_n 3 D_law_law_649 rfl rfl ?_
  refine aw_iconst (nI 1) D_law_law_650 rfl ?_
  first | with_reducible refine aw_iaddN D_law_law_651 ?_ | refine aw_iadd D_law_law_651 ?_
  refine aw_sldN D_law_law_652 (by omega) (by omega) ?_
  refine aw_callV (As := [_]) D_law_law_653 kv_br_lose (pr_lose hI (xs (i + 1))) rfl rfl (h0) rfl rfl (Nat.le_of_ble_eq_true rfl) (by omega) (by omega) (fun r w' hp => ?_)
  obtain ⟨v, ⟨x, rfl⟩, rfl, ⟨fs6, h6⟩, hM2⟩ := hp
  show AW M_law_law _ _ _ _ 656 _ [.int x] _ _ _
  refine aw_aload_n 2 D_law_law_656 rfl rfl ?_
  refine aw_aload_n 0 D_law_law_657 rfl rfl ?_
  refine aw_iload_n 3 D_law_law_658 rfl rfl ?_
  refine aw_iconst (nI 1) D_law_law_659 rfl ?_
  first | with_reducible refine aw_iaddN D_law_law_660 ?_ | refine aw_iadd D_law_law_660 ?_
  refine aw_sldN D_law_law_661 (by omega) (by omega) ?_
  refine aw_callV (As := [_]) D_law_law_662 kv_mo_lose (hM2) rfl rfl (h6) rfl rfl (Nat.le_of_ble_eq_true rfl) (by omega) (by omega) (fun r w' hp => ?_)
  obtain ⟨rfl, hI2⟩ := hp
  show AW M_law_law _ _ _ _ 665 _ [.int x, .int x] _ _ _
  refine aw_icmp_eq D_law_law_665 (fun h => ?_) (fun h => absurd rfl h)
  exact hg _ _ _ hI2 (by omega) (by omega)
theorem lc_put (hi : i + 6 ≤ L) (hL : L ≤ 3072) (hI : LI w) (hc : nc + 1 ≤ 600000) (hs : ns + 4096 ≤ 7302250) (hg : Go L xs i nc ns) : AW M_law_law (lawP L xs) lawZ 600000 7302250 670 [(0, .ref 8), (1, .ref 0), (2, .ref 6), (3, .int (nI i))] [] w nc ns := by
  obtain ⟨fs0, h0⟩ := hI.look
  refine aw_aload_n 1 D_law_law_670 rfl rfl ?_
  refine aw_aload_n 0 D_law_law_671 rfl rfl ?_
  refine aw_iload_n 3 D_law_law_672 rfl rfl ?_
  refine aw_iconst (nI 1) D_law_law_673 rfl ?_
  first | with_reducible refine aw_iaddN D_law_law_674 ?_ | refine aw_iadd D_law_law_674 ?_
  refine aw_sldN D_law_law_675 (by omega) (by omega) ?_
  refine aw_aload_n 0 D_law_law_676 rfl rfl ?_
  refine aw_iload_n 3 D_law_law_677 rfl rfl ?_
  refine aw_iconst (nI 2) D_law_law_678 rfl ?_
  first | with_reducible refine aw_iaddN D_law_law_679 ?_ | refine aw_iadd D_law_law_679 ?_
  refine aw_sldN D_law_law_680 (by omega) (by omega) ?_
  refine aw_aload_n 0 D_law_law_681 rfl rfl ?_
  refine aw_iload_n 3 D_law_law_682 rfl rfl ?_
  refine aw_iconst (nI 3) D_law_law_683 rfl ?_
  first | with_reducible refine aw_iaddN D_law_law_684 ?_ | refine aw_iadd D_law_law_684 ?_
  refine aw_sldN D_law_law_685 (by omega) (by omega) ?_
  first | with_reducible refine aw_i2lN D_law_law_686 (by omega) ?_ | refine aw_i2l D_law_law_686 ?_
  refine aw_bipush (nI 32) D_law_law_687 rfl ?_
  refine aw_lshl D_law_law_689 ?_
  refine aw_aload_n 0 D_law_law_690 rfl rfl ?_
  refine aw_iload_n 3 D_law_law_691 rfl rfl ?_
  refine aw_iconst (nI 4) D_law_law_692 rfl ?_
  first | with_reducible refine aw_iaddN D_law_law_693 ?_ | refine aw_iadd D_law_law_693 ?_
  refine aw_sldN D_law_law_694 (by omega) (by omega) ?_
  first | with_reducible refine aw_i2lN D_law_law_695 (by omega) ?_ | refine aw_i2l D_law_law_695 ?_
  refine aw_ldc2 D_law_law_696 ?_
  refine aw_land D_law_law_699 ?_
  refine aw_lor D_law_law_700 ?_
  refine aw_callV (As := [_, _, _]) D_law_law_701 kv_br_put (pr_put hI (xs (i + 1)) (xs (i + 2)) ((xs (i + 3)).toInt64 <<< ((nI 32).toInt64 &&& 63) ||| (xs (i + 4)).toInt64 &&& lN 4294967295)) rfl rfl (h0) rfl rfl (Nat.le_of_ble_eq_true rfl) (by omega) (by omega) (fun r w' hp => ?_)
  obtain ⟨v, ⟨x, rfl⟩, rfl, ⟨fs6, h6⟩, hM2⟩ := hp
  show AW M_law_law _ _ _ _ 704 _ [.int x] _ _ _
  refine aw_aload_n 2 D_law_law_704 rfl rfl ?_
  refine aw_aload_n 0 D_law_law_705 rfl rfl ?_
  refine aw_iload_n 3 D_law_law_706 rfl rfl ?_
  refine aw_iconst (nI 1) D_law_law_707 rfl ?_
  first | with_reducible refine aw_iaddN D_law_law_708 ?_ | refine aw_iadd D_law_law_708 ?_
  refine aw_sldN D_law_law_709 (by omega) (by omega) ?_
  refine aw_aload_n 0 D_law_law_710 rfl rfl ?_
  refine aw_iload_n 3 D_law_law_711 rfl rfl ?_
  refine aw_iconst (nI 2) D_law_law_712 rfl ?_
  first | with_reducible refine aw_iaddN D_law_law_713 ?_ | refine aw_iadd D_law_law_713 ?_
  refine aw_sldN D_law_law_714 (by omega) (by omega) ?_
  refine aw_aload_n 0 D_law_law_715 rfl rfl ?_
  refine aw_iload_n 3 D_law_law_716 rfl rfl ?_
  refine aw_iconst (nI 3) D_law_law_717 rfl ?_
  first | with_reducible refine aw_iaddN D_law_law_718 ?_ | refine aw_iadd D_law_law_718 ?_
  refine aw_sldN D_law_law_719 (by omega) (by omega) ?_
  first | with_reducible refine aw_i2lN D_law_law_720 (by omega) ?_ | refine aw_i2l D_law_law_720 ?_
  refine aw_bipush (nI 32) D_law_law_721 rfl ?_
  refine aw_lshl D_law_law_723 ?_
  refine aw_aload_n 0 D_law_law_724 rfl rfl ?_
  refine aw_iload_n 3 D_law_law_725 rfl rfl ?_
  refine aw_iconst (nI 4) D_law_law_726 rfl ?_
  first | with_reducible refine aw_iaddN D_law_law_727 ?_ | refine aw_iadd D_law_law_727 ?_
  refine aw_sldN D_law_law_728 (by omega) (by omega) ?_
  first | with_reducible refine aw_i2lN D_law_law_729 (by omega) ?_ | refine aw_i2l D_law_law_729 ?_
  refine aw_ldc2 D_law_law_730 ?_
  refine aw_land D_law_law_733 ?_
  refine aw_lor D_law_law_734 ?_
  refine aw_callV (As := [_, _, _]) D_law_law_735 kv_mo_put (hM2) rfl rfl (h6) rfl rfl (Nat.le_of_ble_eq_true rfl) (by omega) (by omega) (fun r w' hp => ?_)
  obtain ⟨rfl, hI2⟩ := hp
  show AW M_law_law _ _ _ _ 738 _ [.int x, .int x] _ _ _
  refine aw_icmp_eq D_law_law_738 (fun h => ?_) (fun h => absurd rfl h)
  exact hg _ _ _ hI2 (by omega) (by omega)
theorem lc_at (hi : i + 6 ≤ L) (hL : L ≤ 3072) (hI : LI w) (hc : nc + 1 ≤ 600000) (hs : ns + 4096 ≤ 7302250) (hg : Go L xs i nc ns) : AW M_law_law (lawP L xs) lawZ 600000 7302250 743 [(0, .ref 8), (1, .ref 0), (2, .ref 6), (3, .int (nI i))] [] w nc ns := by
  obtain ⟨fs0, h0⟩ := hI.look
  refine aw_aload_n 1 D_law_law_743 rfl rfl ?_
  refine aw_aload_n 0 D_law_law_744 rfl rfl ?_
  refine aw_iload_n 3 D_law_law_745 rfl rfl ?_
  refine aw_iconst (nI 1) D_law_law_746 rfl ?_
  first | with_reducible refine aw_iaddN D_law_law_747 ?_ | refine aw_iadd D_law_law_747 ?_
  refine aw_sldN D_law_law_748 (by omega) (by omega) ?_
  refine aw_aload_n 0 D_law_law_749 rfl rfl ?_
  refine aw_iload_n 3 D_law_law_750 rfl rfl ?_
  refine aw_iconst (nI 2) D_law_law_751 rfl ?_
  first | with_reducible refine aw_iaddN D_law_law_752 ?_ | refine aw_iadd D_law_law_752 ?_
  refine aw_sldN D_law_law_753 (by omega) (by omega) ?_
  refine aw_aload_n 0 D_law_law_754 rfl rfl ?_
  refine aw_iload_n 3 D_law_law_755 rfl rfl ?_
  refine aw_iconst (nI 3) D_law_law_756 rfl ?_
  first | with_reducible refine aw_iaddN D_law_law_757 ?_ | refine aw_iadd D_law_law_757 ?_
  refine aw_sldN D_law_law_758 (by omega) (by omega) ?_
  refine aw_callV (As := [_, _, _]) D_law_law_759 kv_br_at (pr_at hI (xs (i + 1)) (xs (i + 2)) (xs (i + 3))) rfl rfl (h0) rfl rfl (Nat.le_of_ble_eq_true rfl) (by omega) (by omega) (fun r w' hp => ?_)
  obtain ⟨v, ⟨x, rfl⟩, rfl, ⟨fs6, h6⟩, hM2⟩ := hp
  show AW M_law_law _ _ _ _ 762 _ [.long x] _ _ _
  refine aw_aload_n 2 D_law_law_762 rfl rfl ?_
  refine aw_aload_n 0 D_law_law_763 rfl rfl ?_
  refine aw_iload_n 3 D_law_law_764 rfl rfl ?_
  refine aw_iconst (nI 1) D_law_law_765 rfl ?_
  first | with_reducible refine aw_iaddN D_law_law_766 ?_ | refine aw_iadd D_law_law_766 ?_
  refine aw_sldN D_law_law_767 (by omega) (by omega) ?_
  refine aw_aload_n 0 D_law_law_768 rfl rfl ?_
  refine aw_iload_n 3 D_law_law_769 rfl rfl ?_
  refine aw_iconst (nI 2) D_law_law_770 rfl ?_
  first | with_reducible refine aw_iaddN D_law_law_771 ?_ | refine aw_iadd D_law_law_771 ?_
  refine aw_sldN D_law_law_772 (by omega) (by omega) ?_
  refine aw_aload_n 0 D_law_law_773 rfl rfl ?_
  refine aw_iload_n 3 D_law_law_774 rfl rfl ?_
  refine aw_iconst (nI 3) D_law_law_775 rfl ?_
  first | with_reducible refine aw_iaddN D_law_law_776 ?_ | refine aw_iadd D_law_law_776 ?_
  refine aw_sldN D_law_law_777 (by omega) (by omega) ?_
  refine aw_callV (As := [_, _, _]) D_law_law_778 kv_mo_at (hM2) rfl rfl (h6) rfl rfl (Nat.le_of_ble_eq_true rfl) (by omega) (by omega) (fun r w' hp => ?_)
  obtain ⟨rfl, hI2⟩ := hp
  show AW M_law_law _ _ _ _ 781 _ [.long x, .long x] _ _ _
  refine aw_lcmp D_law_law_781 ?_
  refine aw_if_eq D_law_law_782 (fun h => ?_) (fun h => absurd ((lg_cmp_eq _ _).mpr rfl) h)
  exact hg _ _ _ hI2 (by omega) (by omega)
theorem lc_out (hi : i + 6 ≤ L) (hL : L ≤ 3072) (hI : LI w) (hc : nc + 1 ≤ 600000) (hs : ns + 4096 ≤ 7302250) (hg : Go L xs i nc ns) : AW M_law_law (lawP L xs) lawZ 600000 7302250 787 [(0, .ref 8), (1, .ref 0), (2, .ref 6), (3, .int (nI i))] [] w nc ns := by
  obtain ⟨fs0, h0⟩ := hI.look
  refine aw_aload_n 1 D_law_law_787 rfl rfl ?_
  refine aw_aload_n 0 D_law_law_788 rfl rfl ?_
  refine aw_iload_n 3 D_law_law_789 rfl rfl ?_
  refine aw_iconst (nI 1) D_law_law_790 rfl ?_
  first | with_reducible refine aw_iaddN D_law_law_791 ?_ | refine aw_iadd D_law_law_791 ?_
  refine aw_sldN D_law_law_792 (by omega) (by omega) ?_
  refine aw_aload_n 0 D_law_law_793 rfl rfl ?_
  refine aw_iload_n 3 D_law_law_794 rfl rfl ?_
  refine aw_iconst (nI 2) D_law_law_795 rfl ?_
  first | with_reducible refine aw_iaddN D_law_law_796 ?_ | refine aw_iadd D_law_law_796 ?_
  refine aw_sldN D_law_law_797 (by omega) (by omega) ?_
  refine aw_aload_n 0 D_law_law_798 rfl rfl ?_
  refine aw_iload_n 3 D_law_law_799 rfl rfl ?_
  refine aw_iconst (nI 3) D_law_law_800 rfl ?_
  first | with_reducible refine aw_iaddN D_law_law_801 ?_ | refine aw_iadd D_law_law_801 ?_
  refine aw_sldN D_law_law_802 (by omega) (by omega) ?_
  refine aw_aload_n 0 D_law_law_803 rfl rfl ?_
  refine aw_iload_n 3 D_law_law_804 rfl rfl ?_
  refine aw_iconst (nI 4) D_law_law_805 rfl ?_
  first | with_reducible refine aw_iaddN D_law_law_806 ?_ | refine aw_iadd D_law_law_806 ?_
  refine aw_sldN D_law_law_807 (by omega) (by omega) ?_
  refine aw_callV (As := [_, _, _, _]) D_law_law_808 kv_br_out (pr_out hI (xs (i + 1)) (xs (i + 2)) (xs (i + 3)) (xs (i + 4))) rfl rfl (h0) rfl rfl (Nat.le_of_ble_eq_true rfl) (by omega) (by omega) (fun r w' hp => ?_)
  obtain ⟨v, ⟨x, rfl⟩, rfl, ⟨fs6, h6⟩, hM2⟩ := hp
  show AW M_law_law _ _ _ _ 811 _ [.int x] _ _ _
  refine aw_aload_n 2 D_law_law_811 rfl rfl ?_
  refine aw_aload_n 0 D_law_law_812 rfl rfl ?_
  refine aw_iload_n 3 D_law_law_813 rfl rfl ?_
  refine aw_iconst (nI 1) D_law_law_814 rfl ?_
  first | with_reducible refine aw_iaddN D_law_law_815 ?_ | refine aw_iadd D_law_law_815 ?_
  refine aw_sldN D_law_law_816 (by omega) (by omega) ?_
  refine aw_aload_n 0 D_law_law_817 rfl rfl ?_
  refine aw_iload_n 3 D_law_law_818 rfl rfl ?_
  refine aw_iconst (nI 2) D_law_law_819 rfl ?_
  first | with_reducible refine aw_iaddN D_law_law_820 ?_ | refine aw_iadd D_law_law_820 ?_
  refine aw_sldN D_law_law_821 (by omega) (by omega) ?_
  refine aw_aload_n 0 D_law_law_822 rfl rfl ?_
  refine aw_iload_n 3 D_law_law_823 rfl rfl ?_
  refine aw_iconst (nI 3) D_law_law_824 rfl ?_
  first | with_reducible refine aw_iaddN D_law_law_825 ?_ | refine aw_iadd D_law_law_825 ?_
  refine aw_sldN D_law_law_826 (by omega) (by omega) ?_
  refine aw_aload_n 0 D_law_law_827 rfl rfl ?_
  refine aw_iload_n 3 D_law_law_828 rfl rfl ?_
  refine aw_iconst (nI 4) D_law_law_829 rfl ?_
  first | with_reducible refine aw_iaddN D_law_law_830 ?_ | refine aw_iadd D_law_law_830 ?_
  refine aw_sldN D_law_law_831 (by omega) (by omega) ?_
  refine aw_callV (As := [_, _, _, _]) D_law_law_832 kv_mo_out (hM2) rfl rfl (h6) rfl rfl (Nat.le_of_ble_eq_true rfl) (by omega) (by omega) (fun r w' hp => ?_)
  obtain ⟨rfl, hI2⟩ := hp
  show AW M_law_law _ _ _ _ 835 _ [.int x, .int x] _ _ _
  refine aw_icmp_eq D_law_law_835 (fun h => ?_) (fun h => absurd rfl h)
  exact hg _ _ _ hI2 (by omega) (by omega)
theorem lc_thin (hi : i + 6 ≤ L) (hL : L ≤ 3072) (hI : LI w) (hc : nc + 1 ≤ 600000) (hs : ns + 4096 ≤ 7302250) (hg : Go L xs i nc ns) : AW M_law_law (lawP L xs) lawZ 600000 7302250 840 [(0, .ref 8), (1, .ref 0), (2, .ref 6), (3, .int (nI i))] [] w nc ns := by
  obtain ⟨fs0, h0⟩ := hI.look
  refine aw_aload_n 1 D_law_law_840 rfl rfl ?_
  refine aw_aload_n 0 D_law_law_841 rfl rfl ?_
  refine aw_iload_n 3 D_law_law_842 rfl rfl ?_
  refine aw_iconst (nI 1) D_law_law_843 rfl ?_
  first | with_reducible refine aw_iaddN D_law_law_844 ?_ | refine aw_iadd D_law_law_844 ?_
  refine aw_sldN D_law_law_845 (by omega) (by omega) ?_
  refine aw_aload_n 0 D_law_law_846 rfl rfl ?_
  refine aw_iload_n 3 D_law_law_847 rfl rfl ?_
  refine aw_iconst (nI 2) D_law_law_848 rfl ?_
  first | with_reducible refine aw_iaddN D_law_law_849 ?_ | refine aw_iadd D_law_law_849 ?_
  refine aw_sldN D_law_law_850 (by omega) (by omega) ?_
  refine aw_aload_n 0 D_law_law_851 rfl rfl ?_
  refine aw_iload_n 3 D_law_law_852 rfl rfl ?_
  refine aw_iconst (nI 3) D_law_law_853 rfl ?_
  first | with_reducible refine aw_iaddN D_law_law_854 ?_ | refine aw_iadd D_law_law_854 ?_
  refine aw_sldN D_law_law_855 (by omega) (by omega) ?_
  refine aw_callV (As := [_, _, _]) D_law_law_856 kv_br_thin (pr_thin hI (xs (i + 1)) (xs (i + 2)) (xs (i + 3))) rfl rfl (h0) rfl rfl (Nat.le_of_ble_eq_true rfl) (by omega) (by omega) (fun r w' hp => ?_)
  obtain ⟨v, ⟨x, rfl⟩, rfl, ⟨fs6, h6⟩, hM2⟩ := hp
  show AW M_law_law _ _ _ _ 859 _ [.int x] _ _ _
  refine aw_aload_n 2 D_law_law_859 rfl rfl ?_
  refine aw_aload_n 0 D_law_law_860 rfl rfl ?_
  refine aw_iload_n 3 D_law_law_861 rfl rfl ?_
  refine aw_iconst (nI 1) D_law_law_862 rfl ?_
  first | with_reducible refine aw_iaddN D_law_law_863 ?_ | refine aw_iadd D_law_law_863 ?_
  refine aw_sldN D_law_law_864 (by omega) (by omega) ?_
  refine aw_aload_n 0 D_law_law_865 rfl rfl ?_
  refine aw_iload_n 3 D_law_law_866 rfl rfl ?_
  refine aw_iconst (nI 2) D_law_law_867 rfl ?_
  first | with_reducible refine aw_iaddN D_law_law_868 ?_ | refine aw_iadd D_law_law_868 ?_
  refine aw_sldN D_law_law_869 (by omega) (by omega) ?_
  refine aw_aload_n 0 D_law_law_870 rfl rfl ?_
  refine aw_iload_n 3 D_law_law_871 rfl rfl ?_
  refine aw_iconst (nI 3) D_law_law_872 rfl ?_
  first | with_reducible refine aw_iaddN D_law_law_873 ?_ | refine aw_iadd D_law_law_873 ?_
  refine aw_sldN D_law_law_874 (by omega) (by omega) ?_
  refine aw_callV (As := [_, _, _]) D_law_law_875 kv_mo_thin (hM2) rfl rfl (h6) rfl rfl (Nat.le_of_ble_eq_true rfl) (by omega) (by omega) (fun r w' hp => ?_)
  obtain ⟨rfl, hI2⟩ := hp
  show AW M_law_law _ _ _ _ 878 _ [.int x, .int x] _ _ _
  refine aw_icmp_eq D_law_law_878 (fun h => ?_) (fun h => absurd rfl h)
  exact hg _ _ _ hI2 (by omega) (by omega)
theorem lc_mix (hi : i + 6 ≤ L) (hL : L ≤ 3072) (hI : LI w) (hc : nc + 1 ≤ 600000) (hs : ns + 4096 ≤ 7302250) (hg : Go L xs i nc ns) : AW M_law_law (lawP L xs) lawZ 600000 7302250 883 [(0, .ref 8), (1, .ref 0), (2, .ref 6), (3, .int (nI i))] [] w nc ns := by
  obtain ⟨fs0, h0⟩ := hI.look
  refine aw_aload_n 1 D_law_law_883 rfl rfl ?_
  refine aw_aload_n 0 D_law_law_884 rfl rfl ?_
  refine aw_iload_n 3 D_law_law_885 rfl rfl ?_
  refine aw_iconst (nI 1) D_law_law_886 rfl ?_
  first | with_reducible refine aw_iaddN D_law_law_887 ?_ | refine aw_iadd D_law_law_887 ?_
  refine aw_sldN D_law_law_888 (by omega) (by omega) ?_
  refine aw_aload_n 0 D_law_law_889 rfl rfl ?_
  refine aw_iload_n 3 D_law_law_890 rfl rfl ?_
  refine aw_iconst (nI 2) D_law_law_891 rfl ?_
  first | with_reducible refine aw_iaddN D_law_law_892 ?_ | refine aw_iadd D_law_law_892 ?_
  refine aw_sldN D_law_law_893 (by omega) (by omega) ?_
  refine aw_aload_n 0 D_law_law_894 rfl rfl ?_
  refine aw_iload_n 3 D_law_law_895 rfl rfl ?_
  refine aw_iconst (nI 3) D_law_law_896 rfl ?_
  first | with_reducible refine aw_iaddN D_law_law_897 ?_ | refine aw_iadd D_law_law_897 ?_
  refine aw_sldN D_law_law_898 (by omega) (by omega) ?_
  refine aw_callV (As := [_, _, _]) D_law_law_899 kv_br_mix (pr_mix hI (xs (i + 1)) (xs (i + 2)) (xs (i + 3))) rfl rfl (h0) rfl rfl (Nat.le_of_ble_eq_true rfl) (by omega) (by omega) (fun r w' hp => ?_)
  obtain ⟨v, ⟨x, rfl⟩, rfl, ⟨fs6, h6⟩, hM2⟩ := hp
  show AW M_law_law _ _ _ _ 902 _ [.int x] _ _ _
  refine aw_aload_n 2 D_law_law_902 rfl rfl ?_
  refine aw_aload_n 0 D_law_law_903 rfl rfl ?_
  refine aw_iload_n 3 D_law_law_904 rfl rfl ?_
  refine aw_iconst (nI 1) D_law_law_905 rfl ?_
  first | with_reducible refine aw_iaddN D_law_law_906 ?_ | refine aw_iadd D_law_law_906 ?_
  refine aw_sldN D_law_law_907 (by omega) (by omega) ?_
  refine aw_aload_n 0 D_law_law_908 rfl rfl ?_
  refine aw_iload_n 3 D_law_law_909 rfl rfl ?_
  refine aw_iconst (nI 2) D_law_law_910 rfl ?_
  first | with_reducible refine aw_iaddN D_law_law_911 ?_ | refine aw_iadd D_law_law_911 ?_
  refine aw_sldN D_law_law_912 (by omega) (by omega) ?_
  refine aw_aload_n 0 D_law_law_913 rfl rfl ?_
  refine aw_iload_n 3 D_law_law_914 rfl rfl ?_
  refine aw_iconst (nI 3) D_law_law_915 rfl ?_
  first | with_reducible refine aw_iaddN D_law_law_916 ?_ | refine aw_iadd D_law_law_916 ?_
  refine aw_sldN D_law_law_917 (by omega) (by omega) ?_
  refine aw_callV (As := [_, _, _]) D_law_law_918 kv_mo_mix (hM2) rfl rfl (h6) rfl rfl (Nat.le_of_ble_eq_true rfl) (by omega) (by omega) (fun r w' hp => ?_)
  obtain ⟨rfl, hI2⟩ := hp
  show AW M_law_law _ _ _ _ 921 _ [.int x, .int x] _ _ _
  refine aw_icmp_eq D_law_law_921 (fun h => ?_) (fun h => absurd rfl h)
  exact hg _ _ _ hI2 (by omega) (by omega)
theorem lc_order (hi : i + 6 ≤ L) (hL : L ≤ 3072) (hI : LI w) (hc : nc + 1 ≤ 600000) (hs : ns + 4096 ≤ 7302250) (hg : Go L xs i nc ns) : AW M_law_law (lawP L xs) lawZ 600000 7302250 926 [(0, .ref 8), (1, .ref 0), (2, .ref 6), (3, .int (nI i))] [] w nc ns := by
  obtain ⟨fs0, h0⟩ := hI.look
  refine aw_aload_n 1 D_law_law_926 rfl rfl ?_
  refine aw_aload_n 0 D_law_law_927 rfl rfl ?_
  refine aw_iload_n 3 D_law_law_928 rfl rfl ?_
  refine aw_iconst (nI 1) D_law_law_929 rfl ?_
  first | with_reducible refine aw_iaddN D_law_law_930 ?_ | refine aw_iadd D_law_law_930 ?_
  refine aw_sldN D_law_law_931 (by omega) (by omega) ?_
  refine aw_aload_n 0 D_law_law_932 rfl rfl ?_
  refine aw_iload_n 3 D_law_law_933 rfl rfl ?_
  refine aw_iconst (nI 2) D_law_law_934 rfl ?_
  first | with_reducible refine aw_iaddN D_law_law_935 ?_ | refine aw_iadd D_law_law_935 ?_
  refine aw_sldN D_law_law_936 (by omega) (by omega) ?_
  refine aw_callV (As := [_, _]) D_law_law_937 kv_br_order (pr_order hI (xs (i + 1)) (xs (i + 2))) rfl rfl (h0) rfl rfl (Nat.le_of_ble_eq_true rfl) (by omega) (by omega) (fun r w' hp => ?_)
  obtain ⟨v, ⟨x, rfl⟩, rfl, ⟨fs6, h6⟩, hM2⟩ := hp
  show AW M_law_law _ _ _ _ 940 _ [.int x] _ _ _
  refine aw_aload_n 2 D_law_law_940 rfl rfl ?_
  refine aw_aload_n 0 D_law_law_941 rfl rfl ?_
  refine aw_iload_n 3 D_law_law_942 rfl rfl ?_
  refine aw_iconst (nI 1) D_law_law_943 rfl ?_
  first | with_reducible refine aw_iaddN D_law_law_944 ?_ | refine aw_iadd D_law_law_944 ?_
  refine aw_sldN D_law_law_945 (by omega) (by omega) ?_
  refine aw_aload_n 0 D_law_law_946 rfl rfl ?_
  refine aw_iload_n 3 D_law_law_947 rfl rfl ?_
  refine aw_iconst (nI 2) D_law_law_948 rfl ?_
  first | with_reducible refine aw_iaddN D_law_law_949 ?_ | refine aw_iadd D_law_law_949 ?_
  refine aw_sldN D_law_law_950 (by omega) (by omega) ?_
  refine aw_callV (As := [_, _]) D_law_law_951 kv_mo_order (hM2) rfl rfl (h6) rfl rfl (Nat.le_of_ble_eq_true rfl) (by omega) (by omega) (fun r w' hp => ?_)
  obtain ⟨rfl, hI2⟩ := hp
  show AW M_law_law _ _ _ _ 954 _ [.int x, .int x] _ _ _
  refine aw_icmp_eq D_law_law_954 (fun h => ?_) (fun h => absurd rfl h)
  exact hg _ _ _ hI2 (by omega) (by omega)
theorem lc_greatest (hi : i + 6 ≤ L) (hL : L ≤ 3072) (hI : LI w) (hc : nc + 1 ≤ 600000) (hs : ns + 4096 ≤ 7302250) (hg : Go L xs i nc ns) : AW M_law_law (lawP L xs) lawZ 600000 7302250 959 [(0, .ref 8), (1, .ref 0), (2, .ref 6), (3, .int (nI i))] [] w nc ns := by
  obtain ⟨fs0, h0⟩ := hI.look
  refine aw_aload_n 1 D_law_law_959 rfl rfl ?_
  refine aw_aload_n 0 D_law_law_960 rfl rfl ?_
  refine aw_iload_n 3 D_law_law_961 rfl rfl ?_
  refine aw_iconst (nI 1) D_law_law_962 rfl ?_
  first | with_reducible refine aw_iaddN D_law_law_963 ?_ | refine aw_iadd D_law_law_963 ?_
  refine aw_sldN D_law_law_964 (by omega) (by omega) ?_
  refine aw_aload_n 0 D_law_law_965 rfl rfl ?_
  refine aw_iload_n 3 D_law_law_966 rfl rfl ?_
  refine aw_iconst (nI 2) D_law_law_967 rfl ?_
  first | with_reducible refine aw_iaddN D_law_law_968 ?_ | refine aw_iadd D_law_law_968 ?_
  refine aw_sldN D_law_law_969 (by omega) (by omega) ?_
  refine aw_callV (As := [_, _]) D_law_law_970 kv_br_greatest (pr_greatest hI (xs (i + 1)) (xs (i + 2))) rfl rfl (h0) rfl rfl (Nat.le_of_ble_eq_true rfl) (by omega) (by omega) (fun r w' hp => ?_)
  obtain ⟨v, ⟨x, rfl⟩, rfl, ⟨fs6, h6⟩, hM2⟩ := hp
  show AW M_law_law _ _ _ _ 973 _ [.int x] _ _ _
  refine aw_aload_n 2 D_law_law_973 rfl rfl ?_
  refine aw_aload_n 0 D_law_law_974 rfl rfl ?_
  refine aw_iload_n 3 D_law_law_975 rfl rfl ?_
  refine aw_iconst (nI 1) D_law_law_976 rfl ?_
  first | with_reducible refine aw_iaddN D_law_law_977 ?_ | refine aw_iadd D_law_law_977 ?_
  refine aw_sldN D_law_law_978 (by omega) (by omega) ?_
  refine aw_aload_n 0 D_law_law_979 rfl rfl ?_
  refine aw_iload_n 3 D_law_law_980 rfl rfl ?_
  refine aw_iconst (nI 2) D_law_law_981 rfl ?_
  first | with_reducible refine aw_iaddN D_law_law_982 ?_ | refine aw_iadd D_law_law_982 ?_
  refine aw_sldN D_law_law_983 (by omega) (by omega) ?_
  refine aw_callV (As := [_, _]) D_law_law_984 kv_mo_greatest (hM2) rfl rfl (h6) rfl rfl (Nat.le_of_ble_eq_true rfl) (by omega) (by omega) (fun r w' hp => ?_)
  obtain ⟨rfl, hI2⟩ := hp
  show AW M_law_law _ _ _ _ 987 _ [.int x, .int x] _ _ _
  refine aw_icmp_eq D_law_law_987 (fun h => ?_) (fun h => absurd rfl h)
  exact hg _ _ _ hI2 (by omega) (by omega)
theorem lc_period (hi : i + 6 ≤ L) (hL : L ≤ 3072) (hI : LI w) (hc : nc + 1 ≤ 600000) (hs : ns + 4096 ≤ 7302250) (hg : Go L xs i nc ns) : AW M_law_law (lawP L xs) lawZ 600000 7302250 992 [(0, .ref 8), (1, .ref 0), (2, .ref 6), (3, .int (nI i))] [] w nc ns := by
  obtain ⟨fs0, h0⟩ := hI.look
  refine aw_aload_n 1 D_law_law_992 rfl rfl ?_
  refine aw_aload_n 0 D_law_law_993 rfl rfl ?_
  refine aw_iload_n 3 D_law_law_994 rfl rfl ?_
  refine aw_iconst (nI 1) D_law_law_995 rfl ?_
  first | with_reducible refine aw_iaddN D_law_law_996 ?_ | refine aw_iadd D_law_law_996 ?_
  refine aw_sldN D_law_law_997 (by omega) (by omega) ?_
  refine aw_callV (As := [_]) D_law_law_998 kv_br_period (pr_period hI (xs (i + 1))) rfl rfl (h0) rfl rfl (Nat.le_of_ble_eq_true rfl) (by omega) (by omega) (fun r w' hp => ?_)
  obtain ⟨v, ⟨x, rfl⟩, rfl, ⟨fs6, h6⟩, hM2⟩ := hp
  show AW M_law_law _ _ _ _ 1001 _ [.int x] _ _ _
  refine aw_aload_n 2 D_law_law_1001 rfl rfl ?_
  refine aw_aload_n 0 D_law_law_1002 rfl rfl ?_
  refine aw_iload_n 3 D_law_law_1003 rfl rfl ?_
  refine aw_iconst (nI 1) D_law_law_1004 rfl ?_
  first | with_reducible refine aw_iaddN D_law_law_1005 ?_ | refine aw_iadd D_law_law_1005 ?_
  refine aw_sldN D_law_law_1006 (by omega) (by omega) ?_
  refine aw_callV (As := [_]) D_law_law_1007 kv_mo_period (hM2) rfl rfl (h6) rfl rfl (Nat.le_of_ble_eq_true rfl) (by omega) (by omega) (fun r w' hp => ?_)
  obtain ⟨rfl, hI2⟩ := hp
  show AW M_law_law _ _ _ _ 1010 _ [.int x, .int x] _ _ _
  refine aw_icmp_eq D_law_law_1010 (fun h => ?_) (fun h => absurd rfl h)
  exact hg _ _ _ hI2 (by omega) (by omega)
theorem lc_learn (hi : i + 6 ≤ L) (hL : L ≤ 3072) (hI : LI w) (hc : nc + 1 ≤ 600000) (hs : ns + 4096 ≤ 7302250) (hg : Go L xs i nc ns) : AW M_law_law (lawP L xs) lawZ 600000 7302250 1015 [(0, .ref 8), (1, .ref 0), (2, .ref 6), (3, .int (nI i))] [] w nc ns := by
  obtain ⟨fs0, h0⟩ := hI.look
  refine aw_aload_n 1 D_law_law_1015 rfl rfl ?_
  refine aw_aload_n 0 D_law_law_1016 rfl rfl ?_
  refine aw_iload_n 3 D_law_law_1017 rfl rfl ?_
  refine aw_iconst (nI 1) D_law_law_1018 rfl ?_
  first | with_reducible refine aw_iaddN D_law_law_1019 ?_ | refine aw_iadd D_law_law_1019 ?_
  refine aw_sldN D_law_law_1020 (by omega) (by omega) ?_
  refine aw_callV (As := [_]) D_law_law_1021 kv_br_learn (pr_learn hI (xs (i + 1))) rfl rfl (h0) rfl rfl (Nat.le_of_ble_eq_true rfl) (by omega) (by omega) (fun r w' hp => ?_)
  obtain ⟨v, ⟨x, rfl⟩, rfl, ⟨fs6, h6⟩, hM2⟩ := hp
  show AW M_law_law _ _ _ _ 1024 _ [.int x] _ _ _
  refine aw_aload_n 2 D_law_law_1024 rfl rfl ?_
  refine aw_aload_n 0 D_law_law_1025 rfl rfl ?_
  refine aw_iload_n 3 D_law_law_1026 rfl rfl ?_
  refine aw_iconst (nI 1) D_law_law_1027 rfl ?_
  first | with_reducible refine aw_iaddN D_law_law_1028 ?_ | refine aw_iadd D_law_law_1028 ?_
  refine aw_sldN D_law_law_1029 (by omega) (by omega) ?_
  refine aw_callV (As := [_]) D_law_law_1030 kv_mo_learn (hM2) rfl rfl (h6) rfl rfl (Nat.le_of_ble_eq_true rfl) (by omega) (by omega) (fun r w' hp => ?_)
  obtain ⟨rfl, hI2⟩ := hp
  show AW M_law_law _ _ _ _ 1033 _ [.int x, .int x] _ _ _
  refine aw_icmp_eq D_law_law_1033 (fun h => ?_) (fun h => absurd rfl h)
  exact hg _ _ _ hI2 (by omega) (by omega)
theorem lc_along (hi : i + 6 ≤ L) (hL : L ≤ 3072) (hI : LI w) (hc : nc + 1 ≤ 600000) (hs : ns + 4096 ≤ 7302250) (hg : Go L xs i nc ns) : AW M_law_law (lawP L xs) lawZ 600000 7302250 1038 [(0, .ref 8), (1, .ref 0), (2, .ref 6), (3, .int (nI i))] [] w nc ns := by
  obtain ⟨fs0, h0⟩ := hI.look
  refine aw_aload_n 1 D_law_law_1038 rfl rfl ?_
  refine aw_aload_n 0 D_law_law_1039 rfl rfl ?_
  refine aw_iload_n 3 D_law_law_1040 rfl rfl ?_
  refine aw_iconst (nI 1) D_law_law_1041 rfl ?_
  first | with_reducible refine aw_iaddN D_law_law_1042 ?_ | refine aw_iadd D_law_law_1042 ?_
  refine aw_sldN D_law_law_1043 (by omega) (by omega) ?_
  refine aw_aload_n 0 D_law_law_1044 rfl rfl ?_
  refine aw_iload_n 3 D_law_law_1045 rfl rfl ?_
  refine aw_iconst (nI 2) D_law_law_1046 rfl ?_
  first | with_reducible refine aw_iaddN D_law_law_1047 ?_ | refine aw_iadd D_law_law_1047 ?_
  refine aw_sldN D_law_law_1048 (by omega) (by omega) ?_
  refine aw_callV (As := [_, _]) D_law_law_1049 kv_br_along (pr_along hI (xs (i + 1)) (xs (i + 2))) rfl rfl (h0) rfl rfl (Nat.le_of_ble_eq_true rfl) (by omega) (by omega) (fun r w' hp => ?_)
  obtain ⟨v, ⟨x, rfl⟩, rfl, ⟨fs6, h6⟩, hM2⟩ := hp
  show AW M_law_law _ _ _ _ 1052 _ [.int x] _ _ _
  refine aw_aload_n 2 D_law_law_1052 rfl rfl ?_
  refine aw_aload_n 0 D_law_law_1053 rfl rfl ?_
  refine aw_iload_n 3 D_law_law_1054 rfl rfl ?_
  refine aw_iconst (nI 1) D_law_law_1055 rfl ?_
  first | with_reducible refine aw_iaddN D_law_law_1056 ?_ | refine aw_iadd D_law_law_1056 ?_
  refine aw_sldN D_law_law_1057 (by omega) (by omega) ?_
  refine aw_aload_n 0 D_law_law_1058 rfl rfl ?_
  refine aw_iload_n 3 D_law_law_1059 rfl rfl ?_
  refine aw_iconst (nI 2) D_law_law_1060 rfl ?_
  first | with_reducible refine aw_iaddN D_law_law_1061 ?_ | refine aw_iadd D_law_law_1061 ?_
  refine aw_sldN D_law_law_1062 (by omega) (by omega) ?_
  refine aw_callV (As := [_, _]) D_law_law_1063 kv_mo_along (hM2) rfl rfl (h6) rfl rfl (Nat.le_of_ble_eq_true rfl) (by omega) (by omega) (fun r w' hp => ?_)
  obtain ⟨rfl, hI2⟩ := hp
  show AW M_law_law _ _ _ _ 1066 _ [.int x, .int x] _ _ _
  refine aw_icmp_eq D_law_law_1066 (fun h => ?_) (fun h => absurd rfl h)
  exact hg _ _ _ hI2 (by omega) (by omega)
theorem lc_tell (hi : i + 6 ≤ L) (hL : L ≤ 3072) (hI : LI w) (hc : nc + 1 ≤ 600000) (hs : ns + 4096 ≤ 7302250) (hg : Go L xs i nc ns) : AW M_law_law (lawP L xs) lawZ 600000 7302250 1071 [(0, .ref 8), (1, .ref 0), (2, .ref 6), (3, .int (nI i))] [] w nc ns := by
  obtain ⟨fs0, h0⟩ := hI.look
  refine aw_aload_n 1 D_law_law_1071 rfl rfl ?_
  refine aw_aload_n 0 D_law_law_1072 rfl rfl ?_
  refine aw_iload_n 3 D_law_law_1073 rfl rfl ?_
  refine aw_iconst (nI 1) D_law_law_1074 rfl ?_
  first | with_reducible refine aw_iaddN D_law_law_1075 ?_ | refine aw_iadd D_law_law_1075 ?_
  refine aw_sldN D_law_law_1076 (by omega) (by omega) ?_
  refine aw_callV (As := [_]) D_law_law_1077 kv_br_tell (pr_tell hI (xs (i + 1))) rfl rfl (h0) rfl rfl (Nat.le_of_ble_eq_true rfl) (by omega) (by omega) (fun r w' hp => ?_)
  obtain ⟨v, ⟨x, rfl⟩, rfl, ⟨fs6, h6⟩, hM2⟩ := hp
  show AW M_law_law _ _ _ _ 1080 _ [.int x] _ _ _
  refine aw_aload_n 2 D_law_law_1080 rfl rfl ?_
  refine aw_aload_n 0 D_law_law_1081 rfl rfl ?_
  refine aw_iload_n 3 D_law_law_1082 rfl rfl ?_
  refine aw_iconst (nI 1) D_law_law_1083 rfl ?_
  first | with_reducible refine aw_iaddN D_law_law_1084 ?_ | refine aw_iadd D_law_law_1084 ?_
  refine aw_sldN D_law_law_1085 (by omega) (by omega) ?_
  refine aw_callV (As := [_]) D_law_law_1086 kv_mo_tell (hM2) rfl rfl (h6) rfl rfl (Nat.le_of_ble_eq_true rfl) (by omega) (by omega) (fun r w' hp => ?_)
  obtain ⟨rfl, hI2⟩ := hp
  show AW M_law_law _ _ _ _ 1089 _ [.int x, .int x] _ _ _
  refine aw_icmp_eq D_law_law_1089 (fun h => ?_) (fun h => absurd rfl h)
  exact hg _ _ _ hI2 (by omega) (by omega)
theorem lc_weigh (hi : i + 6 ≤ L) (hL : L ≤ 3072) (hI : LI w) (hc : nc + 1 ≤ 600000) (hs : ns + 4096 ≤ 7302250) (hg : Go L xs i nc ns) : AW M_law_law (lawP L xs) lawZ 600000 7302250 1094 [(0, .ref 8), (1, .ref 0), (2, .ref 6), (3, .int (nI i))] [] w nc ns := by
  obtain ⟨fs0, h0⟩ := hI.look
  refine aw_aload_n 1 D_law_law_1094 rfl rfl ?_
  refine aw_aload_n 0 D_law_law_1095 rfl rfl ?_
  refine aw_iload_n 3 D_law_law_1096 rfl rfl ?_
  refine aw_iconst (nI 1) D_law_law_1097 rfl ?_
  first | with_reducible refine aw_iaddN D_law_law_1098 ?_ | refine aw_iadd D_law_law_1098 ?_
  refine aw_sldN D_law_law_1099 (by omega) (by omega) ?_
  refine aw_callV (As := [_]) D_law_law_1100 kv_br_weigh (pr_weigh hI (xs (i + 1))) rfl rfl (h0) rfl rfl (Nat.le_of_ble_eq_true rfl) (by omega) (by omega) (fun r w' hp => ?_)
  obtain ⟨v, ⟨x, rfl⟩, rfl, ⟨fs6, h6⟩, hM2⟩ := hp
  show AW M_law_law _ _ _ _ 1103 _ [.int x] _ _ _
  refine aw_aload_n 2 D_law_law_1103 rfl rfl ?_
  refine aw_aload_n 0 D_law_law_1104 rfl rfl ?_
  refine aw_iload_n 3 D_law_law_1105 rfl rfl ?_
  refine aw_iconst (nI 1) D_law_law_1106 rfl ?_
  first | with_reducible refine aw_iaddN D_law_law_1107 ?_ | refine aw_iadd D_law_law_1107 ?_
  refine aw_sldN D_law_law_1108 (by omega) (by omega) ?_
  refine aw_callV (As := [_]) D_law_law_1109 kv_mo_weigh (hM2) rfl rfl (h6) rfl rfl (Nat.le_of_ble_eq_true rfl) (by omega) (by omega) (fun r w' hp => ?_)
  obtain ⟨rfl, hI2⟩ := hp
  show AW M_law_law _ _ _ _ 1112 _ [.int x, .int x] _ _ _
  refine aw_icmp_eq D_law_law_1112 (fun h => ?_) (fun h => absurd rfl h)
  exact hg _ _ _ hI2 (by omega) (by omega)
theorem lc_as (hi : i + 6 ≤ L) (hL : L ≤ 3072) (hI : LI w) (hc : nc + 1 ≤ 600000) (hs : ns + 4096 ≤ 7302250) (hg : Go L xs i nc ns) : AW M_law_law (lawP L xs) lawZ 600000 7302250 1117 [(0, .ref 8), (1, .ref 0), (2, .ref 6), (3, .int (nI i))] [] w nc ns := by
  obtain ⟨fs0, h0⟩ := hI.look
  refine aw_aload_n 1 D_law_law_1117 rfl rfl ?_
  refine aw_aload_n 0 D_law_law_1118 rfl rfl ?_
  refine aw_iload_n 3 D_law_law_1119 rfl rfl ?_
  refine aw_iconst (nI 1) D_law_law_1120 rfl ?_
  first | with_reducible refine aw_iaddN D_law_law_1121 ?_ | refine aw_iadd D_law_law_1121 ?_
  refine aw_sldN D_law_law_1122 (by omega) (by omega) ?_
  refine aw_aload_n 0 D_law_law_1123 rfl rfl ?_
  refine aw_iload_n 3 D_law_law_1124 rfl rfl ?_
  refine aw_iconst (nI 2) D_law_law_1125 rfl ?_
  first | with_reducible refine aw_iaddN D_law_law_1126 ?_ | refine aw_iadd D_law_law_1126 ?_
  refine aw_sldN D_law_law_1127 (by omega) (by omega) ?_
  refine aw_callV (As := [_, _]) D_law_law_1128 kv_br_as (pr_as hI (xs (i + 1)) (xs (i + 2))) rfl rfl (h0) rfl rfl (Nat.le_of_ble_eq_true rfl) (by omega) (by omega) (fun r w' hp => ?_)
  obtain ⟨v, ⟨x, rfl⟩, rfl, ⟨fs6, h6⟩, hM2⟩ := hp
  show AW M_law_law _ _ _ _ 1131 _ [.int x] _ _ _
  refine aw_aload_n 2 D_law_law_1131 rfl rfl ?_
  refine aw_aload_n 0 D_law_law_1132 rfl rfl ?_
  refine aw_iload_n 3 D_law_law_1133 rfl rfl ?_
  refine aw_iconst (nI 1) D_law_law_1134 rfl ?_
  first | with_reducible refine aw_iaddN D_law_law_1135 ?_ | refine aw_iadd D_law_law_1135 ?_
  refine aw_sldN D_law_law_1136 (by omega) (by omega) ?_
  refine aw_aload_n 0 D_law_law_1137 rfl rfl ?_
  refine aw_iload_n 3 D_law_law_1138 rfl rfl ?_
  refine aw_iconst (nI 2) D_law_law_1139 rfl ?_
  first | with_reducible refine aw_iaddN D_law_law_1140 ?_ | refine aw_iadd D_law_law_1140 ?_
  refine aw_sldN D_law_law_1141 (by omega) (by omega) ?_
  refine aw_callV (As := [_, _]) D_law_law_1142 kv_mo_as (hM2) rfl rfl (h6) rfl rfl (Nat.le_of_ble_eq_true rfl) (by omega) (by omega) (fun r w' hp => ?_)
  obtain ⟨rfl, hI2⟩ := hp
  show AW M_law_law _ _ _ _ 1145 _ [.int x, .int x] _ _ _
  refine aw_icmp_eq D_law_law_1145 (fun h => ?_) (fun h => absurd rfl h)
  exact hg _ _ _ hI2 (by omega) (by omega)
theorem lc_trace (hi : i + 6 ≤ L) (hL : L ≤ 3072) (hI : LI w) (hc : nc + 1 ≤ 600000) (hs : ns + 4096 ≤ 7302250) (hg : Go L xs i nc ns) : AW M_law_law (lawP L xs) lawZ 600000 7302250 1150 [(0, .ref 8), (1, .ref 0), (2, .ref 6), (3, .int (nI i))] [] w nc ns := by
  obtain ⟨fs0, h0⟩ := hI.look
  refine aw_aload_n 1 D_law_law_1150 rfl rfl ?_
  refine aw_callV (As := []) D_law_law_1151 kv_br_trace (pr_trace hI ) rfl rfl (h0) rfl rfl (Nat.le_of_ble_eq_true rfl) (by omega) (by omega) (fun r w' hp => ?_)
  obtain ⟨v, ⟨x, rfl⟩, rfl, ⟨fs6, h6⟩, hM2⟩ := hp
  show AW M_law_law _ _ _ _ 1154 _ [.int x] _ _ _
  refine aw_aload_n 2 D_law_law_1154 rfl rfl ?_
  refine aw_callV (As := []) D_law_law_1155 kv_mo_trace (hM2) rfl rfl (h6) rfl rfl (Nat.le_of_ble_eq_true rfl) (by omega) (by omega) (fun r w' hp => ?_)
  obtain ⟨rfl, hI2⟩ := hp
  show AW M_law_law _ _ _ _ 1158 _ [.int x, .int x] _ _ _
  refine aw_icmp_eq D_law_law_1158 (fun h => ?_) (fun h => absurd rfl h)
  exact hg _ _ _ hI2 (by omega) (by omega)
theorem lc_fault (hi : i + 6 ≤ L) (hL : L ≤ 3072) (hI : LI w) (hc : nc + 1 ≤ 600000) (hs : ns + 4096 ≤ 7302250) (hg : Go L xs i nc ns) : AW M_law_law (lawP L xs) lawZ 600000 7302250 1163 [(0, .ref 8), (1, .ref 0), (2, .ref 6), (3, .int (nI i))] [] w nc ns := by
  obtain ⟨fs0, h0⟩ := hI.look
  refine aw_aload_n 1 D_law_law_1163 rfl rfl ?_
  refine aw_callV (As := []) D_law_law_1164 kv_br_fault (pr_fault hI ) rfl rfl (h0) rfl rfl (Nat.le_of_ble_eq_true rfl) (by omega) (by omega) (fun r w' hp => ?_)
  obtain ⟨v, ⟨x, rfl⟩, rfl, ⟨fs6, h6⟩, hM2⟩ := hp
  show AW M_law_law _ _ _ _ 1167 _ [.int x] _ _ _
  refine aw_aload_n 2 D_law_law_1167 rfl rfl ?_
  refine aw_callV (As := []) D_law_law_1168 kv_mo_fault (hM2) rfl rfl (h6) rfl rfl (Nat.le_of_ble_eq_true rfl) (by omega) (by omega) (fun r w' hp => ?_)
  obtain ⟨rfl, hI2⟩ := hp
  show AW M_law_law _ _ _ _ 1171 _ [.int x, .int x] _ _ _
  refine aw_icmp_eq D_law_law_1171 (fun h => ?_) (fun h => absurd rfl h)
  exact hg _ _ _ hI2 (by omega) (by omega)
end LawCalls
