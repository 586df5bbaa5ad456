/-! ### the reference finds the rings -/
section MoFind
variable {a0 a1 a2 a3 a4 a5 a7 : List va_E} {fl tc : Int32} {n fd R : Nat} {b le sz : Nat → Nat} {o : Nat → Option Nat} {be pc wt qu : Nat → Nat} {la : Nat → Int32} {sl : Nat → Nat} {ce : Nat → Int64} {tb mt ru bf kp : Nat → Nat}
def MF (n : Nat) (b : Nat → Nat) (R : Nat) (o : Nat → Option Nat) (be pc le sz : Nat → Nat) : Prop := ∃ pd fa, FT n b R pd (strt n b) fa o be pc le sz
theorem c_mo_find0 (hn : 2 ≤ n) (hn9 : n ≤ 9) (hb : ∀ k, b k ≤ 1) (hfd : fd = 0) : AMet M_mo_find [.ref 6] [a0, a1, a2, a3, a4, a5, MO fl tc n fd R b le sz o be pc wt qu la sl ce tb mt ru bf kp, a7]
    (fun r w' => r = none ∧ ∃ (R' : Nat) (le' sz' : Nat → Nat) (o' : Nat → Option Nat) (be' pc' wt' qu' : Nat → Nat), w' = [a0, a1, a2, a3, a4, a5, MO fl tc n 1 R' b le' sz' o' be' pc' wt' qu' la sl ce tb mt ru bf kp, a7] ∧ MF n b R' o' be' pc' le' sz') 0 0 := by
  have hp9 := pow_le9 hn9
  have hf : ∀ s, s < 2 ^ n → nx n b s < 2 ^ n := fun s hs => nx_lt (by omega) hs hb
  subst hfd
  refine AMet.of [(0, .ref 6)] (by decide +kernel) rfl (Nat.le_of_ble_eq_true rfl) ?_
  generalize hZ : (fun (r : Option Value) (w' : Wd) => r = none ∧ ∃ (R' : Nat) (le' sz' : Nat → Nat) (o' : Nat → Option Nat) (be' pc' wt' qu' : Nat → Nat), w' = [a0, a1, a2, a3, a4, a5, MO fl tc n 1 R' b le' sz' o' be' pc' wt' qu' la sl ce tb mt ru bf kp, a7] ∧ MF n b R' o' be' pc' le' sz') = Post
  have loop6 : ∀ (R : Nat) (o : Nat → Option Nat) (be pc le sz wt qu : Nat → Nat) (pd : Nat), PI (nx n b) (2 ^ n) wt qu pd pd → NI (nx n b) (2 ^ n) wt o be pc le sz R (2 ^ n) → ∀ (k : Nat) (fa : Nat) (o' : Nat → Option Nat) (be' pc' : Nat → Nat), k ≤ pd → BI (nx n b) (2 ^ n) wt qu pd k o be pc o' be' pc' → (∀ t, t < 2 ^ n → o' t ≠ none → be' t ≤ pd - k) → (∀ j, k ≤ j → j < pd → be' (qu j) ≤ fa) → (fa = 0 ∨ ∃ j, k ≤ j ∧ j < pd ∧ be' (qu j) = fa) → fa ≤ pd - k →
      AW M_mo_find noP (Zp Post) 0 0 300 [(0, .ref 6), (1, .int (nI (2 ^ n))), (2, .int (nI pd)), (3, .int (nI k - nI 1))] [] [a0, a1, a2, a3, a4, a5, MO fl tc n 1 R b le sz o' be' pc' wt qu la sl ce tb mt ru bf kp, a7] 0 0 := by
    intro R o be pc le sz wt qu pd hI hNI k
    have hple := hI.le
    induction k with
    | zero =>
      intro fa o' be' pc' hk hB hbd h1 h2 h3
      refine aw_iload_n 3 D_mo_find_300 rfl rfl ?_
      refine aw_if_lt D_mo_find_301 (fun h => ?_) (fun h => absurd (show nI 0 - nI 1 < 0 by decide) h)
      obtain ⟨d1, d2, d3⟩ := hB.done hf hI hNI
      have hq : ∀ s, s < 2 ^ n → (∃ j, j < pd ∧ qu j = s) ∨ be' s = 0 := by
        intro s hs
        by_cases q : wt s = 0
        · exact Or.inl ((hI.2.2.2.2.1 s hs).mp q)
        · exact Or.inr ((d3 s hs).mpr q)
      have hFT : FT n b R pd (strt n b) fa o' be' pc' le sz := by
        refine ⟨d1, d2, ?_, rfl, fun s hs => ?_, ?_, by omega⟩
        · rw [← hI.count]
          refine fb_ct_cong (fun s hs => ?_)
          rw [Bool.eq_iff_iff, decide_eq_true_iff, decide_eq_true_iff]
          have := d3 s hs
          omega
        · rcases hq s hs with ⟨j, hj, rfl⟩ | q
          · exact h1 j (Nat.zero_le _) hj
          · omega
        · rcases h2 with q | ⟨j, -, hj, q⟩
          · exact Or.inl q
          · exact Or.inr ⟨qu j, hI.2.1 j hj, q⟩
      refine aw_return D_mo_find_370 rfl ?_
      rw [← hZ]; exact ⟨rfl, R, le, sz, o', be', pc', wt, qu, rfl, pd, fa, hFT⟩
    | succ k ih =>
      intro fa o' be' pc' hk hB hbd h1 h2 h3
      rw [pk_sub (show 1 ≤ k + 1 by omega), show k + 1 - 1 = k from rfl]
      have hs := hI.2.1 k (by omega)
      have ht := hf _ hs
      have hnm := hB.named hf hI hNI (by omega)
      have hbt := hbd _ ht hnm
      have hd : ∀ j, k + 1 ≤ j → j < pd → qu j ≠ qu k := fun j a1 a2 z => hI.2.2.1 k j (by omega) a2 z.symm
      refine aw_iload_n 3 D_mo_find_300 rfl rfl ?_
      refine aw_if_ltN D_mo_find_301 (by omega) ?_
      refine aw_aload_n 0 D_mo_find_304 rfl rfl ?_
      refine aw_get D_mo_find_305 rfl rfl ?_
      refine aw_iload_n 3 D_mo_find_308 rfl rfl ?_
      refine aw_ialdN D_mo_find_309 rfl (by omega) (by omega) ?_
      refine aw_istore D_mo_find_310 (Nat.le_of_ble_eq_true rfl) rfl ?_
      refine aw_aload_n 0 D_mo_find_312 rfl rfl ?_
      refine aw_iload D_mo_find_313 rfl ?_
      refine aw_callV1 (As := [_]) D_mo_find_315 kv_mo_next (c_mo_next (s := qu k) (by omega) hn9 hs) rfl rfl rfl rfl rfl (Nat.le_of_ble_eq_true rfl) (Nat.zero_le _) (Nat.zero_le _) ?_
      refine aw_istore D_mo_find_318 (Nat.le_of_ble_eq_true rfl) rfl ?_
      refine aw_aload_n 0 D_mo_find_320 rfl rfl ?_
      refine aw_get D_mo_find_321 rfl rfl ?_
      refine aw_iload D_mo_find_324 rfl ?_
      refine aw_aload_n 0 D_mo_find_326 rfl rfl ?_
      refine aw_get D_mo_find_327 rfl rfl ?_
      refine aw_iload D_mo_find_330 rfl ?_
      refine aw_ialdN D_mo_find_332 rfl (by omega) (by omega) ?_
      refine aw_iastJ D_mo_find_333 rfl (by omega) (by omega) ?_
      rw [oF_upd]
      refine aw_aload_n 0 D_mo_find_334 rfl rfl ?_
      refine aw_get D_mo_find_335 rfl rfl ?_
      refine aw_iload D_mo_find_338 rfl ?_
      refine aw_aload_n 0 D_mo_find_340 rfl rfl ?_
      refine aw_get D_mo_find_341 rfl rfl ?_
      refine aw_iload D_mo_find_344 rfl ?_
      refine aw_ialdN D_mo_find_346 rfl (by omega) (by omega) ?_
      refine aw_iastN D_mo_find_347 rfl (by omega) (by omega) ?_
      refine aw_aload_n 0 D_mo_find_348 rfl rfl ?_
      refine aw_get D_mo_find_349 rfl rfl ?_
      refine aw_iload D_mo_find_352 rfl ?_
      refine aw_aload_n 0 D_mo_find_354 rfl rfl ?_
      refine aw_get D_mo_find_355 rfl rfl ?_
      refine aw_iload D_mo_find_358 rfl ?_
      refine aw_ialdN D_mo_find_360 rfl (by omega) (by omega) ?_
      refine aw_iconst (nI 1) D_mo_find_361 rfl ?_
      first | with_reducible refine aw_iaddN D_mo_find_362 ?_ | refine aw_iadd D_mo_find_362 ?_
      refine aw_iastN D_mo_find_363 rfl (by omega) (by omega) ?_
      refine aw_dec D_mo_find_364 rfl (Nat.le_of_ble_eq_true rfl) rfl ?_
      refine aw_goto D_mo_find_367 ?_
      refine aw_take 4 ?_
      refine ih (max fa (be' (nx n b (qu k)) + 1)) _ _ _ (by omega) (hB.step hf hI hNI (by omega)) (fun t ht2 hne => ?_) (fun j hj hjp => ?_) ?_ (by omega)
      · by_cases e : t = qu k
        · rw [e, vu_at]; omega
        · rw [vu_ne e] at hne ⊢
          have := hbd t ht2 hne
          omega
      · by_cases e : j = k
        · rw [e, vu_at]; omega
        · rw [vu_ne (hd j (by omega) hjp)]
          have := h1 j (by omega) hjp
          omega
      · right
        rcases Nat.le_total fa (be' (nx n b (qu k)) + 1) with q | q
        · exact ⟨k, Nat.le_refl _, by omega, by rw [vu_at]; omega⟩
        · rcases h2 with z | ⟨j, j1, j2, j3⟩
          · omega
          · exact ⟨j, by omega, j2, by rw [vu_ne (hd j j1 j2)]; omega⟩
  have loop5 : ∀ (wt qu : Nat → Nat) (pd : Nat), PI (nx n b) (2 ^ n) wt qu pd pd → ∀ (m i R : Nat) (o : Nat → Option Nat) (be pc le sz : Nat → Nat), i + m = 2 ^ n → NI (nx n b) (2 ^ n) wt o be pc le sz R i →
      AW M_mo_find noP (Zp Post) 0 0 171 [(0, .ref 6), (1, .int (nI (2 ^ n))), (2, .int (nI pd)), (3, .int (nI i))] [] [a0, a1, a2, a3, a4, a5, MO fl tc n 1 R b le sz o be pc wt qu la sl ce tb mt ru bf kp, a7] 0 0 := by
    intro wt qu pd hI m
    have hple := hI.le
    have hwle : ∀ t, t < 2 ^ n → wt t ≤ 2 ^ n := fun t ht => by rw [hI.2.2.2.1 t ht]; exact fb_ct_le _ _
    obtain ⟨hst, hinj⟩ := hI.stay hf
    induction m with
    | zero =>
      intro i R o be pc le sz hi hNI
      rw [show i = 2 ^ n by omega] at hNI ⊢
      refine aw_iload_n 3 D_mo_find_171 rfl rfl ?_
      refine aw_iload_n 1 D_mo_find_172 rfl rfl ?_
      refine aw_icmp_geN D_mo_find_173 (by omega) (by omega) (fun h => ?_) (fun h => absurd h (by omega))
      refine aw_iload_n 2 D_mo_find_296 rfl rfl ?_
      refine aw_iconst (nI 1) D_mo_find_297 rfl ?_
      refine aw_isub D_mo_find_298 ?_
      refine aw_istore_n 3 D_mo_find_299 rfl (Nat.le_of_ble_eq_true rfl) rfl ?_
      refine loop6 R o be pc le sz wt qu pd hI hNI pd 0 o be pc (Nat.le_refl _) (BI.start _ _ _ _ _ _ _ _) (fun t ht hne => ?_) (fun j a1 a2 => absurd a1 (by omega)) (Or.inl rfl) (Nat.zero_le _)
      cases hr : o t with
      | none => exact absurd hr hne
      | some r => rw [(hNI.2.1 t r ht hr).2.2.1]; exact Nat.zero_le _
    | succ m ih =>
      intro i R o be pc le sz hi hNI
      have hwi := hwle i (by omega)
      have hcl := hNI.cle
      refine aw_iload_n 3 D_mo_find_171 rfl rfl ?_
      refine aw_iload_n 1 D_mo_find_172 rfl rfl ?_
      refine aw_icmp_geN D_mo_find_173 (by omega) (by omega) (fun h => absurd h (by omega)) (fun h => ?_)
      refine aw_aload_n 0 D_mo_find_176 rfl rfl ?_
      refine aw_get D_mo_find_177 rfl rfl ?_
      refine aw_iload_n 3 D_mo_find_180 rfl rfl ?_
      refine aw_ialdN D_mo_find_181 rfl (by omega) (by omega) ?_
      refine aw_if_eqN D_mo_find_182 (by omega) (fun h2 => ?_) (fun h2 => ?_)
      · first | refine aw_incN D_mo_find_290 rfl (Nat.le_of_ble_eq_true rfl) rfl ?_ | refine aw_inc D_mo_find_290 rfl (Nat.le_of_ble_eq_true rfl) rfl ?_
        refine aw_goto D_mo_find_293 ?_
        exact ih (i + 1) _ _ _ _ _ _ (by omega) (hNI.skip (Or.inl h2))
      · have hv : ∀ r, o i = some r → r < 2 ^ 31 := fun r e => by have := (hNI.2.1 i r (by omega) e).1; omega
        refine aw_aload_n 0 D_mo_find_185 rfl rfl ?_
        refine aw_get D_mo_find_186 rfl rfl ?_
        refine aw_iload_n 3 D_mo_find_189 rfl rfl ?_
        refine aw_ialdN D_mo_find_190 rfl (by omega) (by omega) ?_
        refine aw_bipush (-nI 9) D_mo_find_191 rfl ?_
        refine aw_icmp_eq D_mo_find_193 (fun h3 => ?_) (fun h3 => ?_)
        · have hos := (oI_m9 hv).mp h3
          have inner : ∀ (q j : Nat) (o' : Nat → Option Nat) (be' pc' : Nat → Nat), 2 ^ n - j = q → WI (nx n b) (2 ^ n) o be pc R i j o' be' pc' → AW M_mo_find noP (Zp Post) 0 0 205 [(0, .ref 6), (1, .int (nI (2 ^ n))), (2, .int (nI pd)), (3, .int (nI i)), (4, .int (nI j)), (5, .int (nI (itr (nx n b) j i)))] [] [a0, a1, a2, a3, a4, a5, MO fl tc n 1 R b le sz o' be' pc' wt qu la sl ce tb mt ru bf kp, a7] 0 0 := by
            intro q
            have hend : ∀ (j : Nat) (o' : Nat → Option Nat) (be' pc' : Nat → Nat), WI (nx n b) (2 ^ n) o be pc R i j o' be' pc' → o' (itr (nx n b) j i) ≠ none → AW M_mo_find noP (Zp Post) 0 0 259 [(0, .ref 6), (1, .int (nI (2 ^ n))), (2, .int (nI pd)), (3, .int (nI i)), (4, .int (nI j)), (5, .int (nI (itr (nx n b) j i)))] [] [a0, a1, a2, a3, a4, a5, MO fl tc n 1 R b le sz o' be' pc' wt qu la sl ce tb mt ru bf kp, a7] 0 0 := by
              intro j o' be' pc' hW he
              refine aw_aload_n 0 D_mo_find_259 rfl rfl ?_
              refine aw_get D_mo_find_260 rfl rfl ?_
              refine aw_aload_n 0 D_mo_find_263 rfl rfl ?_
              refine aw_get D_mo_find_264 rfl rfl ?_
              refine aw_iload_n 3 D_mo_find_267 rfl rfl ?_
              refine aw_iastN D_mo_find_268 rfl (by omega) (by omega) ?_
              refine aw_aload_n 0 D_mo_find_269 rfl rfl ?_
              refine aw_get D_mo_find_270 rfl rfl ?_
              refine aw_aload_n 0 D_mo_find_273 rfl rfl ?_
              refine aw_get D_mo_find_274 rfl rfl ?_
              refine aw_iload D_mo_find_277 rfl ?_
              refine aw_iastN D_mo_find_279 rfl (by omega) (by omega) ?_
              refine aw_aload_n 0 D_mo_find_280 rfl rfl ?_
              refine aw_dup D_mo_find_281 rfl ?_
              refine aw_get D_mo_find_282 rfl rfl ?_
              refine aw_iconst (nI 1) D_mo_find_285 rfl ?_
              first | with_reducible refine aw_iaddN D_mo_find_286 ?_ | refine aw_iadd D_mo_find_286 ?_
              refine aw_put tc_mo D_mo_find_287 rfl (Nat.le_of_ble_eq_true rfl) rfl rfl ?_
              first | refine aw_incN D_mo_find_290 rfl (Nat.le_of_ble_eq_true rfl) rfl ?_ | refine aw_inc D_mo_find_290 rfl (Nat.le_of_ble_eq_true rfl) rfl ?_
              refine aw_goto D_mo_find_293 ?_
              refine aw_take 4 ?_
              exact ih (i + 1) (R + 1) o' be' pc' (va_up le R i) (va_up sz R j) (by omega) (hNI.ring hf hst hinj (by omega) (by omega) hos hW he)
            induction q with
            | zero =>
              intro j o' be' pc' hq hW
              have hx := itr_lt hf j i (by omega)
              have he : o' (itr (nx n b) j i) ≠ none := fun z => by have := hW.full hf (by omega) z; omega
              have hv : ∀ r, o' (itr (nx n b) j i) = some r → r < 2 ^ 31 := fun r e => by have := hW.val hNI hx e; omega
              refine aw_aload_n 0 D_mo_find_205 rfl rfl ?_
              refine aw_get D_mo_find_206 rfl rfl ?_
              refine aw_iload D_mo_find_209 rfl ?_
              refine aw_ialdN D_mo_find_211 rfl (by omega) (by omega) ?_
              refine aw_bipush (-nI 9) D_mo_find_212 rfl ?_
              refine aw_icmp_ne D_mo_find_214 (fun h2 => ?_) (fun h2 => absurd ((oI_m9 hv).mp h2) he)
              exact hend j o' be' pc' hW he
            | succ q iq =>
              intro j o' be' pc' hq hW
              have hx := itr_lt hf j i (by omega)
              have hv : ∀ r, o' (itr (nx n b) j i) = some r → r < 2 ^ 31 := fun r e => by have := hW.val hNI hx e; omega
              refine aw_aload_n 0 D_mo_find_205 rfl rfl ?_
              refine aw_get D_mo_find_206 rfl rfl ?_
              refine aw_iload D_mo_find_209 rfl ?_
              refine aw_ialdN D_mo_find_211 rfl (by omega) (by omega) ?_
              refine aw_bipush (-nI 9) D_mo_find_212 rfl ?_
              refine aw_icmp_ne D_mo_find_214 (fun h2 => ?_) (fun h2 => ?_)
              · exact hend j o' be' pc' hW (fun z => h2 ((oI_m9 hv).mpr z))
              · have h3 := (oI_m9 hv).mp h2
                refine aw_aload_n 0 D_mo_find_217 rfl rfl ?_
                refine aw_get D_mo_find_218 rfl rfl ?_
                refine aw_iload D_mo_find_221 rfl ?_
                refine aw_aload_n 0 D_mo_find_223 rfl rfl ?_
                refine aw_get D_mo_find_224 rfl rfl ?_
                refine aw_iastJ D_mo_find_227 rfl (by omega) (by omega) ?_
                rw [oF_upd1]
                refine aw_aload_n 0 D_mo_find_228 rfl rfl ?_
                refine aw_get D_mo_find_229 rfl rfl ?_
                refine aw_iload D_mo_find_232 rfl ?_
                refine aw_iload D_mo_find_234 rfl ?_
                refine aw_iastN D_mo_find_236 rfl (by omega) (by omega) ?_
                refine aw_aload_n 0 D_mo_find_237 rfl rfl ?_
                refine aw_get D_mo_find_238 rfl rfl ?_
                refine aw_iload D_mo_find_241 rfl ?_
                refine aw_iconst (nI 0) D_mo_find_243 rfl ?_
                refine aw_iastN D_mo_find_244 rfl (by omega) (by omega) ?_
                first | refine aw_incN D_mo_find_245 rfl (Nat.le_of_ble_eq_true rfl) rfl ?_ | refine aw_inc D_mo_find_245 rfl (Nat.le_of_ble_eq_true rfl) rfl ?_
                refine aw_aload_n 0 D_mo_find_248 rfl rfl ?_
                refine aw_iload D_mo_find_249 rfl ?_
                refine aw_callV1 (As := [_]) D_mo_find_251 kv_mo_next (c_mo_next (by omega) hn9 hx) rfl rfl rfl rfl rfl (Nat.le_of_ble_eq_true rfl) (Nat.zero_le _) (Nat.zero_le _) ?_
                refine aw_istore D_mo_find_254 (Nat.le_of_ble_eq_true rfl) rfl ?_
                refine aw_goto D_mo_find_256 ?_
                rw [← itr_succ (nx n b)]
                exact iq (j + 1) _ _ _ (by omega) (hW.step h3)
          refine aw_iconst (nI 0) D_mo_find_199 rfl ?_
          refine aw_istore D_mo_find_200 (Nat.le_of_ble_eq_true rfl) rfl ?_
          refine aw_iload_n 3 D_mo_find_202 rfl rfl ?_
          refine aw_istore D_mo_find_203 (Nat.le_of_ble_eq_true rfl) rfl ?_
          exact inner (2 ^ n) 0 o be pc (by omega) (WI.zero _ _ _ _ _ _ _)
        · refine aw_goto D_mo_find_196 ?_
          first | refine aw_incN D_mo_find_290 rfl (Nat.le_of_ble_eq_true rfl) rfl ?_ | refine aw_inc D_mo_find_290 rfl (Nat.le_of_ble_eq_true rfl) rfl ?_
          refine aw_goto D_mo_find_293 ?_
          exact ih (i + 1) _ _ _ _ _ _ (by omega) (hNI.skip (Or.inr (fun z => h3 ((oI_m9 hv).mpr z))))
  have loop4 : ∀ (m q : Nat) (wt qu : Nat → Nat) (pl : Nat) (o : Nat → Option Nat), 2 ^ n - q = m → (∀ t, t < 2 ^ n → o t = none) → PI (nx n b) (2 ^ n) wt qu pl q → AW M_mo_find noP (Zp Post) 0 0 109 [(0, .ref 6), (1, .int (nI (2 ^ n))), (2, .int (nI pl)), (3, .int (nI q))] [] [a0, a1, a2, a3, a4, a5, MO fl tc n 1 R b le sz o be pc wt qu la sl ce tb mt ru bf kp, a7] 0 0 := by
    intro m
    have hend : ∀ (wt qu : Nat → Nat) (q : Nat) (o : Nat → Option Nat), (∀ t, t < 2 ^ n → o t = none) → PI (nx n b) (2 ^ n) wt qu q q → AW M_mo_find noP (Zp Post) 0 0 164 [(0, .ref 6), (1, .int (nI (2 ^ n))), (2, .int (nI q)), (3, .int (nI q))] [] [a0, a1, a2, a3, a4, a5, MO fl tc n 1 R b le sz o be pc wt qu la sl ce tb mt ru bf kp, a7] 0 0 := by
      intro wt qu q o ho hI
      refine aw_aload_n 0 D_mo_find_164 rfl rfl ?_
      refine aw_iconst (nI 0) D_mo_find_165 rfl ?_
      refine aw_put tc_mo D_mo_find_166 rfl (Nat.le_of_ble_eq_true rfl) rfl rfl ?_
      refine aw_iconst (nI 0) D_mo_find_169 rfl ?_
      refine aw_istore_n 3 D_mo_find_170 rfl (Nat.le_of_ble_eq_true rfl) rfl ?_
      exact loop5 wt qu q hI (2 ^ n) 0 0 o be pc le sz (by omega) (NI.zero ho)
    induction m with
    | zero =>
      intro q wt qu pl o hm ho hI
      have hle := hI.le
      have h0 := hI.1
      have : q = pl := by omega
      subst this
      refine aw_iload_n 3 D_mo_find_109 rfl rfl ?_
      refine aw_iload_n 2 D_mo_find_110 rfl rfl ?_
      refine aw_icmp_geN D_mo_find_111 (by omega) (by omega) (fun h => ?_) (fun h => absurd h (by omega))
      exact hend wt qu q o ho hI
    | succ m ih =>
      intro q wt qu pl o hm ho hI
      have hle := hI.le
      have h0 := hI.1
      refine aw_iload_n 3 D_mo_find_109 rfl rfl ?_
      refine aw_iload_n 2 D_mo_find_110 rfl rfl ?_
      refine aw_icmp_geN D_mo_find_111 (by omega) (by omega) (fun h => ?_) (fun h => ?_)
      · have : q = pl := by omega
        subst this
        exact hend wt qu q o ho hI
      · have hs := hI.2.1 q h
        obtain ⟨s1, s2, s3⟩ := hI.step hf h
        have ht := hf _ hs
        have hwle : wt (nx n b (qu q)) ≤ 2 ^ n := by rw [hI.2.2.2.1 _ ht]; exact fb_ct_le _ _
        refine aw_aload_n 0 D_mo_find_114 rfl rfl ?_
        refine aw_aload_n 0 D_mo_find_115 rfl rfl ?_
        refine aw_get D_mo_find_116 rfl rfl ?_
        refine aw_iload_n 3 D_mo_find_119 rfl rfl ?_
        refine aw_ialdN D_mo_find_120 rfl (by omega) (by omega) ?_
        refine aw_callV1 (As := [_]) D_mo_find_121 kv_mo_next (c_mo_next (s := qu q) (by omega) hn9 hs) rfl rfl rfl rfl rfl (Nat.le_of_ble_eq_true rfl) (Nat.zero_le _) (Nat.zero_le _) ?_
        refine aw_istore D_mo_find_124 (Nat.le_of_ble_eq_true rfl) rfl ?_
        refine aw_aload_n 0 D_mo_find_126 rfl rfl ?_
        refine aw_get D_mo_find_127 rfl rfl ?_
        refine aw_iload D_mo_find_130 rfl ?_
        refine aw_dup2_11 D_mo_find_132 rfl rfl ?_
        refine aw_ialdN D_mo_find_133 rfl (by omega) (by omega) ?_
        refine aw_iconst (nI 1) D_mo_find_134 rfl ?_
        first | with_reducible refine aw_isubN D_mo_find_135 (by omega) ?_ | refine aw_isub D_mo_find_135 ?_
        refine aw_iastN D_mo_find_136 rfl (by omega) (by omega) ?_
        refine aw_aload_n 0 D_mo_find_137 rfl rfl ?_
        refine aw_get D_mo_find_138 rfl rfl ?_
        refine aw_iload D_mo_find_141 rfl ?_
        refine aw_ialdN D_mo_find_143 rfl (by omega) (by omega) ?_
        rw [nF_at]
        refine aw_if_neN D_mo_find_144 (by omega) (fun h2 => ?_) (fun h2 => ?_)
        · first | refine aw_incN D_mo_find_158 rfl (Nat.le_of_ble_eq_true rfl) rfl ?_ | refine aw_inc D_mo_find_158 rfl (Nat.le_of_ble_eq_true rfl) rfl ?_
          refine aw_goto D_mo_find_161 ?_
          refine aw_take 4 ?_
          exact ih (q + 1) _ _ _ _ (by omega) ho (s3 (by omega))
        · obtain ⟨s4, s5⟩ := s2 h2
          refine aw_aload_n 0 D_mo_find_147 rfl rfl ?_
          refine aw_get D_mo_find_148 rfl rfl ?_
          refine aw_iload_n 2 D_mo_find_151 rfl rfl ?_
          refine aw_iload D_mo_find_152 rfl ?_
          refine aw_iastN D_mo_find_154 rfl (by omega) (by omega) ?_
          first | refine aw_incN D_mo_find_155 rfl (Nat.le_of_ble_eq_true rfl) rfl ?_ | refine aw_inc D_mo_find_155 rfl (Nat.le_of_ble_eq_true rfl) rfl ?_
          first | refine aw_incN D_mo_find_158 rfl (Nat.le_of_ble_eq_true rfl) rfl ?_ | refine aw_inc D_mo_find_158 rfl (Nat.le_of_ble_eq_true rfl) rfl ?_
          refine aw_goto D_mo_find_161 ?_
          refine aw_take 4 ?_
          exact ih (q + 1) _ _ _ _ (by omega) ho s5
  have loop3 : ∀ (m i : Nat) (wt qu : Nat → Nat) (pl : Nat) (o : Nat → Option Nat), i + m = 2 ^ n → (∀ t, t < 2 ^ n → o t = none) → (∀ t, t < 2 ^ n → wt t = fb_ct (fun s => decide (nx n b s = t)) (2 ^ n)) → P1 (2 ^ n) wt qu pl i → AW M_mo_find noP (Zp Post) 0 0 77 [(0, .ref 6), (1, .int (nI (2 ^ n))), (2, .int (nI pl)), (3, .int (nI i))] [] [a0, a1, a2, a3, a4, a5, MO fl tc n 1 R b le sz o be pc wt qu la sl ce tb mt ru bf kp, a7] 0 0 := by
    intro m
    induction m with
    | zero =>
      intro i wt qu pl o hi ho hw hP
      rw [show i = 2 ^ n by omega] at hP ⊢
      refine aw_iload_n 3 D_mo_find_77 rfl rfl ?_
      refine aw_iload_n 1 D_mo_find_78 rfl rfl ?_
      refine aw_icmp_geN D_mo_find_79 (by omega) (by omega) (fun h => ?_) (fun h => absurd h (by omega))
      refine aw_iconst (nI 0) D_mo_find_107 rfl ?_
      refine aw_istore_n 3 D_mo_find_108 rfl (Nat.le_of_ble_eq_true rfl) rfl ?_
      exact loop4 (2 ^ n) 0 wt qu pl o (by omega) ho (hP.done hw)
    | succ m ih =>
      intro i wt qu pl o hi ho hw hP
      have hple := hP.le
      have hwle : wt i ≤ 2 ^ n := by rw [hw i (by omega)]; exact fb_ct_le _ _
      refine aw_iload_n 3 D_mo_find_77 rfl rfl ?_
      refine aw_iload_n 1 D_mo_find_78 rfl rfl ?_
      refine aw_icmp_geN D_mo_find_79 (by omega) (by omega) (fun h => absurd h (by omega)) (fun h => ?_)
      refine aw_aload_n 0 D_mo_find_82 rfl rfl ?_
      refine aw_get D_mo_find_83 rfl rfl ?_
      refine aw_iload_n 3 D_mo_find_86 rfl rfl ?_
      refine aw_ialdN D_mo_find_87 rfl (by omega) (by omega) ?_
      refine aw_if_neN D_mo_find_88 (by omega) (fun h2 => ?_) (fun h2 => ?_)
      · first | refine aw_incN D_mo_find_101 rfl (Nat.le_of_ble_eq_true rfl) rfl ?_ | refine aw_inc D_mo_find_101 rfl (Nat.le_of_ble_eq_true rfl) rfl ?_
        refine aw_goto D_mo_find_104 ?_
        exact ih (i + 1) _ _ _ _ (by omega) ho hw (hP.no (by omega))
      · refine aw_aload_n 0 D_mo_find_91 rfl rfl ?_
        refine aw_get D_mo_find_92 rfl rfl ?_
        refine aw_iload_n 2 D_mo_find_95 rfl rfl ?_
        refine aw_iload_n 3 D_mo_find_96 rfl rfl ?_
        refine aw_iastN D_mo_find_97 rfl (by omega) (by omega) ?_
        first | refine aw_incN D_mo_find_98 rfl (Nat.le_of_ble_eq_true rfl) rfl ?_ | refine aw_inc D_mo_find_98 rfl (Nat.le_of_ble_eq_true rfl) rfl ?_
        first | refine aw_incN D_mo_find_101 rfl (Nat.le_of_ble_eq_true rfl) rfl ?_ | refine aw_inc D_mo_find_101 rfl (Nat.le_of_ble_eq_true rfl) rfl ?_
        refine aw_goto D_mo_find_104 ?_
        exact ih (i + 1) _ _ _ _ (by omega) ho hw (hP.yes h2)
  have loop2 : ∀ (m i : Nat) (wt : Nat → Nat) (o : Nat → Option Nat), i + m = 2 ^ n → (∀ t, t < 2 ^ n → o t = none) → (∀ t, t < 2 ^ n → wt t = fb_ct (fun s => decide (nx n b s = t)) i) → AW M_mo_find noP (Zp Post) 0 0 48 [(0, .ref 6), (1, .int (nI (2 ^ n))), (2, .int (nI i))] [] [a0, a1, a2, a3, a4, a5, MO fl tc n 1 R b le sz o be pc wt qu la sl ce tb mt ru bf kp, a7] 0 0 := by
    intro m
    induction m with
    | zero =>
      intro i wt o hi ho hw
      rw [show i = 2 ^ n by omega] at hw ⊢
      refine aw_iload_n 2 D_mo_find_48 rfl rfl ?_
      refine aw_iload_n 1 D_mo_find_49 rfl rfl ?_
      refine aw_icmp_geN D_mo_find_50 (by omega) (by omega) (fun h => ?_) (fun h => absurd h (by omega))
      refine aw_iconst (nI 0) D_mo_find_73 rfl ?_
      refine aw_istore_n 2 D_mo_find_74 rfl (Nat.le_of_ble_eq_true rfl) rfl ?_
      refine aw_iconst (nI 0) D_mo_find_75 rfl ?_
      refine aw_istore_n 3 D_mo_find_76 rfl (Nat.le_of_ble_eq_true rfl) rfl ?_
      exact loop3 (2 ^ n) 0 wt qu 0 o (by omega) ho hw (P1.zero _ _ _)
    | succ m ih =>
      intro i wt o hi ho hw
      have hx := hf i (by omega)
      refine aw_iload_n 2 D_mo_find_48 rfl rfl ?_
      refine aw_iload_n 1 D_mo_find_49 rfl rfl ?_
      refine aw_icmp_geN D_mo_find_50 (by omega) (by omega) (fun h => absurd h (by omega)) (fun h => ?_)
      refine aw_aload_n 0 D_mo_find_53 rfl rfl ?_
      refine aw_get D_mo_find_54 rfl rfl ?_
      refine aw_aload_n 0 D_mo_find_57 rfl rfl ?_
      refine aw_iload_n 2 D_mo_find_58 rfl rfl ?_
      refine aw_callV1 (As := [_]) D_mo_find_59 kv_mo_next (c_mo_next (s := i) (by omega) hn9 (by omega)) rfl rfl rfl rfl rfl (Nat.le_of_ble_eq_true rfl) (Nat.zero_le _) (Nat.zero_le _) ?_
      refine aw_dup2_11 D_mo_find_62 rfl rfl ?_
      refine aw_ialdN D_mo_find_63 rfl (by omega) (by omega) ?_
      refine aw_iconst (nI 1) D_mo_find_64 rfl ?_
      first | with_reducible refine aw_iaddN D_mo_find_65 ?_ | refine aw_iadd D_mo_find_65 ?_
      refine aw_iastN D_mo_find_66 rfl (by omega) (by omega) ?_
      first | refine aw_incN D_mo_find_67 rfl (Nat.le_of_ble_eq_true rfl) rfl ?_ | refine aw_inc D_mo_find_67 rfl (Nat.le_of_ble_eq_true rfl) rfl ?_
      refine aw_goto D_mo_find_70 ?_
      refine ih (i + 1) _ o (by omega) ho (fun t ht => ?_)
      rw [fb_ct_succ]
      unfold va_up
      by_cases e : t = nx n b i
      · rw [if_pos e, if_pos (decide_eq_true e.symm), hw _ hx, e]
      · rw [if_neg e, if_neg (fun z => e (of_decide_eq_true z).symm), hw t ht]
        rfl
  have loop1 : ∀ (m i : Nat) (wt : Nat → Nat) (o : Nat → Option Nat), i + m = 2 ^ n → (∀ t, t < i → o t = none) → (∀ t, t < i → wt t = 0) → AW M_mo_find noP (Zp Post) 0 0 20 [(0, .ref 6), (1, .int (nI (2 ^ n))), (2, .int (nI i))] [] [a0, a1, a2, a3, a4, a5, MO fl tc n 1 R b le sz o be pc wt qu la sl ce tb mt ru bf kp, a7] 0 0 := by
    intro m
    induction m with
    | zero =>
      intro i wt o hi ho hw
      rw [show i = 2 ^ n by omega] at ho hw ⊢
      refine aw_iload_n 2 D_mo_find_20 rfl rfl ?_
      refine aw_iload_n 1 D_mo_find_21 rfl rfl ?_
      refine aw_icmp_geN D_mo_find_22 (by omega) (by omega) (fun h => ?_) (fun h => absurd h (by omega))
      refine aw_iconst (nI 0) D_mo_find_46 rfl ?_
      refine aw_istore_n 2 D_mo_find_47 rfl (Nat.le_of_ble_eq_true rfl) rfl ?_
      exact loop2 (2 ^ n) 0 wt o (by omega) ho hw
    | succ m ih =>
      intro i wt o hi ho hw
      refine aw_iload_n 2 D_mo_find_20 rfl rfl ?_
      refine aw_iload_n 1 D_mo_find_21 rfl rfl ?_
      refine aw_icmp_geN D_mo_find_22 (by omega) (by omega) (fun h => absurd h (by omega)) (fun h => ?_)
      refine aw_aload_n 0 D_mo_find_25 rfl rfl ?_
      refine aw_get D_mo_find_26 rfl rfl ?_
      refine aw_iload_n 2 D_mo_find_29 rfl rfl ?_
      refine aw_iconst (nI 0) D_mo_find_30 rfl ?_
      refine aw_iastN D_mo_find_31 rfl (by omega) (by omega) ?_
      refine aw_aload_n 0 D_mo_find_32 rfl rfl ?_
      refine aw_get D_mo_find_33 rfl rfl ?_
      refine aw_iload_n 2 D_mo_find_36 rfl rfl ?_
      refine aw_bipush (-nI 9) D_mo_find_37 rfl ?_
      refine aw_iastJ D_mo_find_39 rfl (by omega) (by omega) ?_
      rw [oF_upd0]
      first | refine aw_incN D_mo_find_40 rfl (Nat.le_of_ble_eq_true rfl) rfl ?_ | refine aw_inc D_mo_find_40 rfl (Nat.le_of_ble_eq_true rfl) rfl ?_
      refine aw_goto D_mo_find_43 ?_
      refine ih (i + 1) _ _ (by omega) (fun t ht => ?_) (fun t ht => ?_)
      · by_cases e : t = i
        · rw [e, vu_at]
        · rw [vu_ne e]; exact ho t (by omega)
      · by_cases e : t = i
        · rw [e, vu_at]
        · rw [vu_ne e]; exact hw t (by omega)
  refine aw_aload_n 0 D_mo_find_0 rfl rfl ?_
  refine aw_get D_mo_find_1 rfl rfl ?_
  refine aw_if_eqN D_mo_find_4 (by decide) (fun h => ?_) (fun h => absurd h (by decide))
  refine aw_aload_n 0 D_mo_find_8 rfl rfl ?_
  refine aw_iconst (nI 1) D_mo_find_9 rfl ?_
  refine aw_put tc_mo D_mo_find_10 rfl (Nat.le_of_ble_eq_true rfl) rfl rfl ?_
  refine aw_aload_n 0 D_mo_find_13 rfl rfl ?_
  refine aw_callV1 (As := []) D_mo_find_14 kv_mo_states (c_mo_states hn9) rfl rfl rfl rfl rfl (Nat.le_of_ble_eq_true rfl) (Nat.zero_le _) (Nat.zero_le _) ?_
  refine aw_istore_n 1 D_mo_find_17 rfl (Nat.le_of_ble_eq_true rfl) rfl ?_
  refine aw_iconst (nI 0) D_mo_find_18 rfl ?_
  refine aw_istore_n 2 D_mo_find_19 rfl (Nat.le_of_ble_eq_true rfl) rfl ?_
  exact loop1 (2 ^ n) 0 wt o (by omega) (fun t ht => absurd ht (by omega)) (fun t ht => absurd ht (by omega))
theorem c_mo_find (hn : 2 ≤ n) (hn9 : n ≤ 9) (hb : ∀ k, b k ≤ 1) (hfd : fd = 0 ∨ fd = 1 ∧ MF n b R o be pc le sz) : AMet M_mo_find [.ref 6] [a0, a1, a2, a3, a4, a5, MO fl tc n fd R b le sz o be pc wt qu la sl ce tb mt ru bf kp, a7]
    (fun r w' => r = none ∧ ∃ (R' : Nat) (le' sz' : Nat → Nat) (o' : Nat → Option Nat) (be' pc' wt' qu' : Nat → Nat), w' = [a0, a1, a2, a3, a4, a5, MO fl tc n 1 R' b le' sz' o' be' pc' wt' qu' la sl ce tb mt ru bf kp, a7] ∧ MF n b R' o' be' pc' le' sz') 0 0 := by
  rcases hfd with h | ⟨rfl, h⟩
  · exact c_mo_find0 hn hn9 hb h
  · refine AMet.of [(0, .ref 6)] (by decide +kernel) rfl (Nat.le_of_ble_eq_true rfl) ?_
    refine aw_aload_n 0 D_mo_find_0 rfl rfl ?_
    refine aw_get D_mo_find_1 rfl rfl ?_
    refine aw_if_eqN D_mo_find_4 (by decide) (fun h => absurd h (by decide)) (fun h2 => ?_)
    refine aw_return D_mo_find_7 rfl ?_
    exact ⟨rfl, R, le, sz, o, be, pc, wt, qu, rfl, h⟩
end MoFind
