/-! ### the reference: out, thin, mix, take -/
section Mo6
variable {a0 a1 a2 a3 a4 a5 a7 m : List va_E} {fl tc : Int32} {n : Nat} {b : Nat → Nat} {la : Nat → Int32} {zs : Nat → Nat} {cs : Nat → Nat → Int64}
theorem c_mo_outU {x y z u : Int32} (hx : ¬ vp_in y 4 ∨ ¬ vp_in x (2 ^ n)) (h : MS n b tc fl la zs cs m) : AMet M_mo_out [.ref 6, .int x, .int y, .int z, .int u] [a0, a1, a2, a3, a4, a5, m, a7] (fun (r' : Option Value) (w' : Wd) => r' = some (.int (-nI 1)) ∧ ∃ m', w' = [a0, a1, a2, a3, a4, a5, m', a7] ∧ MS n b tc (nI 0) la zs cs m') 0 0 := by
  obtain ⟨fd, R, le, sz, o, be, pc, wt, qu, lm, sl, ce, tb, mt, ru, bf, kp, rfl, hn, hn9, hb, hfd, hL, hT⟩ := h
  have hp9 := pow_le9 hn9
  refine AMet.of [(0, .ref 6), (1, .int x), (2, .int y), (3, .int z), (4, .int u)] (by decide +kernel) rfl (Nat.le_of_ble_eq_true rfl) ?_
  by_cases hv : vp_in y 4
  · have hx2 := hx.resolve_left (fun q => q hv)
    obtain ⟨j, hj, rfl⟩ := vp_in_of hv (by decide)
    refine aw_aload_n 0 D_mo_out_0 rfl rfl ?_
    refine aw_iconst (nI 0) D_mo_out_1 rfl ?_
    refine aw_put tc_mo D_mo_out_2 rfl (Nat.le_of_ble_eq_true rfl) rfl rfl ?_
    refine aw_iload_n 2 D_mo_out_5 rfl rfl ?_
    refine aw_callS1 (As := [_]) D_mo_out_6 kv_mo_isSheet (c_mo_isSheetT hj) rfl rfl (Nat.le_of_ble_eq_true rfl) (Nat.zero_le _) (Nat.zero_le _) ?_
    refine aw_if_eqN D_mo_out_9 (by decide) (fun h => absurd h (by decide)) (fun h => ?_)
    refine aw_aload_n 0 D_mo_out_12 rfl rfl ?_
    refine aw_iload_n 1 D_mo_out_13 rfl rfl ?_
    refine aw_callV1 (As := [_]) D_mo_out_14 kv_mo_isState (c_mo_isStateF hn9 hx2) rfl rfl rfl rfl rfl (Nat.le_of_ble_eq_true rfl) (Nat.zero_le _) (Nat.zero_le _) ?_
    refine aw_if_neN D_mo_out_17 (by decide) (fun h => absurd h (by decide)) (fun h => ?_)
    refine aw_iconst (-nI 1) D_mo_out_20 rfl ?_
    refine aw_ireturn D_mo_out_21 rfl rfl ?_
    exact ⟨rfl, _, rfl, fd, R, le, sz, o, be, pc, wt, qu, lm, sl, ce, tb, mt, ru, bf, kp, rfl, hn, hn9, hb, hfd, hL, hT⟩
  · refine aw_aload_n 0 D_mo_out_0 rfl rfl ?_
    refine aw_iconst (nI 0) D_mo_out_1 rfl ?_
    refine aw_put tc_mo D_mo_out_2 rfl (Nat.le_of_ble_eq_true rfl) rfl rfl ?_
    refine aw_iload_n 2 D_mo_out_5 rfl rfl ?_
    refine aw_callS1 (As := [_]) D_mo_out_6 kv_mo_isSheet (c_mo_isSheetF hv) rfl rfl (Nat.le_of_ble_eq_true rfl) (Nat.zero_le _) (Nat.zero_le _) ?_
    refine aw_if_eqN D_mo_out_9 (by decide) (fun h => ?_) (fun h => absurd h (by decide))
    refine aw_iconst (-nI 1) D_mo_out_20 rfl ?_
    refine aw_ireturn D_mo_out_21 rfl rfl ?_
    exact ⟨rfl, _, rfl, fd, R, le, sz, o, be, pc, wt, qu, lm, sl, ce, tb, mt, ru, bf, kp, rfl, hn, hn9, hb, hfd, hL, hT⟩
theorem c_mo_outN {s k : Nat} {z u : Int32} (hs : s < 2 ^ n) (hk : k < 4) (hno : la k = -nI 1) (h : MS n b tc fl la zs cs m) : AMet M_mo_out [.ref 6, .int (nI s), .int (nI k), .int z, .int u] [a0, a1, a2, a3, a4, a5, m, a7] (fun (r' : Option Value) (w' : Wd) => r' = some (.int (-nI 10 - nI 1)) ∧ ∃ m', w' = [a0, a1, a2, a3, a4, a5, m', a7] ∧ MS n b tc (nI 1) la zs cs m') 0 0 := by
  obtain ⟨fd, R, le, sz, o, be, pc, wt, qu, lm, sl, ce, tb, mt, ru, bf, kp, rfl, hn, hn9, hb, hfd, hL, hT⟩ := h
  have hp9 := pow_le9 hn9
  refine AMet.of [(0, .ref 6), (1, .int (nI s)), (2, .int (nI k)), (3, .int z), (4, .int u)] (by decide +kernel) rfl (Nat.le_of_ble_eq_true rfl) ?_
  refine aw_aload_n 0 D_mo_out_0 rfl rfl ?_
  refine aw_iconst (nI 0) D_mo_out_1 rfl ?_
  refine aw_put tc_mo D_mo_out_2 rfl (Nat.le_of_ble_eq_true rfl) rfl rfl ?_
  refine aw_iload_n 2 D_mo_out_5 rfl rfl ?_
  refine aw_callS1 (As := [_]) D_mo_out_6 kv_mo_isSheet (c_mo_isSheetT hk) rfl rfl (Nat.le_of_ble_eq_true rfl) (Nat.zero_le _) (Nat.zero_le _) ?_
  refine aw_if_eqN D_mo_out_9 (by decide) (fun h => absurd h (by decide)) (fun h => ?_)
  refine aw_aload_n 0 D_mo_out_12 rfl rfl ?_
  refine aw_iload_n 1 D_mo_out_13 rfl rfl ?_
  refine aw_callV1 (As := [_]) D_mo_out_14 kv_mo_isState (c_mo_isStateT hn9 hs) rfl rfl rfl rfl rfl (Nat.le_of_ble_eq_true rfl) (Nat.zero_le _) (Nat.zero_le _) ?_
  refine aw_if_neN D_mo_out_17 (by decide) (fun h => ?_) (fun h => absurd h (by decide))
  refine aw_aload_n 0 D_mo_out_22 rfl rfl ?_
  refine aw_get D_mo_out_23 rfl rfl ?_
  refine aw_iload_n 2 D_mo_out_26 rfl rfl ?_
  refine aw_ialdN D_mo_out_27 rfl (by omega) (by omega) ?_
  refine aw_bipush (-nI 9) D_mo_out_28 rfl ?_
  refine aw_icmp_ne D_mo_out_30 (fun h => absurd (hL.none hk hno) h) (fun h => ?_)
  refine aw_aload_n 0 D_mo_out_33 rfl rfl ?_
  refine aw_iconst (nI 1) D_mo_out_34 rfl ?_
  refine aw_callV1 (As := [_]) D_mo_out_35 kv_mo_fails (c_mo_fails) rfl rfl rfl rfl rfl (Nat.le_of_ble_eq_true rfl) (Nat.zero_le _) (Nat.zero_le _) ?_
  refine aw_ireturn D_mo_out_38 rfl rfl ?_
  exact ⟨rfl, _, rfl, fd, R, le, sz, o, be, pc, wt, qu, lm, sl, ce, tb, mt, ru, bf, kp, rfl, hn, hn9, hb, hfd, hL, hT⟩
theorem c_mo_outZ {s k : Nat} {z u : Int32} (hs : s < 2 ^ n) (hk : k < 4) (hne : la k ≠ -nI 1) (hu : u < 0) (h : MS n b tc fl la zs cs m) : AMet M_mo_out [.ref 6, .int (nI s), .int (nI k), .int z, .int u] [a0, a1, a2, a3, a4, a5, m, a7] (fun (r' : Option Value) (w' : Wd) => r' = some (.int (-nI 10 - nI 4)) ∧ ∃ m', w' = [a0, a1, a2, a3, a4, a5, m', a7] ∧ MS n b tc (nI 4) la zs cs m') 0 0 := by
  obtain ⟨fd, R, le, sz, o, be, pc, wt, qu, lm, sl, ce, tb, mt, ru, bf, kp, rfl, hn, hn9, hb, hfd, hL, hT⟩ := h
  have hp9 := pow_le9 hn9
  refine AMet.of [(0, .ref 6), (1, .int (nI s)), (2, .int (nI k)), (3, .int z), (4, .int u)] (by decide +kernel) rfl (Nat.le_of_ble_eq_true rfl) ?_
  refine aw_aload_n 0 D_mo_out_0 rfl rfl ?_
  refine aw_iconst (nI 0) D_mo_out_1 rfl ?_
  refine aw_put tc_mo D_mo_out_2 rfl (Nat.le_of_ble_eq_true rfl) rfl rfl ?_
  refine aw_iload_n 2 D_mo_out_5 rfl rfl ?_
  refine aw_callS1 (As := [_]) D_mo_out_6 kv_mo_isSheet (c_mo_isSheetT hk) rfl rfl (Nat.le_of_ble_eq_true rfl) (Nat.zero_le _) (Nat.zero_le _) ?_
  refine aw_if_eqN D_mo_out_9 (by decide) (fun h => absurd h (by decide)) (fun h => ?_)
  refine aw_aload_n 0 D_mo_out_12 rfl rfl ?_
  refine aw_iload_n 1 D_mo_out_13 rfl rfl ?_
  refine aw_callV1 (As := [_]) D_mo_out_14 kv_mo_isState (c_mo_isStateT hn9 hs) rfl rfl rfl rfl rfl (Nat.le_of_ble_eq_true rfl) (Nat.zero_le _) (Nat.zero_le _) ?_
  refine aw_if_neN D_mo_out_17 (by decide) (fun h => ?_) (fun h => absurd h (by decide))
  refine aw_aload_n 0 D_mo_out_22 rfl rfl ?_
  refine aw_get D_mo_out_23 rfl rfl ?_
  refine aw_iload_n 2 D_mo_out_26 rfl rfl ?_
  refine aw_ialdN D_mo_out_27 rfl (by omega) (by omega) ?_
  refine aw_bipush (-nI 9) D_mo_out_28 rfl ?_
  refine aw_icmp_ne D_mo_out_30 (fun h => ?_) (fun h => absurd h (hL.ne hk hne))
  refine aw_iload D_mo_out_39 rfl ?_
  refine aw_if_ge D_mo_out_41 (fun h => absurd hu (Int32.not_lt.mpr h)) (fun h => ?_)
  refine aw_aload_n 0 D_mo_out_44 rfl rfl ?_
  refine aw_iconst (nI 4) D_mo_out_45 rfl ?_
  refine aw_callV1 (As := [_]) D_mo_out_46 kv_mo_fails (c_mo_fails) rfl rfl rfl rfl rfl (Nat.le_of_ble_eq_true rfl) (Nat.zero_le _) (Nat.zero_le _) ?_
  refine aw_ireturn D_mo_out_49 rfl rfl ?_
  exact ⟨rfl, _, rfl, fd, R, le, sz, o, be, pc, wt, qu, lm, sl, ce, tb, mt, ru, bf, kp, rfl, hn, hn9, hb, hfd, hL, hT⟩
theorem c_mo_outI {s k p : Nat} {z : Int32} (hs : s < 2 ^ n) (hk : k < 4) (hne : la k ≠ -nI 1) (hp : p < 2 ^ 31) (hbad : ¬ ∃ i, i + p ≤ zs k ∧ z = nI i) (h : MS n b tc fl la zs cs m) : AMet M_mo_out [.ref 6, .int (nI s), .int (nI k), .int z, .int (nI p)] [a0, a1, a2, a3, a4, a5, m, a7] (fun (r' : Option Value) (w' : Wd) => r' = some (.int (-nI 10 - nI 3)) ∧ ∃ m', w' = [a0, a1, a2, a3, a4, a5, m', a7] ∧ MS n b tc (nI 3) la zs cs m') 0 0 := by
  obtain ⟨fd, R, le, sz, o, be, pc, wt, qu, lm, sl, ce, tb, mt, ru, bf, kp, rfl, hn, hn9, hb, hfd, hL, hT⟩ := h
  have hp9 := pow_le9 hn9
  refine AMet.of [(0, .ref 6), (1, .int (nI s)), (2, .int (nI k)), (3, .int z), (4, .int (nI p))] (by decide +kernel) rfl (Nat.le_of_ble_eq_true rfl) ?_
  generalize hZ : (fun (r' : Option Value) (w' : Wd) => r' = some (.int (-nI 10 - nI 3)) ∧ ∃ m', w' = [a0, a1, a2, a3, a4, a5, m', a7] ∧ MS n b tc (nI 3) la zs cs m') = ZZ
  have hfail : AW M_mo_out noP (Zp ZZ) 0 0 77 [(0, .ref 6), (1, .int (nI s)), (2, .int (nI k)), (3, .int z), (4, .int (nI p))] [] [a0, a1, a2, a3, a4, a5, MO (nI 0) tc n fd R b le sz o be pc wt qu lm sl ce tb mt ru bf kp, a7] 0 0 := by
    refine aw_aload_n 0 D_mo_out_77 rfl rfl ?_
    refine aw_iconst (nI 3) D_mo_out_78 rfl ?_
    refine aw_callV1 (As := [_]) D_mo_out_79 kv_mo_fails (c_mo_fails) rfl rfl rfl rfl rfl (Nat.le_of_ble_eq_true rfl) (Nat.zero_le _) (Nat.zero_le _) ?_
    refine aw_ireturn D_mo_out_82 rfl rfl ?_
    subst hZ; exact ⟨rfl, _, rfl, fd, R, le, sz, o, be, pc, wt, qu, lm, sl, ce, tb, mt, ru, bf, kp, rfl, hn, hn9, hb, hfd, hL, hT⟩
  refine aw_aload_n 0 D_mo_out_0 rfl rfl ?_
  refine aw_iconst (nI 0) D_mo_out_1 rfl ?_
  refine aw_put tc_mo D_mo_out_2 rfl (Nat.le_of_ble_eq_true rfl) rfl rfl ?_
  refine aw_iload_n 2 D_mo_out_5 rfl rfl ?_
  refine aw_callS1 (As := [_]) D_mo_out_6 kv_mo_isSheet (c_mo_isSheetT hk) rfl rfl (Nat.le_of_ble_eq_true rfl) (Nat.zero_le _) (Nat.zero_le _) ?_
  refine aw_if_eqN D_mo_out_9 (by decide) (fun h => absurd h (by decide)) (fun h => ?_)
  refine aw_aload_n 0 D_mo_out_12 rfl rfl ?_
  refine aw_iload_n 1 D_mo_out_13 rfl rfl ?_
  refine aw_callV1 (As := [_]) D_mo_out_14 kv_mo_isState (c_mo_isStateT hn9 hs) rfl rfl rfl rfl rfl (Nat.le_of_ble_eq_true rfl) (Nat.zero_le _) (Nat.zero_le _) ?_
  refine aw_if_neN D_mo_out_17 (by decide) (fun h => ?_) (fun h => absurd h (by decide))
  refine aw_aload_n 0 D_mo_out_22 rfl rfl ?_
  refine aw_get D_mo_out_23 rfl rfl ?_
  refine aw_iload_n 2 D_mo_out_26 rfl rfl ?_
  refine aw_ialdN D_mo_out_27 rfl (by omega) (by omega) ?_
  refine aw_bipush (-nI 9) D_mo_out_28 rfl ?_
  obtain ⟨l, hl, hl1, hl2, hs1, hs2⟩ := hL.some hk hne
  have hzk := hL.2 k
  refine aw_icmp_ne D_mo_out_30 (fun h => ?_) (fun h => absurd h (hL.ne hk hne))
  refine aw_iload D_mo_out_39 rfl ?_
  refine aw_if_geN D_mo_out_41 (by omega) ?_
  refine aw_iload_n 3 D_mo_out_50 rfl rfl ?_
  refine aw_if_lt D_mo_out_51 (fun h => hfail) (fun h1 => ?_)
  obtain ⟨j, hj, rfl⟩ := nI_of h1
  refine aw_iload_n 3 D_mo_out_54 rfl rfl ?_
  refine aw_aload_n 0 D_mo_out_55 rfl rfl ?_
  refine aw_get D_mo_out_56 rfl rfl ?_
  refine aw_iload_n 2 D_mo_out_59 rfl rfl ?_
  refine aw_ialdN D_mo_out_60 rfl (by omega) (by omega) ?_
  refine aw_icmp_gtN D_mo_out_61 (by omega) (by omega) (fun h => hfail) (fun h2 => ?_)
  refine aw_iload D_mo_out_64 rfl ?_
  refine aw_aload_n 0 D_mo_out_66 rfl rfl ?_
  refine aw_get D_mo_out_67 rfl rfl ?_
  refine aw_iload_n 2 D_mo_out_70 rfl rfl ?_
  refine aw_ialdN D_mo_out_71 rfl (by omega) (by omega) ?_
  refine aw_iload_n 3 D_mo_out_72 rfl rfl ?_
  first | with_reducible refine aw_isubN D_mo_out_73 (by omega) ?_ | refine aw_isub D_mo_out_73 ?_
  refine aw_icmp_leN D_mo_out_74 (by omega) (by omega) (fun h3 => absurd ⟨j, by omega, rfl⟩ hbad) (fun h => hfail)
theorem c_mo_outT {s k p i : Nat} (hs : s < 2 ^ n) (hk : k < 4) (hne : la k ≠ -nI 1) (him : i + p ≤ zs k) (h : MS n b tc fl la zs cs m) : AMet M_mo_out [.ref 6, .int (nI s), .int (nI k), .int (nI i), .int (nI p)] [a0, a1, a2, a3, a4, a5, m, a7] (fun (r' : Option Value) (w' : Wd) => r' = some (.int (nI (itr (nx n b) p s))) ∧ ∃ m', w' = [a0, a1, a2, a3, a4, a5, m', a7] ∧ MS n b tc (nI 0) la zs (va_up cs k (fb_put (cs k) (outC (nx n b) s) i p)) m') 0 0 := by
  obtain ⟨fd, R, le, sz, o, be, pc, wt, qu, lm, sl, ce, tb, mt, ru, bf, kp, rfl, hn, hn9, hb, hfd, hL, hT⟩ := h
  have hp9 := pow_le9 hn9
  refine AMet.of [(0, .ref 6), (1, .int (nI s)), (2, .int (nI k)), (3, .int (nI i)), (4, .int (nI p))] (by decide +kernel) rfl (Nat.le_of_ble_eq_true rfl) ?_
  generalize hZ : (fun (r' : Option Value) (w' : Wd) => r' = some (.int (nI (itr (nx n b) p s))) ∧ ∃ m', w' = [a0, a1, a2, a3, a4, a5, m', a7] ∧ MS n b tc (nI 0) la zs (va_up cs k (fb_put (cs k) (outC (nx n b) s) i p)) m') = ZZ
  have hf := FT.hf (n := n) (b := b) (by omega) hb
  have hpb : i + p ≤ 600 := Nat.le_trans him (hL.2 k)
  refine aw_aload_n 0 D_mo_out_0 rfl rfl ?_
  refine aw_iconst (nI 0) D_mo_out_1 rfl ?_
  refine aw_put tc_mo D_mo_out_2 rfl (Nat.le_of_ble_eq_true rfl) rfl rfl ?_
  refine aw_iload_n 2 D_mo_out_5 rfl rfl ?_
  refine aw_callS1 (As := [_]) D_mo_out_6 kv_mo_isSheet (c_mo_isSheetT hk) rfl rfl (Nat.le_of_ble_eq_true rfl) (Nat.zero_le _) (Nat.zero_le _) ?_
  refine aw_if_eqN D_mo_out_9 (by decide) (fun h => absurd h (by decide)) (fun h => ?_)
  refine aw_aload_n 0 D_mo_out_12 rfl rfl ?_
  refine aw_iload_n 1 D_mo_out_13 rfl rfl ?_
  refine aw_callV1 (As := [_]) D_mo_out_14 kv_mo_isState (c_mo_isStateT hn9 hs) rfl rfl rfl rfl rfl (Nat.le_of_ble_eq_true rfl) (Nat.zero_le _) (Nat.zero_le _) ?_
  refine aw_if_neN D_mo_out_17 (by decide) (fun h => ?_) (fun h => absurd h (by decide))
  refine aw_aload_n 0 D_mo_out_22 rfl rfl ?_
  refine aw_get D_mo_out_23 rfl rfl ?_
  refine aw_iload_n 2 D_mo_out_26 rfl rfl ?_
  refine aw_ialdN D_mo_out_27 rfl (by omega) (by omega) ?_
  refine aw_bipush (-nI 9) D_mo_out_28 rfl ?_
  obtain ⟨l, hl, hl1, hl2, hs1, hs2⟩ := hL.some hk hne
  have hzk := hL.2 k
  refine aw_icmp_ne D_mo_out_30 (fun h => ?_) (fun h => absurd h (hL.ne hk hne))
  refine aw_iload D_mo_out_39 rfl ?_
  refine aw_if_geN D_mo_out_41 (by omega) ?_
  refine aw_iload_n 3 D_mo_out_50 rfl rfl ?_
  refine aw_if_ltN D_mo_out_51 (by omega) ?_
  refine aw_iload_n 3 D_mo_out_54 rfl rfl ?_
  refine aw_aload_n 0 D_mo_out_55 rfl rfl ?_
  refine aw_get D_mo_out_56 rfl rfl ?_
  refine aw_iload_n 2 D_mo_out_59 rfl rfl ?_
  refine aw_ialdN D_mo_out_60 rfl (by omega) (by omega) ?_
  refine aw_icmp_gtN D_mo_out_61 (by omega) (by omega) (fun h => absurd h (by omega)) (fun h2 => ?_)
  refine aw_iload D_mo_out_64 rfl ?_
  refine aw_aload_n 0 D_mo_out_66 rfl rfl ?_
  refine aw_get D_mo_out_67 rfl rfl ?_
  refine aw_iload_n 2 D_mo_out_70 rfl rfl ?_
  refine aw_ialdN D_mo_out_71 rfl (by omega) (by omega) ?_
  refine aw_iload_n 3 D_mo_out_72 rfl rfl ?_
  first | with_reducible refine aw_isubN D_mo_out_73 (by omega) ?_ | refine aw_isub D_mo_out_73 ?_
  refine aw_icmp_leN D_mo_out_74 (by omega) (by omega) (fun h3 => ?_) (fun h => absurd h (by omega))
  have key : ∀ (d j : Nat), j + d = p → AW M_mo_out noP (Zp ZZ) 0 0 89 [(0, .ref 6), (1, .int (nI s)), (2, .int (nI k)), (3, .int (nI i)), (4, .int (nI p)), (5, .int (nI (itr (nx n b) j s))), (6, .int (nI j))] [] [a0, a1, a2, a3, a4, a5, MO (nI 0) tc n fd R b le sz o be pc wt qu lm sl (fb_put ce (outC (nx n b) s) (600 * k + i) j) tb mt ru bf kp, a7] 0 0 := by
    intro d
    induction d with
    | zero =>
      intro j hj
      have hj : j = p := by omega
      subst hj
      have hL2 : LN la zs (va_up cs k (fb_put (cs k) (outC (nx n b) s) i j)) lm sl (fb_put ce (outC (nx n b) s) (600 * k + i) j) := by
        refine hL.cell (fun q hq => ?_) (fun q y hq hne hy => ?_)
        · by_cases e : i ≤ q ∧ q < i + j
          · rw [fb_put_in e.1 e.2, fb_put_in (by omega) (by omega)]
            exact congrArg _ (by omega)
          · rw [fb_put_out (by omega), fb_put_out (by omega)]
            exact hs2 q hq
        · rw [fb_put_out (by omega)]
      refine aw_iload D_mo_out_89 rfl ?_
      refine aw_iload D_mo_out_91 rfl ?_
      refine aw_icmp_geN D_mo_out_93 (by omega) (by omega) (fun h => ?_) (fun h => absurd h (by omega))
      refine aw_iload D_mo_out_130 rfl ?_
      refine aw_ireturn D_mo_out_132 rfl rfl ?_
      subst hZ; exact ⟨rfl, _, rfl, fd, R, le, sz, o, be, pc, wt, qu, lm, sl, _, tb, mt, ru, bf, kp, rfl, hn, hn9, hb, hfd, hL2, hT⟩
    | succ d ih =>
      intro j hj
      have hx := itr_lt hf j s hs
      refine aw_iload D_mo_out_89 rfl ?_
      refine aw_iload D_mo_out_91 rfl ?_
      refine aw_icmp_geN D_mo_out_93 (by omega) (by omega) (fun h => absurd h (by omega)) (fun h => ?_)
      refine aw_aload_n 0 D_mo_out_96 rfl rfl ?_
      refine aw_get D_mo_out_97 rfl rfl ?_
      refine aw_sipush (nI 600) D_mo_out_100 rfl ?_
      refine aw_iload_n 2 D_mo_out_103 rfl rfl ?_
      first | with_reducible refine aw_imulN D_mo_out_104 ?_ | refine aw_imul D_mo_out_104 ?_
      refine aw_iload_n 3 D_mo_out_105 rfl rfl ?_
      first | with_reducible refine aw_iaddN D_mo_out_106 ?_ | refine aw_iadd D_mo_out_106 ?_
      refine aw_iload D_mo_out_107 rfl ?_
      first | with_reducible refine aw_iaddN D_mo_out_109 ?_ | refine aw_iadd D_mo_out_109 ?_
      refine aw_iload D_mo_out_110 rfl ?_
      refine aw_iconst (nI 1) D_mo_out_112 rfl ?_
      first | with_reducible refine aw_iandN D_mo_out_113 ?_ | refine aw_iand D_mo_out_113 ?_
      rw [Nat.and_one_is_mod]
      first | with_reducible refine aw_i2lN D_mo_out_114 (by omega) ?_ | refine aw_i2l D_mo_out_114 ?_
      refine aw_lastJ D_mo_out_115 rfl (by omega) (by omega) ?_
      refine aw_aload_n 0 D_mo_out_116 rfl rfl ?_
      refine aw_iload D_mo_out_117 rfl ?_
      rw [updL_va, show lN (itr (nx n b) j s % 2) = outC (nx n b) s j from rfl, put_up ce (outC (nx n b) s)]
      refine aw_callV1 (As := [_]) D_mo_out_119 kv_mo_next (c_mo_next (by omega) hn9 hx) rfl rfl rfl rfl rfl (Nat.le_of_ble_eq_true rfl) (Nat.zero_le _) (Nat.zero_le _) ?_
      refine aw_istore D_mo_out_122 (Nat.le_of_ble_eq_true rfl) rfl ?_
      first | refine aw_incN D_mo_out_124 rfl (Nat.le_of_ble_eq_true rfl) rfl ?_ | refine aw_inc D_mo_out_124 rfl (Nat.le_of_ble_eq_true rfl) rfl ?_
      refine aw_goto D_mo_out_127 ?_
      rw [← itr_succ (nx n b)]
      exact ih (j + 1) (by omega)
  refine aw_iload_n 1 D_mo_out_83 rfl rfl ?_
  refine aw_istore D_mo_out_84 (Nat.le_of_ble_eq_true rfl) rfl ?_
  refine aw_iconst (nI 0) D_mo_out_86 rfl ?_
  refine aw_istore D_mo_out_87 (Nat.le_of_ble_eq_true rfl) rfl ?_
  have := key p 0 (by omega)
  rw [fb_put_0] at this
  exact this
theorem c_mo_thinU {x y z : Int32} (hx : ¬ vp_in x 4 ∨ ¬ vp_in z 4) (h : MS n b tc fl la zs cs m) : AMet M_mo_thin [.ref 6, .int x, .int y, .int z] [a0, a1, a2, a3, a4, a5, m, a7] (fun (r' : Option Value) (w' : Wd) => r' = some (.int (-nI 1)) ∧ ∃ m', w' = [a0, a1, a2, a3, a4, a5, m', a7] ∧ MS n b tc (nI 0) la zs cs m') 0 0 := by
  obtain ⟨fd, R, le, sz, o, be, pc, wt, qu, lm, sl, ce, tb, mt, ru, bf, kp, rfl, hn, hn9, hb, hfd, hL, hT⟩ := h
  have hp9 := pow_le9 hn9
  refine AMet.of [(0, .ref 6), (1, .int x), (2, .int y), (3, .int z)] (by decide +kernel) rfl (Nat.le_of_ble_eq_true rfl) ?_
  by_cases hv : vp_in x 4
  · have hx2 := hx.resolve_left (fun q => q hv)
    obtain ⟨j, hj, rfl⟩ := vp_in_of hv (by decide)
    refine aw_aload_n 0 D_mo_thin_0 rfl rfl ?_
    refine aw_iconst (nI 0) D_mo_thin_1 rfl ?_
    refine aw_put tc_mo D_mo_thin_2 rfl (Nat.le_of_ble_eq_true rfl) rfl rfl ?_
    refine aw_iload_n 1 D_mo_thin_5 rfl rfl ?_
    refine aw_callS1 (As := [_]) D_mo_thin_6 kv_mo_isSheet (c_mo_isSheetT hj) rfl rfl (Nat.le_of_ble_eq_true rfl) (Nat.zero_le _) (Nat.zero_le _) ?_
    refine aw_if_eqN D_mo_thin_9 (by decide) (fun h => absurd h (by decide)) (fun h => ?_)
    refine aw_iload_n 3 D_mo_thin_12 rfl rfl ?_
    refine aw_callS1 (As := [_]) D_mo_thin_13 kv_mo_isSheet (c_mo_isSheetF hx2) rfl rfl (Nat.le_of_ble_eq_true rfl) (Nat.zero_le _) (Nat.zero_le _) ?_
    refine aw_if_neN D_mo_thin_16 (by decide) (fun h => absurd h (by decide)) (fun h => ?_)
    refine aw_iconst (-nI 1) D_mo_thin_19 rfl ?_
    refine aw_ireturn D_mo_thin_20 rfl rfl ?_
    exact ⟨rfl, _, rfl, fd, R, le, sz, o, be, pc, wt, qu, lm, sl, ce, tb, mt, ru, bf, kp, rfl, hn, hn9, hb, hfd, hL, hT⟩
  · refine aw_aload_n 0 D_mo_thin_0 rfl rfl ?_
    refine aw_iconst (nI 0) D_mo_thin_1 rfl ?_
    refine aw_put tc_mo D_mo_thin_2 rfl (Nat.le_of_ble_eq_true rfl) rfl rfl ?_
    refine aw_iload_n 1 D_mo_thin_5 rfl rfl ?_
    refine aw_callS1 (As := [_]) D_mo_thin_6 kv_mo_isSheet (c_mo_isSheetF hv) rfl rfl (Nat.le_of_ble_eq_true rfl) (Nat.zero_le _) (Nat.zero_le _) ?_
    refine aw_if_eqN D_mo_thin_9 (by decide) (fun h => ?_) (fun h => absurd h (by decide))
    refine aw_iconst (-nI 1) D_mo_thin_19 rfl ?_
    refine aw_ireturn D_mo_thin_20 rfl rfl ?_
    exact ⟨rfl, _, rfl, fd, R, le, sz, o, be, pc, wt, qu, lm, sl, ce, tb, mt, ru, bf, kp, rfl, hn, hn9, hb, hfd, hL, hT⟩
theorem c_mo_thinO {k p : Nat} {y : Int32} (hk : k < 4) (hp : p < 4) (hy : ¬ ∃ d, 1 ≤ d ∧ d ≤ 600 ∧ y = nI d) (h : MS n b tc fl la zs cs m) : AMet M_mo_thin [.ref 6, .int (nI k), .int y, .int (nI p)] [a0, a1, a2, a3, a4, a5, m, a7] (fun (r' : Option Value) (w' : Wd) => r' = some (.int (-nI 2)) ∧ ∃ m', w' = [a0, a1, a2, a3, a4, a5, m', a7] ∧ MS n b tc (nI 0) la zs cs m') 0 0 := by
  obtain ⟨fd, R, le, sz, o, be, pc, wt, qu, lm, sl, ce, tb, mt, ru, bf, kp, rfl, hn, hn9, hb, hfd, hL, hT⟩ := h
  have hp9 := pow_le9 hn9
  refine AMet.of [(0, .ref 6), (1, .int (nI k)), (2, .int y), (3, .int (nI p))] (by decide +kernel) rfl (Nat.le_of_ble_eq_true rfl) ?_
  refine aw_aload_n 0 D_mo_thin_0 rfl rfl ?_
  refine aw_iconst (nI 0) D_mo_thin_1 rfl ?_
  refine aw_put tc_mo D_mo_thin_2 rfl (Nat.le_of_ble_eq_true rfl) rfl rfl ?_
  refine aw_iload_n 1 D_mo_thin_5 rfl rfl ?_
  refine aw_callS1 (As := [_]) D_mo_thin_6 kv_mo_isSheet (c_mo_isSheetT hk) rfl rfl (Nat.le_of_ble_eq_true rfl) (Nat.zero_le _) (Nat.zero_le _) ?_
  refine aw_if_eqN D_mo_thin_9 (by decide) (fun h => absurd h (by decide)) (fun h => ?_)
  refine aw_iload_n 3 D_mo_thin_12 rfl rfl ?_
  refine aw_callS1 (As := [_]) D_mo_thin_13 kv_mo_isSheet (c_mo_isSheetT hp) rfl rfl (Nat.le_of_ble_eq_true rfl) (Nat.zero_le _) (Nat.zero_le _) ?_
  refine aw_if_neN D_mo_thin_16 (by decide) (fun h => ?_) (fun h => absurd h (by decide))
  refine aw_iload_n 2 D_mo_thin_21 rfl rfl ?_
  first | with_reducible refine aw_i2lN D_mo_thin_22 (by omega) ?_ | refine aw_i2l D_mo_thin_22 ?_
  refine aw_lconst (lN 1) D_mo_thin_23 rfl ?_
  refine aw_ldc2 D_mo_thin_24 ?_
  refine aw_callS1 (As := [_, _, _]) D_mo_thin_27 kv_mo_within (c_mo_withinF hy (by decide) (by decide)) rfl rfl (Nat.le_of_ble_eq_true rfl) (Nat.zero_le _) (Nat.zero_le _) ?_
  refine aw_if_neN D_mo_thin_30 (by decide) (fun h => absurd h (by decide)) (fun h => ?_)
  refine aw_bipush (-nI 2) D_mo_thin_33 rfl ?_
  refine aw_ireturn D_mo_thin_35 rfl rfl ?_
  exact ⟨rfl, _, rfl, fd, R, le, sz, o, be, pc, wt, qu, lm, sl, ce, tb, mt, ru, bf, kp, rfl, hn, hn9, hb, hfd, hL, hT⟩
theorem c_mo_thinN {k p d : Nat} (hk : k < 4) (hp : p < 4) (hd1 : 1 ≤ d) (hd : d ≤ 600) (hno : la k = -nI 1) (h : MS n b tc fl la zs cs m) : AMet M_mo_thin [.ref 6, .int (nI k), .int (nI d), .int (nI p)] [a0, a1, a2, a3, a4, a5, m, a7] (fun (r' : Option Value) (w' : Wd) => r' = some (.int (-nI 10 - nI 1)) ∧ ∃ m', w' = [a0, a1, a2, a3, a4, a5, m', a7] ∧ MS n b tc (nI 1) la zs cs m') 0 0 := by
  obtain ⟨fd, R, le, sz, o, be, pc, wt, qu, lm, sl, ce, tb, mt, ru, bf, kp, rfl, hn, hn9, hb, hfd, hL, hT⟩ := h
  have hp9 := pow_le9 hn9
  refine AMet.of [(0, .ref 6), (1, .int (nI k)), (2, .int (nI d)), (3, .int (nI p))] (by decide +kernel) rfl (Nat.le_of_ble_eq_true rfl) ?_
  refine aw_aload_n 0 D_mo_thin_0 rfl rfl ?_
  refine aw_iconst (nI 0) D_mo_thin_1 rfl ?_
  refine aw_put tc_mo D_mo_thin_2 rfl (Nat.le_of_ble_eq_true rfl) rfl rfl ?_
  refine aw_iload_n 1 D_mo_thin_5 rfl rfl ?_
  refine aw_callS1 (As := [_]) D_mo_thin_6 kv_mo_isSheet (c_mo_isSheetT hk) rfl rfl (Nat.le_of_ble_eq_true rfl) (Nat.zero_le _) (Nat.zero_le _) ?_
  refine aw_if_eqN D_mo_thin_9 (by decide) (fun h => absurd h (by decide)) (fun h => ?_)
  refine aw_iload_n 3 D_mo_thin_12 rfl rfl ?_
  refine aw_callS1 (As := [_]) D_mo_thin_13 kv_mo_isSheet (c_mo_isSheetT hp) rfl rfl (Nat.le_of_ble_eq_true rfl) (Nat.zero_le _) (Nat.zero_le _) ?_
  refine aw_if_neN D_mo_thin_16 (by decide) (fun h => ?_) (fun h => absurd h (by decide))
  refine aw_iload_n 2 D_mo_thin_21 rfl rfl ?_
  first | with_reducible refine aw_i2lN D_mo_thin_22 (by omega) ?_ | refine aw_i2l D_mo_thin_22 ?_
  refine aw_lconst (lN 1) D_mo_thin_23 rfl ?_
  refine aw_ldc2 D_mo_thin_24 ?_
  refine aw_callS1 (As := [_, _, _]) D_mo_thin_27 kv_mo_within (c_mo_withinT hd1 hd (by decide)) rfl rfl (Nat.le_of_ble_eq_true rfl) (Nat.zero_le _) (Nat.zero_le _) ?_
  refine aw_if_neN D_mo_thin_30 (by decide) (fun h => ?_) (fun h => absurd h (by decide))
  refine aw_aload_n 0 D_mo_thin_36 rfl rfl ?_
  refine aw_get D_mo_thin_37 rfl rfl ?_
  refine aw_iload_n 1 D_mo_thin_40 rfl rfl ?_
  refine aw_ialdN D_mo_thin_41 rfl (by omega) (by omega) ?_
  refine aw_bipush (-nI 9) D_mo_thin_42 rfl ?_
  refine aw_icmp_ne D_mo_thin_44 (fun h => absurd (hL.none hk hno) h) (fun h => ?_)
  refine aw_aload_n 0 D_mo_thin_47 rfl rfl ?_
  refine aw_iconst (nI 1) D_mo_thin_48 rfl ?_
  refine aw_callV1 (As := [_]) D_mo_thin_49 kv_mo_fails (c_mo_fails) rfl rfl rfl rfl rfl (Nat.le_of_ble_eq_true rfl) (Nat.zero_le _) (Nat.zero_le _) ?_
  refine aw_ireturn D_mo_thin_52 rfl rfl ?_
  exact ⟨rfl, _, rfl, fd, R, le, sz, o, be, pc, wt, qu, lm, sl, ce, tb, mt, ru, bf, kp, rfl, hn, hn9, hb, hfd, hL, hT⟩
theorem c_mo_thinT {k p d : Nat} (hk : k < 4) (hp : p < 4) (hd1 : 1 ≤ d) (hd : d ≤ 600) (hne : la k ≠ -nI 1) (h : MS n b tc fl la zs cs m) : AMet M_mo_thin [.ref 6, .int (nI k), .int (nI d), .int (nI p)] [a0, a1, a2, a3, a4, a5, m, a7] (fun (r' : Option Value) (w' : Wd) => r' = some (.int (nI ((zs k + d - 1) / d))) ∧ ∃ m', w' = [a0, a1, a2, a3, a4, a5, m', a7] ∧ MS n b tc (nI 0) (va_up la p (la k)) (va_up zs p ((zs k + d - 1) / d)) (va_up cs p (thinC (cs k) (cs p) d ((zs k + d - 1) / d))) m') 0 0 := by
  obtain ⟨fd, R, le, sz, o, be, pc, wt, qu, lm, sl, ce, tb, mt, ru, bf, kp, rfl, hn, hn9, hb, hfd, hL, hT⟩ := h
  have hp9 := pow_le9 hn9
  refine AMet.of [(0, .ref 6), (1, .int (nI k)), (2, .int (nI d)), (3, .int (nI p))] (by decide +kernel) rfl (Nat.le_of_ble_eq_true rfl) ?_
  generalize hZ : (fun (r' : Option Value) (w' : Wd) => r' = some (.int (nI ((zs k + d - 1) / d))) ∧ ∃ m', w' = [a0, a1, a2, a3, a4, a5, m', a7] ∧ MS n b tc (nI 0) (va_up la p (la k)) (va_up zs p ((zs k + d - 1) / d)) (va_up cs p (thinC (cs k) (cs p) d ((zs k + d - 1) / d))) m') = ZZ
  obtain ⟨l, hl, hl1, hl2, hs1, hs2⟩ := hL.some hk hne
  have hzk := hL.2 k
  refine aw_aload_n 0 D_mo_thin_0 rfl rfl ?_
  refine aw_iconst (nI 0) D_mo_thin_1 rfl ?_
  refine aw_put tc_mo D_mo_thin_2 rfl (Nat.le_of_ble_eq_true rfl) rfl rfl ?_
  refine aw_iload_n 1 D_mo_thin_5 rfl rfl ?_
  refine aw_callS1 (As := [_]) D_mo_thin_6 kv_mo_isSheet (c_mo_isSheetT hk) rfl rfl (Nat.le_of_ble_eq_true rfl) (Nat.zero_le _) (Nat.zero_le _) ?_
  refine aw_if_eqN D_mo_thin_9 (by decide) (fun h => absurd h (by decide)) (fun h => ?_)
  refine aw_iload_n 3 D_mo_thin_12 rfl rfl ?_
  refine aw_callS1 (As := [_]) D_mo_thin_13 kv_mo_isSheet (c_mo_isSheetT hp) rfl rfl (Nat.le_of_ble_eq_true rfl) (Nat.zero_le _) (Nat.zero_le _) ?_
  refine aw_if_neN D_mo_thin_16 (by decide) (fun h => ?_) (fun h => absurd h (by decide))
  refine aw_iload_n 2 D_mo_thin_21 rfl rfl ?_
  first | with_reducible refine aw_i2lN D_mo_thin_22 (by omega) ?_ | refine aw_i2l D_mo_thin_22 ?_
  refine aw_lconst (lN 1) D_mo_thin_23 rfl ?_
  refine aw_ldc2 D_mo_thin_24 ?_
  refine aw_callS1 (As := [_, _, _]) D_mo_thin_27 kv_mo_within (c_mo_withinT hd1 hd (by decide)) rfl rfl (Nat.le_of_ble_eq_true rfl) (Nat.zero_le _) (Nat.zero_le _) ?_
  refine aw_if_neN D_mo_thin_30 (by decide) (fun h => ?_) (fun h => absurd h (by decide))
  refine aw_aload_n 0 D_mo_thin_36 rfl rfl ?_
  refine aw_get D_mo_thin_37 rfl rfl ?_
  refine aw_iload_n 1 D_mo_thin_40 rfl rfl ?_
  refine aw_ialdN D_mo_thin_41 rfl (by omega) (by omega) ?_
  refine aw_bipush (-nI 9) D_mo_thin_42 rfl ?_
  refine aw_icmp_ne D_mo_thin_44 (fun h => ?_) (fun h => absurd h (hL.ne hk hne))
  refine aw_aload_n 0 D_mo_thin_53 rfl rfl ?_
  refine aw_get D_mo_thin_54 rfl rfl ?_
  refine aw_iload_n 1 D_mo_thin_57 rfl rfl ?_
  refine aw_ialdN D_mo_thin_58 rfl (by omega) (by omega) ?_
  refine aw_iload_n 2 D_mo_thin_59 rfl rfl ?_
  first | with_reducible refine aw_iaddN D_mo_thin_60 ?_ | refine aw_iadd D_mo_thin_60 ?_
  refine aw_iconst (nI 1) D_mo_thin_61 rfl ?_
  first | with_reducible refine aw_isubN D_mo_thin_62 (by omega) ?_ | refine aw_isub D_mo_thin_62 ?_
  refine aw_iload_n 2 D_mo_thin_63 rfl rfl ?_
  first | with_reducible refine aw_idivN D_mo_thin_64 (by omega) (by omega) (by omega) ?_ | refine aw_idiv D_mo_thin_64 (by decide) ?_
  rw [hs1]
  have hkl := thin_le (sb := zs k) hd1
  have hin : ∀ i, i < (zs k + d - 1) / d → i * d < zs k := fun i hi => thin_in hd1 hi
  generalize (zs k + d - 1) / d = M at *
  have key : ∀ (e i : Nat), i + e = M → AW M_mo_thin noP (Zp ZZ) 0 0 70 [(0, .ref 6), (1, .int (nI k)), (2, .int (nI d)), (3, .int (nI p)), (4, .int (nI M)), (5, .int (nI i))] [] [a0, a1, a2, a3, a4, a5, MO (nI 0) tc n fd R b le sz o be pc wt qu lm sl (fb_put ce (fun q => ce (600 * k + d * q)) (600 * p) i) tb mt ru bf kp, a7] 0 0 := by
    intro e
    induction e with
    | zero =>
      intro i hi
      have hi : i = M := by omega
      subst hi
      have hL2 : LN (va_up la p (la k)) (va_up zs p i) (va_up cs p (thinC (cs k) (cs p) d i)) (va_up lm p (lm k)) (va_up sl p i) (fb_put ce (fun q => ce (600 * k + d * q)) (600 * p) i) := by
        rw [hl1, hl2]
        refine hL.upd hl (by omega) (fun q hq => ?_) (fun q y hq hne hy => ?_)
        · rw [fb_put_in (by omega) (by omega), show 600 * p + q - 600 * p = q by omega]
          unfold thinC
          rw [if_pos hq, Nat.mul_comm d q]
          exact hs2 _ (hin q hq)
        · rw [fb_put_out (by omega)]
      refine aw_iload D_mo_thin_70 rfl ?_
      refine aw_iload D_mo_thin_72 rfl ?_
      refine aw_icmp_geN D_mo_thin_74 (by omega) (by omega) (fun h => ?_) (fun h => absurd h (by omega))
      refine aw_aload_n 0 D_mo_thin_111 rfl rfl ?_
      refine aw_get D_mo_thin_112 rfl rfl ?_
      refine aw_iload_n 3 D_mo_thin_115 rfl rfl ?_
      refine aw_aload_n 0 D_mo_thin_116 rfl rfl ?_
      refine aw_get D_mo_thin_117 rfl rfl ?_
      refine aw_iload_n 1 D_mo_thin_120 rfl rfl ?_
      refine aw_ialdN D_mo_thin_121 rfl (by omega) (by omega) ?_
      refine aw_iastJ D_mo_thin_122 rfl (by omega) (by omega) ?_
      refine aw_aload_n 0 D_mo_thin_123 rfl rfl ?_
      refine aw_get D_mo_thin_124 rfl rfl ?_
      refine aw_iload_n 3 D_mo_thin_127 rfl rfl ?_
      refine aw_iload D_mo_thin_128 rfl ?_
      refine aw_iastN D_mo_thin_130 rfl (by omega) (by omega) ?_
      refine aw_iload D_mo_thin_131 rfl ?_
      refine aw_ireturn D_mo_thin_133 rfl rfl ?_
      subst hZ; exact ⟨rfl, _, rfl, fd, R, le, sz, o, be, pc, wt, qu, _, _, _, tb, mt, ru, bf, kp, rfl, hn, hn9, hb, hfd, hL2, hT⟩
    | succ e ih =>
      intro i hi
      have hdi := hin i (by omega)
      rw [Nat.mul_comm] at hdi
      have hge : i ≤ d * i := Nat.le_mul_of_pos_left i hd1
      refine aw_iload D_mo_thin_70 rfl ?_
      refine aw_iload D_mo_thin_72 rfl ?_
      refine aw_icmp_geN D_mo_thin_74 (by omega) (by omega) (fun h => absurd h (by omega)) (fun h => ?_)
      refine aw_aload_n 0 D_mo_thin_77 rfl rfl ?_
      refine aw_get D_mo_thin_78 rfl rfl ?_
      refine aw_sipush (nI 600) D_mo_thin_81 rfl ?_
      refine aw_iload_n 3 D_mo_thin_84 rfl rfl ?_
      first | with_reducible refine aw_imulN D_mo_thin_85 ?_ | refine aw_imul D_mo_thin_85 ?_
      refine aw_iload D_mo_thin_86 rfl ?_
      first | with_reducible refine aw_iaddN D_mo_thin_88 ?_ | refine aw_iadd D_mo_thin_88 ?_
      refine aw_aload_n 0 D_mo_thin_89 rfl rfl ?_
      refine aw_get D_mo_thin_90 rfl rfl ?_
      refine aw_sipush (nI 600) D_mo_thin_93 rfl ?_
      refine aw_iload_n 1 D_mo_thin_96 rfl rfl ?_
      first | with_reducible refine aw_imulN D_mo_thin_97 ?_ | refine aw_imul D_mo_thin_97 ?_
      refine aw_iload_n 2 D_mo_thin_98 rfl rfl ?_
      refine aw_iload D_mo_thin_99 rfl ?_
      first | with_reducible refine aw_imulN D_mo_thin_101 ?_ | refine aw_imul D_mo_thin_101 ?_
      first | with_reducible refine aw_iaddN D_mo_thin_102 ?_ | refine aw_iadd D_mo_thin_102 ?_
      refine aw_laldN D_mo_thin_103 rfl (by omega) (by omega) ?_
      rw [fb_put_out (k := 600 * k + d * i) (by
        rcases Nat.lt_trichotomy k p with q | q | q
        · left; omega
        · right; omega
        · right; omega)]
      refine aw_lastJ D_mo_thin_104 rfl (by omega) (by omega) ?_
      first | refine aw_incN D_mo_thin_105 rfl (Nat.le_of_ble_eq_true rfl) rfl ?_ | refine aw_inc D_mo_thin_105 rfl (Nat.le_of_ble_eq_true rfl) rfl ?_
      refine aw_goto D_mo_thin_108 ?_
      rw [updL_va, put_up ce (fun q => ce (600 * k + d * q))]
      exact ih (i + 1) (by omega)
  refine aw_istore D_mo_thin_65 (Nat.le_of_ble_eq_true rfl) rfl ?_
  refine aw_iconst (nI 0) D_mo_thin_67 rfl ?_
  refine aw_istore D_mo_thin_68 (Nat.le_of_ble_eq_true rfl) rfl ?_
  have := key M 0 (by omega)
  rw [fb_put_0] at this
  exact this
theorem c_mo_mixU {x y z : Int32} (hx : ¬ vp_in x 4 ∨ ¬ vp_in y 4) (h : MS n b tc fl la zs cs m) : AMet M_mo_mix [.ref 6, .int x, .int y, .int z] [a0, a1, a2, a3, a4, a5, m, a7] (fun (r' : Option Value) (w' : Wd) => r' = some (.int (-nI 1)) ∧ ∃ m', w' = [a0, a1, a2, a3, a4, a5, m', a7] ∧ MS n b tc (nI 0) la zs cs m') 0 0 := by
  obtain ⟨fd, R, le, sz, o, be, pc, wt, qu, lm, sl, ce, tb, mt, ru, bf, kp, rfl, hn, hn9, hb, hfd, hL, hT⟩ := h
  have hp9 := pow_le9 hn9
  refine AMet.of [(0, .ref 6), (1, .int x), (2, .int y), (3, .int z)] (by decide +kernel) rfl (Nat.le_of_ble_eq_true rfl) ?_
  by_cases hv : vp_in x 4
  · have hx2 := hx.resolve_left (fun q => q hv)
    obtain ⟨j, hj, rfl⟩ := vp_in_of hv (by decide)
    refine aw_aload_n 0 D_mo_mix_0 rfl rfl ?_
    refine aw_iconst (nI 0) D_mo_mix_1 rfl ?_
    refine aw_put tc_mo D_mo_mix_2 rfl (Nat.le_of_ble_eq_true rfl) rfl rfl ?_
    refine aw_iload_n 1 D_mo_mix_5 rfl rfl ?_
    refine aw_callS1 (As := [_]) D_mo_mix_6 kv_mo_isSheet (c_mo_isSheetT hj) rfl rfl (Nat.le_of_ble_eq_true rfl) (Nat.zero_le _) (Nat.zero_le _) ?_
    refine aw_if_eqN D_mo_mix_9 (by decide) (fun h => absurd h (by decide)) (fun h => ?_)
    refine aw_iload_n 2 D_mo_mix_12 rfl rfl ?_
    refine aw_callS1 (As := [_]) D_mo_mix_13 kv_mo_isSheet (c_mo_isSheetF hx2) rfl rfl (Nat.le_of_ble_eq_true rfl) (Nat.zero_le _) (Nat.zero_le _) ?_
    refine aw_if_neN D_mo_mix_16 (by decide) (fun h => absurd h (by decide)) (fun h => ?_)
    refine aw_iconst (-nI 1) D_mo_mix_19 rfl ?_
    refine aw_ireturn D_mo_mix_20 rfl rfl ?_
    exact ⟨rfl, _, rfl, fd, R, le, sz, o, be, pc, wt, qu, lm, sl, ce, tb, mt, ru, bf, kp, rfl, hn, hn9, hb, hfd, hL, hT⟩
  · refine aw_aload_n 0 D_mo_mix_0 rfl rfl ?_
    refine aw_iconst (nI 0) D_mo_mix_1 rfl ?_
    refine aw_put tc_mo D_mo_mix_2 rfl (Nat.le_of_ble_eq_true rfl) rfl rfl ?_
    refine aw_iload_n 1 D_mo_mix_5 rfl rfl ?_
    refine aw_callS1 (As := [_]) D_mo_mix_6 kv_mo_isSheet (c_mo_isSheetF hv) rfl rfl (Nat.le_of_ble_eq_true rfl) (Nat.zero_le _) (Nat.zero_le _) ?_
    refine aw_if_eqN D_mo_mix_9 (by decide) (fun h => ?_) (fun h => absurd h (by decide))
    refine aw_iconst (-nI 1) D_mo_mix_19 rfl ?_
    refine aw_ireturn D_mo_mix_20 rfl rfl ?_
    exact ⟨rfl, _, rfl, fd, R, le, sz, o, be, pc, wt, qu, lm, sl, ce, tb, mt, ru, bf, kp, rfl, hn, hn9, hb, hfd, hL, hT⟩
theorem c_mo_mixO {k p : Nat} {z : Int32} (hk : k < 4) (hp : p < 4) (hy : ¬ vp_in z 2) (h : MS n b tc fl la zs cs m) : AMet M_mo_mix [.ref 6, .int (nI k), .int (nI p), .int z] [a0, a1, a2, a3, a4, a5, m, a7] (fun (r' : Option Value) (w' : Wd) => r' = some (.int (-nI 2)) ∧ ∃ m', w' = [a0, a1, a2, a3, a4, a5, m', a7] ∧ MS n b tc (nI 0) la zs cs m') 0 0 := by
  obtain ⟨fd, R, le, sz, o, be, pc, wt, qu, lm, sl, ce, tb, mt, ru, bf, kp, rfl, hn, hn9, hb, hfd, hL, hT⟩ := h
  have hp9 := pow_le9 hn9
  refine AMet.of [(0, .ref 6), (1, .int (nI k)), (2, .int (nI p)), (3, .int z)] (by decide +kernel) rfl (Nat.le_of_ble_eq_true rfl) ?_
  refine aw_aload_n 0 D_mo_mix_0 rfl rfl ?_
  refine aw_iconst (nI 0) D_mo_mix_1 rfl ?_
  refine aw_put tc_mo D_mo_mix_2 rfl (Nat.le_of_ble_eq_true rfl) rfl rfl ?_
  refine aw_iload_n 1 D_mo_mix_5 rfl rfl ?_
  refine aw_callS1 (As := [_]) D_mo_mix_6 kv_mo_isSheet (c_mo_isSheetT hk) rfl rfl (Nat.le_of_ble_eq_true rfl) (Nat.zero_le _) (Nat.zero_le _) ?_
  refine aw_if_eqN D_mo_mix_9 (by decide) (fun h => absurd h (by decide)) (fun h => ?_)
  refine aw_iload_n 2 D_mo_mix_12 rfl rfl ?_
  refine aw_callS1 (As := [_]) D_mo_mix_13 kv_mo_isSheet (c_mo_isSheetT hp) rfl rfl (Nat.le_of_ble_eq_true rfl) (Nat.zero_le _) (Nat.zero_le _) ?_
  refine aw_if_neN D_mo_mix_16 (by decide) (fun h => ?_) (fun h => absurd h (by decide))
  refine aw_iload_n 3 D_mo_mix_21 rfl rfl ?_
  first | with_reducible refine aw_i2lN D_mo_mix_22 (by omega) ?_ | refine aw_i2l D_mo_mix_22 ?_
  refine aw_lconst (lN 0) D_mo_mix_23 rfl ?_
  refine aw_lconst (lN 1) D_mo_mix_24 rfl ?_
  refine aw_callS1 (As := [_, _, _]) D_mo_mix_25 kv_mo_within (c_mo_withinF (vp_F (N := 1) (by decide) hy) (by decide) (by decide)) rfl rfl (Nat.le_of_ble_eq_true rfl) (Nat.zero_le _) (Nat.zero_le _) ?_
  refine aw_if_neN D_mo_mix_28 (by decide) (fun h => absurd h (by decide)) (fun h => ?_)
  refine aw_bipush (-nI 2) D_mo_mix_31 rfl ?_
  refine aw_ireturn D_mo_mix_33 rfl rfl ?_
  exact ⟨rfl, _, rfl, fd, R, le, sz, o, be, pc, wt, qu, lm, sl, ce, tb, mt, ru, bf, kp, rfl, hn, hn9, hb, hfd, hL, hT⟩
theorem c_mo_mixN {k p j : Nat} (hk : k < 4) (hp : p < 4) (hj : j ≤ 1) (hno : la k = -nI 1 ∨ la p = -nI 1) (h : MS n b tc fl la zs cs m) : AMet M_mo_mix [.ref 6, .int (nI k), .int (nI p), .int (nI j)] [a0, a1, a2, a3, a4, a5, m, a7] (fun (r' : Option Value) (w' : Wd) => r' = some (.int (-nI 10 - nI 1)) ∧ ∃ m', w' = [a0, a1, a2, a3, a4, a5, m', a7] ∧ MS n b tc (nI 1) la zs cs m') 0 0 := by
  obtain ⟨fd, R, le, sz, o, be, pc, wt, qu, lm, sl, ce, tb, mt, ru, bf, kp, rfl, hn, hn9, hb, hfd, hL, hT⟩ := h
  have hp9 := pow_le9 hn9
  refine AMet.of [(0, .ref 6), (1, .int (nI k)), (2, .int (nI p)), (3, .int (nI j))] (by decide +kernel) rfl (Nat.le_of_ble_eq_true rfl) ?_
  generalize hZ : (fun (r' : Option Value) (w' : Wd) => r' = some (.int (-nI 10 - nI 1)) ∧ ∃ m', w' = [a0, a1, a2, a3, a4, a5, m', a7] ∧ MS n b tc (nI 1) la zs cs m') = ZZ
  have hfail : AW M_mo_mix noP (Zp ZZ) 0 0 56 [(0, .ref 6), (1, .int (nI k)), (2, .int (nI p)), (3, .int (nI j))] [] [a0, a1, a2, a3, a4, a5, MO (nI 0) tc n fd R b le sz o be pc wt qu lm sl ce tb mt ru bf kp, a7] 0 0 := by
    refine aw_aload_n 0 D_mo_mix_56 rfl rfl ?_
    refine aw_iconst (nI 1) D_mo_mix_57 rfl ?_
    refine aw_callV1 (As := [_]) D_mo_mix_58 kv_mo_fails (c_mo_fails) rfl rfl rfl rfl rfl (Nat.le_of_ble_eq_true rfl) (Nat.zero_le _) (Nat.zero_le _) ?_
    refine aw_ireturn D_mo_mix_61 rfl rfl ?_
    subst hZ; exact ⟨rfl, _, rfl, fd, R, le, sz, o, be, pc, wt, qu, lm, sl, ce, tb, mt, ru, bf, kp, rfl, hn, hn9, hb, hfd, hL, hT⟩
  refine aw_aload_n 0 D_mo_mix_0 rfl rfl ?_
  refine aw_iconst (nI 0) D_mo_mix_1 rfl ?_
  refine aw_put tc_mo D_mo_mix_2 rfl (Nat.le_of_ble_eq_true rfl) rfl rfl ?_
  refine aw_iload_n 1 D_mo_mix_5 rfl rfl ?_
  refine aw_callS1 (As := [_]) D_mo_mix_6 kv_mo_isSheet (c_mo_isSheetT hk) rfl rfl (Nat.le_of_ble_eq_true rfl) (Nat.zero_le _) (Nat.zero_le _) ?_
  refine aw_if_eqN D_mo_mix_9 (by decide) (fun h => absurd h (by decide)) (fun h => ?_)
  refine aw_iload_n 2 D_mo_mix_12 rfl rfl ?_
  refine aw_callS1 (As := [_]) D_mo_mix_13 kv_mo_isSheet (c_mo_isSheetT hp) rfl rfl (Nat.le_of_ble_eq_true rfl) (Nat.zero_le _) (Nat.zero_le _) ?_
  refine aw_if_neN D_mo_mix_16 (by decide) (fun h => ?_) (fun h => absurd h (by decide))
  refine aw_iload_n 3 D_mo_mix_21 rfl rfl ?_
  first | with_reducible refine aw_i2lN D_mo_mix_22 (by omega) ?_ | refine aw_i2l D_mo_mix_22 ?_
  refine aw_lconst (lN 0) D_mo_mix_23 rfl ?_
  refine aw_lconst (lN 1) D_mo_mix_24 rfl ?_
  refine aw_callS1 (As := [_, _, _]) D_mo_mix_25 kv_mo_within (c_mo_withinT (Nat.zero_le j) hj (by decide)) rfl rfl (Nat.le_of_ble_eq_true rfl) (Nat.zero_le _) (Nat.zero_le _) ?_
  refine aw_if_neN D_mo_mix_28 (by decide) (fun h => ?_) (fun h => absurd h (by decide))
  refine aw_aload_n 0 D_mo_mix_34 rfl rfl ?_
  refine aw_get D_mo_mix_35 rfl rfl ?_
  refine aw_iload_n 1 D_mo_mix_38 rfl rfl ?_
  refine aw_ialdN D_mo_mix_39 rfl (by omega) (by omega) ?_
  refine aw_bipush (-nI 9) D_mo_mix_40 rfl ?_
  refine aw_icmp_eq D_mo_mix_42 (fun h => hfail) (fun h => ?_)
  refine aw_aload_n 0 D_mo_mix_45 rfl rfl ?_
  refine aw_get D_mo_mix_46 rfl rfl ?_
  refine aw_iload_n 2 D_mo_mix_49 rfl rfl ?_
  refine aw_ialdN D_mo_mix_50 rfl (by omega) (by omega) ?_
  refine aw_bipush (-nI 9) D_mo_mix_51 rfl ?_
  refine aw_icmp_ne D_mo_mix_53 (fun h2 => ?_) (fun h2 => hfail)
  rcases hno with q | q
  · exact absurd (hL.none hk q) h
  · exact absurd (hL.none hp q) h2
theorem c_mo_mixC {k p j : Nat} (hk : k < 4) (hp : p < 4) (hj : j ≤ 1) (hnk : la k ≠ -nI 1) (hnp : la p ≠ -nI 1) (hc : la k ≠ la p) (h : MS n b tc fl la zs cs m) : AMet M_mo_mix [.ref 6, .int (nI k), .int (nI p), .int (nI j)] [a0, a1, a2, a3, a4, a5, m, a7] (fun (r' : Option Value) (w' : Wd) => r' = some (.int (-nI 10 - nI 2)) ∧ ∃ m', w' = [a0, a1, a2, a3, a4, a5, m', a7] ∧ MS n b tc (nI 2) la zs cs m') 0 0 := by
  obtain ⟨fd, R, le, sz, o, be, pc, wt, qu, lm, sl, ce, tb, mt, ru, bf, kp, rfl, hn, hn9, hb, hfd, hL, hT⟩ := h
  have hp9 := pow_le9 hn9
  refine AMet.of [(0, .ref 6), (1, .int (nI k)), (2, .int (nI p)), (3, .int (nI j))] (by decide +kernel) rfl (Nat.le_of_ble_eq_true rfl) ?_
  obtain ⟨l, hl, hl1, hl2, hs1, hs2⟩ := hL.some hk hnk
  obtain ⟨l', hl', hl1', hl2', hs1', hs2'⟩ := hL.some hp hnp
  refine aw_aload_n 0 D_mo_mix_0 rfl rfl ?_
  refine aw_iconst (nI 0) D_mo_mix_1 rfl ?_
  refine aw_put tc_mo D_mo_mix_2 rfl (Nat.le_of_ble_eq_true rfl) rfl rfl ?_
  refine aw_iload_n 1 D_mo_mix_5 rfl rfl ?_
  refine aw_callS1 (As := [_]) D_mo_mix_6 kv_mo_isSheet (c_mo_isSheetT hk) rfl rfl (Nat.le_of_ble_eq_true rfl) (Nat.zero_le _) (Nat.zero_le _) ?_
  refine aw_if_eqN D_mo_mix_9 (by decide) (fun h => absurd h (by decide)) (fun h => ?_)
  refine aw_iload_n 2 D_mo_mix_12 rfl rfl ?_
  refine aw_callS1 (As := [_]) D_mo_mix_13 kv_mo_isSheet (c_mo_isSheetT hp) rfl rfl (Nat.le_of_ble_eq_true rfl) (Nat.zero_le _) (Nat.zero_le _) ?_
  refine aw_if_neN D_mo_mix_16 (by decide) (fun h => ?_) (fun h => absurd h (by decide))
  refine aw_iload_n 3 D_mo_mix_21 rfl rfl ?_
  first | with_reducible refine aw_i2lN D_mo_mix_22 (by omega) ?_ | refine aw_i2l D_mo_mix_22 ?_
  refine aw_lconst (lN 0) D_mo_mix_23 rfl ?_
  refine aw_lconst (lN 1) D_mo_mix_24 rfl ?_
  refine aw_callS1 (As := [_, _, _]) D_mo_mix_25 kv_mo_within (c_mo_withinT (Nat.zero_le j) hj (by decide)) rfl rfl (Nat.le_of_ble_eq_true rfl) (Nat.zero_le _) (Nat.zero_le _) ?_
  refine aw_if_neN D_mo_mix_28 (by decide) (fun h => ?_) (fun h => absurd h (by decide))
  refine aw_aload_n 0 D_mo_mix_34 rfl rfl ?_
  refine aw_get D_mo_mix_35 rfl rfl ?_
  refine aw_iload_n 1 D_mo_mix_38 rfl rfl ?_
  refine aw_ialdN D_mo_mix_39 rfl (by omega) (by omega) ?_
  refine aw_bipush (-nI 9) D_mo_mix_40 rfl ?_
  refine aw_icmp_eq D_mo_mix_42 (fun h => absurd h (hL.ne hk hnk)) (fun h => ?_)
  refine aw_aload_n 0 D_mo_mix_45 rfl rfl ?_
  refine aw_get D_mo_mix_46 rfl rfl ?_
  refine aw_iload_n 2 D_mo_mix_49 rfl rfl ?_
  refine aw_ialdN D_mo_mix_50 rfl (by omega) (by omega) ?_
  refine aw_bipush (-nI 9) D_mo_mix_51 rfl ?_
  refine aw_icmp_ne D_mo_mix_53 (fun h => ?_) (fun h => absurd h (hL.ne hp hnp))
  refine aw_aload_n 0 D_mo_mix_62 rfl rfl ?_
  refine aw_get D_mo_mix_63 rfl rfl ?_
  refine aw_iload_n 1 D_mo_mix_66 rfl rfl ?_
  refine aw_ialdN D_mo_mix_67 rfl (by omega) (by omega) ?_
  refine aw_aload_n 0 D_mo_mix_68 rfl rfl ?_
  refine aw_get D_mo_mix_69 rfl rfl ?_
  refine aw_iload_n 2 D_mo_mix_72 rfl rfl ?_
  refine aw_ialdN D_mo_mix_73 rfl (by omega) (by omega) ?_
  refine aw_icmp_eq D_mo_mix_74 (fun h => absurd ((hl1.trans hl2.symm).trans (h.trans (hl2'.trans hl1'.symm))) hc) (fun h => ?_)
  refine aw_aload_n 0 D_mo_mix_77 rfl rfl ?_
  refine aw_iconst (nI 2) D_mo_mix_78 rfl ?_
  refine aw_callV1 (As := [_]) D_mo_mix_79 kv_mo_fails (c_mo_fails) rfl rfl rfl rfl rfl (Nat.le_of_ble_eq_true rfl) (Nat.zero_le _) (Nat.zero_le _) ?_
  refine aw_ireturn D_mo_mix_82 rfl rfl ?_
  exact ⟨rfl, _, rfl, fd, R, le, sz, o, be, pc, wt, qu, lm, sl, ce, tb, mt, ru, bf, kp, rfl, hn, hn9, hb, hfd, hL, hT⟩
theorem c_mo_mixT {k p j : Nat} (hk : k < 4) (hp : p < 4) (hj : j ≤ 1) (hnk : la k ≠ -nI 1) (hc : la k = la p) (h : MS n b tc fl la zs cs m) : AMet M_mo_mix [.ref 6, .int (nI k), .int (nI p), .int (nI j)] [a0, a1, a2, a3, a4, a5, m, a7] (fun (r' : Option Value) (w' : Wd) => r' = some (.int (nI (min (zs k) (zs p)))) ∧ ∃ m', w' = [a0, a1, a2, a3, a4, a5, m', a7] ∧ MS n b tc (nI 0) la zs (va_up cs k (mixC j (cs k) (cs p) (min (zs k) (zs p)))) m') 0 0 := by
  obtain ⟨fd, R, le, sz, o, be, pc, wt, qu, lm, sl, ce, tb, mt, ru, bf, kp, rfl, hn, hn9, hb, hfd, hL, hT⟩ := h
  have hp9 := pow_le9 hn9
  refine AMet.of [(0, .ref 6), (1, .int (nI k)), (2, .int (nI p)), (3, .int (nI j))] (by decide +kernel) rfl (Nat.le_of_ble_eq_true rfl) ?_
  generalize hZ : (fun (r' : Option Value) (w' : Wd) => r' = some (.int (nI (min (zs k) (zs p)))) ∧ ∃ m', w' = [a0, a1, a2, a3, a4, a5, m', a7] ∧ MS n b tc (nI 0) la zs (va_up cs k (mixC j (cs k) (cs p) (min (zs k) (zs p)))) m') = ZZ
  have hnp : la p ≠ -nI 1 := by rw [← hc]; exact hnk
  obtain ⟨l, hl, hl1, hl2, hs1, hs2⟩ := hL.some hk hnk
  obtain ⟨l', hl', hl1', hl2', hs1', hs2'⟩ := hL.some hp hnp
  have hzk := hL.2 k
  have hzp := hL.2 p
  refine aw_aload_n 0 D_mo_mix_0 rfl rfl ?_
  refine aw_iconst (nI 0) D_mo_mix_1 rfl ?_
  refine aw_put tc_mo D_mo_mix_2 rfl (Nat.le_of_ble_eq_true rfl) rfl rfl ?_
  refine aw_iload_n 1 D_mo_mix_5 rfl rfl ?_
  refine aw_callS1 (As := [_]) D_mo_mix_6 kv_mo_isSheet (c_mo_isSheetT hk) rfl rfl (Nat.le_of_ble_eq_true rfl) (Nat.zero_le _) (Nat.zero_le _) ?_
  refine aw_if_eqN D_mo_mix_9 (by decide) (fun h => absurd h (by decide)) (fun h => ?_)
  refine aw_iload_n 2 D_mo_mix_12 rfl rfl ?_
  refine aw_callS1 (As := [_]) D_mo_mix_13 kv_mo_isSheet (c_mo_isSheetT hp) rfl rfl (Nat.le_of_ble_eq_true rfl) (Nat.zero_le _) (Nat.zero_le _) ?_
  refine aw_if_neN D_mo_mix_16 (by decide) (fun h => ?_) (fun h => absurd h (by decide))
  refine aw_iload_n 3 D_mo_mix_21 rfl rfl ?_
  first | with_reducible refine aw_i2lN D_mo_mix_22 (by omega) ?_ | refine aw_i2l D_mo_mix_22 ?_
  refine aw_lconst (lN 0) D_mo_mix_23 rfl ?_
  refine aw_lconst (lN 1) D_mo_mix_24 rfl ?_
  refine aw_callS1 (As := [_, _, _]) D_mo_mix_25 kv_mo_within (c_mo_withinT (Nat.zero_le j) hj (by decide)) rfl rfl (Nat.le_of_ble_eq_true rfl) (Nat.zero_le _) (Nat.zero_le _) ?_
  refine aw_if_neN D_mo_mix_28 (by decide) (fun h => ?_) (fun h => absurd h (by decide))
  refine aw_aload_n 0 D_mo_mix_34 rfl rfl ?_
  refine aw_get D_mo_mix_35 rfl rfl ?_
  refine aw_iload_n 1 D_mo_mix_38 rfl rfl ?_
  refine aw_ialdN D_mo_mix_39 rfl (by omega) (by omega) ?_
  refine aw_bipush (-nI 9) D_mo_mix_40 rfl ?_
  refine aw_icmp_eq D_mo_mix_42 (fun h => absurd h (hL.ne hk hnk)) (fun h => ?_)
  refine aw_aload_n 0 D_mo_mix_45 rfl rfl ?_
  refine aw_get D_mo_mix_46 rfl rfl ?_
  refine aw_iload_n 2 D_mo_mix_49 rfl rfl ?_
  refine aw_ialdN D_mo_mix_50 rfl (by omega) (by omega) ?_
  refine aw_bipush (-nI 9) D_mo_mix_51 rfl ?_
  refine aw_icmp_ne D_mo_mix_53 (fun h => ?_) (fun h => absurd h (hL.ne hp hnp))
  refine aw_aload_n 0 D_mo_mix_62 rfl rfl ?_
  refine aw_get D_mo_mix_63 rfl rfl ?_
  refine aw_iload_n 1 D_mo_mix_66 rfl rfl ?_
  refine aw_ialdN D_mo_mix_67 rfl (by omega) (by omega) ?_
  refine aw_aload_n 0 D_mo_mix_68 rfl rfl ?_
  refine aw_get D_mo_mix_69 rfl rfl ?_
  refine aw_iload_n 2 D_mo_mix_72 rfl rfl ?_
  refine aw_ialdN D_mo_mix_73 rfl (by omega) (by omega) ?_
  refine aw_icmp_eq D_mo_mix_74 (fun h => ?_) (fun h => absurd ((hl2.trans hl1.symm).trans (hc.trans (hl1'.trans hl2'.symm))) h)
  have hMk : min (zs k) (zs p) ≤ zs k := Nat.min_le_left _ _
  have hMp : min (zs k) (zs p) ≤ zs p := Nat.min_le_right _ _
  have rest : ∀ M : Nat, M = min (zs k) (zs p) → AW M_mo_mix noP (Zp ZZ) 0 0 113 [(0, .ref 6), (1, .int (nI k)), (2, .int (nI p)), (3, .int (nI j))] [.int (nI M)] [a0, a1, a2, a3, a4, a5, MO (nI 0) tc n fd R b le sz o be pc wt qu lm sl ce tb mt ru bf kp, a7] 0 0 := by
    intro M hM
    rw [← hM] at hMk hMp hZ
    have key : ∀ (e i : Nat) (L5 : List (Nat × Value)), i + e = M → (L5 = [] ∨ ∃ x y, L5 = [(6, Value.int x), (7, Value.int y)]) → AW M_mo_mix noP (Zp ZZ) 0 0 118 ([(0, .ref 6), (1, .int (nI k)), (2, .int (nI p)), (3, .int (nI j)), (4, .int (nI M)), (5, .int (nI i))] ++ L5) [] [a0, a1, a2, a3, a4, a5, MO (nI 0) tc n fd R b le sz o be pc wt qu lm sl (fb_put ce (fun q => lN (opn j (bt (ce (600 * k + q))) (bt (ce (600 * p + q))))) (600 * k) i) tb mt ru bf kp, a7] 0 0 := by
      intro e
      induction e with
      | zero =>
        intro i L5 hi hL5
        have hi : i = M := by omega
        subst hi
        have hL2 : LN la zs (va_up cs k (mixC j (cs k) (cs p) i)) lm sl (fb_put ce (fun q => lN (opn j (bt (ce (600 * k + q))) (bt (ce (600 * p + q))))) (600 * k) i) := by
          refine hL.cell (fun q hq => ?_) (fun q y hq hne hy => ?_)
          · unfold mixC
            by_cases e : q < i
            · rw [if_pos e, fb_put_in (by omega) (by omega), show 600 * k + q - 600 * k = q by omega, hs2 q hq, hs2' q (by omega)]
            · rw [if_neg e, fb_put_out (by omega)]
              exact hs2 q hq
          · rw [fb_put_out (by omega)]
        have hfin : AW M_mo_mix noP (Zp ZZ) 0 0 118 [(0, .ref 6), (1, .int (nI k)), (2, .int (nI p)), (3, .int (nI j)), (4, .int (nI i)), (5, .int (nI i))] [] [a0, a1, a2, a3, a4, a5, MO (nI 0) tc n fd R b le sz o be pc wt qu lm sl (fb_put ce (fun q => lN (opn j (bt (ce (600 * k + q))) (bt (ce (600 * p + q))))) (600 * k) i) tb mt ru bf kp, a7] 0 0 := by
          refine aw_iload D_mo_mix_118 rfl ?_
          refine aw_iload D_mo_mix_120 rfl ?_
          refine aw_icmp_geN D_mo_mix_122 (by omega) (by omega) (fun h => ?_) (fun h => absurd h (by omega))
          refine aw_iload D_mo_mix_181 rfl ?_
          refine aw_ireturn D_mo_mix_183 rfl rfl ?_
          subst hZ; exact ⟨rfl, _, rfl, fd, R, le, sz, o, be, pc, wt, qu, lm, sl, _, tb, mt, ru, bf, kp, rfl, hn, hn9, hb, hfd, hL2, hT⟩
        rcases hL5 with rfl | ⟨x, y, rfl⟩
        · exact hfin
        · exact aw_take 6 hfin
      | succ e ih =>
        intro i L5 hi hL5
        have hb1 := bt_le (ce (600 * k + i))
        have hb2 := bt_le (ce (600 * p + i))
        have hr1 : fb_put ce (fun q => lN (opn j (bt (ce (600 * k + q))) (bt (ce (600 * p + q))))) (600 * k) i (600 * k + i) = ce (600 * k + i) := fb_put_out (by omega)
        have hr2 : fb_put ce (fun q => lN (opn j (bt (ce (600 * k + q))) (bt (ce (600 * p + q))))) (600 * k) i (600 * p + i) = ce (600 * p + i) := fb_put_out (by
          rcases Nat.lt_trichotomy k p with q | q | q
          · right; omega
          · right; omega
          · left; omega)
        have hfin : AW M_mo_mix noP (Zp ZZ) 0 0 118 [(0, .ref 6), (1, .int (nI k)), (2, .int (nI p)), (3, .int (nI j)), (4, .int (nI M)), (5, .int (nI i))] [] [a0, a1, a2, a3, a4, a5, MO (nI 0) tc n fd R b le sz o be pc wt qu lm sl (fb_put ce (fun q => lN (opn j (bt (ce (600 * k + q))) (bt (ce (600 * p + q))))) (600 * k) i) tb mt ru bf kp, a7] 0 0 := by
          have hstore : ∀ v : Nat, v = opn j (bt (ce (600 * k + i))) (bt (ce (600 * p + i))) → AW M_mo_mix noP (Zp ZZ) 0 0 174 [(0, .ref 6), (1, .int (nI k)), (2, .int (nI p)), (3, .int (nI j)), (4, .int (nI M)), (5, .int (nI i)), (6, .int (nI (bt (ce (600 * k + i))))), (7, .int (nI (bt (ce (600 * p + i)))))] [.long (lN v), .int (nI (600 * k + i)), .ref 182] [a0, a1, a2, a3, a4, a5, MO (nI 0) tc n fd R b le sz o be pc wt qu lm sl (fb_put ce (fun q => lN (opn j (bt (ce (600 * k + q))) (bt (ce (600 * p + q))))) (600 * k) i) tb mt ru bf kp, a7] 0 0 := by
            intro v hv
            refine aw_lastJ D_mo_mix_174 rfl (by omega) (by omega) ?_
            first | refine aw_incN D_mo_mix_175 rfl (Nat.le_of_ble_eq_true rfl) rfl ?_ | refine aw_inc D_mo_mix_175 rfl (Nat.le_of_ble_eq_true rfl) rfl ?_
            refine aw_goto D_mo_mix_178 ?_
            rw [hv, updL_va, put_up ce (fun q => lN (opn j (bt (ce (600 * k + q))) (bt (ce (600 * p + q)))))]
            exact ih (i + 1) [(6, .int (nI (bt (ce (600 * k + i))))), (7, .int (nI (bt (ce (600 * p + i)))))] (by omega) (Or.inr ⟨_, _, rfl⟩)
          refine aw_iload D_mo_mix_118 rfl ?_
          refine aw_iload D_mo_mix_120 rfl ?_
          refine aw_icmp_geN D_mo_mix_122 (by omega) (by omega) (fun h => absurd h (by omega)) (fun h => ?_)
          refine aw_aload_n 0 D_mo_mix_125 rfl rfl ?_
          refine aw_iload_n 1 D_mo_mix_126 rfl rfl ?_
          refine aw_iload D_mo_mix_127 rfl ?_
          refine aw_callV1 (As := [_, _]) D_mo_mix_129 kv_mo_bit (c_mo_bit hk (show i < 600 by omega)) rfl rfl rfl rfl rfl (Nat.le_of_ble_eq_true rfl) (Nat.zero_le _) (Nat.zero_le _) ?_
          rw [hr1]
          refine aw_istore D_mo_mix_132 (Nat.le_of_ble_eq_true rfl) rfl ?_
          refine aw_aload_n 0 D_mo_mix_134 rfl rfl ?_
          refine aw_iload_n 2 D_mo_mix_135 rfl rfl ?_
          refine aw_iload D_mo_mix_136 rfl ?_
          refine aw_callV1 (As := [_, _]) D_mo_mix_138 kv_mo_bit (c_mo_bit hp (show i < 600 by omega)) rfl rfl rfl rfl rfl (Nat.le_of_ble_eq_true rfl) (Nat.zero_le _) (Nat.zero_le _) ?_
          rw [hr2]
          refine aw_istore D_mo_mix_141 (Nat.le_of_ble_eq_true rfl) rfl ?_
          refine aw_aload_n 0 D_mo_mix_143 rfl rfl ?_
          refine aw_get D_mo_mix_144 rfl rfl ?_
          refine aw_sipush (nI 600) D_mo_mix_147 rfl ?_
          refine aw_iload_n 1 D_mo_mix_150 rfl rfl ?_
          first | with_reducible refine aw_imulN D_mo_mix_151 ?_ | refine aw_imul D_mo_mix_151 ?_
          refine aw_iload D_mo_mix_152 rfl ?_
          first | with_reducible refine aw_iaddN D_mo_mix_154 ?_ | refine aw_iadd D_mo_mix_154 ?_
          refine aw_iload_n 3 D_mo_mix_155 rfl rfl ?_
          refine aw_if_neN D_mo_mix_156 (by omega) (fun h => ?_) (fun h => ?_)
          · have hle := and_le1 hb1 hb2
            refine aw_iload D_mo_mix_168 rfl ?_
            refine aw_iload D_mo_mix_170 rfl ?_
            first | with_reducible refine aw_iandN D_mo_mix_172 ?_ | refine aw_iand D_mo_mix_172 ?_
            first | with_reducible refine aw_i2lN D_mo_mix_173 (by omega) ?_ | refine aw_i2l D_mo_mix_173 ?_
            exact hstore _ (by unfold opn; rw [if_neg (by omega)])
          · have hle := xor_le1 hb1 hb2
            refine aw_iload D_mo_mix_159 rfl ?_
            refine aw_iload D_mo_mix_161 rfl ?_
            first | with_reducible refine aw_ixorN D_mo_mix_163 ?_ | refine aw_ixor D_mo_mix_163 ?_
            first | with_reducible refine aw_i2lN D_mo_mix_164 (by omega) ?_ | refine aw_i2l D_mo_mix_164 ?_
            refine aw_goto D_mo_mix_165 ?_
            exact hstore _ (by unfold opn; rw [if_pos h])
        rcases hL5 with rfl | ⟨x, y, rfl⟩
        · exact hfin
        · exact aw_take 6 hfin
    refine aw_istore D_mo_mix_113 (Nat.le_of_ble_eq_true rfl) rfl ?_
    refine aw_iconst (nI 0) D_mo_mix_115 rfl ?_
    refine aw_istore D_mo_mix_116 (Nat.le_of_ble_eq_true rfl) rfl ?_
    have := key M 0 [] (by omega) (Or.inl rfl)
    rw [fb_put_0] at this
    exact this
  refine aw_aload_n 0 D_mo_mix_83 rfl rfl ?_
  refine aw_get D_mo_mix_84 rfl rfl ?_
  refine aw_iload_n 1 D_mo_mix_87 rfl rfl ?_
  refine aw_ialdN D_mo_mix_88 rfl (by omega) (by omega) ?_
  refine aw_aload_n 0 D_mo_mix_89 rfl rfl ?_
  refine aw_get D_mo_mix_90 rfl rfl ?_
  refine aw_iload_n 2 D_mo_mix_93 rfl rfl ?_
  refine aw_ialdN D_mo_mix_94 rfl (by omega) (by omega) ?_
  refine aw_icmp_geN D_mo_mix_95 (by omega) (by omega) (fun h => ?_) (fun h => ?_)
  · refine aw_aload_n 0 D_mo_mix_107 rfl rfl ?_
    refine aw_get D_mo_mix_108 rfl rfl ?_
    refine aw_iload_n 2 D_mo_mix_111 rfl rfl ?_
    refine aw_ialdN D_mo_mix_112 rfl (by omega) (by omega) ?_
    exact rest _ (by omega)
  · refine aw_aload_n 0 D_mo_mix_98 rfl rfl ?_
    refine aw_get D_mo_mix_99 rfl rfl ?_
    refine aw_iload_n 1 D_mo_mix_102 rfl rfl ?_
    refine aw_ialdN D_mo_mix_103 rfl (by omega) (by omega) ?_
    refine aw_goto D_mo_mix_104 ?_
    exact rest _ (by omega)
theorem c_mo_takeU {x l y p u : Int32} (hx : ¬ vp_in x 4 ∨ ¬ vp_in u (2 ^ n)) (h : MS n b tc fl la zs cs m) : AMet M_mo_take [.ref 6, .int x, .int l, .int y, .int p, .int u] [a0, a1, a2, a3, a4, a5, m, a7] (fun (r' : Option Value) (w' : Wd) => r' = some (.int (-nI 1)) ∧ ∃ m', w' = [a0, a1, a2, a3, a4, a5, m', a7] ∧ MS n b tc (nI 0) la zs cs m') 0 0 := by
  obtain ⟨fd, R, le, sz, o, be, pc, wt, qu, lm, sl, ce, tb, mt, ru, bf, kp, rfl, hn, hn9, hb, hfd, hL, hT⟩ := h
  have hp9 := pow_le9 hn9
  refine AMet.of [(0, .ref 6), (1, .int x), (2, .int l), (3, .int y), (4, .int p), (5, .int u)] (by decide +kernel) rfl (Nat.le_of_ble_eq_true rfl) ?_
  by_cases hv : vp_in x 4
  · have hx2 := hx.resolve_left (fun q => q hv)
    obtain ⟨j, hj, rfl⟩ := vp_in_of hv (by decide)
    refine aw_aload_n 0 D_mo_take_0 rfl rfl ?_
    refine aw_iconst (nI 0) D_mo_take_1 rfl ?_
    refine aw_put tc_mo D_mo_take_2 rfl (Nat.le_of_ble_eq_true rfl) rfl rfl ?_
    refine aw_iload_n 1 D_mo_take_5 rfl rfl ?_
    refine aw_callS1 (As := [_]) D_mo_take_6 kv_mo_isSheet (c_mo_isSheetT hj) rfl rfl (Nat.le_of_ble_eq_true rfl) (Nat.zero_le _) (Nat.zero_le _) ?_
    refine aw_if_eqN D_mo_take_9 (by decide) (fun h => absurd h (by decide)) (fun h => ?_)
    refine aw_aload_n 0 D_mo_take_12 rfl rfl ?_
    refine aw_iload D_mo_take_13 rfl ?_
    refine aw_callV1 (As := [_]) D_mo_take_15 kv_mo_isState (c_mo_isStateF hn9 hx2) rfl rfl rfl rfl rfl (Nat.le_of_ble_eq_true rfl) (Nat.zero_le _) (Nat.zero_le _) ?_
    refine aw_if_neN D_mo_take_18 (by decide) (fun h => absurd h (by decide)) (fun h => ?_)
    refine aw_iconst (-nI 1) D_mo_take_21 rfl ?_
    refine aw_ireturn D_mo_take_22 rfl rfl ?_
    exact ⟨rfl, _, rfl, fd, R, le, sz, o, be, pc, wt, qu, lm, sl, ce, tb, mt, ru, bf, kp, rfl, hn, hn9, hb, hfd, hL, hT⟩
  · refine aw_aload_n 0 D_mo_take_0 rfl rfl ?_
    refine aw_iconst (nI 0) D_mo_take_1 rfl ?_
    refine aw_put tc_mo D_mo_take_2 rfl (Nat.le_of_ble_eq_true rfl) rfl rfl ?_
    refine aw_iload_n 1 D_mo_take_5 rfl rfl ?_
    refine aw_callS1 (As := [_]) D_mo_take_6 kv_mo_isSheet (c_mo_isSheetF hv) rfl rfl (Nat.le_of_ble_eq_true rfl) (Nat.zero_le _) (Nat.zero_le _) ?_
    refine aw_if_eqN D_mo_take_9 (by decide) (fun h => ?_) (fun h => absurd h (by decide))
    refine aw_iconst (-nI 1) D_mo_take_21 rfl ?_
    refine aw_ireturn D_mo_take_22 rfl rfl ?_
    exact ⟨rfl, _, rfl, fd, R, le, sz, o, be, pc, wt, qu, lm, sl, ce, tb, mt, ru, bf, kp, rfl, hn, hn9, hb, hfd, hL, hT⟩
theorem c_mo_takeO {k s : Nat} {l y p : Int32} (hk : k < 4) (hs : s < 2 ^ n) (hl : ¬ vp_in l 3) (h : MS n b tc fl la zs cs m) : AMet M_mo_take [.ref 6, .int (nI k), .int l, .int y, .int p, .int (nI s)] [a0, a1, a2, a3, a4, a5, m, a7] (fun (r' : Option Value) (w' : Wd) => r' = some (.int (-nI 2)) ∧ ∃ m', w' = [a0, a1, a2, a3, a4, a5, m', a7] ∧ MS n b tc (nI 0) la zs cs m') 0 0 := by
  obtain ⟨fd, R, le, sz, o, be, pc, wt, qu, lm, sl, ce, tb, mt, ru, bf, kp, rfl, hn, hn9, hb, hfd, hL, hT⟩ := h
  have hp9 := pow_le9 hn9
  refine AMet.of [(0, .ref 6), (1, .int (nI k)), (2, .int l), (3, .int y), (4, .int p), (5, .int (nI s))] (by decide +kernel) rfl (Nat.le_of_ble_eq_true rfl) ?_
  refine aw_aload_n 0 D_mo_take_0 rfl rfl ?_
  refine aw_iconst (nI 0) D_mo_take_1 rfl ?_
  refine aw_put tc_mo D_mo_take_2 rfl (Nat.le_of_ble_eq_true rfl) rfl rfl ?_
  refine aw_iload_n 1 D_mo_take_5 rfl rfl ?_
  refine aw_callS1 (As := [_]) D_mo_take_6 kv_mo_isSheet (c_mo_isSheetT hk) rfl rfl (Nat.le_of_ble_eq_true rfl) (Nat.zero_le _) (Nat.zero_le _) ?_
  refine aw_if_eqN D_mo_take_9 (by decide) (fun h => absurd h (by decide)) (fun h => ?_)
  refine aw_aload_n 0 D_mo_take_12 rfl rfl ?_
  refine aw_iload D_mo_take_13 rfl ?_
  refine aw_callV1 (As := [_]) D_mo_take_15 kv_mo_isState (c_mo_isStateT hn9 hs) rfl rfl rfl rfl rfl (Nat.le_of_ble_eq_true rfl) (Nat.zero_le _) (Nat.zero_le _) ?_
  refine aw_if_neN D_mo_take_18 (by decide) (fun h => ?_) (fun h => absurd h (by decide))
  refine aw_iload_n 2 D_mo_take_23 rfl rfl ?_
  first | with_reducible refine aw_i2lN D_mo_take_24 (by omega) ?_ | refine aw_i2l D_mo_take_24 ?_
  refine aw_lconst (lN 0) D_mo_take_25 rfl ?_
  refine aw_ldc2 D_mo_take_26 ?_
  refine aw_callS1 (As := [_, _, _]) D_mo_take_29 kv_mo_within (c_mo_withinF (vp_F (N := 2) (by decide) hl) (by decide) (by decide)) rfl rfl (Nat.le_of_ble_eq_true rfl) (Nat.zero_le _) (Nat.zero_le _) ?_
  refine aw_if_neN D_mo_take_32 (by decide) (fun h => absurd h (by decide)) (fun h => ?_)
  refine aw_bipush (-nI 2) D_mo_take_35 rfl ?_
  refine aw_ireturn D_mo_take_37 rfl rfl ?_
  exact ⟨rfl, _, rfl, fd, R, le, sz, o, be, pc, wt, qu, lm, sl, ce, tb, mt, ru, bf, kp, rfl, hn, hn9, hb, hfd, hL, hT⟩
theorem c_mo_takeC {k s l : Nat} {y p : Int32} (hk : k < 4) (hs : s < 2 ^ n) (hl : l < 3) (hne : la k ≠ -nI 1) (hc : la k ≠ nI l) (h : MS n b tc fl la zs cs m) : AMet M_mo_take [.ref 6, .int (nI k), .int (nI l), .int y, .int p, .int (nI s)] [a0, a1, a2, a3, a4, a5, m, a7] (fun (r' : Option Value) (w' : Wd) => r' = some (.int (-nI 10 - nI 2)) ∧ ∃ m', w' = [a0, a1, a2, a3, a4, a5, m', a7] ∧ MS n b tc (nI 2) la zs cs m') 0 0 := by
  obtain ⟨fd, R, le, sz, o, be, pc, wt, qu, lm, sl, ce, tb, mt, ru, bf, kp, rfl, hn, hn9, hb, hfd, hL, hT⟩ := h
  have hp9 := pow_le9 hn9
  refine AMet.of [(0, .ref 6), (1, .int (nI k)), (2, .int (nI l)), (3, .int y), (4, .int p), (5, .int (nI s))] (by decide +kernel) rfl (Nat.le_of_ble_eq_true rfl) ?_
  refine aw_aload_n 0 D_mo_take_0 rfl rfl ?_
  refine aw_iconst (nI 0) D_mo_take_1 rfl ?_
  refine aw_put tc_mo D_mo_take_2 rfl (Nat.le_of_ble_eq_true rfl) rfl rfl ?_
  refine aw_iload_n 1 D_mo_take_5 rfl rfl ?_
  refine aw_callS1 (As := [_]) D_mo_take_6 kv_mo_isSheet (c_mo_isSheetT hk) rfl rfl (Nat.le_of_ble_eq_true rfl) (Nat.zero_le _) (Nat.zero_le _) ?_
  refine aw_if_eqN D_mo_take_9 (by decide) (fun h => absurd h (by decide)) (fun h => ?_)
  refine aw_aload_n 0 D_mo_take_12 rfl rfl ?_
  refine aw_iload D_mo_take_13 rfl ?_
  refine aw_callV1 (As := [_]) D_mo_take_15 kv_mo_isState (c_mo_isStateT hn9 hs) rfl rfl rfl rfl rfl (Nat.le_of_ble_eq_true rfl) (Nat.zero_le _) (Nat.zero_le _) ?_
  refine aw_if_neN D_mo_take_18 (by decide) (fun h => ?_) (fun h => absurd h (by decide))
  refine aw_iload_n 2 D_mo_take_23 rfl rfl ?_
  first | with_reducible refine aw_i2lN D_mo_take_24 (by omega) ?_ | refine aw_i2l D_mo_take_24 ?_
  refine aw_lconst (lN 0) D_mo_take_25 rfl ?_
  refine aw_ldc2 D_mo_take_26 ?_
  refine aw_callS1 (As := [_, _, _]) D_mo_take_29 kv_mo_within (c_mo_withinT (Nat.zero_le l) (show l ≤ 2 by omega) (by decide)) rfl rfl (Nat.le_of_ble_eq_true rfl) (Nat.zero_le _) (Nat.zero_le _) ?_
  refine aw_if_neN D_mo_take_32 (by decide) (fun h => ?_) (fun h => absurd h (by decide))
  refine aw_aload_n 0 D_mo_take_38 rfl rfl ?_
  refine aw_get D_mo_take_39 rfl rfl ?_
  refine aw_iload_n 1 D_mo_take_42 rfl rfl ?_
  refine aw_ialdN D_mo_take_43 rfl (by omega) (by omega) ?_
  refine aw_bipush (-nI 9) D_mo_take_44 rfl ?_
  obtain ⟨l', hl', hl1, hl2, hs1, hs2⟩ := hL.some hk hne
  refine aw_icmp_eq D_mo_take_46 (fun h => absurd h (hL.ne hk hne)) (fun h => ?_)
  refine aw_aload_n 0 D_mo_take_49 rfl rfl ?_
  refine aw_get D_mo_take_50 rfl rfl ?_
  refine aw_iload_n 1 D_mo_take_53 rfl rfl ?_
  refine aw_ialdN D_mo_take_54 rfl (by omega) (by omega) ?_
  refine aw_iload_n 2 D_mo_take_55 rfl rfl ?_
  refine aw_icmp_eq D_mo_take_56 (fun h => absurd ((hl1.trans hl2.symm).trans h) hc) (fun h => ?_)
  refine aw_aload_n 0 D_mo_take_59 rfl rfl ?_
  refine aw_iconst (nI 2) D_mo_take_60 rfl ?_
  refine aw_callV1 (As := [_]) D_mo_take_61 kv_mo_fails (c_mo_fails) rfl rfl rfl rfl rfl (Nat.le_of_ble_eq_true rfl) (Nat.zero_le _) (Nat.zero_le _) ?_
  refine aw_ireturn D_mo_take_64 rfl rfl ?_
  exact ⟨rfl, _, rfl, fd, R, le, sz, o, be, pc, wt, qu, lm, sl, ce, tb, mt, ru, bf, kp, rfl, hn, hn9, hb, hfd, hL, hT⟩
theorem c_mo_takeN {k s l : Nat} {y p : Int32} (hk : k < 4) (hs : s < 2 ^ n) (hl : l < 3) (hno : la k = -nI 1) (h : MS n b tc fl la zs cs m) : AMet M_mo_take [.ref 6, .int (nI k), .int (nI l), .int y, .int p, .int (nI s)] [a0, a1, a2, a3, a4, a5, m, a7] (fun (r' : Option Value) (w' : Wd) => r' = some (.int (-nI 10 - nI 1)) ∧ ∃ m', w' = [a0, a1, a2, a3, a4, a5, m', a7] ∧ MS n b tc (nI 1) la zs cs m') 0 0 := by
  obtain ⟨fd, R, le, sz, o, be, pc, wt, qu, lm, sl, ce, tb, mt, ru, bf, kp, rfl, hn, hn9, hb, hfd, hL, hT⟩ := h
  have hp9 := pow_le9 hn9
  refine AMet.of [(0, .ref 6), (1, .int (nI k)), (2, .int (nI l)), (3, .int y), (4, .int p), (5, .int (nI s))] (by decide +kernel) rfl (Nat.le_of_ble_eq_true rfl) ?_
  refine aw_aload_n 0 D_mo_take_0 rfl rfl ?_
  refine aw_iconst (nI 0) D_mo_take_1 rfl ?_
  refine aw_put tc_mo D_mo_take_2 rfl (Nat.le_of_ble_eq_true rfl) rfl rfl ?_
  refine aw_iload_n 1 D_mo_take_5 rfl rfl ?_
  refine aw_callS1 (As := [_]) D_mo_take_6 kv_mo_isSheet (c_mo_isSheetT hk) rfl rfl (Nat.le_of_ble_eq_true rfl) (Nat.zero_le _) (Nat.zero_le _) ?_
  refine aw_if_eqN D_mo_take_9 (by decide) (fun h => absurd h (by decide)) (fun h => ?_)
  refine aw_aload_n 0 D_mo_take_12 rfl rfl ?_
  refine aw_iload D_mo_take_13 rfl ?_
  refine aw_callV1 (As := [_]) D_mo_take_15 kv_mo_isState (c_mo_isStateT hn9 hs) rfl rfl rfl rfl rfl (Nat.le_of_ble_eq_true rfl) (Nat.zero_le _) (Nat.zero_le _) ?_
  refine aw_if_neN D_mo_take_18 (by decide) (fun h => ?_) (fun h => absurd h (by decide))
  refine aw_iload_n 2 D_mo_take_23 rfl rfl ?_
  first | with_reducible refine aw_i2lN D_mo_take_24 (by omega) ?_ | refine aw_i2l D_mo_take_24 ?_
  refine aw_lconst (lN 0) D_mo_take_25 rfl ?_
  refine aw_ldc2 D_mo_take_26 ?_
  refine aw_callS1 (As := [_, _, _]) D_mo_take_29 kv_mo_within (c_mo_withinT (Nat.zero_le l) (show l ≤ 2 by omega) (by decide)) rfl rfl (Nat.le_of_ble_eq_true rfl) (Nat.zero_le _) (Nat.zero_le _) ?_
  refine aw_if_neN D_mo_take_32 (by decide) (fun h => ?_) (fun h => absurd h (by decide))
  refine aw_aload_n 0 D_mo_take_38 rfl rfl ?_
  refine aw_get D_mo_take_39 rfl rfl ?_
  refine aw_iload_n 1 D_mo_take_42 rfl rfl ?_
  refine aw_ialdN D_mo_take_43 rfl (by omega) (by omega) ?_
  refine aw_bipush (-nI 9) D_mo_take_44 rfl ?_
  refine aw_icmp_eq D_mo_take_46 (fun h => ?_) (fun h => absurd (hL.none hk hno) h)
  refine aw_aload_n 0 D_mo_take_65 rfl rfl ?_
  refine aw_get D_mo_take_66 rfl rfl ?_
  refine aw_iload_n 1 D_mo_take_69 rfl rfl ?_
  refine aw_ialdN D_mo_take_70 rfl (by omega) (by omega) ?_
  refine aw_bipush (-nI 9) D_mo_take_71 rfl ?_
  refine aw_icmp_ne D_mo_take_73 (fun h => absurd (hL.none hk hno) h) (fun h => ?_)
  refine aw_aload_n 0 D_mo_take_76 rfl rfl ?_
  refine aw_iconst (nI 1) D_mo_take_77 rfl ?_
  refine aw_callV1 (As := [_]) D_mo_take_78 kv_mo_fails (c_mo_fails) rfl rfl rfl rfl rfl (Nat.le_of_ble_eq_true rfl) (Nat.zero_le _) (Nat.zero_le _) ?_
  refine aw_ireturn D_mo_take_81 rfl rfl ?_
  exact ⟨rfl, _, rfl, fd, R, le, sz, o, be, pc, wt, qu, lm, sl, ce, tb, mt, ru, bf, kp, rfl, hn, hn9, hb, hfd, hL, hT⟩
theorem c_mo_takeZ {k s l : Nat} {y p : Int32} (hk : k < 4) (hs : s < 2 ^ n) (hl : l < 3) (hll : la k = nI l) (hp : p < 0) (h : MS n b tc fl la zs cs m) : AMet M_mo_take [.ref 6, .int (nI k), .int (nI l), .int y, .int p, .int (nI s)] [a0, a1, a2, a3, a4, a5, m, a7] (fun (r' : Option Value) (w' : Wd) => r' = some (.int (-nI 10 - nI 4)) ∧ ∃ m', w' = [a0, a1, a2, a3, a4, a5, m', a7] ∧ MS n b tc (nI 4) la zs cs m') 0 0 := by
  obtain ⟨fd, R, le, sz, o, be, pc, wt, qu, lm, sl, ce, tb, mt, ru, bf, kp, rfl, hn, hn9, hb, hfd, hL, hT⟩ := h
  have hp9 := pow_le9 hn9
  refine AMet.of [(0, .ref 6), (1, .int (nI k)), (2, .int (nI l)), (3, .int y), (4, .int p), (5, .int (nI s))] (by decide +kernel) rfl (Nat.le_of_ble_eq_true rfl) ?_
  refine aw_aload_n 0 D_mo_take_0 rfl rfl ?_
  refine aw_iconst (nI 0) D_mo_take_1 rfl ?_
  refine aw_put tc_mo D_mo_take_2 rfl (Nat.le_of_ble_eq_true rfl) rfl rfl ?_
  refine aw_iload_n 1 D_mo_take_5 rfl rfl ?_
  refine aw_callS1 (As := [_]) D_mo_take_6 kv_mo_isSheet (c_mo_isSheetT hk) rfl rfl (Nat.le_of_ble_eq_true rfl) (Nat.zero_le _) (Nat.zero_le _) ?_
  refine aw_if_eqN D_mo_take_9 (by decide) (fun h => absurd h (by decide)) (fun h => ?_)
  refine aw_aload_n 0 D_mo_take_12 rfl rfl ?_
  refine aw_iload D_mo_take_13 rfl ?_
  refine aw_callV1 (As := [_]) D_mo_take_15 kv_mo_isState (c_mo_isStateT hn9 hs) rfl rfl rfl rfl rfl (Nat.le_of_ble_eq_true rfl) (Nat.zero_le _) (Nat.zero_le _) ?_
  refine aw_if_neN D_mo_take_18 (by decide) (fun h => ?_) (fun h => absurd h (by decide))
  refine aw_iload_n 2 D_mo_take_23 rfl rfl ?_
  first | with_reducible refine aw_i2lN D_mo_take_24 (by omega) ?_ | refine aw_i2l D_mo_take_24 ?_
  refine aw_lconst (lN 0) D_mo_take_25 rfl ?_
  refine aw_ldc2 D_mo_take_26 ?_
  refine aw_callS1 (As := [_, _, _]) D_mo_take_29 kv_mo_within (c_mo_withinT (Nat.zero_le l) (show l ≤ 2 by omega) (by decide)) rfl rfl (Nat.le_of_ble_eq_true rfl) (Nat.zero_le _) (Nat.zero_le _) ?_
  refine aw_if_neN D_mo_take_32 (by decide) (fun h => ?_) (fun h => absurd h (by decide))
  refine aw_aload_n 0 D_mo_take_38 rfl rfl ?_
  refine aw_get D_mo_take_39 rfl rfl ?_
  refine aw_iload_n 1 D_mo_take_42 rfl rfl ?_
  refine aw_ialdN D_mo_take_43 rfl (by omega) (by omega) ?_
  refine aw_bipush (-nI 9) D_mo_take_44 rfl ?_
  have hne : la k ≠ -nI 1 := by rw [hll]; exact nI_ne_neg hl
  obtain ⟨l', hl', hl1, hl2, hs1, hs2⟩ := hL.some hk hne
  have hzk := hL.2 k
  refine aw_icmp_eq D_mo_take_46 (fun h => absurd h (hL.ne hk hne)) (fun h => ?_)
  refine aw_aload_n 0 D_mo_take_49 rfl rfl ?_
  refine aw_get D_mo_take_50 rfl rfl ?_
  refine aw_iload_n 1 D_mo_take_53 rfl rfl ?_
  refine aw_ialdN D_mo_take_54 rfl (by omega) (by omega) ?_
  refine aw_iload_n 2 D_mo_take_55 rfl rfl ?_
  refine aw_icmp_eq D_mo_take_56 (fun h => ?_) (fun h => absurd ((hl2.trans hl1.symm).trans hll) h)
  refine aw_aload_n 0 D_mo_take_65 rfl rfl ?_
  refine aw_get D_mo_take_66 rfl rfl ?_
  refine aw_iload_n 1 D_mo_take_69 rfl rfl ?_
  refine aw_ialdN D_mo_take_70 rfl (by omega) (by omega) ?_
  refine aw_bipush (-nI 9) D_mo_take_71 rfl ?_
  refine aw_icmp_ne D_mo_take_73 (fun h => ?_) (fun h => absurd h (hL.ne hk hne))
  refine aw_iload D_mo_take_82 rfl ?_
  refine aw_if_ge D_mo_take_84 (fun h => absurd hp (Int32.not_lt.mpr h)) (fun h => ?_)
  refine aw_aload_n 0 D_mo_take_87 rfl rfl ?_
  refine aw_iconst (nI 4) D_mo_take_88 rfl ?_
  refine aw_callV1 (As := [_]) D_mo_take_89 kv_mo_fails (c_mo_fails) rfl rfl rfl rfl rfl (Nat.le_of_ble_eq_true rfl) (Nat.zero_le _) (Nat.zero_le _) ?_
  refine aw_ireturn D_mo_take_92 rfl rfl ?_
  exact ⟨rfl, _, rfl, fd, R, le, sz, o, be, pc, wt, qu, lm, sl, ce, tb, mt, ru, bf, kp, rfl, hn, hn9, hb, hfd, hL, hT⟩
theorem c_mo_takeI {k s l p : Nat} {y : Int32} (hk : k < 4) (hs : s < 2 ^ n) (hl : l < 3) (hll : la k = nI l) (hp : p < 2 ^ 31) (hbad : ¬ ∃ i, i + p ≤ zs k ∧ s + p ≤ 2 ^ n ∧ y = nI i) (h : MS n b tc fl la zs cs m) : AMet M_mo_take [.ref 6, .int (nI k), .int (nI l), .int y, .int (nI p), .int (nI s)] [a0, a1, a2, a3, a4, a5, m, a7] (fun (r' : Option Value) (w' : Wd) => r' = some (.int (-nI 10 - nI 3)) ∧ ∃ m', w' = [a0, a1, a2, a3, a4, a5, m', a7] ∧ MS n b tc (nI 3) la zs cs m') 0 0 := by
  obtain ⟨fd, R, le, sz, o, be, pc, wt, qu, lm, sl, ce, tb, mt, ru, bf, kp, rfl, hn, hn9, hb, hfd, hL, hT⟩ := h
  have hp9 := pow_le9 hn9
  refine AMet.of [(0, .ref 6), (1, .int (nI k)), (2, .int (nI l)), (3, .int y), (4, .int (nI p)), (5, .int (nI s))] (by decide +kernel) rfl (Nat.le_of_ble_eq_true rfl) ?_
  generalize hZ : (fun (r' : Option Value) (w' : Wd) => r' = some (.int (-nI 10 - nI 3)) ∧ ∃ m', w' = [a0, a1, a2, a3, a4, a5, m', a7] ∧ MS n b tc (nI 3) la zs cs m') = ZZ
  have hfail : AW M_mo_take noP (Zp ZZ) 0 0 132 [(0, .ref 6), (1, .int (nI k)), (2, .int (nI l)), (3, .int y), (4, .int (nI p)), (5, .int (nI s))] [] [a0, a1, a2, a3, a4, a5, MO (nI 0) tc n fd R b le sz o be pc wt qu lm sl ce tb mt ru bf kp, a7] 0 0 := by
    refine aw_aload_n 0 D_mo_take_132 rfl rfl ?_
    refine aw_iconst (nI 3) D_mo_take_133 rfl ?_
    refine aw_callV1 (As := [_]) D_mo_take_134 kv_mo_fails (c_mo_fails) rfl rfl rfl rfl rfl (Nat.le_of_ble_eq_true rfl) (Nat.zero_le _) (Nat.zero_le _) ?_
    refine aw_ireturn D_mo_take_137 rfl rfl ?_
    subst hZ; exact ⟨rfl, _, rfl, fd, R, le, sz, o, be, pc, wt, qu, lm, sl, ce, tb, mt, ru, bf, kp, rfl, hn, hn9, hb, hfd, hL, hT⟩
  refine aw_aload_n 0 D_mo_take_0 rfl rfl ?_
  refine aw_iconst (nI 0) D_mo_take_1 rfl ?_
  refine aw_put tc_mo D_mo_take_2 rfl (Nat.le_of_ble_eq_true rfl) rfl rfl ?_
  refine aw_iload_n 1 D_mo_take_5 rfl rfl ?_
  refine aw_callS1 (As := [_]) D_mo_take_6 kv_mo_isSheet (c_mo_isSheetT hk) rfl rfl (Nat.le_of_ble_eq_true rfl) (Nat.zero_le _) (Nat.zero_le _) ?_
  refine aw_if_eqN D_mo_take_9 (by decide) (fun h => absurd h (by decide)) (fun h => ?_)
  refine aw_aload_n 0 D_mo_take_12 rfl rfl ?_
  refine aw_iload D_mo_take_13 rfl ?_
  refine aw_callV1 (As := [_]) D_mo_take_15 kv_mo_isState (c_mo_isStateT hn9 hs) rfl rfl rfl rfl rfl (Nat.le_of_ble_eq_true rfl) (Nat.zero_le _) (Nat.zero_le _) ?_
  refine aw_if_neN D_mo_take_18 (by decide) (fun h => ?_) (fun h => absurd h (by decide))
  refine aw_iload_n 2 D_mo_take_23 rfl rfl ?_
  first | with_reducible refine aw_i2lN D_mo_take_24 (by omega) ?_ | refine aw_i2l D_mo_take_24 ?_
  refine aw_lconst (lN 0) D_mo_take_25 rfl ?_
  refine aw_ldc2 D_mo_take_26 ?_
  refine aw_callS1 (As := [_, _, _]) D_mo_take_29 kv_mo_within (c_mo_withinT (Nat.zero_le l) (show l ≤ 2 by omega) (by decide)) rfl rfl (Nat.le_of_ble_eq_true rfl) (Nat.zero_le _) (Nat.zero_le _) ?_
  refine aw_if_neN D_mo_take_32 (by decide) (fun h => ?_) (fun h => absurd h (by decide))
  refine aw_aload_n 0 D_mo_take_38 rfl rfl ?_
  refine aw_get D_mo_take_39 rfl rfl ?_
  refine aw_iload_n 1 D_mo_take_42 rfl rfl ?_
  refine aw_ialdN D_mo_take_43 rfl (by omega) (by omega) ?_
  refine aw_bipush (-nI 9) D_mo_take_44 rfl ?_
  have hne : la k ≠ -nI 1 := by rw [hll]; exact nI_ne_neg hl
  obtain ⟨l', hl', hl1, hl2, hs1, hs2⟩ := hL.some hk hne
  have hzk := hL.2 k
  refine aw_icmp_eq D_mo_take_46 (fun h => absurd h (hL.ne hk hne)) (fun h => ?_)
  refine aw_aload_n 0 D_mo_take_49 rfl rfl ?_
  refine aw_get D_mo_take_50 rfl rfl ?_
  refine aw_iload_n 1 D_mo_take_53 rfl rfl ?_
  refine aw_ialdN D_mo_take_54 rfl (by omega) (by omega) ?_
  refine aw_iload_n 2 D_mo_take_55 rfl rfl ?_
  refine aw_icmp_eq D_mo_take_56 (fun h => ?_) (fun h => absurd ((hl2.trans hl1.symm).trans hll) h)
  refine aw_aload_n 0 D_mo_take_65 rfl rfl ?_
  refine aw_get D_mo_take_66 rfl rfl ?_
  refine aw_iload_n 1 D_mo_take_69 rfl rfl ?_
  refine aw_ialdN D_mo_take_70 rfl (by omega) (by omega) ?_
  refine aw_bipush (-nI 9) D_mo_take_71 rfl ?_
  refine aw_icmp_ne D_mo_take_73 (fun h => ?_) (fun h => absurd h (hL.ne hk hne))
  refine aw_iload D_mo_take_82 rfl ?_
  refine aw_if_geN D_mo_take_84 (by omega) ?_
  refine aw_iload_n 3 D_mo_take_93 rfl rfl ?_
  refine aw_if_lt D_mo_take_94 (fun h => hfail) (fun h1 => ?_)
  obtain ⟨j, hj, rfl⟩ := nI_of h1
  refine aw_iload_n 3 D_mo_take_97 rfl rfl ?_
  refine aw_aload_n 0 D_mo_take_98 rfl rfl ?_
  refine aw_get D_mo_take_99 rfl rfl ?_
  refine aw_iload_n 1 D_mo_take_102 rfl rfl ?_
  refine aw_ialdN D_mo_take_103 rfl (by omega) (by omega) ?_
  refine aw_icmp_gtN D_mo_take_104 (by omega) (by omega) (fun h => hfail) (fun h2 => ?_)
  refine aw_iload D_mo_take_107 rfl ?_
  refine aw_aload_n 0 D_mo_take_109 rfl rfl ?_
  refine aw_get D_mo_take_110 rfl rfl ?_
  refine aw_iload_n 1 D_mo_take_113 rfl rfl ?_
  refine aw_ialdN D_mo_take_114 rfl (by omega) (by omega) ?_
  refine aw_iload_n 3 D_mo_take_115 rfl rfl ?_
  first | with_reducible refine aw_isubN D_mo_take_116 (by omega) ?_ | refine aw_isub D_mo_take_116 ?_
  refine aw_icmp_gtN D_mo_take_117 (by omega) (by omega) (fun h => hfail) (fun h3 => ?_)
  refine aw_iload D_mo_take_120 rfl ?_
  refine aw_aload_n 0 D_mo_take_122 rfl rfl ?_
  refine aw_callV1 (As := []) D_mo_take_123 kv_mo_states (c_mo_states hn9) rfl rfl rfl rfl rfl (Nat.le_of_ble_eq_true rfl) (Nat.zero_le _) (Nat.zero_le _) ?_
  refine aw_iload D_mo_take_126 rfl ?_
  first | with_reducible refine aw_isubN D_mo_take_128 (by omega) ?_ | refine aw_isub D_mo_take_128 ?_
  refine aw_icmp_leN D_mo_take_129 (by omega) (by omega) (fun h4 => absurd ⟨j, by omega, by omega, rfl⟩ hbad) (fun h => hfail)
theorem c_mo_takeT {k s l p i : Nat} (hk : k < 4) (hs : s < 2 ^ n) (hl : l < 3) (hll : la k = nI l) (him : i + p ≤ zs k) (hsm : s + p ≤ 2 ^ n) (h : MS n b tc fl la zs cs m) : AMet M_mo_take [.ref 6, .int (nI k), .int (nI l), .int (nI i), .int (nI p), .int (nI s)] [a0, a1, a2, a3, a4, a5, m, a7] (fun (r' : Option Value) (w' : Wd) => r' = some (.int (nI p)) ∧ ∃ m', w' = [a0, a1, a2, a3, a4, a5, m', a7] ∧ MS n (fb_put b (fun j => bt (cs k (i + j))) s p) tc (nI 0) la zs cs m') 0 0 := by
  obtain ⟨fd, R, le, sz, o, be, pc, wt, qu, lm, sl, ce, tb, mt, ru, bf, kp, rfl, hn, hn9, hb, hfd, hL, hT⟩ := h
  have hp9 := pow_le9 hn9
  refine AMet.of [(0, .ref 6), (1, .int (nI k)), (2, .int (nI l)), (3, .int (nI i)), (4, .int (nI p)), (5, .int (nI s))] (by decide +kernel) rfl (Nat.le_of_ble_eq_true rfl) ?_
  generalize hZ : (fun (r' : Option Value) (w' : Wd) => r' = some (.int (nI p)) ∧ ∃ m', w' = [a0, a1, a2, a3, a4, a5, m', a7] ∧ MS n (fb_put b (fun j => bt (cs k (i + j))) s p) tc (nI 0) la zs cs m') = ZZ
  have hpb : i + p ≤ 600 := Nat.le_trans him (hL.2 k)
  refine aw_aload_n 0 D_mo_take_0 rfl rfl ?_
  refine aw_iconst (nI 0) D_mo_take_1 rfl ?_
  refine aw_put tc_mo D_mo_take_2 rfl (Nat.le_of_ble_eq_true rfl) rfl rfl ?_
  refine aw_iload_n 1 D_mo_take_5 rfl rfl ?_
  refine aw_callS1 (As := [_]) D_mo_take_6 kv_mo_isSheet (c_mo_isSheetT hk) rfl rfl (Nat.le_of_ble_eq_true rfl) (Nat.zero_le _) (Nat.zero_le _) ?_
  refine aw_if_eqN D_mo_take_9 (by decide) (fun h => absurd h (by decide)) (fun h => ?_)
  refine aw_aload_n 0 D_mo_take_12 rfl rfl ?_
  refine aw_iload D_mo_take_13 rfl ?_
  refine aw_callV1 (As := [_]) D_mo_take_15 kv_mo_isState (c_mo_isStateT hn9 hs) rfl rfl rfl rfl rfl (Nat.le_of_ble_eq_true rfl) (Nat.zero_le _) (Nat.zero_le _) ?_
  refine aw_if_neN D_mo_take_18 (by decide) (fun h => ?_) (fun h => absurd h (by decide))
  refine aw_iload_n 2 D_mo_take_23 rfl rfl ?_
  first | with_reducible refine aw_i2lN D_mo_take_24 (by omega) ?_ | refine aw_i2l D_mo_take_24 ?_
  refine aw_lconst (lN 0) D_mo_take_25 rfl ?_
  refine aw_ldc2 D_mo_take_26 ?_
  refine aw_callS1 (As := [_, _, _]) D_mo_take_29 kv_mo_within (c_mo_withinT (Nat.zero_le l) (show l ≤ 2 by omega) (by decide)) rfl rfl (Nat.le_of_ble_eq_true rfl) (Nat.zero_le _) (Nat.zero_le _) ?_
  refine aw_if_neN D_mo_take_32 (by decide) (fun h => ?_) (fun h => absurd h (by decide))
  refine aw_aload_n 0 D_mo_take_38 rfl rfl ?_
  refine aw_get D_mo_take_39 rfl rfl ?_
  refine aw_iload_n 1 D_mo_take_42 rfl rfl ?_
  refine aw_ialdN D_mo_take_43 rfl (by omega) (by omega) ?_
  refine aw_bipush (-nI 9) D_mo_take_44 rfl ?_
  have hne : la k ≠ -nI 1 := by rw [hll]; exact nI_ne_neg hl
  obtain ⟨l', hl', hl1, hl2, hs1, hs2⟩ := hL.some hk hne
  have hzk := hL.2 k
  refine aw_icmp_eq D_mo_take_46 (fun h => absurd h (hL.ne hk hne)) (fun h => ?_)
  refine aw_aload_n 0 D_mo_take_49 rfl rfl ?_
  refine aw_get D_mo_take_50 rfl rfl ?_
  refine aw_iload_n 1 D_mo_take_53 rfl rfl ?_
  refine aw_ialdN D_mo_take_54 rfl (by omega) (by omega) ?_
  refine aw_iload_n 2 D_mo_take_55 rfl rfl ?_
  refine aw_icmp_eq D_mo_take_56 (fun h => ?_) (fun h => absurd ((hl2.trans hl1.symm).trans hll) h)
  refine aw_aload_n 0 D_mo_take_65 rfl rfl ?_
  refine aw_get D_mo_take_66 rfl rfl ?_
  refine aw_iload_n 1 D_mo_take_69 rfl rfl ?_
  refine aw_ialdN D_mo_take_70 rfl (by omega) (by omega) ?_
  refine aw_bipush (-nI 9) D_mo_take_71 rfl ?_
  refine aw_icmp_ne D_mo_take_73 (fun h => ?_) (fun h => absurd h (hL.ne hk hne))
  refine aw_iload D_mo_take_82 rfl ?_
  refine aw_if_geN D_mo_take_84 (by omega) ?_
  refine aw_iload_n 3 D_mo_take_93 rfl rfl ?_
  refine aw_if_ltN D_mo_take_94 (by omega) ?_
  refine aw_iload_n 3 D_mo_take_97 rfl rfl ?_
  refine aw_aload_n 0 D_mo_take_98 rfl rfl ?_
  refine aw_get D_mo_take_99 rfl rfl ?_
  refine aw_iload_n 1 D_mo_take_102 rfl rfl ?_
  refine aw_ialdN D_mo_take_103 rfl (by omega) (by omega) ?_
  refine aw_icmp_gtN D_mo_take_104 (by omega) (by omega) (fun h => absurd h (by omega)) (fun h2 => ?_)
  refine aw_iload D_mo_take_107 rfl ?_
  refine aw_aload_n 0 D_mo_take_109 rfl rfl ?_
  refine aw_get D_mo_take_110 rfl rfl ?_
  refine aw_iload_n 1 D_mo_take_113 rfl rfl ?_
  refine aw_ialdN D_mo_take_114 rfl (by omega) (by omega) ?_
  refine aw_iload_n 3 D_mo_take_115 rfl rfl ?_
  first | with_reducible refine aw_isubN D_mo_take_116 (by omega) ?_ | refine aw_isub D_mo_take_116 ?_
  refine aw_icmp_gtN D_mo_take_117 (by omega) (by omega) (fun h => absurd h (by omega)) (fun h3 => ?_)
  refine aw_iload D_mo_take_120 rfl ?_
  refine aw_aload_n 0 D_mo_take_122 rfl rfl ?_
  refine aw_callV1 (As := []) D_mo_take_123 kv_mo_states (c_mo_states hn9) rfl rfl rfl rfl rfl (Nat.le_of_ble_eq_true rfl) (Nat.zero_le _) (Nat.zero_le _) ?_
  refine aw_iload D_mo_take_126 rfl ?_
  first | with_reducible refine aw_isubN D_mo_take_128 (by omega) ?_ | refine aw_isub D_mo_take_128 ?_
  refine aw_icmp_leN D_mo_take_129 (by omega) (by omega) (fun h4 => ?_) (fun h => absurd h (by omega))
  have key : ∀ (e q : Nat), q + e = p → AW M_mo_take noP (Zp ZZ) 0 0 141 [(0, .ref 6), (1, .int (nI k)), (2, .int (nI l)), (3, .int (nI i)), (4, .int (nI p)), (5, .int (nI s)), (6, .int (nI q))] [] [a0, a1, a2, a3, a4, a5, MO (nI 0) tc n fd R (fb_put b (fun j => bt (cs k (i + j))) s q) le sz o be pc wt qu lm sl ce tb mt ru bf kp, a7] 0 0 := by
    intro e
    induction e with
    | zero =>
      intro q hq
      have hq : q = p := by omega
      subst hq
      refine aw_iload D_mo_take_141 rfl ?_
      refine aw_iload D_mo_take_143 rfl ?_
      refine aw_icmp_geN D_mo_take_145 (by omega) (by omega) (fun h => ?_) (fun h => absurd h (by omega))
      refine aw_aload_n 0 D_mo_take_173 rfl rfl ?_
      refine aw_iconst (nI 0) D_mo_take_174 rfl ?_
      refine aw_put tc_mo D_mo_take_175 rfl (Nat.le_of_ble_eq_true rfl) rfl rfl ?_
      refine aw_iload D_mo_take_178 rfl ?_
      refine aw_ireturn D_mo_take_180 rfl rfl ?_
      subst hZ; exact ⟨rfl, _, rfl, 0, R, le, sz, o, be, pc, wt, qu, lm, sl, ce, tb, mt, ru, bf, kp, rfl, hn, hn9, (fun x => by unfold fb_put; split; exact bt_le _; exact hb x), (Or.inl rfl), hL, hT⟩
    | succ e ih =>
      intro q hq
      refine aw_iload D_mo_take_141 rfl ?_
      refine aw_iload D_mo_take_143 rfl ?_
      refine aw_icmp_geN D_mo_take_145 (by omega) (by omega) (fun h => absurd h (by omega)) (fun h => ?_)
      refine aw_aload_n 0 D_mo_take_148 rfl rfl ?_
      refine aw_get D_mo_take_149 rfl rfl ?_
      refine aw_iload D_mo_take_152 rfl ?_
      refine aw_iload D_mo_take_154 rfl ?_
      first | with_reducible refine aw_iaddN D_mo_take_156 ?_ | refine aw_iadd D_mo_take_156 ?_
      refine aw_aload_n 0 D_mo_take_157 rfl rfl ?_
      refine aw_iload_n 1 D_mo_take_158 rfl rfl ?_
      refine aw_iload_n 3 D_mo_take_159 rfl rfl ?_
      refine aw_iload D_mo_take_160 rfl ?_
      first | with_reducible refine aw_iaddN D_mo_take_162 ?_ | refine aw_iadd D_mo_take_162 ?_
      refine aw_callV1 (As := [_, _]) D_mo_take_163 kv_mo_bit (c_mo_bit hk (show i + q < 600 by omega)) rfl rfl rfl rfl rfl (Nat.le_of_ble_eq_true rfl) (Nat.zero_le _) (Nat.zero_le _) ?_
      rw [hs2 (i + q) (by omega)]
      refine aw_iastN D_mo_take_166 rfl (by omega) (by omega) ?_
      first | refine aw_incN D_mo_take_167 rfl (Nat.le_of_ble_eq_true rfl) rfl ?_ | refine aw_inc D_mo_take_167 rfl (Nat.le_of_ble_eq_true rfl) rfl ?_
      refine aw_goto D_mo_take_170 ?_
      rw [put_up b (fun j => bt (cs k (i + j)))]
      exact ih (q + 1) (by omega)
  refine aw_iconst (nI 0) D_mo_take_138 rfl ?_
  refine aw_istore D_mo_take_139 (Nat.le_of_ble_eq_true rfl) rfl ?_
  have := key p 0 (by omega)
  rw [fb_put_0] at this
  exact this
end Mo6
