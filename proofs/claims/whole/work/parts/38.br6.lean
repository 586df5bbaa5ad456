/-! ### BitRings: rows moved -/
section Br6
variable {n : Nat} {b : Nat → Nat} {tc fl : Int32} {la : Nat → Int32} {zs : Nat → Nat} {cs : Nat → Nat → Int64} {mo : List va_E} {w : Wd}
theorem c_br_outU {x y z u : Int32} (hx : ¬ vp_in y 4 ∨ ¬ vp_in x (2 ^ n)) (h : CS n b tc fl la zs cs mo w) : AMet M_br_out [.ref 0, .int x, .int y, .int z, .int u] w (fun r' w' => r' = some (.int (-nI 1)) ∧ CS n b tc (nI 0) la zs cs mo w') 0 0 := by
  obtain ⟨ch, bn, c, pd, st, fa, o, be, pc, le, sz, wt, qu, kc, tw, mk, ru, ol, re, ms, sp, dy, rfl, hn, hn9, hb, hch, hD, hz⟩ := h
  have hp9 := pow_le9 hn9
  refine AMet.of [(0, .ref 0), (1, .int x), (2, .int y), (3, .int z), (4, .int u)] (by decide +kernel) rfl (Nat.le_of_ble_eq_true rfl) ?_
  refine aw_aload_n 0 D_br_out_0 rfl rfl ?_
  refine aw_iconst (nI 0) D_br_out_1 rfl ?_
  refine aw_put tc_br D_br_out_2 rfl (Nat.le_of_ble_eq_true rfl) rfl rfl ?_
  show AW M_br_out noP _ 0 0 5 _ _ [BR tc (nI 0), RG n (2 ^ n) ch b bn, RI c pd st fa o be pc le sz wt qu, TR kc tw, SH la zs cs, RR mk ru ol re ms sp, mo, dy] _ _
  refine aw_iload_n 2 D_br_out_5 rfl rfl ?_
  by_cases h1 : vp_in y 4
  · obtain ⟨k, hk, rfl⟩ := vp_in_of h1 (by decide)
    refine aw_callS1 (As := [_]) D_br_out_6 kv_br_isSheet (c_br_isSheetT hk) rfl rfl (Nat.le_of_ble_eq_true rfl) (Nat.zero_le _) (Nat.zero_le _) ?_
    refine aw_if_eqN D_br_out_9 (by omega) (fun h => absurd h (by omega)) (fun h => ?_)
    refine aw_aload_n 0 D_br_out_12 rfl rfl ?_
    refine aw_get D_br_out_13 rfl rfl ?_
    refine aw_iload_n 1 D_br_out_16 rfl rfl ?_
    refine aw_callV1 (As := [_]) D_br_out_17 kv_rg_has (c_rg_hasF (hx.resolve_left (fun q => q h1)) hp9) rfl rfl rfl rfl rfl (Nat.le_of_ble_eq_true rfl) (Nat.zero_le _) (Nat.zero_le _) ?_
    refine aw_if_neN D_br_out_20 (by omega) (fun h => absurd h (by omega)) (fun h => ?_)
    refine aw_iconst (-nI 1) D_br_out_23 rfl ?_
    refine aw_ireturn D_br_out_24 rfl rfl ?_
    exact ⟨rfl, ch, bn, c, pd, st, fa, o, be, pc, le, sz, wt, qu, kc, tw, mk, ru, ol, re, ms, sp, dy, rfl, hn, hn9, hb, hch, hD, hz⟩
  · refine aw_callS1 (As := [_]) D_br_out_6 kv_br_isSheet (c_br_isSheetF h1) rfl rfl (Nat.le_of_ble_eq_true rfl) (Nat.zero_le _) (Nat.zero_le _) ?_
    refine aw_if_eqN D_br_out_9 (by omega) (fun h => ?_) (fun h => absurd h (by omega))
    refine aw_iconst (-nI 1) D_br_out_23 rfl ?_
    refine aw_ireturn D_br_out_24 rfl rfl ?_
    exact ⟨rfl, ch, bn, c, pd, st, fa, o, be, pc, le, sz, wt, qu, kc, tw, mk, ru, ol, re, ms, sp, dy, rfl, hn, hn9, hb, hch, hD, hz⟩
theorem c_br_outN {s k : Nat} {z u : Int32} (hs : s < 2 ^ n) (hk : k < 4) (hno : la k = -nI 1) (h : CS n b tc fl la zs cs mo w) : AMet M_br_out [.ref 0, .int (nI s), .int (nI k), .int z, .int u] w (fun r' w' => r' = some (.int (-nI 10 - nI 1)) ∧ CS n b tc (nI 1) la zs cs mo w') 0 0 := by
  obtain ⟨ch, bn, c, pd, st, fa, o, be, pc, le, sz, wt, qu, kc, tw, mk, ru, ol, re, ms, sp, dy, rfl, hn, hn9, hb, hch, hD, hz⟩ := h
  have hp9 := pow_le9 hn9
  refine AMet.of [(0, .ref 0), (1, .int (nI s)), (2, .int (nI k)), (3, .int z), (4, .int u)] (by decide +kernel) rfl (Nat.le_of_ble_eq_true rfl) ?_
  refine aw_aload_n 0 D_br_out_0 rfl rfl ?_
  refine aw_iconst (nI 0) D_br_out_1 rfl ?_
  refine aw_put tc_br D_br_out_2 rfl (Nat.le_of_ble_eq_true rfl) rfl rfl ?_
  show AW M_br_out noP _ 0 0 5 _ _ [BR tc (nI 0), RG n (2 ^ n) ch b bn, RI c pd st fa o be pc le sz wt qu, TR kc tw, SH la zs cs, RR mk ru ol re ms sp, mo, dy] _ _
  refine aw_iload_n 2 D_br_out_5 rfl rfl ?_
  refine aw_callS1 (As := [_]) D_br_out_6 kv_br_isSheet (c_br_isSheetT hk) rfl rfl (Nat.le_of_ble_eq_true rfl) (Nat.zero_le _) (Nat.zero_le _) ?_
  refine aw_if_eqN D_br_out_9 (by omega) (fun h => absurd h (by omega)) (fun h => ?_)
  refine aw_aload_n 0 D_br_out_12 rfl rfl ?_
  refine aw_get D_br_out_13 rfl rfl ?_
  refine aw_iload_n 1 D_br_out_16 rfl rfl ?_
  refine aw_callV1 (As := [_]) D_br_out_17 kv_rg_has (c_rg_hasT hs hp9) rfl rfl rfl rfl rfl (Nat.le_of_ble_eq_true rfl) (Nat.zero_le _) (Nat.zero_le _) ?_
  refine aw_if_neN D_br_out_20 (by omega) (fun h => ?_) (fun h => absurd h (by omega))
  refine aw_aload_n 0 D_br_out_25 rfl rfl ?_
  refine aw_get D_br_out_26 rfl rfl ?_
  refine aw_iload_n 2 D_br_out_29 rfl rfl ?_
  refine aw_aaldN D_br_out_30 rfl (by omega) (by omega) (shf_at hk) ?_
  refine aw_astore D_br_out_31 (Nat.le_of_ble_eq_true rfl) rfl ?_
  refine aw_aload D_br_out_33 rfl ?_
  refine aw_callV1 (As := []) D_br_out_35 kv_sh_isNothing (c_sh_nothing (sh_obj hk)) rfl rfl (sh_obj hk) rfl rfl (Nat.le_of_ble_eq_true rfl) (Nat.zero_le _) (Nat.zero_le _) ?_
  rw [if_pos hno]
  refine aw_if_eqN D_br_out_38 (by omega) (fun h => absurd h (by omega)) (fun h => ?_)
  refine aw_aload_n 0 D_br_out_41 rfl rfl ?_
  refine aw_iconst (nI 1) D_br_out_42 rfl ?_
  refine aw_callV1 (As := [_]) D_br_out_43 kv_br_faulted (c_br_faulted) rfl rfl rfl rfl rfl (Nat.le_of_ble_eq_true rfl) (Nat.zero_le _) (Nat.zero_le _) ?_
  refine aw_ireturn D_br_out_46 rfl rfl ?_
  exact ⟨rfl, ch, bn, c, pd, st, fa, o, be, pc, le, sz, wt, qu, kc, tw, mk, ru, ol, re, ms, sp, dy, rfl, hn, hn9, hb, hch, hD, hz⟩
theorem c_br_outZ {s k : Nat} {z u : Int32} (hs : s < 2 ^ n) (hk : k < 4) (hne : la k ≠ -nI 1) (hu : u < 0) (h : CS n b tc fl la zs cs mo w) : AMet M_br_out [.ref 0, .int (nI s), .int (nI k), .int z, .int u] w (fun r' w' => r' = some (.int (-nI 10 - nI 4)) ∧ CS n b tc (nI 4) la zs cs mo w') 0 0 := by
  obtain ⟨ch, bn, c, pd, st, fa, o, be, pc, le, sz, wt, qu, kc, tw, mk, ru, ol, re, ms, sp, dy, rfl, hn, hn9, hb, hch, hD, hz⟩ := h
  have hp9 := pow_le9 hn9
  refine AMet.of [(0, .ref 0), (1, .int (nI s)), (2, .int (nI k)), (3, .int z), (4, .int u)] (by decide +kernel) rfl (Nat.le_of_ble_eq_true rfl) ?_
  refine aw_aload_n 0 D_br_out_0 rfl rfl ?_
  refine aw_iconst (nI 0) D_br_out_1 rfl ?_
  refine aw_put tc_br D_br_out_2 rfl (Nat.le_of_ble_eq_true rfl) rfl rfl ?_
  show AW M_br_out noP _ 0 0 5 _ _ [BR tc (nI 0), RG n (2 ^ n) ch b bn, RI c pd st fa o be pc le sz wt qu, TR kc tw, SH la zs cs, RR mk ru ol re ms sp, mo, dy] _ _
  refine aw_iload_n 2 D_br_out_5 rfl rfl ?_
  refine aw_callS1 (As := [_]) D_br_out_6 kv_br_isSheet (c_br_isSheetT hk) rfl rfl (Nat.le_of_ble_eq_true rfl) (Nat.zero_le _) (Nat.zero_le _) ?_
  refine aw_if_eqN D_br_out_9 (by omega) (fun h => absurd h (by omega)) (fun h => ?_)
  refine aw_aload_n 0 D_br_out_12 rfl rfl ?_
  refine aw_get D_br_out_13 rfl rfl ?_
  refine aw_iload_n 1 D_br_out_16 rfl rfl ?_
  refine aw_callV1 (As := [_]) D_br_out_17 kv_rg_has (c_rg_hasT hs hp9) rfl rfl rfl rfl rfl (Nat.le_of_ble_eq_true rfl) (Nat.zero_le _) (Nat.zero_le _) ?_
  refine aw_if_neN D_br_out_20 (by omega) (fun h => ?_) (fun h => absurd h (by omega))
  refine aw_aload_n 0 D_br_out_25 rfl rfl ?_
  refine aw_get D_br_out_26 rfl rfl ?_
  refine aw_iload_n 2 D_br_out_29 rfl rfl ?_
  refine aw_aaldN D_br_out_30 rfl (by omega) (by omega) (shf_at hk) ?_
  refine aw_astore D_br_out_31 (Nat.le_of_ble_eq_true rfl) rfl ?_
  refine aw_aload D_br_out_33 rfl ?_
  refine aw_callV1 (As := []) D_br_out_35 kv_sh_isNothing (c_sh_nothing (sh_obj hk)) rfl rfl (sh_obj hk) rfl rfl (Nat.le_of_ble_eq_true rfl) (Nat.zero_le _) (Nat.zero_le _) ?_
  rw [if_neg hne]
  refine aw_if_eqN D_br_out_38 (by omega) (fun h => ?_) (fun h => absurd h (by omega))
  refine aw_iload D_br_out_47 rfl ?_
  refine aw_if_ge D_br_out_49 (fun h2 => absurd hu (Int32.not_lt.mpr h2)) (fun h2 => ?_)
  refine aw_aload_n 0 D_br_out_52 rfl rfl ?_
  refine aw_iconst (nI 4) D_br_out_53 rfl ?_
  refine aw_callV1 (As := [_]) D_br_out_54 kv_br_faulted (c_br_faulted) rfl rfl rfl rfl rfl (Nat.le_of_ble_eq_true rfl) (Nat.zero_le _) (Nat.zero_le _) ?_
  refine aw_ireturn D_br_out_57 rfl rfl ?_
  exact ⟨rfl, ch, bn, c, pd, st, fa, o, be, pc, le, sz, wt, qu, kc, tw, mk, ru, ol, re, ms, sp, dy, rfl, hn, hn9, hb, hch, hD, hz⟩
theorem c_br_outI {s k m : Nat} {z : Int32} (hs : s < 2 ^ n) (hk : k < 4) (hne : la k ≠ -nI 1) (hm : m < 2 ^ 31) (hbad : ¬ ∃ i, i + m ≤ zs k ∧ z = nI i) (h : CS n b tc fl la zs cs mo w) : AMet M_br_out [.ref 0, .int (nI s), .int (nI k), .int z, .int (nI m)] w (fun r' w' => r' = some (.int (-nI 10 - nI 3)) ∧ CS n b tc (nI 3) la zs cs mo w') 0 0 := by
  obtain ⟨ch, bn, c, pd, st, fa, o, be, pc, le, sz, wt, qu, kc, tw, mk, ru, ol, re, ms, sp, dy, rfl, hn, hn9, hb, hch, hD, hz⟩ := h
  have hp9 := pow_le9 hn9
  refine AMet.of [(0, .ref 0), (1, .int (nI s)), (2, .int (nI k)), (3, .int z), (4, .int (nI m))] (by decide +kernel) rfl (Nat.le_of_ble_eq_true rfl) ?_
  have hzk := hz k
  refine aw_aload_n 0 D_br_out_0 rfl rfl ?_
  refine aw_iconst (nI 0) D_br_out_1 rfl ?_
  refine aw_put tc_br D_br_out_2 rfl (Nat.le_of_ble_eq_true rfl) rfl rfl ?_
  show AW M_br_out noP _ 0 0 5 _ _ [BR tc (nI 0), RG n (2 ^ n) ch b bn, RI c pd st fa o be pc le sz wt qu, TR kc tw, SH la zs cs, RR mk ru ol re ms sp, mo, dy] _ _
  refine aw_iload_n 2 D_br_out_5 rfl rfl ?_
  refine aw_callS1 (As := [_]) D_br_out_6 kv_br_isSheet (c_br_isSheetT hk) rfl rfl (Nat.le_of_ble_eq_true rfl) (Nat.zero_le _) (Nat.zero_le _) ?_
  refine aw_if_eqN D_br_out_9 (by omega) (fun h => absurd h (by omega)) (fun h => ?_)
  refine aw_aload_n 0 D_br_out_12 rfl rfl ?_
  refine aw_get D_br_out_13 rfl rfl ?_
  refine aw_iload_n 1 D_br_out_16 rfl rfl ?_
  refine aw_callV1 (As := [_]) D_br_out_17 kv_rg_has (c_rg_hasT hs hp9) rfl rfl rfl rfl rfl (Nat.le_of_ble_eq_true rfl) (Nat.zero_le _) (Nat.zero_le _) ?_
  refine aw_if_neN D_br_out_20 (by omega) (fun h => ?_) (fun h => absurd h (by omega))
  refine aw_aload_n 0 D_br_out_25 rfl rfl ?_
  refine aw_get D_br_out_26 rfl rfl ?_
  refine aw_iload_n 2 D_br_out_29 rfl rfl ?_
  refine aw_aaldN D_br_out_30 rfl (by omega) (by omega) (shf_at hk) ?_
  refine aw_astore D_br_out_31 (Nat.le_of_ble_eq_true rfl) rfl ?_
  refine aw_aload D_br_out_33 rfl ?_
  refine aw_callV1 (As := []) D_br_out_35 kv_sh_isNothing (c_sh_nothing (sh_obj hk)) rfl rfl (sh_obj hk) rfl rfl (Nat.le_of_ble_eq_true rfl) (Nat.zero_le _) (Nat.zero_le _) ?_
  rw [if_neg hne]
  refine aw_if_eqN D_br_out_38 (by omega) (fun h => ?_) (fun h => absurd h (by omega))
  refine aw_iload D_br_out_47 rfl ?_
  refine aw_if_geN D_br_out_49 (by omega) ?_
  refine aw_aload D_br_out_58 rfl ?_
  refine aw_iload_n 3 D_br_out_60 rfl rfl ?_
  refine aw_iload D_br_out_61 rfl ?_
  by_cases hy0 : z < 0
  · refine aw_callV1 (As := [_, _]) D_br_out_63 kv_sh_hasCells (c_sh_hasNeg hy0) rfl rfl (sh_obj hk) rfl rfl (Nat.le_of_ble_eq_true rfl) (Nat.zero_le _) (Nat.zero_le _) ?_
    refine aw_if_neN D_br_out_66 (by omega) (fun h => absurd h (by omega)) (fun h => ?_)
    refine aw_aload_n 0 D_br_out_69 rfl rfl ?_
    refine aw_iconst (nI 3) D_br_out_70 rfl ?_
    refine aw_callV1 (As := [_]) D_br_out_71 kv_br_faulted (c_br_faulted) rfl rfl rfl rfl rfl (Nat.le_of_ble_eq_true rfl) (Nat.zero_le _) (Nat.zero_le _) ?_
    refine aw_ireturn D_br_out_74 rfl rfl ?_
    exact ⟨rfl, ch, bn, c, pd, st, fa, o, be, pc, le, sz, wt, qu, kc, tw, mk, ru, ol, re, ms, sp, dy, rfl, hn, hn9, hb, hch, hD, hz⟩
  · obtain ⟨i, hi, rfl⟩ := nI_of hy0
    refine aw_callV1 (As := [_, _]) D_br_out_63 kv_sh_hasCells (c_sh_hasN (i := i) (k := m) hi hm hzk (sh_obj hk)) rfl rfl (sh_obj hk) rfl rfl (Nat.le_of_ble_eq_true rfl) (Nat.zero_le _) (Nat.zero_le _) ?_
    rw [if_neg (fun q => hbad ⟨i, q, rfl⟩)]
    refine aw_if_neN D_br_out_66 (by omega) (fun h => absurd h (by omega)) (fun h => ?_)
    refine aw_aload_n 0 D_br_out_69 rfl rfl ?_
    refine aw_iconst (nI 3) D_br_out_70 rfl ?_
    refine aw_callV1 (As := [_]) D_br_out_71 kv_br_faulted (c_br_faulted) rfl rfl rfl rfl rfl (Nat.le_of_ble_eq_true rfl) (Nat.zero_le _) (Nat.zero_le _) ?_
    refine aw_ireturn D_br_out_74 rfl rfl ?_
    exact ⟨rfl, ch, bn, c, pd, st, fa, o, be, pc, le, sz, wt, qu, kc, tw, mk, ru, ol, re, ms, sp, dy, rfl, hn, hn9, hb, hch, hD, hz⟩
/-- what out writes -/
def outC (f : Nat → Nat) (s : Nat) : Nat → Int64 := fun j => lN (itr f j s % 2)
theorem c_br_outT {s k m i : Nat} (hs : s < 2 ^ n) (hk : k < 4) (hne : la k ≠ -nI 1) (him : i + m ≤ zs k) (h : CS n b tc fl la zs cs mo w) : AMet M_br_out [.ref 0, .int (nI s), .int (nI k), .int (nI i), .int (nI m)] w (fun r' w' => r' = some (.int (nI (itr (nx n b) m s))) ∧ CS n b tc (nI 0) la zs (va_up cs k (fb_put (cs k) (outC (nx n b) s) i m)) mo w') 0 0 := by
  obtain ⟨ch, bn, c, pd, st, fa, o, be, pc, le, sz, wt, qu, kc, tw, mk, ru, ol, re, ms, sp, dy, rfl, hn, hn9, hb, hch, hD, hz⟩ := h
  have hp9 := pow_le9 hn9
  refine AMet.of [(0, .ref 0), (1, .int (nI s)), (2, .int (nI k)), (3, .int (nI i)), (4, .int (nI m))] (by decide +kernel) rfl (Nat.le_of_ble_eq_true rfl) ?_
  have hzk := hz k
  have hf := FT.hf (n := n) (b := b) (by omega) hb
  have key : ∀ (d j : Nat), j + d = m → AW M_br_out noP (Zp (fun r' w' => r' = some (.int (nI (itr (nx n b) m s))) ∧ CS n b tc (nI 0) la zs (va_up cs k (fb_put (cs k) (outC (nx n b) s) i m)) mo w')) 0 0 81 [(0, .ref 0), (1, .int (nI s)), (2, .int (nI k)), (3, .int (nI i)), (4, .int (nI m)), (5, .ref (4 + 32 * k)), (6, .int (nI (itr (nx n b) j s))), (7, .int (nI j))] [] [BR tc (nI 0), RG n (2 ^ n) ch b bn, RI c pd st fa o be pc le sz wt qu, TR kc tw, SH la zs (va_up cs k (fb_put (cs k) (outC (nx n b) s) i j)), RR mk ru ol re ms sp, mo, dy] 0 0 := by
    intro d
    induction d with
    | zero =>
      intro j hj
      refine aw_iload D_br_out_81 rfl ?_
      refine aw_iload D_br_out_83 rfl ?_
      refine aw_icmp_geN D_br_out_85 (by omega) (by omega) (fun h => ?_) (fun h => absurd h (by omega))
      refine aw_iload D_br_out_119 rfl ?_
      rw [show j = m by omega]
      refine aw_ireturn D_br_out_121 rfl rfl ?_
      exact ⟨rfl, ch, bn, c, pd, st, fa, o, be, pc, le, sz, wt, qu, kc, tw, mk, ru, ol, re, ms, sp, dy, rfl, hn, hn9, hb, hch, hD, hz⟩
    | succ d ih =>
      intro j hj
      have hit := itr_lt hf j s hs
      have hm2 : itr (nx n b) j s % 2 ≤ 1 := by omega
      refine aw_iload D_br_out_81 rfl ?_
      refine aw_iload D_br_out_83 rfl ?_
      refine aw_icmp_geN D_br_out_85 (by omega) (by omega) (fun h => absurd h (by omega)) (fun h => ?_)
      refine aw_aload D_br_out_88 rfl ?_
      refine aw_iload_n 3 D_br_out_90 rfl rfl ?_
      refine aw_iload D_br_out_91 rfl ?_
      first | with_reducible refine aw_iaddN D_br_out_93 ?_ | refine aw_iadd D_br_out_93 ?_
      refine aw_iload D_br_out_94 rfl ?_
      refine aw_iconst (nI 1) D_br_out_96 rfl ?_
      first | with_reducible refine aw_iandN D_br_out_97 ?_ | refine aw_iand D_br_out_97 ?_
      rw [Nat.and_one_is_mod]
      first | with_reducible refine aw_i2lN D_br_out_98 (by omega) ?_ | refine aw_i2l D_br_out_98 ?_
      refine aw_callVv (As := [_, _]) D_br_out_99 kv_sh_write (c_sh_write (i := i + j) (v := lN (itr (nx n b) j s % 2)) (by omega) (sh_obj hk) (sh_cel hk)) rfl rfl (sh_obj hk) rfl rfl (Nat.le_of_ble_eq_true rfl) (Nat.zero_le _) (Nat.zero_le _) ?_
      rw [sh_ce_up hk, up_self, up_up, cut_small hm2, show va_up (fb_put (cs k) (outC (nx n b) s) i j) (i + j) (lN (itr (nx n b) j s % 2)) = fb_put (cs k) (outC (nx n b) s) i (j + 1) from put_up _ (outC (nx n b) s) _ _]
      refine aw_aload_n 0 D_br_out_102 rfl rfl ?_
      refine aw_get D_br_out_103 rfl rfl ?_
      refine aw_iload D_br_out_106 rfl ?_
      refine aw_callV1 (As := [_]) D_br_out_108 kv_rg_next (c_rg_next (by omega) hn9 hit hb) rfl rfl rfl rfl rfl (Nat.le_of_ble_eq_true rfl) (Nat.zero_le _) (Nat.zero_le _) ?_
      refine aw_istore D_br_out_111 (Nat.le_of_ble_eq_true rfl) rfl ?_
      first | refine aw_incN D_br_out_113 rfl (Nat.le_of_ble_eq_true rfl) rfl ?_ | refine aw_inc D_br_out_113 rfl (Nat.le_of_ble_eq_true rfl) rfl ?_
      refine aw_goto D_br_out_116 ?_
      have := ih (j + 1) (by omega)
      rw [itr_succ] at this
      exact this
  refine aw_aload_n 0 D_br_out_0 rfl rfl ?_
  refine aw_iconst (nI 0) D_br_out_1 rfl ?_
  refine aw_put tc_br D_br_out_2 rfl (Nat.le_of_ble_eq_true rfl) rfl rfl ?_
  show AW M_br_out noP _ 0 0 5 _ _ [BR tc (nI 0), RG n (2 ^ n) ch b bn, RI c pd st fa o be pc le sz wt qu, TR kc tw, SH la zs cs, RR mk ru ol re ms sp, mo, dy] _ _
  refine aw_iload_n 2 D_br_out_5 rfl rfl ?_
  refine aw_callS1 (As := [_]) D_br_out_6 kv_br_isSheet (c_br_isSheetT hk) rfl rfl (Nat.le_of_ble_eq_true rfl) (Nat.zero_le _) (Nat.zero_le _) ?_
  refine aw_if_eqN D_br_out_9 (by omega) (fun h => absurd h (by omega)) (fun h => ?_)
  refine aw_aload_n 0 D_br_out_12 rfl rfl ?_
  refine aw_get D_br_out_13 rfl rfl ?_
  refine aw_iload_n 1 D_br_out_16 rfl rfl ?_
  refine aw_callV1 (As := [_]) D_br_out_17 kv_rg_has (c_rg_hasT hs hp9) rfl rfl rfl rfl rfl (Nat.le_of_ble_eq_true rfl) (Nat.zero_le _) (Nat.zero_le _) ?_
  refine aw_if_neN D_br_out_20 (by omega) (fun h => ?_) (fun h => absurd h (by omega))
  refine aw_aload_n 0 D_br_out_25 rfl rfl ?_
  refine aw_get D_br_out_26 rfl rfl ?_
  refine aw_iload_n 2 D_br_out_29 rfl rfl ?_
  refine aw_aaldN D_br_out_30 rfl (by omega) (by omega) (shf_at hk) ?_
  refine aw_astore D_br_out_31 (Nat.le_of_ble_eq_true rfl) rfl ?_
  refine aw_aload D_br_out_33 rfl ?_
  refine aw_callV1 (As := []) D_br_out_35 kv_sh_isNothing (c_sh_nothing (sh_obj hk)) rfl rfl (sh_obj hk) rfl rfl (Nat.le_of_ble_eq_true rfl) (Nat.zero_le _) (Nat.zero_le _) ?_
  rw [if_neg hne]
  refine aw_if_eqN D_br_out_38 (by omega) (fun h => ?_) (fun h => absurd h (by omega))
  refine aw_iload D_br_out_47 rfl ?_
  refine aw_if_geN D_br_out_49 (by omega) ?_
  refine aw_aload D_br_out_58 rfl ?_
  refine aw_iload_n 3 D_br_out_60 rfl rfl ?_
  refine aw_iload D_br_out_61 rfl ?_
  refine aw_callV1 (As := [_, _]) D_br_out_63 kv_sh_hasCells (c_sh_hasN (i := i) (k := m) (by omega) (by omega) hzk (sh_obj hk)) rfl rfl (sh_obj hk) rfl rfl (Nat.le_of_ble_eq_true rfl) (Nat.zero_le _) (Nat.zero_le _) ?_
  rw [if_pos him]
  refine aw_if_neN D_br_out_66 (by omega) (fun h => ?_) (fun h => absurd h (by omega))
  refine aw_iload_n 1 D_br_out_75 rfl rfl ?_
  refine aw_istore D_br_out_76 (Nat.le_of_ble_eq_true rfl) rfl ?_
  refine aw_iconst (nI 0) D_br_out_78 rfl ?_
  refine aw_istore D_br_out_79 (Nat.le_of_ble_eq_true rfl) rfl ?_
  have := key m 0 (by omega)
  rw [fb_put_0, up_id] at this
  exact this
theorem c_br_thinU {x y z : Int32} (hx : ¬ vp_in x 4 ∨ ¬ vp_in z 4) (h : CS n b tc fl la zs cs mo w) : AMet M_br_thin [.ref 0, .int x, .int y, .int z] w (fun r' w' => r' = some (.int (-nI 1)) ∧ CS n b tc (nI 0) la zs cs mo w') 0 0 := by
  obtain ⟨ch, bn, c, pd, st, fa, o, be, pc, le, sz, wt, qu, kc, tw, mk, ru, ol, re, ms, sp, dy, rfl, hn, hn9, hb, hch, hD, hz⟩ := h
  have hp9 := pow_le9 hn9
  refine AMet.of [(0, .ref 0), (1, .int x), (2, .int y), (3, .int z)] (by decide +kernel) rfl (Nat.le_of_ble_eq_true rfl) ?_
  refine aw_aload_n 0 D_br_thin_0 rfl rfl ?_
  refine aw_iconst (nI 0) D_br_thin_1 rfl ?_
  refine aw_put tc_br D_br_thin_2 rfl (Nat.le_of_ble_eq_true rfl) rfl rfl ?_
  show AW M_br_thin noP _ 0 0 5 _ _ [BR tc (nI 0), RG n (2 ^ n) ch b bn, RI c pd st fa o be pc le sz wt qu, TR kc tw, SH la zs cs, RR mk ru ol re ms sp, mo, dy] _ _
  refine aw_iload_n 1 D_br_thin_5 rfl rfl ?_
  by_cases h1 : vp_in x 4
  · obtain ⟨k, hk, rfl⟩ := vp_in_of h1 (by decide)
    refine aw_callS1 (As := [_]) D_br_thin_6 kv_br_isSheet (c_br_isSheetT hk) rfl rfl (Nat.le_of_ble_eq_true rfl) (Nat.zero_le _) (Nat.zero_le _) ?_
    refine aw_if_eqN D_br_thin_9 (by omega) (fun h => absurd h (by omega)) (fun h => ?_)
    refine aw_iload_n 3 D_br_thin_12 rfl rfl ?_
    refine aw_callS1 (As := [_]) D_br_thin_13 kv_br_isSheet (c_br_isSheetF (hx.resolve_left (fun q => q h1))) rfl rfl (Nat.le_of_ble_eq_true rfl) (Nat.zero_le _) (Nat.zero_le _) ?_
    refine aw_if_neN D_br_thin_16 (by omega) (fun h => absurd h (by omega)) (fun h => ?_)
    refine aw_iconst (-nI 1) D_br_thin_19 rfl ?_
    refine aw_ireturn D_br_thin_20 rfl rfl ?_
    exact ⟨rfl, ch, bn, c, pd, st, fa, o, be, pc, le, sz, wt, qu, kc, tw, mk, ru, ol, re, ms, sp, dy, rfl, hn, hn9, hb, hch, hD, hz⟩
  · refine aw_callS1 (As := [_]) D_br_thin_6 kv_br_isSheet (c_br_isSheetF h1) rfl rfl (Nat.le_of_ble_eq_true rfl) (Nat.zero_le _) (Nat.zero_le _) ?_
    refine aw_if_eqN D_br_thin_9 (by omega) (fun h => ?_) (fun h => absurd h (by omega))
    refine aw_iconst (-nI 1) D_br_thin_19 rfl ?_
    refine aw_ireturn D_br_thin_20 rfl rfl ?_
    exact ⟨rfl, ch, bn, c, pd, st, fa, o, be, pc, le, sz, wt, qu, kc, tw, mk, ru, ol, re, ms, sp, dy, rfl, hn, hn9, hb, hch, hD, hz⟩
theorem c_br_thinO {k p : Nat} {y : Int32} (hk : k < 4) (hp : p < 4) (hy : ¬ ∃ d, 1 ≤ d ∧ d ≤ 600 ∧ y = nI d) (h : CS n b tc fl la zs cs mo w) : AMet M_br_thin [.ref 0, .int (nI k), .int y, .int (nI p)] w (fun r' w' => r' = some (.int (-nI 2)) ∧ CS n b tc (nI 0) la zs cs mo w') 0 0 := by
  obtain ⟨ch, bn, c, pd, st, fa, o, be, pc, le, sz, wt, qu, kc, tw, mk, ru, ol, re, ms, sp, dy, rfl, hn, hn9, hb, hch, hD, hz⟩ := h
  have hp9 := pow_le9 hn9
  refine AMet.of [(0, .ref 0), (1, .int (nI k)), (2, .int y), (3, .int (nI p))] (by decide +kernel) rfl (Nat.le_of_ble_eq_true rfl) ?_
  refine aw_aload_n 0 D_br_thin_0 rfl rfl ?_
  refine aw_iconst (nI 0) D_br_thin_1 rfl ?_
  refine aw_put tc_br D_br_thin_2 rfl (Nat.le_of_ble_eq_true rfl) rfl rfl ?_
  show AW M_br_thin noP _ 0 0 5 _ _ [BR tc (nI 0), RG n (2 ^ n) ch b bn, RI c pd st fa o be pc le sz wt qu, TR kc tw, SH la zs cs, RR mk ru ol re ms sp, mo, dy] _ _
  refine aw_iload_n 1 D_br_thin_5 rfl rfl ?_
  refine aw_callS1 (As := [_]) D_br_thin_6 kv_br_isSheet (c_br_isSheetT hk) rfl rfl (Nat.le_of_ble_eq_true rfl) (Nat.zero_le _) (Nat.zero_le _) ?_
  refine aw_if_eqN D_br_thin_9 (by omega) (fun h => absurd h (by omega)) (fun h => ?_)
  refine aw_iload_n 3 D_br_thin_12 rfl rfl ?_
  refine aw_callS1 (As := [_]) D_br_thin_13 kv_br_isSheet (c_br_isSheetT hp) rfl rfl (Nat.le_of_ble_eq_true rfl) (Nat.zero_le _) (Nat.zero_le _) ?_
  refine aw_if_neN D_br_thin_16 (by omega) (fun h => ?_) (fun h => absurd h (by omega))
  refine aw_iload_n 2 D_br_thin_21 rfl rfl ?_
  refine aw_iconst (nI 1) D_br_thin_22 rfl ?_
  refine aw_icmp_lt D_br_thin_23 (fun h2 => ?_) (fun h2 => ?_)
  · refine aw_bipush (-nI 2) D_br_thin_33 rfl ?_
    refine aw_ireturn D_br_thin_35 rfl rfl ?_
    exact ⟨rfl, ch, bn, c, pd, st, fa, o, be, pc, le, sz, wt, qu, kc, tw, mk, ru, ol, re, ms, sp, dy, rfl, hn, hn9, hb, hch, hD, hz⟩
  · refine aw_iload_n 2 D_br_thin_26 rfl rfl ?_
    refine aw_sipush (nI 600) D_br_thin_27 rfl ?_
    refine aw_icmp_le D_br_thin_30 (fun h3 => ?_) (fun h3 => ?_)
    · exfalso
      have h0 : ¬ y < 0 := fun z => h2 (Int32.lt_of_lt_of_le z (by decide))
      obtain ⟨j, hj, rfl⟩ := nI_of h0
      rw [nI_leI hj (by decide)] at h3
      rw [nI_ltI hj (by decide)] at h2
      exact hy ⟨j, by omega, h3, rfl⟩
    · refine aw_bipush (-nI 2) D_br_thin_33 rfl ?_
      refine aw_ireturn D_br_thin_35 rfl rfl ?_
      exact ⟨rfl, ch, bn, c, pd, st, fa, o, be, pc, le, sz, wt, qu, kc, tw, mk, ru, ol, re, ms, sp, dy, rfl, hn, hn9, hb, hch, hD, hz⟩
theorem c_br_thinN {k p d : Nat} (hk : k < 4) (hp : p < 4) (hd1 : 1 ≤ d) (hd : d ≤ 600) (hno : la k = -nI 1) (h : CS n b tc fl la zs cs mo w) : AMet M_br_thin [.ref 0, .int (nI k), .int (nI d), .int (nI p)] w (fun r' w' => r' = some (.int (-nI 10 - nI 1)) ∧ CS n b tc (nI 1) la zs cs mo w') 0 0 := by
  obtain ⟨ch, bn, c, pd, st, fa, o, be, pc, le, sz, wt, qu, kc, tw, mk, ru, ol, re, ms, sp, dy, rfl, hn, hn9, hb, hch, hD, hz⟩ := h
  have hp9 := pow_le9 hn9
  refine AMet.of [(0, .ref 0), (1, .int (nI k)), (2, .int (nI d)), (3, .int (nI p))] (by decide +kernel) rfl (Nat.le_of_ble_eq_true rfl) ?_
  refine aw_aload_n 0 D_br_thin_0 rfl rfl ?_
  refine aw_iconst (nI 0) D_br_thin_1 rfl ?_
  refine aw_put tc_br D_br_thin_2 rfl (Nat.le_of_ble_eq_true rfl) rfl rfl ?_
  show AW M_br_thin noP _ 0 0 5 _ _ [BR tc (nI 0), RG n (2 ^ n) ch b bn, RI c pd st fa o be pc le sz wt qu, TR kc tw, SH la zs cs, RR mk ru ol re ms sp, mo, dy] _ _
  refine aw_iload_n 1 D_br_thin_5 rfl rfl ?_
  refine aw_callS1 (As := [_]) D_br_thin_6 kv_br_isSheet (c_br_isSheetT hk) rfl rfl (Nat.le_of_ble_eq_true rfl) (Nat.zero_le _) (Nat.zero_le _) ?_
  refine aw_if_eqN D_br_thin_9 (by omega) (fun h => absurd h (by omega)) (fun h => ?_)
  refine aw_iload_n 3 D_br_thin_12 rfl rfl ?_
  refine aw_callS1 (As := [_]) D_br_thin_13 kv_br_isSheet (c_br_isSheetT hp) rfl rfl (Nat.le_of_ble_eq_true rfl) (Nat.zero_le _) (Nat.zero_le _) ?_
  refine aw_if_neN D_br_thin_16 (by omega) (fun h => ?_) (fun h => absurd h (by omega))
  refine aw_iload_n 2 D_br_thin_21 rfl rfl ?_
  refine aw_iconst (nI 1) D_br_thin_22 rfl ?_
  refine aw_icmp_ltN D_br_thin_23 (by omega) (by omega) (fun h => absurd h (by omega)) (fun h => ?_)
  refine aw_iload_n 2 D_br_thin_26 rfl rfl ?_
  refine aw_sipush (nI 600) D_br_thin_27 rfl ?_
  refine aw_icmp_leN D_br_thin_30 (by omega) (by omega) (fun h => ?_) (fun h => absurd h (by omega))
  refine aw_aload_n 0 D_br_thin_36 rfl rfl ?_
  refine aw_get D_br_thin_37 rfl rfl ?_
  refine aw_iload_n 1 D_br_thin_40 rfl rfl ?_
  refine aw_aaldN D_br_thin_41 rfl (by omega) (by omega) (shf_at hk) ?_
  refine aw_callV1 (As := []) D_br_thin_42 kv_sh_isNothing (c_sh_nothing (sh_obj hk)) rfl rfl (sh_obj hk) rfl rfl (Nat.le_of_ble_eq_true rfl) (Nat.zero_le _) (Nat.zero_le _) ?_
  rw [if_pos hno]
  refine aw_if_eqN D_br_thin_45 (by omega) (fun h => absurd h (by omega)) (fun h => ?_)
  refine aw_aload_n 0 D_br_thin_48 rfl rfl ?_
  refine aw_iconst (nI 1) D_br_thin_49 rfl ?_
  refine aw_callV1 (As := [_]) D_br_thin_50 kv_br_faulted (c_br_faulted) rfl rfl rfl rfl rfl (Nat.le_of_ble_eq_true rfl) (Nat.zero_le _) (Nat.zero_le _) ?_
  refine aw_ireturn D_br_thin_53 rfl rfl ?_
  exact ⟨rfl, ch, bn, c, pd, st, fa, o, be, pc, le, sz, wt, qu, kc, tw, mk, ru, ol, re, ms, sp, dy, rfl, hn, hn9, hb, hch, hD, hz⟩
theorem c_br_thinT {k p d : Nat} (hk : k < 4) (hp : p < 4) (hd1 : 1 ≤ d) (hd : d ≤ 600) (hne : la k ≠ -nI 1) (h : CS n b tc fl la zs cs mo w) : AMet M_br_thin [.ref 0, .int (nI k), .int (nI d), .int (nI p)] w (fun r' w' => r' = some (.int (nI ((zs k + d - 1) / d))) ∧ CS n b tc (nI 0) (va_up la p (la k)) (va_up zs p ((zs k + d - 1) / d)) (va_up cs p (thinC (cs k) (cs p) d ((zs k + d - 1) / d))) mo w') 0 0 := by
  obtain ⟨ch, bn, c, pd, st, fa, o, be, pc, le, sz, wt, qu, kc, tw, mk, ru, ol, re, ms, sp, dy, rfl, hn, hn9, hb, hch, hD, hz⟩ := h
  have hp9 := pow_le9 hn9
  refine AMet.of [(0, .ref 0), (1, .int (nI k)), (2, .int (nI d)), (3, .int (nI p))] (by decide +kernel) rfl (Nat.le_of_ble_eq_true rfl) ?_
  have hzk := hz k
  have hle := thin_le (sb := zs k) hd1
  refine aw_aload_n 0 D_br_thin_0 rfl rfl ?_
  refine aw_iconst (nI 0) D_br_thin_1 rfl ?_
  refine aw_put tc_br D_br_thin_2 rfl (Nat.le_of_ble_eq_true rfl) rfl rfl ?_
  show AW M_br_thin noP _ 0 0 5 _ _ [BR tc (nI 0), RG n (2 ^ n) ch b bn, RI c pd st fa o be pc le sz wt qu, TR kc tw, SH la zs cs, RR mk ru ol re ms sp, mo, dy] _ _
  refine aw_iload_n 1 D_br_thin_5 rfl rfl ?_
  refine aw_callS1 (As := [_]) D_br_thin_6 kv_br_isSheet (c_br_isSheetT hk) rfl rfl (Nat.le_of_ble_eq_true rfl) (Nat.zero_le _) (Nat.zero_le _) ?_
  refine aw_if_eqN D_br_thin_9 (by omega) (fun h => absurd h (by omega)) (fun h => ?_)
  refine aw_iload_n 3 D_br_thin_12 rfl rfl ?_
  refine aw_callS1 (As := [_]) D_br_thin_13 kv_br_isSheet (c_br_isSheetT hp) rfl rfl (Nat.le_of_ble_eq_true rfl) (Nat.zero_le _) (Nat.zero_le _) ?_
  refine aw_if_neN D_br_thin_16 (by omega) (fun h => ?_) (fun h => absurd h (by omega))
  refine aw_iload_n 2 D_br_thin_21 rfl rfl ?_
  refine aw_iconst (nI 1) D_br_thin_22 rfl ?_
  refine aw_icmp_ltN D_br_thin_23 (by omega) (by omega) (fun h => absurd h (by omega)) (fun h => ?_)
  refine aw_iload_n 2 D_br_thin_26 rfl rfl ?_
  refine aw_sipush (nI 600) D_br_thin_27 rfl ?_
  refine aw_icmp_leN D_br_thin_30 (by omega) (by omega) (fun h => ?_) (fun h => absurd h (by omega))
  refine aw_aload_n 0 D_br_thin_36 rfl rfl ?_
  refine aw_get D_br_thin_37 rfl rfl ?_
  refine aw_iload_n 1 D_br_thin_40 rfl rfl ?_
  refine aw_aaldN D_br_thin_41 rfl (by omega) (by omega) (shf_at hk) ?_
  refine aw_callV1 (As := []) D_br_thin_42 kv_sh_isNothing (c_sh_nothing (sh_obj hk)) rfl rfl (sh_obj hk) rfl rfl (Nat.le_of_ble_eq_true rfl) (Nat.zero_le _) (Nat.zero_le _) ?_
  rw [if_neg hne]
  refine aw_if_eqN D_br_thin_45 (by omega) (fun h => ?_) (fun h => absurd h (by omega))
  refine aw_aload_n 0 D_br_thin_54 rfl rfl ?_
  refine aw_get D_br_thin_55 rfl rfl ?_
  refine aw_iload_n 3 D_br_thin_58 rfl rfl ?_
  refine aw_aaldN D_br_thin_59 rfl (by omega) (by omega) (shf_at hp) ?_
  refine aw_aload_n 0 D_br_thin_60 rfl rfl ?_
  refine aw_get D_br_thin_61 rfl rfl ?_
  refine aw_iload_n 1 D_br_thin_64 rfl rfl ?_
  refine aw_aaldN D_br_thin_65 rfl (by omega) (by omega) (shf_at hk) ?_
  refine aw_iload_n 2 D_br_thin_66 rfl rfl ?_
  refine aw_callVv (As := [_, _]) D_br_thin_67 kv_sh_becomeThinned (c_sh_thin (w := [BR tc (nI 0), RG n (2 ^ n) ch b bn, RI c pd st fa o be pc le sz wt qu, TR kc tw, SH la zs cs, RR mk ru ol re ms sp, mo, dy]) (q := 4 + 32 * p) (qc := 20 + 32 * p) (p := 4 + 32 * k) (pc := 20 + 32 * k) (d := d) (ca := cs p) (cb := cs k) (fun i => va_up cs p (thinC (cs k) (cs p) d i) k) hd1 hd hzk (sh_obj hp) (sh_cel hp) (sh_obj hk) (fun i => by rw [sh_ce_up hp]; exact sh_obj hp) (fun i => by rw [sh_ce_up hp]; exact sh_obj hk) (fun i => by rw [sh_ce_up hp]; exact sh_cel hk) (fun i => by by_cases q : k = p; rw [q, up_self]; exact if_neg (Nat.not_lt.mpr (Nat.le_mul_of_pos_right i hd1)); rw [up_ne _ _ q])) rfl rfl (sh_obj hp) rfl rfl (Nat.le_of_ble_eq_true rfl) (Nat.zero_le _) (Nat.zero_le _) ?_
  rw [sh_ce_up hp, sh_ob_up hp]
  refine aw_aload_n 0 D_br_thin_70 rfl rfl ?_
  refine aw_get D_br_thin_71 rfl rfl ?_
  refine aw_iload_n 3 D_br_thin_74 rfl rfl ?_
  refine aw_aaldN D_br_thin_75 rfl (by omega) (by omega) (shf_at hp) ?_
  refine aw_get D_br_thin_76 (sh_obj hp) rfl ?_
  rw [up_self]
  refine aw_ireturn D_br_thin_79 rfl rfl ?_
  exact ⟨rfl, ch, bn, c, pd, st, fa, o, be, pc, le, sz, wt, qu, kc, tw, mk, ru, ol, re, ms, sp, dy, rfl, hn, hn9, hb, hch, hD, up_le hz (by omega)⟩
theorem c_br_mixU {x y z : Int32} (hx : ¬ vp_in x 4 ∨ ¬ vp_in y 4) (h : CS n b tc fl la zs cs mo w) : AMet M_br_mix [.ref 0, .int x, .int y, .int z] w (fun r' w' => r' = some (.int (-nI 1)) ∧ CS n b tc (nI 0) la zs cs mo w') 0 0 := by
  obtain ⟨ch, bn, c, pd, st, fa, o, be, pc, le, sz, wt, qu, kc, tw, mk, ru, ol, re, ms, sp, dy, rfl, hn, hn9, hb, hch, hD, hz⟩ := h
  have hp9 := pow_le9 hn9
  refine AMet.of [(0, .ref 0), (1, .int x), (2, .int y), (3, .int z)] (by decide +kernel) rfl (Nat.le_of_ble_eq_true rfl) ?_
  refine aw_aload_n 0 D_br_mix_0 rfl rfl ?_
  refine aw_iconst (nI 0) D_br_mix_1 rfl ?_
  refine aw_put tc_br D_br_mix_2 rfl (Nat.le_of_ble_eq_true rfl) rfl rfl ?_
  show AW M_br_mix noP _ 0 0 5 _ _ [BR tc (nI 0), RG n (2 ^ n) ch b bn, RI c pd st fa o be pc le sz wt qu, TR kc tw, SH la zs cs, RR mk ru ol re ms sp, mo, dy] _ _
  refine aw_iload_n 1 D_br_mix_5 rfl rfl ?_
  by_cases h1 : vp_in x 4
  · obtain ⟨k, hk, rfl⟩ := vp_in_of h1 (by decide)
    refine aw_callS1 (As := [_]) D_br_mix_6 kv_br_isSheet (c_br_isSheetT hk) rfl rfl (Nat.le_of_ble_eq_true rfl) (Nat.zero_le _) (Nat.zero_le _) ?_
    refine aw_if_eqN D_br_mix_9 (by omega) (fun h => absurd h (by omega)) (fun h => ?_)
    refine aw_iload_n 2 D_br_mix_12 rfl rfl ?_
    refine aw_callS1 (As := [_]) D_br_mix_13 kv_br_isSheet (c_br_isSheetF (hx.resolve_left (fun q => q h1))) rfl rfl (Nat.le_of_ble_eq_true rfl) (Nat.zero_le _) (Nat.zero_le _) ?_
    refine aw_if_neN D_br_mix_16 (by omega) (fun h => absurd h (by omega)) (fun h => ?_)
    refine aw_iconst (-nI 1) D_br_mix_19 rfl ?_
    refine aw_ireturn D_br_mix_20 rfl rfl ?_
    exact ⟨rfl, ch, bn, c, pd, st, fa, o, be, pc, le, sz, wt, qu, kc, tw, mk, ru, ol, re, ms, sp, dy, rfl, hn, hn9, hb, hch, hD, hz⟩
  · refine aw_callS1 (As := [_]) D_br_mix_6 kv_br_isSheet (c_br_isSheetF h1) rfl rfl (Nat.le_of_ble_eq_true rfl) (Nat.zero_le _) (Nat.zero_le _) ?_
    refine aw_if_eqN D_br_mix_9 (by omega) (fun h => ?_) (fun h => absurd h (by omega))
    refine aw_iconst (-nI 1) D_br_mix_19 rfl ?_
    refine aw_ireturn D_br_mix_20 rfl rfl ?_
    exact ⟨rfl, ch, bn, c, pd, st, fa, o, be, pc, le, sz, wt, qu, kc, tw, mk, ru, ol, re, ms, sp, dy, rfl, hn, hn9, hb, hch, hD, hz⟩
theorem c_br_mixO {k p : Nat} {z : Int32} (hk : k < 4) (hp : p < 4) (hy : ¬ vp_in z 2) (h : CS n b tc fl la zs cs mo w) : AMet M_br_mix [.ref 0, .int (nI k), .int (nI p), .int z] w (fun r' w' => r' = some (.int (-nI 2)) ∧ CS n b tc (nI 0) la zs cs mo w') 0 0 := by
  obtain ⟨ch, bn, c, pd, st, fa, o, be, pc, le, sz, wt, qu, kc, tw, mk, ru, ol, re, ms, sp, dy, rfl, hn, hn9, hb, hch, hD, hz⟩ := h
  have hp9 := pow_le9 hn9
  refine AMet.of [(0, .ref 0), (1, .int (nI k)), (2, .int (nI p)), (3, .int z)] (by decide +kernel) rfl (Nat.le_of_ble_eq_true rfl) ?_
  refine aw_aload_n 0 D_br_mix_0 rfl rfl ?_
  refine aw_iconst (nI 0) D_br_mix_1 rfl ?_
  refine aw_put tc_br D_br_mix_2 rfl (Nat.le_of_ble_eq_true rfl) rfl rfl ?_
  show AW M_br_mix noP _ 0 0 5 _ _ [BR tc (nI 0), RG n (2 ^ n) ch b bn, RI c pd st fa o be pc le sz wt qu, TR kc tw, SH la zs cs, RR mk ru ol re ms sp, mo, dy] _ _
  refine aw_iload_n 1 D_br_mix_5 rfl rfl ?_
  refine aw_callS1 (As := [_]) D_br_mix_6 kv_br_isSheet (c_br_isSheetT hk) rfl rfl (Nat.le_of_ble_eq_true rfl) (Nat.zero_le _) (Nat.zero_le _) ?_
  refine aw_if_eqN D_br_mix_9 (by omega) (fun h => absurd h (by omega)) (fun h => ?_)
  refine aw_iload_n 2 D_br_mix_12 rfl rfl ?_
  refine aw_callS1 (As := [_]) D_br_mix_13 kv_br_isSheet (c_br_isSheetT hp) rfl rfl (Nat.le_of_ble_eq_true rfl) (Nat.zero_le _) (Nat.zero_le _) ?_
  refine aw_if_neN D_br_mix_16 (by omega) (fun h => ?_) (fun h => absurd h (by omega))
  refine aw_iload_n 3 D_br_mix_21 rfl rfl ?_
  refine aw_if_eq D_br_mix_22 (fun h2 => absurd (bit_of.mpr (Or.inl h2)) hy) (fun h2 => ?_)
  refine aw_iload_n 3 D_br_mix_25 rfl rfl ?_
  refine aw_iconst (nI 1) D_br_mix_26 rfl ?_
  refine aw_icmp_eq D_br_mix_27 (fun h3 => absurd (bit_of.mpr (Or.inr h3)) hy) (fun h3 => ?_)
  refine aw_bipush (-nI 2) D_br_mix_30 rfl ?_
  refine aw_ireturn D_br_mix_32 rfl rfl ?_
  exact ⟨rfl, ch, bn, c, pd, st, fa, o, be, pc, le, sz, wt, qu, kc, tw, mk, ru, ol, re, ms, sp, dy, rfl, hn, hn9, hb, hch, hD, hz⟩
theorem c_br_mixN {k p j : Nat} (hk : k < 4) (hp : p < 4) (hj : j ≤ 1) (hno : la k = -nI 1 ∨ la p = -nI 1) (h : CS n b tc fl la zs cs mo w) : AMet M_br_mix [.ref 0, .int (nI k), .int (nI p), .int (nI j)] w (fun r' w' => r' = some (.int (-nI 10 - nI 1)) ∧ CS n b tc (nI 1) la zs cs mo w') 0 0 := by
  obtain ⟨ch, bn, c, pd, st, fa, o, be, pc, le, sz, wt, qu, kc, tw, mk, ru, ol, re, ms, sp, dy, rfl, hn, hn9, hb, hch, hD, hz⟩ := h
  have hp9 := pow_le9 hn9
  refine AMet.of [(0, .ref 0), (1, .int (nI k)), (2, .int (nI p)), (3, .int (nI j))] (by decide +kernel) rfl (Nat.le_of_ble_eq_true rfl) ?_
  refine aw_aload_n 0 D_br_mix_0 rfl rfl ?_
  refine aw_iconst (nI 0) D_br_mix_1 rfl ?_
  refine aw_put tc_br D_br_mix_2 rfl (Nat.le_of_ble_eq_true rfl) rfl rfl ?_
  show AW M_br_mix noP _ 0 0 5 _ _ [BR tc (nI 0), RG n (2 ^ n) ch b bn, RI c pd st fa o be pc le sz wt qu, TR kc tw, SH la zs cs, RR mk ru ol re ms sp, mo, dy] _ _
  refine aw_iload_n 1 D_br_mix_5 rfl rfl ?_
  refine aw_callS1 (As := [_]) D_br_mix_6 kv_br_isSheet (c_br_isSheetT hk) rfl rfl (Nat.le_of_ble_eq_true rfl) (Nat.zero_le _) (Nat.zero_le _) ?_
  refine aw_if_eqN D_br_mix_9 (by omega) (fun h => absurd h (by omega)) (fun h => ?_)
  refine aw_iload_n 2 D_br_mix_12 rfl rfl ?_
  refine aw_callS1 (As := [_]) D_br_mix_13 kv_br_isSheet (c_br_isSheetT hp) rfl rfl (Nat.le_of_ble_eq_true rfl) (Nat.zero_le _) (Nat.zero_le _) ?_
  refine aw_if_neN D_br_mix_16 (by omega) (fun h => ?_) (fun h => absurd h (by omega))
  refine aw_iload_n 3 D_br_mix_21 rfl rfl ?_
  have hgo : AW M_br_mix noP (Zp (fun r' w' => r' = some (.int (-nI 10 - nI 1)) ∧ CS n b tc (nI 1) la zs cs mo w')) 0 0 33 [(0, .ref 0), (1, .int (nI k)), (2, .int (nI p)), (3, .int (nI j))] [] [BR tc (nI 0), RG n (2 ^ n) ch b bn, RI c pd st fa o be pc le sz wt qu, TR kc tw, SH la zs cs, RR mk ru ol re ms sp, mo, dy] 0 0 := by
    refine aw_aload_n 0 D_br_mix_33 rfl rfl ?_
    refine aw_get D_br_mix_34 rfl rfl ?_
    refine aw_iload_n 1 D_br_mix_37 rfl rfl ?_
    refine aw_aaldN D_br_mix_38 rfl (by omega) (by omega) (shf_at hk) ?_
    refine aw_astore D_br_mix_39 (Nat.le_of_ble_eq_true rfl) rfl ?_
    refine aw_aload_n 0 D_br_mix_41 rfl rfl ?_
    refine aw_get D_br_mix_42 rfl rfl ?_
    refine aw_iload_n 2 D_br_mix_45 rfl rfl ?_
    refine aw_aaldN D_br_mix_46 rfl (by omega) (by omega) (shf_at hp) ?_
    refine aw_astore D_br_mix_47 (Nat.le_of_ble_eq_true rfl) rfl ?_
    refine aw_aload D_br_mix_49 rfl ?_
    by_cases hno1 : la k = -nI 1
    · refine aw_callV1 (As := []) D_br_mix_51 kv_sh_isNothing (c_sh_nothing (sh_obj hk)) rfl rfl (sh_obj hk) rfl rfl (Nat.le_of_ble_eq_true rfl) (Nat.zero_le _) (Nat.zero_le _) ?_
      rw [if_pos hno1]
      refine aw_if_neN D_br_mix_54 (by omega) (fun h => ?_) (fun h => absurd h (by omega))
      refine aw_aload_n 0 D_br_mix_65 rfl rfl ?_
      refine aw_iconst (nI 1) D_br_mix_66 rfl ?_
      refine aw_callV1 (As := [_]) D_br_mix_67 kv_br_faulted (c_br_faulted) rfl rfl rfl rfl rfl (Nat.le_of_ble_eq_true rfl) (Nat.zero_le _) (Nat.zero_le _) ?_
      refine aw_ireturn D_br_mix_70 rfl rfl ?_
      exact ⟨rfl, ch, bn, c, pd, st, fa, o, be, pc, le, sz, wt, qu, kc, tw, mk, ru, ol, re, ms, sp, dy, rfl, hn, hn9, hb, hch, hD, hz⟩
    · refine aw_callV1 (As := []) D_br_mix_51 kv_sh_isNothing (c_sh_nothing (sh_obj hk)) rfl rfl (sh_obj hk) rfl rfl (Nat.le_of_ble_eq_true rfl) (Nat.zero_le _) (Nat.zero_le _) ?_
      rw [if_neg hno1]
      refine aw_if_neN D_br_mix_54 (by omega) (fun h => absurd h (by omega)) (fun h => ?_)
      refine aw_aload D_br_mix_57 rfl ?_
      have hno2 := hno.resolve_left hno1
      refine aw_callV1 (As := []) D_br_mix_59 kv_sh_isNothing (c_sh_nothing (sh_obj hp)) rfl rfl (sh_obj hp) rfl rfl (Nat.le_of_ble_eq_true rfl) (Nat.zero_le _) (Nat.zero_le _) ?_
      rw [if_pos hno2]
      refine aw_if_eqN D_br_mix_62 (by omega) (fun h => absurd h (by omega)) (fun h => ?_)
      refine aw_aload_n 0 D_br_mix_65 rfl rfl ?_
      refine aw_iconst (nI 1) D_br_mix_66 rfl ?_
      refine aw_callV1 (As := [_]) D_br_mix_67 kv_br_faulted (c_br_faulted) rfl rfl rfl rfl rfl (Nat.le_of_ble_eq_true rfl) (Nat.zero_le _) (Nat.zero_le _) ?_
      refine aw_ireturn D_br_mix_70 rfl rfl ?_
      exact ⟨rfl, ch, bn, c, pd, st, fa, o, be, pc, le, sz, wt, qu, kc, tw, mk, ru, ol, re, ms, sp, dy, rfl, hn, hn9, hb, hch, hD, hz⟩
  refine aw_if_eqN D_br_mix_22 (by omega) (fun h2 => hgo) (fun h2 => ?_)
  refine aw_iload_n 3 D_br_mix_25 rfl rfl ?_
  refine aw_iconst (nI 1) D_br_mix_26 rfl ?_
  refine aw_icmp_eqN D_br_mix_27 (by omega) (by omega) (fun h3 => hgo) (fun h3 => absurd h3 (by omega))
theorem c_br_mixC {k p j : Nat} (hk : k < 4) (hp : p < 4) (hj : j ≤ 1) (hnk : la k ≠ -nI 1) (hnp : la p ≠ -nI 1) (hc : la k ≠ la p) (h : CS n b tc fl la zs cs mo w) : AMet M_br_mix [.ref 0, .int (nI k), .int (nI p), .int (nI j)] w (fun r' w' => r' = some (.int (-nI 10 - nI 2)) ∧ CS n b tc (nI 2) la zs cs mo w') 0 0 := by
  obtain ⟨ch, bn, c, pd, st, fa, o, be, pc, le, sz, wt, qu, kc, tw, mk, ru, ol, re, ms, sp, dy, rfl, hn, hn9, hb, hch, hD, hz⟩ := h
  have hp9 := pow_le9 hn9
  refine AMet.of [(0, .ref 0), (1, .int (nI k)), (2, .int (nI p)), (3, .int (nI j))] (by decide +kernel) rfl (Nat.le_of_ble_eq_true rfl) ?_
  refine aw_aload_n 0 D_br_mix_0 rfl rfl ?_
  refine aw_iconst (nI 0) D_br_mix_1 rfl ?_
  refine aw_put tc_br D_br_mix_2 rfl (Nat.le_of_ble_eq_true rfl) rfl rfl ?_
  show AW M_br_mix noP _ 0 0 5 _ _ [BR tc (nI 0), RG n (2 ^ n) ch b bn, RI c pd st fa o be pc le sz wt qu, TR kc tw, SH la zs cs, RR mk ru ol re ms sp, mo, dy] _ _
  refine aw_iload_n 1 D_br_mix_5 rfl rfl ?_
  refine aw_callS1 (As := [_]) D_br_mix_6 kv_br_isSheet (c_br_isSheetT hk) rfl rfl (Nat.le_of_ble_eq_true rfl) (Nat.zero_le _) (Nat.zero_le _) ?_
  refine aw_if_eqN D_br_mix_9 (by omega) (fun h => absurd h (by omega)) (fun h => ?_)
  refine aw_iload_n 2 D_br_mix_12 rfl rfl ?_
  refine aw_callS1 (As := [_]) D_br_mix_13 kv_br_isSheet (c_br_isSheetT hp) rfl rfl (Nat.le_of_ble_eq_true rfl) (Nat.zero_le _) (Nat.zero_le _) ?_
  refine aw_if_neN D_br_mix_16 (by omega) (fun h => ?_) (fun h => absurd h (by omega))
  refine aw_iload_n 3 D_br_mix_21 rfl rfl ?_
  have hgo : AW M_br_mix noP (Zp (fun r' w' => r' = some (.int (-nI 10 - nI 2)) ∧ CS n b tc (nI 2) la zs cs mo w')) 0 0 33 [(0, .ref 0), (1, .int (nI k)), (2, .int (nI p)), (3, .int (nI j))] [] [BR tc (nI 0), RG n (2 ^ n) ch b bn, RI c pd st fa o be pc le sz wt qu, TR kc tw, SH la zs cs, RR mk ru ol re ms sp, mo, dy] 0 0 := by
    refine aw_aload_n 0 D_br_mix_33 rfl rfl ?_
    refine aw_get D_br_mix_34 rfl rfl ?_
    refine aw_iload_n 1 D_br_mix_37 rfl rfl ?_
    refine aw_aaldN D_br_mix_38 rfl (by omega) (by omega) (shf_at hk) ?_
    refine aw_astore D_br_mix_39 (Nat.le_of_ble_eq_true rfl) rfl ?_
    refine aw_aload_n 0 D_br_mix_41 rfl rfl ?_
    refine aw_get D_br_mix_42 rfl rfl ?_
    refine aw_iload_n 2 D_br_mix_45 rfl rfl ?_
    refine aw_aaldN D_br_mix_46 rfl (by omega) (by omega) (shf_at hp) ?_
    refine aw_astore D_br_mix_47 (Nat.le_of_ble_eq_true rfl) rfl ?_
    refine aw_aload D_br_mix_49 rfl ?_
    refine aw_callV1 (As := []) D_br_mix_51 kv_sh_isNothing (c_sh_nothing (sh_obj hk)) rfl rfl (sh_obj hk) rfl rfl (Nat.le_of_ble_eq_true rfl) (Nat.zero_le _) (Nat.zero_le _) ?_
    rw [if_neg hnk]
    refine aw_if_neN D_br_mix_54 (by omega) (fun h => absurd h (by omega)) (fun h => ?_)
    refine aw_aload D_br_mix_57 rfl ?_
    refine aw_callV1 (As := []) D_br_mix_59 kv_sh_isNothing (c_sh_nothing (sh_obj hp)) rfl rfl (sh_obj hp) rfl rfl (Nat.le_of_ble_eq_true rfl) (Nat.zero_le _) (Nat.zero_le _) ?_
    rw [if_neg hnp]
    refine aw_if_eqN D_br_mix_62 (by omega) (fun h => ?_) (fun h => absurd h (by omega))
    refine aw_aload D_br_mix_71 rfl ?_
    refine aw_aload D_br_mix_73 rfl ?_
    refine aw_get D_br_mix_75 (sh_obj hp) rfl ?_
    refine aw_callV1 (As := [_]) D_br_mix_78 kv_sh_isOfOtherLane (c_sh_other (sh_obj hk)) rfl rfl (sh_obj hk) rfl rfl (Nat.le_of_ble_eq_true rfl) (Nat.zero_le _) (Nat.zero_le _) ?_
    rw [if_pos ⟨hnk, hc⟩]
    refine aw_if_eqN D_br_mix_81 (by omega) (fun h => absurd h (by omega)) (fun h => ?_)
    refine aw_aload_n 0 D_br_mix_84 rfl rfl ?_
    refine aw_iconst (nI 2) D_br_mix_85 rfl ?_
    refine aw_callV1 (As := [_]) D_br_mix_86 kv_br_faulted (c_br_faulted) rfl rfl rfl rfl rfl (Nat.le_of_ble_eq_true rfl) (Nat.zero_le _) (Nat.zero_le _) ?_
    refine aw_ireturn D_br_mix_89 rfl rfl ?_
    exact ⟨rfl, ch, bn, c, pd, st, fa, o, be, pc, le, sz, wt, qu, kc, tw, mk, ru, ol, re, ms, sp, dy, rfl, hn, hn9, hb, hch, hD, hz⟩
  refine aw_if_eqN D_br_mix_22 (by omega) (fun h2 => hgo) (fun h2 => ?_)
  refine aw_iload_n 3 D_br_mix_25 rfl rfl ?_
  refine aw_iconst (nI 1) D_br_mix_26 rfl ?_
  refine aw_icmp_eqN D_br_mix_27 (by omega) (by omega) (fun h3 => hgo) (fun h3 => absurd h3 (by omega))
theorem c_br_mixT {k p j : Nat} (hk : k < 4) (hp : p < 4) (hj : j ≤ 1) (hnk : la k ≠ -nI 1) (hc : la k = la p) (h : CS n b tc fl la zs cs mo w) : AMet M_br_mix [.ref 0, .int (nI k), .int (nI p), .int (nI j)] w (fun r' w' => r' = some (.int (nI (min (zs k) (zs p)))) ∧ CS n b tc (nI 0) la zs (va_up cs k (mixC j (cs k) (cs p) (min (zs k) (zs p)))) mo w') 0 0 := by
  obtain ⟨ch, bn, c, pd, st, fa, o, be, pc, le, sz, wt, qu, kc, tw, mk, ru, ol, re, ms, sp, dy, rfl, hn, hn9, hb, hch, hD, hz⟩ := h
  have hp9 := pow_le9 hn9
  refine AMet.of [(0, .ref 0), (1, .int (nI k)), (2, .int (nI p)), (3, .int (nI j))] (by decide +kernel) rfl (Nat.le_of_ble_eq_true rfl) ?_
  have hnp : la p ≠ -nI 1 := by rw [← hc]; exact hnk
  refine aw_aload_n 0 D_br_mix_0 rfl rfl ?_
  refine aw_iconst (nI 0) D_br_mix_1 rfl ?_
  refine aw_put tc_br D_br_mix_2 rfl (Nat.le_of_ble_eq_true rfl) rfl rfl ?_
  show AW M_br_mix noP _ 0 0 5 _ _ [BR tc (nI 0), RG n (2 ^ n) ch b bn, RI c pd st fa o be pc le sz wt qu, TR kc tw, SH la zs cs, RR mk ru ol re ms sp, mo, dy] _ _
  refine aw_iload_n 1 D_br_mix_5 rfl rfl ?_
  refine aw_callS1 (As := [_]) D_br_mix_6 kv_br_isSheet (c_br_isSheetT hk) rfl rfl (Nat.le_of_ble_eq_true rfl) (Nat.zero_le _) (Nat.zero_le _) ?_
  refine aw_if_eqN D_br_mix_9 (by omega) (fun h => absurd h (by omega)) (fun h => ?_)
  refine aw_iload_n 2 D_br_mix_12 rfl rfl ?_
  refine aw_callS1 (As := [_]) D_br_mix_13 kv_br_isSheet (c_br_isSheetT hp) rfl rfl (Nat.le_of_ble_eq_true rfl) (Nat.zero_le _) (Nat.zero_le _) ?_
  refine aw_if_neN D_br_mix_16 (by omega) (fun h => ?_) (fun h => absurd h (by omega))
  refine aw_iload_n 3 D_br_mix_21 rfl rfl ?_
  have hgo : AW M_br_mix noP (Zp (fun r' w' => r' = some (.int (nI (min (zs k) (zs p)))) ∧ CS n b tc (nI 0) la zs (va_up cs k (mixC j (cs k) (cs p) (min (zs k) (zs p)))) mo w')) 0 0 33 [(0, .ref 0), (1, .int (nI k)), (2, .int (nI p)), (3, .int (nI j))] [] [BR tc (nI 0), RG n (2 ^ n) ch b bn, RI c pd st fa o be pc le sz wt qu, TR kc tw, SH la zs cs, RR mk ru ol re ms sp, mo, dy] 0 0 := by
    refine aw_aload_n 0 D_br_mix_33 rfl rfl ?_
    refine aw_get D_br_mix_34 rfl rfl ?_
    refine aw_iload_n 1 D_br_mix_37 rfl rfl ?_
    refine aw_aaldN D_br_mix_38 rfl (by omega) (by omega) (shf_at hk) ?_
    refine aw_astore D_br_mix_39 (Nat.le_of_ble_eq_true rfl) rfl ?_
    refine aw_aload_n 0 D_br_mix_41 rfl rfl ?_
    refine aw_get D_br_mix_42 rfl rfl ?_
    refine aw_iload_n 2 D_br_mix_45 rfl rfl ?_
    refine aw_aaldN D_br_mix_46 rfl (by omega) (by omega) (shf_at hp) ?_
    refine aw_astore D_br_mix_47 (Nat.le_of_ble_eq_true rfl) rfl ?_
    refine aw_aload D_br_mix_49 rfl ?_
    refine aw_callV1 (As := []) D_br_mix_51 kv_sh_isNothing (c_sh_nothing (sh_obj hk)) rfl rfl (sh_obj hk) rfl rfl (Nat.le_of_ble_eq_true rfl) (Nat.zero_le _) (Nat.zero_le _) ?_
    rw [if_neg hnk]
    refine aw_if_neN D_br_mix_54 (by omega) (fun h => absurd h (by omega)) (fun h => ?_)
    refine aw_aload D_br_mix_57 rfl ?_
    refine aw_callV1 (As := []) D_br_mix_59 kv_sh_isNothing (c_sh_nothing (sh_obj hp)) rfl rfl (sh_obj hp) rfl rfl (Nat.le_of_ble_eq_true rfl) (Nat.zero_le _) (Nat.zero_le _) ?_
    rw [if_neg hnp]
    refine aw_if_eqN D_br_mix_62 (by omega) (fun h => ?_) (fun h => absurd h (by omega))
    refine aw_aload D_br_mix_71 rfl ?_
    refine aw_aload D_br_mix_73 rfl ?_
    refine aw_get D_br_mix_75 (sh_obj hp) rfl ?_
    refine aw_callV1 (As := [_]) D_br_mix_78 kv_sh_isOfOtherLane (c_sh_other (sh_obj hk)) rfl rfl (sh_obj hk) rfl rfl (Nat.le_of_ble_eq_true rfl) (Nat.zero_le _) (Nat.zero_le _) ?_
    rw [if_neg (fun q => q.2 hc)]
    refine aw_if_eqN D_br_mix_81 (by omega) (fun h => ?_) (fun h => absurd h (by omega))
    refine aw_aload D_br_mix_90 rfl ?_
    refine aw_aload D_br_mix_92 rfl ?_
    refine aw_iload_n 3 D_br_mix_94 rfl rfl ?_
    refine aw_callV1 (As := [_, _]) D_br_mix_95 kv_sh_mixWith (c_sh_mix (w := [BR tc (nI 0), RG n (2 ^ n) ch b bn, RI c pd st fa o be pc le sz wt qu, TR kc tw, SH la zs cs, RR mk ru ol re ms sp, mo, dy]) (q := 4 + 32 * k) (qc := 20 + 32 * k) (p := 4 + 32 * p) (pc := 20 + 32 * p) (how := j) (ca := cs k) (cb := cs p) (fun i => va_up cs k (mixC j (cs k) (cs p) i) p) hj (hz k) (hz p) (sh_obj hk) (sh_cel hk) (sh_obj hp) (fun i => by rw [sh_ce_up hk]; exact sh_obj hk) (fun i => by rw [sh_ce_up hk]; exact sh_obj hp) (fun i => by rw [sh_ce_up hk]; exact sh_cel hp) (fun i => by by_cases q : p = k; rw [q, up_self]; exact if_neg (Nat.lt_irrefl i); rw [up_ne _ _ q])) rfl rfl (sh_obj hk) rfl rfl (Nat.le_of_ble_eq_true rfl) (Nat.zero_le _) (Nat.zero_le _) ?_
    rw [sh_ce_up hk]
    refine aw_ireturn D_br_mix_98 rfl rfl ?_
    exact ⟨rfl, ch, bn, c, pd, st, fa, o, be, pc, le, sz, wt, qu, kc, tw, mk, ru, ol, re, ms, sp, dy, rfl, hn, hn9, hb, hch, hD, hz⟩
  refine aw_if_eqN D_br_mix_22 (by omega) (fun h2 => hgo) (fun h2 => ?_)
  refine aw_iload_n 3 D_br_mix_25 rfl rfl ?_
  refine aw_iconst (nI 1) D_br_mix_26 rfl ?_
  refine aw_icmp_eqN D_br_mix_27 (by omega) (by omega) (fun h3 => hgo) (fun h3 => absurd h3 (by omega))
theorem c_br_takeU {x l y m u : Int32} (hx : ¬ vp_in x 4 ∨ ¬ vp_in u (2 ^ n)) (h : CS n b tc fl la zs cs mo w) : AMet M_br_take [.ref 0, .int x, .int l, .int y, .int m, .int u] w (fun r' w' => r' = some (.int (-nI 1)) ∧ CS n b tc (nI 0) la zs cs mo w') 0 0 := by
  obtain ⟨ch, bn, c, pd, st, fa, o, be, pc, le, sz, wt, qu, kc, tw, mk, ru, ol, re, ms, sp, dy, rfl, hn, hn9, hb, hch, hD, hz⟩ := h
  have hp9 := pow_le9 hn9
  refine AMet.of [(0, .ref 0), (1, .int x), (2, .int l), (3, .int y), (4, .int m), (5, .int u)] (by decide +kernel) rfl (Nat.le_of_ble_eq_true rfl) ?_
  refine aw_aload_n 0 D_br_take_0 rfl rfl ?_
  refine aw_iconst (nI 0) D_br_take_1 rfl ?_
  refine aw_put tc_br D_br_take_2 rfl (Nat.le_of_ble_eq_true rfl) rfl rfl ?_
  show AW M_br_take noP _ 0 0 5 _ _ [BR tc (nI 0), RG n (2 ^ n) ch b bn, RI c pd st fa o be pc le sz wt qu, TR kc tw, SH la zs cs, RR mk ru ol re ms sp, mo, dy] _ _
  refine aw_iload_n 1 D_br_take_5 rfl rfl ?_
  by_cases h1 : vp_in x 4
  · obtain ⟨k, hk, rfl⟩ := vp_in_of h1 (by decide)
    refine aw_callS1 (As := [_]) D_br_take_6 kv_br_isSheet (c_br_isSheetT hk) rfl rfl (Nat.le_of_ble_eq_true rfl) (Nat.zero_le _) (Nat.zero_le _) ?_
    refine aw_if_eqN D_br_take_9 (by omega) (fun h => absurd h (by omega)) (fun h => ?_)
    refine aw_aload_n 0 D_br_take_12 rfl rfl ?_
    refine aw_get D_br_take_13 rfl rfl ?_
    refine aw_iload D_br_take_16 rfl ?_
    refine aw_callV1 (As := [_]) D_br_take_18 kv_rg_has (c_rg_hasF (hx.resolve_left (fun q => q h1)) hp9) rfl rfl rfl rfl rfl (Nat.le_of_ble_eq_true rfl) (Nat.zero_le _) (Nat.zero_le _) ?_
    refine aw_if_neN D_br_take_21 (by omega) (fun h => absurd h (by omega)) (fun h => ?_)
    refine aw_iconst (-nI 1) D_br_take_24 rfl ?_
    refine aw_ireturn D_br_take_25 rfl rfl ?_
    exact ⟨rfl, ch, bn, c, pd, st, fa, o, be, pc, le, sz, wt, qu, kc, tw, mk, ru, ol, re, ms, sp, dy, rfl, hn, hn9, hb, hch, hD, hz⟩
  · refine aw_callS1 (As := [_]) D_br_take_6 kv_br_isSheet (c_br_isSheetF h1) rfl rfl (Nat.le_of_ble_eq_true rfl) (Nat.zero_le _) (Nat.zero_le _) ?_
    refine aw_if_eqN D_br_take_9 (by omega) (fun h => ?_) (fun h => absurd h (by omega))
    refine aw_iconst (-nI 1) D_br_take_24 rfl ?_
    refine aw_ireturn D_br_take_25 rfl rfl ?_
    exact ⟨rfl, ch, bn, c, pd, st, fa, o, be, pc, le, sz, wt, qu, kc, tw, mk, ru, ol, re, ms, sp, dy, rfl, hn, hn9, hb, hch, hD, hz⟩
theorem c_br_takeO {k s : Nat} {l y m : Int32} (hk : k < 4) (hs : s < 2 ^ n) (hl : ¬ vp_in l 3) (h : CS n b tc fl la zs cs mo w) : AMet M_br_take [.ref 0, .int (nI k), .int l, .int y, .int m, .int (nI s)] w (fun r' w' => r' = some (.int (-nI 2)) ∧ CS n b tc (nI 0) la zs cs mo w') 0 0 := by
  obtain ⟨ch, bn, c, pd, st, fa, o, be, pc, le, sz, wt, qu, kc, tw, mk, ru, ol, re, ms, sp, dy, rfl, hn, hn9, hb, hch, hD, hz⟩ := h
  have hp9 := pow_le9 hn9
  refine AMet.of [(0, .ref 0), (1, .int (nI k)), (2, .int l), (3, .int y), (4, .int m), (5, .int (nI s))] (by decide +kernel) rfl (Nat.le_of_ble_eq_true rfl) ?_
  refine aw_aload_n 0 D_br_take_0 rfl rfl ?_
  refine aw_iconst (nI 0) D_br_take_1 rfl ?_
  refine aw_put tc_br D_br_take_2 rfl (Nat.le_of_ble_eq_true rfl) rfl rfl ?_
  show AW M_br_take noP _ 0 0 5 _ _ [BR tc (nI 0), RG n (2 ^ n) ch b bn, RI c pd st fa o be pc le sz wt qu, TR kc tw, SH la zs cs, RR mk ru ol re ms sp, mo, dy] _ _
  refine aw_iload_n 1 D_br_take_5 rfl rfl ?_
  refine aw_callS1 (As := [_]) D_br_take_6 kv_br_isSheet (c_br_isSheetT hk) rfl rfl (Nat.le_of_ble_eq_true rfl) (Nat.zero_le _) (Nat.zero_le _) ?_
  refine aw_if_eqN D_br_take_9 (by omega) (fun h => absurd h (by omega)) (fun h => ?_)
  refine aw_aload_n 0 D_br_take_12 rfl rfl ?_
  refine aw_get D_br_take_13 rfl rfl ?_
  refine aw_iload D_br_take_16 rfl ?_
  refine aw_callV1 (As := [_]) D_br_take_18 kv_rg_has (c_rg_hasT hs hp9) rfl rfl rfl rfl rfl (Nat.le_of_ble_eq_true rfl) (Nat.zero_le _) (Nat.zero_le _) ?_
  refine aw_if_neN D_br_take_21 (by omega) (fun h => ?_) (fun h => absurd h (by omega))
  refine aw_iload_n 2 D_br_take_26 rfl rfl ?_
  refine aw_callS1 (As := [_]) D_br_take_27 kv_br_isLane (c_br_isLaneF hl) rfl rfl (Nat.le_of_ble_eq_true rfl) (Nat.zero_le _) (Nat.zero_le _) ?_
  refine aw_if_neN D_br_take_30 (by omega) (fun h => absurd h (by omega)) (fun h => ?_)
  refine aw_bipush (-nI 2) D_br_take_33 rfl ?_
  refine aw_ireturn D_br_take_35 rfl rfl ?_
  exact ⟨rfl, ch, bn, c, pd, st, fa, o, be, pc, le, sz, wt, qu, kc, tw, mk, ru, ol, re, ms, sp, dy, rfl, hn, hn9, hb, hch, hD, hz⟩
theorem c_br_takeC {k s l : Nat} {y m : Int32} (hk : k < 4) (hs : s < 2 ^ n) (hl : l < 3) (hne : la k ≠ -nI 1) (hc : la k ≠ nI l) (h : CS n b tc fl la zs cs mo w) : AMet M_br_take [.ref 0, .int (nI k), .int (nI l), .int y, .int m, .int (nI s)] w (fun r' w' => r' = some (.int (-nI 10 - nI 2)) ∧ CS n b tc (nI 2) la zs cs mo w') 0 0 := by
  obtain ⟨ch, bn, c, pd, st, fa, o, be, pc, le, sz, wt, qu, kc, tw, mk, ru, ol, re, ms, sp, dy, rfl, hn, hn9, hb, hch, hD, hz⟩ := h
  have hp9 := pow_le9 hn9
  refine AMet.of [(0, .ref 0), (1, .int (nI k)), (2, .int (nI l)), (3, .int y), (4, .int m), (5, .int (nI s))] (by decide +kernel) rfl (Nat.le_of_ble_eq_true rfl) ?_
  refine aw_aload_n 0 D_br_take_0 rfl rfl ?_
  refine aw_iconst (nI 0) D_br_take_1 rfl ?_
  refine aw_put tc_br D_br_take_2 rfl (Nat.le_of_ble_eq_true rfl) rfl rfl ?_
  show AW M_br_take noP _ 0 0 5 _ _ [BR tc (nI 0), RG n (2 ^ n) ch b bn, RI c pd st fa o be pc le sz wt qu, TR kc tw, SH la zs cs, RR mk ru ol re ms sp, mo, dy] _ _
  refine aw_iload_n 1 D_br_take_5 rfl rfl ?_
  refine aw_callS1 (As := [_]) D_br_take_6 kv_br_isSheet (c_br_isSheetT hk) rfl rfl (Nat.le_of_ble_eq_true rfl) (Nat.zero_le _) (Nat.zero_le _) ?_
  refine aw_if_eqN D_br_take_9 (by omega) (fun h => absurd h (by omega)) (fun h => ?_)
  refine aw_aload_n 0 D_br_take_12 rfl rfl ?_
  refine aw_get D_br_take_13 rfl rfl ?_
  refine aw_iload D_br_take_16 rfl ?_
  refine aw_callV1 (As := [_]) D_br_take_18 kv_rg_has (c_rg_hasT hs hp9) rfl rfl rfl rfl rfl (Nat.le_of_ble_eq_true rfl) (Nat.zero_le _) (Nat.zero_le _) ?_
  refine aw_if_neN D_br_take_21 (by omega) (fun h => ?_) (fun h => absurd h (by omega))
  refine aw_iload_n 2 D_br_take_26 rfl rfl ?_
  refine aw_callS1 (As := [_]) D_br_take_27 kv_br_isLane (c_br_isLaneT hl) rfl rfl (Nat.le_of_ble_eq_true rfl) (Nat.zero_le _) (Nat.zero_le _) ?_
  refine aw_if_neN D_br_take_30 (by omega) (fun h => ?_) (fun h => absurd h (by omega))
  refine aw_aload_n 0 D_br_take_36 rfl rfl ?_
  refine aw_get D_br_take_37 rfl rfl ?_
  refine aw_iload_n 1 D_br_take_40 rfl rfl ?_
  refine aw_aaldN D_br_take_41 rfl (by omega) (by omega) (shf_at hk) ?_
  refine aw_astore D_br_take_42 (Nat.le_of_ble_eq_true rfl) rfl ?_
  refine aw_aload D_br_take_44 rfl ?_
  refine aw_iload_n 2 D_br_take_46 rfl rfl ?_
  refine aw_callV1 (As := [_]) D_br_take_47 kv_sh_isOfOtherLane (c_sh_other (sh_obj hk)) rfl rfl (sh_obj hk) rfl rfl (Nat.le_of_ble_eq_true rfl) (Nat.zero_le _) (Nat.zero_le _) ?_
  rw [if_pos ⟨hne, hc⟩]
  refine aw_if_eqN D_br_take_50 (by omega) (fun h => absurd h (by omega)) (fun h => ?_)
  refine aw_aload_n 0 D_br_take_53 rfl rfl ?_
  refine aw_iconst (nI 2) D_br_take_54 rfl ?_
  refine aw_callV1 (As := [_]) D_br_take_55 kv_br_faulted (c_br_faulted) rfl rfl rfl rfl rfl (Nat.le_of_ble_eq_true rfl) (Nat.zero_le _) (Nat.zero_le _) ?_
  refine aw_ireturn D_br_take_58 rfl rfl ?_
  exact ⟨rfl, ch, bn, c, pd, st, fa, o, be, pc, le, sz, wt, qu, kc, tw, mk, ru, ol, re, ms, sp, dy, rfl, hn, hn9, hb, hch, hD, hz⟩
theorem c_br_takeN {k s l : Nat} {y m : Int32} (hk : k < 4) (hs : s < 2 ^ n) (hl : l < 3) (hno : la k = -nI 1) (h : CS n b tc fl la zs cs mo w) : AMet M_br_take [.ref 0, .int (nI k), .int (nI l), .int y, .int m, .int (nI s)] w (fun r' w' => r' = some (.int (-nI 10 - nI 1)) ∧ CS n b tc (nI 1) la zs cs mo w') 0 0 := by
  obtain ⟨ch, bn, c, pd, st, fa, o, be, pc, le, sz, wt, qu, kc, tw, mk, ru, ol, re, ms, sp, dy, rfl, hn, hn9, hb, hch, hD, hz⟩ := h
  have hp9 := pow_le9 hn9
  refine AMet.of [(0, .ref 0), (1, .int (nI k)), (2, .int (nI l)), (3, .int y), (4, .int m), (5, .int (nI s))] (by decide +kernel) rfl (Nat.le_of_ble_eq_true rfl) ?_
  refine aw_aload_n 0 D_br_take_0 rfl rfl ?_
  refine aw_iconst (nI 0) D_br_take_1 rfl ?_
  refine aw_put tc_br D_br_take_2 rfl (Nat.le_of_ble_eq_true rfl) rfl rfl ?_
  show AW M_br_take noP _ 0 0 5 _ _ [BR tc (nI 0), RG n (2 ^ n) ch b bn, RI c pd st fa o be pc le sz wt qu, TR kc tw, SH la zs cs, RR mk ru ol re ms sp, mo, dy] _ _
  refine aw_iload_n 1 D_br_take_5 rfl rfl ?_
  refine aw_callS1 (As := [_]) D_br_take_6 kv_br_isSheet (c_br_isSheetT hk) rfl rfl (Nat.le_of_ble_eq_true rfl) (Nat.zero_le _) (Nat.zero_le _) ?_
  refine aw_if_eqN D_br_take_9 (by omega) (fun h => absurd h (by omega)) (fun h => ?_)
  refine aw_aload_n 0 D_br_take_12 rfl rfl ?_
  refine aw_get D_br_take_13 rfl rfl ?_
  refine aw_iload D_br_take_16 rfl ?_
  refine aw_callV1 (As := [_]) D_br_take_18 kv_rg_has (c_rg_hasT hs hp9) rfl rfl rfl rfl rfl (Nat.le_of_ble_eq_true rfl) (Nat.zero_le _) (Nat.zero_le _) ?_
  refine aw_if_neN D_br_take_21 (by omega) (fun h => ?_) (fun h => absurd h (by omega))
  refine aw_iload_n 2 D_br_take_26 rfl rfl ?_
  refine aw_callS1 (As := [_]) D_br_take_27 kv_br_isLane (c_br_isLaneT hl) rfl rfl (Nat.le_of_ble_eq_true rfl) (Nat.zero_le _) (Nat.zero_le _) ?_
  refine aw_if_neN D_br_take_30 (by omega) (fun h => ?_) (fun h => absurd h (by omega))
  refine aw_aload_n 0 D_br_take_36 rfl rfl ?_
  refine aw_get D_br_take_37 rfl rfl ?_
  refine aw_iload_n 1 D_br_take_40 rfl rfl ?_
  refine aw_aaldN D_br_take_41 rfl (by omega) (by omega) (shf_at hk) ?_
  refine aw_astore D_br_take_42 (Nat.le_of_ble_eq_true rfl) rfl ?_
  refine aw_aload D_br_take_44 rfl ?_
  refine aw_iload_n 2 D_br_take_46 rfl rfl ?_
  refine aw_callV1 (As := [_]) D_br_take_47 kv_sh_isOfOtherLane (c_sh_other (sh_obj hk)) rfl rfl (sh_obj hk) rfl rfl (Nat.le_of_ble_eq_true rfl) (Nat.zero_le _) (Nat.zero_le _) ?_
  rw [if_neg (fun q => q.1 hno)]
  refine aw_if_eqN D_br_take_50 (by omega) (fun h => ?_) (fun h => absurd h (by omega))
  refine aw_aload D_br_take_59 rfl ?_
  refine aw_callV1 (As := []) D_br_take_61 kv_sh_isNothing (c_sh_nothing (sh_obj hk)) rfl rfl (sh_obj hk) rfl rfl (Nat.le_of_ble_eq_true rfl) (Nat.zero_le _) (Nat.zero_le _) ?_
  rw [if_pos hno]
  refine aw_if_eqN D_br_take_64 (by omega) (fun h => absurd h (by omega)) (fun h => ?_)
  refine aw_aload_n 0 D_br_take_67 rfl rfl ?_
  refine aw_iconst (nI 1) D_br_take_68 rfl ?_
  refine aw_callV1 (As := [_]) D_br_take_69 kv_br_faulted (c_br_faulted) rfl rfl rfl rfl rfl (Nat.le_of_ble_eq_true rfl) (Nat.zero_le _) (Nat.zero_le _) ?_
  refine aw_ireturn D_br_take_72 rfl rfl ?_
  exact ⟨rfl, ch, bn, c, pd, st, fa, o, be, pc, le, sz, wt, qu, kc, tw, mk, ru, ol, re, ms, sp, dy, rfl, hn, hn9, hb, hch, hD, hz⟩
theorem c_br_takeZ {k s l : Nat} {y m : Int32} (hk : k < 4) (hs : s < 2 ^ n) (hl : l < 3) (hll : la k = nI l) (hm : m < 0) (h : CS n b tc fl la zs cs mo w) : AMet M_br_take [.ref 0, .int (nI k), .int (nI l), .int y, .int m, .int (nI s)] w (fun r' w' => r' = some (.int (-nI 10 - nI 4)) ∧ CS n b tc (nI 4) la zs cs mo w') 0 0 := by
  obtain ⟨ch, bn, c, pd, st, fa, o, be, pc, le, sz, wt, qu, kc, tw, mk, ru, ol, re, ms, sp, dy, rfl, hn, hn9, hb, hch, hD, hz⟩ := h
  have hp9 := pow_le9 hn9
  refine AMet.of [(0, .ref 0), (1, .int (nI k)), (2, .int (nI l)), (3, .int y), (4, .int m), (5, .int (nI s))] (by decide +kernel) rfl (Nat.le_of_ble_eq_true rfl) ?_
  have hzk := hz k
  have hne : la k ≠ -nI 1 := by rw [hll]; exact nI_ne_neg hl
  refine aw_aload_n 0 D_br_take_0 rfl rfl ?_
  refine aw_iconst (nI 0) D_br_take_1 rfl ?_
  refine aw_put tc_br D_br_take_2 rfl (Nat.le_of_ble_eq_true rfl) rfl rfl ?_
  show AW M_br_take noP _ 0 0 5 _ _ [BR tc (nI 0), RG n (2 ^ n) ch b bn, RI c pd st fa o be pc le sz wt qu, TR kc tw, SH la zs cs, RR mk ru ol re ms sp, mo, dy] _ _
  refine aw_iload_n 1 D_br_take_5 rfl rfl ?_
  refine aw_callS1 (As := [_]) D_br_take_6 kv_br_isSheet (c_br_isSheetT hk) rfl rfl (Nat.le_of_ble_eq_true rfl) (Nat.zero_le _) (Nat.zero_le _) ?_
  refine aw_if_eqN D_br_take_9 (by omega) (fun h => absurd h (by omega)) (fun h => ?_)
  refine aw_aload_n 0 D_br_take_12 rfl rfl ?_
  refine aw_get D_br_take_13 rfl rfl ?_
  refine aw_iload D_br_take_16 rfl ?_
  refine aw_callV1 (As := [_]) D_br_take_18 kv_rg_has (c_rg_hasT hs hp9) rfl rfl rfl rfl rfl (Nat.le_of_ble_eq_true rfl) (Nat.zero_le _) (Nat.zero_le _) ?_
  refine aw_if_neN D_br_take_21 (by omega) (fun h => ?_) (fun h => absurd h (by omega))
  refine aw_iload_n 2 D_br_take_26 rfl rfl ?_
  refine aw_callS1 (As := [_]) D_br_take_27 kv_br_isLane (c_br_isLaneT hl) rfl rfl (Nat.le_of_ble_eq_true rfl) (Nat.zero_le _) (Nat.zero_le _) ?_
  refine aw_if_neN D_br_take_30 (by omega) (fun h => ?_) (fun h => absurd h (by omega))
  refine aw_aload_n 0 D_br_take_36 rfl rfl ?_
  refine aw_get D_br_take_37 rfl rfl ?_
  refine aw_iload_n 1 D_br_take_40 rfl rfl ?_
  refine aw_aaldN D_br_take_41 rfl (by omega) (by omega) (shf_at hk) ?_
  refine aw_astore D_br_take_42 (Nat.le_of_ble_eq_true rfl) rfl ?_
  refine aw_aload D_br_take_44 rfl ?_
  refine aw_iload_n 2 D_br_take_46 rfl rfl ?_
  refine aw_callV1 (As := [_]) D_br_take_47 kv_sh_isOfOtherLane (c_sh_other (sh_obj hk)) rfl rfl (sh_obj hk) rfl rfl (Nat.le_of_ble_eq_true rfl) (Nat.zero_le _) (Nat.zero_le _) ?_
  rw [if_neg (fun q => q.2 hll)]
  refine aw_if_eqN D_br_take_50 (by omega) (fun h => ?_) (fun h => absurd h (by omega))
  refine aw_aload D_br_take_59 rfl ?_
  refine aw_callV1 (As := []) D_br_take_61 kv_sh_isNothing (c_sh_nothing (sh_obj hk)) rfl rfl (sh_obj hk) rfl rfl (Nat.le_of_ble_eq_true rfl) (Nat.zero_le _) (Nat.zero_le _) ?_
  rw [if_neg hne]
  refine aw_if_eqN D_br_take_64 (by omega) (fun h => ?_) (fun h => absurd h (by omega))
  refine aw_iload D_br_take_73 rfl ?_
  refine aw_if_ge D_br_take_75 (fun h2 => absurd hm (Int32.not_lt.mpr h2)) (fun h2 => ?_)
  refine aw_aload_n 0 D_br_take_78 rfl rfl ?_
  refine aw_iconst (nI 4) D_br_take_79 rfl ?_
  refine aw_callV1 (As := [_]) D_br_take_80 kv_br_faulted (c_br_faulted) rfl rfl rfl rfl rfl (Nat.le_of_ble_eq_true rfl) (Nat.zero_le _) (Nat.zero_le _) ?_
  refine aw_ireturn D_br_take_83 rfl rfl ?_
  exact ⟨rfl, ch, bn, c, pd, st, fa, o, be, pc, le, sz, wt, qu, kc, tw, mk, ru, ol, re, ms, sp, dy, rfl, hn, hn9, hb, hch, hD, hz⟩
theorem c_br_takeI {k s l m : Nat} {y : Int32} (hk : k < 4) (hs : s < 2 ^ n) (hl : l < 3) (hll : la k = nI l) (hm : m < 2 ^ 31) (hbad : ¬ ∃ i, i + m ≤ zs k ∧ s + m ≤ 2 ^ n ∧ y = nI i) (h : CS n b tc fl la zs cs mo w) : AMet M_br_take [.ref 0, .int (nI k), .int (nI l), .int y, .int (nI m), .int (nI s)] w (fun r' w' => r' = some (.int (-nI 10 - nI 3)) ∧ CS n b tc (nI 3) la zs cs mo w') 0 0 := by
  obtain ⟨ch, bn, c, pd, st, fa, o, be, pc, le, sz, wt, qu, kc, tw, mk, ru, ol, re, ms, sp, dy, rfl, hn, hn9, hb, hch, hD, hz⟩ := h
  have hp9 := pow_le9 hn9
  refine AMet.of [(0, .ref 0), (1, .int (nI k)), (2, .int (nI l)), (3, .int y), (4, .int (nI m)), (5, .int (nI s))] (by decide +kernel) rfl (Nat.le_of_ble_eq_true rfl) ?_
  have hzk := hz k
  have hne : la k ≠ -nI 1 := by rw [hll]; exact nI_ne_neg hl
  refine aw_aload_n 0 D_br_take_0 rfl rfl ?_
  refine aw_iconst (nI 0) D_br_take_1 rfl ?_
  refine aw_put tc_br D_br_take_2 rfl (Nat.le_of_ble_eq_true rfl) rfl rfl ?_
  show AW M_br_take noP _ 0 0 5 _ _ [BR tc (nI 0), RG n (2 ^ n) ch b bn, RI c pd st fa o be pc le sz wt qu, TR kc tw, SH la zs cs, RR mk ru ol re ms sp, mo, dy] _ _
  refine aw_iload_n 1 D_br_take_5 rfl rfl ?_
  refine aw_callS1 (As := [_]) D_br_take_6 kv_br_isSheet (c_br_isSheetT hk) rfl rfl (Nat.le_of_ble_eq_true rfl) (Nat.zero_le _) (Nat.zero_le _) ?_
  refine aw_if_eqN D_br_take_9 (by omega) (fun h => absurd h (by omega)) (fun h => ?_)
  refine aw_aload_n 0 D_br_take_12 rfl rfl ?_
  refine aw_get D_br_take_13 rfl rfl ?_
  refine aw_iload D_br_take_16 rfl ?_
  refine aw_callV1 (As := [_]) D_br_take_18 kv_rg_has (c_rg_hasT hs hp9) rfl rfl rfl rfl rfl (Nat.le_of_ble_eq_true rfl) (Nat.zero_le _) (Nat.zero_le _) ?_
  refine aw_if_neN D_br_take_21 (by omega) (fun h => ?_) (fun h => absurd h (by omega))
  refine aw_iload_n 2 D_br_take_26 rfl rfl ?_
  refine aw_callS1 (As := [_]) D_br_take_27 kv_br_isLane (c_br_isLaneT hl) rfl rfl (Nat.le_of_ble_eq_true rfl) (Nat.zero_le _) (Nat.zero_le _) ?_
  refine aw_if_neN D_br_take_30 (by omega) (fun h => ?_) (fun h => absurd h (by omega))
  refine aw_aload_n 0 D_br_take_36 rfl rfl ?_
  refine aw_get D_br_take_37 rfl rfl ?_
  refine aw_iload_n 1 D_br_take_40 rfl rfl ?_
  refine aw_aaldN D_br_take_41 rfl (by omega) (by omega) (shf_at hk) ?_
  refine aw_astore D_br_take_42 (Nat.le_of_ble_eq_true rfl) rfl ?_
  refine aw_aload D_br_take_44 rfl ?_
  refine aw_iload_n 2 D_br_take_46 rfl rfl ?_
  refine aw_callV1 (As := [_]) D_br_take_47 kv_sh_isOfOtherLane (c_sh_other (sh_obj hk)) rfl rfl (sh_obj hk) rfl rfl (Nat.le_of_ble_eq_true rfl) (Nat.zero_le _) (Nat.zero_le _) ?_
  rw [if_neg (fun q => q.2 hll)]
  refine aw_if_eqN D_br_take_50 (by omega) (fun h => ?_) (fun h => absurd h (by omega))
  refine aw_aload D_br_take_59 rfl ?_
  refine aw_callV1 (As := []) D_br_take_61 kv_sh_isNothing (c_sh_nothing (sh_obj hk)) rfl rfl (sh_obj hk) rfl rfl (Nat.le_of_ble_eq_true rfl) (Nat.zero_le _) (Nat.zero_le _) ?_
  rw [if_neg hne]
  refine aw_if_eqN D_br_take_64 (by omega) (fun h => ?_) (fun h => absurd h (by omega))
  refine aw_iload D_br_take_73 rfl ?_
  refine aw_if_geN D_br_take_75 (by omega) ?_
  refine aw_aload D_br_take_84 rfl ?_
  refine aw_iload_n 3 D_br_take_86 rfl rfl ?_
  refine aw_iload D_br_take_87 rfl ?_
  by_cases hy0 : y < 0
  · refine aw_callV1 (As := [_, _]) D_br_take_89 kv_sh_hasCells (c_sh_hasNeg hy0) rfl rfl (sh_obj hk) rfl rfl (Nat.le_of_ble_eq_true rfl) (Nat.zero_le _) (Nat.zero_le _) ?_
    refine aw_if_eqN D_br_take_92 (by omega) (fun h => ?_) (fun h => absurd h (by omega))
    refine aw_aload_n 0 D_br_take_109 rfl rfl ?_
    refine aw_iconst (nI 3) D_br_take_110 rfl ?_
    refine aw_callV1 (As := [_]) D_br_take_111 kv_br_faulted (c_br_faulted) rfl rfl rfl rfl rfl (Nat.le_of_ble_eq_true rfl) (Nat.zero_le _) (Nat.zero_le _) ?_
    refine aw_ireturn D_br_take_114 rfl rfl ?_
    exact ⟨rfl, ch, bn, c, pd, st, fa, o, be, pc, le, sz, wt, qu, kc, tw, mk, ru, ol, re, ms, sp, dy, rfl, hn, hn9, hb, hch, hD, hz⟩
  · obtain ⟨i, hi, rfl⟩ := nI_of hy0
    refine aw_callV1 (As := [_, _]) D_br_take_89 kv_sh_hasCells (c_sh_hasN (i := i) (k := m) hi hm hzk (sh_obj hk)) rfl rfl (sh_obj hk) rfl rfl (Nat.le_of_ble_eq_true rfl) (Nat.zero_le _) (Nat.zero_le _) ?_
    by_cases him : i + m ≤ zs k
    · rw [if_pos him]
      refine aw_if_eqN D_br_take_92 (by omega) (fun h => absurd h (by omega)) (fun h => ?_)
      refine aw_aload_n 0 D_br_take_95 rfl rfl ?_
      refine aw_get D_br_take_96 rfl rfl ?_
      refine aw_iload D_br_take_99 rfl ?_
      refine aw_iload D_br_take_101 rfl ?_
      refine aw_callV1 (As := [_, _]) D_br_take_103 kv_rg_hasRun (c_rg_hasRun (s := s) (k := m) (by omega) hm hp9) rfl rfl rfl rfl rfl (Nat.le_of_ble_eq_true rfl) (Nat.zero_le _) (Nat.zero_le _) ?_
      rw [if_neg (fun q => hbad ⟨i, him, q, rfl⟩)]
      refine aw_if_neN D_br_take_106 (by omega) (fun h => absurd h (by omega)) (fun h => ?_)
      refine aw_aload_n 0 D_br_take_109 rfl rfl ?_
      refine aw_iconst (nI 3) D_br_take_110 rfl ?_
      refine aw_callV1 (As := [_]) D_br_take_111 kv_br_faulted (c_br_faulted) rfl rfl rfl rfl rfl (Nat.le_of_ble_eq_true rfl) (Nat.zero_le _) (Nat.zero_le _) ?_
      refine aw_ireturn D_br_take_114 rfl rfl ?_
      exact ⟨rfl, ch, bn, c, pd, st, fa, o, be, pc, le, sz, wt, qu, kc, tw, mk, ru, ol, re, ms, sp, dy, rfl, hn, hn9, hb, hch, hD, hz⟩
    · rw [if_neg him]
      refine aw_if_eqN D_br_take_92 (by omega) (fun h => ?_) (fun h => absurd h (by omega))
      refine aw_aload_n 0 D_br_take_109 rfl rfl ?_
      refine aw_iconst (nI 3) D_br_take_110 rfl ?_
      refine aw_callV1 (As := [_]) D_br_take_111 kv_br_faulted (c_br_faulted) rfl rfl rfl rfl rfl (Nat.le_of_ble_eq_true rfl) (Nat.zero_le _) (Nat.zero_le _) ?_
      refine aw_ireturn D_br_take_114 rfl rfl ?_
      exact ⟨rfl, ch, bn, c, pd, st, fa, o, be, pc, le, sz, wt, qu, kc, tw, mk, ru, ol, re, ms, sp, dy, rfl, hn, hn9, hb, hch, hD, hz⟩
theorem c_br_takeT {k s l m i : Nat} (hk : k < 4) (hs : s < 2 ^ n) (hl : l < 3) (hll : la k = nI l) (him : i + m ≤ zs k) (hsm : s + m ≤ 2 ^ n) (h : CS n b tc fl la zs cs mo w) : AMet M_br_take [.ref 0, .int (nI k), .int (nI l), .int (nI i), .int (nI m), .int (nI s)] w (fun r' w' => r' = some (.int (nI m)) ∧ CS n (fb_put b (fun j => bt (cs k (i + j))) s m) tc (nI 0) la zs cs mo w') 0 0 := by
  obtain ⟨ch, bn, c, pd, st, fa, o, be, pc, le, sz, wt, qu, kc, tw, mk, ru, ol, re, ms, sp, dy, rfl, hn, hn9, hb, hch, hD, hz⟩ := h
  have hp9 := pow_le9 hn9
  refine AMet.of [(0, .ref 0), (1, .int (nI k)), (2, .int (nI l)), (3, .int (nI i)), (4, .int (nI m)), (5, .int (nI s))] (by decide +kernel) rfl (Nat.le_of_ble_eq_true rfl) ?_
  have hzk := hz k
  have hne : la k ≠ -nI 1 := by rw [hll]; exact nI_ne_neg hl
  have key : ∀ (d j ch' : Nat), j + d = m → (j = 0 → ch' = ch) → (0 < j → ch' = 1) → AW M_br_take noP (Zp (fun r' w' => r' = some (.int (nI m)) ∧ CS n (fb_put b (fun j => bt (cs k (i + j))) s m) tc (nI 0) la zs cs mo w')) 0 0 118 [(0, .ref 0), (1, .int (nI k)), (2, .int (nI l)), (3, .int (nI i)), (4, .int (nI m)), (5, .int (nI s)), (6, .ref (4 + 32 * k)), (7, .int (nI j))] [] [BR tc (nI 0), RG n (2 ^ n) ch' (fb_put b (fun j => bt (cs k (i + j))) s j) bn, RI c pd st fa o be pc le sz wt qu, TR kc tw, SH la zs cs, RR mk ru ol re ms sp, mo, dy] 0 0 := by
    intro d
    induction d with
    | zero =>
      intro j ch' hj h0 h1
      have hjm : j = m := by omega
      subst hjm
      have hb2 : ∀ t, (fb_put b (fun j => bt (cs k (i + j))) s j) t ≤ 1 := fun t => by unfold fb_put; split; exact bt_le _; exact hb t
      have hch2 : ch' = 1 ∨ ch' = 0 ∧ FT n (fb_put b (fun j => bt (cs k (i + j))) s j) c pd st fa o be pc le sz := by
        rcases Nat.eq_zero_or_pos j with q | q
        · rw [q, fb_put_0, h0 q]; exact hch
        · exact Or.inl (h1 q)
      refine aw_iload D_br_take_118 rfl ?_
      refine aw_iload D_br_take_120 rfl ?_
      refine aw_icmp_geN D_br_take_122 (by omega) (by omega) (fun h => ?_) (fun h => absurd h (by omega))
      refine aw_iload D_br_take_152 rfl ?_
      refine aw_ireturn D_br_take_154 rfl rfl ?_
      exact ⟨rfl, ch', bn, c, pd, st, fa, o, be, pc, le, sz, wt, qu, kc, tw, mk, ru, ol, re, ms, sp, dy, rfl, hn, hn9, hb2, hch2, hD, hz⟩
    | succ d ih =>
      intro j ch' hj h0 h1
      refine aw_iload D_br_take_118 rfl ?_
      refine aw_iload D_br_take_120 rfl ?_
      refine aw_icmp_geN D_br_take_122 (by omega) (by omega) (fun h => absurd h (by omega)) (fun h => ?_)
      refine aw_aload_n 0 D_br_take_125 rfl rfl ?_
      refine aw_get D_br_take_126 rfl rfl ?_
      refine aw_iload D_br_take_129 rfl ?_
      refine aw_iload D_br_take_131 rfl ?_
      first | with_reducible refine aw_iaddN D_br_take_133 ?_ | refine aw_iadd D_br_take_133 ?_
      refine aw_aload D_br_take_134 rfl ?_
      refine aw_iload_n 3 D_br_take_136 rfl rfl ?_
      refine aw_iload D_br_take_137 rfl ?_
      first | with_reducible refine aw_iaddN D_br_take_139 ?_ | refine aw_iadd D_br_take_139 ?_
      refine aw_callV1 (As := [_]) D_br_take_140 kv_sh_bitAt (c_sh_bit (i := i + j) (by omega) (sh_obj hk) (sh_cel hk)) rfl rfl (sh_obj hk) rfl rfl (Nat.le_of_ble_eq_true rfl) (Nat.zero_le _) (Nat.zero_le _) ?_
      refine aw_callVv (As := [_, _]) D_br_take_143 kv_rg_write (c_rg_write (s := s + j) (x := bt (cs k (i + j))) (by omega)) rfl rfl rfl rfl rfl (Nat.le_of_ble_eq_true rfl) (Nat.zero_le _) (Nat.zero_le _) ?_
      rw [show va_up (fb_put b (fun j => bt (cs k (i + j))) s j) (s + j) (bt (cs k (i + j))) = (fb_put b (fun j => bt (cs k (i + j))) s (j + 1)) from put_up _ (fun j => bt (cs k (i + j))) _ _]
      first | refine aw_incN D_br_take_146 rfl (Nat.le_of_ble_eq_true rfl) rfl ?_ | refine aw_inc D_br_take_146 rfl (Nat.le_of_ble_eq_true rfl) rfl ?_
      refine aw_goto D_br_take_149 ?_
      exact ih (j + 1) 1 (by omega) (fun q => absurd q (by omega)) (fun _ => rfl)
  refine aw_aload_n 0 D_br_take_0 rfl rfl ?_
  refine aw_iconst (nI 0) D_br_take_1 rfl ?_
  refine aw_put tc_br D_br_take_2 rfl (Nat.le_of_ble_eq_true rfl) rfl rfl ?_
  show AW M_br_take noP _ 0 0 5 _ _ [BR tc (nI 0), RG n (2 ^ n) ch b bn, RI c pd st fa o be pc le sz wt qu, TR kc tw, SH la zs cs, RR mk ru ol re ms sp, mo, dy] _ _
  refine aw_iload_n 1 D_br_take_5 rfl rfl ?_
  refine aw_callS1 (As := [_]) D_br_take_6 kv_br_isSheet (c_br_isSheetT hk) rfl rfl (Nat.le_of_ble_eq_true rfl) (Nat.zero_le _) (Nat.zero_le _) ?_
  refine aw_if_eqN D_br_take_9 (by omega) (fun h => absurd h (by omega)) (fun h => ?_)
  refine aw_aload_n 0 D_br_take_12 rfl rfl ?_
  refine aw_get D_br_take_13 rfl rfl ?_
  refine aw_iload D_br_take_16 rfl ?_
  refine aw_callV1 (As := [_]) D_br_take_18 kv_rg_has (c_rg_hasT hs hp9) rfl rfl rfl rfl rfl (Nat.le_of_ble_eq_true rfl) (Nat.zero_le _) (Nat.zero_le _) ?_
  refine aw_if_neN D_br_take_21 (by omega) (fun h => ?_) (fun h => absurd h (by omega))
  refine aw_iload_n 2 D_br_take_26 rfl rfl ?_
  refine aw_callS1 (As := [_]) D_br_take_27 kv_br_isLane (c_br_isLaneT hl) rfl rfl (Nat.le_of_ble_eq_true rfl) (Nat.zero_le _) (Nat.zero_le _) ?_
  refine aw_if_neN D_br_take_30 (by omega) (fun h => ?_) (fun h => absurd h (by omega))
  refine aw_aload_n 0 D_br_take_36 rfl rfl ?_
  refine aw_get D_br_take_37 rfl rfl ?_
  refine aw_iload_n 1 D_br_take_40 rfl rfl ?_
  refine aw_aaldN D_br_take_41 rfl (by omega) (by omega) (shf_at hk) ?_
  refine aw_astore D_br_take_42 (Nat.le_of_ble_eq_true rfl) rfl ?_
  refine aw_aload D_br_take_44 rfl ?_
  refine aw_iload_n 2 D_br_take_46 rfl rfl ?_
  refine aw_callV1 (As := [_]) D_br_take_47 kv_sh_isOfOtherLane (c_sh_other (sh_obj hk)) rfl rfl (sh_obj hk) rfl rfl (Nat.le_of_ble_eq_true rfl) (Nat.zero_le _) (Nat.zero_le _) ?_
  rw [if_neg (fun q => q.2 hll)]
  refine aw_if_eqN D_br_take_50 (by omega) (fun h => ?_) (fun h => absurd h (by omega))
  refine aw_aload D_br_take_59 rfl ?_
  refine aw_callV1 (As := []) D_br_take_61 kv_sh_isNothing (c_sh_nothing (sh_obj hk)) rfl rfl (sh_obj hk) rfl rfl (Nat.le_of_ble_eq_true rfl) (Nat.zero_le _) (Nat.zero_le _) ?_
  rw [if_neg hne]
  refine aw_if_eqN D_br_take_64 (by omega) (fun h => ?_) (fun h => absurd h (by omega))
  refine aw_iload D_br_take_73 rfl ?_
  refine aw_if_geN D_br_take_75 (by omega) ?_
  refine aw_aload D_br_take_84 rfl ?_
  refine aw_iload_n 3 D_br_take_86 rfl rfl ?_
  refine aw_iload D_br_take_87 rfl ?_
  refine aw_callV1 (As := [_, _]) D_br_take_89 kv_sh_hasCells (c_sh_hasN (i := i) (k := m) (by omega) (by omega) hzk (sh_obj hk)) rfl rfl (sh_obj hk) rfl rfl (Nat.le_of_ble_eq_true rfl) (Nat.zero_le _) (Nat.zero_le _) ?_
  rw [if_pos him]
  refine aw_if_eqN D_br_take_92 (by omega) (fun h => absurd h (by omega)) (fun h => ?_)
  refine aw_aload_n 0 D_br_take_95 rfl rfl ?_
  refine aw_get D_br_take_96 rfl rfl ?_
  refine aw_iload D_br_take_99 rfl ?_
  refine aw_iload D_br_take_101 rfl ?_
  refine aw_callV1 (As := [_, _]) D_br_take_103 kv_rg_hasRun (c_rg_hasRun (s := s) (k := m) (by omega) (by omega) hp9) rfl rfl rfl rfl rfl (Nat.le_of_ble_eq_true rfl) (Nat.zero_le _) (Nat.zero_le _) ?_
  rw [if_pos hsm]
  refine aw_if_neN D_br_take_106 (by omega) (fun h => ?_) (fun h => absurd h (by omega))
  refine aw_iconst (nI 0) D_br_take_115 rfl ?_
  refine aw_istore D_br_take_116 (Nat.le_of_ble_eq_true rfl) rfl ?_
  have := key m 0 ch (by omega) (fun _ => rfl) (fun q => absurd q (by omega))
  rw [fb_put_0] at this
  exact this
end Br6
