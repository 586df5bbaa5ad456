/-! ### BitRings: the sheets' calls -/
section Br5
variable {n : Nat} {b : Nat → Nat} {tc fl : Int32} {la : Nat → Int32} {zs : Nat → Nat} {cs : Nat → Nat → Int64} {mo : List va_E} {w : Wd}
theorem nI_ne_neg {l : Nat} (h : l < 3) : nI l ≠ -nI 1 := by
  rcases (show l = 0 ∨ l = 1 ∨ l = 2 by omega) with rfl | rfl | rfl <;> decide
theorem c_br_rowU {x : Int32} (hx : ¬ vp_in x 4) (h : CS n b tc fl la zs cs mo w) : AMet M_br_refusedRow [.ref 0, .int x] w (fun r' w' => r' = some (.int (-nI 1)) ∧ CS n b tc (nI 0) la zs cs mo w') 0 0 := by
  obtain ⟨ch, bn, c, pd, st, fa, o, be, pc, le, sz, wt, qu, kc, tw, mk, ru, ol, re, ms, sp, dy, rfl, hn, hn9, hb, hch, hD, hz⟩ := h
  have hp9 := pow_le9 hn9
  refine AMet.of [(0, .ref 0), (1, .int x)] (by decide +kernel) rfl (Nat.le_of_ble_eq_true rfl) ?_
  refine aw_aload_n 0 D_br_refusedRow_0 rfl rfl ?_
  refine aw_iconst (nI 0) D_br_refusedRow_1 rfl ?_
  refine aw_put tc_br D_br_refusedRow_2 rfl (Nat.le_of_ble_eq_true rfl) rfl rfl ?_
  show AW M_br_refusedRow noP _ 0 0 5 _ _ [BR tc (nI 0), RG n (2 ^ n) ch b bn, RI c pd st fa o be pc le sz wt qu, TR kc tw, SH la zs cs, RR mk ru ol re ms sp, mo, dy] _ _
  refine aw_iload_n 1 D_br_refusedRow_5 rfl rfl ?_
  refine aw_callS1 (As := [_]) D_br_refusedRow_6 kv_br_isSheet (c_br_isSheetF hx) rfl rfl (Nat.le_of_ble_eq_true rfl) (Nat.zero_le _) (Nat.zero_le _) ?_
  refine aw_if_neN D_br_refusedRow_9 (by omega) (fun h => absurd h (by omega)) (fun h => ?_)
  refine aw_iconst (-nI 1) D_br_refusedRow_12 rfl ?_
  refine aw_ireturn D_br_refusedRow_13 rfl rfl ?_
  exact ⟨rfl, ch, bn, c, pd, st, fa, o, be, pc, le, sz, wt, qu, kc, tw, mk, ru, ol, re, ms, sp, dy, rfl, hn, hn9, hb, hch, hD, hz⟩
theorem c_br_rowN {k : Nat} (hk : k < 4) (hno : la k = -nI 1) (h : CS n b tc fl la zs cs mo w) : AMet M_br_refusedRow [.ref 0, .int (nI k)] w (fun r' w' => r' = some (.int (-nI 10 - nI 1)) ∧ CS n b tc (nI 1) la zs cs mo w') 0 0 := by
  obtain ⟨ch, bn, c, pd, st, fa, o, be, pc, le, sz, wt, qu, kc, tw, mk, ru, ol, re, ms, sp, dy, rfl, hn, hn9, hb, hch, hD, hz⟩ := h
  have hp9 := pow_le9 hn9
  refine AMet.of [(0, .ref 0), (1, .int (nI k))] (by decide +kernel) rfl (Nat.le_of_ble_eq_true rfl) ?_
  refine aw_aload_n 0 D_br_refusedRow_0 rfl rfl ?_
  refine aw_iconst (nI 0) D_br_refusedRow_1 rfl ?_
  refine aw_put tc_br D_br_refusedRow_2 rfl (Nat.le_of_ble_eq_true rfl) rfl rfl ?_
  show AW M_br_refusedRow noP _ 0 0 5 _ _ [BR tc (nI 0), RG n (2 ^ n) ch b bn, RI c pd st fa o be pc le sz wt qu, TR kc tw, SH la zs cs, RR mk ru ol re ms sp, mo, dy] _ _
  refine aw_iload_n 1 D_br_refusedRow_5 rfl rfl ?_
  refine aw_callS1 (As := [_]) D_br_refusedRow_6 kv_br_isSheet (c_br_isSheetT hk) rfl rfl (Nat.le_of_ble_eq_true rfl) (Nat.zero_le _) (Nat.zero_le _) ?_
  refine aw_if_neN D_br_refusedRow_9 (by omega) (fun h => ?_) (fun h => absurd h (by omega))
  refine aw_aload_n 0 D_br_refusedRow_14 rfl rfl ?_
  refine aw_get D_br_refusedRow_15 rfl rfl ?_
  refine aw_iload_n 1 D_br_refusedRow_18 rfl rfl ?_
  refine aw_aaldN D_br_refusedRow_19 rfl (by omega) (by omega) (shf_at hk) ?_
  refine aw_callV1 (As := []) D_br_refusedRow_20 kv_sh_isNothing (c_sh_nothing (sh_obj hk)) rfl rfl (sh_obj hk) rfl rfl (Nat.le_of_ble_eq_true rfl) (Nat.zero_le _) (Nat.zero_le _) ?_
  rw [if_pos hno]
  refine aw_if_eqN D_br_refusedRow_23 (by omega) (fun h => absurd h (by omega)) (fun h => ?_)
  refine aw_aload_n 0 D_br_refusedRow_26 rfl rfl ?_
  refine aw_iconst (nI 1) D_br_refusedRow_27 rfl ?_
  refine aw_callV1 (As := [_]) D_br_refusedRow_28 kv_br_faulted (c_br_faulted) rfl rfl rfl rfl rfl (Nat.le_of_ble_eq_true rfl) (Nat.zero_le _) (Nat.zero_le _) ?_
  refine aw_goto D_br_refusedRow_31 ?_
  refine aw_ireturn D_br_refusedRow_35 rfl rfl ?_
  exact ⟨rfl, ch, bn, c, pd, st, fa, o, be, pc, le, sz, wt, qu, kc, tw, mk, ru, ol, re, ms, sp, dy, rfl, hn, hn9, hb, hch, hD, hz⟩
theorem c_br_rowT {k : Nat} {rg ri tr rr dy : List va_E} (hk : k < 4) (hne : la k ≠ -nI 1) : AMet M_br_refusedRow [.ref 0, .int (nI k)] [BR tc fl, rg, ri, tr, SH la zs cs, rr, mo, dy] (Ex (some (.int (nI 0))) [BR tc (nI 0), rg, ri, tr, SH la zs cs, rr, mo, dy]) 0 0 := by
  refine AMet.of [(0, .ref 0), (1, .int (nI k))] (by decide +kernel) rfl (Nat.le_of_ble_eq_true rfl) ?_
  refine aw_aload_n 0 D_br_refusedRow_0 rfl rfl ?_
  refine aw_iconst (nI 0) D_br_refusedRow_1 rfl ?_
  refine aw_put tc_br D_br_refusedRow_2 rfl (Nat.le_of_ble_eq_true rfl) rfl rfl ?_
  show AW M_br_refusedRow noP _ 0 0 5 _ _ [BR tc (nI 0), rg, ri, tr, SH la zs cs, rr, mo, dy] _ _
  refine aw_iload_n 1 D_br_refusedRow_5 rfl rfl ?_
  refine aw_callS1 (As := [_]) D_br_refusedRow_6 kv_br_isSheet (c_br_isSheetT hk) rfl rfl (Nat.le_of_ble_eq_true rfl) (Nat.zero_le _) (Nat.zero_le _) ?_
  refine aw_if_neN D_br_refusedRow_9 (by omega) (fun h => ?_) (fun h => absurd h (by omega))
  refine aw_aload_n 0 D_br_refusedRow_14 rfl rfl ?_
  refine aw_get D_br_refusedRow_15 rfl rfl ?_
  refine aw_iload_n 1 D_br_refusedRow_18 rfl rfl ?_
  refine aw_aaldN D_br_refusedRow_19 rfl (by omega) (by omega) (shf_at hk) ?_
  refine aw_callV1 (As := []) D_br_refusedRow_20 kv_sh_isNothing (c_sh_nothing (sh_obj hk)) rfl rfl (sh_obj hk) rfl rfl (Nat.le_of_ble_eq_true rfl) (Nat.zero_le _) (Nat.zero_le _) ?_
  rw [if_neg hne]
  refine aw_if_eqN D_br_refusedRow_23 (by omega) (fun h => ?_) (fun h => absurd h (by omega))
  refine aw_iconst (nI 0) D_br_refusedRow_34 rfl ?_
  refine aw_ireturn D_br_refusedRow_35 rfl rfl ?_
  exact ⟨rfl, rfl⟩
theorem c_br_bitsU {x y : Int32} (hx : ¬ vp_in x 4) (h : CS n b tc fl la zs cs mo w) : AMet M_br_refusedBits [.ref 0, .int x, .int y] w (fun r' w' => r' = some (.int (-nI 1)) ∧ CS n b tc (nI 0) la zs cs mo w') 0 0 := by
  obtain ⟨ch, bn, c, pd, st, fa, o, be, pc, le, sz, wt, qu, kc, tw, mk, ru, ol, re, ms, sp, dy, rfl, hn, hn9, hb, hch, hD, hz⟩ := h
  have hp9 := pow_le9 hn9
  refine AMet.of [(0, .ref 0), (1, .int x), (2, .int y)] (by decide +kernel) rfl (Nat.le_of_ble_eq_true rfl) ?_
  refine aw_aload_n 0 D_br_refusedBits_0 rfl rfl ?_
  refine aw_iload_n 1 D_br_refusedBits_1 rfl rfl ?_
  refine aw_callV (As := [_]) D_br_refusedBits_2 kv_br_refusedRow (c_br_rowU hx ⟨ch, bn, c, pd, st, fa, o, be, pc, le, sz, wt, qu, kc, tw, mk, ru, ol, re, ms, sp, dy, rfl, hn, hn9, hb, hch, hD, hz⟩) rfl rfl rfl rfl rfl (Nat.le_of_ble_eq_true rfl) (Nat.zero_le _) (Nat.zero_le _) (fun r w' hp => ?_)
  obtain ⟨rfl, hp⟩ := hp
  show AW M_br_refusedBits noP _ 0 0 5 _ [.int (-nI 1)] _ _ _
  refine aw_istore_n 3 D_br_refusedBits_5 rfl (Nat.le_of_ble_eq_true rfl) rfl ?_
  refine aw_iload_n 3 D_br_refusedBits_6 rfl rfl ?_
  refine aw_if_eq D_br_refusedBits_7 (fun h => absurd h (by decide)) (fun h => ?_)
  refine aw_iload_n 3 D_br_refusedBits_10 rfl rfl ?_
  refine aw_ireturn D_br_refusedBits_11 rfl rfl ?_
  exact ⟨rfl, hp⟩
theorem c_br_bitsN {k : Nat} {y : Int32} (hk : k < 4) (hno : la k = -nI 1) (h : CS n b tc fl la zs cs mo w) : AMet M_br_refusedBits [.ref 0, .int (nI k), .int y] w (fun r' w' => r' = some (.int (-nI 10 - nI 1)) ∧ CS n b tc (nI 1) la zs cs mo w') 0 0 := by
  obtain ⟨ch, bn, c, pd, st, fa, o, be, pc, le, sz, wt, qu, kc, tw, mk, ru, ol, re, ms, sp, dy, rfl, hn, hn9, hb, hch, hD, hz⟩ := h
  have hp9 := pow_le9 hn9
  refine AMet.of [(0, .ref 0), (1, .int (nI k)), (2, .int y)] (by decide +kernel) rfl (Nat.le_of_ble_eq_true rfl) ?_
  refine aw_aload_n 0 D_br_refusedBits_0 rfl rfl ?_
  refine aw_iload_n 1 D_br_refusedBits_1 rfl rfl ?_
  refine aw_callV (As := [_]) D_br_refusedBits_2 kv_br_refusedRow (c_br_rowN hk hno ⟨ch, bn, c, pd, st, fa, o, be, pc, le, sz, wt, qu, kc, tw, mk, ru, ol, re, ms, sp, dy, rfl, hn, hn9, hb, hch, hD, hz⟩) rfl rfl rfl rfl rfl (Nat.le_of_ble_eq_true rfl) (Nat.zero_le _) (Nat.zero_le _) (fun r w' hp => ?_)
  obtain ⟨rfl, hp⟩ := hp
  show AW M_br_refusedBits noP _ 0 0 5 _ [.int (-nI 10 - nI 1)] _ _ _
  refine aw_istore_n 3 D_br_refusedBits_5 rfl (Nat.le_of_ble_eq_true rfl) rfl ?_
  refine aw_iload_n 3 D_br_refusedBits_6 rfl rfl ?_
  refine aw_if_eq D_br_refusedBits_7 (fun h => absurd h (by decide)) (fun h => ?_)
  refine aw_iload_n 3 D_br_refusedBits_10 rfl rfl ?_
  refine aw_ireturn D_br_refusedBits_11 rfl rfl ?_
  exact ⟨rfl, hp⟩
theorem c_br_bitsI {k : Nat} {y : Int32} (hk : k < 4) (hne : la k ≠ -nI 1) (hy : ¬ ∃ m, m ≤ zs k ∧ y = nI m) (h : CS n b tc fl la zs cs mo w) : AMet M_br_refusedBits [.ref 0, .int (nI k), .int y] w (fun r' w' => r' = some (.int (-nI 10 - nI 3)) ∧ CS n b tc (nI 3) la zs cs mo w') 0 0 := by
  obtain ⟨ch, bn, c, pd, st, fa, o, be, pc, le, sz, wt, qu, kc, tw, mk, ru, ol, re, ms, sp, dy, rfl, hn, hn9, hb, hch, hD, hz⟩ := h
  have hp9 := pow_le9 hn9
  refine AMet.of [(0, .ref 0), (1, .int (nI k)), (2, .int y)] (by decide +kernel) rfl (Nat.le_of_ble_eq_true rfl) ?_
  have hzk := hz k
  refine aw_aload_n 0 D_br_refusedBits_0 rfl rfl ?_
  refine aw_iload_n 1 D_br_refusedBits_1 rfl rfl ?_
  refine aw_callV1 (As := [_]) D_br_refusedBits_2 kv_br_refusedRow (c_br_rowT hk hne) rfl rfl rfl rfl rfl (Nat.le_of_ble_eq_true rfl) (Nat.zero_le _) (Nat.zero_le _) ?_
  refine aw_istore_n 3 D_br_refusedBits_5 rfl (Nat.le_of_ble_eq_true rfl) rfl ?_
  refine aw_iload_n 3 D_br_refusedBits_6 rfl rfl ?_
  refine aw_if_eqN D_br_refusedBits_7 (by omega) (fun h => ?_) (fun h => absurd h (by omega))
  refine aw_iload_n 2 D_br_refusedBits_12 rfl rfl ?_
  refine aw_if_lt D_br_refusedBits_13 (fun h => ?_) (fun h => ?_)
  · refine aw_aload_n 0 D_br_refusedBits_29 rfl rfl ?_
    refine aw_iconst (nI 3) D_br_refusedBits_30 rfl ?_
    refine aw_callV1 (As := [_]) D_br_refusedBits_31 kv_br_faulted (c_br_faulted) rfl rfl rfl rfl rfl (Nat.le_of_ble_eq_true rfl) (Nat.zero_le _) (Nat.zero_le _) ?_
    refine aw_goto D_br_refusedBits_34 ?_
    refine aw_ireturn D_br_refusedBits_38 rfl rfl ?_
    exact ⟨rfl, ch, bn, c, pd, st, fa, o, be, pc, le, sz, wt, qu, kc, tw, mk, ru, ol, re, ms, sp, dy, rfl, hn, hn9, hb, hch, hD, hz⟩
  · refine aw_iload_n 2 D_br_refusedBits_16 rfl rfl ?_
    refine aw_aload_n 0 D_br_refusedBits_17 rfl rfl ?_
    refine aw_get D_br_refusedBits_18 rfl rfl ?_
    refine aw_iload_n 1 D_br_refusedBits_21 rfl rfl ?_
    refine aw_aaldN D_br_refusedBits_22 rfl (by omega) (by omega) (shf_at hk) ?_
    refine aw_get D_br_refusedBits_23 (sh_obj hk) rfl ?_
    refine aw_icmp_le D_br_refusedBits_26 (fun h2 => ?_) (fun h2 => ?_)
    · exfalso
      obtain ⟨j, hj, rfl⟩ := nI_of h
      rw [nI_leI hj (by omega)] at h2
      exact hy ⟨j, h2, rfl⟩
    · refine aw_aload_n 0 D_br_refusedBits_29 rfl rfl ?_
      refine aw_iconst (nI 3) D_br_refusedBits_30 rfl ?_
      refine aw_callV1 (As := [_]) D_br_refusedBits_31 kv_br_faulted (c_br_faulted) rfl rfl rfl rfl rfl (Nat.le_of_ble_eq_true rfl) (Nat.zero_le _) (Nat.zero_le _) ?_
      refine aw_goto D_br_refusedBits_34 ?_
      refine aw_ireturn D_br_refusedBits_38 rfl rfl ?_
      exact ⟨rfl, ch, bn, c, pd, st, fa, o, be, pc, le, sz, wt, qu, kc, tw, mk, ru, ol, re, ms, sp, dy, rfl, hn, hn9, hb, hch, hD, hz⟩
theorem c_br_bitsT {k m : Nat} {rg ri tr rr dy : List va_E} (hk : k < 4) (hne : la k ≠ -nI 1) (hzk : zs k ≤ 600) (hm : m ≤ zs k) : AMet M_br_refusedBits [.ref 0, .int (nI k), .int (nI m)] [BR tc fl, rg, ri, tr, SH la zs cs, rr, mo, dy] (Ex (some (.int (nI 0))) [BR tc (nI 0), rg, ri, tr, SH la zs cs, rr, mo, dy]) 0 0 := by
  refine AMet.of [(0, .ref 0), (1, .int (nI k)), (2, .int (nI m))] (by decide +kernel) rfl (Nat.le_of_ble_eq_true rfl) ?_
  refine aw_aload_n 0 D_br_refusedBits_0 rfl rfl ?_
  refine aw_iload_n 1 D_br_refusedBits_1 rfl rfl ?_
  refine aw_callV1 (As := [_]) D_br_refusedBits_2 kv_br_refusedRow (c_br_rowT hk hne) rfl rfl rfl rfl rfl (Nat.le_of_ble_eq_true rfl) (Nat.zero_le _) (Nat.zero_le _) ?_
  refine aw_istore_n 3 D_br_refusedBits_5 rfl (Nat.le_of_ble_eq_true rfl) rfl ?_
  refine aw_iload_n 3 D_br_refusedBits_6 rfl rfl ?_
  refine aw_if_eqN D_br_refusedBits_7 (by omega) (fun h => ?_) (fun h => absurd h (by omega))
  refine aw_iload_n 2 D_br_refusedBits_12 rfl rfl ?_
  refine aw_if_ltN D_br_refusedBits_13 (by omega) ?_
  refine aw_iload_n 2 D_br_refusedBits_16 rfl rfl ?_
  refine aw_aload_n 0 D_br_refusedBits_17 rfl rfl ?_
  refine aw_get D_br_refusedBits_18 rfl rfl ?_
  refine aw_iload_n 1 D_br_refusedBits_21 rfl rfl ?_
  refine aw_aaldN D_br_refusedBits_22 rfl (by omega) (by omega) (shf_at hk) ?_
  refine aw_get D_br_refusedBits_23 (sh_obj hk) rfl ?_
  refine aw_icmp_leN D_br_refusedBits_26 (by omega) (by omega) (fun h => ?_) (fun h => absurd h (by omega))
  refine aw_iconst (nI 0) D_br_refusedBits_37 rfl ?_
  refine aw_ireturn D_br_refusedBits_38 rfl rfl ?_
  exact ⟨rfl, rfl⟩
theorem c_br_sheetU {x y z : Int32} (hx : ¬ vp_in x 4) (h : CS n b tc fl la zs cs mo w) : AMet M_br_sheet [.ref 0, .int x, .int y, .int z] w (fun r' w' => r' = some (.int (-nI 1)) ∧ CS n b tc (nI 0) la zs cs mo w') 0 0 := by
  obtain ⟨ch, bn, c, pd, st, fa, o, be, pc, le, sz, wt, qu, kc, tw, mk, ru, ol, re, ms, sp, dy, rfl, hn, hn9, hb, hch, hD, hz⟩ := h
  have hp9 := pow_le9 hn9
  refine AMet.of [(0, .ref 0), (1, .int x), (2, .int y), (3, .int z)] (by decide +kernel) rfl (Nat.le_of_ble_eq_true rfl) ?_
  refine aw_aload_n 0 D_br_sheet_0 rfl rfl ?_
  refine aw_iconst (nI 0) D_br_sheet_1 rfl ?_
  refine aw_put tc_br D_br_sheet_2 rfl (Nat.le_of_ble_eq_true rfl) rfl rfl ?_
  show AW M_br_sheet noP _ 0 0 5 _ _ [BR tc (nI 0), RG n (2 ^ n) ch b bn, RI c pd st fa o be pc le sz wt qu, TR kc tw, SH la zs cs, RR mk ru ol re ms sp, mo, dy] _ _
  refine aw_iload_n 1 D_br_sheet_5 rfl rfl ?_
  refine aw_callS1 (As := [_]) D_br_sheet_6 kv_br_isSheet (c_br_isSheetF hx) rfl rfl (Nat.le_of_ble_eq_true rfl) (Nat.zero_le _) (Nat.zero_le _) ?_
  refine aw_if_neN D_br_sheet_9 (by omega) (fun h => absurd h (by omega)) (fun h => ?_)
  refine aw_iconst (-nI 1) D_br_sheet_12 rfl ?_
  refine aw_ireturn D_br_sheet_13 rfl rfl ?_
  exact ⟨rfl, ch, bn, c, pd, st, fa, o, be, pc, le, sz, wt, qu, kc, tw, mk, ru, ol, re, ms, sp, dy, rfl, hn, hn9, hb, hch, hD, hz⟩
theorem c_br_sheetO {k : Nat} {y z : Int32} (hk : k < 4) (hy : ¬ vp_in y 3 ∨ nI 600 < z) (h : CS n b tc fl la zs cs mo w) : AMet M_br_sheet [.ref 0, .int (nI k), .int y, .int z] w (fun r' w' => r' = some (.int (-nI 2)) ∧ CS n b tc (nI 0) la zs cs mo w') 0 0 := by
  obtain ⟨ch, bn, c, pd, st, fa, o, be, pc, le, sz, wt, qu, kc, tw, mk, ru, ol, re, ms, sp, dy, rfl, hn, hn9, hb, hch, hD, hz⟩ := h
  have hp9 := pow_le9 hn9
  refine AMet.of [(0, .ref 0), (1, .int (nI k)), (2, .int y), (3, .int z)] (by decide +kernel) rfl (Nat.le_of_ble_eq_true rfl) ?_
  refine aw_aload_n 0 D_br_sheet_0 rfl rfl ?_
  refine aw_iconst (nI 0) D_br_sheet_1 rfl ?_
  refine aw_put tc_br D_br_sheet_2 rfl (Nat.le_of_ble_eq_true rfl) rfl rfl ?_
  show AW M_br_sheet noP _ 0 0 5 _ _ [BR tc (nI 0), RG n (2 ^ n) ch b bn, RI c pd st fa o be pc le sz wt qu, TR kc tw, SH la zs cs, RR mk ru ol re ms sp, mo, dy] _ _
  refine aw_iload_n 1 D_br_sheet_5 rfl rfl ?_
  refine aw_callS1 (As := [_]) D_br_sheet_6 kv_br_isSheet (c_br_isSheetT hk) rfl rfl (Nat.le_of_ble_eq_true rfl) (Nat.zero_le _) (Nat.zero_le _) ?_
  refine aw_if_neN D_br_sheet_9 (by omega) (fun h => ?_) (fun h => absurd h (by omega))
  refine aw_iload_n 2 D_br_sheet_14 rfl rfl ?_
  by_cases hl : vp_in y 3
  · obtain ⟨l, hl3, rfl⟩ := vp_in_of hl (by decide)
    refine aw_callS1 (As := [_]) D_br_sheet_15 kv_br_isLane (c_br_isLaneT hl3) rfl rfl (Nat.le_of_ble_eq_true rfl) (Nat.zero_le _) (Nat.zero_le _) ?_
    refine aw_if_eqN D_br_sheet_18 (by omega) (fun h => absurd h (by omega)) (fun h => ?_)
    refine aw_iload_n 3 D_br_sheet_21 rfl rfl ?_
    refine aw_sipush (nI 600) D_br_sheet_22 rfl ?_
    refine aw_icmp_le D_br_sheet_25 (fun h2 => absurd (hy.resolve_left (fun q => q hl)) (Int32.not_lt.mpr h2)) (fun h2 => ?_)
    refine aw_bipush (-nI 2) D_br_sheet_28 rfl ?_
    refine aw_ireturn D_br_sheet_30 rfl rfl ?_
    exact ⟨rfl, ch, bn, c, pd, st, fa, o, be, pc, le, sz, wt, qu, kc, tw, mk, ru, ol, re, ms, sp, dy, rfl, hn, hn9, hb, hch, hD, hz⟩
  · refine aw_callS1 (As := [_]) D_br_sheet_15 kv_br_isLane (c_br_isLaneF hl) rfl rfl (Nat.le_of_ble_eq_true rfl) (Nat.zero_le _) (Nat.zero_le _) ?_
    refine aw_if_eqN D_br_sheet_18 (by omega) (fun h => ?_) (fun h => absurd h (by omega))
    refine aw_bipush (-nI 2) D_br_sheet_28 rfl ?_
    refine aw_ireturn D_br_sheet_30 rfl rfl ?_
    exact ⟨rfl, ch, bn, c, pd, st, fa, o, be, pc, le, sz, wt, qu, kc, tw, mk, ru, ol, re, ms, sp, dy, rfl, hn, hn9, hb, hch, hD, hz⟩
theorem c_br_sheetZ {k l : Nat} {z : Int32} (hk : k < 4) (hl : l < 3) (hz0 : z < 0) (h : CS n b tc fl la zs cs mo w) : AMet M_br_sheet [.ref 0, .int (nI k), .int (nI l), .int z] w (fun r' w' => r' = some (.int (-nI 10 - nI 4)) ∧ CS n b tc (nI 4) la zs cs mo w') 0 0 := by
  obtain ⟨ch, bn, c, pd, st, fa, o, be, pc, le, sz, wt, qu, kc, tw, mk, ru, ol, re, ms, sp, dy, rfl, hn, hn9, hb, hch, hD, hz⟩ := h
  have hp9 := pow_le9 hn9
  refine AMet.of [(0, .ref 0), (1, .int (nI k)), (2, .int (nI l)), (3, .int z)] (by decide +kernel) rfl (Nat.le_of_ble_eq_true rfl) ?_
  refine aw_aload_n 0 D_br_sheet_0 rfl rfl ?_
  refine aw_iconst (nI 0) D_br_sheet_1 rfl ?_
  refine aw_put tc_br D_br_sheet_2 rfl (Nat.le_of_ble_eq_true rfl) rfl rfl ?_
  show AW M_br_sheet noP _ 0 0 5 _ _ [BR tc (nI 0), RG n (2 ^ n) ch b bn, RI c pd st fa o be pc le sz wt qu, TR kc tw, SH la zs cs, RR mk ru ol re ms sp, mo, dy] _ _
  refine aw_iload_n 1 D_br_sheet_5 rfl rfl ?_
  refine aw_callS1 (As := [_]) D_br_sheet_6 kv_br_isSheet (c_br_isSheetT hk) rfl rfl (Nat.le_of_ble_eq_true rfl) (Nat.zero_le _) (Nat.zero_le _) ?_
  refine aw_if_neN D_br_sheet_9 (by omega) (fun h => ?_) (fun h => absurd h (by omega))
  refine aw_iload_n 2 D_br_sheet_14 rfl rfl ?_
  refine aw_callS1 (As := [_]) D_br_sheet_15 kv_br_isLane (c_br_isLaneT hl) rfl rfl (Nat.le_of_ble_eq_true rfl) (Nat.zero_le _) (Nat.zero_le _) ?_
  refine aw_if_eqN D_br_sheet_18 (by omega) (fun h => absurd h (by omega)) (fun h => ?_)
  refine aw_iload_n 3 D_br_sheet_21 rfl rfl ?_
  refine aw_sipush (nI 600) D_br_sheet_22 rfl ?_
  refine aw_icmp_le D_br_sheet_25 (fun h2 => ?_) (fun h2 => absurd (Int32.le_of_lt (Int32.lt_of_lt_of_le hz0 (by decide))) h2)
  refine aw_iload_n 3 D_br_sheet_31 rfl rfl ?_
  refine aw_if_ge D_br_sheet_32 (fun h2 => absurd hz0 (Int32.not_lt.mpr h2)) (fun h2 => ?_)
  refine aw_aload_n 0 D_br_sheet_35 rfl rfl ?_
  refine aw_iconst (nI 4) D_br_sheet_36 rfl ?_
  refine aw_callV1 (As := [_]) D_br_sheet_37 kv_br_faulted (c_br_faulted) rfl rfl rfl rfl rfl (Nat.le_of_ble_eq_true rfl) (Nat.zero_le _) (Nat.zero_le _) ?_
  refine aw_ireturn D_br_sheet_40 rfl rfl ?_
  exact ⟨rfl, ch, bn, c, pd, st, fa, o, be, pc, le, sz, wt, qu, kc, tw, mk, ru, ol, re, ms, sp, dy, rfl, hn, hn9, hb, hch, hD, hz⟩
theorem c_br_sheetT {k l m : Nat} (hk : k < 4) (hl : l < 3) (hm : m ≤ 600) (h : CS n b tc fl la zs cs mo w) : AMet M_br_sheet [.ref 0, .int (nI k), .int (nI l), .int (nI m)] w (fun r' w' => r' = some (.int (nI 1)) ∧ CS n b tc (nI 0) (va_up la k (nI l)) (va_up zs k m) (va_up cs k (fun _ => 0)) mo w') 0 0 := by
  obtain ⟨ch, bn, c, pd, st, fa, o, be, pc, le, sz, wt, qu, kc, tw, mk, ru, ol, re, ms, sp, dy, rfl, hn, hn9, hb, hch, hD, hz⟩ := h
  have hp9 := pow_le9 hn9
  refine AMet.of [(0, .ref 0), (1, .int (nI k)), (2, .int (nI l)), (3, .int (nI m))] (by decide +kernel) rfl (Nat.le_of_ble_eq_true rfl) ?_
  refine aw_aload_n 0 D_br_sheet_0 rfl rfl ?_
  refine aw_iconst (nI 0) D_br_sheet_1 rfl ?_
  refine aw_put tc_br D_br_sheet_2 rfl (Nat.le_of_ble_eq_true rfl) rfl rfl ?_
  show AW M_br_sheet noP _ 0 0 5 _ _ [BR tc (nI 0), RG n (2 ^ n) ch b bn, RI c pd st fa o be pc le sz wt qu, TR kc tw, SH la zs cs, RR mk ru ol re ms sp, mo, dy] _ _
  refine aw_iload_n 1 D_br_sheet_5 rfl rfl ?_
  refine aw_callS1 (As := [_]) D_br_sheet_6 kv_br_isSheet (c_br_isSheetT hk) rfl rfl (Nat.le_of_ble_eq_true rfl) (Nat.zero_le _) (Nat.zero_le _) ?_
  refine aw_if_neN D_br_sheet_9 (by omega) (fun h => ?_) (fun h => absurd h (by omega))
  refine aw_iload_n 2 D_br_sheet_14 rfl rfl ?_
  refine aw_callS1 (As := [_]) D_br_sheet_15 kv_br_isLane (c_br_isLaneT hl) rfl rfl (Nat.le_of_ble_eq_true rfl) (Nat.zero_le _) (Nat.zero_le _) ?_
  refine aw_if_eqN D_br_sheet_18 (by omega) (fun h => absurd h (by omega)) (fun h => ?_)
  refine aw_iload_n 3 D_br_sheet_21 rfl rfl ?_
  refine aw_sipush (nI 600) D_br_sheet_22 rfl ?_
  refine aw_icmp_leN D_br_sheet_25 (by omega) (by omega) (fun h => ?_) (fun h => absurd h (by omega))
  refine aw_iload_n 3 D_br_sheet_31 rfl rfl ?_
  refine aw_if_geN D_br_sheet_32 (by omega) ?_
  refine aw_aload_n 0 D_br_sheet_41 rfl rfl ?_
  refine aw_get D_br_sheet_42 rfl rfl ?_
  refine aw_iload_n 1 D_br_sheet_45 rfl rfl ?_
  refine aw_aaldN D_br_sheet_46 rfl (by omega) (by omega) (shf_at hk) ?_
  refine aw_iload_n 2 D_br_sheet_47 rfl rfl ?_
  refine aw_iload_n 3 D_br_sheet_48 rfl rfl ?_
  refine aw_callVv (As := [_, _]) D_br_sheet_49 kv_sh_renew (c_sh_renew (k := m) (by omega) (sh_obj hk) (sh_cel hk)) rfl rfl (sh_obj hk) rfl rfl (Nat.le_of_ble_eq_true rfl) (Nat.zero_le _) (Nat.zero_le _) ?_
  rw [sh_ob_up hk, sh_ce_up hk]
  refine aw_iconst (nI 1) D_br_sheet_52 rfl ?_
  refine aw_ireturn D_br_sheet_53 rfl rfl ?_
  exact ⟨rfl, ch, bn, c, pd, st, fa, o, be, pc, le, sz, wt, qu, kc, tw, mk, ru, ol, re, ms, sp, dy, rfl, hn, hn9, hb, hch, hD, up_le hz hm⟩
theorem c_br_loseU {x : Int32} (hx : ¬ vp_in x 4) : AMet M_br_lose [.ref 0, .int x] w (Ex (some (.int (-nI 1))) w) 0 0 := by
  refine AMet.of [(0, .ref 0), (1, .int x)] (by decide +kernel) rfl (Nat.le_of_ble_eq_true rfl) ?_
  refine aw_iload_n 1 D_br_lose_0 rfl rfl ?_
  refine aw_callS1 (As := [_]) D_br_lose_1 kv_br_isSheet (c_br_isSheetF hx) rfl rfl (Nat.le_of_ble_eq_true rfl) (Nat.zero_le _) (Nat.zero_le _) ?_
  refine aw_if_neN D_br_lose_4 (by omega) (fun h => absurd h (by omega)) (fun h => ?_)
  refine aw_iconst (-nI 1) D_br_lose_7 rfl ?_
  refine aw_ireturn D_br_lose_8 rfl rfl ?_
  exact ⟨rfl, rfl⟩
theorem c_br_loseN {k : Nat} (hk : k < 4) (hno : la k = -nI 1) (h : CS n b tc fl la zs cs mo w) : AMet M_br_lose [.ref 0, .int (nI k)] w (fun r' w' => r' = some (.int (nI 0)) ∧ CS n b tc fl (va_up la k (-nI 1)) (va_up zs k 0) cs mo w') 0 0 := by
  obtain ⟨ch, bn, c, pd, st, fa, o, be, pc, le, sz, wt, qu, kc, tw, mk, ru, ol, re, ms, sp, dy, rfl, hn, hn9, hb, hch, hD, hz⟩ := h
  have hp9 := pow_le9 hn9
  refine AMet.of [(0, .ref 0), (1, .int (nI k))] (by decide +kernel) rfl (Nat.le_of_ble_eq_true rfl) ?_
  refine aw_iload_n 1 D_br_lose_0 rfl rfl ?_
  refine aw_callS1 (As := [_]) D_br_lose_1 kv_br_isSheet (c_br_isSheetT hk) rfl rfl (Nat.le_of_ble_eq_true rfl) (Nat.zero_le _) (Nat.zero_le _) ?_
  refine aw_if_neN D_br_lose_4 (by omega) (fun h => ?_) (fun h => absurd h (by omega))
  refine aw_aload_n 0 D_br_lose_9 rfl rfl ?_
  refine aw_get D_br_lose_10 rfl rfl ?_
  refine aw_iload_n 1 D_br_lose_13 rfl rfl ?_
  refine aw_aaldN D_br_lose_14 rfl (by omega) (by omega) (shf_at hk) ?_
  refine aw_callV1 (As := []) D_br_lose_15 kv_sh_isNothing (c_sh_nothing (sh_obj hk)) rfl rfl (sh_obj hk) rfl rfl (Nat.le_of_ble_eq_true rfl) (Nat.zero_le _) (Nat.zero_le _) ?_
  rw [if_pos hno]
  refine aw_if_eqN D_br_lose_18 (by omega) (fun h => absurd h (by omega)) (fun h => ?_)
  refine aw_iconst (nI 0) D_br_lose_21 rfl ?_
  refine aw_goto D_br_lose_22 ?_
  refine aw_istore_n 2 D_br_lose_26 rfl (Nat.le_of_ble_eq_true rfl) rfl ?_
  refine aw_aload_n 0 D_br_lose_27 rfl rfl ?_
  refine aw_get D_br_lose_28 rfl rfl ?_
  refine aw_iload_n 1 D_br_lose_31 rfl rfl ?_
  refine aw_aaldN D_br_lose_32 rfl (by omega) (by omega) (shf_at hk) ?_
  refine aw_callVv (As := []) D_br_lose_33 kv_sh_drop (c_sh_drop (sh_obj hk)) rfl rfl (sh_obj hk) rfl rfl (Nat.le_of_ble_eq_true rfl) (Nat.zero_le _) (Nat.zero_le _) ?_
  rw [sh_ob_up hk]
  refine aw_iload_n 2 D_br_lose_36 rfl rfl ?_
  refine aw_ireturn D_br_lose_37 rfl rfl ?_
  exact ⟨rfl, ch, bn, c, pd, st, fa, o, be, pc, le, sz, wt, qu, kc, tw, mk, ru, ol, re, ms, sp, dy, rfl, hn, hn9, hb, hch, hD, up_le hz (Nat.zero_le _)⟩
theorem c_br_loseT {k : Nat} (hk : k < 4) (hne : la k ≠ -nI 1) (h : CS n b tc fl la zs cs mo w) : AMet M_br_lose [.ref 0, .int (nI k)] w (fun r' w' => r' = some (.int (nI 1)) ∧ CS n b tc fl (va_up la k (-nI 1)) (va_up zs k 0) cs mo w') 0 0 := by
  obtain ⟨ch, bn, c, pd, st, fa, o, be, pc, le, sz, wt, qu, kc, tw, mk, ru, ol, re, ms, sp, dy, rfl, hn, hn9, hb, hch, hD, hz⟩ := h
  have hp9 := pow_le9 hn9
  refine AMet.of [(0, .ref 0), (1, .int (nI k))] (by decide +kernel) rfl (Nat.le_of_ble_eq_true rfl) ?_
  refine aw_iload_n 1 D_br_lose_0 rfl rfl ?_
  refine aw_callS1 (As := [_]) D_br_lose_1 kv_br_isSheet (c_br_isSheetT hk) rfl rfl (Nat.le_of_ble_eq_true rfl) (Nat.zero_le _) (Nat.zero_le _) ?_
  refine aw_if_neN D_br_lose_4 (by omega) (fun h => ?_) (fun h => absurd h (by omega))
  refine aw_aload_n 0 D_br_lose_9 rfl rfl ?_
  refine aw_get D_br_lose_10 rfl rfl ?_
  refine aw_iload_n 1 D_br_lose_13 rfl rfl ?_
  refine aw_aaldN D_br_lose_14 rfl (by omega) (by omega) (shf_at hk) ?_
  refine aw_callV1 (As := []) D_br_lose_15 kv_sh_isNothing (c_sh_nothing (sh_obj hk)) rfl rfl (sh_obj hk) rfl rfl (Nat.le_of_ble_eq_true rfl) (Nat.zero_le _) (Nat.zero_le _) ?_
  rw [if_neg hne]
  refine aw_if_eqN D_br_lose_18 (by omega) (fun h => ?_) (fun h => absurd h (by omega))
  refine aw_iconst (nI 1) D_br_lose_25 rfl ?_
  refine aw_istore_n 2 D_br_lose_26 rfl (Nat.le_of_ble_eq_true rfl) rfl ?_
  refine aw_aload_n 0 D_br_lose_27 rfl rfl ?_
  refine aw_get D_br_lose_28 rfl rfl ?_
  refine aw_iload_n 1 D_br_lose_31 rfl rfl ?_
  refine aw_aaldN D_br_lose_32 rfl (by omega) (by omega) (shf_at hk) ?_
  refine aw_callVv (As := []) D_br_lose_33 kv_sh_drop (c_sh_drop (sh_obj hk)) rfl rfl (sh_obj hk) rfl rfl (Nat.le_of_ble_eq_true rfl) (Nat.zero_le _) (Nat.zero_le _) ?_
  rw [sh_ob_up hk]
  refine aw_iload_n 2 D_br_lose_36 rfl rfl ?_
  refine aw_ireturn D_br_lose_37 rfl rfl ?_
  exact ⟨rfl, ch, bn, c, pd, st, fa, o, be, pc, le, sz, wt, qu, kc, tw, mk, ru, ol, re, ms, sp, dy, rfl, hn, hn9, hb, hch, hD, up_le hz (Nat.zero_le _)⟩
theorem c_br_putU {x y : Int32} {v : Int64} (hx : ¬ vp_in x 4) (h : CS n b tc fl la zs cs mo w) : AMet M_br_put [.ref 0, .int x, .int y, .long v] w (fun r' w' => r' = some (.int (-nI 1)) ∧ CS n b tc (nI 0) la zs cs mo w') 0 0 := by
  obtain ⟨ch, bn, c, pd, st, fa, o, be, pc, le, sz, wt, qu, kc, tw, mk, ru, ol, re, ms, sp, dy, rfl, hn, hn9, hb, hch, hD, hz⟩ := h
  have hp9 := pow_le9 hn9
  refine AMet.of [(0, .ref 0), (1, .int x), (2, .int y), (3, .long v)] (by decide +kernel) rfl (Nat.le_of_ble_eq_true rfl) ?_
  refine aw_aload_n 0 D_br_put_0 rfl rfl ?_
  refine aw_iconst (nI 0) D_br_put_1 rfl ?_
  refine aw_put tc_br D_br_put_2 rfl (Nat.le_of_ble_eq_true rfl) rfl rfl ?_
  show AW M_br_put noP _ 0 0 5 _ _ [BR tc (nI 0), RG n (2 ^ n) ch b bn, RI c pd st fa o be pc le sz wt qu, TR kc tw, SH la zs cs, RR mk ru ol re ms sp, mo, dy] _ _
  refine aw_iload_n 1 D_br_put_5 rfl rfl ?_
  refine aw_callS1 (As := [_]) D_br_put_6 kv_br_isSheet (c_br_isSheetF hx) rfl rfl (Nat.le_of_ble_eq_true rfl) (Nat.zero_le _) (Nat.zero_le _) ?_
  refine aw_if_neN D_br_put_9 (by omega) (fun h => absurd h (by omega)) (fun h => ?_)
  refine aw_iconst (-nI 1) D_br_put_12 rfl ?_
  refine aw_ireturn D_br_put_13 rfl rfl ?_
  exact ⟨rfl, ch, bn, c, pd, st, fa, o, be, pc, le, sz, wt, qu, kc, tw, mk, ru, ol, re, ms, sp, dy, rfl, hn, hn9, hb, hch, hD, hz⟩
theorem c_br_putN {k : Nat} {y : Int32} {v : Int64} (hk : k < 4) (hno : la k = -nI 1) (h : CS n b tc fl la zs cs mo w) : AMet M_br_put [.ref 0, .int (nI k), .int y, .long v] w (fun r' w' => r' = some (.int (-nI 10 - nI 1)) ∧ CS n b tc (nI 1) la zs cs mo w') 0 0 := by
  obtain ⟨ch, bn, c, pd, st, fa, o, be, pc, le, sz, wt, qu, kc, tw, mk, ru, ol, re, ms, sp, dy, rfl, hn, hn9, hb, hch, hD, hz⟩ := h
  have hp9 := pow_le9 hn9
  refine AMet.of [(0, .ref 0), (1, .int (nI k)), (2, .int y), (3, .long v)] (by decide +kernel) rfl (Nat.le_of_ble_eq_true rfl) ?_
  refine aw_aload_n 0 D_br_put_0 rfl rfl ?_
  refine aw_iconst (nI 0) D_br_put_1 rfl ?_
  refine aw_put tc_br D_br_put_2 rfl (Nat.le_of_ble_eq_true rfl) rfl rfl ?_
  show AW M_br_put noP _ 0 0 5 _ _ [BR tc (nI 0), RG n (2 ^ n) ch b bn, RI c pd st fa o be pc le sz wt qu, TR kc tw, SH la zs cs, RR mk ru ol re ms sp, mo, dy] _ _
  refine aw_iload_n 1 D_br_put_5 rfl rfl ?_
  refine aw_callS1 (As := [_]) D_br_put_6 kv_br_isSheet (c_br_isSheetT hk) rfl rfl (Nat.le_of_ble_eq_true rfl) (Nat.zero_le _) (Nat.zero_le _) ?_
  refine aw_if_neN D_br_put_9 (by omega) (fun h => ?_) (fun h => absurd h (by omega))
  refine aw_aload_n 0 D_br_put_14 rfl rfl ?_
  refine aw_get D_br_put_15 rfl rfl ?_
  refine aw_iload_n 1 D_br_put_18 rfl rfl ?_
  refine aw_aaldN D_br_put_19 rfl (by omega) (by omega) (shf_at hk) ?_
  refine aw_astore D_br_put_20 (Nat.le_of_ble_eq_true rfl) rfl ?_
  refine aw_aload D_br_put_22 rfl ?_
  refine aw_callV1 (As := []) D_br_put_24 kv_sh_isNothing (c_sh_nothing (sh_obj hk)) rfl rfl (sh_obj hk) rfl rfl (Nat.le_of_ble_eq_true rfl) (Nat.zero_le _) (Nat.zero_le _) ?_
  rw [if_pos hno]
  refine aw_if_eqN D_br_put_27 (by omega) (fun h => absurd h (by omega)) (fun h => ?_)
  refine aw_aload_n 0 D_br_put_30 rfl rfl ?_
  refine aw_iconst (nI 1) D_br_put_31 rfl ?_
  refine aw_callV1 (As := [_]) D_br_put_32 kv_br_faulted (c_br_faulted) rfl rfl rfl rfl rfl (Nat.le_of_ble_eq_true rfl) (Nat.zero_le _) (Nat.zero_le _) ?_
  refine aw_ireturn D_br_put_35 rfl rfl ?_
  exact ⟨rfl, ch, bn, c, pd, st, fa, o, be, pc, le, sz, wt, qu, kc, tw, mk, ru, ol, re, ms, sp, dy, rfl, hn, hn9, hb, hch, hD, hz⟩
theorem c_br_putI {k : Nat} {y : Int32} {v : Int64} (hk : k < 4) (hne : la k ≠ -nI 1) (hy : ¬ vp_in y (zs k)) (h : CS n b tc fl la zs cs mo w) : AMet M_br_put [.ref 0, .int (nI k), .int y, .long v] w (fun r' w' => r' = some (.int (-nI 10 - nI 3)) ∧ CS n b tc (nI 3) la zs cs mo w') 0 0 := by
  obtain ⟨ch, bn, c, pd, st, fa, o, be, pc, le, sz, wt, qu, kc, tw, mk, ru, ol, re, ms, sp, dy, rfl, hn, hn9, hb, hch, hD, hz⟩ := h
  have hp9 := pow_le9 hn9
  refine AMet.of [(0, .ref 0), (1, .int (nI k)), (2, .int y), (3, .long v)] (by decide +kernel) rfl (Nat.le_of_ble_eq_true rfl) ?_
  have hzk := hz k
  refine aw_aload_n 0 D_br_put_0 rfl rfl ?_
  refine aw_iconst (nI 0) D_br_put_1 rfl ?_
  refine aw_put tc_br D_br_put_2 rfl (Nat.le_of_ble_eq_true rfl) rfl rfl ?_
  show AW M_br_put noP _ 0 0 5 _ _ [BR tc (nI 0), RG n (2 ^ n) ch b bn, RI c pd st fa o be pc le sz wt qu, TR kc tw, SH la zs cs, RR mk ru ol re ms sp, mo, dy] _ _
  refine aw_iload_n 1 D_br_put_5 rfl rfl ?_
  refine aw_callS1 (As := [_]) D_br_put_6 kv_br_isSheet (c_br_isSheetT hk) rfl rfl (Nat.le_of_ble_eq_true rfl) (Nat.zero_le _) (Nat.zero_le _) ?_
  refine aw_if_neN D_br_put_9 (by omega) (fun h => ?_) (fun h => absurd h (by omega))
  refine aw_aload_n 0 D_br_put_14 rfl rfl ?_
  refine aw_get D_br_put_15 rfl rfl ?_
  refine aw_iload_n 1 D_br_put_18 rfl rfl ?_
  refine aw_aaldN D_br_put_19 rfl (by omega) (by omega) (shf_at hk) ?_
  refine aw_astore D_br_put_20 (Nat.le_of_ble_eq_true rfl) rfl ?_
  refine aw_aload D_br_put_22 rfl ?_
  refine aw_callV1 (As := []) D_br_put_24 kv_sh_isNothing (c_sh_nothing (sh_obj hk)) rfl rfl (sh_obj hk) rfl rfl (Nat.le_of_ble_eq_true rfl) (Nat.zero_le _) (Nat.zero_le _) ?_
  rw [if_neg hne]
  refine aw_if_eqN D_br_put_27 (by omega) (fun h => ?_) (fun h => absurd h (by omega))
  refine aw_aload D_br_put_36 rfl ?_
  refine aw_iload_n 2 D_br_put_38 rfl rfl ?_
  refine aw_iconst (nI 1) D_br_put_39 rfl ?_
  by_cases hy0 : y < 0
  · refine aw_callV1 (As := [_, _]) D_br_put_40 kv_sh_hasCells (c_sh_hasNeg hy0) rfl rfl (sh_obj hk) rfl rfl (Nat.le_of_ble_eq_true rfl) (Nat.zero_le _) (Nat.zero_le _) ?_
    refine aw_if_neN D_br_put_43 (by omega) (fun h => absurd h (by omega)) (fun h => ?_)
    refine aw_aload_n 0 D_br_put_46 rfl rfl ?_
    refine aw_iconst (nI 3) D_br_put_47 rfl ?_
    refine aw_callV1 (As := [_]) D_br_put_48 kv_br_faulted (c_br_faulted) rfl rfl rfl rfl rfl (Nat.le_of_ble_eq_true rfl) (Nat.zero_le _) (Nat.zero_le _) ?_
    refine aw_ireturn D_br_put_51 rfl rfl ?_
    exact ⟨rfl, ch, bn, c, pd, st, fa, o, be, pc, le, sz, wt, qu, kc, tw, mk, ru, ol, re, ms, sp, dy, rfl, hn, hn9, hb, hch, hD, hz⟩
  · obtain ⟨j, hj, rfl⟩ := nI_of hy0
    have hjz : zs k ≤ j := Nat.le_of_not_lt (fun q => hy (vp_in_nI q (by omega)))
    refine aw_callV1 (As := [_, _]) D_br_put_40 kv_sh_hasCells (c_sh_hasN (k := 1) hj (by omega) hzk (sh_obj hk)) rfl rfl (sh_obj hk) rfl rfl (Nat.le_of_ble_eq_true rfl) (Nat.zero_le _) (Nat.zero_le _) ?_
    rw [if_neg (by omega)]
    refine aw_if_neN D_br_put_43 (by omega) (fun h => absurd h (by omega)) (fun h => ?_)
    refine aw_aload_n 0 D_br_put_46 rfl rfl ?_
    refine aw_iconst (nI 3) D_br_put_47 rfl ?_
    refine aw_callV1 (As := [_]) D_br_put_48 kv_br_faulted (c_br_faulted) rfl rfl rfl rfl rfl (Nat.le_of_ble_eq_true rfl) (Nat.zero_le _) (Nat.zero_le _) ?_
    refine aw_ireturn D_br_put_51 rfl rfl ?_
    exact ⟨rfl, ch, bn, c, pd, st, fa, o, be, pc, le, sz, wt, qu, kc, tw, mk, ru, ol, re, ms, sp, dy, rfl, hn, hn9, hb, hch, hD, hz⟩
theorem c_br_putT {k i : Nat} {v : Int64} (hk : k < 4) (hne : la k ≠ -nI 1) (hi : i < zs k) (h : CS n b tc fl la zs cs mo w) : AMet M_br_put [.ref 0, .int (nI k), .int (nI i), .long v] w (fun r' w' => r' = some (.int (nI 1)) ∧ CS n b tc (nI 0) la zs (va_up cs k (va_up (cs k) i (cut (la k) v))) mo w') 0 0 := by
  obtain ⟨ch, bn, c, pd, st, fa, o, be, pc, le, sz, wt, qu, kc, tw, mk, ru, ol, re, ms, sp, dy, rfl, hn, hn9, hb, hch, hD, hz⟩ := h
  have hp9 := pow_le9 hn9
  refine AMet.of [(0, .ref 0), (1, .int (nI k)), (2, .int (nI i)), (3, .long v)] (by decide +kernel) rfl (Nat.le_of_ble_eq_true rfl) ?_
  have hzk := hz k
  refine aw_aload_n 0 D_br_put_0 rfl rfl ?_
  refine aw_iconst (nI 0) D_br_put_1 rfl ?_
  refine aw_put tc_br D_br_put_2 rfl (Nat.le_of_ble_eq_true rfl) rfl rfl ?_
  show AW M_br_put noP _ 0 0 5 _ _ [BR tc (nI 0), RG n (2 ^ n) ch b bn, RI c pd st fa o be pc le sz wt qu, TR kc tw, SH la zs cs, RR mk ru ol re ms sp, mo, dy] _ _
  refine aw_iload_n 1 D_br_put_5 rfl rfl ?_
  refine aw_callS1 (As := [_]) D_br_put_6 kv_br_isSheet (c_br_isSheetT hk) rfl rfl (Nat.le_of_ble_eq_true rfl) (Nat.zero_le _) (Nat.zero_le _) ?_
  refine aw_if_neN D_br_put_9 (by omega) (fun h => ?_) (fun h => absurd h (by omega))
  refine aw_aload_n 0 D_br_put_14 rfl rfl ?_
  refine aw_get D_br_put_15 rfl rfl ?_
  refine aw_iload_n 1 D_br_put_18 rfl rfl ?_
  refine aw_aaldN D_br_put_19 rfl (by omega) (by omega) (shf_at hk) ?_
  refine aw_astore D_br_put_20 (Nat.le_of_ble_eq_true rfl) rfl ?_
  refine aw_aload D_br_put_22 rfl ?_
  refine aw_callV1 (As := []) D_br_put_24 kv_sh_isNothing (c_sh_nothing (sh_obj hk)) rfl rfl (sh_obj hk) rfl rfl (Nat.le_of_ble_eq_true rfl) (Nat.zero_le _) (Nat.zero_le _) ?_
  rw [if_neg hne]
  refine aw_if_eqN D_br_put_27 (by omega) (fun h => ?_) (fun h => absurd h (by omega))
  refine aw_aload D_br_put_36 rfl ?_
  refine aw_iload_n 2 D_br_put_38 rfl rfl ?_
  refine aw_iconst (nI 1) D_br_put_39 rfl ?_
  refine aw_callV1 (As := [_, _]) D_br_put_40 kv_sh_hasCells (c_sh_hasN (i := i) (k := 1) (by omega) (by omega) hzk (sh_obj hk)) rfl rfl (sh_obj hk) rfl rfl (Nat.le_of_ble_eq_true rfl) (Nat.zero_le _) (Nat.zero_le _) ?_
  rw [if_pos (by omega)]
  refine aw_if_neN D_br_put_43 (by omega) (fun h => ?_) (fun h => absurd h (by omega))
  refine aw_aload D_br_put_52 rfl ?_
  refine aw_iload_n 2 D_br_put_54 rfl rfl ?_
  refine aw_lload_n 3 D_br_put_55 rfl rfl ?_
  refine aw_callVv (As := [_, _]) D_br_put_56 kv_sh_write (c_sh_write (i := i) (v := v) (by omega) (sh_obj hk) (sh_cel hk)) rfl rfl (sh_obj hk) rfl rfl (Nat.le_of_ble_eq_true rfl) (Nat.zero_le _) (Nat.zero_le _) ?_
  rw [sh_ce_up hk]
  refine aw_iconst (nI 1) D_br_put_59 rfl ?_
  refine aw_ireturn D_br_put_60 rfl rfl ?_
  exact ⟨rfl, ch, bn, c, pd, st, fa, o, be, pc, le, sz, wt, qu, kc, tw, mk, ru, ol, re, ms, sp, dy, rfl, hn, hn9, hb, hch, hD, hz⟩
theorem c_br_atU {x y z : Int32} (hx : ¬ vp_in x 4 ∨ ¬ vp_in z 3) (h : CS n b tc fl la zs cs mo w) : AMet M_br_at [.ref 0, .int x, .int y, .int z] w (fun r' w' => r' = some (.long (-9223372036854775808)) ∧ CS n b tc (nI 0) la zs cs mo w') 0 0 := by
  obtain ⟨ch, bn, c, pd, st, fa, o, be, pc, le, sz, wt, qu, kc, tw, mk, ru, ol, re, ms, sp, dy, rfl, hn, hn9, hb, hch, hD, hz⟩ := h
  have hp9 := pow_le9 hn9
  refine AMet.of [(0, .ref 0), (1, .int x), (2, .int y), (3, .int z)] (by decide +kernel) rfl (Nat.le_of_ble_eq_true rfl) ?_
  refine aw_aload_n 0 D_br_at_0 rfl rfl ?_
  refine aw_iconst (nI 0) D_br_at_1 rfl ?_
  refine aw_put tc_br D_br_at_2 rfl (Nat.le_of_ble_eq_true rfl) rfl rfl ?_
  show AW M_br_at noP _ 0 0 5 _ _ [BR tc (nI 0), RG n (2 ^ n) ch b bn, RI c pd st fa o be pc le sz wt qu, TR kc tw, SH la zs cs, RR mk ru ol re ms sp, mo, dy] _ _
  refine aw_iload_n 1 D_br_at_5 rfl rfl ?_
  by_cases h1 : vp_in x 4
  · obtain ⟨k, hk, rfl⟩ := vp_in_of h1 (by decide)
    refine aw_callS1 (As := [_]) D_br_at_6 kv_br_isSheet (c_br_isSheetT hk) rfl rfl (Nat.le_of_ble_eq_true rfl) (Nat.zero_le _) (Nat.zero_le _) ?_
    refine aw_if_eqN D_br_at_9 (by omega) (fun h => absurd h (by omega)) (fun h => ?_)
    refine aw_iload_n 3 D_br_at_12 rfl rfl ?_
    refine aw_callS1 (As := [_]) D_br_at_13 kv_br_isLane (c_br_isLaneF (hx.resolve_left (fun q => q h1))) rfl rfl (Nat.le_of_ble_eq_true rfl) (Nat.zero_le _) (Nat.zero_le _) ?_
    refine aw_if_neN D_br_at_16 (by omega) (fun h => absurd h (by omega)) (fun h => ?_)
    refine aw_ldc2 D_br_at_19 ?_
    refine aw_lreturn D_br_at_22 rfl ?_
    exact ⟨rfl, ch, bn, c, pd, st, fa, o, be, pc, le, sz, wt, qu, kc, tw, mk, ru, ol, re, ms, sp, dy, rfl, hn, hn9, hb, hch, hD, hz⟩
  · refine aw_callS1 (As := [_]) D_br_at_6 kv_br_isSheet (c_br_isSheetF h1) rfl rfl (Nat.le_of_ble_eq_true rfl) (Nat.zero_le _) (Nat.zero_le _) ?_
    refine aw_if_eqN D_br_at_9 (by omega) (fun h => ?_) (fun h => absurd h (by omega))
    refine aw_ldc2 D_br_at_19 ?_
    refine aw_lreturn D_br_at_22 rfl ?_
    exact ⟨rfl, ch, bn, c, pd, st, fa, o, be, pc, le, sz, wt, qu, kc, tw, mk, ru, ol, re, ms, sp, dy, rfl, hn, hn9, hb, hch, hD, hz⟩
theorem c_br_atC {k l : Nat} {y : Int32} (hk : k < 4) (hl : l < 3) (hne : la k ≠ -nI 1) (hc : la k ≠ nI l) (h : CS n b tc fl la zs cs mo w) : AMet M_br_at [.ref 0, .int (nI k), .int y, .int (nI l)] w (fun r' w' => r' = some (.long (-9223372036854775808)) ∧ CS n b tc (nI 2) la zs cs mo w') 0 0 := by
  obtain ⟨ch, bn, c, pd, st, fa, o, be, pc, le, sz, wt, qu, kc, tw, mk, ru, ol, re, ms, sp, dy, rfl, hn, hn9, hb, hch, hD, hz⟩ := h
  have hp9 := pow_le9 hn9
  refine AMet.of [(0, .ref 0), (1, .int (nI k)), (2, .int y), (3, .int (nI l))] (by decide +kernel) rfl (Nat.le_of_ble_eq_true rfl) ?_
  refine aw_aload_n 0 D_br_at_0 rfl rfl ?_
  refine aw_iconst (nI 0) D_br_at_1 rfl ?_
  refine aw_put tc_br D_br_at_2 rfl (Nat.le_of_ble_eq_true rfl) rfl rfl ?_
  show AW M_br_at noP _ 0 0 5 _ _ [BR tc (nI 0), RG n (2 ^ n) ch b bn, RI c pd st fa o be pc le sz wt qu, TR kc tw, SH la zs cs, RR mk ru ol re ms sp, mo, dy] _ _
  refine aw_iload_n 1 D_br_at_5 rfl rfl ?_
  refine aw_callS1 (As := [_]) D_br_at_6 kv_br_isSheet (c_br_isSheetT hk) rfl rfl (Nat.le_of_ble_eq_true rfl) (Nat.zero_le _) (Nat.zero_le _) ?_
  refine aw_if_eqN D_br_at_9 (by omega) (fun h => absurd h (by omega)) (fun h => ?_)
  refine aw_iload_n 3 D_br_at_12 rfl rfl ?_
  refine aw_callS1 (As := [_]) D_br_at_13 kv_br_isLane (c_br_isLaneT hl) rfl rfl (Nat.le_of_ble_eq_true rfl) (Nat.zero_le _) (Nat.zero_le _) ?_
  refine aw_if_neN D_br_at_16 (by omega) (fun h => ?_) (fun h => absurd h (by omega))
  refine aw_aload_n 0 D_br_at_23 rfl rfl ?_
  refine aw_get D_br_at_24 rfl rfl ?_
  refine aw_iload_n 1 D_br_at_27 rfl rfl ?_
  refine aw_aaldN D_br_at_28 rfl (by omega) (by omega) (shf_at hk) ?_
  refine aw_astore D_br_at_29 (Nat.le_of_ble_eq_true rfl) rfl ?_
  refine aw_aload D_br_at_31 rfl ?_
  refine aw_iload_n 3 D_br_at_33 rfl rfl ?_
  refine aw_callV1 (As := [_]) D_br_at_34 kv_sh_isOfOtherLane (c_sh_other (sh_obj hk)) rfl rfl (sh_obj hk) rfl rfl (Nat.le_of_ble_eq_true rfl) (Nat.zero_le _) (Nat.zero_le _) ?_
  rw [if_pos ⟨hne, hc⟩]
  refine aw_if_eqN D_br_at_37 (by omega) (fun h => absurd h (by omega)) (fun h => ?_)
  refine aw_aload_n 0 D_br_at_40 rfl rfl ?_
  refine aw_iconst (nI 2) D_br_at_41 rfl ?_
  refine aw_put tc_br D_br_at_42 rfl (Nat.le_of_ble_eq_true rfl) rfl rfl ?_
  refine aw_goto D_br_at_45 ?_
  show AW M_br_at noP _ 0 0 79 _ _ [BR tc (nI 2), RG n (2 ^ n) ch b bn, RI c pd st fa o be pc le sz wt qu, TR kc tw, SH la zs cs, RR mk ru ol re ms sp, mo, dy] _ _
  refine aw_aload_n 0 D_br_at_79 rfl rfl ?_
  refine aw_get D_br_at_80 rfl rfl ?_
  refine aw_if_neN D_br_at_83 (by omega) (fun h => ?_) (fun h => absurd h (by omega))
  refine aw_ldc2 D_br_at_96 ?_
  refine aw_lreturn D_br_at_99 rfl ?_
  exact ⟨rfl, ch, bn, c, pd, st, fa, o, be, pc, le, sz, wt, qu, kc, tw, mk, ru, ol, re, ms, sp, dy, rfl, hn, hn9, hb, hch, hD, hz⟩
theorem c_br_atN {k l : Nat} {y : Int32} (hk : k < 4) (hl : l < 3) (hno : la k = -nI 1) (h : CS n b tc fl la zs cs mo w) : AMet M_br_at [.ref 0, .int (nI k), .int y, .int (nI l)] w (fun r' w' => r' = some (.long (-9223372036854775808)) ∧ CS n b tc (nI 1) la zs cs mo w') 0 0 := by
  obtain ⟨ch, bn, c, pd, st, fa, o, be, pc, le, sz, wt, qu, kc, tw, mk, ru, ol, re, ms, sp, dy, rfl, hn, hn9, hb, hch, hD, hz⟩ := h
  have hp9 := pow_le9 hn9
  refine AMet.of [(0, .ref 0), (1, .int (nI k)), (2, .int y), (3, .int (nI l))] (by decide +kernel) rfl (Nat.le_of_ble_eq_true rfl) ?_
  refine aw_aload_n 0 D_br_at_0 rfl rfl ?_
  refine aw_iconst (nI 0) D_br_at_1 rfl ?_
  refine aw_put tc_br D_br_at_2 rfl (Nat.le_of_ble_eq_true rfl) rfl rfl ?_
  show AW M_br_at noP _ 0 0 5 _ _ [BR tc (nI 0), RG n (2 ^ n) ch b bn, RI c pd st fa o be pc le sz wt qu, TR kc tw, SH la zs cs, RR mk ru ol re ms sp, mo, dy] _ _
  refine aw_iload_n 1 D_br_at_5 rfl rfl ?_
  refine aw_callS1 (As := [_]) D_br_at_6 kv_br_isSheet (c_br_isSheetT hk) rfl rfl (Nat.le_of_ble_eq_true rfl) (Nat.zero_le _) (Nat.zero_le _) ?_
  refine aw_if_eqN D_br_at_9 (by omega) (fun h => absurd h (by omega)) (fun h => ?_)
  refine aw_iload_n 3 D_br_at_12 rfl rfl ?_
  refine aw_callS1 (As := [_]) D_br_at_13 kv_br_isLane (c_br_isLaneT hl) rfl rfl (Nat.le_of_ble_eq_true rfl) (Nat.zero_le _) (Nat.zero_le _) ?_
  refine aw_if_neN D_br_at_16 (by omega) (fun h => ?_) (fun h => absurd h (by omega))
  refine aw_aload_n 0 D_br_at_23 rfl rfl ?_
  refine aw_get D_br_at_24 rfl rfl ?_
  refine aw_iload_n 1 D_br_at_27 rfl rfl ?_
  refine aw_aaldN D_br_at_28 rfl (by omega) (by omega) (shf_at hk) ?_
  refine aw_astore D_br_at_29 (Nat.le_of_ble_eq_true rfl) rfl ?_
  refine aw_aload D_br_at_31 rfl ?_
  refine aw_iload_n 3 D_br_at_33 rfl rfl ?_
  refine aw_callV1 (As := [_]) D_br_at_34 kv_sh_isOfOtherLane (c_sh_other (sh_obj hk)) rfl rfl (sh_obj hk) rfl rfl (Nat.le_of_ble_eq_true rfl) (Nat.zero_le _) (Nat.zero_le _) ?_
  rw [if_neg (fun q => q.1 hno)]
  refine aw_if_eqN D_br_at_37 (by omega) (fun h => ?_) (fun h => absurd h (by omega))
  refine aw_aload D_br_at_48 rfl ?_
  refine aw_callV1 (As := []) D_br_at_50 kv_sh_isNothing (c_sh_nothing (sh_obj hk)) rfl rfl (sh_obj hk) rfl rfl (Nat.le_of_ble_eq_true rfl) (Nat.zero_le _) (Nat.zero_le _) ?_
  rw [if_pos hno]
  refine aw_if_eqN D_br_at_53 (by omega) (fun h => absurd h (by omega)) (fun h => ?_)
  refine aw_aload_n 0 D_br_at_56 rfl rfl ?_
  refine aw_iconst (nI 1) D_br_at_57 rfl ?_
  refine aw_put tc_br D_br_at_58 rfl (Nat.le_of_ble_eq_true rfl) rfl rfl ?_
  refine aw_goto D_br_at_61 ?_
  show AW M_br_at noP _ 0 0 79 _ _ [BR tc (nI 1), RG n (2 ^ n) ch b bn, RI c pd st fa o be pc le sz wt qu, TR kc tw, SH la zs cs, RR mk ru ol re ms sp, mo, dy] _ _
  refine aw_aload_n 0 D_br_at_79 rfl rfl ?_
  refine aw_get D_br_at_80 rfl rfl ?_
  refine aw_if_neN D_br_at_83 (by omega) (fun h => ?_) (fun h => absurd h (by omega))
  refine aw_ldc2 D_br_at_96 ?_
  refine aw_lreturn D_br_at_99 rfl ?_
  exact ⟨rfl, ch, bn, c, pd, st, fa, o, be, pc, le, sz, wt, qu, kc, tw, mk, ru, ol, re, ms, sp, dy, rfl, hn, hn9, hb, hch, hD, hz⟩
theorem c_br_atI {k l : Nat} {y : Int32} (hk : k < 4) (hl : l < 3) (hll : la k = nI l) (hy : ¬ vp_in y (zs k)) (h : CS n b tc fl la zs cs mo w) : AMet M_br_at [.ref 0, .int (nI k), .int y, .int (nI l)] w (fun r' w' => r' = some (.long (-9223372036854775808)) ∧ CS n b tc (nI 3) la zs cs mo w') 0 0 := by
  obtain ⟨ch, bn, c, pd, st, fa, o, be, pc, le, sz, wt, qu, kc, tw, mk, ru, ol, re, ms, sp, dy, rfl, hn, hn9, hb, hch, hD, hz⟩ := h
  have hp9 := pow_le9 hn9
  refine AMet.of [(0, .ref 0), (1, .int (nI k)), (2, .int y), (3, .int (nI l))] (by decide +kernel) rfl (Nat.le_of_ble_eq_true rfl) ?_
  have hzk := hz k
  have hne : la k ≠ -nI 1 := by rw [hll]; exact nI_ne_neg hl
  refine aw_aload_n 0 D_br_at_0 rfl rfl ?_
  refine aw_iconst (nI 0) D_br_at_1 rfl ?_
  refine aw_put tc_br D_br_at_2 rfl (Nat.le_of_ble_eq_true rfl) rfl rfl ?_
  show AW M_br_at noP _ 0 0 5 _ _ [BR tc (nI 0), RG n (2 ^ n) ch b bn, RI c pd st fa o be pc le sz wt qu, TR kc tw, SH la zs cs, RR mk ru ol re ms sp, mo, dy] _ _
  refine aw_iload_n 1 D_br_at_5 rfl rfl ?_
  refine aw_callS1 (As := [_]) D_br_at_6 kv_br_isSheet (c_br_isSheetT hk) rfl rfl (Nat.le_of_ble_eq_true rfl) (Nat.zero_le _) (Nat.zero_le _) ?_
  refine aw_if_eqN D_br_at_9 (by omega) (fun h => absurd h (by omega)) (fun h => ?_)
  refine aw_iload_n 3 D_br_at_12 rfl rfl ?_
  refine aw_callS1 (As := [_]) D_br_at_13 kv_br_isLane (c_br_isLaneT hl) rfl rfl (Nat.le_of_ble_eq_true rfl) (Nat.zero_le _) (Nat.zero_le _) ?_
  refine aw_if_neN D_br_at_16 (by omega) (fun h => ?_) (fun h => absurd h (by omega))
  refine aw_aload_n 0 D_br_at_23 rfl rfl ?_
  refine aw_get D_br_at_24 rfl rfl ?_
  refine aw_iload_n 1 D_br_at_27 rfl rfl ?_
  refine aw_aaldN D_br_at_28 rfl (by omega) (by omega) (shf_at hk) ?_
  refine aw_astore D_br_at_29 (Nat.le_of_ble_eq_true rfl) rfl ?_
  refine aw_aload D_br_at_31 rfl ?_
  refine aw_iload_n 3 D_br_at_33 rfl rfl ?_
  refine aw_callV1 (As := [_]) D_br_at_34 kv_sh_isOfOtherLane (c_sh_other (sh_obj hk)) rfl rfl (sh_obj hk) rfl rfl (Nat.le_of_ble_eq_true rfl) (Nat.zero_le _) (Nat.zero_le _) ?_
  rw [if_neg (fun q => q.2 hll)]
  refine aw_if_eqN D_br_at_37 (by omega) (fun h => ?_) (fun h => absurd h (by omega))
  refine aw_aload D_br_at_48 rfl ?_
  refine aw_callV1 (As := []) D_br_at_50 kv_sh_isNothing (c_sh_nothing (sh_obj hk)) rfl rfl (sh_obj hk) rfl rfl (Nat.le_of_ble_eq_true rfl) (Nat.zero_le _) (Nat.zero_le _) ?_
  rw [if_neg hne]
  refine aw_if_eqN D_br_at_53 (by omega) (fun h => ?_) (fun h => absurd h (by omega))
  refine aw_aload D_br_at_64 rfl ?_
  refine aw_iload_n 2 D_br_at_66 rfl rfl ?_
  refine aw_iconst (nI 1) D_br_at_67 rfl ?_
  by_cases hy0 : y < 0
  · refine aw_callV1 (As := [_, _]) D_br_at_68 kv_sh_hasCells (c_sh_hasNeg hy0) rfl rfl (sh_obj hk) rfl rfl (Nat.le_of_ble_eq_true rfl) (Nat.zero_le _) (Nat.zero_le _) ?_
    refine aw_if_neN D_br_at_71 (by omega) (fun h => absurd h (by omega)) (fun h => ?_)
    refine aw_aload_n 0 D_br_at_74 rfl rfl ?_
    refine aw_iconst (nI 3) D_br_at_75 rfl ?_
    refine aw_put tc_br D_br_at_76 rfl (Nat.le_of_ble_eq_true rfl) rfl rfl ?_
    show AW M_br_at noP _ 0 0 79 _ _ [BR tc (nI 3), RG n (2 ^ n) ch b bn, RI c pd st fa o be pc le sz wt qu, TR kc tw, SH la zs cs, RR mk ru ol re ms sp, mo, dy] _ _
    refine aw_aload_n 0 D_br_at_79 rfl rfl ?_
    refine aw_get D_br_at_80 rfl rfl ?_
    refine aw_if_neN D_br_at_83 (by omega) (fun h => ?_) (fun h => absurd h (by omega))
    refine aw_ldc2 D_br_at_96 ?_
    refine aw_lreturn D_br_at_99 rfl ?_
    exact ⟨rfl, ch, bn, c, pd, st, fa, o, be, pc, le, sz, wt, qu, kc, tw, mk, ru, ol, re, ms, sp, dy, rfl, hn, hn9, hb, hch, hD, hz⟩
  · obtain ⟨j, hj, rfl⟩ := nI_of hy0
    have hjz : zs k ≤ j := Nat.le_of_not_lt (fun q => hy (vp_in_nI q (by omega)))
    refine aw_callV1 (As := [_, _]) D_br_at_68 kv_sh_hasCells (c_sh_hasN (k := 1) hj (by omega) hzk (sh_obj hk)) rfl rfl (sh_obj hk) rfl rfl (Nat.le_of_ble_eq_true rfl) (Nat.zero_le _) (Nat.zero_le _) ?_
    rw [if_neg (by omega)]
    refine aw_if_neN D_br_at_71 (by omega) (fun h => absurd h (by omega)) (fun h => ?_)
    refine aw_aload_n 0 D_br_at_74 rfl rfl ?_
    refine aw_iconst (nI 3) D_br_at_75 rfl ?_
    refine aw_put tc_br D_br_at_76 rfl (Nat.le_of_ble_eq_true rfl) rfl rfl ?_
    show AW M_br_at noP _ 0 0 79 _ _ [BR tc (nI 3), RG n (2 ^ n) ch b bn, RI c pd st fa o be pc le sz wt qu, TR kc tw, SH la zs cs, RR mk ru ol re ms sp, mo, dy] _ _
    refine aw_aload_n 0 D_br_at_79 rfl rfl ?_
    refine aw_get D_br_at_80 rfl rfl ?_
    refine aw_if_neN D_br_at_83 (by omega) (fun h => ?_) (fun h => absurd h (by omega))
    refine aw_ldc2 D_br_at_96 ?_
    refine aw_lreturn D_br_at_99 rfl ?_
    exact ⟨rfl, ch, bn, c, pd, st, fa, o, be, pc, le, sz, wt, qu, kc, tw, mk, ru, ol, re, ms, sp, dy, rfl, hn, hn9, hb, hch, hD, hz⟩
theorem c_br_atT {k l i : Nat} (hk : k < 4) (hl : l < 3) (hll : la k = nI l) (hi : i < zs k) (h : CS n b tc fl la zs cs mo w) : AMet M_br_at [.ref 0, .int (nI k), .int (nI i), .int (nI l)] w (fun r' w' => r' = some (.long (cs k i)) ∧ CS n b tc (nI 0) la zs cs mo w') 0 0 := by
  obtain ⟨ch, bn, c, pd, st, fa, o, be, pc, le, sz, wt, qu, kc, tw, mk, ru, ol, re, ms, sp, dy, rfl, hn, hn9, hb, hch, hD, hz⟩ := h
  have hp9 := pow_le9 hn9
  refine AMet.of [(0, .ref 0), (1, .int (nI k)), (2, .int (nI i)), (3, .int (nI l))] (by decide +kernel) rfl (Nat.le_of_ble_eq_true rfl) ?_
  have hzk := hz k
  have hne : la k ≠ -nI 1 := by rw [hll]; exact nI_ne_neg hl
  refine aw_aload_n 0 D_br_at_0 rfl rfl ?_
  refine aw_iconst (nI 0) D_br_at_1 rfl ?_
  refine aw_put tc_br D_br_at_2 rfl (Nat.le_of_ble_eq_true rfl) rfl rfl ?_
  show AW M_br_at noP _ 0 0 5 _ _ [BR tc (nI 0), RG n (2 ^ n) ch b bn, RI c pd st fa o be pc le sz wt qu, TR kc tw, SH la zs cs, RR mk ru ol re ms sp, mo, dy] _ _
  refine aw_iload_n 1 D_br_at_5 rfl rfl ?_
  refine aw_callS1 (As := [_]) D_br_at_6 kv_br_isSheet (c_br_isSheetT hk) rfl rfl (Nat.le_of_ble_eq_true rfl) (Nat.zero_le _) (Nat.zero_le _) ?_
  refine aw_if_eqN D_br_at_9 (by omega) (fun h => absurd h (by omega)) (fun h => ?_)
  refine aw_iload_n 3 D_br_at_12 rfl rfl ?_
  refine aw_callS1 (As := [_]) D_br_at_13 kv_br_isLane (c_br_isLaneT hl) rfl rfl (Nat.le_of_ble_eq_true rfl) (Nat.zero_le _) (Nat.zero_le _) ?_
  refine aw_if_neN D_br_at_16 (by omega) (fun h => ?_) (fun h => absurd h (by omega))
  refine aw_aload_n 0 D_br_at_23 rfl rfl ?_
  refine aw_get D_br_at_24 rfl rfl ?_
  refine aw_iload_n 1 D_br_at_27 rfl rfl ?_
  refine aw_aaldN D_br_at_28 rfl (by omega) (by omega) (shf_at hk) ?_
  refine aw_astore D_br_at_29 (Nat.le_of_ble_eq_true rfl) rfl ?_
  refine aw_aload D_br_at_31 rfl ?_
  refine aw_iload_n 3 D_br_at_33 rfl rfl ?_
  refine aw_callV1 (As := [_]) D_br_at_34 kv_sh_isOfOtherLane (c_sh_other (sh_obj hk)) rfl rfl (sh_obj hk) rfl rfl (Nat.le_of_ble_eq_true rfl) (Nat.zero_le _) (Nat.zero_le _) ?_
  rw [if_neg (fun q => q.2 hll)]
  refine aw_if_eqN D_br_at_37 (by omega) (fun h => ?_) (fun h => absurd h (by omega))
  refine aw_aload D_br_at_48 rfl ?_
  refine aw_callV1 (As := []) D_br_at_50 kv_sh_isNothing (c_sh_nothing (sh_obj hk)) rfl rfl (sh_obj hk) rfl rfl (Nat.le_of_ble_eq_true rfl) (Nat.zero_le _) (Nat.zero_le _) ?_
  rw [if_neg hne]
  refine aw_if_eqN D_br_at_53 (by omega) (fun h => ?_) (fun h => absurd h (by omega))
  refine aw_aload D_br_at_64 rfl ?_
  refine aw_iload_n 2 D_br_at_66 rfl rfl ?_
  refine aw_iconst (nI 1) D_br_at_67 rfl ?_
  refine aw_callV1 (As := [_, _]) D_br_at_68 kv_sh_hasCells (c_sh_hasN (i := i) (k := 1) (by omega) (by omega) hzk (sh_obj hk)) rfl rfl (sh_obj hk) rfl rfl (Nat.le_of_ble_eq_true rfl) (Nat.zero_le _) (Nat.zero_le _) ?_
  rw [if_pos (by omega)]
  refine aw_if_neN D_br_at_71 (by omega) (fun h => ?_) (fun h => absurd h (by omega))
  refine aw_aload_n 0 D_br_at_79 rfl rfl ?_
  refine aw_get D_br_at_80 rfl rfl ?_
  refine aw_if_neN D_br_at_83 (by omega) (fun h => absurd h (by omega)) (fun h => ?_)
  refine aw_aload D_br_at_86 rfl ?_
  refine aw_get D_br_at_88 (sh_obj hk) rfl ?_
  refine aw_iload_n 2 D_br_at_91 rfl rfl ?_
  refine aw_laldN D_br_at_92 (sh_cel hk) (by omega) (by omega) ?_
  refine aw_goto D_br_at_93 ?_
  refine aw_lreturn D_br_at_99 rfl ?_
  exact ⟨rfl, ch, bn, c, pd, st, fa, o, be, pc, le, sz, wt, qu, kc, tw, mk, ru, ol, re, ms, sp, dy, rfl, hn, hn9, hb, hch, hD, hz⟩
end Br5
