/-! ### a sheet -/
def bt (x : Int64) : Nat := x.toBitVec.toNat % 2
theorem lN_of (x : Int64) : x = lN x.toBitVec.toNat := by
  apply Int64.toBitVec_inj.mp
  show x.toBitVec = BitVec.ofNat 64 x.toBitVec.toNat
  exact (BitVec.ofNat_toNat 64 x.toBitVec ▸ by simp)
theorem bt_le (x : Int64) : bt x ≤ 1 := by unfold bt; omega
theorem bt_lt (x : Int64) : bt x < 2 := by unfold bt; omega
theorem land1 (x : Int64) : x &&& lN 1 = lN (bt x) := by
  unfold bt
  generalize hm : x.toBitVec.toNat = m
  have := lN_of x
  rw [hm] at this
  rw [this, fb_andL, Nat.and_one_is_mod]
theorem bt_lN {m : Nat} (h : m < 2 ^ 64) : bt (lN m) = m % 2 := by
  unfold bt
  show (BitVec.ofNat 64 m).toNat % 2 = m % 2
  rw [BitVec.toNat_ofNat, Nat.mod_eq_of_lt h]
/-- what comes to a cell is cut to its lane -/
def cut (la : Int32) (v : Int64) : Int64 := if la = 0 then v.toInt32.toInt8.toInt32.toInt64 else if la = nI 1 then v.toInt32.toInt64 else v
section Sheet
variable {w : Wd} {q qc : Nat} {la : Int32} {sz : Nat} {ce : Nat → Int64}
theorem c_sh_nothing (hq : look w q = some (.inr (3, [.int la, .int (nI sz), .ref qc]))) : AMet M_sh_isNothing [.ref q] w (Ex (some (.int (nI (if la = -nI 1 then 1 else 0)))) w) 0 0 := by
  refine AMet.of [(0, .ref q)] (by decide +kernel) rfl (Nat.le_of_ble_eq_true rfl) ?_
  refine aw_aload_n 0 D_sh_isNothing_0 rfl rfl ?_
  refine aw_get D_sh_isNothing_1 (hq) rfl ?_
  refine aw_iconst (-nI 1) D_sh_isNothing_4 rfl ?_
  refine aw_icmp_ne D_sh_isNothing_5 (fun h => ?_) (fun h => ?_)
  · refine aw_iconst (nI 0) D_sh_isNothing_12 rfl ?_
    rw [if_neg h]
    refine aw_ireturn D_sh_isNothing_13 rfl rfl ?_
    exact ⟨rfl, rfl⟩
  · refine aw_iconst (nI 1) D_sh_isNothing_8 rfl ?_
    refine aw_goto D_sh_isNothing_9 ?_
    rw [if_pos h]
    refine aw_ireturn D_sh_isNothing_13 rfl rfl ?_
    exact ⟨rfl, rfl⟩
theorem c_sh_other {x : Int32} (hq : look w q = some (.inr (3, [.int la, .int (nI sz), .ref qc]))) : AMet M_sh_isOfOtherLane [.ref q, .int x] w (Ex (some (.int (nI (if la ≠ -nI 1 ∧ la ≠ x then 1 else 0)))) w) 0 0 := by
  refine AMet.of [(0, .ref q), (1, .int x)] (by decide +kernel) rfl (Nat.le_of_ble_eq_true rfl) ?_
  refine aw_aload_n 0 D_sh_isOfOtherLane_0 rfl rfl ?_
  refine aw_get D_sh_isOfOtherLane_1 (hq) rfl ?_
  refine aw_iconst (-nI 1) D_sh_isOfOtherLane_4 rfl ?_
  refine aw_icmp_eq D_sh_isOfOtherLane_5 (fun h => ?_) (fun h => ?_)
  · refine aw_iconst (nI 0) D_sh_isOfOtherLane_20 rfl ?_
    rw [if_neg (fun e => e.1 h)]
    refine aw_ireturn D_sh_isOfOtherLane_21 rfl rfl ?_
    exact ⟨rfl, rfl⟩
  · refine aw_aload_n 0 D_sh_isOfOtherLane_8 rfl rfl ?_
    refine aw_get D_sh_isOfOtherLane_9 (hq) rfl ?_
    refine aw_iload_n 1 D_sh_isOfOtherLane_12 rfl rfl ?_
    refine aw_icmp_eq D_sh_isOfOtherLane_13 (fun h2 => ?_) (fun h2 => ?_)
    · refine aw_iconst (nI 0) D_sh_isOfOtherLane_20 rfl ?_
      rw [if_neg (fun e => e.2 h2)]
      refine aw_ireturn D_sh_isOfOtherLane_21 rfl rfl ?_
      exact ⟨rfl, rfl⟩
    · refine aw_iconst (nI 1) D_sh_isOfOtherLane_16 rfl ?_
      refine aw_goto D_sh_isOfOtherLane_17 ?_
      rw [if_pos ⟨h, h2⟩]
      refine aw_ireturn D_sh_isOfOtherLane_21 rfl rfl ?_
      exact ⟨rfl, rfl⟩
theorem c_sh_hasN {i k : Nat} (hi : i < 2 ^ 31) (hk : k < 2 ^ 31) (hs : sz ≤ 600) (hq : look w q = some (.inr (3, [.int la, .int (nI sz), .ref qc]))) : AMet M_sh_hasCells [.ref q, .int (nI i), .int (nI k)] w (Ex (some (.int (nI (if i + k ≤ sz then 1 else 0)))) w) 0 0 := by
  refine AMet.of [(0, .ref q), (1, .int (nI i)), (2, .int (nI k))] (by decide +kernel) rfl (Nat.le_of_ble_eq_true rfl) ?_
  refine aw_iload_n 1 D_sh_hasCells_0 rfl rfl ?_
  refine aw_if_ltN D_sh_hasCells_1 (by omega) ?_
  refine aw_iload_n 1 D_sh_hasCells_4 rfl rfl ?_
  first | with_reducible refine aw_i2lN D_sh_hasCells_5 (by omega) ?_ | refine aw_i2l D_sh_hasCells_5 ?_
  refine aw_iload_n 2 D_sh_hasCells_6 rfl rfl ?_
  first | with_reducible refine aw_i2lN D_sh_hasCells_7 (by omega) ?_ | refine aw_i2l D_sh_hasCells_7 ?_
  first | with_reducible refine aw_laddN D_sh_hasCells_8 ?_ | refine aw_ladd D_sh_hasCells_8 ?_
  refine aw_aload_n 0 D_sh_hasCells_9 rfl rfl ?_
  refine aw_get D_sh_hasCells_10 (hq) rfl ?_
  first | with_reducible refine aw_i2lN D_sh_hasCells_13 (by omega) ?_ | refine aw_i2l D_sh_hasCells_13 ?_
  refine aw_lcmp D_sh_hasCells_14 ?_
  refine aw_if_gt D_sh_hasCells_15 (fun h => ?_) (fun h => ?_)
  · rw [lg_cmp_gt, pk_lLT (by omega) (by omega)] at h
    refine aw_iconst (nI 0) D_sh_hasCells_22 rfl ?_
    rw [if_neg (by omega)]
    refine aw_ireturn D_sh_hasCells_23 rfl rfl ?_
    exact ⟨rfl, rfl⟩
  · rw [lg_cmp_gt, pk_lLT (by omega) (by omega)] at h
    refine aw_iconst (nI 1) D_sh_hasCells_18 rfl ?_
    refine aw_goto D_sh_hasCells_19 ?_
    rw [if_pos (by omega)]
    refine aw_ireturn D_sh_hasCells_23 rfl rfl ?_
    exact ⟨rfl, rfl⟩
theorem c_sh_hasNeg {x y : Int32} (hx : x < 0) : AMet M_sh_hasCells [.ref q, .int x, .int y] w (Ex (some (.int (nI 0))) w) 0 0 := by
  refine AMet.of [(0, .ref q), (1, .int x), (2, .int y)] (by decide +kernel) rfl (Nat.le_of_ble_eq_true rfl) ?_
  refine aw_iload_n 1 D_sh_hasCells_0 rfl rfl ?_
  refine aw_if_lt D_sh_hasCells_1 (fun h => ?_) (fun h => absurd hx h)
  refine aw_iconst (nI 0) D_sh_hasCells_22 rfl ?_
  refine aw_ireturn D_sh_hasCells_23 rfl rfl ?_
  exact ⟨rfl, rfl⟩
theorem c_sh_renew {l : Int32} {k : Nat} (hne : qc ≠ q) (hq : look w q = some (.inr (3, [.int la, .int (nI sz), .ref qc]))) (hc : look w qc = some (.inl (1, 600, .inr (.inl ce)))) : AMet M_sh_renew [.ref q, .int l, .int (nI k)] w (Ex none (updw (updw w q (.inr (3, [.int l, .int (nI k), .ref qc]))) qc (.inl (1, 600, .inr (.inl (fun _ => 0)))))) 0 0 := by
  refine AMet.of [(0, .ref q), (1, .int l), (2, .int (nI k))] (by decide +kernel) rfl (Nat.le_of_ble_eq_true rfl) ?_
  refine aw_aload_n 0 D_sh_renew_0 rfl rfl ?_
  refine aw_iload_n 1 D_sh_renew_1 rfl rfl ?_
  refine aw_put tc_sh D_sh_renew_2 (hq) (Nat.le_of_ble_eq_true rfl) rfl rfl ?_
  have h1 : look (updw w q (.inr (3, [.int l, .int (nI sz), .ref qc]))) q = some (.inr (3, [.int l, .int (nI sz), .ref qc])) := by rw [look_updw hq, if_pos rfl]
  refine aw_aload_n 0 D_sh_renew_5 rfl rfl ?_
  refine aw_iload_n 2 D_sh_renew_6 rfl rfl ?_
  refine aw_put tc_sh D_sh_renew_7 (h1) (Nat.le_of_ble_eq_true rfl) rfl rfl ?_
  show AW _ _ _ _ _ _ _ _ (updw (updw w q (.inr (3, [.int l, .int (nI sz), .ref qc]))) q (.inr (3, [.int l, .int (nI k), .ref qc]))) _ _
  rw [updw_twice hq]
  have h2 : look (updw w q (.inr (3, [.int l, .int (nI k), .ref qc]))) q = some (.inr (3, [.int l, .int (nI k), .ref qc])) := by rw [look_updw hq, if_pos rfl]
  have h3 : look (updw w q (.inr (3, [.int l, .int (nI k), .ref qc]))) qc = some (.inl (1, 600, .inr (.inl ce))) := by rw [look_updw hq, if_neg hne]; exact hc
  refine aw_aload_n 0 D_sh_renew_10 rfl rfl ?_
  refine aw_get D_sh_renew_11 (h2) rfl ?_
  refine aw_lconst (lN 0) D_sh_renew_14 rfl ?_
  refine aw_callSv (As := [_, _]) D_sh_renew_15 kv_ja_fillJ (c_fillJ (by decide) h3) rfl rfl (Nat.le_of_ble_eq_true rfl) (Nat.zero_le _) (Nat.zero_le _) ?_
  refine aw_rowL (q := qc) (t := 1) (N := 600) (f := fun j => if j < 600 then lN 0 else ce j) (g := fun _ => 0) (by rw [look_updw h3, if_pos rfl]) (fun j hj => by rw [if_pos hj]; rfl) ?_
  rw [updw_twice h3]
  refine aw_return D_sh_renew_18 rfl ?_
  exact ⟨rfl, rfl⟩
theorem c_sh_drop (hq : look w q = some (.inr (3, [.int la, .int (nI sz), .ref qc]))) : AMet M_sh_drop [.ref q] w (Ex none (updw w q (.inr (3, [.int (-nI 1), .int (nI 0), .ref qc])))) 0 0 := by
  refine AMet.of [(0, .ref q)] (by decide +kernel) rfl (Nat.le_of_ble_eq_true rfl) ?_
  refine aw_aload_n 0 D_sh_drop_0 rfl rfl ?_
  refine aw_iconst (-nI 1) D_sh_drop_1 rfl ?_
  refine aw_put tc_sh D_sh_drop_2 (hq) (Nat.le_of_ble_eq_true rfl) rfl rfl ?_
  have h1 : look (updw w q (.inr (3, [.int (-nI 1), .int (nI sz), .ref qc]))) q = some (.inr (3, [.int (-nI 1), .int (nI sz), .ref qc])) := by rw [look_updw hq, if_pos rfl]
  refine aw_aload_n 0 D_sh_drop_5 rfl rfl ?_
  refine aw_iconst (nI 0) D_sh_drop_6 rfl ?_
  refine aw_put tc_sh D_sh_drop_7 (h1) (Nat.le_of_ble_eq_true rfl) rfl rfl ?_
  show AW _ _ _ _ _ _ _ _ (updw (updw w q (.inr (3, [.int (-nI 1), .int (nI sz), .ref qc]))) q (.inr (3, [.int (-nI 1), .int (nI 0), .ref qc]))) _ _
  rw [updw_twice hq]
  refine aw_return D_sh_drop_10 rfl ?_
  exact ⟨rfl, rfl⟩
theorem c_sh_write {i : Nat} {v : Int64} (hi : i < 600) (hq : look w q = some (.inr (3, [.int la, .int (nI sz), .ref qc]))) (hc : look w qc = some (.inl (1, 600, .inr (.inl ce)))) : AMet M_sh_write [.ref q, .int (nI i), .long v] w (Ex none (updw w qc (.inl (1, 600, .inr (.inl (va_up ce i (cut la v))))))) 0 0 := by
  refine AMet.of [(0, .ref q), (1, .int (nI i)), (2, .long v)] (by decide +kernel) rfl (Nat.le_of_ble_eq_true rfl) ?_
  unfold cut
  refine aw_aload_n 0 D_sh_write_0 rfl rfl ?_
  refine aw_get D_sh_write_1 (hq) rfl ?_
  refine aw_if_ne D_sh_write_4 (fun h => ?_) (fun h => ?_)
  · rw [if_neg h]
    refine aw_aload_n 0 D_sh_write_20 rfl rfl ?_
    refine aw_get D_sh_write_21 (hq) rfl ?_
    refine aw_iconst (nI 1) D_sh_write_24 rfl ?_
    refine aw_icmp_ne D_sh_write_25 (fun h2 => ?_) (fun h2 => ?_)
    · rw [if_neg h2]
      refine aw_aload_n 0 D_sh_write_40 rfl rfl ?_
      refine aw_get D_sh_write_41 (hq) rfl ?_
      refine aw_iload_n 1 D_sh_write_44 rfl rfl ?_
      refine aw_lload_n 2 D_sh_write_45 rfl rfl ?_
      refine aw_lastJ D_sh_write_46 (hc) (by omega) (by omega) ?_
      refine aw_return D_sh_write_47 rfl ?_
      exact ⟨rfl, rfl⟩
    · rw [if_pos h2]
      refine aw_aload_n 0 D_sh_write_28 rfl rfl ?_
      refine aw_get D_sh_write_29 (hq) rfl ?_
      refine aw_iload_n 1 D_sh_write_32 rfl rfl ?_
      refine aw_lload_n 2 D_sh_write_33 rfl rfl ?_
      first | with_reducible refine aw_l2iN D_sh_write_34 ?_ | refine aw_l2i D_sh_write_34 ?_
      first | with_reducible refine aw_i2lN D_sh_write_35 (by omega) ?_ | refine aw_i2l D_sh_write_35 ?_
      refine aw_lastJ D_sh_write_36 (hc) (by omega) (by omega) ?_
      refine aw_goto D_sh_write_37 ?_
      refine aw_return D_sh_write_47 rfl ?_
      exact ⟨rfl, rfl⟩
  · rw [if_pos h]
    refine aw_aload_n 0 D_sh_write_7 rfl rfl ?_
    refine aw_get D_sh_write_8 (hq) rfl ?_
    refine aw_iload_n 1 D_sh_write_11 rfl rfl ?_
    refine aw_lload_n 2 D_sh_write_12 rfl rfl ?_
    first | with_reducible refine aw_l2iN D_sh_write_13 ?_ | refine aw_l2i D_sh_write_13 ?_
    refine aw_i2b D_sh_write_14 ?_
    first | with_reducible refine aw_i2lN D_sh_write_15 (by omega) ?_ | refine aw_i2l D_sh_write_15 ?_
    refine aw_lastJ D_sh_write_16 (hc) (by omega) (by omega) ?_
    refine aw_goto D_sh_write_17 ?_
    refine aw_return D_sh_write_47 rfl ?_
    exact ⟨rfl, rfl⟩
theorem c_sh_bit {i : Nat} (hi : i < 600) (hq : look w q = some (.inr (3, [.int la, .int (nI sz), .ref qc]))) (hc : look w qc = some (.inl (1, 600, .inr (.inl ce)))) : AMet M_sh_bitAt [.ref q, .int (nI i)] w (Ex (some (.int (nI (bt (ce i))))) w) 0 0 := by
  refine AMet.of [(0, .ref q), (1, .int (nI i))] (by decide +kernel) rfl (Nat.le_of_ble_eq_true rfl) ?_
  refine aw_aload_n 0 D_sh_bitAt_0 rfl rfl ?_
  refine aw_get D_sh_bitAt_1 (hq) rfl ?_
  refine aw_iload_n 1 D_sh_bitAt_4 rfl rfl ?_
  refine aw_laldN D_sh_bitAt_5 (hc) (by omega) (by omega) ?_
  refine aw_lconst (lN 1) D_sh_bitAt_6 rfl ?_
  refine aw_land D_sh_bitAt_7 ?_
  rw [land1]
  first | with_reducible refine aw_l2iN D_sh_bitAt_8 ?_ | refine aw_l2i D_sh_bitAt_8 ?_
  refine aw_ireturn D_sh_bitAt_9 rfl rfl ?_
  exact ⟨rfl, rfl⟩
end Sheet
