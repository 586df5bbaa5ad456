/-! ### BitRings: order, greatest, period, learn -/
section Br7
variable {n : Nat} {b : Nat → Nat} {tc fl fl2 v : Int32} {la : Nat → Int32} {zs : Nat → Nat} {cs : Nat → Nat → Int64} {mo : List va_E} {w : Wd} {x y : Int32} {k m : Nat}
theorem c_br_orderR (hv : ¬ v = 0) (hM : AMet M_br_refusedBits [.ref 0, .int x, .int y] w (fun r' w' => r' = some (.int v) ∧ CS n b tc fl2 la zs cs mo w') 0 0) (h : CS n b tc fl la zs cs mo w) : AMet M_br_order [.ref 0, .int x, .int y] w (fun r' w' => r' = some (.int v) ∧ CS n b tc fl2 la zs cs mo w') 0 0 := by
  obtain ⟨ch, bn, c, pd, st, fa, o, be, pc, le, sz, wt, qu, kc, tw, mk, ru, ol, re, ms, sp, dy, rfl, hn, hn9, hb, hch, hD, hz⟩ := h
  refine AMet.of [(0, .ref 0), (1, .int x), (2, .int y)] (by decide +kernel) rfl (Nat.le_of_ble_eq_true rfl) ?_
  refine aw_aload_n 0 D_br_order_0 rfl rfl ?_
  refine aw_iload_n 1 D_br_order_1 rfl rfl ?_
  refine aw_iload_n 2 D_br_order_2 rfl rfl ?_
  refine aw_callV (As := [_, _]) D_br_order_3 kv_br_refusedBits (hM) rfl rfl rfl rfl rfl (Nat.le_of_ble_eq_true rfl) (Nat.zero_le _) (Nat.zero_le _) (fun r w' hp => ?_)
  obtain ⟨rfl, hC⟩ := hp
  show AW M_br_order noP _ 0 0 6 _ [.int v] _ _ _
  refine aw_istore_n 3 D_br_order_6 rfl (Nat.le_of_ble_eq_true rfl) rfl ?_
  refine aw_iload_n 3 D_br_order_7 rfl rfl ?_
  refine aw_if_eq D_br_order_8 (fun h => absurd h hv) (fun h => ?_)
  refine aw_iload_n 3 D_br_order_11 rfl rfl ?_
  refine aw_goto D_br_order_12 ?_
  refine aw_ireturn D_br_order_29 rfl rfl ?_
  exact ⟨rfl, hC⟩
theorem c_br_greatR (hv : ¬ v = 0) (hM : AMet M_br_refusedBits [.ref 0, .int x, .int y] w (fun r' w' => r' = some (.int v) ∧ CS n b tc fl2 la zs cs mo w') 0 0) (h : CS n b tc fl la zs cs mo w) : AMet M_br_greatest [.ref 0, .int x, .int y] w (fun r' w' => r' = some (.int v) ∧ CS n b tc fl2 la zs cs mo w') 0 0 := by
  obtain ⟨ch, bn, c, pd, st, fa, o, be, pc, le, sz, wt, qu, kc, tw, mk, ru, ol, re, ms, sp, dy, rfl, hn, hn9, hb, hch, hD, hz⟩ := h
  refine AMet.of [(0, .ref 0), (1, .int x), (2, .int y)] (by decide +kernel) rfl (Nat.le_of_ble_eq_true rfl) ?_
  refine aw_aload_n 0 D_br_greatest_0 rfl rfl ?_
  refine aw_iload_n 1 D_br_greatest_1 rfl rfl ?_
  refine aw_iload_n 2 D_br_greatest_2 rfl rfl ?_
  refine aw_callV (As := [_, _]) D_br_greatest_3 kv_br_refusedBits (hM) rfl rfl rfl rfl rfl (Nat.le_of_ble_eq_true rfl) (Nat.zero_le _) (Nat.zero_le _) (fun r w' hp => ?_)
  obtain ⟨rfl, hC⟩ := hp
  show AW M_br_greatest noP _ 0 0 6 _ [.int v] _ _ _
  refine aw_istore_n 3 D_br_greatest_6 rfl (Nat.le_of_ble_eq_true rfl) rfl ?_
  refine aw_iload_n 3 D_br_greatest_7 rfl rfl ?_
  refine aw_if_eq D_br_greatest_8 (fun h => absurd h hv) (fun h => ?_)
  refine aw_iload_n 3 D_br_greatest_11 rfl rfl ?_
  refine aw_goto D_br_greatest_12 ?_
  refine aw_ireturn D_br_greatest_29 rfl rfl ?_
  exact ⟨rfl, hC⟩
theorem c_br_periodR (hv : ¬ v = 0) (hM : AMet M_br_refusedRow [.ref 0, .int x] w (fun r' w' => r' = some (.int v) ∧ CS n b tc fl2 la zs cs mo w') 0 0) (h : CS n b tc fl la zs cs mo w) : AMet M_br_period [.ref 0, .int x] w (fun r' w' => r' = some (.int v) ∧ CS n b tc fl2 la zs cs mo w') 0 0 := by
  obtain ⟨ch, bn, c, pd, st, fa, o, be, pc, le, sz, wt, qu, kc, tw, mk, ru, ol, re, ms, sp, dy, rfl, hn, hn9, hb, hch, hD, hz⟩ := h
  refine AMet.of [(0, .ref 0), (1, .int x)] (by decide +kernel) rfl (Nat.le_of_ble_eq_true rfl) ?_
  refine aw_aload_n 0 D_br_period_0 rfl rfl ?_
  refine aw_iload_n 1 D_br_period_1 rfl rfl ?_
  refine aw_callV (As := [_]) D_br_period_2 kv_br_refusedRow (hM) rfl rfl rfl rfl rfl (Nat.le_of_ble_eq_true rfl) (Nat.zero_le _) (Nat.zero_le _) (fun r w' hp => ?_)
  obtain ⟨rfl, hC⟩ := hp
  show AW M_br_period noP _ 0 0 5 _ [.int v] _ _ _
  refine aw_istore_n 2 D_br_period_5 rfl (Nat.le_of_ble_eq_true rfl) rfl ?_
  refine aw_iload_n 2 D_br_period_6 rfl rfl ?_
  refine aw_if_eq D_br_period_7 (fun h => absurd h hv) (fun h => ?_)
  refine aw_iload_n 2 D_br_period_10 rfl rfl ?_
  refine aw_ireturn D_br_period_11 rfl rfl ?_
  exact ⟨rfl, hC⟩
theorem c_br_learnR (hv : ¬ v = 0) (hM : AMet M_br_refusedRow [.ref 0, .int x] w (fun r' w' => r' = some (.int v) ∧ CS n b tc fl2 la zs cs mo w') 0 0) (h : CS n b tc fl la zs cs mo w) : AMet M_br_learn [.ref 0, .int x] w (fun r' w' => r' = some (.int v) ∧ CS n b tc fl2 la zs cs mo w') 0 0 := by
  obtain ⟨ch, bn, c, pd, st, fa, o, be, pc, le, sz, wt, qu, kc, tw, mk, ru, ol, re, ms, sp, dy, rfl, hn, hn9, hb, hch, hD, hz⟩ := h
  refine AMet.of [(0, .ref 0), (1, .int x)] (by decide +kernel) rfl (Nat.le_of_ble_eq_true rfl) ?_
  refine aw_aload_n 0 D_br_learn_0 rfl rfl ?_
  refine aw_iload_n 1 D_br_learn_1 rfl rfl ?_
  refine aw_callV (As := [_]) D_br_learn_2 kv_br_refusedRow (hM) rfl rfl rfl rfl rfl (Nat.le_of_ble_eq_true rfl) (Nat.zero_le _) (Nat.zero_le _) (fun r w' hp => ?_)
  obtain ⟨rfl, hC⟩ := hp
  show AW M_br_learn noP _ 0 0 5 _ [.int v] _ _ _
  refine aw_istore_n 2 D_br_learn_5 rfl (Nat.le_of_ble_eq_true rfl) rfl ?_
  refine aw_iload_n 2 D_br_learn_6 rfl rfl ?_
  refine aw_if_eq D_br_learn_7 (fun h => absurd h hv) (fun h => ?_)
  refine aw_iload_n 2 D_br_learn_10 rfl rfl ?_
  refine aw_ireturn D_br_learn_11 rfl rfl ?_
  exact ⟨rfl, hC⟩
theorem c_br_orderT (hk : k < 4) (hne : la k ≠ -nI 1) (hm : m ≤ zs k) (h : CS n b tc fl la zs cs mo w) : AMet M_br_order [.ref 0, .int (nI k), .int (nI m)] w (fun r' w' => r' = some (.int (nI (bms (fun i => bt (cs k i)) m).1)) ∧ CS n b tc (nI 0) la zs cs mo w') 0 0 := by
  obtain ⟨ch, bn, c, pd, st, fa, o, be, pc, le, sz, wt, qu, kc, tw, mk, ru, ol, re, ms, sp, dy, rfl, hn, hn9, hb, hch, hD, hz⟩ := h
  have hzk := hz k
  refine AMet.of [(0, .ref 0), (1, .int (nI k)), (2, .int (nI m))] (by decide +kernel) rfl (Nat.le_of_ble_eq_true rfl) ?_
  refine aw_aload_n 0 D_br_order_0 rfl rfl ?_
  refine aw_iload_n 1 D_br_order_1 rfl rfl ?_
  refine aw_iload_n 2 D_br_order_2 rfl rfl ?_
  refine aw_callV1 (As := [_, _]) D_br_order_3 kv_br_refusedBits (c_br_bitsT hk hne hzk hm) rfl rfl rfl rfl rfl (Nat.le_of_ble_eq_true rfl) (Nat.zero_le _) (Nat.zero_le _) ?_
  refine aw_istore_n 3 D_br_order_6 rfl (Nat.le_of_ble_eq_true rfl) rfl ?_
  refine aw_iload_n 3 D_br_order_7 rfl rfl ?_
  refine aw_if_eqN D_br_order_8 (by decide) (fun h => ?_) (fun h => absurd h (by decide))
  refine aw_aload_n 0 D_br_order_15 rfl rfl ?_
  refine aw_get D_br_order_16 rfl rfl ?_
  refine aw_aload_n 0 D_br_order_19 rfl rfl ?_
  refine aw_get D_br_order_20 rfl rfl ?_
  refine aw_iload_n 1 D_br_order_23 rfl rfl ?_
  refine aw_aaldN D_br_order_24 rfl (by omega) (by omega) (shf_at hk) ?_
  refine aw_iload_n 2 D_br_order_25 rfl rfl ?_
  refine aw_callV (As := [_, _]) D_br_order_26 kv_rr_linearOrder (c_rr_order hk (by omega)) rfl rfl rfl rfl rfl (Nat.le_of_ble_eq_true rfl) (Nat.zero_le _) (Nat.zero_le _) (fun r w' hp => ?_)
  obtain ⟨ru', ol', re', rfl, rfl⟩ := hp
  show AW M_br_order noP _ 0 0 29 _ [.int (nI _)] _ _ _
  refine aw_ireturn D_br_order_29 rfl rfl ?_
  exact ⟨rfl, ch, bn, c, pd, st, fa, o, be, pc, le, sz, wt, qu, kc, tw, mk, ru', ol', re', ms, sp, dy, rfl, hn, hn9, hb, hch, hD, hz⟩
theorem c_br_greatT (hk : k < 4) (hne : la k ≠ -nI 1) (hm : m ≤ zs k) (h : CS n b tc fl la zs cs mo w) : AMet M_br_greatest [.ref 0, .int (nI k), .int (nI m)] w (fun r' w' => ∃ g, r' = some (.int (nI g)) ∧ IsGr (fun i => bt (cs k i)) m g ∧ CS n b tc (nI 0) la zs cs mo w') 0 0 := by
  obtain ⟨ch, bn, c, pd, st, fa, o, be, pc, le, sz, wt, qu, kc, tw, mk, ru, ol, re, ms, sp, dy, rfl, hn, hn9, hb, hch, hD, hz⟩ := h
  have hzk := hz k
  refine AMet.of [(0, .ref 0), (1, .int (nI k)), (2, .int (nI m))] (by decide +kernel) rfl (Nat.le_of_ble_eq_true rfl) ?_
  refine aw_aload_n 0 D_br_greatest_0 rfl rfl ?_
  refine aw_iload_n 1 D_br_greatest_1 rfl rfl ?_
  refine aw_iload_n 2 D_br_greatest_2 rfl rfl ?_
  refine aw_callV1 (As := [_, _]) D_br_greatest_3 kv_br_refusedBits (c_br_bitsT hk hne hzk hm) rfl rfl rfl rfl rfl (Nat.le_of_ble_eq_true rfl) (Nat.zero_le _) (Nat.zero_le _) ?_
  refine aw_istore_n 3 D_br_greatest_6 rfl (Nat.le_of_ble_eq_true rfl) rfl ?_
  refine aw_iload_n 3 D_br_greatest_7 rfl rfl ?_
  refine aw_if_eqN D_br_greatest_8 (by decide) (fun h => ?_) (fun h => absurd h (by decide))
  refine aw_aload_n 0 D_br_greatest_15 rfl rfl ?_
  refine aw_get D_br_greatest_16 rfl rfl ?_
  refine aw_aload_n 0 D_br_greatest_19 rfl rfl ?_
  refine aw_get D_br_greatest_20 rfl rfl ?_
  refine aw_iload_n 1 D_br_greatest_23 rfl rfl ?_
  refine aw_aaldN D_br_greatest_24 rfl (by omega) (by omega) (shf_at hk) ?_
  refine aw_iload_n 2 D_br_greatest_25 rfl rfl ?_
  refine aw_callV (As := [_, _]) D_br_greatest_26 kv_rr_greatestOrder (c_rr_great hk (by omega)) rfl rfl rfl rfl rfl (Nat.le_of_ble_eq_true rfl) (Nat.zero_le _) (Nat.zero_le _) (fun r w' hp => ?_)
  obtain ⟨g, mk', ms', sp', rfl, hg, rfl⟩ := hp
  show AW M_br_greatest noP _ 0 0 29 _ [.int (nI g)] _ _ _
  refine aw_ireturn D_br_greatest_29 rfl rfl ?_
  exact ⟨g, rfl, hg, ch, bn, c, pd, st, fa, o, be, pc, le, sz, wt, qu, kc, tw, mk', ru, ol, re, ms', sp', dy, rfl, hn, hn9, hb, hch, hD, hz⟩
theorem c_br_periodS (hk : k < 4) (hne : la k ≠ -nI 1) (h0 : zs k = 0) (h : CS n b tc fl la zs cs mo w) : AMet M_br_period [.ref 0, .int (nI k)] w (fun r' w' => r' = some (.int (-nI 3)) ∧ CS n b tc (nI 0) la zs cs mo w') 0 0 := by
  obtain ⟨ch, bn, c, pd, st, fa, o, be, pc, le, sz, wt, qu, kc, tw, mk, ru, ol, re, ms, sp, dy, rfl, hn, hn9, hb, hch, hD, hz⟩ := h
  refine AMet.of [(0, .ref 0), (1, .int (nI k))] (by decide +kernel) rfl (Nat.le_of_ble_eq_true rfl) ?_
  refine aw_aload_n 0 D_br_period_0 rfl rfl ?_
  refine aw_iload_n 1 D_br_period_1 rfl rfl ?_
  refine aw_callV1 (As := [_]) D_br_period_2 kv_br_refusedRow (c_br_rowT hk hne) rfl rfl rfl rfl rfl (Nat.le_of_ble_eq_true rfl) (Nat.zero_le _) (Nat.zero_le _) ?_
  refine aw_istore_n 2 D_br_period_5 rfl (Nat.le_of_ble_eq_true rfl) rfl ?_
  refine aw_iload_n 2 D_br_period_6 rfl rfl ?_
  refine aw_if_eqN D_br_period_7 (by decide) (fun h => ?_) (fun h => absurd h (by decide))
  refine aw_aload_n 0 D_br_period_12 rfl rfl ?_
  refine aw_get D_br_period_13 rfl rfl ?_
  refine aw_iload_n 1 D_br_period_16 rfl rfl ?_
  refine aw_aaldN D_br_period_17 rfl (by omega) (by omega) (shf_at hk) ?_
  refine aw_get D_br_period_18 (sh_obj hk) rfl ?_
  refine aw_if_neN D_br_period_21 (by omega) (fun h => absurd h (by omega)) (fun h => ?_)
  refine aw_bipush (-nI 3) D_br_period_24 rfl ?_
  refine aw_goto D_br_period_26 ?_
  refine aw_ireturn D_br_period_42 rfl rfl ?_
  exact ⟨rfl, ch, bn, c, pd, st, fa, o, be, pc, le, sz, wt, qu, kc, tw, mk, ru, ol, re, ms, sp, dy, rfl, hn, hn9, hb, hch, hD, hz⟩
theorem c_br_periodT (hk : k < 4) (hne : la k ≠ -nI 1) (h0 : 0 < zs k) (h : CS n b tc fl la zs cs mo w) : AMet M_br_period [.ref 0, .int (nI k)] w (fun r' w' => ∃ p, r' = some (.int (nI p)) ∧ IsPer (fun i => bt (cs k i)) (zs k) p ∧ CS n b tc (nI 0) la zs cs mo w') 0 0 := by
  obtain ⟨ch, bn, c, pd, st, fa, o, be, pc, le, sz, wt, qu, kc, tw, mk, ru, ol, re, ms, sp, dy, rfl, hn, hn9, hb, hch, hD, hz⟩ := h
  have hzk := hz k
  refine AMet.of [(0, .ref 0), (1, .int (nI k))] (by decide +kernel) rfl (Nat.le_of_ble_eq_true rfl) ?_
  refine aw_aload_n 0 D_br_period_0 rfl rfl ?_
  refine aw_iload_n 1 D_br_period_1 rfl rfl ?_
  refine aw_callV1 (As := [_]) D_br_period_2 kv_br_refusedRow (c_br_rowT hk hne) rfl rfl rfl rfl rfl (Nat.le_of_ble_eq_true rfl) (Nat.zero_le _) (Nat.zero_le _) ?_
  refine aw_istore_n 2 D_br_period_5 rfl (Nat.le_of_ble_eq_true rfl) rfl ?_
  refine aw_iload_n 2 D_br_period_6 rfl rfl ?_
  refine aw_if_eqN D_br_period_7 (by decide) (fun h => ?_) (fun h => absurd h (by decide))
  refine aw_aload_n 0 D_br_period_12 rfl rfl ?_
  refine aw_get D_br_period_13 rfl rfl ?_
  refine aw_iload_n 1 D_br_period_16 rfl rfl ?_
  refine aw_aaldN D_br_period_17 rfl (by omega) (by omega) (shf_at hk) ?_
  refine aw_get D_br_period_18 (sh_obj hk) rfl ?_
  refine aw_if_neN D_br_period_21 (by omega) (fun h => ?_) (fun h => absurd h (by omega))
  refine aw_aload_n 0 D_br_period_29 rfl rfl ?_
  refine aw_get D_br_period_30 rfl rfl ?_
  refine aw_aload_n 0 D_br_period_33 rfl rfl ?_
  refine aw_get D_br_period_34 rfl rfl ?_
  refine aw_iload_n 1 D_br_period_37 rfl rfl ?_
  refine aw_aaldN D_br_period_38 rfl (by omega) (by omega) (shf_at hk) ?_
  refine aw_callV (As := [_]) D_br_period_39 kv_rr_leastPeriod (c_rr_period hk h0 hzk) rfl rfl rfl rfl rfl (Nat.le_of_ble_eq_true rfl) (Nat.zero_le _) (Nat.zero_le _) (fun r w' hp => ?_)
  obtain ⟨p, ms', rfl, hp, rfl⟩ := hp
  show AW M_br_period noP _ 0 0 42 _ [.int (nI p)] _ _ _
  refine aw_ireturn D_br_period_42 rfl rfl ?_
  exact ⟨p, rfl, hp, ch, bn, c, pd, st, fa, o, be, pc, le, sz, wt, qu, kc, tw, mk, ru, ol, re, ms', sp, dy, rfl, hn, hn9, hb, hch, hD, hz⟩
theorem ffw_le {n : Nat} {c b : Nat → Nat} (hc : ∀ i, c i ≤ 1) (hb : ∀ i, b i ≤ 1) : ∀ i j, (ffw n c b i).2 j ≤ 1
  | 0, j => hb j
  | i + 1, j => by
    have := ffw_le (n := n) hc hb i
    show (if n ≤ i then va_up (ffw n c b i).2 (ffw n c b i).1 (c i) else (ffw n c b i).2) j ≤ 1
    split
    · unfold va_up
      split
      · exact hc i
      · exact this j
    · exact this j
theorem c_br_learn {g : Nat} (hk : k < 4) (hne : la k ≠ -nI 1) (hg : IsGr (fun i => bt (cs k i)) (zs k) g) (h : CS n b tc fl la zs cs mo w) : AMet M_br_learn [.ref 0, .int (nI k)] w
    (fun r' w' => (9 < g ∧ r' = some (.int (-nI 3)) ∧ CS n b tc (nI 0) la zs cs mo w') ∨ (g ≤ 9 ∧ r' = some (.int (nI (max g 2))) ∧ CS (max g 2) (ffw (max g 2) (fun i => bt (cs k i)) (fun _ => 0) (zs k)).2 tc (nI 0) la zs cs mo w')) 0 0 := by
  obtain ⟨ch, bn, c, pd, st, fa, o, be, pc, le, sz, wt, qu, kc, tw, mk, ru, ol, re, ms, sp, dy, rfl, hn, hn9, hb, hch, hD, hz⟩ := h
  have hzk := hz k
  refine AMet.of [(0, .ref 0), (1, .int (nI k))] (by decide +kernel) rfl (Nat.le_of_ble_eq_true rfl) ?_
  refine aw_aload_n 0 D_br_learn_0 rfl rfl ?_
  refine aw_iload_n 1 D_br_learn_1 rfl rfl ?_
  refine aw_callV1 (As := [_]) D_br_learn_2 kv_br_refusedRow (c_br_rowT hk hne) rfl rfl rfl rfl rfl (Nat.le_of_ble_eq_true rfl) (Nat.zero_le _) (Nat.zero_le _) ?_
  refine aw_istore_n 2 D_br_learn_5 rfl (Nat.le_of_ble_eq_true rfl) rfl ?_
  refine aw_iload_n 2 D_br_learn_6 rfl rfl ?_
  refine aw_if_eqN D_br_learn_7 (by decide) (fun h => ?_) (fun h => absurd h (by decide))
  refine aw_aload_n 0 D_br_learn_12 rfl rfl ?_
  refine aw_get D_br_learn_13 rfl rfl ?_
  refine aw_iload_n 1 D_br_learn_16 rfl rfl ?_
  refine aw_aaldN D_br_learn_17 rfl (by omega) (by omega) (shf_at hk) ?_
  refine aw_astore_n 3 D_br_learn_18 rfl (Nat.le_of_ble_eq_true rfl) rfl ?_
  refine aw_aload_n 0 D_br_learn_19 rfl rfl ?_
  refine aw_get D_br_learn_20 rfl rfl ?_
  refine aw_aload_n 3 D_br_learn_23 rfl rfl ?_
  refine aw_aload_n 3 D_br_learn_24 rfl rfl ?_
  refine aw_get D_br_learn_25 (sh_obj hk) rfl ?_
  refine aw_callV (As := [_, _]) D_br_learn_28 kv_rr_greatestOrder (c_rr_great hk hzk) rfl rfl rfl rfl rfl (Nat.le_of_ble_eq_true rfl) (Nat.zero_le _) (Nat.zero_le _) (fun r w' hp => ?_)
  obtain ⟨g', mk', ms', sp', rfl, hg', rfl⟩ := hp
  have hgg := hg'.one hg
  subst hgg
  have hgl := hg.le
  show AW M_br_learn noP _ 0 0 31 _ [.int (nI g')] _ _ _
  refine aw_istore D_br_learn_31 (Nat.le_of_ble_eq_true rfl) rfl ?_
  refine aw_iload D_br_learn_33 rfl ?_
  refine aw_bipush (nI 9) D_br_learn_35 rfl ?_
  refine aw_icmp_leN D_br_learn_37 (by omega) (by decide) (fun h9 => ?_) (fun h9 => ?_)
  · have hm9 : max g' 2 ≤ 9 := by omega
    have hm2 : 2 ≤ max g' 2 := by omega
    refine aw_aload_n 0 D_br_learn_43 rfl rfl ?_
    refine aw_get D_br_learn_44 rfl rfl ?_
    refine aw_iload D_br_learn_47 rfl ?_
    refine aw_iconst (nI 2) D_br_learn_49 rfl ?_
    refine aw_maxN D_br_learn_50 (by omega) (by omega) (Nat.le_of_ble_eq_true rfl) ?_
    refine aw_callVv (As := [_]) D_br_learn_53 kv_rg_restart (c_rg_restart hm9) rfl rfl rfl rfl rfl (Nat.le_of_ble_eq_true rfl) (Nat.zero_le _) (Nat.zero_le _) ?_
    refine aw_aload_n 0 D_br_learn_56 rfl rfl ?_
    refine aw_get D_br_learn_57 rfl rfl ?_
    refine aw_aload_n 3 D_br_learn_60 rfl rfl ?_
    refine aw_callVv (As := [_]) D_br_learn_61 kv_rg_fillFrom (c_rg_from (q := 4 + 32 * k) (qc := 20 + 32 * k) hm2 hm9 hzk (by omega) (by omega) (sh_objr hk) (sh_celr hk)) rfl rfl rfl rfl rfl (Nat.le_of_ble_eq_true rfl) (Nat.zero_le _) (Nat.zero_le _) ?_
    refine aw_aload_n 0 D_br_learn_64 rfl rfl ?_
    refine aw_get D_br_learn_65 rfl rfl ?_
    refine aw_get D_br_learn_68 rfl rfl ?_
    refine aw_ireturn D_br_learn_71 rfl rfl ?_
    exact Or.inr ⟨h9, rfl, 1, bn, c, pd, st, fa, o, be, pc, le, sz, wt, qu, kc, tw, mk', ru, ol, re, ms', sp', dy, rfl, hm2, hm9, ffw_le (fun i => bt_le _) (fun _ => Nat.zero_le 1) _, Or.inl rfl, hD, hz⟩
  · refine aw_bipush (-nI 3) D_br_learn_40 rfl ?_
    refine aw_ireturn D_br_learn_42 rfl rfl ?_
    exact Or.inl ⟨h9, rfl, ch, bn, c, pd, st, fa, o, be, pc, le, sz, wt, qu, kc, tw, mk', ru, ol, re, ms', sp', dy, rfl, hn, hn9, hb, hch, hD, hz⟩
end Br7
