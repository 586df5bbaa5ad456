/-! ### BitRings: rings, numbers told, telling -/
section Br3
variable {n : Nat} {b : Nat → Nat} {tc fl : Int32} {la : Nat → Int32} {zs : Nat → Nat} {cs : Nat → Nat → Int64} {mo : List va_E} {w : Wd}
theorem c_br_turnU {x : Int32} (hx : ¬ vp_in x (2 ^ n / 2)) (h : CS n b tc fl la zs cs mo w) : AMet M_br_turn [.ref 0, .int x] w (Ex (some (.int (-nI 1))) w) 0 0 := by
  obtain ⟨ch, bn, c, pd, st, fa, o, be, pc, le, sz, wt, qu, kc, tw, mk, ru, ol, re, ms, sp, dy, rfl, hn, hn9, hb, hch, hD, hz⟩ := h
  have hp9 := pow_le9 hn9
  have h4 : 2 ^ n = 2 * 2 ^ (n - 1) := (pow_half (by omega)).symm
  refine AMet.of [(0, .ref 0), (1, .int x)] (by decide +kernel) rfl (Nat.le_of_ble_eq_true rfl) ?_
  refine aw_iload_n 1 D_br_turn_0 rfl rfl ?_
  refine aw_if_lt D_br_turn_1 (fun h => ?_) (fun h => ?_)
  · refine aw_iconst (-nI 1) D_br_turn_17 rfl ?_
    refine aw_ireturn D_br_turn_18 rfl rfl ?_
    exact ⟨rfl, rfl⟩
  · refine aw_iload_n 1 D_br_turn_4 rfl rfl ?_
    refine aw_aload_n 0 D_br_turn_5 rfl rfl ?_
    refine aw_get D_br_turn_6 rfl rfl ?_
    refine aw_get D_br_turn_9 rfl rfl ?_
    refine aw_iconst (nI 2) D_br_turn_12 rfl ?_
    first | with_reducible refine aw_idivN D_br_turn_13 (by omega) (by omega) (by omega) ?_ | refine aw_idiv D_br_turn_13 (by decide) ?_
    refine aw_icmp_lt D_br_turn_14 (fun h2 => ?_) (fun h2 => ?_)
    · exfalso
      obtain ⟨j, hj, rfl⟩ := nI_of h
      rw [nI_ltI hj (by omega)] at h2
      exact hx (vp_in_nI h2 (by omega))
    · refine aw_iconst (-nI 1) D_br_turn_17 rfl ?_
      refine aw_ireturn D_br_turn_18 rfl rfl ?_
      exact ⟨rfl, rfl⟩
theorem c_br_turnS {t : Nat} (ht : t < 2 ^ n / 2) (hp : ¬ pureTo b (2 ^ n / 2) = true) (h : CS n b tc fl la zs cs mo w) : AMet M_br_turn [.ref 0, .int (nI t)] w (Ex (some (.int (-nI 3))) w) 0 0 := by
  obtain ⟨ch, bn, c, pd, st, fa, o, be, pc, le, sz, wt, qu, kc, tw, mk, ru, ol, re, ms, sp, dy, rfl, hn, hn9, hb, hch, hD, hz⟩ := h
  have hp9 := pow_le9 hn9
  have h4 : 2 ^ n = 2 * 2 ^ (n - 1) := (pow_half (by omega)).symm
  refine AMet.of [(0, .ref 0), (1, .int (nI t))] (by decide +kernel) rfl (Nat.le_of_ble_eq_true rfl) ?_
  refine aw_iload_n 1 D_br_turn_0 rfl rfl ?_
  refine aw_if_ltN D_br_turn_1 (by omega) ?_
  refine aw_iload_n 1 D_br_turn_4 rfl rfl ?_
  refine aw_aload_n 0 D_br_turn_5 rfl rfl ?_
  refine aw_get D_br_turn_6 rfl rfl ?_
  refine aw_get D_br_turn_9 rfl rfl ?_
  refine aw_iconst (nI 2) D_br_turn_12 rfl ?_
  first | with_reducible refine aw_idivN D_br_turn_13 (by omega) (by omega) (by omega) ?_ | refine aw_idiv D_br_turn_13 (by decide) ?_
  refine aw_icmp_ltN D_br_turn_14 (by omega) (by omega) (fun h => ?_) (fun h => absurd h (by omega))
  refine aw_aload_n 0 D_br_turn_19 rfl rfl ?_
  refine aw_get D_br_turn_20 rfl rfl ?_
  refine aw_callV1 (As := []) D_br_turn_23 kv_rg_isPure (c_rg_pure hp9 (by omega) hb) rfl rfl rfl rfl rfl (Nat.le_of_ble_eq_true rfl) (Nat.zero_le _) (Nat.zero_le _) ?_
  rw [if_neg hp]
  refine aw_if_neN D_br_turn_26 (by omega) (fun h => absurd h (by omega)) (fun h => ?_)
  refine aw_bipush (-nI 3) D_br_turn_29 rfl ?_
  refine aw_ireturn D_br_turn_31 rfl rfl ?_
  exact ⟨rfl, rfl⟩
theorem c_br_joinS (hp : ¬ pureTo b (2 ^ n / 2) = true) (h : CS n b tc fl la zs cs mo w) : AMet M_br_join [.ref 0] w (Ex (some (.int (-nI 3))) w) 0 0 := by
  obtain ⟨ch, bn, c, pd, st, fa, o, be, pc, le, sz, wt, qu, kc, tw, mk, ru, ol, re, ms, sp, dy, rfl, hn, hn9, hb, hch, hD, hz⟩ := h
  have hp9 := pow_le9 hn9
  have h4 : 2 ^ n = 2 * 2 ^ (n - 1) := (pow_half (by omega)).symm
  refine AMet.of [(0, .ref 0)] (by decide +kernel) rfl (Nat.le_of_ble_eq_true rfl) ?_
  refine aw_aload_n 0 D_br_join_0 rfl rfl ?_
  refine aw_get D_br_join_1 rfl rfl ?_
  refine aw_callV1 (As := []) D_br_join_4 kv_rg_isPure (c_rg_pure hp9 (by omega) hb) rfl rfl rfl rfl rfl (Nat.le_of_ble_eq_true rfl) (Nat.zero_le _) (Nat.zero_le _) ?_
  rw [if_neg hp]
  refine aw_if_neN D_br_join_7 (by omega) (fun h => absurd h (by omega)) (fun h => ?_)
  refine aw_bipush (-nI 3) D_br_join_10 rfl ?_
  refine aw_ireturn D_br_join_12 rfl rfl ?_
  exact ⟨rfl, rfl⟩
theorem c_br_waysS (hp : ¬ pureTo b (2 ^ n / 2) = true) (h : CS n b tc fl la zs cs mo w) : AMet M_br_ways [.ref 0] w (Ex (some (.int (-nI 3))) w) 0 0 := by
  obtain ⟨ch, bn, c, pd, st, fa, o, be, pc, le, sz, wt, qu, kc, tw, mk, ru, ol, re, ms, sp, dy, rfl, hn, hn9, hb, hch, hD, hz⟩ := h
  have hp9 := pow_le9 hn9
  have h4 : 2 ^ n = 2 * 2 ^ (n - 1) := (pow_half (by omega)).symm
  refine AMet.of [(0, .ref 0)] (by decide +kernel) rfl (Nat.le_of_ble_eq_true rfl) ?_
  refine aw_aload_n 0 D_br_ways_0 rfl rfl ?_
  refine aw_get D_br_ways_1 rfl rfl ?_
  refine aw_callV1 (As := []) D_br_ways_4 kv_rg_isPure (c_rg_pure hp9 (by omega) hb) rfl rfl rfl rfl rfl (Nat.le_of_ble_eq_true rfl) (Nat.zero_le _) (Nat.zero_le _) ?_
  rw [if_neg hp]
  refine aw_if_neN D_br_ways_7 (by omega) (fun h => absurd h (by omega)) (fun h => ?_)
  refine aw_bipush (-nI 3) D_br_ways_10 rfl ?_
  refine aw_ireturn D_br_ways_12 rfl rfl ?_
  exact ⟨rfl, rfl⟩
theorem c_br_ways (hp : pureTo b (2 ^ n / 2) = true) (hR : cR n b ≤ 65) (h : CS n b tc fl la zs cs mo w) : AMet M_br_ways [.ref 0] w (fun r w' => r = some (.int (nI (wys (cRo n b) (cR n b) (2 ^ n / 2)))) ∧ CS n b tc fl la zs cs mo w') 1 4096 := by
  obtain ⟨ch, bn, c, pd, st, fa, o, be, pc, le, sz, wt, qu, kc, tw, mk, ru, ol, re, ms, sp, dy, rfl, hn, hn9, hb, hch, hD, hz⟩ := h
  have hp9 := pow_le9 hn9
  have h4 : 2 ^ n = 2 * 2 ^ (n - 1) := (pow_half (by omega)).symm
  refine AMet.of [(0, .ref 0)] (by decide +kernel) rfl (Nat.le_of_ble_eq_true rfl) ?_
  refine aw_aload_n 0 D_br_ways_0 rfl rfl ?_
  refine aw_get D_br_ways_1 rfl rfl ?_
  refine aw_callV1 (As := []) D_br_ways_4 kv_rg_isPure (c_rg_pure hp9 (by omega) hb) rfl rfl rfl rfl rfl (Nat.le_of_ble_eq_true rfl) (Nat.zero_le _) (Nat.zero_le _) ?_
  rw [if_pos hp]
  refine aw_if_neN D_br_ways_7 (by omega) (fun h => ?_) (fun h => absurd h (by omega))
  refine aw_aload_n 0 D_br_ways_13 rfl rfl ?_
  refine aw_get D_br_ways_14 rfl rfl ?_
  refine aw_aload_n 0 D_br_ways_17 rfl rfl ?_
  refine aw_get D_br_ways_18 rfl rfl ?_
  refine aw_aload_n 0 D_br_ways_21 rfl rfl ?_
  refine aw_callV (As := []) D_br_ways_22 kv_br_foundRings (c_br_found hn hn9 hb hch) rfl rfl rfl rfl rfl (Nat.le_of_ble_eq_true rfl) (Nat.zero_le _) (Nat.zero_le _) (fun r w' hp => ?_)
  obtain ⟨rfl, c, pd, st, fa, o, be, pc, le, sz, wt, qu, rfl, hF⟩ := hp
  have hcan := hF.can (by omega) hb
  show AW M_br_ways noP _ 1 4096 25 _ [.ref 2, .ref 1, .ref 3] _ _ _
  refine aw_callV (As := [_, _]) D_br_ways_25 kv_tr_count (c_tr_count hn hn9 rfl hb hF (by rw [hcan.1]; exact hR) hD) rfl rfl rfl rfl rfl (Nat.le_of_ble_eq_true rfl) (by decide) (by decide) (fun r w' hp => ?_)
  obtain ⟨rfl, kc, tw, dy, rfl, hD⟩ := hp
  have hj : wys (fun s => (o s).getD 0) c (2 ^ n / 2) = wys (cRo n b) (cR n b) (2 ^ n / 2) := by
    rw [hcan.1]
    exact wys_congr (H := 2 ^ n / 2) (fun s hs => (hcan.2.2.1 s (by omega)).1)
  rw [hj]
  show AW M_br_ways noP _ 1 4096 28 _ [.int (nI (wys (cRo n b) (cR n b) (2 ^ n / 2)))] _ _ _
  refine aw_ireturn D_br_ways_28 rfl rfl ?_
  exact ⟨rfl, 0, bn, c, pd, st, fa, o, be, pc, le, sz, wt, qu, kc, tw, mk, ru, ol, re, ms, sp, dy, rfl, hn, hn9, hb, Or.inr ⟨rfl, hF⟩, hD, hz⟩
theorem c_br_prefT {p : Nat} (hp : p ≤ 1) (hb2 : ∀ k, (pfr n p (pf0 (2 ^ n) p b) (2 ^ n)).2.2 k ≤ 1) (h : CS n b tc fl la zs cs mo w) : AMet M_br_prefer [.ref 0, .int (nI p)] w (fun r w' => r = some (.int (nI (fb_sm (pfr n p (pf0 (2 ^ n) p b) (2 ^ n)).2.2 (2 ^ n)))) ∧ CS n (pfr n p (pf0 (2 ^ n) p b) (2 ^ n)).2.2 tc fl la zs cs mo w') 0 0 := by
  obtain ⟨ch, bn, c, pd, st, fa, o, be, pc, le, sz, wt, qu, kc, tw, mk, ru, ol, re, ms, sp, dy, rfl, hn, hn9, hb, hch, hD, hz⟩ := h
  have hp9 := pow_le9 hn9
  have h4 : 2 ^ n = 2 * 2 ^ (n - 1) := (pow_half (by omega)).symm
  refine AMet.of [(0, .ref 0), (1, .int (nI p))] (by decide +kernel) rfl (Nat.le_of_ble_eq_true rfl) ?_
  refine aw_iload_n 1 D_br_prefer_0 rfl rfl ?_
  refine aw_callS1 (As := [_]) D_br_prefer_1 kv_br_isBit (c_br_isBitT hp) rfl rfl (Nat.le_of_ble_eq_true rfl) (Nat.zero_le _) (Nat.zero_le _) ?_
  refine aw_if_neN D_br_prefer_4 (by omega) (fun h => ?_) (fun h => absurd h (by omega))
  refine aw_aload_n 0 D_br_prefer_10 rfl rfl ?_
  refine aw_get D_br_prefer_11 rfl rfl ?_
  refine aw_iload_n 1 D_br_prefer_14 rfl rfl ?_
  refine aw_callVv (As := [_]) D_br_prefer_15 kv_rg_fillPreferring (c_rg_prefer hn hn9 rfl hp) rfl rfl rfl rfl rfl (Nat.le_of_ble_eq_true rfl) (Nat.zero_le _) (Nat.zero_le _) ?_
  refine aw_aload_n 0 D_br_prefer_18 rfl rfl ?_
  refine aw_get D_br_prefer_19 rfl rfl ?_
  refine aw_callV1 (As := []) D_br_prefer_22 kv_rg_countOnes (c_rg_ones hp9 hb2) rfl rfl rfl rfl rfl (Nat.le_of_ble_eq_true rfl) (Nat.zero_le _) (Nat.zero_le _) ?_
  refine aw_ireturn D_br_prefer_25 rfl rfl ?_
  exact ⟨rfl, 1, _, c, pd, st, fa, o, be, pc, le, sz, wt, qu, kc, tw, mk, ru, ol, re, ms, sp, dy, rfl, hn, hn9, hb2, Or.inl rfl, hD, hz⟩
theorem c_br_prefO {x : Int32} (hx : ¬ vp_in x 2) : AMet M_br_prefer [.ref 0, .int x] w (Ex (some (.int (-nI 2))) w) 0 0 := by
  refine AMet.of [(0, .ref 0), (1, .int x)] (by decide +kernel) rfl (Nat.le_of_ble_eq_true rfl) ?_
  refine aw_iload_n 1 D_br_prefer_0 rfl rfl ?_
  refine aw_callS1 (As := [_]) D_br_prefer_1 kv_br_isBit (c_br_isBitF hx) rfl rfl (Nat.le_of_ble_eq_true rfl) (Nat.zero_le _) (Nat.zero_le _) ?_
  refine aw_if_neN D_br_prefer_4 (by omega) (fun h => absurd h (by omega)) (fun h => ?_)
  refine aw_bipush (-nI 2) D_br_prefer_7 rfl ?_
  refine aw_ireturn D_br_prefer_9 rfl rfl ?_
  exact ⟨rfl, rfl⟩
theorem c_br_ringU {x y : Int32} (hx : ¬ vp_in x (cR n b)) (h : CS n b tc fl la zs cs mo w) : AMet M_br_ring [.ref 0, .int x, .int y] w (fun r w' => r = some (.int (-nI 1)) ∧ CS n b tc fl la zs cs mo w') 0 0 := by
  obtain ⟨ch, bn, c, pd, st, fa, o, be, pc, le, sz, wt, qu, kc, tw, mk, ru, ol, re, ms, sp, dy, rfl, hn, hn9, hb, hch, hD, hz⟩ := h
  have hp9 := pow_le9 hn9
  have h4 : 2 ^ n = 2 * 2 ^ (n - 1) := (pow_half (by omega)).symm
  refine AMet.of [(0, .ref 0), (1, .int x), (2, .int y)] (by decide +kernel) rfl (Nat.le_of_ble_eq_true rfl) ?_
  refine aw_aload_n 0 D_br_ring_0 rfl rfl ?_
  refine aw_callV (As := []) D_br_ring_1 kv_br_foundRings (c_br_found hn hn9 hb hch) rfl rfl rfl rfl rfl (Nat.le_of_ble_eq_true rfl) (Nat.zero_le _) (Nat.zero_le _) (fun r w' hp => ?_)
  obtain ⟨rfl, c, pd, st, fa, o, be, pc, le, sz, wt, qu, rfl, hF⟩ := hp
  have hcan := hF.can (by omega) hb
  have hRl := hF.2.1.R_le
  show AW M_br_ring noP _ 0 0 4 _ [.ref 2] _ _ _
  refine aw_astore_n 3 D_br_ring_4 rfl (Nat.le_of_ble_eq_true rfl) rfl ?_
  refine aw_aload_n 3 D_br_ring_5 rfl rfl ?_
  refine aw_iload_n 1 D_br_ring_6 rfl rfl ?_
  refine aw_callV1 (As := [_]) D_br_ring_7 kv_ri_has (c_ri_hasF (by rw [hcan.1]; exact hx) (by omega)) rfl rfl rfl rfl rfl (Nat.le_of_ble_eq_true rfl) (Nat.zero_le _) (Nat.zero_le _) ?_
  refine aw_if_neN D_br_ring_10 (by omega) (fun h => absurd h (by omega)) (fun h => ?_)
  refine aw_iconst (-nI 1) D_br_ring_13 rfl ?_
  refine aw_ireturn D_br_ring_14 rfl rfl ?_
  exact ⟨rfl, 0, bn, c, pd, st, fa, o, be, pc, le, sz, wt, qu, kc, tw, mk, ru, ol, re, ms, sp, dy, rfl, hn, hn9, hb, Or.inr ⟨rfl, hF⟩, hD, hz⟩
theorem c_br_ringO {r : Nat} {y : Int32} (hr : r < cR n b) (hy : ¬ vp_in y 4) (h : CS n b tc fl la zs cs mo w) : AMet M_br_ring [.ref 0, .int (nI r), .int y] w (fun r w' => r = some (.int (-nI 2)) ∧ CS n b tc fl la zs cs mo w') 0 0 := by
  obtain ⟨ch, bn, c, pd, st, fa, o, be, pc, le, sz, wt, qu, kc, tw, mk, ru, ol, re, ms, sp, dy, rfl, hn, hn9, hb, hch, hD, hz⟩ := h
  have hp9 := pow_le9 hn9
  have h4 : 2 ^ n = 2 * 2 ^ (n - 1) := (pow_half (by omega)).symm
  refine AMet.of [(0, .ref 0), (1, .int (nI r)), (2, .int y)] (by decide +kernel) rfl (Nat.le_of_ble_eq_true rfl) ?_
  refine aw_aload_n 0 D_br_ring_0 rfl rfl ?_
  refine aw_callV (As := []) D_br_ring_1 kv_br_foundRings (c_br_found hn hn9 hb hch) rfl rfl rfl rfl rfl (Nat.le_of_ble_eq_true rfl) (Nat.zero_le _) (Nat.zero_le _) (fun r w' hp => ?_)
  obtain ⟨rfl, c, pd, st, fa, o, be, pc, le, sz, wt, qu, rfl, hF⟩ := hp
  have hcan := hF.can (by omega) hb
  have hRl := hF.2.1.R_le
  show AW M_br_ring noP _ 0 0 4 _ [.ref 2] _ _ _
  refine aw_astore_n 3 D_br_ring_4 rfl (Nat.le_of_ble_eq_true rfl) rfl ?_
  refine aw_aload_n 3 D_br_ring_5 rfl rfl ?_
  refine aw_iload_n 1 D_br_ring_6 rfl rfl ?_
  refine aw_callV1 (As := [_]) D_br_ring_7 kv_ri_has (c_ri_hasT (by rw [hcan.1]; exact hr) (by omega)) rfl rfl rfl rfl rfl (Nat.le_of_ble_eq_true rfl) (Nat.zero_le _) (Nat.zero_le _) ?_
  refine aw_if_neN D_br_ring_10 (by omega) (fun h => ?_) (fun h => absurd h (by omega))
  refine aw_iload_n 2 D_br_ring_15 rfl rfl ?_
  refine aw_tableOut (tgt := 82) D_br_ring_16 (sw_out (N := 3) hy) (by decide) ?_
  refine aw_bipush (-nI 2) D_br_ring_82 rfl ?_
  refine aw_ireturn D_br_ring_84 rfl rfl ?_
  exact ⟨rfl, 0, bn, c, pd, st, fa, o, be, pc, le, sz, wt, qu, kc, tw, mk, ru, ol, re, ms, sp, dy, rfl, hn, hn9, hb, Or.inr ⟨rfl, hF⟩, hD, hz⟩
theorem c_br_ring0 {r : Nat} (hr : r < cR n b) (h : CS n b tc fl la zs cs mo w) : AMet M_br_ring [.ref 0, .int (nI r), .int (nI 0)] w (fun r' w' => r' = some (.int (nI (cSz n b r))) ∧ CS n b tc fl la zs cs mo w') 0 0 := by
  obtain ⟨ch, bn, c, pd, st, fa, o, be, pc, le, sz, wt, qu, kc, tw, mk, ru, ol, re, ms, sp, dy, rfl, hn, hn9, hb, hch, hD, hz⟩ := h
  have hp9 := pow_le9 hn9
  have h4 : 2 ^ n = 2 * 2 ^ (n - 1) := (pow_half (by omega)).symm
  refine AMet.of [(0, .ref 0), (1, .int (nI r)), (2, .int (nI 0))] (by decide +kernel) rfl (Nat.le_of_ble_eq_true rfl) ?_
  refine aw_aload_n 0 D_br_ring_0 rfl rfl ?_
  refine aw_callV (As := []) D_br_ring_1 kv_br_foundRings (c_br_found hn hn9 hb hch) rfl rfl rfl rfl rfl (Nat.le_of_ble_eq_true rfl) (Nat.zero_le _) (Nat.zero_le _) (fun r w' hp => ?_)
  obtain ⟨rfl, c, pd, st, fa, o, be, pc, le, sz, wt, qu, rfl, hF⟩ := hp
  have hcan := hF.can (by omega) hb
  have hRl := hF.2.1.R_le
  show AW M_br_ring noP _ 0 0 4 _ [.ref 2] _ _ _
  refine aw_astore_n 3 D_br_ring_4 rfl (Nat.le_of_ble_eq_true rfl) rfl ?_
  refine aw_aload_n 3 D_br_ring_5 rfl rfl ?_
  refine aw_iload_n 1 D_br_ring_6 rfl rfl ?_
  have hrc : r < c := by rw [hcan.1]; exact hr
  refine aw_callV1 (As := [_]) D_br_ring_7 kv_ri_has (c_ri_hasT hrc (by omega)) rfl rfl rfl rfl rfl (Nat.le_of_ble_eq_true rfl) (Nat.zero_le _) (Nat.zero_le _) ?_
  refine aw_if_neN D_br_ring_10 (by omega) (fun h => ?_) (fun h => absurd h (by omega))
  refine aw_iload_n 2 D_br_ring_15 rfl rfl ?_
  refine aw_tableIn (off := 32) (tgt := 48) D_br_ring_16 (by decide) (by decide) (by decide) (by decide) ?_
  refine aw_aload_n 3 D_br_ring_48 rfl rfl ?_
  refine aw_get D_br_ring_49 rfl rfl ?_
  refine aw_iload_n 1 D_br_ring_52 rfl rfl ?_
  refine aw_ialdN D_br_ring_53 rfl (by omega) (by omega) ?_
  rw [show nF sz r = nI (cSz n b r) from congrArg nI (hcan.2.1 r hrc).2]
  refine aw_ireturn D_br_ring_54 rfl rfl ?_
  exact ⟨rfl, 0, bn, c, pd, st, fa, o, be, pc, le, sz, wt, qu, kc, tw, mk, ru, ol, re, ms, sp, dy, rfl, hn, hn9, hb, Or.inr ⟨rfl, hF⟩, hD, hz⟩
theorem c_br_ring1 {r : Nat} (hr : r < cR n b) (h : CS n b tc fl la zs cs mo w) : AMet M_br_ring [.ref 0, .int (nI r), .int (nI 1)] w (fun r' w' => r' = some (.int (nI (cLe n b r))) ∧ CS n b tc fl la zs cs mo w') 0 0 := by
  obtain ⟨ch, bn, c, pd, st, fa, o, be, pc, le, sz, wt, qu, kc, tw, mk, ru, ol, re, ms, sp, dy, rfl, hn, hn9, hb, hch, hD, hz⟩ := h
  have hp9 := pow_le9 hn9
  have h4 : 2 ^ n = 2 * 2 ^ (n - 1) := (pow_half (by omega)).symm
  refine AMet.of [(0, .ref 0), (1, .int (nI r)), (2, .int (nI 1))] (by decide +kernel) rfl (Nat.le_of_ble_eq_true rfl) ?_
  refine aw_aload_n 0 D_br_ring_0 rfl rfl ?_
  refine aw_callV (As := []) D_br_ring_1 kv_br_foundRings (c_br_found hn hn9 hb hch) rfl rfl rfl rfl rfl (Nat.le_of_ble_eq_true rfl) (Nat.zero_le _) (Nat.zero_le _) (fun r w' hp => ?_)
  obtain ⟨rfl, c, pd, st, fa, o, be, pc, le, sz, wt, qu, rfl, hF⟩ := hp
  have hcan := hF.can (by omega) hb
  have hRl := hF.2.1.R_le
  show AW M_br_ring noP _ 0 0 4 _ [.ref 2] _ _ _
  refine aw_astore_n 3 D_br_ring_4 rfl (Nat.le_of_ble_eq_true rfl) rfl ?_
  refine aw_aload_n 3 D_br_ring_5 rfl rfl ?_
  refine aw_iload_n 1 D_br_ring_6 rfl rfl ?_
  have hrc : r < c := by rw [hcan.1]; exact hr
  refine aw_callV1 (As := [_]) D_br_ring_7 kv_ri_has (c_ri_hasT hrc (by omega)) rfl rfl rfl rfl rfl (Nat.le_of_ble_eq_true rfl) (Nat.zero_le _) (Nat.zero_le _) ?_
  refine aw_if_neN D_br_ring_10 (by omega) (fun h => ?_) (fun h => absurd h (by omega))
  refine aw_iload_n 2 D_br_ring_15 rfl rfl ?_
  refine aw_tableIn (off := 39) (tgt := 55) D_br_ring_16 (by decide) (by decide) (by decide) (by decide) ?_
  refine aw_aload_n 3 D_br_ring_55 rfl rfl ?_
  refine aw_get D_br_ring_56 rfl rfl ?_
  refine aw_iload_n 1 D_br_ring_59 rfl rfl ?_
  refine aw_ialdN D_br_ring_60 rfl (by omega) (by omega) ?_
  rw [show nF le r = nI (cLe n b r) from congrArg nI (hcan.2.1 r hrc).1]
  refine aw_ireturn D_br_ring_61 rfl rfl ?_
  exact ⟨rfl, 0, bn, c, pd, st, fa, o, be, pc, le, sz, wt, qu, kc, tw, mk, ru, ol, re, ms, sp, dy, rfl, hn, hn9, hb, Or.inr ⟨rfl, hF⟩, hD, hz⟩
theorem c_br_ring2 {r : Nat} (hr : r < cR n b) (h : CS n b tc fl la zs cs mo w) : AMet M_br_ring [.ref 0, .int (nI r), .int (nI 2)] w (fun r' w' => r' = some (.int (nI (fb_sm (fun j => itr (nx n b) j (cLe n b r) % 2) (cSz n b r)))) ∧ CS n b tc fl la zs cs mo w') 0 0 := by
  obtain ⟨ch, bn, c, pd, st, fa, o, be, pc, le, sz, wt, qu, kc, tw, mk, ru, ol, re, ms, sp, dy, rfl, hn, hn9, hb, hch, hD, hz⟩ := h
  have hp9 := pow_le9 hn9
  have h4 : 2 ^ n = 2 * 2 ^ (n - 1) := (pow_half (by omega)).symm
  refine AMet.of [(0, .ref 0), (1, .int (nI r)), (2, .int (nI 2))] (by decide +kernel) rfl (Nat.le_of_ble_eq_true rfl) ?_
  refine aw_aload_n 0 D_br_ring_0 rfl rfl ?_
  refine aw_callV (As := []) D_br_ring_1 kv_br_foundRings (c_br_found hn hn9 hb hch) rfl rfl rfl rfl rfl (Nat.le_of_ble_eq_true rfl) (Nat.zero_le _) (Nat.zero_le _) (fun r w' hp => ?_)
  obtain ⟨rfl, c, pd, st, fa, o, be, pc, le, sz, wt, qu, rfl, hF⟩ := hp
  have hcan := hF.can (by omega) hb
  have hRl := hF.2.1.R_le
  show AW M_br_ring noP _ 0 0 4 _ [.ref 2] _ _ _
  refine aw_astore_n 3 D_br_ring_4 rfl (Nat.le_of_ble_eq_true rfl) rfl ?_
  refine aw_aload_n 3 D_br_ring_5 rfl rfl ?_
  refine aw_iload_n 1 D_br_ring_6 rfl rfl ?_
  have hrc : r < c := by rw [hcan.1]; exact hr
  refine aw_callV1 (As := [_]) D_br_ring_7 kv_ri_has (c_ri_hasT hrc (by omega)) rfl rfl rfl rfl rfl (Nat.le_of_ble_eq_true rfl) (Nat.zero_le _) (Nat.zero_le _) ?_
  refine aw_if_neN D_br_ring_10 (by omega) (fun h => ?_) (fun h => absurd h (by omega))
  refine aw_iload_n 2 D_br_ring_15 rfl rfl ?_
  refine aw_tableIn (off := 46) (tgt := 62) D_br_ring_16 (by decide) (by decide) (by decide) (by decide) ?_
  refine aw_aload_n 3 D_br_ring_62 rfl rfl ?_
  refine aw_aload_n 0 D_br_ring_63 rfl rfl ?_
  refine aw_get D_br_ring_64 rfl rfl ?_
  refine aw_iload_n 1 D_br_ring_67 rfl rfl ?_
  refine aw_callV1 (As := [_, _]) D_br_ring_68 kv_ri_countOnesOut (c_ri_onesOut hn hn9 hb hF hrc) rfl rfl rfl rfl rfl (Nat.le_of_ble_eq_true rfl) (Nat.zero_le _) (Nat.zero_le _) ?_
  rw [(hcan.2.1 r hrc).1, (hcan.2.1 r hrc).2]
  refine aw_ireturn D_br_ring_71 rfl rfl ?_
  exact ⟨rfl, 0, bn, c, pd, st, fa, o, be, pc, le, sz, wt, qu, kc, tw, mk, ru, ol, re, ms, sp, dy, rfl, hn, hn9, hb, Or.inr ⟨rfl, hF⟩, hD, hz⟩
theorem c_br_ring3 {r : Nat} (hr : r < cR n b) (h : CS n b tc fl la zs cs mo w) : AMet M_br_ring [.ref 0, .int (nI r), .int (nI 3)] w (fun r' w' => r' = some (.int (nI (fb_ct (fun s => decide (cRo n b s = r ∧ 0 < cBe n b s)) (2 ^ n)))) ∧ CS n b tc fl la zs cs mo w') 0 0 := by
  obtain ⟨ch, bn, c, pd, st, fa, o, be, pc, le, sz, wt, qu, kc, tw, mk, ru, ol, re, ms, sp, dy, rfl, hn, hn9, hb, hch, hD, hz⟩ := h
  have hp9 := pow_le9 hn9
  have h4 : 2 ^ n = 2 * 2 ^ (n - 1) := (pow_half (by omega)).symm
  refine AMet.of [(0, .ref 0), (1, .int (nI r)), (2, .int (nI 3))] (by decide +kernel) rfl (Nat.le_of_ble_eq_true rfl) ?_
  refine aw_aload_n 0 D_br_ring_0 rfl rfl ?_
  refine aw_callV (As := []) D_br_ring_1 kv_br_foundRings (c_br_found hn hn9 hb hch) rfl rfl rfl rfl rfl (Nat.le_of_ble_eq_true rfl) (Nat.zero_le _) (Nat.zero_le _) (fun r w' hp => ?_)
  obtain ⟨rfl, c, pd, st, fa, o, be, pc, le, sz, wt, qu, rfl, hF⟩ := hp
  have hcan := hF.can (by omega) hb
  have hRl := hF.2.1.R_le
  show AW M_br_ring noP _ 0 0 4 _ [.ref 2] _ _ _
  refine aw_astore_n 3 D_br_ring_4 rfl (Nat.le_of_ble_eq_true rfl) rfl ?_
  refine aw_aload_n 3 D_br_ring_5 rfl rfl ?_
  refine aw_iload_n 1 D_br_ring_6 rfl rfl ?_
  have hrc : r < c := by rw [hcan.1]; exact hr
  refine aw_callV1 (As := [_]) D_br_ring_7 kv_ri_has (c_ri_hasT hrc (by omega)) rfl rfl rfl rfl rfl (Nat.le_of_ble_eq_true rfl) (Nat.zero_le _) (Nat.zero_le _) ?_
  refine aw_if_neN D_br_ring_10 (by omega) (fun h => ?_) (fun h => absurd h (by omega))
  refine aw_iload_n 2 D_br_ring_15 rfl rfl ?_
  refine aw_tableIn (off := 56) (tgt := 72) D_br_ring_16 (by decide) (by decide) (by decide) (by decide) ?_
  refine aw_aload_n 3 D_br_ring_72 rfl rfl ?_
  refine aw_aload_n 0 D_br_ring_73 rfl rfl ?_
  refine aw_get D_br_ring_74 rfl rfl ?_
  refine aw_iload_n 1 D_br_ring_77 rfl rfl ?_
  refine aw_callV1 (As := [_, _]) D_br_ring_78 kv_ri_countBehind (c_ri_behind hn hn9 rfl hb hF hrc) rfl rfl rfl rfl rfl (Nat.le_of_ble_eq_true rfl) (Nat.zero_le _) (Nat.zero_le _) ?_
  rw [show fb_ct (fun s => decide ((o s).getD 0 = r ∧ 0 < be s)) (2 ^ n) = fb_ct (fun s => decide (cRo n b s = r ∧ 0 < cBe n b s)) (2 ^ n) from fb_ct_cong (fun s hs => by rw [(hcan.2.2.1 s hs).1, (hcan.2.2.1 s hs).2.1])]
  refine aw_ireturn D_br_ring_81 rfl rfl ?_
  exact ⟨rfl, 0, bn, c, pd, st, fa, o, be, pc, le, sz, wt, qu, kc, tw, mk, ru, ol, re, ms, sp, dy, rfl, hn, hn9, hb, Or.inr ⟨rfl, hF⟩, hD, hz⟩
theorem c_br_told0 (h : CS n b tc fl la zs cs mo w) : AMet M_br_told [.ref 0, .int (nI 0)] w (fun r w' => r = some (.int (nI (n))) ∧ CS n b tc fl la zs cs mo w') 0 0 := by
  obtain ⟨ch, bn, c, pd, st, fa, o, be, pc, le, sz, wt, qu, kc, tw, mk, ru, ol, re, ms, sp, dy, rfl, hn, hn9, hb, hch, hD, hz⟩ := h
  have hp9 := pow_le9 hn9
  have h4 : 2 ^ n = 2 * 2 ^ (n - 1) := (pow_half (by omega)).symm
  refine AMet.of [(0, .ref 0), (1, .int (nI 0))] (by decide +kernel) rfl (Nat.le_of_ble_eq_true rfl) ?_
  refine aw_iload_n 1 D_br_told_0 rfl rfl ?_
  refine aw_tableIn (off := 47) (tgt := 48) D_br_told_1 (by decide) (by decide) (by decide) (by decide) ?_
  refine aw_aload_n 0 D_br_told_48 rfl rfl ?_
  refine aw_get D_br_told_49 rfl rfl ?_
  refine aw_get D_br_told_52 rfl rfl ?_
  refine aw_ireturn D_br_told_55 rfl rfl ?_
  exact ⟨rfl, ch, bn, c, pd, st, fa, o, be, pc, le, sz, wt, qu, kc, tw, mk, ru, ol, re, ms, sp, dy, rfl, hn, hn9, hb, hch, hD, hz⟩
theorem c_br_told1 (h : CS n b tc fl la zs cs mo w) : AMet M_br_told [.ref 0, .int (nI 1)] w (fun r w' => r = some (.int (nI (2 ^ n))) ∧ CS n b tc fl la zs cs mo w') 0 0 := by
  obtain ⟨ch, bn, c, pd, st, fa, o, be, pc, le, sz, wt, qu, kc, tw, mk, ru, ol, re, ms, sp, dy, rfl, hn, hn9, hb, hch, hD, hz⟩ := h
  have hp9 := pow_le9 hn9
  have h4 : 2 ^ n = 2 * 2 ^ (n - 1) := (pow_half (by omega)).symm
  refine AMet.of [(0, .ref 0), (1, .int (nI 1))] (by decide +kernel) rfl (Nat.le_of_ble_eq_true rfl) ?_
  refine aw_iload_n 1 D_br_told_0 rfl rfl ?_
  refine aw_tableIn (off := 55) (tgt := 56) D_br_told_1 (by decide) (by decide) (by decide) (by decide) ?_
  refine aw_aload_n 0 D_br_told_56 rfl rfl ?_
  refine aw_get D_br_told_57 rfl rfl ?_
  refine aw_get D_br_told_60 rfl rfl ?_
  refine aw_ireturn D_br_told_63 rfl rfl ?_
  exact ⟨rfl, ch, bn, c, pd, st, fa, o, be, pc, le, sz, wt, qu, kc, tw, mk, ru, ol, re, ms, sp, dy, rfl, hn, hn9, hb, hch, hD, hz⟩
theorem c_br_told2 (h : CS n b tc fl la zs cs mo w) : AMet M_br_told [.ref 0, .int (nI 2)] w (fun r w' => r = some (.int (nI (cR n b))) ∧ CS n b tc fl la zs cs mo w') 0 0 := by
  obtain ⟨ch, bn, c, pd, st, fa, o, be, pc, le, sz, wt, qu, kc, tw, mk, ru, ol, re, ms, sp, dy, rfl, hn, hn9, hb, hch, hD, hz⟩ := h
  have hp9 := pow_le9 hn9
  have h4 : 2 ^ n = 2 * 2 ^ (n - 1) := (pow_half (by omega)).symm
  refine AMet.of [(0, .ref 0), (1, .int (nI 2))] (by decide +kernel) rfl (Nat.le_of_ble_eq_true rfl) ?_
  refine aw_iload_n 1 D_br_told_0 rfl rfl ?_
  refine aw_tableIn (off := 63) (tgt := 64) D_br_told_1 (by decide) (by decide) (by decide) (by decide) ?_
  refine aw_aload_n 0 D_br_told_64 rfl rfl ?_
  refine aw_callV (As := []) D_br_told_65 kv_br_foundRings (c_br_found hn hn9 hb hch) rfl rfl rfl rfl rfl (Nat.le_of_ble_eq_true rfl) (Nat.zero_le _) (Nat.zero_le _) (fun r w' hp => ?_)
  obtain ⟨rfl, c, pd, st, fa, o, be, pc, le, sz, wt, qu, rfl, hF⟩ := hp
  have hcan := hF.can (by omega) hb
  show AW M_br_told noP _ 0 0 68 _ [.ref 2] _ _ _
  refine aw_get D_br_told_68 rfl rfl ?_
  refine aw_ireturn D_br_told_71 rfl rfl ?_
  exact ⟨by rw [hcan.1], 0, bn, c, pd, st, fa, o, be, pc, le, sz, wt, qu, kc, tw, mk, ru, ol, re, ms, sp, dy, rfl, hn, hn9, hb, Or.inr ⟨rfl, hF⟩, hD, hz⟩
theorem c_br_told3 (h : CS n b tc fl la zs cs mo w) : AMet M_br_told [.ref 0, .int (nI 3)] w (fun r w' => r = some (.int (nI (2 ^ n - cPd n b))) ∧ CS n b tc fl la zs cs mo w') 0 0 := by
  obtain ⟨ch, bn, c, pd, st, fa, o, be, pc, le, sz, wt, qu, kc, tw, mk, ru, ol, re, ms, sp, dy, rfl, hn, hn9, hb, hch, hD, hz⟩ := h
  have hp9 := pow_le9 hn9
  have h4 : 2 ^ n = 2 * 2 ^ (n - 1) := (pow_half (by omega)).symm
  refine AMet.of [(0, .ref 0), (1, .int (nI 3))] (by decide +kernel) rfl (Nat.le_of_ble_eq_true rfl) ?_
  refine aw_iload_n 1 D_br_told_0 rfl rfl ?_
  refine aw_tableIn (off := 71) (tgt := 72) D_br_told_1 (by decide) (by decide) (by decide) (by decide) ?_
  refine aw_aload_n 0 D_br_told_72 rfl rfl ?_
  refine aw_get D_br_told_73 rfl rfl ?_
  refine aw_get D_br_told_76 rfl rfl ?_
  refine aw_aload_n 0 D_br_told_79 rfl rfl ?_
  refine aw_callV (As := []) D_br_told_80 kv_br_foundRings (c_br_found hn hn9 hb hch) rfl rfl rfl rfl rfl (Nat.le_of_ble_eq_true rfl) (Nat.zero_le _) (Nat.zero_le _) (fun r w' hp => ?_)
  obtain ⟨rfl, c, pd, st, fa, o, be, pc, le, sz, wt, qu, rfl, hF⟩ := hp
  have hcan := hF.can (by omega) hb
  have hpl : pd ≤ 2 ^ n := by rw [hF.2.2.1]; exact fb_ct_le _ _
  show AW M_br_told noP _ 0 0 83 _ [.ref 2, .int (nI (2 ^ n))] _ _ _
  refine aw_get D_br_told_83 rfl rfl ?_
  first | with_reducible refine aw_isubN D_br_told_86 (by omega) ?_ | refine aw_isub D_br_told_86 ?_
  refine aw_ireturn D_br_told_87 rfl rfl ?_
  exact ⟨by rw [hcan.2.2.2.1], 0, bn, c, pd, st, fa, o, be, pc, le, sz, wt, qu, kc, tw, mk, ru, ol, re, ms, sp, dy, rfl, hn, hn9, hb, Or.inr ⟨rfl, hF⟩, hD, hz⟩
theorem c_br_told4 (h : CS n b tc fl la zs cs mo w) : AMet M_br_told [.ref 0, .int (nI 4)] w (fun r w' => r = some (.int (nI (if pureTo b (2 ^ n / 2) then 1 else 0))) ∧ CS n b tc fl la zs cs mo w') 0 0 := by
  obtain ⟨ch, bn, c, pd, st, fa, o, be, pc, le, sz, wt, qu, kc, tw, mk, ru, ol, re, ms, sp, dy, rfl, hn, hn9, hb, hch, hD, hz⟩ := h
  have hp9 := pow_le9 hn9
  have h4 : 2 ^ n = 2 * 2 ^ (n - 1) := (pow_half (by omega)).symm
  refine AMet.of [(0, .ref 0), (1, .int (nI 4))] (by decide +kernel) rfl (Nat.le_of_ble_eq_true rfl) ?_
  refine aw_iload_n 1 D_br_told_0 rfl rfl ?_
  refine aw_tableIn (off := 87) (tgt := 88) D_br_told_1 (by decide) (by decide) (by decide) (by decide) ?_
  refine aw_aload_n 0 D_br_told_88 rfl rfl ?_
  refine aw_get D_br_told_89 rfl rfl ?_
  refine aw_callV1 (As := []) D_br_told_92 kv_rg_isPure (c_rg_pure hp9 (by omega) hb) rfl rfl rfl rfl rfl (Nat.le_of_ble_eq_true rfl) (Nat.zero_le _) (Nat.zero_le _) ?_
  by_cases hpu : pureTo b (2 ^ n / 2) = true
  · rw [if_pos hpu]
    refine aw_if_eqN D_br_told_95 (by omega) (fun h => absurd h (by omega)) (fun h => ?_)
    refine aw_iconst (nI 1) D_br_told_98 rfl ?_
    refine aw_goto D_br_told_99 ?_
    refine aw_ireturn D_br_told_103 rfl rfl ?_
    exact ⟨rfl, ch, bn, c, pd, st, fa, o, be, pc, le, sz, wt, qu, kc, tw, mk, ru, ol, re, ms, sp, dy, rfl, hn, hn9, hb, hch, hD, hz⟩
  · rw [if_neg hpu]
    refine aw_if_eqN D_br_told_95 (by omega) (fun h => ?_) (fun h => absurd h (by omega))
    refine aw_iconst (nI 0) D_br_told_102 rfl ?_
    refine aw_ireturn D_br_told_103 rfl rfl ?_
    exact ⟨rfl, ch, bn, c, pd, st, fa, o, be, pc, le, sz, wt, qu, kc, tw, mk, ru, ol, re, ms, sp, dy, rfl, hn, hn9, hb, hch, hD, hz⟩
theorem c_br_told5 (h : CS n b tc fl la zs cs mo w) : AMet M_br_told [.ref 0, .int (nI 5)] w (fun r w' => r = some (.int (nI (fb_sm b (2 ^ n)))) ∧ CS n b tc fl la zs cs mo w') 0 0 := by
  obtain ⟨ch, bn, c, pd, st, fa, o, be, pc, le, sz, wt, qu, kc, tw, mk, ru, ol, re, ms, sp, dy, rfl, hn, hn9, hb, hch, hD, hz⟩ := h
  have hp9 := pow_le9 hn9
  have h4 : 2 ^ n = 2 * 2 ^ (n - 1) := (pow_half (by omega)).symm
  refine AMet.of [(0, .ref 0), (1, .int (nI 5))] (by decide +kernel) rfl (Nat.le_of_ble_eq_true rfl) ?_
  refine aw_iload_n 1 D_br_told_0 rfl rfl ?_
  refine aw_tableIn (off := 103) (tgt := 104) D_br_told_1 (by decide) (by decide) (by decide) (by decide) ?_
  refine aw_aload_n 0 D_br_told_104 rfl rfl ?_
  refine aw_get D_br_told_105 rfl rfl ?_
  refine aw_callV1 (As := []) D_br_told_108 kv_rg_countOnes (c_rg_ones hp9 hb) rfl rfl rfl rfl rfl (Nat.le_of_ble_eq_true rfl) (Nat.zero_le _) (Nat.zero_le _) ?_
  refine aw_ireturn D_br_told_111 rfl rfl ?_
  exact ⟨rfl, ch, bn, c, pd, st, fa, o, be, pc, le, sz, wt, qu, kc, tw, mk, ru, ol, re, ms, sp, dy, rfl, hn, hn9, hb, hch, hD, hz⟩
theorem c_br_told6 (h : CS n b tc fl la zs cs mo w) : AMet M_br_told [.ref 0, .int (nI 6)] w (fun r w' => r = some (.int (nI (cFa n b))) ∧ CS n b tc fl la zs cs mo w') 0 0 := by
  obtain ⟨ch, bn, c, pd, st, fa, o, be, pc, le, sz, wt, qu, kc, tw, mk, ru, ol, re, ms, sp, dy, rfl, hn, hn9, hb, hch, hD, hz⟩ := h
  have hp9 := pow_le9 hn9
  have h4 : 2 ^ n = 2 * 2 ^ (n - 1) := (pow_half (by omega)).symm
  refine AMet.of [(0, .ref 0), (1, .int (nI 6))] (by decide +kernel) rfl (Nat.le_of_ble_eq_true rfl) ?_
  refine aw_iload_n 1 D_br_told_0 rfl rfl ?_
  refine aw_tableIn (off := 111) (tgt := 112) D_br_told_1 (by decide) (by decide) (by decide) (by decide) ?_
  refine aw_aload_n 0 D_br_told_112 rfl rfl ?_
  refine aw_callV (As := []) D_br_told_113 kv_br_foundRings (c_br_found hn hn9 hb hch) rfl rfl rfl rfl rfl (Nat.le_of_ble_eq_true rfl) (Nat.zero_le _) (Nat.zero_le _) (fun r w' hp => ?_)
  obtain ⟨rfl, c, pd, st, fa, o, be, pc, le, sz, wt, qu, rfl, hF⟩ := hp
  have hcan := hF.can (by omega) hb
  show AW M_br_told noP _ 0 0 116 _ [.ref 2] _ _ _
  refine aw_get D_br_told_116 rfl rfl ?_
  refine aw_ireturn D_br_told_119 rfl rfl ?_
  exact ⟨by rw [hcan.2.2.2.2.2], 0, bn, c, pd, st, fa, o, be, pc, le, sz, wt, qu, kc, tw, mk, ru, ol, re, ms, sp, dy, rfl, hn, hn9, hb, Or.inr ⟨rfl, hF⟩, hD, hz⟩
theorem c_br_told7 (h : CS n b tc fl la zs cs mo w) : AMet M_br_told [.ref 0, .int (nI 7)] w (fun r w' => r = some (.int (nI (strt n b))) ∧ CS n b tc fl la zs cs mo w') 0 0 := by
  obtain ⟨ch, bn, c, pd, st, fa, o, be, pc, le, sz, wt, qu, kc, tw, mk, ru, ol, re, ms, sp, dy, rfl, hn, hn9, hb, hch, hD, hz⟩ := h
  have hp9 := pow_le9 hn9
  have h4 : 2 ^ n = 2 * 2 ^ (n - 1) := (pow_half (by omega)).symm
  refine AMet.of [(0, .ref 0), (1, .int (nI 7))] (by decide +kernel) rfl (Nat.le_of_ble_eq_true rfl) ?_
  refine aw_iload_n 1 D_br_told_0 rfl rfl ?_
  refine aw_tableIn (off := 119) (tgt := 120) D_br_told_1 (by decide) (by decide) (by decide) (by decide) ?_
  refine aw_aload_n 0 D_br_told_120 rfl rfl ?_
  refine aw_callV (As := []) D_br_told_121 kv_br_foundRings (c_br_found hn hn9 hb hch) rfl rfl rfl rfl rfl (Nat.le_of_ble_eq_true rfl) (Nat.zero_le _) (Nat.zero_le _) (fun r w' hp => ?_)
  obtain ⟨rfl, c, pd, st, fa, o, be, pc, le, sz, wt, qu, rfl, hF⟩ := hp
  have hcan := hF.can (by omega) hb
  show AW M_br_told noP _ 0 0 124 _ [.ref 2] _ _ _
  refine aw_get D_br_told_124 rfl rfl ?_
  refine aw_ireturn D_br_told_127 rfl rfl ?_
  exact ⟨by rw [hcan.2.2.2.2.1], 0, bn, c, pd, st, fa, o, be, pc, le, sz, wt, qu, kc, tw, mk, ru, ol, re, ms, sp, dy, rfl, hn, hn9, hb, Or.inr ⟨rfl, hF⟩, hD, hz⟩
theorem c_br_toldO {x : Int32} (hx : ¬ vp_in x 8) : AMet M_br_told [.ref 0, .int x] w (Ex (some (.int (-nI 2))) w) 0 0 := by
  refine AMet.of [(0, .ref 0), (1, .int x)] (by decide +kernel) rfl (Nat.le_of_ble_eq_true rfl) ?_
  refine aw_iload_n 1 D_br_told_0 rfl rfl ?_
  refine aw_tableOut (tgt := 128) D_br_told_1 (sw_out (N := 7) hx) (by decide) ?_
  refine aw_bipush (-nI 2) D_br_told_128 rfl ?_
  refine aw_ireturn D_br_told_130 rfl rfl ?_
  exact ⟨rfl, rfl⟩
theorem c_br_trace (h : CS n b tc fl la zs cs mo w) : AMet M_br_trace [.ref 0] w (Ex (some (.int tc)) w) 0 0 := by
  obtain ⟨ch, bn, c, pd, st, fa, o, be, pc, le, sz, wt, qu, kc, tw, mk, ru, ol, re, ms, sp, dy, rfl, hn, hn9, hb, hch, hD, hz⟩ := h
  have hp9 := pow_le9 hn9
  have h4 : 2 ^ n = 2 * 2 ^ (n - 1) := (pow_half (by omega)).symm
  refine AMet.of [(0, .ref 0)] (by decide +kernel) rfl (Nat.le_of_ble_eq_true rfl) ?_
  refine aw_aload_n 0 D_br_trace_0 rfl rfl ?_
  refine aw_get D_br_trace_1 rfl rfl ?_
  refine aw_ireturn D_br_trace_4 rfl rfl ?_
  exact ⟨rfl, rfl⟩
theorem c_br_fault (h : CS n b tc fl la zs cs mo w) : AMet M_br_fault [.ref 0] w (Ex (some (.int fl)) w) 0 0 := by
  obtain ⟨ch, bn, c, pd, st, fa, o, be, pc, le, sz, wt, qu, kc, tw, mk, ru, ol, re, ms, sp, dy, rfl, hn, hn9, hb, hch, hD, hz⟩ := h
  have hp9 := pow_le9 hn9
  have h4 : 2 ^ n = 2 * 2 ^ (n - 1) := (pow_half (by omega)).symm
  refine AMet.of [(0, .ref 0)] (by decide +kernel) rfl (Nat.le_of_ble_eq_true rfl) ?_
  refine aw_aload_n 0 D_br_fault_0 rfl rfl ?_
  refine aw_get D_br_fault_1 rfl rfl ?_
  refine aw_ireturn D_br_fault_4 rfl rfl ?_
  exact ⟨rfl, rfl⟩
end Br3
