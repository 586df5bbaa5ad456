/-! ### BitRings: what is asked of states and rings -/
section Br2
variable {n : Nat} {b : Nat → Nat} {tc fl : Int32} {la : Nat → Int32} {zs : Nat → Nat} {cs : Nat → Nat → Int64} {mo : List va_E} {w : Wd}
theorem c_br_stepT {s k : Nat} (hs : s < 2 ^ n) (hk : k < 2 ^ 63) (h : CS n b tc fl la zs cs mo w) : AMet M_br_step [.ref 0, .int (nI s), .long (lN k)] w (fun r w' => r = some (.int (nI (itr (nx n b) k s))) ∧ CS n b tc fl la zs cs mo w') 0 0 := by
  obtain ⟨ch, bn, c, pd, st, fa, o, be, pc, le, sz, wt, qu, kc, tw, mk, ru, ol, re, ms, sp, dy, rfl, hn, hn9, hb, hch, hD, hz⟩ := h
  have hp9 := pow_le9 hn9
  have hf := FT.hf (n := n) (b := b) (by omega) hb
  refine AMet.of [(0, .ref 0), (1, .int (nI s)), (2, .long (lN k))] (by decide +kernel) rfl (Nat.le_of_ble_eq_true rfl) ?_
  refine aw_aload_n 0 D_br_step_0 rfl rfl ?_
  refine aw_get D_br_step_1 rfl rfl ?_
  refine aw_iload_n 1 D_br_step_4 rfl rfl ?_
  refine aw_callV1 (As := [_]) D_br_step_5 kv_rg_has (c_rg_hasT hs hp9) rfl rfl rfl rfl rfl (Nat.le_of_ble_eq_true rfl) (Nat.zero_le _) (Nat.zero_le _) ?_
  refine aw_if_neN D_br_step_8 (by omega) (fun h => ?_) (fun h => absurd h (by omega))
  refine aw_lload_n 2 D_br_step_13 rfl rfl ?_
  refine aw_lconst (lN 0) D_br_step_14 rfl ?_
  refine aw_lcmp D_br_step_15 ?_
  refine aw_if_ge D_br_step_16 (fun h => ?_) (fun h => absurd ((lg_cmp_ge _ _).mpr ((pk_lLE (by omega) hk).mpr (Nat.zero_le k))) h)
  refine aw_aload_n 0 D_br_step_22 rfl rfl ?_
  refine aw_get D_br_step_23 rfl rfl ?_
  refine aw_iload_n 1 D_br_step_26 rfl rfl ?_
  refine aw_aload_n 0 D_br_step_27 rfl rfl ?_
  refine aw_callV (As := []) D_br_step_28 kv_br_foundRings (c_br_found hn hn9 hb hch) rfl rfl rfl rfl rfl (Nat.le_of_ble_eq_true rfl) (Nat.zero_le _) (Nat.zero_le _) (fun r w' hp => ?_)
  obtain ⟨rfl, c, pd, st, fa, o, be, pc, le, sz, wt, qu, rfl, hF⟩ := hp
  show AW M_br_step noP _ 0 0 31 _ [.ref 2, .int (nI s), .ref 1] _ _ _
  have hV := hF.2.1
  have hbl := hV.be_le hf hs
  have h2 := hV.sz_le hf (hV.1 s hs)
  have h1 := hV.sz_pos hs
  dsimp only at h1 h2
  have hml := Nat.mod_lt (k - be s) (show 0 < sz ((o s).getD 0) by omega)
  have hkk : (if k ≤ be s then k else be s + (k - be s) % sz ((o s).getD 0)) < 2 ^ 31 := by split <;> omega
  refine aw_iload_n 1 D_br_step_31 rfl rfl ?_
  refine aw_lload_n 2 D_br_step_32 rfl rfl ?_
  refine aw_callV1 (As := [_, _]) D_br_step_33 kv_ri_stepsThatMatter (c_ri_steps hn hn9 hb hF hs hk) rfl rfl rfl rfl rfl (Nat.le_of_ble_eq_true rfl) (Nat.zero_le _) (Nat.zero_le _) ?_
  refine aw_callV1 (As := [_, _]) D_br_step_36 kv_rg_walk (c_rg_walk (by omega) hn9 hs hb hkk) rfl rfl rfl rfl rfl (Nat.le_of_ble_eq_true rfl) (Nat.zero_le _) (Nat.zero_le _) ?_
  have e : itr (nx n b) (if k ≤ be s then k else be s + (k - be s) % sz ((o s).getD 0)) s = itr (nx n b) k s := by
    split
    · rfl
    · exact hV.steps hf hs (by omega)
  rw [e]
  refine aw_ireturn D_br_step_39 rfl rfl ?_
  exact ⟨rfl, 0, bn, c, pd, st, fa, o, be, pc, le, sz, wt, qu, kc, tw, mk, ru, ol, re, ms, sp, dy, rfl, hn, hn9, hb, Or.inr ⟨rfl, hF⟩, hD, hz⟩
theorem c_br_stepU {x : Int32} {v : Int64} (hx : ¬ vp_in x (2 ^ n)) (h : CS n b tc fl la zs cs mo w) : AMet M_br_step [.ref 0, .int x, .long v] w (Ex (some (.int (-nI 1))) w) 0 0 := by
  obtain ⟨ch, bn, c, pd, st, fa, o, be, pc, le, sz, wt, qu, kc, tw, mk, ru, ol, re, ms, sp, dy, rfl, hn, hn9, hb, hch, hD, hz⟩ := h
  have hp9 := pow_le9 hn9
  refine AMet.of [(0, .ref 0), (1, .int x), (2, .long v)] (by decide +kernel) rfl (Nat.le_of_ble_eq_true rfl) ?_
  refine aw_aload_n 0 D_br_step_0 rfl rfl ?_
  refine aw_get D_br_step_1 rfl rfl ?_
  refine aw_iload_n 1 D_br_step_4 rfl rfl ?_
  refine aw_callV1 (As := [_]) D_br_step_5 kv_rg_has (c_rg_hasF hx hp9) rfl rfl rfl rfl rfl (Nat.le_of_ble_eq_true rfl) (Nat.zero_le _) (Nat.zero_le _) ?_
  refine aw_if_neN D_br_step_8 (by omega) (fun h => absurd h (by omega)) (fun h => ?_)
  refine aw_iconst (-nI 1) D_br_step_11 rfl ?_
  refine aw_ireturn D_br_step_12 rfl rfl ?_
  exact ⟨rfl, rfl⟩
theorem c_br_stepO {s : Nat} {v : Int64} (hs : s < 2 ^ n) (hv : v < 0) (h : CS n b tc fl la zs cs mo w) : AMet M_br_step [.ref 0, .int (nI s), .long v] w (Ex (some (.int (-nI 2))) w) 0 0 := by
  obtain ⟨ch, bn, c, pd, st, fa, o, be, pc, le, sz, wt, qu, kc, tw, mk, ru, ol, re, ms, sp, dy, rfl, hn, hn9, hb, hch, hD, hz⟩ := h
  have hp9 := pow_le9 hn9
  refine AMet.of [(0, .ref 0), (1, .int (nI s)), (2, .long v)] (by decide +kernel) rfl (Nat.le_of_ble_eq_true rfl) ?_
  refine aw_aload_n 0 D_br_step_0 rfl rfl ?_
  refine aw_get D_br_step_1 rfl rfl ?_
  refine aw_iload_n 1 D_br_step_4 rfl rfl ?_
  refine aw_callV1 (As := [_]) D_br_step_5 kv_rg_has (c_rg_hasT hs hp9) rfl rfl rfl rfl rfl (Nat.le_of_ble_eq_true rfl) (Nat.zero_le _) (Nat.zero_le _) ?_
  refine aw_if_neN D_br_step_8 (by omega) (fun h => ?_) (fun h => absurd h (by omega))
  refine aw_lload_n 2 D_br_step_13 rfl rfl ?_
  refine aw_lconst (lN 0) D_br_step_14 rfl ?_
  refine aw_lcmp D_br_step_15 ?_
  refine aw_if_ge D_br_step_16 (fun h => ?_) (fun h => ?_)
  · rw [lg_cmp_ge] at h
    exact absurd hv (Int64.not_lt.mpr h)
  · refine aw_bipush (-nI 2) D_br_step_19 rfl ?_
    refine aw_ireturn D_br_step_21 rfl rfl ?_
    exact ⟨rfl, rfl⟩
theorem c_br_about {s j : Nat} (hs : s < 2 ^ n) (hj : j < 3) (h : CS n b tc fl la zs cs mo w) : AMet M_br_about [.ref 0, .int (nI s), .int (nI j)] w (fun r w' => r = some (.int (nI (match j with | 0 => cRo n b s | 1 => cBe n b s | _ => cPc n b s))) ∧ CS n b tc fl la zs cs mo w') 0 0 := by
  obtain ⟨ch, bn, c, pd, st, fa, o, be, pc, le, sz, wt, qu, kc, tw, mk, ru, ol, re, ms, sp, dy, rfl, hn, hn9, hb, hch, hD, hz⟩ := h
  have hp9 := pow_le9 hn9
  refine AMet.of [(0, .ref 0), (1, .int (nI s)), (2, .int (nI j))] (by decide +kernel) rfl (Nat.le_of_ble_eq_true rfl) ?_
  refine aw_aload_n 0 D_br_about_0 rfl rfl ?_
  refine aw_get D_br_about_1 rfl rfl ?_
  refine aw_iload_n 1 D_br_about_4 rfl rfl ?_
  refine aw_callV1 (As := [_]) D_br_about_5 kv_rg_has (c_rg_hasT hs hp9) rfl rfl rfl rfl rfl (Nat.le_of_ble_eq_true rfl) (Nat.zero_le _) (Nat.zero_le _) ?_
  refine aw_if_neN D_br_about_8 (by omega) (fun h => ?_) (fun h => absurd h (by omega))
  refine aw_iload_n 2 D_br_about_13 rfl rfl ?_
  rcases (show j = 0 ∨ j = 1 ∨ j = 2 by omega) with rfl | rfl | rfl
  · refine aw_tableIn (off := 30) (tgt := 44) D_br_about_14 (by decide) (by decide) (by decide) (by decide) ?_
    refine aw_aload_n 0 D_br_about_44 rfl rfl ?_
    refine aw_callV (As := []) D_br_about_45 kv_br_foundRings (c_br_found hn hn9 hb hch) rfl rfl rfl rfl rfl (Nat.le_of_ble_eq_true rfl) (Nat.zero_le _) (Nat.zero_le _) (fun r w' hp => ?_)
    obtain ⟨rfl, c, pd, st, fa, o, be, pc, le, sz, wt, qu, rfl, hF⟩ := hp
    show AW M_br_about noP _ 0 0 48 _ [.ref 2] _ _ _
    refine aw_get D_br_about_48 rfl rfl ?_
    refine aw_iload_n 1 D_br_about_51 rfl rfl ?_
    refine aw_ialdN D_br_about_52 rfl (by omega) (by omega) ?_
    rw [show oF (-nI 1) o s = nI (cRo n b s) by rw [show oF (-nI 1) o s = nI ((o s).getD 0) from oI_get (hF.1 s hs), ((hF.can (by omega) hb).2.2.1 s hs).1]]
    refine aw_ireturn D_br_about_53 rfl rfl ?_
    exact ⟨rfl, 0, bn, c, pd, st, fa, o, be, pc, le, sz, wt, qu, kc, tw, mk, ru, ol, re, ms, sp, dy, rfl, hn, hn9, hb, Or.inr ⟨rfl, hF⟩, hD, hz⟩
  · refine aw_tableIn (off := 40) (tgt := 54) D_br_about_14 (by decide) (by decide) (by decide) (by decide) ?_
    refine aw_aload_n 0 D_br_about_54 rfl rfl ?_
    refine aw_callV (As := []) D_br_about_55 kv_br_foundRings (c_br_found hn hn9 hb hch) rfl rfl rfl rfl rfl (Nat.le_of_ble_eq_true rfl) (Nat.zero_le _) (Nat.zero_le _) (fun r w' hp => ?_)
    obtain ⟨rfl, c, pd, st, fa, o, be, pc, le, sz, wt, qu, rfl, hF⟩ := hp
    show AW M_br_about noP _ 0 0 58 _ [.ref 2] _ _ _
    refine aw_get D_br_about_58 rfl rfl ?_
    refine aw_iload_n 1 D_br_about_61 rfl rfl ?_
    refine aw_ialdN D_br_about_62 rfl (by omega) (by omega) ?_
    rw [show nF be s = nI (cBe n b s) from congrArg nI ((hF.can (by omega) hb).2.2.1 s hs).2.1]
    refine aw_ireturn D_br_about_63 rfl rfl ?_
    exact ⟨rfl, 0, bn, c, pd, st, fa, o, be, pc, le, sz, wt, qu, kc, tw, mk, ru, ol, re, ms, sp, dy, rfl, hn, hn9, hb, Or.inr ⟨rfl, hF⟩, hD, hz⟩
  · refine aw_tableIn (off := 50) (tgt := 64) D_br_about_14 (by decide) (by decide) (by decide) (by decide) ?_
    refine aw_aload_n 0 D_br_about_64 rfl rfl ?_
    refine aw_callV (As := []) D_br_about_65 kv_br_foundRings (c_br_found hn hn9 hb hch) rfl rfl rfl rfl rfl (Nat.le_of_ble_eq_true rfl) (Nat.zero_le _) (Nat.zero_le _) (fun r w' hp => ?_)
    obtain ⟨rfl, c, pd, st, fa, o, be, pc, le, sz, wt, qu, rfl, hF⟩ := hp
    show AW M_br_about noP _ 0 0 68 _ [.ref 2] _ _ _
    refine aw_get D_br_about_68 rfl rfl ?_
    refine aw_iload_n 1 D_br_about_71 rfl rfl ?_
    refine aw_ialdN D_br_about_72 rfl (by omega) (by omega) ?_
    rw [show nF pc s = nI (cPc n b s) from congrArg nI ((hF.can (by omega) hb).2.2.1 s hs).2.2]
    refine aw_ireturn D_br_about_73 rfl rfl ?_
    exact ⟨rfl, 0, bn, c, pd, st, fa, o, be, pc, le, sz, wt, qu, kc, tw, mk, ru, ol, re, ms, sp, dy, rfl, hn, hn9, hb, Or.inr ⟨rfl, hF⟩, hD, hz⟩
theorem c_br_about3 {s : Nat} (hs : s < 2 ^ n) (h : CS n b tc fl la zs cs mo w) : AMet M_br_about [.ref 0, .int (nI s), .int (nI 3)] w (Ex (some (.int (nI (s ^^^ 1)))) w) 0 0 := by
  obtain ⟨ch, bn, c, pd, st, fa, o, be, pc, le, sz, wt, qu, kc, tw, mk, ru, ol, re, ms, sp, dy, rfl, hn, hn9, hb, hch, hD, hz⟩ := h
  have hp9 := pow_le9 hn9
  refine AMet.of [(0, .ref 0), (1, .int (nI s)), (2, .int (nI 3))] (by decide +kernel) rfl (Nat.le_of_ble_eq_true rfl) ?_
  refine aw_aload_n 0 D_br_about_0 rfl rfl ?_
  refine aw_get D_br_about_1 rfl rfl ?_
  refine aw_iload_n 1 D_br_about_4 rfl rfl ?_
  refine aw_callV1 (As := [_]) D_br_about_5 kv_rg_has (c_rg_hasT hs hp9) rfl rfl rfl rfl rfl (Nat.le_of_ble_eq_true rfl) (Nat.zero_le _) (Nat.zero_le _) ?_
  refine aw_if_neN D_br_about_8 (by omega) (fun h => ?_) (fun h => absurd h (by omega))
  refine aw_iload_n 2 D_br_about_13 rfl rfl ?_
  refine aw_tableIn (off := 60) (tgt := 74) D_br_about_14 (by decide) (by decide) (by decide) (by decide) ?_
  refine aw_iload_n 1 D_br_about_74 rfl rfl ?_
  refine aw_iconst (nI 1) D_br_about_75 rfl ?_
  first | with_reducible refine aw_ixorN D_br_about_76 ?_ | refine aw_ixor D_br_about_76 ?_
  refine aw_ireturn D_br_about_77 rfl rfl ?_
  exact ⟨rfl, rfl⟩
theorem sw_out {x : Int32} {N : Nat} (hx : ¬ vp_in x (N + 1)) : x.toInt < 0 ∨ (N : Int) < x.toInt := by
  rw [vp_in_iff] at hx
  omega
theorem c_br_aboutU {x y : Int32} (hx : ¬ vp_in x (2 ^ n)) (h : CS n b tc fl la zs cs mo w) : AMet M_br_about [.ref 0, .int x, .int y] w (Ex (some (.int (-nI 1))) w) 0 0 := by
  obtain ⟨ch, bn, c, pd, st, fa, o, be, pc, le, sz, wt, qu, kc, tw, mk, ru, ol, re, ms, sp, dy, rfl, hn, hn9, hb, hch, hD, hz⟩ := h
  have hp9 := pow_le9 hn9
  refine AMet.of [(0, .ref 0), (1, .int x), (2, .int y)] (by decide +kernel) rfl (Nat.le_of_ble_eq_true rfl) ?_
  refine aw_aload_n 0 D_br_about_0 rfl rfl ?_
  refine aw_get D_br_about_1 rfl rfl ?_
  refine aw_iload_n 1 D_br_about_4 rfl rfl ?_
  refine aw_callV1 (As := [_]) D_br_about_5 kv_rg_has (c_rg_hasF hx hp9) rfl rfl rfl rfl rfl (Nat.le_of_ble_eq_true rfl) (Nat.zero_le _) (Nat.zero_le _) ?_
  refine aw_if_neN D_br_about_8 (by omega) (fun h => absurd h (by omega)) (fun h => ?_)
  refine aw_iconst (-nI 1) D_br_about_11 rfl ?_
  refine aw_ireturn D_br_about_12 rfl rfl ?_
  exact ⟨rfl, rfl⟩
theorem c_br_aboutO {s : Nat} {y : Int32} (hs : s < 2 ^ n) (hy : ¬ vp_in y 4) (h : CS n b tc fl la zs cs mo w) : AMet M_br_about [.ref 0, .int (nI s), .int y] w (Ex (some (.int (-nI 2))) w) 0 0 := by
  obtain ⟨ch, bn, c, pd, st, fa, o, be, pc, le, sz, wt, qu, kc, tw, mk, ru, ol, re, ms, sp, dy, rfl, hn, hn9, hb, hch, hD, hz⟩ := h
  have hp9 := pow_le9 hn9
  refine AMet.of [(0, .ref 0), (1, .int (nI s)), (2, .int y)] (by decide +kernel) rfl (Nat.le_of_ble_eq_true rfl) ?_
  refine aw_aload_n 0 D_br_about_0 rfl rfl ?_
  refine aw_get D_br_about_1 rfl rfl ?_
  refine aw_iload_n 1 D_br_about_4 rfl rfl ?_
  refine aw_callV1 (As := [_]) D_br_about_5 kv_rg_has (c_rg_hasT hs hp9) rfl rfl rfl rfl rfl (Nat.le_of_ble_eq_true rfl) (Nat.zero_le _) (Nat.zero_le _) ?_
  refine aw_if_neN D_br_about_8 (by omega) (fun h => ?_) (fun h => absurd h (by omega))
  refine aw_iload_n 2 D_br_about_13 rfl rfl ?_
  refine aw_tableOut (tgt := 78) D_br_about_14 (sw_out (N := 3) hy) (by decide) ?_
  refine aw_bipush (-nI 2) D_br_about_78 rfl ?_
  refine aw_ireturn D_br_about_80 rfl rfl ?_
  exact ⟨rfl, rfl⟩
theorem c_br_turnT {t : Nat} (ht : t < 2 ^ n / 2) (hp : pureTo b (2 ^ n / 2) = true) (h : CS n b tc fl la zs cs mo w) : AMet M_br_turn [.ref 0, .int (nI t)] w (fun r w' => r = some (.int (nI (cR n (turnB b t)))) ∧ CS n (turnB b t) tc fl la zs cs mo w') 0 0 := by
  obtain ⟨ch, bn, c, pd, st, fa, o, be, pc, le, sz, wt, qu, kc, tw, mk, ru, ol, re, ms, sp, dy, rfl, hn, hn9, hb, hch, hD, hz⟩ := h
  have hp9 := pow_le9 hn9
  have h4 : 2 ^ n = 2 * 2 ^ (n - 1) := (pow_half (by omega)).symm
  have hb2 := turnB_le hb t
  refine AMet.of [(0, .ref 0), (1, .int (nI t))] (by decide +kernel) rfl (Nat.le_of_ble_eq_true rfl) ?_
  refine aw_iload_n 1 D_br_turn_0 rfl rfl ?_
  refine aw_if_ltN D_br_turn_1 (by omega) ?_
  refine aw_iload_n 1 D_br_turn_4 rfl rfl ?_
  refine aw_aload_n 0 D_br_turn_5 rfl rfl ?_
  refine aw_get D_br_turn_6 rfl rfl ?_
  refine aw_get D_br_turn_9 rfl rfl ?_
  refine aw_iconst (nI 2) D_br_turn_12 rfl ?_
  first | with_reducible refine aw_idivN D_br_turn_13 (by omega) (by omega) (by omega) ?_ | refine aw_idiv D_br_turn_13 (by decide) ?_
  refine aw_icmp_ltN D_br_turn_14 (by omega) (by omega) (fun h => ?_) (fun h => absurd h (by omega))
  refine aw_aload_n 0 D_br_turn_19 rfl rfl ?_
  refine aw_get D_br_turn_20 rfl rfl ?_
  refine aw_callV1 (As := []) D_br_turn_23 kv_rg_isPure (c_rg_pure hp9 (by omega) hb) rfl rfl rfl rfl rfl (Nat.le_of_ble_eq_true rfl) (Nat.zero_le _) (Nat.zero_le _) ?_
  rw [if_pos hp]
  refine aw_if_neN D_br_turn_26 (by omega) (fun h => ?_) (fun h => absurd h (by omega))
  refine aw_aload_n 0 D_br_turn_32 rfl rfl ?_
  refine aw_get D_br_turn_33 rfl rfl ?_
  refine aw_iload_n 1 D_br_turn_36 rfl rfl ?_
  refine aw_callVv (As := [_]) D_br_turn_37 kv_rg_turnPair (c_rg_turn (t := t) (by omega) hb) rfl rfl rfl rfl rfl (Nat.le_of_ble_eq_true rfl) (Nat.zero_le _) (Nat.zero_le _) ?_
  refine aw_aload_n 0 D_br_turn_40 rfl rfl ?_
  refine aw_callV (As := []) D_br_turn_41 kv_br_foundRings (c_br_found (b := turnB b t) hn hn9 hb2 (Or.inl rfl)) rfl rfl rfl rfl rfl (Nat.le_of_ble_eq_true rfl) (Nat.zero_le _) (Nat.zero_le _) (fun r w' hp => ?_)
  obtain ⟨rfl, c, pd, st, fa, o, be, pc, le, sz, wt, qu, rfl, hF⟩ := hp
  show AW M_br_turn noP _ 0 0 44 _ [.ref 2] _ _ _
  refine aw_get D_br_turn_44 rfl rfl ?_
  refine aw_ireturn D_br_turn_47 rfl rfl ?_
  exact ⟨by rw [(hF.can (by omega) hb2).1], 0, bn, c, pd, st, fa, o, be, pc, le, sz, wt, qu, kc, tw, mk, ru, ol, re, ms, sp, dy, rfl, hn, hn9, hb2, Or.inr ⟨rfl, hF⟩, hD, hz⟩
theorem c_br_join (hp : pureTo b (2 ^ n / 2) = true) (h : CS n b tc fl la zs cs mo w) : AMet M_br_join [.ref 0] w (fun r w' => r = some (.int (nI (jfr (cRo n b) (cR n b) (id, b, 0) (2 ^ n / 2)).2.2)) ∧ CS n (jfr (cRo n b) (cR n b) (id, b, 0) (2 ^ n / 2)).2.1 tc fl la zs cs mo w') 1 512 := by
  obtain ⟨ch, bn, c, pd, st, fa, o, be, pc, le, sz, wt, qu, kc, tw, mk, ru, ol, re, ms, sp, dy, rfl, hn, hn9, hb, hch, hD, hz⟩ := h
  have hp9 := pow_le9 hn9
  have h4 : 2 ^ n = 2 * 2 ^ (n - 1) := (pow_half (by omega)).symm
  refine AMet.of [(0, .ref 0)] (by decide +kernel) rfl (Nat.le_of_ble_eq_true rfl) ?_
  refine aw_aload_n 0 D_br_join_0 rfl rfl ?_
  refine aw_get D_br_join_1 rfl rfl ?_
  refine aw_callV1 (As := []) D_br_join_4 kv_rg_isPure (c_rg_pure hp9 (by omega) hb) rfl rfl rfl rfl rfl (Nat.le_of_ble_eq_true rfl) (Nat.zero_le _) (Nat.zero_le _) ?_
  rw [if_pos hp]
  refine aw_if_neN D_br_join_7 (by omega) (fun h => ?_) (fun h => absurd h (by omega))
  refine aw_aload_n 0 D_br_join_13 rfl rfl ?_
  refine aw_callV (As := []) D_br_join_14 kv_br_foundRings (c_br_found hn hn9 hb hch) rfl rfl rfl rfl rfl (Nat.le_of_ble_eq_true rfl) (Nat.zero_le _) (Nat.zero_le _) (fun r w' hp => ?_)
  obtain ⟨rfl, c, pd, st, fa, o, be, pc, le, sz, wt, qu, rfl, hF⟩ := hp
  show AW M_br_join noP _ 1 512 17 _ [.ref 2] _ _ _
  refine aw_aload_n 0 D_br_join_17 rfl rfl ?_
  refine aw_get D_br_join_18 rfl rfl ?_
  refine aw_callV (As := [_]) D_br_join_21 kv_ri_joinAll (c_ri_joinAll hn hn9 rfl hb hF) rfl rfl rfl rfl rfl (Nat.le_of_ble_eq_true rfl) (by decide) (by decide) (fun r w' hp => ?_)
  obtain ⟨rfl, ch', e, hch', rfl⟩ := hp
  have hcan := hF.can (by omega) hb
  have hj : jfr (fun s => (o s).getD 0) c (id, b, 0) (2 ^ n / 2) = jfr (cRo n b) (cR n b) (id, b, 0) (2 ^ n / 2) := by
    rw [hcan.1]
    exact jfr_congr (H := 2 ^ n / 2) (fun s hs => (hcan.2.2.1 s (by omega)).1) _ (Nat.le_refl _)
  have hb2 : ∀ t k, (jfr (fun s => (o s).getD 0) c (id, b, 0) t).2.1 k ≤ 1 := by
    intro t
    induction t with
    | zero => exact hb
    | succ t ih =>
      intro k
      show (jst _ _ _ _).2.1 k ≤ 1
      unfold jst
      split
      · exact ih k
      · exact turnB_le ih t k
  have hb3 := hb2 (2 ^ n / 2)
  rw [hj] at hch' hb3 ⊢
  show AW M_br_join noP _ 1 512 24 _ [.int (nI (jfr (cRo n b) (cR n b) (id, b, 0) (2 ^ n / 2)).2.2)] _ _ _
  have hTD : TD (dy ++ [e]) kc := by
    obtain ⟨d1, M, f, d2, d3⟩ := hD
    exact ⟨d1, M, f, d2, by rw [List.getElem?_append_left (List.getElem?_eq_some_iff.mp d3).1]; exact d3⟩
  refine aw_ireturn D_br_join_24 rfl rfl ?_
  refine ⟨rfl, ch', bn, c, pd, st, fa, o, be, pc, le, sz, wt, qu, kc, tw, mk, ru, ol, re, ms, sp, dy ++ [e], rfl, hn, hn9, hb3, ?_, hTD, hz⟩; rcases hch' with q | ⟨q, q2⟩; exact Or.inl q; exact Or.inr ⟨q, by rw [q2]; exact hF⟩
end Br2
