/-! ### the reference: ring, told, tell, weigh, as -/
section Mo4
variable {a0 a1 a2 a3 a4 a5 a7 m : List va_E} {fl tc : Int32} {n : Nat} {b : Nat → Nat} {la : Nat → Int32} {zs : Nat → Nat} {cs : Nat → Nat → Int64}
theorem c_mo_ringU {x y : Int32} (hx : ¬ vp_in x (cR n b)) (h : MS n b tc fl la zs cs m) : AMet M_mo_ring [.ref 6, .int x, .int y] [a0, a1, a2, a3, a4, a5, m, a7] (fun (r' : Option Value) (w' : Wd) => r' = some (.int (-nI 1)) ∧ ∃ m', w' = [a0, a1, a2, a3, a4, a5, m', a7] ∧ MS n b tc fl la zs cs m') 0 0 := by
  obtain ⟨fd, R, le, sz, o, be, pc, wt, qu, lm, sl, ce, tb, mt, ru, bf, kp, rfl, hn, hn9, hb, hfd, hL, hT⟩ := h
  have hp9 := pow_le9 hn9
  refine AMet.of [(0, .ref 6), (1, .int x), (2, .int y)] (by decide +kernel) rfl (Nat.le_of_ble_eq_true rfl) ?_
  refine aw_aload_n 0 D_mo_ring_0 rfl rfl ?_
  refine aw_callV (As := []) D_mo_ring_1 kv_mo_find (c_mo_find hn hn9 hb hfd) rfl rfl rfl rfl rfl (Nat.le_of_ble_eq_true rfl) (Nat.zero_le _) (Nat.zero_le _) (fun r w' hp => ?_)
  obtain ⟨rfl, R, le, sz, o, be, pc, wt, qu, rfl, pd, fa, hF⟩ := hp
  have hR := hF.2.1.R_le
  rw [← (hF.can (by omega) hb).1] at hx
  refine aw_iload_n 1 D_mo_ring_4 rfl rfl ?_
  refine aw_if_lt D_mo_ring_5 (fun h1 => ?_) (fun h1 => ?_)
  · refine aw_iconst (-nI 1) D_mo_ring_16 rfl ?_
    refine aw_ireturn D_mo_ring_17 rfl rfl ?_
    exact ⟨rfl, _, rfl, 1, R, le, sz, o, be, pc, wt, qu, lm, sl, ce, tb, mt, ru, bf, kp, rfl, hn, hn9, hb, (Or.inr ⟨rfl, pd, fa, hF⟩), hL, hT⟩
  · refine aw_iload_n 1 D_mo_ring_8 rfl rfl ?_
    refine aw_aload_n 0 D_mo_ring_9 rfl rfl ?_
    refine aw_get D_mo_ring_10 rfl rfl ?_
    refine aw_icmp_lt D_mo_ring_13 (fun h2 => absurd (vp_of h1 (Int32.not_le.mpr h2) (by omega)) hx) (fun h2 => ?_)
    refine aw_iconst (-nI 1) D_mo_ring_16 rfl ?_
    refine aw_ireturn D_mo_ring_17 rfl rfl ?_
    exact ⟨rfl, _, rfl, 1, R, le, sz, o, be, pc, wt, qu, lm, sl, ce, tb, mt, ru, bf, kp, rfl, hn, hn9, hb, (Or.inr ⟨rfl, pd, fa, hF⟩), hL, hT⟩
theorem c_mo_ringO {r : Nat} {y : Int32} (hr : r < cR n b) (hy : ¬ vp_in y 4) (h : MS n b tc fl la zs cs m) : AMet M_mo_ring [.ref 6, .int (nI r), .int y] [a0, a1, a2, a3, a4, a5, m, a7] (fun (r' : Option Value) (w' : Wd) => r' = some (.int (-nI 2)) ∧ ∃ m', w' = [a0, a1, a2, a3, a4, a5, m', a7] ∧ MS n b tc fl la zs cs m') 0 0 := by
  obtain ⟨fd, R, le, sz, o, be, pc, wt, qu, lm, sl, ce, tb, mt, ru, bf, kp, rfl, hn, hn9, hb, hfd, hL, hT⟩ := h
  have hp9 := pow_le9 hn9
  have hf := FT.hf (n := n) (b := b) (by omega) hb
  refine AMet.of [(0, .ref 6), (1, .int (nI r)), (2, .int y)] (by decide +kernel) rfl (Nat.le_of_ble_eq_true rfl) ?_
  refine aw_aload_n 0 D_mo_ring_0 rfl rfl ?_
  refine aw_callV (As := []) D_mo_ring_1 kv_mo_find (c_mo_find hn hn9 hb hfd) rfl rfl rfl rfl rfl (Nat.le_of_ble_eq_true rfl) (Nat.zero_le _) (Nat.zero_le _) (fun r w' hp => ?_)
  obtain ⟨rfl, R, le, sz, o, be, pc, wt, qu, rfl, pd, fa, hF⟩ := hp
  have hR := hF.2.1.R_le
  have hcan := hF.can (by omega) hb
  rw [← hcan.1] at hr
  refine aw_iload_n 1 D_mo_ring_4 rfl rfl ?_
  refine aw_if_ltN D_mo_ring_5 (by omega) ?_
  refine aw_iload_n 1 D_mo_ring_8 rfl rfl ?_
  refine aw_aload_n 0 D_mo_ring_9 rfl rfl ?_
  refine aw_get D_mo_ring_10 rfl rfl ?_
  refine aw_icmp_ltN D_mo_ring_13 (by omega) (by omega) (fun h2 => ?_) (fun h2 => absurd h2 (by omega))
  refine aw_iconst (nI 0) D_mo_ring_18 rfl ?_
  refine aw_istore_n 3 D_mo_ring_19 rfl (Nat.le_of_ble_eq_true rfl) rfl ?_
  refine aw_iload_n 2 D_mo_ring_20 rfl rfl ?_
  refine aw_tableOut (tgt := 167) D_mo_ring_21 (sw_out (N := 3) hy) (by decide) ?_
  refine aw_bipush (-nI 2) D_mo_ring_167 rfl ?_
  refine aw_ireturn D_mo_ring_169 rfl rfl ?_
  exact ⟨rfl, _, rfl, 1, R, le, sz, o, be, pc, wt, qu, lm, sl, ce, tb, mt, ru, bf, kp, rfl, hn, hn9, hb, (Or.inr ⟨rfl, pd, fa, hF⟩), hL, hT⟩
theorem c_mo_ring0 {r : Nat} (hr : r < cR n b) (h : MS n b tc fl la zs cs m) : AMet M_mo_ring [.ref 6, .int (nI r), .int (nI 0)] [a0, a1, a2, a3, a4, a5, m, a7] (fun (r' : Option Value) (w' : Wd) => r' = some (.int (nI (cSz n b r))) ∧ ∃ m', w' = [a0, a1, a2, a3, a4, a5, m', a7] ∧ MS n b tc fl la zs cs m') 0 0 := by
  obtain ⟨fd, R, le, sz, o, be, pc, wt, qu, lm, sl, ce, tb, mt, ru, bf, kp, rfl, hn, hn9, hb, hfd, hL, hT⟩ := h
  have hp9 := pow_le9 hn9
  have hf := FT.hf (n := n) (b := b) (by omega) hb
  refine AMet.of [(0, .ref 6), (1, .int (nI r)), (2, .int (nI 0))] (by decide +kernel) rfl (Nat.le_of_ble_eq_true rfl) ?_
  refine aw_aload_n 0 D_mo_ring_0 rfl rfl ?_
  refine aw_callV (As := []) D_mo_ring_1 kv_mo_find (c_mo_find hn hn9 hb hfd) rfl rfl rfl rfl rfl (Nat.le_of_ble_eq_true rfl) (Nat.zero_le _) (Nat.zero_le _) (fun r w' hp => ?_)
  obtain ⟨rfl, R, le, sz, o, be, pc, wt, qu, rfl, pd, fa, hF⟩ := hp
  have hR := hF.2.1.R_le
  have hcan := hF.can (by omega) hb
  rw [← hcan.1] at hr
  refine aw_iload_n 1 D_mo_ring_4 rfl rfl ?_
  refine aw_if_ltN D_mo_ring_5 (by omega) ?_
  refine aw_iload_n 1 D_mo_ring_8 rfl rfl ?_
  refine aw_aload_n 0 D_mo_ring_9 rfl rfl ?_
  refine aw_get D_mo_ring_10 rfl rfl ?_
  refine aw_icmp_ltN D_mo_ring_13 (by omega) (by omega) (fun h2 => ?_) (fun h2 => absurd h2 (by omega))
  refine aw_iconst (nI 0) D_mo_ring_18 rfl ?_
  refine aw_istore_n 3 D_mo_ring_19 rfl (Nat.le_of_ble_eq_true rfl) rfl ?_
  refine aw_iload_n 2 D_mo_ring_20 rfl rfl ?_
  refine aw_tableIn (off := 31) (tgt := 52) D_mo_ring_21 (by decide) (by decide) (by decide) (by decide) ?_
  refine aw_aload_n 0 D_mo_ring_52 rfl rfl ?_
  refine aw_get D_mo_ring_53 rfl rfl ?_
  refine aw_iload_n 1 D_mo_ring_56 rfl rfl ?_
  refine aw_ialdN D_mo_ring_57 rfl (by omega) (by omega) ?_
  rw [show nF sz r = nI (cSz n b r) from congrArg nI (hcan.2.1 r hr).2]
  refine aw_ireturn D_mo_ring_58 rfl rfl ?_
  exact ⟨rfl, _, rfl, 1, R, le, sz, o, be, pc, wt, qu, lm, sl, ce, tb, mt, ru, bf, kp, rfl, hn, hn9, hb, (Or.inr ⟨rfl, pd, fa, hF⟩), hL, hT⟩
theorem c_mo_ring1 {r : Nat} (hr : r < cR n b) (h : MS n b tc fl la zs cs m) : AMet M_mo_ring [.ref 6, .int (nI r), .int (nI 1)] [a0, a1, a2, a3, a4, a5, m, a7] (fun (r' : Option Value) (w' : Wd) => r' = some (.int (nI (cLe n b r))) ∧ ∃ m', w' = [a0, a1, a2, a3, a4, a5, m', a7] ∧ MS n b tc fl la zs cs m') 0 0 := by
  obtain ⟨fd, R, le, sz, o, be, pc, wt, qu, lm, sl, ce, tb, mt, ru, bf, kp, rfl, hn, hn9, hb, hfd, hL, hT⟩ := h
  have hp9 := pow_le9 hn9
  have hf := FT.hf (n := n) (b := b) (by omega) hb
  refine AMet.of [(0, .ref 6), (1, .int (nI r)), (2, .int (nI 1))] (by decide +kernel) rfl (Nat.le_of_ble_eq_true rfl) ?_
  refine aw_aload_n 0 D_mo_ring_0 rfl rfl ?_
  refine aw_callV (As := []) D_mo_ring_1 kv_mo_find (c_mo_find hn hn9 hb hfd) rfl rfl rfl rfl rfl (Nat.le_of_ble_eq_true rfl) (Nat.zero_le _) (Nat.zero_le _) (fun r w' hp => ?_)
  obtain ⟨rfl, R, le, sz, o, be, pc, wt, qu, rfl, pd, fa, hF⟩ := hp
  have hR := hF.2.1.R_le
  have hcan := hF.can (by omega) hb
  rw [← hcan.1] at hr
  refine aw_iload_n 1 D_mo_ring_4 rfl rfl ?_
  refine aw_if_ltN D_mo_ring_5 (by omega) ?_
  refine aw_iload_n 1 D_mo_ring_8 rfl rfl ?_
  refine aw_aload_n 0 D_mo_ring_9 rfl rfl ?_
  refine aw_get D_mo_ring_10 rfl rfl ?_
  refine aw_icmp_ltN D_mo_ring_13 (by omega) (by omega) (fun h2 => ?_) (fun h2 => absurd h2 (by omega))
  refine aw_iconst (nI 0) D_mo_ring_18 rfl ?_
  refine aw_istore_n 3 D_mo_ring_19 rfl (Nat.le_of_ble_eq_true rfl) rfl ?_
  refine aw_iload_n 2 D_mo_ring_20 rfl rfl ?_
  refine aw_tableIn (off := 38) (tgt := 59) D_mo_ring_21 (by decide) (by decide) (by decide) (by decide) ?_
  refine aw_aload_n 0 D_mo_ring_59 rfl rfl ?_
  refine aw_get D_mo_ring_60 rfl rfl ?_
  refine aw_iload_n 1 D_mo_ring_63 rfl rfl ?_
  refine aw_ialdN D_mo_ring_64 rfl (by omega) (by omega) ?_
  rw [show nF le r = nI (cLe n b r) from congrArg nI (hcan.2.1 r hr).1]
  refine aw_ireturn D_mo_ring_65 rfl rfl ?_
  exact ⟨rfl, _, rfl, 1, R, le, sz, o, be, pc, wt, qu, lm, sl, ce, tb, mt, ru, bf, kp, rfl, hn, hn9, hb, (Or.inr ⟨rfl, pd, fa, hF⟩), hL, hT⟩
theorem c_mo_ring2 {r : Nat} (hr : r < cR n b) (h : MS n b tc fl la zs cs m) : AMet M_mo_ring [.ref 6, .int (nI r), .int (nI 2)] [a0, a1, a2, a3, a4, a5, m, a7] (fun (r' : Option Value) (w' : Wd) => r' = some (.int (nI (fb_sm (fun j => itr (nx n b) j (cLe n b r) % 2) (cSz n b r)))) ∧ ∃ m', w' = [a0, a1, a2, a3, a4, a5, m', a7] ∧ MS n b tc fl la zs cs m') 0 0 := by
  obtain ⟨fd, R, le, sz, o, be, pc, wt, qu, lm, sl, ce, tb, mt, ru, bf, kp, rfl, hn, hn9, hb, hfd, hL, hT⟩ := h
  have hp9 := pow_le9 hn9
  have hf := FT.hf (n := n) (b := b) (by omega) hb
  refine AMet.of [(0, .ref 6), (1, .int (nI r)), (2, .int (nI 2))] (by decide +kernel) rfl (Nat.le_of_ble_eq_true rfl) ?_
  generalize hZ : (fun (r' : Option Value) (w' : Wd) => r' = some (.int (nI (fb_sm (fun j => itr (nx n b) j (cLe n b r) % 2) (cSz n b r)))) ∧ ∃ m', w' = [a0, a1, a2, a3, a4, a5, m', a7] ∧ MS n b tc fl la zs cs m') = ZZ
  refine aw_aload_n 0 D_mo_ring_0 rfl rfl ?_
  refine aw_callV (As := []) D_mo_ring_1 kv_mo_find (c_mo_find hn hn9 hb hfd) rfl rfl rfl rfl rfl (Nat.le_of_ble_eq_true rfl) (Nat.zero_le _) (Nat.zero_le _) (fun r w' hp => ?_)
  obtain ⟨rfl, R, le, sz, o, be, pc, wt, qu, rfl, pd, fa, hF⟩ := hp
  have hR := hF.2.1.R_le
  have hcan := hF.can (by omega) hb
  rw [← hcan.1] at hr
  refine aw_iload_n 1 D_mo_ring_4 rfl rfl ?_
  refine aw_if_ltN D_mo_ring_5 (by omega) ?_
  refine aw_iload_n 1 D_mo_ring_8 rfl rfl ?_
  refine aw_aload_n 0 D_mo_ring_9 rfl rfl ?_
  refine aw_get D_mo_ring_10 rfl rfl ?_
  refine aw_icmp_ltN D_mo_ring_13 (by omega) (by omega) (fun h2 => ?_) (fun h2 => absurd h2 (by omega))
  refine aw_iconst (nI 0) D_mo_ring_18 rfl ?_
  refine aw_istore_n 3 D_mo_ring_19 rfl (Nat.le_of_ble_eq_true rfl) rfl ?_
  refine aw_iload_n 2 D_mo_ring_20 rfl rfl ?_
  have hsum := hF.2.1.sum_ring hf hr (fun x => x % 2)
  rw [(hcan.2.1 r hr).1, (hcan.2.1 r hr).2] at hsum
  refine aw_tableIn (off := 45) (tgt := 66) D_mo_ring_21 (by decide) (by decide) (by decide) (by decide) ?_
  have key : ∀ (q i : Nat), i + q = 2 ^ n → AW M_mo_ring noP (Zp ZZ) 0 0 69 [(0, .ref 6), (1, .int (nI r)), (2, .int (nI 2)), (3, .int (nI (fb_sm (fun s => if (o s).getD 0 = r ∧ be s = 0 then s % 2 else 0) i))), (4, .int (nI i))] [] [a0, a1, a2, a3, a4, a5, MO fl tc n 1 R b le sz o be pc wt qu lm sl ce tb mt ru bf kp, a7] 0 0 := by
    intro q
    induction q with
    | zero =>
      intro i hi
      have hi : i = 2 ^ n := by omega
      subst hi
      refine aw_iload D_mo_ring_69 rfl ?_
      refine aw_aload_n 0 D_mo_ring_71 rfl rfl ?_
      refine aw_callV1 (As := []) D_mo_ring_72 kv_mo_states (c_mo_states hn9) rfl rfl rfl rfl rfl (Nat.le_of_ble_eq_true rfl) (Nat.zero_le _) (Nat.zero_le _) ?_
      refine aw_icmp_geN D_mo_ring_75 (by omega) (by omega) (fun h => ?_) (fun h => absurd h (by omega))
      rw [← hsum]
      refine aw_iload_n 3 D_mo_ring_116 rfl rfl ?_
      refine aw_ireturn D_mo_ring_117 rfl rfl ?_
      subst hZ; exact ⟨rfl, _, rfl, 1, R, le, sz, o, be, pc, wt, qu, lm, sl, ce, tb, mt, ru, bf, kp, rfl, hn, hn9, hb, (Or.inr ⟨rfl, pd, fa, hF⟩), hL, hT⟩
    | succ q ih =>
      intro i hi
      have hro := hF.2.1.1 i (by omega)
      have hbl := hF.2.1.be_le hf (show i < 2 ^ n by omega)
      try dsimp only at hro
      have hnext : ∀ v : Nat, v = (if (o i).getD 0 = r ∧ be i = 0 then i % 2 else 0) → AW M_mo_ring noP (Zp ZZ) 0 0 108 [(0, .ref 6), (1, .int (nI r)), (2, .int (nI 2)), (3, .int (nI (fb_sm (fun s => if (o s).getD 0 = r ∧ be s = 0 then s % 2 else 0) i))), (4, .int (nI i))] [.int (nI v), .int (nI (fb_sm (fun s => if (o s).getD 0 = r ∧ be s = 0 then s % 2 else 0) i))] [a0, a1, a2, a3, a4, a5, MO fl tc n 1 R b le sz o be pc wt qu lm sl ce tb mt ru bf kp, a7] 0 0 := by
        intro v hv
        first | with_reducible refine aw_iaddN D_mo_ring_108 ?_ | refine aw_iadd D_mo_ring_108 ?_
        refine aw_istore_n 3 D_mo_ring_109 rfl (Nat.le_of_ble_eq_true rfl) rfl ?_
        first | refine aw_incN D_mo_ring_110 rfl (Nat.le_of_ble_eq_true rfl) rfl ?_ | refine aw_inc D_mo_ring_110 rfl (Nat.le_of_ble_eq_true rfl) rfl ?_
        refine aw_goto D_mo_ring_113 ?_
        rw [hv]
        exact ih (i + 1) (by omega)
      refine aw_iload D_mo_ring_69 rfl ?_
      refine aw_aload_n 0 D_mo_ring_71 rfl rfl ?_
      refine aw_callV1 (As := []) D_mo_ring_72 kv_mo_states (c_mo_states hn9) rfl rfl rfl rfl rfl (Nat.le_of_ble_eq_true rfl) (Nat.zero_le _) (Nat.zero_le _) ?_
      refine aw_icmp_geN D_mo_ring_75 (by omega) (by omega) (fun h => absurd h (by omega)) (fun h => ?_)
      refine aw_iload_n 3 D_mo_ring_78 rfl rfl ?_
      refine aw_aload_n 0 D_mo_ring_79 rfl rfl ?_
      refine aw_get D_mo_ring_80 rfl rfl ?_
      refine aw_iload D_mo_ring_83 rfl ?_
      refine aw_ialdN D_mo_ring_85 rfl (by omega) (by omega) ?_
      refine aw_iload_n 1 D_mo_ring_86 rfl rfl ?_
      rw [show oF (-nI 9) o i = nI ((o i).getD 0) from oI_get (hF.1 i (by omega))]
      refine aw_icmp_neN D_mo_ring_87 (by omega) (by omega) (fun h => ?_) (fun h => ?_)
      · refine aw_iconst (nI 0) D_mo_ring_107 rfl ?_
        exact hnext _ (if_neg (fun z => h z.1)).symm
      · refine aw_aload_n 0 D_mo_ring_90 rfl rfl ?_
        refine aw_get D_mo_ring_91 rfl rfl ?_
        refine aw_iload D_mo_ring_94 rfl ?_
        refine aw_ialdN D_mo_ring_96 rfl (by omega) (by omega) ?_
        refine aw_if_neN D_mo_ring_97 (by omega) (fun h3 => ?_) (fun h3 => ?_)
        · refine aw_iconst (nI 0) D_mo_ring_107 rfl ?_
          exact hnext _ (if_neg (fun z => by omega)).symm
        · refine aw_iload D_mo_ring_100 rfl ?_
          refine aw_iconst (nI 1) D_mo_ring_102 rfl ?_
          first | with_reducible refine aw_iandN D_mo_ring_103 ?_ | refine aw_iand D_mo_ring_103 ?_
          refine aw_goto D_mo_ring_104 ?_
          rw [Nat.and_one_is_mod]
          exact hnext _ (if_pos ⟨h, h3⟩).symm
  refine aw_iconst (nI 0) D_mo_ring_66 rfl ?_
  refine aw_istore D_mo_ring_67 (Nat.le_of_ble_eq_true rfl) rfl ?_
  exact key (2 ^ n) 0 (by omega)
theorem c_mo_ring3 {r : Nat} (hr : r < cR n b) (h : MS n b tc fl la zs cs m) : AMet M_mo_ring [.ref 6, .int (nI r), .int (nI 3)] [a0, a1, a2, a3, a4, a5, m, a7] (fun (r' : Option Value) (w' : Wd) => r' = some (.int (nI (fb_ct (fun s => decide (cRo n b s = r ∧ 0 < cBe n b s)) (2 ^ n)))) ∧ ∃ m', w' = [a0, a1, a2, a3, a4, a5, m', a7] ∧ MS n b tc fl la zs cs m') 0 0 := by
  obtain ⟨fd, R, le, sz, o, be, pc, wt, qu, lm, sl, ce, tb, mt, ru, bf, kp, rfl, hn, hn9, hb, hfd, hL, hT⟩ := h
  have hp9 := pow_le9 hn9
  have hf := FT.hf (n := n) (b := b) (by omega) hb
  refine AMet.of [(0, .ref 6), (1, .int (nI r)), (2, .int (nI 3))] (by decide +kernel) rfl (Nat.le_of_ble_eq_true rfl) ?_
  generalize hZ : (fun (r' : Option Value) (w' : Wd) => r' = some (.int (nI (fb_ct (fun s => decide (cRo n b s = r ∧ 0 < cBe n b s)) (2 ^ n)))) ∧ ∃ m', w' = [a0, a1, a2, a3, a4, a5, m', a7] ∧ MS n b tc fl la zs cs m') = ZZ
  refine aw_aload_n 0 D_mo_ring_0 rfl rfl ?_
  refine aw_callV (As := []) D_mo_ring_1 kv_mo_find (c_mo_find hn hn9 hb hfd) rfl rfl rfl rfl rfl (Nat.le_of_ble_eq_true rfl) (Nat.zero_le _) (Nat.zero_le _) (fun r w' hp => ?_)
  obtain ⟨rfl, R, le, sz, o, be, pc, wt, qu, rfl, pd, fa, hF⟩ := hp
  have hR := hF.2.1.R_le
  have hcan := hF.can (by omega) hb
  rw [← hcan.1] at hr
  refine aw_iload_n 1 D_mo_ring_4 rfl rfl ?_
  refine aw_if_ltN D_mo_ring_5 (by omega) ?_
  refine aw_iload_n 1 D_mo_ring_8 rfl rfl ?_
  refine aw_aload_n 0 D_mo_ring_9 rfl rfl ?_
  refine aw_get D_mo_ring_10 rfl rfl ?_
  refine aw_icmp_ltN D_mo_ring_13 (by omega) (by omega) (fun h2 => ?_) (fun h2 => absurd h2 (by omega))
  refine aw_iconst (nI 0) D_mo_ring_18 rfl ?_
  refine aw_istore_n 3 D_mo_ring_19 rfl (Nat.le_of_ble_eq_true rfl) rfl ?_
  refine aw_iload_n 2 D_mo_ring_20 rfl rfl ?_
  refine aw_tableIn (off := 97) (tgt := 118) D_mo_ring_21 (by decide) (by decide) (by decide) (by decide) ?_
  have key : ∀ (q i : Nat), i + q = 2 ^ n → AW M_mo_ring noP (Zp ZZ) 0 0 121 [(0, .ref 6), (1, .int (nI r)), (2, .int (nI 3)), (3, .int (nI (fb_ct (fun s => decide (cRo n b s = r ∧ 0 < cBe n b s)) i))), (4, .int (nI i))] [] [a0, a1, a2, a3, a4, a5, MO fl tc n 1 R b le sz o be pc wt qu lm sl ce tb mt ru bf kp, a7] 0 0 := by
    intro q
    induction q with
    | zero =>
      intro i hi
      have hi : i = 2 ^ n := by omega
      subst hi
      refine aw_iload D_mo_ring_121 rfl ?_
      refine aw_aload_n 0 D_mo_ring_123 rfl rfl ?_
      refine aw_callV1 (As := []) D_mo_ring_124 kv_mo_states (c_mo_states hn9) rfl rfl rfl rfl rfl (Nat.le_of_ble_eq_true rfl) (Nat.zero_le _) (Nat.zero_le _) ?_
      refine aw_icmp_geN D_mo_ring_127 (by omega) (by omega) (fun h => ?_) (fun h => absurd h (by omega))
      refine aw_iload_n 3 D_mo_ring_165 rfl rfl ?_
      refine aw_ireturn D_mo_ring_166 rfl rfl ?_
      subst hZ; exact ⟨rfl, _, rfl, 1, R, le, sz, o, be, pc, wt, qu, lm, sl, ce, tb, mt, ru, bf, kp, rfl, hn, hn9, hb, (Or.inr ⟨rfl, pd, fa, hF⟩), hL, hT⟩
    | succ q ih =>
      intro i hi
      have hro := hF.2.1.1 i (by omega)
      have hbl := hF.2.1.be_le hf (show i < 2 ^ n by omega)
      have hci := hcan.2.2.1 i (by omega)
      try dsimp only at hro
      have hnext : ∀ v : Nat, v = (if decide (cRo n b i = r ∧ 0 < cBe n b i) = true then 1 else 0) → AW M_mo_ring noP (Zp ZZ) 0 0 157 [(0, .ref 6), (1, .int (nI r)), (2, .int (nI 3)), (3, .int (nI (fb_ct (fun s => decide (cRo n b s = r ∧ 0 < cBe n b s)) i))), (4, .int (nI i))] [.int (nI v), .int (nI (fb_ct (fun s => decide (cRo n b s = r ∧ 0 < cBe n b s)) i))] [a0, a1, a2, a3, a4, a5, MO fl tc n 1 R b le sz o be pc wt qu lm sl ce tb mt ru bf kp, a7] 0 0 := by
        intro v hv
        first | with_reducible refine aw_iaddN D_mo_ring_157 ?_ | refine aw_iadd D_mo_ring_157 ?_
        refine aw_istore_n 3 D_mo_ring_158 rfl (Nat.le_of_ble_eq_true rfl) rfl ?_
        first | refine aw_incN D_mo_ring_159 rfl (Nat.le_of_ble_eq_true rfl) rfl ?_ | refine aw_inc D_mo_ring_159 rfl (Nat.le_of_ble_eq_true rfl) rfl ?_
        refine aw_goto D_mo_ring_162 ?_
        rw [hv]
        exact ih (i + 1) (by omega)
      refine aw_iload D_mo_ring_121 rfl ?_
      refine aw_aload_n 0 D_mo_ring_123 rfl rfl ?_
      refine aw_callV1 (As := []) D_mo_ring_124 kv_mo_states (c_mo_states hn9) rfl rfl rfl rfl rfl (Nat.le_of_ble_eq_true rfl) (Nat.zero_le _) (Nat.zero_le _) ?_
      refine aw_icmp_geN D_mo_ring_127 (by omega) (by omega) (fun h => absurd h (by omega)) (fun h => ?_)
      refine aw_iload_n 3 D_mo_ring_130 rfl rfl ?_
      refine aw_aload_n 0 D_mo_ring_131 rfl rfl ?_
      refine aw_get D_mo_ring_132 rfl rfl ?_
      refine aw_iload D_mo_ring_135 rfl ?_
      refine aw_ialdN D_mo_ring_137 rfl (by omega) (by omega) ?_
      refine aw_iload_n 1 D_mo_ring_138 rfl rfl ?_
      rw [show oF (-nI 9) o i = nI ((o i).getD 0) from oI_get (hF.1 i (by omega))]
      refine aw_icmp_neN D_mo_ring_139 (by omega) (by omega) (fun h => ?_) (fun h => ?_)
      · refine aw_iconst (nI 0) D_mo_ring_156 rfl ?_
        exact hnext _ (if_neg (fun z => h (hci.1.trans (of_decide_eq_true z).1))).symm
      · refine aw_aload_n 0 D_mo_ring_142 rfl rfl ?_
        refine aw_get D_mo_ring_143 rfl rfl ?_
        refine aw_iload D_mo_ring_146 rfl ?_
        refine aw_ialdN D_mo_ring_148 rfl (by omega) (by omega) ?_
        refine aw_if_leN D_mo_ring_149 (by omega) (fun h3 => ?_) (fun h3 => ?_)
        · refine aw_iconst (nI 0) D_mo_ring_156 rfl ?_
          exact hnext _ (if_neg (fun z => by have := (of_decide_eq_true z).2; omega)).symm
        · refine aw_iconst (nI 1) D_mo_ring_152 rfl ?_
          refine aw_goto D_mo_ring_153 ?_
          exact hnext _ (if_pos (decide_eq_true ⟨hci.1.symm.trans h, by omega⟩)).symm
  refine aw_iconst (nI 0) D_mo_ring_118 rfl ?_
  refine aw_istore D_mo_ring_119 (Nat.le_of_ble_eq_true rfl) rfl ?_
  exact key (2 ^ n) 0 (by omega)
theorem c_mo_told0 (h : MS n b tc fl la zs cs m) : AMet M_mo_told [.ref 6, .int (nI 0)] [a0, a1, a2, a3, a4, a5, m, a7] (fun (r' : Option Value) (w' : Wd) => r' = some (.int (nI (n))) ∧ ∃ m', w' = [a0, a1, a2, a3, a4, a5, m', a7] ∧ MS n b tc fl la zs cs m') 0 0 := by
  obtain ⟨fd, R, le, sz, o, be, pc, wt, qu, lm, sl, ce, tb, mt, ru, bf, kp, rfl, hn, hn9, hb, hfd, hL, hT⟩ := h
  have hp9 := pow_le9 hn9
  have hf := FT.hf (n := n) (b := b) (by omega) hb
  refine AMet.of [(0, .ref 6), (1, .int (nI 0))] (by decide +kernel) rfl (Nat.le_of_ble_eq_true rfl) ?_
  refine aw_aload_n 0 D_mo_told_0 rfl rfl ?_
  refine aw_callV (As := []) D_mo_told_1 kv_mo_find (c_mo_find hn hn9 hb hfd) rfl rfl rfl rfl rfl (Nat.le_of_ble_eq_true rfl) (Nat.zero_le _) (Nat.zero_le _) (fun r w' hp => ?_)
  obtain ⟨rfl, R, le, sz, o, be, pc, wt, qu, rfl, pd, fa, hF⟩ := hp
  have hR := hF.2.1.R_le
  have hcan := hF.can (by omega) hb
  refine aw_iconst (nI 0) D_mo_told_4 rfl ?_
  refine aw_istore_n 2 D_mo_told_5 rfl (Nat.le_of_ble_eq_true rfl) rfl ?_
  refine aw_iload_n 1 D_mo_told_6 rfl rfl ?_
  refine aw_tableIn (off := 45) (tgt := 52) D_mo_told_7 (by decide) (by decide) (by decide) (by decide) ?_
  refine aw_aload_n 0 D_mo_told_52 rfl rfl ?_
  refine aw_get D_mo_told_53 rfl rfl ?_
  refine aw_ireturn D_mo_told_56 rfl rfl ?_
  exact ⟨rfl, _, rfl, 1, R, le, sz, o, be, pc, wt, qu, lm, sl, ce, tb, mt, ru, bf, kp, rfl, hn, hn9, hb, (Or.inr ⟨rfl, pd, fa, hF⟩), hL, hT⟩
theorem c_mo_told1 (h : MS n b tc fl la zs cs m) : AMet M_mo_told [.ref 6, .int (nI 1)] [a0, a1, a2, a3, a4, a5, m, a7] (fun (r' : Option Value) (w' : Wd) => r' = some (.int (nI (2 ^ n))) ∧ ∃ m', w' = [a0, a1, a2, a3, a4, a5, m', a7] ∧ MS n b tc fl la zs cs m') 0 0 := by
  obtain ⟨fd, R, le, sz, o, be, pc, wt, qu, lm, sl, ce, tb, mt, ru, bf, kp, rfl, hn, hn9, hb, hfd, hL, hT⟩ := h
  have hp9 := pow_le9 hn9
  have hf := FT.hf (n := n) (b := b) (by omega) hb
  refine AMet.of [(0, .ref 6), (1, .int (nI 1))] (by decide +kernel) rfl (Nat.le_of_ble_eq_true rfl) ?_
  refine aw_aload_n 0 D_mo_told_0 rfl rfl ?_
  refine aw_callV (As := []) D_mo_told_1 kv_mo_find (c_mo_find hn hn9 hb hfd) rfl rfl rfl rfl rfl (Nat.le_of_ble_eq_true rfl) (Nat.zero_le _) (Nat.zero_le _) (fun r w' hp => ?_)
  obtain ⟨rfl, R, le, sz, o, be, pc, wt, qu, rfl, pd, fa, hF⟩ := hp
  have hR := hF.2.1.R_le
  have hcan := hF.can (by omega) hb
  refine aw_iconst (nI 0) D_mo_told_4 rfl ?_
  refine aw_istore_n 2 D_mo_told_5 rfl (Nat.le_of_ble_eq_true rfl) rfl ?_
  refine aw_iload_n 1 D_mo_told_6 rfl rfl ?_
  refine aw_tableIn (off := 50) (tgt := 57) D_mo_told_7 (by decide) (by decide) (by decide) (by decide) ?_
  refine aw_aload_n 0 D_mo_told_57 rfl rfl ?_
  refine aw_callV1 (As := []) D_mo_told_58 kv_mo_states (c_mo_states hn9) rfl rfl rfl rfl rfl (Nat.le_of_ble_eq_true rfl) (Nat.zero_le _) (Nat.zero_le _) ?_
  refine aw_ireturn D_mo_told_61 rfl rfl ?_
  exact ⟨rfl, _, rfl, 1, R, le, sz, o, be, pc, wt, qu, lm, sl, ce, tb, mt, ru, bf, kp, rfl, hn, hn9, hb, (Or.inr ⟨rfl, pd, fa, hF⟩), hL, hT⟩
theorem c_mo_told2 (h : MS n b tc fl la zs cs m) : AMet M_mo_told [.ref 6, .int (nI 2)] [a0, a1, a2, a3, a4, a5, m, a7] (fun (r' : Option Value) (w' : Wd) => r' = some (.int (nI (cR n b))) ∧ ∃ m', w' = [a0, a1, a2, a3, a4, a5, m', a7] ∧ MS n b tc fl la zs cs m') 0 0 := by
  obtain ⟨fd, R, le, sz, o, be, pc, wt, qu, lm, sl, ce, tb, mt, ru, bf, kp, rfl, hn, hn9, hb, hfd, hL, hT⟩ := h
  have hp9 := pow_le9 hn9
  have hf := FT.hf (n := n) (b := b) (by omega) hb
  refine AMet.of [(0, .ref 6), (1, .int (nI 2))] (by decide +kernel) rfl (Nat.le_of_ble_eq_true rfl) ?_
  refine aw_aload_n 0 D_mo_told_0 rfl rfl ?_
  refine aw_callV (As := []) D_mo_told_1 kv_mo_find (c_mo_find hn hn9 hb hfd) rfl rfl rfl rfl rfl (Nat.le_of_ble_eq_true rfl) (Nat.zero_le _) (Nat.zero_le _) (fun r w' hp => ?_)
  obtain ⟨rfl, R, le, sz, o, be, pc, wt, qu, rfl, pd, fa, hF⟩ := hp
  have hR := hF.2.1.R_le
  have hcan := hF.can (by omega) hb
  refine aw_iconst (nI 0) D_mo_told_4 rfl ?_
  refine aw_istore_n 2 D_mo_told_5 rfl (Nat.le_of_ble_eq_true rfl) rfl ?_
  refine aw_iload_n 1 D_mo_told_6 rfl rfl ?_
  refine aw_tableIn (off := 55) (tgt := 62) D_mo_told_7 (by decide) (by decide) (by decide) (by decide) ?_
  refine aw_aload_n 0 D_mo_told_62 rfl rfl ?_
  refine aw_get D_mo_told_63 rfl rfl ?_
  have hR2 := hcan.1
  subst hR2
  refine aw_ireturn D_mo_told_66 rfl rfl ?_
  exact ⟨rfl, _, rfl, 1, _, le, sz, o, be, pc, wt, qu, lm, sl, ce, tb, mt, ru, bf, kp, rfl, hn, hn9, hb, (Or.inr ⟨rfl, pd, fa, hF⟩), hL, hT⟩
theorem c_mo_told3 (h : MS n b tc fl la zs cs m) : AMet M_mo_told [.ref 6, .int (nI 3)] [a0, a1, a2, a3, a4, a5, m, a7] (fun (r' : Option Value) (w' : Wd) => r' = some (.int (nI (2 ^ n - cPd n b))) ∧ ∃ m', w' = [a0, a1, a2, a3, a4, a5, m', a7] ∧ MS n b tc fl la zs cs m') 0 0 := by
  obtain ⟨fd, R, le, sz, o, be, pc, wt, qu, lm, sl, ce, tb, mt, ru, bf, kp, rfl, hn, hn9, hb, hfd, hL, hT⟩ := h
  have hp9 := pow_le9 hn9
  have hf := FT.hf (n := n) (b := b) (by omega) hb
  refine AMet.of [(0, .ref 6), (1, .int (nI 3))] (by decide +kernel) rfl (Nat.le_of_ble_eq_true rfl) ?_
  generalize hZ : (fun (r' : Option Value) (w' : Wd) => r' = some (.int (nI (2 ^ n - cPd n b))) ∧ ∃ m', w' = [a0, a1, a2, a3, a4, a5, m', a7] ∧ MS n b tc fl la zs cs m') = ZZ
  refine aw_aload_n 0 D_mo_told_0 rfl rfl ?_
  refine aw_callV (As := []) D_mo_told_1 kv_mo_find (c_mo_find hn hn9 hb hfd) rfl rfl rfl rfl rfl (Nat.le_of_ble_eq_true rfl) (Nat.zero_le _) (Nat.zero_le _) (fun r w' hp => ?_)
  obtain ⟨rfl, R, le, sz, o, be, pc, wt, qu, rfl, pd, fa, hF⟩ := hp
  have hR := hF.2.1.R_le
  have hcan := hF.can (by omega) hb
  refine aw_iconst (nI 0) D_mo_told_4 rfl ?_
  refine aw_istore_n 2 D_mo_told_5 rfl (Nat.le_of_ble_eq_true rfl) rfl ?_
  refine aw_iload_n 1 D_mo_told_6 rfl rfl ?_
  refine aw_tableIn (off := 60) (tgt := 67) D_mo_told_7 (by decide) (by decide) (by decide) (by decide) ?_
  have hsum := hF.2.1.sum_sz hf
  have hpd : fb_sm sz R = 2 ^ n - cPd n b := by
    have e1 := hF.2.2.1
    have e2 := hcan.2.2.2.1
    rw [← e1, e2] at hsum
    omega
  have key : ∀ (q i : Nat), i + q = R → AW M_mo_told noP (Zp ZZ) 0 0 69 [(0, .ref 6), (1, .int (nI 3)), (2, .int (nI (fb_sm sz i))), (3, .int (nI i))] [] [a0, a1, a2, a3, a4, a5, MO fl tc n 1 R b le sz o be pc wt qu lm sl ce tb mt ru bf kp, a7] 0 0 := by
    intro q
    induction q with
    | zero =>
      intro i hi
      have hi : i = R := by omega
      subst hi
      refine aw_iload_n 3 D_mo_told_69 rfl rfl ?_
      refine aw_aload_n 0 D_mo_told_70 rfl rfl ?_
      refine aw_get D_mo_told_71 rfl rfl ?_
      refine aw_icmp_geN D_mo_told_74 (by omega) (by omega) (fun h => ?_) (fun h => absurd h (by omega))
      rw [hpd]
      refine aw_iload_n 2 D_mo_told_92 rfl rfl ?_
      refine aw_ireturn D_mo_told_93 rfl rfl ?_
      subst hZ; exact ⟨rfl, _, rfl, 1, i, le, sz, o, be, pc, wt, qu, lm, sl, ce, tb, mt, ru, bf, kp, rfl, hn, hn9, hb, (Or.inr ⟨rfl, pd, fa, hF⟩), hL, hT⟩
    | succ q ih =>
      intro i hi
      refine aw_iload_n 3 D_mo_told_69 rfl rfl ?_
      refine aw_aload_n 0 D_mo_told_70 rfl rfl ?_
      refine aw_get D_mo_told_71 rfl rfl ?_
      refine aw_icmp_geN D_mo_told_74 (by omega) (by omega) (fun h => absurd h (by omega)) (fun h => ?_)
      refine aw_iload_n 2 D_mo_told_77 rfl rfl ?_
      refine aw_aload_n 0 D_mo_told_78 rfl rfl ?_
      refine aw_get D_mo_told_79 rfl rfl ?_
      refine aw_iload_n 3 D_mo_told_82 rfl rfl ?_
      refine aw_ialdN D_mo_told_83 rfl (by omega) (by omega) ?_
      first | with_reducible refine aw_iaddN D_mo_told_84 ?_ | refine aw_iadd D_mo_told_84 ?_
      refine aw_istore_n 2 D_mo_told_85 rfl (Nat.le_of_ble_eq_true rfl) rfl ?_
      first | refine aw_incN D_mo_told_86 rfl (Nat.le_of_ble_eq_true rfl) rfl ?_ | refine aw_inc D_mo_told_86 rfl (Nat.le_of_ble_eq_true rfl) rfl ?_
      refine aw_goto D_mo_told_89 ?_
      exact ih (i + 1) (by omega)
  refine aw_iconst (nI 0) D_mo_told_67 rfl ?_
  refine aw_istore_n 3 D_mo_told_68 rfl (Nat.le_of_ble_eq_true rfl) rfl ?_
  exact key R 0 (by omega)
theorem c_mo_told4 (h : MS n b tc fl la zs cs m) : AMet M_mo_told [.ref 6, .int (nI 4)] [a0, a1, a2, a3, a4, a5, m, a7] (fun (r' : Option Value) (w' : Wd) => r' = some (.int (nI (if pureTo b (2 ^ n / 2) then 1 else 0))) ∧ ∃ m', w' = [a0, a1, a2, a3, a4, a5, m', a7] ∧ MS n b tc fl la zs cs m') 0 0 := by
  obtain ⟨fd, R, le, sz, o, be, pc, wt, qu, lm, sl, ce, tb, mt, ru, bf, kp, rfl, hn, hn9, hb, hfd, hL, hT⟩ := h
  have hp9 := pow_le9 hn9
  have hf := FT.hf (n := n) (b := b) (by omega) hb
  refine AMet.of [(0, .ref 6), (1, .int (nI 4))] (by decide +kernel) rfl (Nat.le_of_ble_eq_true rfl) ?_
  refine aw_aload_n 0 D_mo_told_0 rfl rfl ?_
  refine aw_callV (As := []) D_mo_told_1 kv_mo_find (c_mo_find hn hn9 hb hfd) rfl rfl rfl rfl rfl (Nat.le_of_ble_eq_true rfl) (Nat.zero_le _) (Nat.zero_le _) (fun r w' hp => ?_)
  obtain ⟨rfl, R, le, sz, o, be, pc, wt, qu, rfl, pd, fa, hF⟩ := hp
  have hR := hF.2.1.R_le
  have hcan := hF.can (by omega) hb
  refine aw_iconst (nI 0) D_mo_told_4 rfl ?_
  refine aw_istore_n 2 D_mo_told_5 rfl (Nat.le_of_ble_eq_true rfl) rfl ?_
  refine aw_iload_n 1 D_mo_told_6 rfl rfl ?_
  refine aw_tableIn (off := 87) (tgt := 94) D_mo_told_7 (by decide) (by decide) (by decide) (by decide) ?_
  refine aw_aload_n 0 D_mo_told_94 rfl rfl ?_
  refine aw_callV1 (As := []) D_mo_told_95 kv_mo_isPure (c_mo_pure (by omega) hn9 hb) rfl rfl rfl rfl rfl (Nat.le_of_ble_eq_true rfl) (Nat.zero_le _) (Nat.zero_le _) ?_
  by_cases hp : pureTo b (2 ^ n / 2) = true
  · rw [if_pos hp]
    refine aw_if_eqN D_mo_told_98 (by decide) (fun h => absurd h (by decide)) (fun h => ?_)
    refine aw_iconst (nI 1) D_mo_told_101 rfl ?_
    refine aw_goto D_mo_told_102 ?_
    refine aw_ireturn D_mo_told_106 rfl rfl ?_
    exact ⟨rfl, _, rfl, 1, R, le, sz, o, be, pc, wt, qu, lm, sl, ce, tb, mt, ru, bf, kp, rfl, hn, hn9, hb, (Or.inr ⟨rfl, pd, fa, hF⟩), hL, hT⟩
  · rw [if_neg hp]
    refine aw_if_eqN D_mo_told_98 (by decide) (fun h => ?_) (fun h => absurd h (by decide))
    refine aw_iconst (nI 0) D_mo_told_105 rfl ?_
    refine aw_ireturn D_mo_told_106 rfl rfl ?_
    exact ⟨rfl, _, rfl, 1, R, le, sz, o, be, pc, wt, qu, lm, sl, ce, tb, mt, ru, bf, kp, rfl, hn, hn9, hb, (Or.inr ⟨rfl, pd, fa, hF⟩), hL, hT⟩
theorem c_mo_told5 (h : MS n b tc fl la zs cs m) : AMet M_mo_told [.ref 6, .int (nI 5)] [a0, a1, a2, a3, a4, a5, m, a7] (fun (r' : Option Value) (w' : Wd) => r' = some (.int (nI (fb_sm b (2 ^ n)))) ∧ ∃ m', w' = [a0, a1, a2, a3, a4, a5, m', a7] ∧ MS n b tc fl la zs cs m') 0 0 := by
  obtain ⟨fd, R, le, sz, o, be, pc, wt, qu, lm, sl, ce, tb, mt, ru, bf, kp, rfl, hn, hn9, hb, hfd, hL, hT⟩ := h
  have hp9 := pow_le9 hn9
  have hf := FT.hf (n := n) (b := b) (by omega) hb
  refine AMet.of [(0, .ref 6), (1, .int (nI 5))] (by decide +kernel) rfl (Nat.le_of_ble_eq_true rfl) ?_
  refine aw_aload_n 0 D_mo_told_0 rfl rfl ?_
  refine aw_callV (As := []) D_mo_told_1 kv_mo_find (c_mo_find hn hn9 hb hfd) rfl rfl rfl rfl rfl (Nat.le_of_ble_eq_true rfl) (Nat.zero_le _) (Nat.zero_le _) (fun r w' hp => ?_)
  obtain ⟨rfl, R, le, sz, o, be, pc, wt, qu, rfl, pd, fa, hF⟩ := hp
  have hR := hF.2.1.R_le
  have hcan := hF.can (by omega) hb
  refine aw_iconst (nI 0) D_mo_told_4 rfl ?_
  refine aw_istore_n 2 D_mo_told_5 rfl (Nat.le_of_ble_eq_true rfl) rfl ?_
  refine aw_iload_n 1 D_mo_told_6 rfl rfl ?_
  refine aw_tableIn (off := 100) (tgt := 107) D_mo_told_7 (by decide) (by decide) (by decide) (by decide) ?_
  refine aw_aload_n 0 D_mo_told_107 rfl rfl ?_
  refine aw_callV1 (As := []) D_mo_told_108 kv_mo_ones (c_mo_ones hn9 hb) rfl rfl rfl rfl rfl (Nat.le_of_ble_eq_true rfl) (Nat.zero_le _) (Nat.zero_le _) ?_
  refine aw_ireturn D_mo_told_111 rfl rfl ?_
  exact ⟨rfl, _, rfl, 1, R, le, sz, o, be, pc, wt, qu, lm, sl, ce, tb, mt, ru, bf, kp, rfl, hn, hn9, hb, (Or.inr ⟨rfl, pd, fa, hF⟩), hL, hT⟩
theorem c_mo_told6 (h : MS n b tc fl la zs cs m) : AMet M_mo_told [.ref 6, .int (nI 6)] [a0, a1, a2, a3, a4, a5, m, a7] (fun (r' : Option Value) (w' : Wd) => r' = some (.int (nI (cFa n b))) ∧ ∃ m', w' = [a0, a1, a2, a3, a4, a5, m', a7] ∧ MS n b tc fl la zs cs m') 0 0 := by
  obtain ⟨fd, R, le, sz, o, be, pc, wt, qu, lm, sl, ce, tb, mt, ru, bf, kp, rfl, hn, hn9, hb, hfd, hL, hT⟩ := h
  have hp9 := pow_le9 hn9
  have hf := FT.hf (n := n) (b := b) (by omega) hb
  refine AMet.of [(0, .ref 6), (1, .int (nI 6))] (by decide +kernel) rfl (Nat.le_of_ble_eq_true rfl) ?_
  generalize hZ : (fun (r' : Option Value) (w' : Wd) => r' = some (.int (nI (cFa n b))) ∧ ∃ m', w' = [a0, a1, a2, a3, a4, a5, m', a7] ∧ MS n b tc fl la zs cs m') = ZZ
  refine aw_aload_n 0 D_mo_told_0 rfl rfl ?_
  refine aw_callV (As := []) D_mo_told_1 kv_mo_find (c_mo_find hn hn9 hb hfd) rfl rfl rfl rfl rfl (Nat.le_of_ble_eq_true rfl) (Nat.zero_le _) (Nat.zero_le _) (fun r w' hp => ?_)
  obtain ⟨rfl, R, le, sz, o, be, pc, wt, qu, rfl, pd, fa, hF⟩ := hp
  have hR := hF.2.1.R_le
  have hcan := hF.can (by omega) hb
  refine aw_iconst (nI 0) D_mo_told_4 rfl ?_
  refine aw_istore_n 2 D_mo_told_5 rfl (Nat.le_of_ble_eq_true rfl) rfl ?_
  refine aw_iload_n 1 D_mo_told_6 rfl rfl ?_
  refine aw_tableIn (off := 105) (tgt := 112) D_mo_told_7 (by decide) (by decide) (by decide) (by decide) ?_
  have hfa := hcan.2.2.2.2.2
  have f1 := hF.2.2.2.2.1
  have f2 := hF.2.2.2.2.2.1
  have key : ∀ (q i g : Nat), i + q = 2 ^ n → (∀ s, s < i → be s ≤ g) → (g = 0 ∨ ∃ s, s < i ∧ be s = g) → AW M_mo_told noP (Zp ZZ) 0 0 114 [(0, .ref 6), (1, .int (nI 6)), (2, .int (nI g)), (3, .int (nI i))] [] [a0, a1, a2, a3, a4, a5, MO fl tc n 1 R b le sz o be pc wt qu lm sl ce tb mt ru bf kp, a7] 0 0 := by
    intro q
    induction q with
    | zero =>
      intro i g hi g1 g2
      have hi : i = 2 ^ n := by omega
      subst hi
      have hg : g = cFa n b := by
        rw [← hfa]
        have a1 : g ≤ fa := by
          rcases g2 with z | ⟨s, hs, z⟩
          · omega
          · have := f1 s hs; omega
        have a2 : fa ≤ g := by
          rcases f2 with z | ⟨s, hs, z⟩
          · omega
          · have := g1 s hs; omega
        omega
      subst hg
      refine aw_iload_n 3 D_mo_told_114 rfl rfl ?_
      refine aw_aload_n 0 D_mo_told_115 rfl rfl ?_
      refine aw_callV1 (As := []) D_mo_told_116 kv_mo_states (c_mo_states hn9) rfl rfl rfl rfl rfl (Nat.le_of_ble_eq_true rfl) (Nat.zero_le _) (Nat.zero_le _) ?_
      refine aw_icmp_geN D_mo_told_119 (by omega) (by omega) (fun h => ?_) (fun h => absurd h (by omega))
      refine aw_iload_n 2 D_mo_told_149 rfl rfl ?_
      refine aw_ireturn D_mo_told_150 rfl rfl ?_
      subst hZ; exact ⟨rfl, _, rfl, 1, R, le, sz, o, be, pc, wt, qu, lm, sl, ce, tb, mt, ru, bf, kp, rfl, hn, hn9, hb, (Or.inr ⟨rfl, pd, fa, hF⟩), hL, hT⟩
    | succ q ih =>
      intro i g hi g1 g2
      have hbl := hF.2.1.be_le hf (show i < 2 ^ n by omega)
      have hgl : g ≤ 2 ^ n := by
        rcases g2 with z | ⟨s, hs, z⟩
        · omega
        · have := hF.2.1.be_le hf (show s < 2 ^ n by omega); omega
      refine aw_iload_n 3 D_mo_told_114 rfl rfl ?_
      refine aw_aload_n 0 D_mo_told_115 rfl rfl ?_
      refine aw_callV1 (As := []) D_mo_told_116 kv_mo_states (c_mo_states hn9) rfl rfl rfl rfl rfl (Nat.le_of_ble_eq_true rfl) (Nat.zero_le _) (Nat.zero_le _) ?_
      refine aw_icmp_geN D_mo_told_119 (by omega) (by omega) (fun h => absurd h (by omega)) (fun h => ?_)
      refine aw_aload_n 0 D_mo_told_122 rfl rfl ?_
      refine aw_get D_mo_told_123 rfl rfl ?_
      refine aw_iload_n 3 D_mo_told_126 rfl rfl ?_
      refine aw_ialdN D_mo_told_127 rfl (by omega) (by omega) ?_
      refine aw_iload_n 2 D_mo_told_128 rfl rfl ?_
      refine aw_icmp_leN D_mo_told_129 (by omega) (by omega) (fun h => ?_) (fun h => ?_)
      · refine aw_iload_n 2 D_mo_told_141 rfl rfl ?_
        refine aw_istore_n 2 D_mo_told_142 rfl (Nat.le_of_ble_eq_true rfl) rfl ?_
        first | refine aw_incN D_mo_told_143 rfl (Nat.le_of_ble_eq_true rfl) rfl ?_ | refine aw_inc D_mo_told_143 rfl (Nat.le_of_ble_eq_true rfl) rfl ?_
        refine aw_goto D_mo_told_146 ?_
        refine ih (i + 1) g (by omega) (fun s hs => ?_) ?_
        · rcases Nat.lt_or_ge s i with z | z
          · exact g1 s z
          · rw [show s = i by omega]; exact h
        · rcases g2 with z | ⟨s, hs, z⟩
          · exact Or.inl z
          · exact Or.inr ⟨s, by omega, z⟩
      · refine aw_aload_n 0 D_mo_told_132 rfl rfl ?_
        refine aw_get D_mo_told_133 rfl rfl ?_
        refine aw_iload_n 3 D_mo_told_136 rfl rfl ?_
        refine aw_ialdN D_mo_told_137 rfl (by omega) (by omega) ?_
        refine aw_goto D_mo_told_138 ?_
        refine aw_istore_n 2 D_mo_told_142 rfl (Nat.le_of_ble_eq_true rfl) rfl ?_
        first | refine aw_incN D_mo_told_143 rfl (Nat.le_of_ble_eq_true rfl) rfl ?_ | refine aw_inc D_mo_told_143 rfl (Nat.le_of_ble_eq_true rfl) rfl ?_
        refine aw_goto D_mo_told_146 ?_
        refine ih (i + 1) (be i) (by omega) (fun s hs => ?_) (Or.inr ⟨i, by omega, rfl⟩)
        rcases Nat.lt_or_ge s i with z | z
        · have := g1 s z; omega
        · rw [show s = i by omega]; exact Nat.le_refl _
  refine aw_iconst (nI 0) D_mo_told_112 rfl ?_
  refine aw_istore_n 3 D_mo_told_113 rfl (Nat.le_of_ble_eq_true rfl) rfl ?_
  exact key (2 ^ n) 0 0 (by omega) (fun s hs => absurd hs (by omega)) (Or.inl rfl)
theorem c_mo_told7 (h : MS n b tc fl la zs cs m) : AMet M_mo_told [.ref 6, .int (nI 7)] [a0, a1, a2, a3, a4, a5, m, a7] (fun (r' : Option Value) (w' : Wd) => r' = some (.int (nI (strt n b))) ∧ ∃ m', w' = [a0, a1, a2, a3, a4, a5, m', a7] ∧ MS n b tc fl la zs cs m') 0 0 := by
  obtain ⟨fd, R, le, sz, o, be, pc, wt, qu, lm, sl, ce, tb, mt, ru, bf, kp, rfl, hn, hn9, hb, hfd, hL, hT⟩ := h
  have hp9 := pow_le9 hn9
  have hf := FT.hf (n := n) (b := b) (by omega) hb
  refine AMet.of [(0, .ref 6), (1, .int (nI 7))] (by decide +kernel) rfl (Nat.le_of_ble_eq_true rfl) ?_
  generalize hZ : (fun (r' : Option Value) (w' : Wd) => r' = some (.int (nI (strt n b))) ∧ ∃ m', w' = [a0, a1, a2, a3, a4, a5, m', a7] ∧ MS n b tc fl la zs cs m') = ZZ
  refine aw_aload_n 0 D_mo_told_0 rfl rfl ?_
  refine aw_callV (As := []) D_mo_told_1 kv_mo_find (c_mo_find hn hn9 hb hfd) rfl rfl rfl rfl rfl (Nat.le_of_ble_eq_true rfl) (Nat.zero_le _) (Nat.zero_le _) (fun r w' hp => ?_)
  obtain ⟨rfl, R, le, sz, o, be, pc, wt, qu, rfl, pd, fa, hF⟩ := hp
  have hR := hF.2.1.R_le
  have hcan := hF.can (by omega) hb
  refine aw_iconst (nI 0) D_mo_told_4 rfl ?_
  refine aw_istore_n 2 D_mo_told_5 rfl (Nat.le_of_ble_eq_true rfl) rfl ?_
  refine aw_iload_n 1 D_mo_told_6 rfl rfl ?_
  refine aw_tableIn (off := 144) (tgt := 151) D_mo_told_7 (by decide) (by decide) (by decide) (by decide) ?_
  have key : ∀ (q i : Nat), i + q = 2 ^ n → AW M_mo_told noP (Zp ZZ) 0 0 153 [(0, .ref 6), (1, .int (nI 7)), (2, .int (nI (fb_ct (fun t => decide (cb n b t = 0)) i))), (3, .int (nI i))] [] [a0, a1, a2, a3, a4, a5, MO fl tc n 1 R b le sz o be pc wt qu lm sl ce tb mt ru bf kp, a7] 0 0 := by
    intro q
    induction q with
    | zero =>
      intro i hi
      have hi : i = 2 ^ n := by omega
      subst hi
      refine aw_iload_n 3 D_mo_told_153 rfl rfl ?_
      refine aw_aload_n 0 D_mo_told_154 rfl rfl ?_
      refine aw_callV1 (As := []) D_mo_told_155 kv_mo_states (c_mo_states hn9) rfl rfl rfl rfl rfl (Nat.le_of_ble_eq_true rfl) (Nat.zero_le _) (Nat.zero_le _) ?_
      refine aw_icmp_geN D_mo_told_158 (by omega) (by omega) (fun h => ?_) (fun h => absurd h (by omega))
      refine aw_iload_n 2 D_mo_told_184 rfl rfl ?_
      refine aw_ireturn D_mo_told_185 rfl rfl ?_
      subst hZ; exact ⟨rfl, _, rfl, 1, R, le, sz, o, be, pc, wt, qu, lm, sl, ce, tb, mt, ru, bf, kp, rfl, hn, hn9, hb, (Or.inr ⟨rfl, pd, fa, hF⟩), hL, hT⟩
    | succ q ih =>
      intro i hi
      have hcb := cb_le n b i
      have hnext : ∀ v : Nat, v = (if decide (cb n b i = 0) = true then 1 else 0) → AW M_mo_told noP (Zp ZZ) 0 0 176 [(0, .ref 6), (1, .int (nI 7)), (2, .int (nI (fb_ct (fun t => decide (cb n b t = 0)) i))), (3, .int (nI i))] [.int (nI v), .int (nI (fb_ct (fun t => decide (cb n b t = 0)) i))] [a0, a1, a2, a3, a4, a5, MO fl tc n 1 R b le sz o be pc wt qu lm sl ce tb mt ru bf kp, a7] 0 0 := by
        intro v hv
        first | with_reducible refine aw_iaddN D_mo_told_176 ?_ | refine aw_iadd D_mo_told_176 ?_
        refine aw_istore_n 2 D_mo_told_177 rfl (Nat.le_of_ble_eq_true rfl) rfl ?_
        first | refine aw_incN D_mo_told_178 rfl (Nat.le_of_ble_eq_true rfl) rfl ?_ | refine aw_inc D_mo_told_178 rfl (Nat.le_of_ble_eq_true rfl) rfl ?_
        refine aw_goto D_mo_told_181 ?_
        rw [hv]
        exact ih (i + 1) (by omega)
      refine aw_iload_n 3 D_mo_told_153 rfl rfl ?_
      refine aw_aload_n 0 D_mo_told_154 rfl rfl ?_
      refine aw_callV1 (As := []) D_mo_told_155 kv_mo_states (c_mo_states hn9) rfl rfl rfl rfl rfl (Nat.le_of_ble_eq_true rfl) (Nat.zero_le _) (Nat.zero_le _) ?_
      refine aw_icmp_geN D_mo_told_158 (by omega) (by omega) (fun h => absurd h (by omega)) (fun h => ?_)
      refine aw_iload_n 2 D_mo_told_161 rfl rfl ?_
      refine aw_aload_n 0 D_mo_told_162 rfl rfl ?_
      refine aw_iload_n 3 D_mo_told_163 rfl rfl ?_
      refine aw_iconst (-nI 1) D_mo_told_164 rfl ?_
      refine aw_callV1 (As := [_, _]) D_mo_told_165 kv_mo_back (c_mo_backM0 hn hn9 hb (show i < 2 ^ n by omega)) rfl rfl rfl rfl rfl (Nat.le_of_ble_eq_true rfl) (Nat.zero_le _) (Nat.zero_le _) ?_
      refine aw_if_neN D_mo_told_168 (by omega) (fun h => ?_) (fun h => ?_)
      · refine aw_iconst (nI 0) D_mo_told_175 rfl ?_
        exact hnext _ (if_neg (fun z => by have := of_decide_eq_true z; omega)).symm
      · refine aw_iconst (nI 1) D_mo_told_171 rfl ?_
        refine aw_goto D_mo_told_172 ?_
        exact hnext _ (if_pos (decide_eq_true h)).symm
  refine aw_iconst (nI 0) D_mo_told_151 rfl ?_
  refine aw_istore_n 3 D_mo_told_152 rfl (Nat.le_of_ble_eq_true rfl) rfl ?_
  exact key (2 ^ n) 0 (by omega)
theorem c_mo_toldO {x : Int32} (hx : ¬ vp_in x 8) (h : MS n b tc fl la zs cs m) : AMet M_mo_told [.ref 6, .int x] [a0, a1, a2, a3, a4, a5, m, a7] (fun (r' : Option Value) (w' : Wd) => r' = some (.int (-nI 2)) ∧ ∃ m', w' = [a0, a1, a2, a3, a4, a5, m', a7] ∧ MS n b tc fl la zs cs m') 0 0 := by
  obtain ⟨fd, R, le, sz, o, be, pc, wt, qu, lm, sl, ce, tb, mt, ru, bf, kp, rfl, hn, hn9, hb, hfd, hL, hT⟩ := h
  have hp9 := pow_le9 hn9
  have hf := FT.hf (n := n) (b := b) (by omega) hb
  refine AMet.of [(0, .ref 6), (1, .int x)] (by decide +kernel) rfl (Nat.le_of_ble_eq_true rfl) ?_
  refine aw_aload_n 0 D_mo_told_0 rfl rfl ?_
  refine aw_callV (As := []) D_mo_told_1 kv_mo_find (c_mo_find hn hn9 hb hfd) rfl rfl rfl rfl rfl (Nat.le_of_ble_eq_true rfl) (Nat.zero_le _) (Nat.zero_le _) (fun r w' hp => ?_)
  obtain ⟨rfl, R, le, sz, o, be, pc, wt, qu, rfl, pd, fa, hF⟩ := hp
  have hR := hF.2.1.R_le
  have hcan := hF.can (by omega) hb
  refine aw_iconst (nI 0) D_mo_told_4 rfl ?_
  refine aw_istore_n 2 D_mo_told_5 rfl (Nat.le_of_ble_eq_true rfl) rfl ?_
  refine aw_iload_n 1 D_mo_told_6 rfl rfl ?_
  refine aw_tableOut (tgt := 186) D_mo_told_7 (sw_out (N := 7) hx) (by decide) ?_
  refine aw_bipush (-nI 2) D_mo_told_186 rfl ?_
  refine aw_ireturn D_mo_told_188 rfl rfl ?_
  exact ⟨rfl, _, rfl, 1, R, le, sz, o, be, pc, wt, qu, lm, sl, ce, tb, mt, ru, bf, kp, rfl, hn, hn9, hb, (Or.inr ⟨rfl, pd, fa, hF⟩), hL, hT⟩
theorem c_mo_tellU {x : Int32} (hx : ¬ vp_in x (2 ^ n)) (h : MS n b tc fl la zs cs m) : AMet M_mo_tell [.ref 6, .int x] [a0, a1, a2, a3, a4, a5, m, a7] (fun (r' : Option Value) (w' : Wd) => r' = some (.int (-nI 1)) ∧ ∃ m', w' = [a0, a1, a2, a3, a4, a5, m', a7] ∧ MS n b tc fl la zs cs m') 0 0 := by
  obtain ⟨fd, R, le, sz, o, be, pc, wt, qu, lm, sl, ce, tb, mt, ru, bf, kp, rfl, hn, hn9, hb, hfd, hL, hT⟩ := h
  refine AMet.of [(0, .ref 6), (1, .int x)] (by decide +kernel) rfl (Nat.le_of_ble_eq_true rfl) ?_
  refine aw_aload_n 0 D_mo_tell_0 rfl rfl ?_
  refine aw_iload_n 1 D_mo_tell_1 rfl rfl ?_
  refine aw_callV1 (As := [_]) D_mo_tell_2 kv_mo_isState (c_mo_isStateF hn9 hx) rfl rfl rfl rfl rfl (Nat.le_of_ble_eq_true rfl) (Nat.zero_le _) (Nat.zero_le _) ?_
  refine aw_if_neN D_mo_tell_5 (by decide) (fun h => absurd h (by decide)) (fun h => ?_)
  refine aw_iconst (-nI 1) D_mo_tell_8 rfl ?_
  refine aw_ireturn D_mo_tell_9 rfl rfl ?_
  exact ⟨rfl, _, rfl, fd, R, le, sz, o, be, pc, wt, qu, lm, sl, ce, tb, mt, ru, bf, kp, rfl, hn, hn9, hb, hfd, hL, hT⟩
theorem c_mo_weighU {x : Int32} (hx : ¬ vp_in x (2 ^ n)) (h : MS n b tc fl la zs cs m) : AMet M_mo_weigh [.ref 6, .int x] [a0, a1, a2, a3, a4, a5, m, a7] (fun (r' : Option Value) (w' : Wd) => r' = some (.int (-nI 1)) ∧ ∃ m', w' = [a0, a1, a2, a3, a4, a5, m', a7] ∧ MS n b tc fl la zs cs m') 0 0 := by
  obtain ⟨fd, R, le, sz, o, be, pc, wt, qu, lm, sl, ce, tb, mt, ru, bf, kp, rfl, hn, hn9, hb, hfd, hL, hT⟩ := h
  refine AMet.of [(0, .ref 6), (1, .int x)] (by decide +kernel) rfl (Nat.le_of_ble_eq_true rfl) ?_
  refine aw_aload_n 0 D_mo_weigh_0 rfl rfl ?_
  refine aw_iload_n 1 D_mo_weigh_1 rfl rfl ?_
  refine aw_callV1 (As := [_]) D_mo_weigh_2 kv_mo_isState (c_mo_isStateF hn9 hx) rfl rfl rfl rfl rfl (Nat.le_of_ble_eq_true rfl) (Nat.zero_le _) (Nat.zero_le _) ?_
  refine aw_if_neN D_mo_weigh_5 (by decide) (fun h => absurd h (by decide)) (fun h => ?_)
  refine aw_iconst (-nI 1) D_mo_weigh_8 rfl ?_
  refine aw_ireturn D_mo_weigh_9 rfl rfl ?_
  exact ⟨rfl, _, rfl, fd, R, le, sz, o, be, pc, wt, qu, lm, sl, ce, tb, mt, ru, bf, kp, rfl, hn, hn9, hb, hfd, hL, hT⟩
theorem c_mo_tellB {s : Nat} (hs : s < 2 ^ n) (hkd : cKd n b s = 2) (h : MS n b tc fl la zs cs m) : AMet M_mo_tell [.ref 6, .int (nI s)] [a0, a1, a2, a3, a4, a5, m, a7] (fun (r' : Option Value) (w' : Wd) => r' = some (.int (nI 1 - nI (cBe n b s))) ∧ ∃ m', w' = [a0, a1, a2, a3, a4, a5, m', a7] ∧ MS n b (nI 31 * (nI 31 * tc + nI 3) + nI 1) fl la zs cs m') 0 0 := by
  obtain ⟨fd, R, le, sz, o, be, pc, wt, qu, lm, sl, ce, tb, mt, ru, bf, kp, rfl, hn, hn9, hb, hfd, hL, hT⟩ := h
  have hp9 := pow_le9 hn9
  have hf := FT.hf (n := n) (b := b) (by omega) hb
  refine AMet.of [(0, .ref 6), (1, .int (nI s))] (by decide +kernel) rfl (Nat.le_of_ble_eq_true rfl) ?_
  refine aw_aload_n 0 D_mo_tell_0 rfl rfl ?_
  refine aw_iload_n 1 D_mo_tell_1 rfl rfl ?_
  refine aw_callV1 (As := [_]) D_mo_tell_2 kv_mo_isState (c_mo_isStateT hn9 hs) rfl rfl rfl rfl rfl (Nat.le_of_ble_eq_true rfl) (Nat.zero_le _) (Nat.zero_le _) ?_
  refine aw_if_neN D_mo_tell_5 (by decide) (fun h => ?_) (fun h => absurd h (by decide))
  refine aw_aload_n 0 D_mo_tell_10 rfl rfl ?_
  refine aw_callV (As := []) D_mo_tell_11 kv_mo_find (c_mo_find hn hn9 hb hfd) rfl rfl rfl rfl rfl (Nat.le_of_ble_eq_true rfl) (Nat.zero_le _) (Nat.zero_le _) (fun r w' hp => ?_)
  obtain ⟨rfl, R, le, sz, o, be, pc, wt, qu, rfl, pd, fa, hF⟩ := hp
  obtain ⟨k1, k2, k3⟩ := kind_can (by omega) hb hF hs
  have hbl := hF.2.1.be_le hf hs
  have hR := hF.2.1.R_le
  have hro := hF.2.1.1 s hs
  try dsimp only at hro
  have hs1 := hF.2.1.sz_pos hs
  have hs2 := hF.2.1.sz_le hf hro
  try dsimp only at hs1 hs2
  unfold cKd at hkd
  rw [← k2, ← k3] at hkd
  refine aw_aload_n 0 D_mo_tell_14 rfl rfl ?_
  refine aw_get D_mo_tell_15 rfl rfl ?_
  refine aw_aload_n 0 D_mo_tell_18 rfl rfl ?_
  refine aw_get D_mo_tell_19 rfl rfl ?_
  refine aw_iload_n 1 D_mo_tell_22 rfl rfl ?_
  refine aw_ialdN D_mo_tell_23 rfl (by omega) (by omega) ?_
  rw [show oF (-nI 9) o s = nI ((o s).getD 0) from oI_get (hF.1 s hs)]
  refine aw_ialdN D_mo_tell_24 rfl (by omega) (by omega) ?_
  refine aw_istore_n 2 D_mo_tell_25 rfl (Nat.le_of_ble_eq_true rfl) rfl ?_
  refine aw_aload_n 0 D_mo_tell_26 rfl rfl ?_
  refine aw_get D_mo_tell_27 rfl rfl ?_
  refine aw_iload_n 1 D_mo_tell_30 rfl rfl ?_
  refine aw_ialdN D_mo_tell_31 rfl (by omega) (by omega) ?_
  have hpos : 0 < be s := by
    rcases Nat.eq_zero_or_pos (be s) with z | z
    · rw [if_neg (by omega)] at hkd
      split at hkd <;> omega
    · exact z
  refine aw_if_leN D_mo_tell_32 (by omega) (fun h => absurd h (by omega)) (fun h => ?_)
  refine aw_aload_n 0 D_mo_tell_35 rfl rfl ?_
  refine aw_iconst (nI 3) D_mo_tell_36 rfl ?_
  refine aw_callVv (As := [_]) D_mo_tell_37 kv_mo_begins (c_mo_begins) rfl rfl rfl rfl rfl (Nat.le_of_ble_eq_true rfl) (Nat.zero_le _) (Nat.zero_le _) ?_
  refine aw_aload_n 0 D_mo_tell_40 rfl rfl ?_
  refine aw_iconst (nI 1) D_mo_tell_41 rfl ?_
  refine aw_callVv (As := [_]) D_mo_tell_42 kv_mo_begins (c_mo_begins) rfl rfl rfl rfl rfl (Nat.le_of_ble_eq_true rfl) (Nat.zero_le _) (Nat.zero_le _) ?_
  refine aw_iconst (nI 1) D_mo_tell_45 rfl ?_
  refine aw_aload_n 0 D_mo_tell_46 rfl rfl ?_
  refine aw_get D_mo_tell_47 rfl rfl ?_
  refine aw_iload_n 1 D_mo_tell_50 rfl rfl ?_
  refine aw_ialdN D_mo_tell_51 rfl (by omega) (by omega) ?_
  refine aw_isub D_mo_tell_52 ?_
  rw [← k3]
  refine aw_ireturn D_mo_tell_53 rfl rfl ?_
  exact ⟨rfl, _, rfl, 1, R, le, sz, o, be, pc, wt, qu, lm, sl, ce, tb, mt, ru, bf, kp, rfl, hn, hn9, hb, (Or.inr ⟨rfl, pd, fa, hF⟩), hL, hT⟩
theorem c_mo_tellL {s : Nat} (hs : s < 2 ^ n) (hkd : cKd n b s = 1) (h : MS n b tc fl la zs cs m) : AMet M_mo_tell [.ref 6, .int (nI s)] [a0, a1, a2, a3, a4, a5, m, a7] (fun (r' : Option Value) (w' : Wd) => r' = some (.int (nI (2 + cSz n b (cRo n b s)))) ∧ ∃ m', w' = [a0, a1, a2, a3, a4, a5, m', a7] ∧ MS n b (nI 31 * (nI 31 * tc + nI 2) + nI 1) fl la zs cs m') 0 0 := by
  obtain ⟨fd, R, le, sz, o, be, pc, wt, qu, lm, sl, ce, tb, mt, ru, bf, kp, rfl, hn, hn9, hb, hfd, hL, hT⟩ := h
  have hp9 := pow_le9 hn9
  have hf := FT.hf (n := n) (b := b) (by omega) hb
  refine AMet.of [(0, .ref 6), (1, .int (nI s))] (by decide +kernel) rfl (Nat.le_of_ble_eq_true rfl) ?_
  refine aw_aload_n 0 D_mo_tell_0 rfl rfl ?_
  refine aw_iload_n 1 D_mo_tell_1 rfl rfl ?_
  refine aw_callV1 (As := [_]) D_mo_tell_2 kv_mo_isState (c_mo_isStateT hn9 hs) rfl rfl rfl rfl rfl (Nat.le_of_ble_eq_true rfl) (Nat.zero_le _) (Nat.zero_le _) ?_
  refine aw_if_neN D_mo_tell_5 (by decide) (fun h => ?_) (fun h => absurd h (by decide))
  refine aw_aload_n 0 D_mo_tell_10 rfl rfl ?_
  refine aw_callV (As := []) D_mo_tell_11 kv_mo_find (c_mo_find hn hn9 hb hfd) rfl rfl rfl rfl rfl (Nat.le_of_ble_eq_true rfl) (Nat.zero_le _) (Nat.zero_le _) (fun r w' hp => ?_)
  obtain ⟨rfl, R, le, sz, o, be, pc, wt, qu, rfl, pd, fa, hF⟩ := hp
  obtain ⟨k1, k2, k3⟩ := kind_can (by omega) hb hF hs
  have hbl := hF.2.1.be_le hf hs
  have hR := hF.2.1.R_le
  have hro := hF.2.1.1 s hs
  try dsimp only at hro
  have hs1 := hF.2.1.sz_pos hs
  have hs2 := hF.2.1.sz_le hf hro
  try dsimp only at hs1 hs2
  unfold cKd at hkd
  rw [← k2, ← k3] at hkd
  refine aw_aload_n 0 D_mo_tell_14 rfl rfl ?_
  refine aw_get D_mo_tell_15 rfl rfl ?_
  refine aw_aload_n 0 D_mo_tell_18 rfl rfl ?_
  refine aw_get D_mo_tell_19 rfl rfl ?_
  refine aw_iload_n 1 D_mo_tell_22 rfl rfl ?_
  refine aw_ialdN D_mo_tell_23 rfl (by omega) (by omega) ?_
  rw [show oF (-nI 9) o s = nI ((o s).getD 0) from oI_get (hF.1 s hs)]
  refine aw_ialdN D_mo_tell_24 rfl (by omega) (by omega) ?_
  refine aw_istore_n 2 D_mo_tell_25 rfl (Nat.le_of_ble_eq_true rfl) rfl ?_
  refine aw_aload_n 0 D_mo_tell_26 rfl rfl ?_
  refine aw_get D_mo_tell_27 rfl rfl ?_
  refine aw_iload_n 1 D_mo_tell_30 rfl rfl ?_
  refine aw_ialdN D_mo_tell_31 rfl (by omega) (by omega) ?_
  have hzero : be s = 0 ∧ sz ((o s).getD 0) ≠ 1 := by
    split at hkd
    · omega
    · split at hkd
      · omega
      · exact ⟨by omega, by assumption⟩
  refine aw_if_leN D_mo_tell_32 (by omega) (fun h => ?_) (fun h => absurd h (by omega))
  refine aw_iload_n 2 D_mo_tell_54 rfl rfl ?_
  refine aw_iconst (nI 1) D_mo_tell_55 rfl ?_
  refine aw_icmp_leN D_mo_tell_56 (by omega) (by decide) (fun h => absurd h (by omega)) (fun h => ?_)
  refine aw_aload_n 0 D_mo_tell_59 rfl rfl ?_
  refine aw_iconst (nI 2) D_mo_tell_60 rfl ?_
  refine aw_callVv (As := [_]) D_mo_tell_61 kv_mo_begins (c_mo_begins) rfl rfl rfl rfl rfl (Nat.le_of_ble_eq_true rfl) (Nat.zero_le _) (Nat.zero_le _) ?_
  refine aw_aload_n 0 D_mo_tell_64 rfl rfl ?_
  refine aw_iconst (nI 1) D_mo_tell_65 rfl ?_
  refine aw_callVv (As := [_]) D_mo_tell_66 kv_mo_begins (c_mo_begins) rfl rfl rfl rfl rfl (Nat.le_of_ble_eq_true rfl) (Nat.zero_le _) (Nat.zero_le _) ?_
  refine aw_iconst (nI 2) D_mo_tell_69 rfl ?_
  refine aw_iload_n 2 D_mo_tell_70 rfl rfl ?_
  first | with_reducible refine aw_iaddN D_mo_tell_71 ?_ | refine aw_iadd D_mo_tell_71 ?_
  rw [k2]
  refine aw_ireturn D_mo_tell_72 rfl rfl ?_
  exact ⟨rfl, _, rfl, 1, R, le, sz, o, be, pc, wt, qu, lm, sl, ce, tb, mt, ru, bf, kp, rfl, hn, hn9, hb, (Or.inr ⟨rfl, pd, fa, hF⟩), hL, hT⟩
theorem c_mo_tellA {s : Nat} (hs : s < 2 ^ n) (hkd : cKd n b s = 0) (h : MS n b tc fl la zs cs m) : AMet M_mo_tell [.ref 6, .int (nI s)] [a0, a1, a2, a3, a4, a5, m, a7] (fun (r' : Option Value) (w' : Wd) => r' = some (.int (nI 1)) ∧ ∃ m', w' = [a0, a1, a2, a3, a4, a5, m', a7] ∧ MS n b (nI 31 * tc + nI 1) fl la zs cs m') 0 0 := by
  obtain ⟨fd, R, le, sz, o, be, pc, wt, qu, lm, sl, ce, tb, mt, ru, bf, kp, rfl, hn, hn9, hb, hfd, hL, hT⟩ := h
  have hp9 := pow_le9 hn9
  have hf := FT.hf (n := n) (b := b) (by omega) hb
  refine AMet.of [(0, .ref 6), (1, .int (nI s))] (by decide +kernel) rfl (Nat.le_of_ble_eq_true rfl) ?_
  refine aw_aload_n 0 D_mo_tell_0 rfl rfl ?_
  refine aw_iload_n 1 D_mo_tell_1 rfl rfl ?_
  refine aw_callV1 (As := [_]) D_mo_tell_2 kv_mo_isState (c_mo_isStateT hn9 hs) rfl rfl rfl rfl rfl (Nat.le_of_ble_eq_true rfl) (Nat.zero_le _) (Nat.zero_le _) ?_
  refine aw_if_neN D_mo_tell_5 (by decide) (fun h => ?_) (fun h => absurd h (by decide))
  refine aw_aload_n 0 D_mo_tell_10 rfl rfl ?_
  refine aw_callV (As := []) D_mo_tell_11 kv_mo_find (c_mo_find hn hn9 hb hfd) rfl rfl rfl rfl rfl (Nat.le_of_ble_eq_true rfl) (Nat.zero_le _) (Nat.zero_le _) (fun r w' hp => ?_)
  obtain ⟨rfl, R, le, sz, o, be, pc, wt, qu, rfl, pd, fa, hF⟩ := hp
  obtain ⟨k1, k2, k3⟩ := kind_can (by omega) hb hF hs
  have hbl := hF.2.1.be_le hf hs
  have hR := hF.2.1.R_le
  have hro := hF.2.1.1 s hs
  try dsimp only at hro
  have hs1 := hF.2.1.sz_pos hs
  have hs2 := hF.2.1.sz_le hf hro
  try dsimp only at hs1 hs2
  unfold cKd at hkd
  rw [← k2, ← k3] at hkd
  refine aw_aload_n 0 D_mo_tell_14 rfl rfl ?_
  refine aw_get D_mo_tell_15 rfl rfl ?_
  refine aw_aload_n 0 D_mo_tell_18 rfl rfl ?_
  refine aw_get D_mo_tell_19 rfl rfl ?_
  refine aw_iload_n 1 D_mo_tell_22 rfl rfl ?_
  refine aw_ialdN D_mo_tell_23 rfl (by omega) (by omega) ?_
  rw [show oF (-nI 9) o s = nI ((o s).getD 0) from oI_get (hF.1 s hs)]
  refine aw_ialdN D_mo_tell_24 rfl (by omega) (by omega) ?_
  refine aw_istore_n 2 D_mo_tell_25 rfl (Nat.le_of_ble_eq_true rfl) rfl ?_
  refine aw_aload_n 0 D_mo_tell_26 rfl rfl ?_
  refine aw_get D_mo_tell_27 rfl rfl ?_
  refine aw_iload_n 1 D_mo_tell_30 rfl rfl ?_
  refine aw_ialdN D_mo_tell_31 rfl (by omega) (by omega) ?_
  have hzero : be s = 0 ∧ sz ((o s).getD 0) = 1 := by
    split at hkd
    · omega
    · split at hkd
      · exact ⟨by omega, by assumption⟩
      · omega
  refine aw_if_leN D_mo_tell_32 (by omega) (fun h => ?_) (fun h => absurd h (by omega))
  refine aw_iload_n 2 D_mo_tell_54 rfl rfl ?_
  refine aw_iconst (nI 1) D_mo_tell_55 rfl ?_
  refine aw_icmp_leN D_mo_tell_56 (by omega) (by decide) (fun h => ?_) (fun h => absurd h (by omega))
  refine aw_aload_n 0 D_mo_tell_73 rfl rfl ?_
  refine aw_iconst (nI 1) D_mo_tell_74 rfl ?_
  refine aw_callVv (As := [_]) D_mo_tell_75 kv_mo_begins (c_mo_begins) rfl rfl rfl rfl rfl (Nat.le_of_ble_eq_true rfl) (Nat.zero_le _) (Nat.zero_le _) ?_
  refine aw_iconst (nI 1) D_mo_tell_78 rfl ?_
  refine aw_ireturn D_mo_tell_79 rfl rfl ?_
  exact ⟨rfl, _, rfl, 1, R, le, sz, o, be, pc, wt, qu, lm, sl, ce, tb, mt, ru, bf, kp, rfl, hn, hn9, hb, (Or.inr ⟨rfl, pd, fa, hF⟩), hL, hT⟩
theorem c_mo_weighB {s : Nat} (hs : s < 2 ^ n) (hkd : cKd n b s = 2) (h : MS n b tc fl la zs cs m) : AMet M_mo_weigh [.ref 6, .int (nI s)] [a0, a1, a2, a3, a4, a5, m, a7] (fun (r' : Option Value) (w' : Wd) => r' = some (.int (nI 600)) ∧ ∃ m', w' = [a0, a1, a2, a3, a4, a5, m', a7] ∧ MS n b (nI 31 * tc + nI 5) fl la zs cs m') 0 0 := by
  obtain ⟨fd, R, le, sz, o, be, pc, wt, qu, lm, sl, ce, tb, mt, ru, bf, kp, rfl, hn, hn9, hb, hfd, hL, hT⟩ := h
  have hp9 := pow_le9 hn9
  have hf := FT.hf (n := n) (b := b) (by omega) hb
  refine AMet.of [(0, .ref 6), (1, .int (nI s))] (by decide +kernel) rfl (Nat.le_of_ble_eq_true rfl) ?_
  refine aw_aload_n 0 D_mo_weigh_0 rfl rfl ?_
  refine aw_iload_n 1 D_mo_weigh_1 rfl rfl ?_
  refine aw_callV1 (As := [_]) D_mo_weigh_2 kv_mo_isState (c_mo_isStateT hn9 hs) rfl rfl rfl rfl rfl (Nat.le_of_ble_eq_true rfl) (Nat.zero_le _) (Nat.zero_le _) ?_
  refine aw_if_neN D_mo_weigh_5 (by decide) (fun h => ?_) (fun h => absurd h (by decide))
  refine aw_aload_n 0 D_mo_weigh_10 rfl rfl ?_
  refine aw_callV (As := []) D_mo_weigh_11 kv_mo_find (c_mo_find hn hn9 hb hfd) rfl rfl rfl rfl rfl (Nat.le_of_ble_eq_true rfl) (Nat.zero_le _) (Nat.zero_le _) (fun r w' hp => ?_)
  obtain ⟨rfl, R, le, sz, o, be, pc, wt, qu, rfl, pd, fa, hF⟩ := hp
  obtain ⟨k1, k2, k3⟩ := kind_can (by omega) hb hF hs
  have hbl := hF.2.1.be_le hf hs
  have hR := hF.2.1.R_le
  have hro := hF.2.1.1 s hs
  try dsimp only at hro
  have hs1 := hF.2.1.sz_pos hs
  have hs2 := hF.2.1.sz_le hf hro
  try dsimp only at hs1 hs2
  unfold cKd at hkd
  rw [← k2, ← k3] at hkd
  have hpos : 0 < be s := by
    rcases Nat.eq_zero_or_pos (be s) with z | z
    · rw [if_neg (by omega)] at hkd
      split at hkd <;> omega
    · exact z
  refine aw_aload_n 0 D_mo_weigh_14 rfl rfl ?_
  refine aw_aload_n 0 D_mo_weigh_15 rfl rfl ?_
  refine aw_get D_mo_weigh_16 rfl rfl ?_
  refine aw_iload_n 1 D_mo_weigh_19 rfl rfl ?_
  refine aw_ialdN D_mo_weigh_20 rfl (by omega) (by omega) ?_
  refine aw_if_leN D_mo_weigh_21 (by omega) (fun h => absurd h (by omega)) (fun h => ?_)
  refine aw_iconst (nI 5) D_mo_weigh_24 rfl ?_
  refine aw_goto D_mo_weigh_25 ?_
  refine aw_callVv (As := [_]) D_mo_weigh_29 kv_mo_begins (c_mo_begins) rfl rfl rfl rfl rfl (Nat.le_of_ble_eq_true rfl) (Nat.zero_le _) (Nat.zero_le _) ?_
  refine aw_aload_n 0 D_mo_weigh_32 rfl rfl ?_
  refine aw_get D_mo_weigh_33 rfl rfl ?_
  refine aw_iload_n 1 D_mo_weigh_36 rfl rfl ?_
  refine aw_ialdN D_mo_weigh_37 rfl (by omega) (by omega) ?_
  refine aw_if_leN D_mo_weigh_38 (by omega) (fun h => absurd h (by omega)) (fun h => ?_)
  refine aw_sipush (nI 600) D_mo_weigh_41 rfl ?_
  refine aw_goto D_mo_weigh_44 ?_
  refine aw_ireturn D_mo_weigh_48 rfl rfl ?_
  exact ⟨rfl, _, rfl, 1, R, le, sz, o, be, pc, wt, qu, lm, sl, ce, tb, mt, ru, bf, kp, rfl, hn, hn9, hb, (Or.inr ⟨rfl, pd, fa, hF⟩), hL, hT⟩
theorem c_mo_weighL {s : Nat} (hs : s < 2 ^ n) (hkd : cKd n b s ≠ 2) (h : MS n b tc fl la zs cs m) : AMet M_mo_weigh [.ref 6, .int (nI s)] [a0, a1, a2, a3, a4, a5, m, a7] (fun (r' : Option Value) (w' : Wd) => r' = some (.int (nI s)) ∧ ∃ m', w' = [a0, a1, a2, a3, a4, a5, m', a7] ∧ MS n b (nI 31 * tc + nI 4) fl la zs cs m') 0 0 := by
  obtain ⟨fd, R, le, sz, o, be, pc, wt, qu, lm, sl, ce, tb, mt, ru, bf, kp, rfl, hn, hn9, hb, hfd, hL, hT⟩ := h
  have hp9 := pow_le9 hn9
  have hf := FT.hf (n := n) (b := b) (by omega) hb
  refine AMet.of [(0, .ref 6), (1, .int (nI s))] (by decide +kernel) rfl (Nat.le_of_ble_eq_true rfl) ?_
  refine aw_aload_n 0 D_mo_weigh_0 rfl rfl ?_
  refine aw_iload_n 1 D_mo_weigh_1 rfl rfl ?_
  refine aw_callV1 (As := [_]) D_mo_weigh_2 kv_mo_isState (c_mo_isStateT hn9 hs) rfl rfl rfl rfl rfl (Nat.le_of_ble_eq_true rfl) (Nat.zero_le _) (Nat.zero_le _) ?_
  refine aw_if_neN D_mo_weigh_5 (by decide) (fun h => ?_) (fun h => absurd h (by decide))
  refine aw_aload_n 0 D_mo_weigh_10 rfl rfl ?_
  refine aw_callV (As := []) D_mo_weigh_11 kv_mo_find (c_mo_find hn hn9 hb hfd) rfl rfl rfl rfl rfl (Nat.le_of_ble_eq_true rfl) (Nat.zero_le _) (Nat.zero_le _) (fun r w' hp => ?_)
  obtain ⟨rfl, R, le, sz, o, be, pc, wt, qu, rfl, pd, fa, hF⟩ := hp
  obtain ⟨k1, k2, k3⟩ := kind_can (by omega) hb hF hs
  have hbl := hF.2.1.be_le hf hs
  have hR := hF.2.1.R_le
  have hro := hF.2.1.1 s hs
  try dsimp only at hro
  have hs1 := hF.2.1.sz_pos hs
  have hs2 := hF.2.1.sz_le hf hro
  try dsimp only at hs1 hs2
  unfold cKd at hkd
  rw [← k2, ← k3] at hkd
  have hzero : be s = 0 := by
    rcases Nat.eq_zero_or_pos (be s) with z | z
    · exact z
    · rw [if_pos z] at hkd
      exact absurd rfl hkd
  refine aw_aload_n 0 D_mo_weigh_14 rfl rfl ?_
  refine aw_aload_n 0 D_mo_weigh_15 rfl rfl ?_
  refine aw_get D_mo_weigh_16 rfl rfl ?_
  refine aw_iload_n 1 D_mo_weigh_19 rfl rfl ?_
  refine aw_ialdN D_mo_weigh_20 rfl (by omega) (by omega) ?_
  refine aw_if_leN D_mo_weigh_21 (by omega) (fun h => ?_) (fun h => absurd h (by omega))
  refine aw_iconst (nI 4) D_mo_weigh_28 rfl ?_
  refine aw_callVv (As := [_]) D_mo_weigh_29 kv_mo_begins (c_mo_begins) rfl rfl rfl rfl rfl (Nat.le_of_ble_eq_true rfl) (Nat.zero_le _) (Nat.zero_le _) ?_
  refine aw_aload_n 0 D_mo_weigh_32 rfl rfl ?_
  refine aw_get D_mo_weigh_33 rfl rfl ?_
  refine aw_iload_n 1 D_mo_weigh_36 rfl rfl ?_
  refine aw_ialdN D_mo_weigh_37 rfl (by omega) (by omega) ?_
  refine aw_if_leN D_mo_weigh_38 (by omega) (fun h => ?_) (fun h => absurd h (by omega))
  refine aw_iload_n 1 D_mo_weigh_47 rfl rfl ?_
  refine aw_ireturn D_mo_weigh_48 rfl rfl ?_
  exact ⟨rfl, _, rfl, 1, R, le, sz, o, be, pc, wt, qu, lm, sl, ce, tb, mt, ru, bf, kp, rfl, hn, hn9, hb, (Or.inr ⟨rfl, pd, fa, hF⟩), hL, hT⟩
theorem c_mo_asU {x y : Int32} (hx : ¬ vp_in x (2 ^ n)) (h : MS n b tc fl la zs cs m) : AMet M_mo_as [.ref 6, .int x, .int y] [a0, a1, a2, a3, a4, a5, m, a7] (fun (r' : Option Value) (w' : Wd) => r' = some (.int (-nI 1)) ∧ ∃ m', w' = [a0, a1, a2, a3, a4, a5, m', a7] ∧ MS n b tc (nI 0) la zs cs m') 0 0 := by
  obtain ⟨fd, R, le, sz, o, be, pc, wt, qu, lm, sl, ce, tb, mt, ru, bf, kp, rfl, hn, hn9, hb, hfd, hL, hT⟩ := h
  refine AMet.of [(0, .ref 6), (1, .int x), (2, .int y)] (by decide +kernel) rfl (Nat.le_of_ble_eq_true rfl) ?_
  refine aw_aload_n 0 D_mo_as_0 rfl rfl ?_
  refine aw_iconst (nI 0) D_mo_as_1 rfl ?_
  refine aw_put tc_mo D_mo_as_2 rfl (Nat.le_of_ble_eq_true rfl) rfl rfl ?_
  refine aw_aload_n 0 D_mo_as_5 rfl rfl ?_
  refine aw_iload_n 1 D_mo_as_6 rfl rfl ?_
  refine aw_callV1 (As := [_]) D_mo_as_7 kv_mo_isState (c_mo_isStateF hn9 hx) rfl rfl rfl rfl rfl (Nat.le_of_ble_eq_true rfl) (Nat.zero_le _) (Nat.zero_le _) ?_
  refine aw_if_neN D_mo_as_10 (by decide) (fun h => absurd h (by decide)) (fun h => ?_)
  refine aw_iconst (-nI 1) D_mo_as_13 rfl ?_
  refine aw_ireturn D_mo_as_14 rfl rfl ?_
  exact ⟨rfl, _, rfl, fd, R, le, sz, o, be, pc, wt, qu, lm, sl, ce, tb, mt, ru, bf, kp, rfl, hn, hn9, hb, hfd, hL, hT⟩
theorem c_mo_asO {s : Nat} {y : Int32} (hs : s < 2 ^ n) (hy : ¬ vp_in y 4) (h : MS n b tc fl la zs cs m) : AMet M_mo_as [.ref 6, .int (nI s), .int y] [a0, a1, a2, a3, a4, a5, m, a7] (fun (r' : Option Value) (w' : Wd) => r' = some (.int (-nI 2)) ∧ ∃ m', w' = [a0, a1, a2, a3, a4, a5, m', a7] ∧ MS n b tc (nI 0) la zs cs m') 0 0 := by
  obtain ⟨fd, R, le, sz, o, be, pc, wt, qu, lm, sl, ce, tb, mt, ru, bf, kp, rfl, hn, hn9, hb, hfd, hL, hT⟩ := h
  refine AMet.of [(0, .ref 6), (1, .int (nI s)), (2, .int y)] (by decide +kernel) rfl (Nat.le_of_ble_eq_true rfl) ?_
  refine aw_aload_n 0 D_mo_as_0 rfl rfl ?_
  refine aw_iconst (nI 0) D_mo_as_1 rfl ?_
  refine aw_put tc_mo D_mo_as_2 rfl (Nat.le_of_ble_eq_true rfl) rfl rfl ?_
  refine aw_aload_n 0 D_mo_as_5 rfl rfl ?_
  refine aw_iload_n 1 D_mo_as_6 rfl rfl ?_
  refine aw_callV1 (As := [_]) D_mo_as_7 kv_mo_isState (c_mo_isStateT hn9 hs) rfl rfl rfl rfl rfl (Nat.le_of_ble_eq_true rfl) (Nat.zero_le _) (Nat.zero_le _) ?_
  refine aw_if_neN D_mo_as_10 (by decide) (fun h => ?_) (fun h => absurd h (by decide))
  refine aw_iload_n 2 D_mo_as_15 rfl rfl ?_
  first | with_reducible refine aw_i2lN D_mo_as_16 (by omega) ?_ | refine aw_i2l D_mo_as_16 ?_
  refine aw_lconst (lN 0) D_mo_as_17 rfl ?_
  refine aw_ldc2 D_mo_as_18 ?_
  refine aw_callS1 (As := [_, _, _]) D_mo_as_21 kv_mo_within (c_mo_withinF (vp_F (N := 3) (by decide) hy) (by decide) (by decide)) rfl rfl (Nat.le_of_ble_eq_true rfl) (Nat.zero_le _) (Nat.zero_le _) ?_
  refine aw_if_neN D_mo_as_24 (by decide) (fun h => absurd h (by decide)) (fun h => ?_)
  refine aw_bipush (-nI 2) D_mo_as_27 rfl ?_
  refine aw_ireturn D_mo_as_29 rfl rfl ?_
  exact ⟨rfl, _, rfl, fd, R, le, sz, o, be, pc, wt, qu, lm, sl, ce, tb, mt, ru, bf, kp, rfl, hn, hn9, hb, hfd, hL, hT⟩
theorem c_mo_asT {s j : Nat} (hs : s < 2 ^ n) (hj : j < 4) (hfit : j = cKd n b s ∨ j = 3 ∧ cKd n b s < 2) (h : MS n b tc fl la zs cs m) : AMet M_mo_as [.ref 6, .int (nI s), .int (nI j)] [a0, a1, a2, a3, a4, a5, m, a7] (fun (r' : Option Value) (w' : Wd) => r' = some (.int (nI 1)) ∧ ∃ m', w' = [a0, a1, a2, a3, a4, a5, m', a7] ∧ MS n b tc (nI 0) la zs cs m') 0 0 := by
  obtain ⟨fd, R, le, sz, o, be, pc, wt, qu, lm, sl, ce, tb, mt, ru, bf, kp, rfl, hn, hn9, hb, hfd, hL, hT⟩ := h
  have hp9 := pow_le9 hn9
  have hf := FT.hf (n := n) (b := b) (by omega) hb
  refine AMet.of [(0, .ref 6), (1, .int (nI s)), (2, .int (nI j))] (by decide +kernel) rfl (Nat.le_of_ble_eq_true rfl) ?_
  generalize hZ : (fun (r' : Option Value) (w' : Wd) => r' = some (.int (nI 1)) ∧ ∃ m', w' = [a0, a1, a2, a3, a4, a5, m', a7] ∧ MS n b tc (nI 0) la zs cs m') = ZZ
  refine aw_aload_n 0 D_mo_as_0 rfl rfl ?_
  refine aw_iconst (nI 0) D_mo_as_1 rfl ?_
  refine aw_put tc_mo D_mo_as_2 rfl (Nat.le_of_ble_eq_true rfl) rfl rfl ?_
  refine aw_aload_n 0 D_mo_as_5 rfl rfl ?_
  refine aw_iload_n 1 D_mo_as_6 rfl rfl ?_
  refine aw_callV1 (As := [_]) D_mo_as_7 kv_mo_isState (c_mo_isStateT hn9 hs) rfl rfl rfl rfl rfl (Nat.le_of_ble_eq_true rfl) (Nat.zero_le _) (Nat.zero_le _) ?_
  refine aw_if_neN D_mo_as_10 (by decide) (fun h => ?_) (fun h => absurd h (by decide))
  refine aw_iload_n 2 D_mo_as_15 rfl rfl ?_
  first | with_reducible refine aw_i2lN D_mo_as_16 (by omega) ?_ | refine aw_i2l D_mo_as_16 ?_
  refine aw_lconst (lN 0) D_mo_as_17 rfl ?_
  refine aw_ldc2 D_mo_as_18 ?_
  refine aw_callS1 (As := [_, _, _]) D_mo_as_21 kv_mo_within (c_mo_withinT (Nat.zero_le j) (show j ≤ 3 by omega) (by decide)) rfl rfl (Nat.le_of_ble_eq_true rfl) (Nat.zero_le _) (Nat.zero_le _) ?_
  refine aw_if_neN D_mo_as_24 (by decide) (fun h => ?_) (fun h => absurd h (by decide))
  refine aw_aload_n 0 D_mo_as_30 rfl rfl ?_
  refine aw_callV (As := []) D_mo_as_31 kv_mo_find (c_mo_find hn hn9 hb hfd) rfl rfl rfl rfl rfl (Nat.le_of_ble_eq_true rfl) (Nat.zero_le _) (Nat.zero_le _) (fun r w' hp => ?_)
  obtain ⟨rfl, R, le, sz, o, be, pc, wt, qu, rfl, pd, fa, hF⟩ := hp
  obtain ⟨k1, k2, k3⟩ := kind_can (by omega) hb hF hs
  have hbl := hF.2.1.be_le hf hs
  have hR := hF.2.1.R_le
  have hro := hF.2.1.1 s hs
  try dsimp only at hro
  have hs1 := hF.2.1.sz_pos hs
  have hs2 := hF.2.1.sz_le hf hro
  try dsimp only at hs1 hs2
  have hkd : cKd n b s = if 0 < be s then 2 else if sz ((o s).getD 0) = 1 then 0 else 1 := by rw [← k1]; rfl
  have hkl : cKd n b s ≤ 2 := by rw [hkd]; split; omega; split <;> omega
  have last : ∀ v, cKd n b s = v → AW M_mo_as noP (Zp ZZ) 0 0 67 [(0, .ref 6), (1, .int (nI s)), (2, .int (nI j))] [.int (nI v)] [a0, a1, a2, a3, a4, a5, MO (nI 0) tc n 1 R b le sz o be pc wt qu lm sl ce tb mt ru bf kp, a7] 0 0 := by
    rintro v rfl
    refine aw_istore_n 3 D_mo_as_67 rfl (Nat.le_of_ble_eq_true rfl) rfl ?_
    refine aw_iload_n 2 D_mo_as_68 rfl rfl ?_
    refine aw_iload_n 3 D_mo_as_69 rfl rfl ?_
    refine aw_icmp_eqN D_mo_as_70 (by omega) (by omega) (fun h => ?_) (fun h => ?_)
    · refine aw_iconst (nI 1) D_mo_as_83 rfl ?_
      refine aw_goto D_mo_as_84 ?_
      refine aw_ireturn D_mo_as_92 rfl rfl ?_
      subst hZ; exact ⟨rfl, _, rfl, 1, R, le, sz, o, be, pc, wt, qu, lm, sl, ce, tb, mt, ru, bf, kp, rfl, hn, hn9, hb, (Or.inr ⟨rfl, pd, fa, hF⟩), hL, hT⟩
    · refine aw_iload_n 2 D_mo_as_73 rfl rfl ?_
      refine aw_iconst (nI 3) D_mo_as_74 rfl ?_
      refine aw_icmp_neN D_mo_as_75 (by omega) (by omega) (fun h => absurd h (by omega)) (fun h => ?_)
      refine aw_iload_n 3 D_mo_as_78 rfl rfl ?_
      refine aw_iconst (nI 2) D_mo_as_79 rfl ?_
      refine aw_icmp_geN D_mo_as_80 (by omega) (by omega) (fun h => absurd h (by omega)) (fun h => ?_)
      refine aw_iconst (nI 1) D_mo_as_83 rfl ?_
      refine aw_goto D_mo_as_84 ?_
      refine aw_ireturn D_mo_as_92 rfl rfl ?_
      subst hZ; exact ⟨rfl, _, rfl, 1, R, le, sz, o, be, pc, wt, qu, lm, sl, ce, tb, mt, ru, bf, kp, rfl, hn, hn9, hb, (Or.inr ⟨rfl, pd, fa, hF⟩), hL, hT⟩
  refine aw_aload_n 0 D_mo_as_34 rfl rfl ?_
  refine aw_get D_mo_as_35 rfl rfl ?_
  refine aw_iload_n 1 D_mo_as_38 rfl rfl ?_
  refine aw_ialdN D_mo_as_39 rfl (by omega) (by omega) ?_
  rcases Nat.eq_zero_or_pos (be s) with hz | hz
  · refine aw_if_leN D_mo_as_40 (by omega) (fun h => ?_) (fun h => absurd h (by omega))
    rw [if_neg (by omega)] at hkd
    refine aw_aload_n 0 D_mo_as_47 rfl rfl ?_
    refine aw_get D_mo_as_48 rfl rfl ?_
    refine aw_aload_n 0 D_mo_as_51 rfl rfl ?_
    refine aw_get D_mo_as_52 rfl rfl ?_
    refine aw_iload_n 1 D_mo_as_55 rfl rfl ?_
    refine aw_ialdN D_mo_as_56 rfl (by omega) (by omega) ?_
    rw [show oF (-nI 9) o s = nI ((o s).getD 0) from oI_get (hF.1 s hs)]
    refine aw_ialdN D_mo_as_57 rfl (by omega) (by omega) ?_
    refine aw_iconst (nI 1) D_mo_as_58 rfl ?_
    refine aw_icmp_leN D_mo_as_59 (by omega) (by decide) (fun h => ?_) (fun h => ?_)
    · rw [if_pos (by omega)] at hkd
      refine aw_iconst (nI 0) D_mo_as_66 rfl ?_
      exact last _ hkd
    · rw [if_neg (by omega)] at hkd
      refine aw_iconst (nI 1) D_mo_as_62 rfl ?_
      refine aw_goto D_mo_as_63 ?_
      exact last _ hkd
  · refine aw_if_leN D_mo_as_40 (by omega) (fun h => absurd h (by omega)) (fun h => ?_)
    rw [if_pos hz] at hkd
    refine aw_iconst (nI 2) D_mo_as_43 rfl ?_
    refine aw_goto D_mo_as_44 ?_
    exact last _ hkd
theorem c_mo_asF {s j : Nat} (hs : s < 2 ^ n) (hj : j < 4) (hfit : ¬ (j = cKd n b s ∨ j = 3 ∧ cKd n b s < 2)) (h : MS n b tc fl la zs cs m) : AMet M_mo_as [.ref 6, .int (nI s), .int (nI j)] [a0, a1, a2, a3, a4, a5, m, a7] (fun (r' : Option Value) (w' : Wd) => r' = some (.int (-nI 10 - nI 2)) ∧ ∃ m', w' = [a0, a1, a2, a3, a4, a5, m', a7] ∧ MS n b tc (nI 2) la zs cs m') 0 0 := by
  obtain ⟨fd, R, le, sz, o, be, pc, wt, qu, lm, sl, ce, tb, mt, ru, bf, kp, rfl, hn, hn9, hb, hfd, hL, hT⟩ := h
  have hp9 := pow_le9 hn9
  have hf := FT.hf (n := n) (b := b) (by omega) hb
  refine AMet.of [(0, .ref 6), (1, .int (nI s)), (2, .int (nI j))] (by decide +kernel) rfl (Nat.le_of_ble_eq_true rfl) ?_
  generalize hZ : (fun (r' : Option Value) (w' : Wd) => r' = some (.int (-nI 10 - nI 2)) ∧ ∃ m', w' = [a0, a1, a2, a3, a4, a5, m', a7] ∧ MS n b tc (nI 2) la zs cs m') = ZZ
  refine aw_aload_n 0 D_mo_as_0 rfl rfl ?_
  refine aw_iconst (nI 0) D_mo_as_1 rfl ?_
  refine aw_put tc_mo D_mo_as_2 rfl (Nat.le_of_ble_eq_true rfl) rfl rfl ?_
  refine aw_aload_n 0 D_mo_as_5 rfl rfl ?_
  refine aw_iload_n 1 D_mo_as_6 rfl rfl ?_
  refine aw_callV1 (As := [_]) D_mo_as_7 kv_mo_isState (c_mo_isStateT hn9 hs) rfl rfl rfl rfl rfl (Nat.le_of_ble_eq_true rfl) (Nat.zero_le _) (Nat.zero_le _) ?_
  refine aw_if_neN D_mo_as_10 (by decide) (fun h => ?_) (fun h => absurd h (by decide))
  refine aw_iload_n 2 D_mo_as_15 rfl rfl ?_
  first | with_reducible refine aw_i2lN D_mo_as_16 (by omega) ?_ | refine aw_i2l D_mo_as_16 ?_
  refine aw_lconst (lN 0) D_mo_as_17 rfl ?_
  refine aw_ldc2 D_mo_as_18 ?_
  refine aw_callS1 (As := [_, _, _]) D_mo_as_21 kv_mo_within (c_mo_withinT (Nat.zero_le j) (show j ≤ 3 by omega) (by decide)) rfl rfl (Nat.le_of_ble_eq_true rfl) (Nat.zero_le _) (Nat.zero_le _) ?_
  refine aw_if_neN D_mo_as_24 (by decide) (fun h => ?_) (fun h => absurd h (by decide))
  refine aw_aload_n 0 D_mo_as_30 rfl rfl ?_
  refine aw_callV (As := []) D_mo_as_31 kv_mo_find (c_mo_find hn hn9 hb hfd) rfl rfl rfl rfl rfl (Nat.le_of_ble_eq_true rfl) (Nat.zero_le _) (Nat.zero_le _) (fun r w' hp => ?_)
  obtain ⟨rfl, R, le, sz, o, be, pc, wt, qu, rfl, pd, fa, hF⟩ := hp
  obtain ⟨k1, k2, k3⟩ := kind_can (by omega) hb hF hs
  have hbl := hF.2.1.be_le hf hs
  have hR := hF.2.1.R_le
  have hro := hF.2.1.1 s hs
  try dsimp only at hro
  have hs1 := hF.2.1.sz_pos hs
  have hs2 := hF.2.1.sz_le hf hro
  try dsimp only at hs1 hs2
  have hkd : cKd n b s = if 0 < be s then 2 else if sz ((o s).getD 0) = 1 then 0 else 1 := by rw [← k1]; rfl
  have hkl : cKd n b s ≤ 2 := by rw [hkd]; split; omega; split <;> omega
  have last : ∀ v, cKd n b s = v → AW M_mo_as noP (Zp ZZ) 0 0 67 [(0, .ref 6), (1, .int (nI s)), (2, .int (nI j))] [.int (nI v)] [a0, a1, a2, a3, a4, a5, MO (nI 0) tc n 1 R b le sz o be pc wt qu lm sl ce tb mt ru bf kp, a7] 0 0 := by
    rintro v rfl
    have hfail : AW M_mo_as noP (Zp ZZ) 0 0 87 [(0, .ref 6), (1, .int (nI s)), (2, .int (nI j)), (3, .int (nI (cKd n b s)))] [] [a0, a1, a2, a3, a4, a5, MO (nI 0) tc n 1 R b le sz o be pc wt qu lm sl ce tb mt ru bf kp, a7] 0 0 := by
      refine aw_aload_n 0 D_mo_as_87 rfl rfl ?_
      refine aw_iconst (nI 2) D_mo_as_88 rfl ?_
      refine aw_callV1 (As := [_]) D_mo_as_89 kv_mo_fails (c_mo_fails) rfl rfl rfl rfl rfl (Nat.le_of_ble_eq_true rfl) (Nat.zero_le _) (Nat.zero_le _) ?_
      refine aw_ireturn D_mo_as_92 rfl rfl ?_
      subst hZ; exact ⟨rfl, _, rfl, 1, R, le, sz, o, be, pc, wt, qu, lm, sl, ce, tb, mt, ru, bf, kp, rfl, hn, hn9, hb, (Or.inr ⟨rfl, pd, fa, hF⟩), hL, hT⟩
    refine aw_istore_n 3 D_mo_as_67 rfl (Nat.le_of_ble_eq_true rfl) rfl ?_
    refine aw_iload_n 2 D_mo_as_68 rfl rfl ?_
    refine aw_iload_n 3 D_mo_as_69 rfl rfl ?_
    refine aw_icmp_eqN D_mo_as_70 (by omega) (by omega) (fun h => absurd h (by omega)) (fun h => ?_)
    refine aw_iload_n 2 D_mo_as_73 rfl rfl ?_
    refine aw_iconst (nI 3) D_mo_as_74 rfl ?_
    refine aw_icmp_neN D_mo_as_75 (by omega) (by omega) (fun h => hfail) (fun h => ?_)
    refine aw_iload_n 3 D_mo_as_78 rfl rfl ?_
    refine aw_iconst (nI 2) D_mo_as_79 rfl ?_
    refine aw_icmp_geN D_mo_as_80 (by omega) (by omega) (fun h => hfail) (fun h => absurd h (by omega))
  refine aw_aload_n 0 D_mo_as_34 rfl rfl ?_
  refine aw_get D_mo_as_35 rfl rfl ?_
  refine aw_iload_n 1 D_mo_as_38 rfl rfl ?_
  refine aw_ialdN D_mo_as_39 rfl (by omega) (by omega) ?_
  rcases Nat.eq_zero_or_pos (be s) with hz | hz
  · refine aw_if_leN D_mo_as_40 (by omega) (fun h => ?_) (fun h => absurd h (by omega))
    rw [if_neg (by omega)] at hkd
    refine aw_aload_n 0 D_mo_as_47 rfl rfl ?_
    refine aw_get D_mo_as_48 rfl rfl ?_
    refine aw_aload_n 0 D_mo_as_51 rfl rfl ?_
    refine aw_get D_mo_as_52 rfl rfl ?_
    refine aw_iload_n 1 D_mo_as_55 rfl rfl ?_
    refine aw_ialdN D_mo_as_56 rfl (by omega) (by omega) ?_
    rw [show oF (-nI 9) o s = nI ((o s).getD 0) from oI_get (hF.1 s hs)]
    refine aw_ialdN D_mo_as_57 rfl (by omega) (by omega) ?_
    refine aw_iconst (nI 1) D_mo_as_58 rfl ?_
    refine aw_icmp_leN D_mo_as_59 (by omega) (by decide) (fun h => ?_) (fun h => ?_)
    · rw [if_pos (by omega)] at hkd
      refine aw_iconst (nI 0) D_mo_as_66 rfl ?_
      exact last _ hkd
    · rw [if_neg (by omega)] at hkd
      refine aw_iconst (nI 1) D_mo_as_62 rfl ?_
      refine aw_goto D_mo_as_63 ?_
      exact last _ hkd
  · refine aw_if_leN D_mo_as_40 (by omega) (fun h => absurd h (by omega)) (fun h => ?_)
    rw [if_pos hz] at hkd
    refine aw_iconst (nI 2) D_mo_as_43 rfl ?_
    refine aw_goto D_mo_as_44 ?_
    exact last _ hkd
end Mo4
