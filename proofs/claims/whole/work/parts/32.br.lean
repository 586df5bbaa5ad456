/-! ### BitRings: its state, its helpers -/
/-- the class's part of a world: register n, b; trace, fault; sheets; all else is as it may be -/
def CS (n : Nat) (b : Nat → Nat) (tc fl : Int32) (la : Nat → Int32) (zs : Nat → Nat) (cs : Nat → Nat → Int64) (mo : List va_E) (w : Wd) : Prop :=
  ∃ (ch : Nat) (bn : Nat → Nat) (c pd st fa : Nat) (o : Nat → Option Nat) (be pc le sz wt qu : Nat → Nat) (kc tw mk : Nat) (ru ol re ms : Nat → Nat) (sp : Nat → Int32) (dy : List va_E),
    w = [BR tc fl, RG n (2 ^ n) ch b bn, RI c pd st fa o be pc le sz wt qu, TR kc tw, SH la zs cs, RR mk ru ol re ms sp, mo, dy] ∧ 2 ≤ n ∧ n ≤ 9 ∧ (∀ k, b k ≤ 1) ∧ (ch = 1 ∨ ch = 0 ∧ FT n b c pd st fa o be pc le sz) ∧ TD dy kc ∧ (∀ k, zs k ≤ 600)
section BrHelp
variable {w : Wd}
theorem c_br_isBit {x : Int32} : AMet M_br_isBit [.int x] w (Ex (some (.int (nI (if x = 0 ∨ x = nI 1 then 1 else 0)))) w) 0 0 := by
  refine AMet.of [(0, .int x)] (by decide +kernel) rfl (Nat.le_of_ble_eq_true rfl) ?_
  refine aw_iload_n 0 D_br_isBit_0 rfl rfl ?_
  refine aw_if_eq D_br_isBit_1 (fun h => ?_) (fun h => ?_)
  · rw [if_pos (Or.inl h)]
    refine aw_iconst (nI 1) D_br_isBit_9 rfl ?_
    refine aw_goto D_br_isBit_10 ?_
    refine aw_ireturn D_br_isBit_14 rfl rfl ?_
    exact ⟨rfl, rfl⟩
  · refine aw_iload_n 0 D_br_isBit_4 rfl rfl ?_
    refine aw_iconst (nI 1) D_br_isBit_5 rfl ?_
    refine aw_icmp_ne D_br_isBit_6 (fun h2 => ?_) (fun h2 => ?_)
    · rw [if_neg (fun z => z.elim h h2)]
      refine aw_iconst (nI 0) D_br_isBit_13 rfl ?_
      refine aw_ireturn D_br_isBit_14 rfl rfl ?_
      exact ⟨rfl, rfl⟩
    · rw [if_pos (Or.inr h2)]
      refine aw_iconst (nI 1) D_br_isBit_9 rfl ?_
      refine aw_goto D_br_isBit_10 ?_
      refine aw_ireturn D_br_isBit_14 rfl rfl ?_
      exact ⟨rfl, rfl⟩
theorem c_br_isBitT {x : Nat} (h : x ≤ 1) : AMet M_br_isBit [.int (nI x)] w (Ex (some (.int (nI 1))) w) 0 0 := by
  have := c_br_isBit (w := w) (x := nI x)
  rw [if_pos (by rcases (show x = 0 ∨ x = 1 by omega) with rfl | rfl; exact Or.inl nI_0; exact Or.inr rfl)] at this
  exact this
theorem bit_of {x : Int32} : vp_in x 2 ↔ x = 0 ∨ x = nI 1 := by
  constructor
  · intro h
    obtain ⟨j, hj, rfl⟩ := vp_in_of h (by decide)
    rcases (show j = 0 ∨ j = 1 by omega) with rfl | rfl
    · exact Or.inl nI_0
    · exact Or.inr rfl
  · rintro (rfl | rfl)
    · exact (nI_0 ▸ vp_in_nI (n := 0) (by decide) (by decide))
    · exact vp_in_nI (by decide) (by decide)
theorem c_br_isBitF {x : Int32} (h : ¬ vp_in x 2) : AMet M_br_isBit [.int x] w (Ex (some (.int (nI 0))) w) 0 0 := by
  have := c_br_isBit (w := w) (x := x)
  rw [if_neg (fun z => h (bit_of.mpr z))] at this
  exact this
theorem c_br_isSheetT {k : Nat} (h : k < 4) : AMet M_br_isSheet [.int (nI k)] w (Ex (some (.int (nI 1))) w) 0 0 := by
  refine AMet.of [(0, .int (nI k))] (by decide +kernel) rfl (Nat.le_of_ble_eq_true rfl) ?_
  refine aw_iload_n 0 D_br_isSheet_0 rfl rfl ?_
  refine aw_if_ltN D_br_isSheet_1 (by omega) ?_
  refine aw_iload_n 0 D_br_isSheet_4 rfl rfl ?_
  refine aw_iconst (nI 4) D_br_isSheet_5 rfl ?_
  refine aw_icmp_geN D_br_isSheet_6 (by omega) (by omega) (fun h2 => absurd h2 (by omega)) (fun h2 => ?_)
  refine aw_iconst (nI 1) D_br_isSheet_9 rfl ?_
  refine aw_goto D_br_isSheet_10 ?_
  refine aw_ireturn D_br_isSheet_14 rfl rfl ?_
  exact ⟨rfl, rfl⟩
theorem c_br_isSheetF {x : Int32} (h : ¬ vp_in x 4) : AMet M_br_isSheet [.int x] w (Ex (some (.int (nI 0))) w) 0 0 := by
  refine AMet.of [(0, .int x)] (by decide +kernel) rfl (Nat.le_of_ble_eq_true rfl) ?_
  refine aw_iload_n 0 D_br_isSheet_0 rfl rfl ?_
  refine aw_if_lt D_br_isSheet_1 (fun h2 => ?_) (fun h2 => ?_)
  · refine aw_iconst (nI 0) D_br_isSheet_13 rfl ?_
    refine aw_ireturn D_br_isSheet_14 rfl rfl ?_
    exact ⟨rfl, rfl⟩
  · refine aw_iload_n 0 D_br_isSheet_4 rfl rfl ?_
    refine aw_iconst (nI 4) D_br_isSheet_5 rfl ?_
    refine aw_icmp_ge D_br_isSheet_6 (fun h3 => ?_) (fun h3 => absurd (vp_of h2 h3 (by decide)) h)
    refine aw_iconst (nI 0) D_br_isSheet_13 rfl ?_
    refine aw_ireturn D_br_isSheet_14 rfl rfl ?_
    exact ⟨rfl, rfl⟩
theorem c_br_isLaneT {k : Nat} (h : k < 3) : AMet M_br_isLane [.int (nI k)] w (Ex (some (.int (nI 1))) w) 0 0 := by
  refine AMet.of [(0, .int (nI k))] (by decide +kernel) rfl (Nat.le_of_ble_eq_true rfl) ?_
  refine aw_iload_n 0 D_br_isLane_0 rfl rfl ?_
  refine aw_if_ltN D_br_isLane_1 (by omega) ?_
  refine aw_iload_n 0 D_br_isLane_4 rfl rfl ?_
  refine aw_iconst (nI 2) D_br_isLane_5 rfl ?_
  refine aw_icmp_gtN D_br_isLane_6 (by omega) (by omega) (fun h2 => absurd h2 (by omega)) (fun h2 => ?_)
  refine aw_iconst (nI 1) D_br_isLane_9 rfl ?_
  refine aw_goto D_br_isLane_10 ?_
  refine aw_ireturn D_br_isLane_14 rfl rfl ?_
  exact ⟨rfl, rfl⟩
theorem vp_of2 {x : Int32} {N : Nat} (h0 : ¬ x < 0) (h1 : ¬ nI N < x) (hN : N + 1 < 2 ^ 31) : vp_in x (N + 1) := by
  obtain ⟨j, hj, rfl⟩ := nI_of h0
  refine vp_in_nI ?_ hN
  rcases Nat.lt_or_ge N j with q | q
  · exact absurd ((nI_ltI (by omega) hj).mpr q) h1
  · omega
theorem c_br_isLaneF {x : Int32} (h : ¬ vp_in x 3) : AMet M_br_isLane [.int x] w (Ex (some (.int (nI 0))) w) 0 0 := by
  refine AMet.of [(0, .int x)] (by decide +kernel) rfl (Nat.le_of_ble_eq_true rfl) ?_
  refine aw_iload_n 0 D_br_isLane_0 rfl rfl ?_
  refine aw_if_lt D_br_isLane_1 (fun h2 => ?_) (fun h2 => ?_)
  · refine aw_iconst (nI 0) D_br_isLane_13 rfl ?_
    refine aw_ireturn D_br_isLane_14 rfl rfl ?_
    exact ⟨rfl, rfl⟩
  · refine aw_iload_n 0 D_br_isLane_4 rfl rfl ?_
    refine aw_iconst (nI 2) D_br_isLane_5 rfl ?_
    refine aw_icmp_gt D_br_isLane_6 (fun h3 => ?_) (fun h3 => absurd (vp_of2 h2 h3 (by decide)) h)
    refine aw_iconst (nI 0) D_br_isLane_13 rfl ?_
    refine aw_ireturn D_br_isLane_14 rfl rfl ?_
    exact ⟨rfl, rfl⟩
end BrHelp
section Br
variable {n : Nat} {b : Nat → Nat} {tc fl : Int32} {la : Nat → Int32} {zs : Nat → Nat} {cs : Nat → Nat → Int64} {mo : List va_E} {w : Wd}
theorem c_br_found {tr sh rr dy : List va_E} {ch : Nat} {bn : Nat → Nat} {c pd st fa : Nat} {o : Nat → Option Nat} {be pc le sz wt qu : Nat → Nat} (hn : 2 ≤ n) (hn9 : n ≤ 9) (hb : ∀ k, b k ≤ 1) (hch : ch = 1 ∨ ch = 0 ∧ FT n b c pd st fa o be pc le sz) : AMet M_br_foundRings [.ref 0] [BR tc fl, RG n (2 ^ n) ch b bn, RI c pd st fa o be pc le sz wt qu, tr, sh, rr, mo, dy]
    (fun r w' => r = some (.ref 2) ∧ ∃ (c pd st fa : Nat) (o : Nat → Option Nat) (be pc le sz wt qu : Nat → Nat), w' = [BR tc fl, RG n (2 ^ n) 0 b bn, RI c pd st fa o be pc le sz wt qu, tr, sh, rr, mo, dy] ∧ FT n b c pd st fa o be pc le sz) 0 0 := by
  refine AMet.of [(0, .ref 0)] (by decide +kernel) rfl (Nat.le_of_ble_eq_true rfl) ?_
  rcases hch with rfl | ⟨rfl, hF⟩
  · refine aw_aload_n 0 D_br_foundRings_0 rfl rfl ?_
    refine aw_get D_br_foundRings_1 rfl rfl ?_
    refine aw_get D_br_foundRings_4 rfl rfl ?_
    refine aw_if_eqN D_br_foundRings_7 (by omega) (fun h => absurd h (by omega)) (fun h => ?_)
    refine aw_aload_n 0 D_br_foundRings_10 rfl rfl ?_
    refine aw_get D_br_foundRings_11 rfl rfl ?_
    refine aw_aload_n 0 D_br_foundRings_14 rfl rfl ?_
    refine aw_get D_br_foundRings_15 rfl rfl ?_
    refine aw_callV (As := [_]) D_br_foundRings_18 kv_ri_find (c_ri_find hn hn9 rfl hb) rfl rfl rfl rfl rfl (Nat.le_of_ble_eq_true rfl) (Nat.zero_le _) (Nat.zero_le _) (fun r w' hp => ?_)
    obtain ⟨rfl, c', pd', st', fa', o', be', pc', le', sz', wt', qu', rfl, hF⟩ := hp
    refine aw_aload_n 0 D_br_foundRings_21 rfl rfl ?_
    refine aw_get D_br_foundRings_22 rfl rfl ?_
    refine aw_iconst (nI 0) D_br_foundRings_25 rfl ?_
    refine aw_put tc_rg D_br_foundRings_26 rfl (Nat.le_of_ble_eq_true rfl) rfl rfl ?_
    refine aw_aload_n 0 D_br_foundRings_29 rfl rfl ?_
    refine aw_get D_br_foundRings_30 rfl rfl ?_
    refine aw_areturn D_br_foundRings_33 rfl ?_
    exact ⟨rfl, c', pd', st', fa', o', be', pc', le', sz', wt', qu', rfl, hF⟩
  · refine aw_aload_n 0 D_br_foundRings_0 rfl rfl ?_
    refine aw_get D_br_foundRings_1 rfl rfl ?_
    refine aw_get D_br_foundRings_4 rfl rfl ?_
    refine aw_if_eqN D_br_foundRings_7 (by omega) (fun h => ?_) (fun h => absurd h (by omega))
    refine aw_aload_n 0 D_br_foundRings_29 rfl rfl ?_
    refine aw_get D_br_foundRings_30 rfl rfl ?_
    refine aw_areturn D_br_foundRings_33 rfl ?_
    exact ⟨rfl, c, pd, st, fa, o, be, pc, le, sz, wt, qu, rfl, hF⟩
theorem c_br_lengthT {k : Nat} (h2 : 2 ≤ k) (h9 : k ≤ 9) (h : CS n b tc fl la zs cs mo w) : AMet M_br_length [.ref 0, .int (nI k)] w (fun r w' => r = some (.int (nI n)) ∧ CS k (fun _ => 0) tc fl la zs cs mo w') 0 0 := by
  obtain ⟨ch, bn, c, pd, st, fa, o, be, pc, le, sz, wt, qu, kc, tw, mk, ru, ol, re, ms, sp, dy, rfl, hn, hn9, hb, hch, hD, hz⟩ := h
  refine AMet.of [(0, .ref 0), (1, .int (nI k))] (by decide +kernel) rfl (Nat.le_of_ble_eq_true rfl) ?_
  refine aw_iload_n 1 D_br_length_0 rfl rfl ?_
  refine aw_iconst (nI 2) D_br_length_1 rfl ?_
  refine aw_icmp_ltN D_br_length_2 (by omega) (by omega) (fun h => absurd h (by omega)) (fun h => ?_)
  refine aw_iload_n 1 D_br_length_5 rfl rfl ?_
  refine aw_bipush (nI 9) D_br_length_6 rfl ?_
  refine aw_icmp_leN D_br_length_8 (by omega) (by omega) (fun h => ?_) (fun h => absurd h (by omega))
  refine aw_aload_n 0 D_br_length_14 rfl rfl ?_
  refine aw_get D_br_length_15 rfl rfl ?_
  refine aw_get D_br_length_18 rfl rfl ?_
  refine aw_istore_n 2 D_br_length_21 rfl (Nat.le_of_ble_eq_true rfl) rfl ?_
  refine aw_aload_n 0 D_br_length_22 rfl rfl ?_
  refine aw_get D_br_length_23 rfl rfl ?_
  refine aw_iload_n 1 D_br_length_26 rfl rfl ?_
  refine aw_callVv (As := [_]) D_br_length_27 kv_rg_restart (c_rg_restart h9) rfl rfl rfl rfl rfl (Nat.le_of_ble_eq_true rfl) (Nat.zero_le _) (Nat.zero_le _) ?_
  refine aw_iload_n 2 D_br_length_30 rfl rfl ?_
  refine aw_ireturn D_br_length_31 rfl rfl ?_
  exact ⟨rfl, 1, bn, c, pd, st, fa, o, be, pc, le, sz, wt, qu, kc, tw, mk, ru, ol, re, ms, sp, dy, rfl, h2, h9, fun _ => Nat.zero_le 1, Or.inl rfl, hD, hz⟩
theorem c_br_lengthF {x : Int32} (hx : ¬ ∃ k, 2 ≤ k ∧ k ≤ 9 ∧ x = nI k) : AMet M_br_length [.ref 0, .int x] w (Ex (some (.int (-nI 2))) w) 0 0 := by
  refine AMet.of [(0, .ref 0), (1, .int x)] (by decide +kernel) rfl (Nat.le_of_ble_eq_true rfl) ?_
  refine aw_iload_n 1 D_br_length_0 rfl rfl ?_
  refine aw_iconst (nI 2) D_br_length_1 rfl ?_
  refine aw_icmp_lt D_br_length_2 (fun h => ?_) (fun h => ?_)
  · refine aw_bipush (-nI 2) D_br_length_11 rfl ?_
    refine aw_ireturn D_br_length_13 rfl rfl ?_
    exact ⟨rfl, rfl⟩
  · refine aw_iload_n 1 D_br_length_5 rfl rfl ?_
    refine aw_bipush (nI 9) D_br_length_6 rfl ?_
    refine aw_icmp_le D_br_length_8 (fun h2 => ?_) (fun h2 => ?_)
    · exfalso
      have h0 : ¬ x < 0 := fun z => h (Int32.lt_of_lt_of_le z (by decide))
      obtain ⟨j, hj, rfl⟩ := nI_of h0
      rw [nI_leI hj (by decide)] at h2
      rw [nI_ltI hj (by decide)] at h
      exact hx ⟨j, by omega, h2, rfl⟩
    · refine aw_bipush (-nI 2) D_br_length_11 rfl ?_
      refine aw_ireturn D_br_length_13 rfl rfl ?_
      exact ⟨rfl, rfl⟩
theorem c_br_setT {s x : Nat} (hs : s < 2 ^ n) (hx : x ≤ 1) (h : CS n b tc fl la zs cs mo w) : AMet M_br_set [.ref 0, .int (nI s), .int (nI x)] w (fun r w' => r = some (.int (nI (b s))) ∧ CS n (va_up b s x) tc fl la zs cs mo w') 0 0 := by
  obtain ⟨ch, bn, c, pd, st, fa, o, be, pc, le, sz, wt, qu, kc, tw, mk, ru, ol, re, ms, sp, dy, rfl, hn, hn9, hb, hch, hD, hz⟩ := h
  have hp9 := pow_le9 hn9
  refine AMet.of [(0, .ref 0), (1, .int (nI s)), (2, .int (nI x))] (by decide +kernel) rfl (Nat.le_of_ble_eq_true rfl) ?_
  refine aw_aload_n 0 D_br_set_0 rfl rfl ?_
  refine aw_get D_br_set_1 rfl rfl ?_
  refine aw_iload_n 1 D_br_set_4 rfl rfl ?_
  refine aw_callV1 (As := [_]) D_br_set_5 kv_rg_has (c_rg_hasT hs hp9) rfl rfl rfl rfl rfl (Nat.le_of_ble_eq_true rfl) (Nat.zero_le _) (Nat.zero_le _) ?_
  refine aw_if_neN D_br_set_8 (by omega) (fun h => ?_) (fun h => absurd h (by omega))
  refine aw_iload_n 2 D_br_set_13 rfl rfl ?_
  refine aw_callS1 (As := [_]) D_br_set_14 kv_br_isBit (c_br_isBitT hx) rfl rfl (Nat.le_of_ble_eq_true rfl) (Nat.zero_le _) (Nat.zero_le _) ?_
  refine aw_if_neN D_br_set_17 (by omega) (fun h => ?_) (fun h => absurd h (by omega))
  refine aw_aload_n 0 D_br_set_23 rfl rfl ?_
  refine aw_get D_br_set_24 rfl rfl ?_
  refine aw_get D_br_set_27 rfl rfl ?_
  refine aw_iload_n 1 D_br_set_30 rfl rfl ?_
  refine aw_ialdN D_br_set_31 rfl (by omega) (by omega) ?_
  refine aw_istore_n 3 D_br_set_32 rfl (Nat.le_of_ble_eq_true rfl) rfl ?_
  refine aw_aload_n 0 D_br_set_33 rfl rfl ?_
  refine aw_get D_br_set_34 rfl rfl ?_
  refine aw_iload_n 1 D_br_set_37 rfl rfl ?_
  refine aw_iload_n 2 D_br_set_38 rfl rfl ?_
  refine aw_callVv (As := [_, _]) D_br_set_39 kv_rg_write (c_rg_write (s := s) (x := x) (by omega)) rfl rfl rfl rfl rfl (Nat.le_of_ble_eq_true rfl) (Nat.zero_le _) (Nat.zero_le _) ?_
  refine aw_iload_n 3 D_br_set_42 rfl rfl ?_
  refine aw_ireturn D_br_set_43 rfl rfl ?_
  exact ⟨rfl, 1, bn, c, pd, st, fa, o, be, pc, le, sz, wt, qu, kc, tw, mk, ru, ol, re, ms, sp, dy, rfl, hn, hn9, fun k => (by unfold va_up; split; exact hx; exact hb k), Or.inl rfl, hD, hz⟩
theorem c_br_setU {x y : Int32} (hx : ¬ vp_in x (2 ^ n)) (h : CS n b tc fl la zs cs mo w) : AMet M_br_set [.ref 0, .int x, .int y] w (Ex (some (.int (-nI 1))) w) 0 0 := by
  obtain ⟨ch, bn, c, pd, st, fa, o, be, pc, le, sz, wt, qu, kc, tw, mk, ru, ol, re, ms, sp, dy, rfl, hn, hn9, hb, hch, hD, hz⟩ := h
  have hp9 := pow_le9 hn9
  refine AMet.of [(0, .ref 0), (1, .int x), (2, .int y)] (by decide +kernel) rfl (Nat.le_of_ble_eq_true rfl) ?_
  refine aw_aload_n 0 D_br_set_0 rfl rfl ?_
  refine aw_get D_br_set_1 rfl rfl ?_
  refine aw_iload_n 1 D_br_set_4 rfl rfl ?_
  refine aw_callV1 (As := [_]) D_br_set_5 kv_rg_has (c_rg_hasF hx hp9) rfl rfl rfl rfl rfl (Nat.le_of_ble_eq_true rfl) (Nat.zero_le _) (Nat.zero_le _) ?_
  refine aw_if_neN D_br_set_8 (by omega) (fun h => absurd h (by omega)) (fun h => ?_)
  refine aw_iconst (-nI 1) D_br_set_11 rfl ?_
  refine aw_ireturn D_br_set_12 rfl rfl ?_
  exact ⟨rfl, rfl⟩
theorem c_br_setO {s : Nat} {y : Int32} (hs : s < 2 ^ n) (hy : ¬ vp_in y 2) (h : CS n b tc fl la zs cs mo w) : AMet M_br_set [.ref 0, .int (nI s), .int y] w (Ex (some (.int (-nI 2))) w) 0 0 := by
  obtain ⟨ch, bn, c, pd, st, fa, o, be, pc, le, sz, wt, qu, kc, tw, mk, ru, ol, re, ms, sp, dy, rfl, hn, hn9, hb, hch, hD, hz⟩ := h
  have hp9 := pow_le9 hn9
  refine AMet.of [(0, .ref 0), (1, .int (nI s)), (2, .int y)] (by decide +kernel) rfl (Nat.le_of_ble_eq_true rfl) ?_
  refine aw_aload_n 0 D_br_set_0 rfl rfl ?_
  refine aw_get D_br_set_1 rfl rfl ?_
  refine aw_iload_n 1 D_br_set_4 rfl rfl ?_
  refine aw_callV1 (As := [_]) D_br_set_5 kv_rg_has (c_rg_hasT hs hp9) rfl rfl rfl rfl rfl (Nat.le_of_ble_eq_true rfl) (Nat.zero_le _) (Nat.zero_le _) ?_
  refine aw_if_neN D_br_set_8 (by omega) (fun h => ?_) (fun h => absurd h (by omega))
  refine aw_iload_n 2 D_br_set_13 rfl rfl ?_
  refine aw_callS1 (As := [_]) D_br_set_14 kv_br_isBit (c_br_isBitF hy) rfl rfl (Nat.le_of_ble_eq_true rfl) (Nat.zero_le _) (Nat.zero_le _) ?_
  refine aw_if_neN D_br_set_17 (by omega) (fun h => absurd h (by omega)) (fun h => ?_)
  refine aw_bipush (-nI 2) D_br_set_20 rfl ?_
  refine aw_ireturn D_br_set_22 rfl rfl ?_
  exact ⟨rfl, rfl⟩
theorem c_br_feedT {s : Nat} (hs : s < 2 ^ n) (h : CS n b tc fl la zs cs mo w) : AMet M_br_feedback [.ref 0, .int (nI s)] w (Ex (some (.int (nI (b s)))) w) 0 0 := by
  obtain ⟨ch, bn, c, pd, st, fa, o, be, pc, le, sz, wt, qu, kc, tw, mk, ru, ol, re, ms, sp, dy, rfl, hn, hn9, hb, hch, hD, hz⟩ := h
  have hp9 := pow_le9 hn9
  refine AMet.of [(0, .ref 0), (1, .int (nI s))] (by decide +kernel) rfl (Nat.le_of_ble_eq_true rfl) ?_
  refine aw_aload_n 0 D_br_feedback_0 rfl rfl ?_
  refine aw_get D_br_feedback_1 rfl rfl ?_
  refine aw_iload_n 1 D_br_feedback_4 rfl rfl ?_
  refine aw_callV1 (As := [_]) D_br_feedback_5 kv_rg_has (c_rg_hasT hs hp9) rfl rfl rfl rfl rfl (Nat.le_of_ble_eq_true rfl) (Nat.zero_le _) (Nat.zero_le _) ?_
  refine aw_if_eqN D_br_feedback_8 (by omega) (fun h => absurd h (by omega)) (fun h => ?_)
  refine aw_aload_n 0 D_br_feedback_11 rfl rfl ?_
  refine aw_get D_br_feedback_12 rfl rfl ?_
  refine aw_get D_br_feedback_15 rfl rfl ?_
  refine aw_iload_n 1 D_br_feedback_18 rfl rfl ?_
  refine aw_ialdN D_br_feedback_19 rfl (by omega) (by omega) ?_
  refine aw_goto D_br_feedback_20 ?_
  refine aw_ireturn D_br_feedback_24 rfl rfl ?_
  exact ⟨rfl, rfl⟩
theorem c_br_feedU {x : Int32} (hx : ¬ vp_in x (2 ^ n)) (h : CS n b tc fl la zs cs mo w) : AMet M_br_feedback [.ref 0, .int x] w (Ex (some (.int (-nI 1))) w) 0 0 := by
  obtain ⟨ch, bn, c, pd, st, fa, o, be, pc, le, sz, wt, qu, kc, tw, mk, ru, ol, re, ms, sp, dy, rfl, hn, hn9, hb, hch, hD, hz⟩ := h
  have hp9 := pow_le9 hn9
  refine AMet.of [(0, .ref 0), (1, .int x)] (by decide +kernel) rfl (Nat.le_of_ble_eq_true rfl) ?_
  refine aw_aload_n 0 D_br_feedback_0 rfl rfl ?_
  refine aw_get D_br_feedback_1 rfl rfl ?_
  refine aw_iload_n 1 D_br_feedback_4 rfl rfl ?_
  refine aw_callV1 (As := [_]) D_br_feedback_5 kv_rg_has (c_rg_hasF hx hp9) rfl rfl rfl rfl rfl (Nat.le_of_ble_eq_true rfl) (Nat.zero_le _) (Nat.zero_le _) ?_
  refine aw_if_eqN D_br_feedback_8 (by omega) (fun h => ?_) (fun h => absurd h (by omega))
  refine aw_iconst (-nI 1) D_br_feedback_23 rfl ?_
  refine aw_ireturn D_br_feedback_24 rfl rfl ?_
  exact ⟨rfl, rfl⟩
theorem c_br_linT {mask one : Nat} (hm : mask < 2 ^ n) (ho : one ≤ 1) (h : CS n b tc fl la zs cs mo w) : AMet M_br_linear [.ref 0, .int (nI mask), .int (nI one)] w (fun r w' => r = some (.int (nI (fb_sm (linB b mask one (2 ^ n)) (2 ^ n)))) ∧ CS n (linB b mask one (2 ^ n)) tc fl la zs cs mo w') 0 0 := by
  obtain ⟨ch, bn, c, pd, st, fa, o, be, pc, le, sz, wt, qu, kc, tw, mk, ru, ol, re, ms, sp, dy, rfl, hn, hn9, hb, hch, hD, hz⟩ := h
  have hp9 := pow_le9 hn9
  have hb2 : ∀ k, linB b mask one (2 ^ n) k ≤ 1 := fun k => by
    unfold linB lin
    split
    · omega
    · exact hb k
  refine AMet.of [(0, .ref 0), (1, .int (nI mask)), (2, .int (nI one))] (by decide +kernel) rfl (Nat.le_of_ble_eq_true rfl) ?_
  refine aw_aload_n 0 D_br_linear_0 rfl rfl ?_
  refine aw_get D_br_linear_1 rfl rfl ?_
  refine aw_iload_n 1 D_br_linear_4 rfl rfl ?_
  refine aw_callV1 (As := [_]) D_br_linear_5 kv_rg_has (c_rg_hasT hm hp9) rfl rfl rfl rfl rfl (Nat.le_of_ble_eq_true rfl) (Nat.zero_le _) (Nat.zero_le _) ?_
  refine aw_if_eqN D_br_linear_8 (by omega) (fun h => absurd h (by omega)) (fun h => ?_)
  refine aw_iload_n 2 D_br_linear_11 rfl rfl ?_
  refine aw_callS1 (As := [_]) D_br_linear_12 kv_br_isBit (c_br_isBitT ho) rfl rfl (Nat.le_of_ble_eq_true rfl) (Nat.zero_le _) (Nat.zero_le _) ?_
  refine aw_if_neN D_br_linear_15 (by omega) (fun h => ?_) (fun h => absurd h (by omega))
  refine aw_aload_n 0 D_br_linear_21 rfl rfl ?_
  refine aw_get D_br_linear_22 rfl rfl ?_
  refine aw_iload_n 1 D_br_linear_25 rfl rfl ?_
  refine aw_iload_n 2 D_br_linear_26 rfl rfl ?_
  refine aw_callVv (As := [_, _]) D_br_linear_27 kv_rg_fillLinear (c_rg_linear hp9 (Nat.two_pow_pos n) (by omega) ho) rfl rfl rfl rfl rfl (Nat.le_of_ble_eq_true rfl) (Nat.zero_le _) (Nat.zero_le _) ?_
  refine aw_aload_n 0 D_br_linear_30 rfl rfl ?_
  refine aw_get D_br_linear_31 rfl rfl ?_
  refine aw_callV1 (As := []) D_br_linear_34 kv_rg_countOnes (c_rg_ones hp9 hb2) rfl rfl rfl rfl rfl (Nat.le_of_ble_eq_true rfl) (Nat.zero_le _) (Nat.zero_le _) ?_
  refine aw_ireturn D_br_linear_37 rfl rfl ?_
  exact ⟨rfl, 1, bn, c, pd, st, fa, o, be, pc, le, sz, wt, qu, kc, tw, mk, ru, ol, re, ms, sp, dy, rfl, hn, hn9, hb2, Or.inl rfl, hD, hz⟩
theorem c_br_linF {x y : Int32} (hx : ¬ vp_in x (2 ^ n) ∨ ¬ vp_in y 2) (h : CS n b tc fl la zs cs mo w) : AMet M_br_linear [.ref 0, .int x, .int y] w (Ex (some (.int (-nI 2))) w) 0 0 := by
  obtain ⟨ch, bn, c, pd, st, fa, o, be, pc, le, sz, wt, qu, kc, tw, mk, ru, ol, re, ms, sp, dy, rfl, hn, hn9, hb, hch, hD, hz⟩ := h
  have hp9 := pow_le9 hn9
  refine AMet.of [(0, .ref 0), (1, .int x), (2, .int y)] (by decide +kernel) rfl (Nat.le_of_ble_eq_true rfl) ?_
  refine aw_aload_n 0 D_br_linear_0 rfl rfl ?_
  refine aw_get D_br_linear_1 rfl rfl ?_
  refine aw_iload_n 1 D_br_linear_4 rfl rfl ?_
  by_cases h1 : vp_in x (2 ^ n)
  · obtain ⟨s, hs, rfl⟩ := vp_in_of h1 (by omega)
    have h2 := hx.resolve_left (fun z => z h1)
    refine aw_callV1 (As := [_]) D_br_linear_5 kv_rg_has (c_rg_hasT hs hp9) rfl rfl rfl rfl rfl (Nat.le_of_ble_eq_true rfl) (Nat.zero_le _) (Nat.zero_le _) ?_
    refine aw_if_eqN D_br_linear_8 (by omega) (fun h => absurd h (by omega)) (fun h => ?_)
    refine aw_iload_n 2 D_br_linear_11 rfl rfl ?_
    refine aw_callS1 (As := [_]) D_br_linear_12 kv_br_isBit (c_br_isBitF h2) rfl rfl (Nat.le_of_ble_eq_true rfl) (Nat.zero_le _) (Nat.zero_le _) ?_
    refine aw_if_neN D_br_linear_15 (by omega) (fun h => absurd h (by omega)) (fun h => ?_)
    refine aw_bipush (-nI 2) D_br_linear_18 rfl ?_
    refine aw_ireturn D_br_linear_20 rfl rfl ?_
    exact ⟨rfl, rfl⟩
  · refine aw_callV1 (As := [_]) D_br_linear_5 kv_rg_has (c_rg_hasF h1 hp9) rfl rfl rfl rfl rfl (Nat.le_of_ble_eq_true rfl) (Nat.zero_le _) (Nat.zero_le _) ?_
    refine aw_if_eqN D_br_linear_8 (by omega) (fun h => ?_) (fun h => absurd h (by omega))
    refine aw_bipush (-nI 2) D_br_linear_18 rfl ?_
    refine aw_ireturn D_br_linear_20 rfl rfl ?_
    exact ⟨rfl, rfl⟩
end Br
