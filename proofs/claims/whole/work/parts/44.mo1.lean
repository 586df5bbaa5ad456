/-! ### the reference: its small methods, and its rings found -/
theorem wi_T {k a c : Nat} (h1 : a ≤ k) (h2 : k ≤ c) (hc : c < 2 ^ 31) : lN a ≤ lN k ∧ lN k ≤ lN c := ⟨(pk_lLE (by omega) (by omega)).mpr h1, (pk_lLE (by omega) (by omega)).mpr h2⟩
theorem wi_F {x : Int32} {a c : Nat} (h : ¬ ∃ k, a ≤ k ∧ k ≤ c ∧ x = nI k) (hc : c < 2 ^ 31) (ha : a < 2 ^ 31) : ¬ (lN a ≤ x.toInt64 ∧ x.toInt64 ≤ lN c) := by
  rintro ⟨h1, h2⟩
  have h0 : ¬ x < 0 := by
    intro z
    have z2 : x.toInt64 < lN 0 := (fa_wide_lt x 0).mpr z
    have z3 : lN 0 ≤ lN a := (pk_lLE (by omega) (by omega)).mpr (Nat.zero_le a)
    exact Int64.not_lt.mpr (Int64.le_trans z3 h1) z2
  obtain ⟨j, hj, rfl⟩ := nI_of h0
  rw [nI_l hj] at h1 h2
  exact h ⟨j, (pk_lLE (by omega) (by omega)).mp h1, (pk_lLE (by omega) (by omega)).mp h2, rfl⟩
theorem vp_F {x : Int32} {N : Nat} (hN : N + 1 < 2 ^ 31) (h : ¬ vp_in x (N + 1)) : ¬ ∃ k, 0 ≤ k ∧ k ≤ N ∧ x = nI k := by
  rintro ⟨k, _, hk, rfl⟩
  exact h (vp_in_nI (by omega) hN)
section MoHelp
variable {w : Wd}
theorem c_mo_within {v a c : Int64} : AMet M_mo_within [.long v, .long a, .long c] w (Ex (some (.int (nI (if a ≤ v ∧ v ≤ c then 1 else 0)))) w) 0 0 := by
  refine AMet.of [(0, .long v), (2, .long a), (4, .long c)] (by decide +kernel) rfl (Nat.le_of_ble_eq_true rfl) ?_
  refine aw_lload_n 0 D_mo_within_0 rfl rfl ?_
  refine aw_lload_n 2 D_mo_within_1 rfl rfl ?_
  refine aw_lcmp D_mo_within_2 ?_
  refine aw_if_lt D_mo_within_3 (fun h => ?_) (fun h => ?_)
  · rw [lg_cmp_lt] at h
    rw [if_neg (fun z => Int64.not_lt.mpr z.1 h)]
    refine aw_iconst (nI 0) D_mo_within_17 rfl ?_
    refine aw_ireturn D_mo_within_18 rfl rfl ?_
    exact ⟨rfl, rfl⟩
  · rw [lg_cmp_lt] at h
    have h' := Int64.not_lt.mp h
    refine aw_lload_n 0 D_mo_within_6 rfl rfl ?_
    refine aw_lload D_mo_within_7 rfl ?_
    refine aw_lcmp D_mo_within_9 ?_
    refine aw_if_gt D_mo_within_10 (fun h2 => ?_) (fun h2 => ?_)
    · rw [lg_cmp_gt] at h2
      rw [if_neg (fun z => Int64.not_lt.mpr z.2 h2)]
      refine aw_iconst (nI 0) D_mo_within_17 rfl ?_
      refine aw_ireturn D_mo_within_18 rfl rfl ?_
      exact ⟨rfl, rfl⟩
    · rw [lg_cmp_gt] at h2
      rw [if_pos ⟨h', Int64.not_lt.mp h2⟩]
      refine aw_iconst (nI 1) D_mo_within_13 rfl ?_
      refine aw_goto D_mo_within_14 ?_
      refine aw_ireturn D_mo_within_18 rfl rfl ?_
      exact ⟨rfl, rfl⟩
theorem c_mo_withinT {k a c : Nat} (h1 : a ≤ k) (h2 : k ≤ c) (hc : c < 2 ^ 31) : AMet M_mo_within [.long (lN k), .long (lN a), .long (lN c)] w (Ex (some (.int (nI 1))) w) 0 0 := by
  have := c_mo_within (w := w) (v := lN k) (a := lN a) (c := lN c)
  rw [if_pos (wi_T h1 h2 hc)] at this
  exact this
theorem c_mo_withinF {x : Int32} {a c : Nat} (h : ¬ ∃ k, a ≤ k ∧ k ≤ c ∧ x = nI k) (hc : c < 2 ^ 31) (ha : a < 2 ^ 31) : AMet M_mo_within [.long x.toInt64, .long (lN a), .long (lN c)] w (Ex (some (.int (nI 0))) w) 0 0 := by
  have := c_mo_within (w := w) (v := x.toInt64) (a := lN a) (c := lN c)
  rw [if_neg (wi_F h hc ha)] at this
  exact this
theorem c_mo_isSheetT {k : Nat} (h : k < 4) : AMet M_mo_isSheet [.int (nI k)] w (Ex (some (.int (nI 1))) w) 0 0 := by
  refine AMet.of [(0, .int (nI k))] (by decide +kernel) rfl (Nat.le_of_ble_eq_true rfl) ?_
  refine aw_iload_n 0 D_mo_isSheet_0 rfl rfl ?_
  refine aw_if_ltN D_mo_isSheet_1 (by omega) ?_
  refine aw_iload_n 0 D_mo_isSheet_4 rfl rfl ?_
  refine aw_iconst (nI 4) D_mo_isSheet_5 rfl ?_
  refine aw_icmp_geN D_mo_isSheet_6 (by omega) (by decide) (fun h => absurd h (by omega)) (fun h => ?_)
  refine aw_iconst (nI 1) D_mo_isSheet_9 rfl ?_
  refine aw_goto D_mo_isSheet_10 ?_
  refine aw_ireturn D_mo_isSheet_14 rfl rfl ?_
  exact ⟨rfl, rfl⟩
theorem c_mo_isSheetF {x : Int32} (h : ¬ vp_in x 4) : AMet M_mo_isSheet [.int x] w (Ex (some (.int (nI 0))) w) 0 0 := by
  refine AMet.of [(0, .int x)] (by decide +kernel) rfl (Nat.le_of_ble_eq_true rfl) ?_
  refine aw_iload_n 0 D_mo_isSheet_0 rfl rfl ?_
  refine aw_if_lt D_mo_isSheet_1 (fun h1 => ?_) (fun h1 => ?_)
  · refine aw_iconst (nI 0) D_mo_isSheet_13 rfl ?_
    refine aw_ireturn D_mo_isSheet_14 rfl rfl ?_
    exact ⟨rfl, rfl⟩
  · refine aw_iload_n 0 D_mo_isSheet_4 rfl rfl ?_
    refine aw_iconst (nI 4) D_mo_isSheet_5 rfl ?_
    refine aw_icmp_ge D_mo_isSheet_6 (fun h2 => ?_) (fun h2 => absurd (vp_of h1 h2 (by decide)) h)
    refine aw_iconst (nI 0) D_mo_isSheet_13 rfl ?_
    refine aw_ireturn D_mo_isSheet_14 rfl rfl ?_
    exact ⟨rfl, rfl⟩
end MoHelp
section Mo1
variable {a0 a1 a2 a3 a4 a5 a7 : List va_E} {fl tc : Int32} {n fd R : Nat} {b le sz : Nat → Nat} {o : Nat → Option Nat} {be pc wt qu : Nat → Nat} {la : Nat → Int32} {sl : Nat → Nat} {ce : Nat → Int64} {tb mt ru bf kp : Nat → Nat}
theorem c_mo_states (hn9 : n ≤ 9) : AMet M_mo_states [.ref 6] [a0, a1, a2, a3, a4, a5, MO fl tc n fd R b le sz o be pc wt qu la sl ce tb mt ru bf kp, a7] (Ex (some (.int (nI (2 ^ n)))) [a0, a1, a2, a3, a4, a5, MO fl tc n fd R b le sz o be pc wt qu la sl ce tb mt ru bf kp, a7]) 0 0 := by
  have hp9 := pow_le9 hn9
  refine AMet.of [(0, .ref 6)] (by decide +kernel) rfl (Nat.le_of_ble_eq_true rfl) ?_
  refine aw_iconst (nI 1) D_mo_states_0 rfl ?_
  refine aw_aload_n 0 D_mo_states_1 rfl rfl ?_
  refine aw_get D_mo_states_2 rfl rfl ?_
  refine aw_ishlN D_mo_states_5 (by omega) (by omega) ?_
  rw [Nat.one_mul]
  refine aw_ireturn D_mo_states_6 rfl rfl ?_
  exact ⟨rfl, rfl⟩
theorem c_mo_isStateT {s : Nat} (hn9 : n ≤ 9) (hs : s < 2 ^ n) : AMet M_mo_isState [.ref 6, .int (nI s)] [a0, a1, a2, a3, a4, a5, MO fl tc n fd R b le sz o be pc wt qu la sl ce tb mt ru bf kp, a7] (Ex (some (.int (nI 1))) [a0, a1, a2, a3, a4, a5, MO fl tc n fd R b le sz o be pc wt qu la sl ce tb mt ru bf kp, a7]) 0 0 := by
  have hp9 := pow_le9 hn9
  refine AMet.of [(0, .ref 6), (1, .int (nI s))] (by decide +kernel) rfl (Nat.le_of_ble_eq_true rfl) ?_
  refine aw_iload_n 1 D_mo_isState_0 rfl rfl ?_
  refine aw_if_ltN D_mo_isState_1 (by omega) ?_
  refine aw_iload_n 1 D_mo_isState_4 rfl rfl ?_
  refine aw_aload_n 0 D_mo_isState_5 rfl rfl ?_
  refine aw_callV1 (As := []) D_mo_isState_6 kv_mo_states (c_mo_states hn9) rfl rfl rfl rfl rfl (Nat.le_of_ble_eq_true rfl) (Nat.zero_le _) (Nat.zero_le _) ?_
  refine aw_icmp_geN D_mo_isState_9 (by omega) (by omega) (fun h => absurd h (by omega)) (fun h => ?_)
  refine aw_iconst (nI 1) D_mo_isState_12 rfl ?_
  refine aw_goto D_mo_isState_13 ?_
  refine aw_ireturn D_mo_isState_17 rfl rfl ?_
  exact ⟨rfl, rfl⟩
theorem c_mo_isStateF {x : Int32} (hn9 : n ≤ 9) (hx : ¬ vp_in x (2 ^ n)) : AMet M_mo_isState [.ref 6, .int x] [a0, a1, a2, a3, a4, a5, MO fl tc n fd R b le sz o be pc wt qu la sl ce tb mt ru bf kp, a7] (Ex (some (.int (nI 0))) [a0, a1, a2, a3, a4, a5, MO fl tc n fd R b le sz o be pc wt qu la sl ce tb mt ru bf kp, a7]) 0 0 := by
  have hp9 := pow_le9 hn9
  refine AMet.of [(0, .ref 6), (1, .int x)] (by decide +kernel) rfl (Nat.le_of_ble_eq_true rfl) ?_
  refine aw_iload_n 1 D_mo_isState_0 rfl rfl ?_
  refine aw_if_lt D_mo_isState_1 (fun h1 => ?_) (fun h1 => ?_)
  · refine aw_iconst (nI 0) D_mo_isState_16 rfl ?_
    refine aw_ireturn D_mo_isState_17 rfl rfl ?_
    exact ⟨rfl, rfl⟩
  · refine aw_iload_n 1 D_mo_isState_4 rfl rfl ?_
    refine aw_aload_n 0 D_mo_isState_5 rfl rfl ?_
    refine aw_callV1 (As := []) D_mo_isState_6 kv_mo_states (c_mo_states hn9) rfl rfl rfl rfl rfl (Nat.le_of_ble_eq_true rfl) (Nat.zero_le _) (Nat.zero_le _) ?_
    refine aw_icmp_ge D_mo_isState_9 (fun h2 => ?_) (fun h2 => absurd (vp_of h1 h2 (by omega)) hx)
    refine aw_iconst (nI 0) D_mo_isState_16 rfl ?_
    refine aw_ireturn D_mo_isState_17 rfl rfl ?_
    exact ⟨rfl, rfl⟩
theorem c_mo_next {s : Nat} (hn : 1 ≤ n) (hn9 : n ≤ 9) (hs : s < 2 ^ n) : AMet M_mo_next [.ref 6, .int (nI s)] [a0, a1, a2, a3, a4, a5, MO fl tc n fd R b le sz o be pc wt qu la sl ce tb mt ru bf kp, a7] (Ex (some (.int (nI (nx n b s)))) [a0, a1, a2, a3, a4, a5, MO fl tc n fd R b le sz o be pc wt qu la sl ce tb mt ru bf kp, a7]) 0 0 := by
  have hp9 := pow_le9 hn9
  have hh := pow_half hn
  refine AMet.of [(0, .ref 6), (1, .int (nI s))] (by decide +kernel) rfl (Nat.le_of_ble_eq_true rfl) ?_
  refine aw_iload_n 1 D_mo_next_0 rfl rfl ?_
  refine aw_iconst (nI 2) D_mo_next_1 rfl ?_
  first | with_reducible refine aw_idivN D_mo_next_2 (by omega) (by omega) (by omega) ?_ | refine aw_idiv D_mo_next_2 (by decide) ?_
  refine aw_aload_n 0 D_mo_next_3 rfl rfl ?_
  refine aw_get D_mo_next_4 rfl rfl ?_
  refine aw_iload_n 1 D_mo_next_7 rfl rfl ?_
  refine aw_ialdN D_mo_next_8 rfl (by omega) (by omega) ?_
  refine aw_aload_n 0 D_mo_next_9 rfl rfl ?_
  refine aw_callV1 (As := []) D_mo_next_10 kv_mo_states (c_mo_states hn9) rfl rfl rfl rfl rfl (Nat.le_of_ble_eq_true rfl) (Nat.zero_le _) (Nat.zero_le _) ?_
  refine aw_iconst (nI 2) D_mo_next_13 rfl ?_
  first | with_reducible refine aw_idivN D_mo_next_14 (by omega) (by omega) (by omega) ?_ | refine aw_idiv D_mo_next_14 (by decide) ?_
  first | with_reducible refine aw_imulN D_mo_next_15 ?_ | refine aw_imul D_mo_next_15 ?_
  first | with_reducible refine aw_iaddN D_mo_next_16 ?_ | refine aw_iadd D_mo_next_16 ?_
  rw [show s / 2 + b s * (2 ^ n / 2) = nx n b s by unfold nx ld; rw [show 2 ^ n / 2 = 2 ^ (n - 1) by omega]]
  refine aw_ireturn D_mo_next_17 rfl rfl ?_
  exact ⟨rfl, rfl⟩
theorem c_mo_bit {k i : Nat} (hk : k < 4) (hi : i < 600) : AMet M_mo_bit [.ref 6, .int (nI k), .int (nI i)] [a0, a1, a2, a3, a4, a5, MO fl tc n fd R b le sz o be pc wt qu la sl ce tb mt ru bf kp, a7] (Ex (some (.int (nI (bt (ce (600 * k + i)))))) [a0, a1, a2, a3, a4, a5, MO fl tc n fd R b le sz o be pc wt qu la sl ce tb mt ru bf kp, a7]) 0 0 := by
  refine AMet.of [(0, .ref 6), (1, .int (nI k)), (2, .int (nI i))] (by decide +kernel) rfl (Nat.le_of_ble_eq_true rfl) ?_
  refine aw_aload_n 0 D_mo_bit_0 rfl rfl ?_
  refine aw_get D_mo_bit_1 rfl rfl ?_
  refine aw_sipush (nI 600) D_mo_bit_4 rfl ?_
  refine aw_iload_n 1 D_mo_bit_7 rfl rfl ?_
  first | with_reducible refine aw_imulN D_mo_bit_8 ?_ | refine aw_imul D_mo_bit_8 ?_
  refine aw_iload_n 2 D_mo_bit_9 rfl rfl ?_
  first | with_reducible refine aw_iaddN D_mo_bit_10 ?_ | refine aw_iadd D_mo_bit_10 ?_
  refine aw_laldN D_mo_bit_11 rfl (by omega) (by omega) ?_
  refine aw_lconst (lN 1) D_mo_bit_12 rfl ?_
  refine aw_land D_mo_bit_13 ?_
  rw [land1]
  first | with_reducible refine aw_l2iN D_mo_bit_14 ?_ | refine aw_l2i D_mo_bit_14 ?_
  refine aw_ireturn D_mo_bit_15 rfl rfl ?_
  exact ⟨rfl, rfl⟩
theorem c_mo_fails {x : Int32} : AMet M_mo_fails [.ref 6, .int x] [a0, a1, a2, a3, a4, a5, MO fl tc n fd R b le sz o be pc wt qu la sl ce tb mt ru bf kp, a7] (Ex (some (.int (-nI 10 - x))) [a0, a1, a2, a3, a4, a5, MO x tc n fd R b le sz o be pc wt qu la sl ce tb mt ru bf kp, a7]) 0 0 := by
  refine AMet.of [(0, .ref 6), (1, .int x)] (by decide +kernel) rfl (Nat.le_of_ble_eq_true rfl) ?_
  refine aw_aload_n 0 D_mo_fails_0 rfl rfl ?_
  refine aw_iload_n 1 D_mo_fails_1 rfl rfl ?_
  refine aw_put tc_mo D_mo_fails_2 rfl (Nat.le_of_ble_eq_true rfl) rfl rfl ?_
  refine aw_bipush (-nI 10) D_mo_fails_5 rfl ?_
  refine aw_iload_n 1 D_mo_fails_7 rfl rfl ?_
  first | with_reducible refine aw_isubN D_mo_fails_8 (by omega) ?_ | refine aw_isub D_mo_fails_8 ?_
  refine aw_ireturn D_mo_fails_9 rfl rfl ?_
  exact ⟨rfl, rfl⟩
theorem c_mo_lost {x : Int32} : AMet M_mo_lost [.ref 6, .int x] [a0, a1, a2, a3, a4, a5, MO fl tc n fd R b le sz o be pc wt qu la sl ce tb mt ru bf kp, a7] (Ex (some (.long (Int64.ofInt (-9223372036854775808)))) [a0, a1, a2, a3, a4, a5, MO x tc n fd R b le sz o be pc wt qu la sl ce tb mt ru bf kp, a7]) 0 0 := by
  refine AMet.of [(0, .ref 6), (1, .int x)] (by decide +kernel) rfl (Nat.le_of_ble_eq_true rfl) ?_
  refine aw_aload_n 0 D_mo_lost_0 rfl rfl ?_
  refine aw_iload_n 1 D_mo_lost_1 rfl rfl ?_
  refine aw_put tc_mo D_mo_lost_2 rfl (Nat.le_of_ble_eq_true rfl) rfl rfl ?_
  refine aw_ldc2 D_mo_lost_5 ?_
  refine aw_lreturn D_mo_lost_8 rfl ?_
  exact ⟨rfl, rfl⟩
theorem c_mo_begins {x : Int32} : AMet M_mo_begins [.ref 6, .int x] [a0, a1, a2, a3, a4, a5, MO fl tc n fd R b le sz o be pc wt qu la sl ce tb mt ru bf kp, a7] (Ex none [a0, a1, a2, a3, a4, a5, MO fl (nI 31 * tc + x) n fd R b le sz o be pc wt qu la sl ce tb mt ru bf kp, a7]) 0 0 := by
  refine AMet.of [(0, .ref 6), (1, .int x)] (by decide +kernel) rfl (Nat.le_of_ble_eq_true rfl) ?_
  refine aw_aload_n 0 D_mo_begins_0 rfl rfl ?_
  refine aw_bipush (nI 31) D_mo_begins_1 rfl ?_
  refine aw_aload_n 0 D_mo_begins_3 rfl rfl ?_
  refine aw_get D_mo_begins_4 rfl rfl ?_
  first | with_reducible refine aw_imulN D_mo_begins_7 ?_ | refine aw_imul D_mo_begins_7 ?_
  refine aw_iload_n 1 D_mo_begins_8 rfl rfl ?_
  first | with_reducible refine aw_iaddN D_mo_begins_9 ?_ | refine aw_iadd D_mo_begins_9 ?_
  refine aw_put tc_mo D_mo_begins_10 rfl (Nat.le_of_ble_eq_true rfl) rfl rfl ?_
  refine aw_return D_mo_begins_13 rfl ?_
  exact ⟨rfl, rfl⟩
theorem c_mo_trace : AMet M_mo_trace [.ref 6] [a0, a1, a2, a3, a4, a5, MO fl tc n fd R b le sz o be pc wt qu la sl ce tb mt ru bf kp, a7] (Ex (some (.int tc)) [a0, a1, a2, a3, a4, a5, MO fl tc n fd R b le sz o be pc wt qu la sl ce tb mt ru bf kp, a7]) 0 0 := by
  refine AMet.of [(0, .ref 6)] (by decide +kernel) rfl (Nat.le_of_ble_eq_true rfl) ?_
  refine aw_aload_n 0 D_mo_trace_0 rfl rfl ?_
  refine aw_get D_mo_trace_1 rfl rfl ?_
  refine aw_ireturn D_mo_trace_4 rfl rfl ?_
  exact ⟨rfl, rfl⟩
theorem c_mo_fault : AMet M_mo_fault [.ref 6] [a0, a1, a2, a3, a4, a5, MO fl tc n fd R b le sz o be pc wt qu la sl ce tb mt ru bf kp, a7] (Ex (some (.int fl)) [a0, a1, a2, a3, a4, a5, MO fl tc n fd R b le sz o be pc wt qu la sl ce tb mt ru bf kp, a7]) 0 0 := by
  refine AMet.of [(0, .ref 6)] (by decide +kernel) rfl (Nat.le_of_ble_eq_true rfl) ?_
  refine aw_aload_n 0 D_mo_fault_0 rfl rfl ?_
  refine aw_get D_mo_fault_1 rfl rfl ?_
  refine aw_ireturn D_mo_fault_4 rfl rfl ?_
  exact ⟨rfl, rfl⟩
theorem c_mo_ones (hn9 : n ≤ 9) (hb : ∀ k, b k ≤ 1) : AMet M_mo_ones [.ref 6] [a0, a1, a2, a3, a4, a5, MO fl tc n fd R b le sz o be pc wt qu la sl ce tb mt ru bf kp, a7] (Ex (some (.int (nI (fb_sm b (2 ^ n))))) [a0, a1, a2, a3, a4, a5, MO fl tc n fd R b le sz o be pc wt qu la sl ce tb mt ru bf kp, a7]) 0 0 := by
  have hp9 := pow_le9 hn9
  refine AMet.of [(0, .ref 6)] (by decide +kernel) rfl (Nat.le_of_ble_eq_true rfl) ?_
  have key : ∀ (m i : Nat), i + m = 2 ^ n → AW M_mo_ones noP (Zp (Ex (some (.int (nI (fb_sm b (2 ^ n))))) [a0, a1, a2, a3, a4, a5, MO fl tc n fd R b le sz o be pc wt qu la sl ce tb mt ru bf kp, a7])) 0 0 4 [(0, .ref 6), (1, .int (nI (fb_sm b i))), (2, .int (nI i))] [] [a0, a1, a2, a3, a4, a5, MO fl tc n fd R b le sz o be pc wt qu la sl ce tb mt ru bf kp, a7] 0 0 := by
    intro m
    induction m with
    | zero =>
      intro i hi
      refine aw_iload_n 2 D_mo_ones_4 rfl rfl ?_
      refine aw_aload_n 0 D_mo_ones_5 rfl rfl ?_
      refine aw_callV1 (As := []) D_mo_ones_6 kv_mo_states (c_mo_states hn9) rfl rfl rfl rfl rfl (Nat.le_of_ble_eq_true rfl) (Nat.zero_le _) (Nat.zero_le _) ?_
      refine aw_icmp_geN D_mo_ones_9 (by omega) (by omega) (fun h => ?_) (fun h => absurd h (by omega))
      rw [show i = 2 ^ n by omega]
      refine aw_iload_n 1 D_mo_ones_27 rfl rfl ?_
      refine aw_ireturn D_mo_ones_28 rfl rfl ?_
      exact ⟨rfl, rfl⟩
    | succ m ih =>
      intro i hi
      refine aw_iload_n 2 D_mo_ones_4 rfl rfl ?_
      refine aw_aload_n 0 D_mo_ones_5 rfl rfl ?_
      refine aw_callV1 (As := []) D_mo_ones_6 kv_mo_states (c_mo_states hn9) rfl rfl rfl rfl rfl (Nat.le_of_ble_eq_true rfl) (Nat.zero_le _) (Nat.zero_le _) ?_
      refine aw_icmp_geN D_mo_ones_9 (by omega) (by omega) (fun h => absurd h (by omega)) (fun h => ?_)
      refine aw_iload_n 1 D_mo_ones_12 rfl rfl ?_
      refine aw_aload_n 0 D_mo_ones_13 rfl rfl ?_
      refine aw_get D_mo_ones_14 rfl rfl ?_
      refine aw_iload_n 2 D_mo_ones_17 rfl rfl ?_
      refine aw_ialdN D_mo_ones_18 rfl (by omega) (by omega) ?_
      first | with_reducible refine aw_iaddN D_mo_ones_19 ?_ | refine aw_iadd D_mo_ones_19 ?_
      refine aw_istore_n 1 D_mo_ones_20 rfl (Nat.le_of_ble_eq_true rfl) rfl ?_
      first | refine aw_incN D_mo_ones_21 rfl (Nat.le_of_ble_eq_true rfl) rfl ?_ | refine aw_inc D_mo_ones_21 rfl (Nat.le_of_ble_eq_true rfl) rfl ?_
      refine aw_goto D_mo_ones_24 ?_
      exact ih (i + 1) (by omega)
  refine aw_iconst (nI 0) D_mo_ones_0 rfl ?_
  refine aw_istore_n 1 D_mo_ones_1 rfl (Nat.le_of_ble_eq_true rfl) rfl ?_
  refine aw_iconst (nI 0) D_mo_ones_2 rfl ?_
  refine aw_istore_n 2 D_mo_ones_3 rfl (Nat.le_of_ble_eq_true rfl) rfl ?_
  exact key (2 ^ n) 0 (by omega)
theorem c_mo_pure (hn : 1 ≤ n) (hn9 : n ≤ 9) (hb : ∀ k, b k ≤ 1) : AMet M_mo_isPure [.ref 6] [a0, a1, a2, a3, a4, a5, MO fl tc n fd R b le sz o be pc wt qu la sl ce tb mt ru bf kp, a7] (Ex (some (.int (nI (if pureTo b (2 ^ n / 2) then 1 else 0)))) [a0, a1, a2, a3, a4, a5, MO fl tc n fd R b le sz o be pc wt qu la sl ce tb mt ru bf kp, a7]) 0 0 := by
  have hp9 := pow_le9 hn9
  have hh := pow_half hn
  refine AMet.of [(0, .ref 6)] (by decide +kernel) rfl (Nat.le_of_ble_eq_true rfl) ?_
  have key : ∀ (m i : Nat), i + m = 2 ^ n / 2 → AW M_mo_isPure noP (Zp (Ex (some (.int (nI (if pureTo b (2 ^ n / 2) then 1 else 0)))) [a0, a1, a2, a3, a4, a5, MO fl tc n fd R b le sz o be pc wt qu la sl ce tb mt ru bf kp, a7])) 0 0 4 [(0, .ref 6), (1, .int (nI (if pureTo b i then 1 else 0))), (2, .int (nI i))] [] [a0, a1, a2, a3, a4, a5, MO fl tc n fd R b le sz o be pc wt qu la sl ce tb mt ru bf kp, a7] 0 0 := by
    intro m
    induction m with
    | zero =>
      intro i hi
      refine aw_iload_n 2 D_mo_isPure_4 rfl rfl ?_
      refine aw_aload_n 0 D_mo_isPure_5 rfl rfl ?_
      refine aw_callV1 (As := []) D_mo_isPure_6 kv_mo_states (c_mo_states hn9) rfl rfl rfl rfl rfl (Nat.le_of_ble_eq_true rfl) (Nat.zero_le _) (Nat.zero_le _) ?_
      refine aw_iconst (nI 2) D_mo_isPure_9 rfl ?_
      first | with_reducible refine aw_idivN D_mo_isPure_10 (by omega) (by omega) (by omega) ?_ | refine aw_idiv D_mo_isPure_10 (by decide) ?_
      refine aw_icmp_geN D_mo_isPure_11 (by omega) (by omega) (fun h => ?_) (fun h => absurd h (by omega))
      rw [show i = 2 ^ n / 2 by omega]
      refine aw_iload_n 1 D_mo_isPure_49 rfl rfl ?_
      refine aw_ireturn D_mo_isPure_50 rfl (nar_bit (by split <;> decide)) ?_
      exact ⟨rfl, rfl⟩
    | succ m ih =>
      intro i hi
      have h1 := hb (2 * i)
      have h2 := hb (2 * i + 1)
      have hs : pureTo b (i + 1) = (pureTo b i && b (2 * i) != b (2 * i + 1)) := rfl
      have hnext : ∀ v : Nat, v = (if pureTo b (i + 1) then 1 else 0) → AW M_mo_isPure noP (Zp (Ex (some (.int (nI (if pureTo b (2 ^ n / 2) then 1 else 0)))) [a0, a1, a2, a3, a4, a5, MO fl tc n fd R b le sz o be pc wt qu la sl ce tb mt ru bf kp, a7])) 0 0 42 [(0, .ref 6), (1, .int (nI (if pureTo b i then 1 else 0))), (2, .int (nI i))] [.int (nI v)] [a0, a1, a2, a3, a4, a5, MO fl tc n fd R b le sz o be pc wt qu la sl ce tb mt ru bf kp, a7] 0 0 := by
        intro v hv
        refine aw_istore_n 1 D_mo_isPure_42 rfl (Nat.le_of_ble_eq_true rfl) rfl ?_
        first | refine aw_incN D_mo_isPure_43 rfl (Nat.le_of_ble_eq_true rfl) rfl ?_ | refine aw_inc D_mo_isPure_43 rfl (Nat.le_of_ble_eq_true rfl) rfl ?_
        refine aw_goto D_mo_isPure_46 ?_
        rw [hv]
        exact ih (i + 1) (by omega)
      refine aw_iload_n 2 D_mo_isPure_4 rfl rfl ?_
      refine aw_aload_n 0 D_mo_isPure_5 rfl rfl ?_
      refine aw_callV1 (As := []) D_mo_isPure_6 kv_mo_states (c_mo_states hn9) rfl rfl rfl rfl rfl (Nat.le_of_ble_eq_true rfl) (Nat.zero_le _) (Nat.zero_le _) ?_
      refine aw_iconst (nI 2) D_mo_isPure_9 rfl ?_
      first | with_reducible refine aw_idivN D_mo_isPure_10 (by omega) (by omega) (by omega) ?_ | refine aw_idiv D_mo_isPure_10 (by decide) ?_
      refine aw_icmp_geN D_mo_isPure_11 (by omega) (by omega) (fun h => absurd h (by omega)) (fun h => ?_)
      refine aw_iload_n 1 D_mo_isPure_14 rfl rfl ?_
      refine aw_aload_n 0 D_mo_isPure_15 rfl rfl ?_
      refine aw_get D_mo_isPure_16 rfl rfl ?_
      refine aw_iconst (nI 2) D_mo_isPure_19 rfl ?_
      refine aw_iload_n 2 D_mo_isPure_20 rfl rfl ?_
      first | with_reducible refine aw_imulN D_mo_isPure_21 ?_ | refine aw_imul D_mo_isPure_21 ?_
      refine aw_ialdN D_mo_isPure_22 rfl (by omega) (by omega) ?_
      refine aw_aload_n 0 D_mo_isPure_23 rfl rfl ?_
      refine aw_get D_mo_isPure_24 rfl rfl ?_
      refine aw_iconst (nI 2) D_mo_isPure_27 rfl ?_
      refine aw_iload_n 2 D_mo_isPure_28 rfl rfl ?_
      first | with_reducible refine aw_imulN D_mo_isPure_29 ?_ | refine aw_imul D_mo_isPure_29 ?_
      refine aw_iconst (nI 1) D_mo_isPure_30 rfl ?_
      first | with_reducible refine aw_iaddN D_mo_isPure_31 ?_ | refine aw_iadd D_mo_isPure_31 ?_
      refine aw_ialdN D_mo_isPure_32 rfl (by omega) (by omega) ?_
      refine aw_icmp_eqN D_mo_isPure_33 (by omega) (by omega) (fun h => ?_) (fun h => ?_)
      · refine aw_iconst (nI 0) D_mo_isPure_40 rfl ?_
        first | with_reducible refine aw_iandN D_mo_isPure_41 ?_ | refine aw_iand D_mo_isPure_41 ?_
        refine hnext _ ?_
        rw [hs, h]
        split <;> simp
      · refine aw_iconst (nI 1) D_mo_isPure_36 rfl ?_
        refine aw_goto D_mo_isPure_37 ?_
        first | with_reducible refine aw_iandN D_mo_isPure_41 ?_ | refine aw_iand D_mo_isPure_41 ?_
        refine hnext _ ?_
        rw [hs]
        cases pureTo b i <;> simp [h]
  refine aw_iconst (nI 1) D_mo_isPure_0 rfl ?_
  refine aw_istore_n 1 D_mo_isPure_1 rfl (Nat.le_of_ble_eq_true rfl) rfl ?_
  refine aw_iconst (nI 0) D_mo_isPure_2 rfl ?_
  refine aw_istore_n 2 D_mo_isPure_3 rfl (Nat.le_of_ble_eq_true rfl) rfl ?_
  exact key (2 ^ n / 2) 0 (by omega)
end Mo1
