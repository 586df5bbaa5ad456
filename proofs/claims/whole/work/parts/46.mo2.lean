/-! ### the reference: its state, and what is asked of the register -/
/-- lanes, lengths and cells of both sides -/
def LN (la : Nat → Int32) (zs : Nat → Nat) (cs : Nat → Nat → Int64) (lm : Nat → Int32) (sl : Nat → Nat) (ce : Nat → Int64) : Prop :=
  (∀ k, k < 4 → (la k = -nI 1 ∧ lm k = -nI 9) ∨ ∃ l, l < 3 ∧ la k = nI l ∧ lm k = nI l ∧ sl k = zs k ∧ ∀ i, i < zs k → ce (600 * k + i) = cs k i) ∧ ∀ k, zs k ≤ 600
def MS (n : Nat) (b : Nat → Nat) (tc fl : Int32) (la : Nat → Int32) (zs : Nat → Nat) (cs : Nat → Nat → Int64) (m : List va_E) : Prop :=
  ∃ (fd R : Nat) (le sz : Nat → Nat) (o : Nat → Option Nat) (be pc wt qu : Nat → Nat) (lm : Nat → Int32) (sl : Nat → Nat) (ce : Nat → Int64) (tb mt ru bf kp : Nat → Nat),
    m = MO fl tc n fd R b le sz o be pc wt qu lm sl ce tb mt ru bf kp ∧ 2 ≤ n ∧ n ≤ 9 ∧ (∀ k, b k ≤ 1) ∧ (fd = 0 ∨ fd = 1 ∧ MF n b R o be pc le sz) ∧ LN la zs cs lm sl ce ∧ (∀ i, tb i < 1000003)
theorem pop_top {m n : Nat} (h : m < 2 ^ n) : ∀ d, pop m (n + d) = pop m n
  | 0 => rfl
  | d + 1 => by
    show pop m (n + d) + m / 2 ^ (n + d) % 2 = pop m n
    rw [pop_top h d, Nat.div_eq_of_lt (Nat.lt_of_lt_of_le h (Nat.pow_le_pow_right (by decide) (by omega)))]
    rfl
theorem xor_bit {x y p : Nat} (hx : x = p % 2) : x ^^^ (y &&& 1) = (p + y) % 2 := by
  have h1 : (x ^^^ (y &&& 1)) < 2 := by
    have a1 : x < 2 ^ 1 := by omega
    have a2 : (y &&& 1) < 2 ^ 1 := by rw [Nat.and_one_is_mod]; omega
    exact Nat.xor_lt_two_pow a1 a2
  have h2 := xor_m2 x (y &&& 1)
  rw [Nat.and_one_is_mod] at h1 h2 ⊢
  omega
section Mo2
variable {a0 a1 a2 a3 a4 a5 a7 m : List va_E} {fl tc : Int32} {n : Nat} {b : Nat → Nat} {la : Nat → Int32} {zs : Nat → Nat} {cs : Nat → Nat → Int64}
theorem c_mo_lengthT {k : Nat} (h2 : 2 ≤ k) (h9 : k ≤ 9) (h : MS n b tc fl la zs cs m) : AMet M_mo_length [.ref 6, .int (nI k)] [a0, a1, a2, a3, a4, a5, m, a7] (fun (r' : Option Value) (w' : Wd) => r' = some (.int (nI n)) ∧ ∃ m', w' = [a0, a1, a2, a3, a4, a5, m', a7] ∧ MS k (fun _ => 0) tc fl la zs cs m') 0 0 := by
  obtain ⟨fd, R, le, sz, o, be, pc, wt, qu, lm, sl, ce, tb, mt, ru, bf, kp, rfl, hn, hn9, hb, hfd, hL, hT⟩ := h
  refine AMet.of [(0, .ref 6), (1, .int (nI k))] (by decide +kernel) rfl (Nat.le_of_ble_eq_true rfl) ?_
  have key : ∀ (d i : Nat), i + d = 512 → AW M_mo_length noP (Zp (fun (r' : Option Value) (w' : Wd) => r' = some (.int (nI n)) ∧ ∃ m', w' = [a0, a1, a2, a3, a4, a5, m', a7] ∧ MS k (fun _ => 0) tc fl la zs cs m')) 0 0 29 [(0, .ref 6), (1, .int (nI k)), (2, .int (nI n)), (3, .int (nI i))] [] [a0, a1, a2, a3, a4, a5, MO fl tc k fd R (fun j => if j < i then 0 else b j) le sz o be pc wt qu lm sl ce tb mt ru bf kp, a7] 0 0 := by
    intro d
    induction d with
    | zero =>
      intro i hi
      have hi : i = 512 := by omega
      subst hi
      refine aw_row (q := 22) (t := 0) (N := 512) (f := nF (fun j => if j < 512 then 0 else b j)) (g := nF (fun _ => 0)) rfl (fun j hj => congrArg nI (if_pos hj)) ?_
      refine aw_iload_n 3 D_mo_length_29 rfl rfl ?_
      refine aw_sipush (nI 512) D_mo_length_30 rfl ?_
      refine aw_icmp_geN D_mo_length_33 (by decide) (by decide) (fun h => ?_) (fun h => absurd h (by decide))
      refine aw_aload_n 0 D_mo_length_49 rfl rfl ?_
      refine aw_iconst (nI 0) D_mo_length_50 rfl ?_
      refine aw_put tc_mo D_mo_length_51 rfl (Nat.le_of_ble_eq_true rfl) rfl rfl ?_
      refine aw_iload_n 2 D_mo_length_54 rfl rfl ?_
      refine aw_ireturn D_mo_length_55 rfl rfl ?_
      exact ⟨rfl, _, rfl, 0, R, le, sz, o, be, pc, wt, qu, lm, sl, ce, tb, mt, ru, bf, kp, rfl, h2, h9, (fun _ => Nat.zero_le 1), (Or.inl rfl), hL, hT⟩
    | succ d ih =>
      intro i hi
      refine aw_iload_n 3 D_mo_length_29 rfl rfl ?_
      refine aw_sipush (nI 512) D_mo_length_30 rfl ?_
      refine aw_icmp_geN D_mo_length_33 (by omega) (by decide) (fun h => absurd h (by omega)) (fun h => ?_)
      refine aw_aload_n 0 D_mo_length_36 rfl rfl ?_
      refine aw_get D_mo_length_37 rfl rfl ?_
      refine aw_iload_n 3 D_mo_length_40 rfl rfl ?_
      refine aw_iconst (nI 0) D_mo_length_41 rfl ?_
      refine aw_iastN D_mo_length_42 rfl (by omega) (by omega) ?_
      first | refine aw_incN D_mo_length_43 rfl (Nat.le_of_ble_eq_true rfl) rfl ?_ | refine aw_inc D_mo_length_43 rfl (Nat.le_of_ble_eq_true rfl) rfl ?_
      refine aw_goto D_mo_length_46 ?_
      rw [fill_up]
      exact ih (i + 1) (by omega)
  refine aw_iload_n 1 D_mo_length_0 rfl rfl ?_
  first | with_reducible refine aw_i2lN D_mo_length_1 (by omega) ?_ | refine aw_i2l D_mo_length_1 ?_
  refine aw_ldc2 D_mo_length_2 ?_
  refine aw_ldc2 D_mo_length_5 ?_
  refine aw_callS1 (As := [_, _, _]) D_mo_length_8 kv_mo_within (c_mo_withinT h2 h9 (by decide)) rfl rfl (Nat.le_of_ble_eq_true rfl) (Nat.zero_le _) (Nat.zero_le _) ?_
  refine aw_if_neN D_mo_length_11 (by decide) (fun h => ?_) (fun h => absurd h (by decide))
  refine aw_aload_n 0 D_mo_length_17 rfl rfl ?_
  refine aw_get D_mo_length_18 rfl rfl ?_
  refine aw_istore_n 2 D_mo_length_21 rfl (Nat.le_of_ble_eq_true rfl) rfl ?_
  refine aw_aload_n 0 D_mo_length_22 rfl rfl ?_
  refine aw_iload_n 1 D_mo_length_23 rfl rfl ?_
  refine aw_put tc_mo D_mo_length_24 rfl (Nat.le_of_ble_eq_true rfl) rfl rfl ?_
  refine aw_iconst (nI 0) D_mo_length_27 rfl ?_
  refine aw_istore_n 3 D_mo_length_28 rfl (Nat.le_of_ble_eq_true rfl) rfl ?_
  exact key 512 0 (by omega)
theorem c_mo_lengthF {x : Int32} (hx : ¬ ∃ k, 2 ≤ k ∧ k ≤ 9 ∧ x = nI k) (h : MS n b tc fl la zs cs m) : AMet M_mo_length [.ref 6, .int x] [a0, a1, a2, a3, a4, a5, m, a7] (fun (r' : Option Value) (w' : Wd) => r' = some (.int (-nI 2)) ∧ ∃ m', w' = [a0, a1, a2, a3, a4, a5, m', a7] ∧ MS n b tc fl la zs cs m') 0 0 := by
  obtain ⟨fd, R, le, sz, o, be, pc, wt, qu, lm, sl, ce, tb, mt, ru, bf, kp, rfl, hn, hn9, hb, hfd, hL, hT⟩ := h
  refine AMet.of [(0, .ref 6), (1, .int x)] (by decide +kernel) rfl (Nat.le_of_ble_eq_true rfl) ?_
  refine aw_iload_n 1 D_mo_length_0 rfl rfl ?_
  first | with_reducible refine aw_i2lN D_mo_length_1 (by omega) ?_ | refine aw_i2l D_mo_length_1 ?_
  refine aw_ldc2 D_mo_length_2 ?_
  refine aw_ldc2 D_mo_length_5 ?_
  refine aw_callS1 (As := [_, _, _]) D_mo_length_8 kv_mo_within (c_mo_withinF hx (by decide) (by decide)) rfl rfl (Nat.le_of_ble_eq_true rfl) (Nat.zero_le _) (Nat.zero_le _) ?_
  refine aw_if_neN D_mo_length_11 (by decide) (fun h => absurd h (by decide)) (fun h => ?_)
  refine aw_bipush (-nI 2) D_mo_length_14 rfl ?_
  refine aw_ireturn D_mo_length_16 rfl rfl ?_
  exact ⟨rfl, _, rfl, fd, R, le, sz, o, be, pc, wt, qu, lm, sl, ce, tb, mt, ru, bf, kp, rfl, hn, hn9, hb, hfd, hL, hT⟩
theorem c_mo_setT {s x : Nat} (hs : s < 2 ^ n) (hx : x ≤ 1) (h : MS n b tc fl la zs cs m) : AMet M_mo_set [.ref 6, .int (nI s), .int (nI x)] [a0, a1, a2, a3, a4, a5, m, a7] (fun (r' : Option Value) (w' : Wd) => r' = some (.int (nI (b s))) ∧ ∃ m', w' = [a0, a1, a2, a3, a4, a5, m', a7] ∧ MS n (va_up b s x) tc fl la zs cs m') 0 0 := by
  obtain ⟨fd, R, le, sz, o, be, pc, wt, qu, lm, sl, ce, tb, mt, ru, bf, kp, rfl, hn, hn9, hb, hfd, hL, hT⟩ := h
  have hp9 := pow_le9 hn9
  refine AMet.of [(0, .ref 6), (1, .int (nI s)), (2, .int (nI x))] (by decide +kernel) rfl (Nat.le_of_ble_eq_true rfl) ?_
  refine aw_aload_n 0 D_mo_set_0 rfl rfl ?_
  refine aw_iload_n 1 D_mo_set_1 rfl rfl ?_
  refine aw_callV1 (As := [_]) D_mo_set_2 kv_mo_isState (c_mo_isStateT hn9 hs) rfl rfl rfl rfl rfl (Nat.le_of_ble_eq_true rfl) (Nat.zero_le _) (Nat.zero_le _) ?_
  refine aw_if_neN D_mo_set_5 (by decide) (fun h => ?_) (fun h => absurd h (by decide))
  refine aw_iload_n 2 D_mo_set_10 rfl rfl ?_
  first | with_reducible refine aw_i2lN D_mo_set_11 (by omega) ?_ | refine aw_i2l D_mo_set_11 ?_
  refine aw_lconst (lN 0) D_mo_set_12 rfl ?_
  refine aw_lconst (lN 1) D_mo_set_13 rfl ?_
  refine aw_callS1 (As := [_, _, _]) D_mo_set_14 kv_mo_within (c_mo_withinT (Nat.zero_le _) hx (by decide)) rfl rfl (Nat.le_of_ble_eq_true rfl) (Nat.zero_le _) (Nat.zero_le _) ?_
  refine aw_if_neN D_mo_set_17 (by decide) (fun h => ?_) (fun h => absurd h (by decide))
  refine aw_aload_n 0 D_mo_set_23 rfl rfl ?_
  refine aw_get D_mo_set_24 rfl rfl ?_
  refine aw_iload_n 1 D_mo_set_27 rfl rfl ?_
  refine aw_ialdN D_mo_set_28 rfl (by omega) (by omega) ?_
  refine aw_istore_n 3 D_mo_set_29 rfl (Nat.le_of_ble_eq_true rfl) rfl ?_
  refine aw_aload_n 0 D_mo_set_30 rfl rfl ?_
  refine aw_get D_mo_set_31 rfl rfl ?_
  refine aw_iload_n 1 D_mo_set_34 rfl rfl ?_
  refine aw_iload_n 2 D_mo_set_35 rfl rfl ?_
  refine aw_iastN D_mo_set_36 rfl (by omega) (by omega) ?_
  refine aw_aload_n 0 D_mo_set_37 rfl rfl ?_
  refine aw_iconst (nI 0) D_mo_set_38 rfl ?_
  refine aw_put tc_mo D_mo_set_39 rfl (Nat.le_of_ble_eq_true rfl) rfl rfl ?_
  refine aw_iload_n 3 D_mo_set_42 rfl rfl ?_
  refine aw_ireturn D_mo_set_43 rfl rfl ?_
  exact ⟨rfl, _, rfl, 0, R, le, sz, o, be, pc, wt, qu, lm, sl, ce, tb, mt, ru, bf, kp, rfl, hn, hn9, (fun k => by unfold va_up; split; exact hx; exact hb k), (Or.inl rfl), hL, hT⟩
theorem c_mo_setU {x y : Int32} (hx : ¬ vp_in x (2 ^ n)) (h : MS n b tc fl la zs cs m) : AMet M_mo_set [.ref 6, .int x, .int y] [a0, a1, a2, a3, a4, a5, m, a7] (fun (r' : Option Value) (w' : Wd) => r' = some (.int (-nI 1)) ∧ ∃ m', w' = [a0, a1, a2, a3, a4, a5, m', a7] ∧ MS n b tc fl la zs cs m') 0 0 := by
  obtain ⟨fd, R, le, sz, o, be, pc, wt, qu, lm, sl, ce, tb, mt, ru, bf, kp, rfl, hn, hn9, hb, hfd, hL, hT⟩ := h
  refine AMet.of [(0, .ref 6), (1, .int x), (2, .int y)] (by decide +kernel) rfl (Nat.le_of_ble_eq_true rfl) ?_
  refine aw_aload_n 0 D_mo_set_0 rfl rfl ?_
  refine aw_iload_n 1 D_mo_set_1 rfl rfl ?_
  refine aw_callV1 (As := [_]) D_mo_set_2 kv_mo_isState (c_mo_isStateF hn9 hx) rfl rfl rfl rfl rfl (Nat.le_of_ble_eq_true rfl) (Nat.zero_le _) (Nat.zero_le _) ?_
  refine aw_if_neN D_mo_set_5 (by decide) (fun h => absurd h (by decide)) (fun h => ?_)
  refine aw_iconst (-nI 1) D_mo_set_8 rfl ?_
  refine aw_ireturn D_mo_set_9 rfl rfl ?_
  exact ⟨rfl, _, rfl, fd, R, le, sz, o, be, pc, wt, qu, lm, sl, ce, tb, mt, ru, bf, kp, rfl, hn, hn9, hb, hfd, hL, hT⟩
theorem c_mo_setO {s : Nat} {y : Int32} (hs : s < 2 ^ n) (hy : ¬ vp_in y 2) (h : MS n b tc fl la zs cs m) : AMet M_mo_set [.ref 6, .int (nI s), .int y] [a0, a1, a2, a3, a4, a5, m, a7] (fun (r' : Option Value) (w' : Wd) => r' = some (.int (-nI 2)) ∧ ∃ m', w' = [a0, a1, a2, a3, a4, a5, m', a7] ∧ MS n b tc fl la zs cs m') 0 0 := by
  obtain ⟨fd, R, le, sz, o, be, pc, wt, qu, lm, sl, ce, tb, mt, ru, bf, kp, rfl, hn, hn9, hb, hfd, hL, hT⟩ := h
  have hp9 := pow_le9 hn9
  refine AMet.of [(0, .ref 6), (1, .int (nI s)), (2, .int y)] (by decide +kernel) rfl (Nat.le_of_ble_eq_true rfl) ?_
  refine aw_aload_n 0 D_mo_set_0 rfl rfl ?_
  refine aw_iload_n 1 D_mo_set_1 rfl rfl ?_
  refine aw_callV1 (As := [_]) D_mo_set_2 kv_mo_isState (c_mo_isStateT hn9 hs) rfl rfl rfl rfl rfl (Nat.le_of_ble_eq_true rfl) (Nat.zero_le _) (Nat.zero_le _) ?_
  refine aw_if_neN D_mo_set_5 (by decide) (fun h => ?_) (fun h => absurd h (by decide))
  refine aw_iload_n 2 D_mo_set_10 rfl rfl ?_
  first | with_reducible refine aw_i2lN D_mo_set_11 (by omega) ?_ | refine aw_i2l D_mo_set_11 ?_
  refine aw_lconst (lN 0) D_mo_set_12 rfl ?_
  refine aw_lconst (lN 1) D_mo_set_13 rfl ?_
  refine aw_callS1 (As := [_, _, _]) D_mo_set_14 kv_mo_within (c_mo_withinF (vp_F (N := 1) (by decide) hy) (by decide) (by decide)) rfl rfl (Nat.le_of_ble_eq_true rfl) (Nat.zero_le _) (Nat.zero_le _) ?_
  refine aw_if_neN D_mo_set_17 (by decide) (fun h => absurd h (by decide)) (fun h => ?_)
  refine aw_bipush (-nI 2) D_mo_set_20 rfl ?_
  refine aw_ireturn D_mo_set_22 rfl rfl ?_
  exact ⟨rfl, _, rfl, fd, R, le, sz, o, be, pc, wt, qu, lm, sl, ce, tb, mt, ru, bf, kp, rfl, hn, hn9, hb, hfd, hL, hT⟩
theorem c_mo_feedT {s : Nat} (hs : s < 2 ^ n) (h : MS n b tc fl la zs cs m) : AMet M_mo_feedback [.ref 6, .int (nI s)] [a0, a1, a2, a3, a4, a5, m, a7] (fun (r' : Option Value) (w' : Wd) => r' = some (.int (nI (b s))) ∧ ∃ m', w' = [a0, a1, a2, a3, a4, a5, m', a7] ∧ MS n b tc fl la zs cs m') 0 0 := by
  obtain ⟨fd, R, le, sz, o, be, pc, wt, qu, lm, sl, ce, tb, mt, ru, bf, kp, rfl, hn, hn9, hb, hfd, hL, hT⟩ := h
  have hp9 := pow_le9 hn9
  refine AMet.of [(0, .ref 6), (1, .int (nI s))] (by decide +kernel) rfl (Nat.le_of_ble_eq_true rfl) ?_
  refine aw_aload_n 0 D_mo_feedback_0 rfl rfl ?_
  refine aw_iload_n 1 D_mo_feedback_1 rfl rfl ?_
  refine aw_callV1 (As := [_]) D_mo_feedback_2 kv_mo_isState (c_mo_isStateT hn9 hs) rfl rfl rfl rfl rfl (Nat.le_of_ble_eq_true rfl) (Nat.zero_le _) (Nat.zero_le _) ?_
  refine aw_if_eqN D_mo_feedback_5 (by decide) (fun h => absurd h (by decide)) (fun h => ?_)
  refine aw_aload_n 0 D_mo_feedback_8 rfl rfl ?_
  refine aw_get D_mo_feedback_9 rfl rfl ?_
  refine aw_iload_n 1 D_mo_feedback_12 rfl rfl ?_
  refine aw_ialdN D_mo_feedback_13 rfl (by omega) (by omega) ?_
  refine aw_goto D_mo_feedback_14 ?_
  refine aw_ireturn D_mo_feedback_18 rfl rfl ?_
  exact ⟨rfl, _, rfl, fd, R, le, sz, o, be, pc, wt, qu, lm, sl, ce, tb, mt, ru, bf, kp, rfl, hn, hn9, hb, hfd, hL, hT⟩
theorem c_mo_feedU {x : Int32} (hx : ¬ vp_in x (2 ^ n)) (h : MS n b tc fl la zs cs m) : AMet M_mo_feedback [.ref 6, .int x] [a0, a1, a2, a3, a4, a5, m, a7] (fun (r' : Option Value) (w' : Wd) => r' = some (.int (-nI 1)) ∧ ∃ m', w' = [a0, a1, a2, a3, a4, a5, m', a7] ∧ MS n b tc fl la zs cs m') 0 0 := by
  obtain ⟨fd, R, le, sz, o, be, pc, wt, qu, lm, sl, ce, tb, mt, ru, bf, kp, rfl, hn, hn9, hb, hfd, hL, hT⟩ := h
  refine AMet.of [(0, .ref 6), (1, .int x)] (by decide +kernel) rfl (Nat.le_of_ble_eq_true rfl) ?_
  refine aw_aload_n 0 D_mo_feedback_0 rfl rfl ?_
  refine aw_iload_n 1 D_mo_feedback_1 rfl rfl ?_
  refine aw_callV1 (As := [_]) D_mo_feedback_2 kv_mo_isState (c_mo_isStateF hn9 hx) rfl rfl rfl rfl rfl (Nat.le_of_ble_eq_true rfl) (Nat.zero_le _) (Nat.zero_le _) ?_
  refine aw_if_eqN D_mo_feedback_5 (by decide) (fun h => ?_) (fun h => absurd h (by decide))
  refine aw_iconst (-nI 1) D_mo_feedback_17 rfl ?_
  refine aw_ireturn D_mo_feedback_18 rfl rfl ?_
  exact ⟨rfl, _, rfl, fd, R, le, sz, o, be, pc, wt, qu, lm, sl, ce, tb, mt, ru, bf, kp, rfl, hn, hn9, hb, hfd, hL, hT⟩
theorem linB_le {b : Nat → Nat} {mask one i : Nat} (hb : ∀ k, b k ≤ 1) : ∀ k, linB b mask one i k ≤ 1 := fun k => by
  unfold linB lin
  split
  · omega
  · exact hb k
theorem c_mo_linT {mask one : Nat} (hm : mask < 2 ^ n) (ho : one ≤ 1) (h : MS n b tc fl la zs cs m) : AMet M_mo_linear [.ref 6, .int (nI mask), .int (nI one)] [a0, a1, a2, a3, a4, a5, m, a7] (fun (r' : Option Value) (w' : Wd) => r' = some (.int (nI (fb_sm (linB b mask one (2 ^ n)) (2 ^ n)))) ∧ ∃ m', w' = [a0, a1, a2, a3, a4, a5, m', a7] ∧ MS n (linB b mask one (2 ^ n)) tc fl la zs cs m') 0 0 := by
  obtain ⟨fd, R, le, sz, o, be, pc, wt, qu, lm, sl, ce, tb, mt, ru, bf, kp, rfl, hn, hn9, hb, hfd, hL, hT⟩ := h
  have hp9 := pow_le9 hn9
  refine AMet.of [(0, .ref 6), (1, .int (nI mask)), (2, .int (nI one))] (by decide +kernel) rfl (Nat.le_of_ble_eq_true rfl) ?_
  generalize hZ : (fun (r' : Option Value) (w' : Wd) => r' = some (.int (nI (fb_sm (linB b mask one (2 ^ n)) (2 ^ n)))) ∧ ∃ m', w' = [a0, a1, a2, a3, a4, a5, m', a7] ∧ MS n (linB b mask one (2 ^ n)) tc fl la zs cs m') = ZZ
  have key : ∀ (d s : Nat) (L5 : List (Nat × Value)), s + d = 2 ^ n → (L5 = [] ∨ ∃ x y, L5 = [(4, Value.int x), (5, Value.int y)]) → AW M_mo_linear noP (Zp ZZ) 0 0 23 ([(0, .ref 6), (1, .int (nI mask)), (2, .int (nI one)), (3, .int (nI s))] ++ L5) [] [a0, a1, a2, a3, a4, a5, MO fl tc n fd R (linB b mask one s) le sz o be pc wt qu lm sl ce tb mt ru bf kp, a7] 0 0 := by
    intro d
    induction d with
    | zero =>
      intro s L5 hs hL5
      have hs : s = 2 ^ n := by omega
      subst hs
      have hb2 := linB_le (mask := mask) (one := one) (i := 2 ^ n) hb
      have hfin : AW M_mo_linear noP (Zp ZZ) 0 0 23 [(0, .ref 6), (1, .int (nI mask)), (2, .int (nI one)), (3, .int (nI (2 ^ n)))] [] [a0, a1, a2, a3, a4, a5, MO fl tc n fd R (linB b mask one (2 ^ n)) le sz o be pc wt qu lm sl ce tb mt ru bf kp, a7] 0 0 := by
        refine aw_iload_n 3 D_mo_linear_23 rfl rfl ?_
        refine aw_aload_n 0 D_mo_linear_24 rfl rfl ?_
        refine aw_callV1 (As := []) D_mo_linear_25 kv_mo_states (c_mo_states hn9) rfl rfl rfl rfl rfl (Nat.le_of_ble_eq_true rfl) (Nat.zero_le _) (Nat.zero_le _) ?_
        refine aw_icmp_geN D_mo_linear_28 (by omega) (by omega) (fun h => ?_) (fun h => absurd h (by omega))
        refine aw_aload_n 0 D_mo_linear_79 rfl rfl ?_
        refine aw_iconst (nI 0) D_mo_linear_80 rfl ?_
        refine aw_put tc_mo D_mo_linear_81 rfl (Nat.le_of_ble_eq_true rfl) rfl rfl ?_
        refine aw_aload_n 0 D_mo_linear_84 rfl rfl ?_
        refine aw_callV1 (As := []) D_mo_linear_85 kv_mo_ones (c_mo_ones hn9 hb2) rfl rfl rfl rfl rfl (Nat.le_of_ble_eq_true rfl) (Nat.zero_le _) (Nat.zero_le _) ?_
        refine aw_ireturn D_mo_linear_88 rfl rfl ?_
        subst hZ; exact ⟨rfl, _, rfl, 0, R, le, sz, o, be, pc, wt, qu, lm, sl, ce, tb, mt, ru, bf, kp, rfl, hn, hn9, hb2, (Or.inl rfl), hL, hT⟩
      rcases hL5 with rfl | ⟨x, y, rfl⟩
      · exact hfin
      · exact aw_take 4 hfin
    | succ d ih =>
      intro s L5 hs hL5
      have hand : (s &&& mask) ≤ s := Nat.and_le_left
      have hfin : AW M_mo_linear noP (Zp ZZ) 0 0 23 [(0, .ref 6), (1, .int (nI mask)), (2, .int (nI one)), (3, .int (nI s))] [] [a0, a1, a2, a3, a4, a5, MO fl tc n fd R (linB b mask one s) le sz o be pc wt qu lm sl ce tb mt ru bf kp, a7] 0 0 := by
        have inner : ∀ (e k : Nat), k + e = n → AW M_mo_linear noP (Zp ZZ) 0 0 37 [(0, .ref 6), (1, .int (nI mask)), (2, .int (nI one)), (3, .int (nI s)), (4, .int (nI ((pop (s &&& mask) k + one) % 2))), (5, .int (nI k))] [] [a0, a1, a2, a3, a4, a5, MO fl tc n fd R (linB b mask one s) le sz o be pc wt qu lm sl ce tb mt ru bf kp, a7] 0 0 := by
          intro e
          induction e with
          | zero =>
            intro k hk
            have hk : k = n := by omega
            subst hk
            refine aw_iload D_mo_linear_37 rfl ?_
            refine aw_aload_n 0 D_mo_linear_39 rfl rfl ?_
            refine aw_get D_mo_linear_40 rfl rfl ?_
            refine aw_icmp_geN D_mo_linear_43 (by omega) (by omega) (fun h => ?_) (fun h => absurd h (by omega))
            rw [show (pop (s &&& mask) k + one) % 2 = lin mask one s by unfold lin; rw [show 9 = k + (9 - k) by omega, pop_top (by omega)]]
            refine aw_aload_n 0 D_mo_linear_65 rfl rfl ?_
            refine aw_get D_mo_linear_66 rfl rfl ?_
            refine aw_iload_n 3 D_mo_linear_69 rfl rfl ?_
            refine aw_iload D_mo_linear_70 rfl ?_
            refine aw_iastN D_mo_linear_72 rfl (by omega) (by omega) ?_
            first | refine aw_incN D_mo_linear_73 rfl (Nat.le_of_ble_eq_true rfl) rfl ?_ | refine aw_inc D_mo_linear_73 rfl (Nat.le_of_ble_eq_true rfl) rfl ?_
            refine aw_goto D_mo_linear_76 ?_
            rw [linB_up]
            exact ih (s + 1) [(4, .int (nI (lin mask one s))), (5, .int (nI k))] (by omega) (Or.inr ⟨_, _, rfl⟩)
          | succ e ie =>
            intro k hk
            refine aw_iload D_mo_linear_37 rfl ?_
            refine aw_aload_n 0 D_mo_linear_39 rfl rfl ?_
            refine aw_get D_mo_linear_40 rfl rfl ?_
            refine aw_icmp_geN D_mo_linear_43 (by omega) (by omega) (fun h => absurd h (by omega)) (fun h => ?_)
            refine aw_iload D_mo_linear_46 rfl ?_
            refine aw_iload_n 3 D_mo_linear_48 rfl rfl ?_
            refine aw_iload_n 1 D_mo_linear_49 rfl rfl ?_
            first | with_reducible refine aw_iandN D_mo_linear_50 ?_ | refine aw_iand D_mo_linear_50 ?_
            refine aw_iload D_mo_linear_51 rfl ?_
            refine aw_ishrN D_mo_linear_53 (by omega) (by omega) ?_
            refine aw_iconst (nI 1) D_mo_linear_54 rfl ?_
            first | with_reducible refine aw_iandN D_mo_linear_55 ?_ | refine aw_iand D_mo_linear_55 ?_
            first | with_reducible refine aw_ixorN D_mo_linear_56 ?_ | refine aw_ixor D_mo_linear_56 ?_
            rw [xor_bit rfl, show (pop (s &&& mask) k + one + (s &&& mask) / 2 ^ k) % 2 = (pop (s &&& mask) (k + 1) + one) % 2 by show _ = (pop (s &&& mask) k + (s &&& mask) / 2 ^ k % 2 + one) % 2; omega]
            refine aw_istore D_mo_linear_57 (Nat.le_of_ble_eq_true rfl) rfl ?_
            first | refine aw_incN D_mo_linear_59 rfl (Nat.le_of_ble_eq_true rfl) rfl ?_ | refine aw_inc D_mo_linear_59 rfl (Nat.le_of_ble_eq_true rfl) rfl ?_
            refine aw_goto D_mo_linear_62 ?_
            exact ie (k + 1) (by omega)
        refine aw_iload_n 3 D_mo_linear_23 rfl rfl ?_
        refine aw_aload_n 0 D_mo_linear_24 rfl rfl ?_
        refine aw_callV1 (As := []) D_mo_linear_25 kv_mo_states (c_mo_states hn9) rfl rfl rfl rfl rfl (Nat.le_of_ble_eq_true rfl) (Nat.zero_le _) (Nat.zero_le _) ?_
        refine aw_icmp_geN D_mo_linear_28 (by omega) (by omega) (fun h => absurd h (by omega)) (fun h => ?_)
        refine aw_iload_n 2 D_mo_linear_31 rfl rfl ?_
        refine aw_istore D_mo_linear_32 (Nat.le_of_ble_eq_true rfl) rfl ?_
        refine aw_iconst (nI 0) D_mo_linear_34 rfl ?_
        refine aw_istore D_mo_linear_35 (Nat.le_of_ble_eq_true rfl) rfl ?_
        have := inner n 0 (by omega)
        rw [show (pop (s &&& mask) 0 + one) % 2 = one by show (0 + one) % 2 = one; omega] at this
        exact this
      rcases hL5 with rfl | ⟨x, y, rfl⟩
      · exact hfin
      · exact aw_take 4 hfin
  refine aw_aload_n 0 D_mo_linear_0 rfl rfl ?_
  refine aw_iload_n 1 D_mo_linear_1 rfl rfl ?_
  refine aw_callV1 (As := [_]) D_mo_linear_2 kv_mo_isState (c_mo_isStateT hn9 hm) rfl rfl rfl rfl rfl (Nat.le_of_ble_eq_true rfl) (Nat.zero_le _) (Nat.zero_le _) ?_
  refine aw_if_eqN D_mo_linear_5 (by decide) (fun h => absurd h (by decide)) (fun h => ?_)
  refine aw_iload_n 2 D_mo_linear_8 rfl rfl ?_
  first | with_reducible refine aw_i2lN D_mo_linear_9 (by omega) ?_ | refine aw_i2l D_mo_linear_9 ?_
  refine aw_lconst (lN 0) D_mo_linear_10 rfl ?_
  refine aw_lconst (lN 1) D_mo_linear_11 rfl ?_
  refine aw_callS1 (As := [_, _, _]) D_mo_linear_12 kv_mo_within (c_mo_withinT (Nat.zero_le _) ho (by decide)) rfl rfl (Nat.le_of_ble_eq_true rfl) (Nat.zero_le _) (Nat.zero_le _) ?_
  refine aw_if_neN D_mo_linear_15 (by decide) (fun h => ?_) (fun h => absurd h (by decide))
  refine aw_iconst (nI 0) D_mo_linear_21 rfl ?_
  refine aw_istore_n 3 D_mo_linear_22 rfl (Nat.le_of_ble_eq_true rfl) rfl ?_
  exact key (2 ^ n) 0 [] (by omega) (Or.inl rfl)
theorem c_mo_linF {x y : Int32} (hx : ¬ vp_in x (2 ^ n) ∨ ¬ vp_in y 2) (h : MS n b tc fl la zs cs m) : AMet M_mo_linear [.ref 6, .int x, .int y] [a0, a1, a2, a3, a4, a5, m, a7] (fun (r' : Option Value) (w' : Wd) => r' = some (.int (-nI 2)) ∧ ∃ m', w' = [a0, a1, a2, a3, a4, a5, m', a7] ∧ MS n b tc fl la zs cs m') 0 0 := by
  obtain ⟨fd, R, le, sz, o, be, pc, wt, qu, lm, sl, ce, tb, mt, ru, bf, kp, rfl, hn, hn9, hb, hfd, hL, hT⟩ := h
  have hp9 := pow_le9 hn9
  refine AMet.of [(0, .ref 6), (1, .int x), (2, .int y)] (by decide +kernel) rfl (Nat.le_of_ble_eq_true rfl) ?_
  by_cases hv : vp_in x (2 ^ n)
  · have hy := hx.resolve_left (fun z => z hv)
    obtain ⟨j, hj, rfl⟩ := vp_in_of hv (by omega)
    refine aw_aload_n 0 D_mo_linear_0 rfl rfl ?_
    refine aw_iload_n 1 D_mo_linear_1 rfl rfl ?_
    refine aw_callV1 (As := [_]) D_mo_linear_2 kv_mo_isState (c_mo_isStateT hn9 hj) rfl rfl rfl rfl rfl (Nat.le_of_ble_eq_true rfl) (Nat.zero_le _) (Nat.zero_le _) ?_
    refine aw_if_eqN D_mo_linear_5 (by decide) (fun h => absurd h (by decide)) (fun h => ?_)
    refine aw_iload_n 2 D_mo_linear_8 rfl rfl ?_
    first | with_reducible refine aw_i2lN D_mo_linear_9 (by omega) ?_ | refine aw_i2l D_mo_linear_9 ?_
    refine aw_lconst (lN 0) D_mo_linear_10 rfl ?_
    refine aw_lconst (lN 1) D_mo_linear_11 rfl ?_
    refine aw_callS1 (As := [_, _, _]) D_mo_linear_12 kv_mo_within (c_mo_withinF (vp_F (N := 1) (by decide) hy) (by decide) (by decide)) rfl rfl (Nat.le_of_ble_eq_true rfl) (Nat.zero_le _) (Nat.zero_le _) ?_
    refine aw_if_neN D_mo_linear_15 (by decide) (fun h => absurd h (by decide)) (fun h => ?_)
    refine aw_bipush (-nI 2) D_mo_linear_18 rfl ?_
    refine aw_ireturn D_mo_linear_20 rfl rfl ?_
    exact ⟨rfl, _, rfl, fd, R, le, sz, o, be, pc, wt, qu, lm, sl, ce, tb, mt, ru, bf, kp, rfl, hn, hn9, hb, hfd, hL, hT⟩
  · refine aw_aload_n 0 D_mo_linear_0 rfl rfl ?_
    refine aw_iload_n 1 D_mo_linear_1 rfl rfl ?_
    refine aw_callV1 (As := [_]) D_mo_linear_2 kv_mo_isState (c_mo_isStateF hn9 hv) rfl rfl rfl rfl rfl (Nat.le_of_ble_eq_true rfl) (Nat.zero_le _) (Nat.zero_le _) ?_
    refine aw_if_eqN D_mo_linear_5 (by decide) (fun h => ?_) (fun h => absurd h (by decide))
    refine aw_bipush (-nI 2) D_mo_linear_18 rfl ?_
    refine aw_ireturn D_mo_linear_20 rfl rfl ?_
    exact ⟨rfl, _, rfl, fd, R, le, sz, o, be, pc, wt, qu, lm, sl, ce, tb, mt, ru, bf, kp, rfl, hn, hn9, hb, hfd, hL, hT⟩
theorem c_mo_stepT {s k : Nat} (hs : s < 2 ^ n) (hk : k < 2 ^ 63) (h : MS n b tc fl la zs cs m) : AMet M_mo_step [.ref 6, .int (nI s), .long (lN k)] [a0, a1, a2, a3, a4, a5, m, a7] (fun (r' : Option Value) (w' : Wd) => r' = some (.int (nI (itr (nx n b) k s))) ∧ ∃ m', w' = [a0, a1, a2, a3, a4, a5, m', a7] ∧ MS n b tc fl la zs cs m') 0 0 := by
  obtain ⟨fd, R, le, sz, o, be, pc, wt, qu, lm, sl, ce, tb, mt, ru, bf, kp, rfl, hn, hn9, hb, hfd, hL, hT⟩ := h
  have hp9 := pow_le9 hn9
  have hf := FT.hf (n := n) (b := b) (by omega) hb
  refine AMet.of [(0, .ref 6), (1, .int (nI s)), (2, .long (lN k))] (by decide +kernel) rfl (Nat.le_of_ble_eq_true rfl) ?_
  generalize hZ : (fun (r' : Option Value) (w' : Wd) => r' = some (.int (nI (itr (nx n b) k s))) ∧ ∃ m', w' = [a0, a1, a2, a3, a4, a5, m', a7] ∧ MS n b tc fl la zs cs m') = ZZ
  refine aw_aload_n 0 D_mo_step_0 rfl rfl ?_
  refine aw_iload_n 1 D_mo_step_1 rfl rfl ?_
  refine aw_callV1 (As := [_]) D_mo_step_2 kv_mo_isState (c_mo_isStateT hn9 hs) rfl rfl rfl rfl rfl (Nat.le_of_ble_eq_true rfl) (Nat.zero_le _) (Nat.zero_le _) ?_
  refine aw_if_neN D_mo_step_5 (by decide) (fun h => ?_) (fun h => absurd h (by decide))
  refine aw_lload_n 2 D_mo_step_10 rfl rfl ?_
  refine aw_lconst (lN 0) D_mo_step_11 rfl ?_
  refine aw_lcmp D_mo_step_12 ?_
  refine aw_if_ge D_mo_step_13 (fun h => ?_) (fun h => absurd ((lg_cmp_ge _ _).mpr ((pk_lLE (by omega) hk).mpr (Nat.zero_le k))) h)
  refine aw_aload_n 0 D_mo_step_19 rfl rfl ?_
  refine aw_callV (As := []) D_mo_step_20 kv_mo_find (c_mo_find hn hn9 hb hfd) rfl rfl rfl rfl rfl (Nat.le_of_ble_eq_true rfl) (Nat.zero_le _) (Nat.zero_le _) (fun r w' hp => ?_)
  obtain ⟨rfl, R, le, sz, o, be, pc, wt, qu, rfl, hM⟩ := hp
  obtain ⟨pd, fa, hF⟩ := hM
  have hV := hF.2.1
  have last : ∀ (l t : Nat), t < 2 ^ n → l < 2 ^ 31 → itr (nx n b) l t = itr (nx n b) k s → AW M_mo_step noP (Zp ZZ) 0 0 88 [(0, .ref 6), (1, .int (nI s)), (2, .long (lN k)), (4, .int (nI t)), (5, .long (lN l))] [] [a0, a1, a2, a3, a4, a5, MO fl tc n 1 R b le sz o be pc wt qu lm sl ce tb mt ru bf kp, a7] 0 0 := by
    intro l
    induction l with
    | zero =>
      intro t ht hl he
      refine aw_lload D_mo_step_88 rfl ?_
      refine aw_lconst (lN 0) D_mo_step_90 rfl ?_
      refine aw_lcmp D_mo_step_91 ?_
      refine aw_if_le D_mo_step_92 (fun h => ?_) (fun h => absurd ((lg_cmp_le _ _).mpr ((pk_lLE (by omega) (by omega)).mpr (Nat.le_refl 0))) h)
      rw [show t = itr (nx n b) k s from he]
      refine aw_iload D_mo_step_112 rfl ?_
      refine aw_ireturn D_mo_step_114 rfl rfl ?_
      subst hZ; exact ⟨rfl, _, rfl, 1, R, le, sz, o, be, pc, wt, qu, lm, sl, ce, tb, mt, ru, bf, kp, rfl, hn, hn9, hb, (Or.inr ⟨rfl, pd, fa, hF⟩), hL, hT⟩
    | succ l ih =>
      intro t ht hl he
      refine aw_lload D_mo_step_88 rfl ?_
      refine aw_lconst (lN 0) D_mo_step_90 rfl ?_
      refine aw_lcmp D_mo_step_91 ?_
      refine aw_if_le D_mo_step_92 (fun h => absurd ((pk_lLE (by omega) (by omega)).mp ((lg_cmp_le _ _).mp h)) (by omega)) (fun h => ?_)
      refine aw_aload_n 0 D_mo_step_95 rfl rfl ?_
      refine aw_iload D_mo_step_96 rfl ?_
      refine aw_callV1 (As := [_]) D_mo_step_98 kv_mo_next (c_mo_next (by omega) hn9 ht) rfl rfl rfl rfl rfl (Nat.le_of_ble_eq_true rfl) (Nat.zero_le _) (Nat.zero_le _) ?_
      refine aw_istore D_mo_step_101 (Nat.le_of_ble_eq_true rfl) rfl ?_
      refine aw_lload D_mo_step_103 rfl ?_
      refine aw_lconst (lN 1) D_mo_step_105 rfl ?_
      first | with_reducible refine aw_lsubN D_mo_step_106 (by omega) ?_ | refine aw_lsub D_mo_step_106 ?_
      refine aw_lstore D_mo_step_107 (Nat.le_of_ble_eq_true rfl) rfl ?_
      refine aw_goto D_mo_step_109 ?_
      exact ih (nx n b t) (hf t ht) (by omega) he
  have mid : ∀ (l t : Nat), t < 2 ^ n → l < 2 ^ 63 → (l = 0 ∨ be t = 0) → itr (nx n b) l t = itr (nx n b) k s → AW M_mo_step noP (Zp ZZ) 0 0 63 [(0, .ref 6), (1, .int (nI s)), (2, .long (lN k)), (4, .int (nI t)), (5, .long (lN l))] [] [a0, a1, a2, a3, a4, a5, MO fl tc n 1 R b le sz o be pc wt qu lm sl ce tb mt ru bf kp, a7] 0 0 := by
    intro l t ht hl h0 he
    rcases Nat.eq_zero_or_pos l with rfl | hp
    · refine aw_lload D_mo_step_63 rfl ?_
      refine aw_lconst (lN 0) D_mo_step_65 rfl ?_
      refine aw_lcmp D_mo_step_66 ?_
      refine aw_if_le D_mo_step_67 (fun h => ?_) (fun h => absurd ((lg_cmp_le _ _).mpr ((pk_lLE (by omega) (by omega)).mpr (Nat.le_refl 0))) h)
      exact last 0 t ht (by decide) he
    · have hbt : be t = 0 := h0.resolve_left (by omega)
      have hr := hV.1 t ht
      have hR := hV.R_le
      have h1 := hV.sz_pos ht
      have h2 := hV.sz_le hf hr
      dsimp only at hr h1 h2
      have hml := Nat.mod_lt l (show 0 < sz ((o t).getD 0) by omega)
      refine aw_lload D_mo_step_63 rfl ?_
      refine aw_lconst (lN 0) D_mo_step_65 rfl ?_
      refine aw_lcmp D_mo_step_66 ?_
      refine aw_if_le D_mo_step_67 (fun h => absurd ((pk_lLE (by omega) (by omega)).mp ((lg_cmp_le _ _).mp h)) (by omega)) (fun h => ?_)
      refine aw_lload D_mo_step_70 rfl ?_
      refine aw_aload_n 0 D_mo_step_72 rfl rfl ?_
      refine aw_get D_mo_step_73 rfl rfl ?_
      refine aw_aload_n 0 D_mo_step_76 rfl rfl ?_
      refine aw_get D_mo_step_77 rfl rfl ?_
      refine aw_iload D_mo_step_80 rfl ?_
      refine aw_ialdN D_mo_step_82 rfl (by omega) (by omega) ?_
      rw [show oF (-nI 9) o t = nI ((o t).getD 0) from oI_get (hF.1 t ht)]
      refine aw_ialdN D_mo_step_83 rfl (by omega) (by omega) ?_
      first | with_reducible refine aw_i2lN D_mo_step_84 (by omega) ?_ | refine aw_i2l D_mo_step_84 ?_
      first | with_reducible refine aw_lremN D_mo_step_85 (by omega) (by omega) (by omega) ?_ | refine aw_lrem D_mo_step_85 (by decide) ?_
      refine aw_lstore D_mo_step_86 (Nat.le_of_ble_eq_true rfl) rfl ?_
      refine last _ t ht (by omega) ?_
      rw [← he]
      have := hV.steps hf ht (k := l) (by omega)
      rw [hbt, Nat.zero_add, Nat.sub_zero] at this
      exact this
  have first : ∀ (e l t : Nat), be t = e → t < 2 ^ n → l < 2 ^ 63 → itr (nx n b) l t = itr (nx n b) k s → AW M_mo_step noP (Zp ZZ) 0 0 29 [(0, .ref 6), (1, .int (nI s)), (2, .long (lN k)), (4, .int (nI t)), (5, .long (lN l))] [] [a0, a1, a2, a3, a4, a5, MO fl tc n 1 R b le sz o be pc wt qu lm sl ce tb mt ru bf kp, a7] 0 0 := by
    intro e
    induction e with
    | zero =>
      intro l t hbt ht hl he
      refine aw_lload D_mo_step_29 rfl ?_
      refine aw_lconst (lN 0) D_mo_step_31 rfl ?_
      refine aw_lcmp D_mo_step_32 ?_
      refine aw_if_le D_mo_step_33 (fun h => mid l t ht hl (Or.inr hbt) he) (fun h => ?_)
      refine aw_aload_n 0 D_mo_step_36 rfl rfl ?_
      refine aw_get D_mo_step_37 rfl rfl ?_
      refine aw_iload D_mo_step_40 rfl ?_
      refine aw_ialdN D_mo_step_42 rfl (by omega) (by omega) ?_
      refine aw_if_leN D_mo_step_43 (by omega) (fun h => mid l t ht hl (Or.inr hbt) he) (fun h => absurd h (by omega))
    | succ e ih =>
      intro l t hbt ht hl he
      have hbl := hV.be_le hf ht
      have hst := (hV.2.2.1 t ht (by omega)).1
      refine aw_lload D_mo_step_29 rfl ?_
      refine aw_lconst (lN 0) D_mo_step_31 rfl ?_
      refine aw_lcmp D_mo_step_32 ?_
      refine aw_if_le D_mo_step_33 (fun h => ?_) (fun h => ?_)
      · have := (pk_lLE (by omega) (by omega)).mp ((lg_cmp_le _ _).mp h)
        exact mid l t ht hl (Or.inl (by omega)) he
      · have hlp : 0 < l := by
          rcases Nat.eq_zero_or_pos l with rfl | q
          · exact absurd ((lg_cmp_le _ _).mpr ((pk_lLE (by omega) (by omega)).mpr (Nat.le_refl 0))) h
          · exact q
        refine aw_aload_n 0 D_mo_step_36 rfl rfl ?_
        refine aw_get D_mo_step_37 rfl rfl ?_
        refine aw_iload D_mo_step_40 rfl ?_
        refine aw_ialdN D_mo_step_42 rfl (by omega) (by omega) ?_
        refine aw_if_leN D_mo_step_43 (by omega) (fun h => absurd h (by omega)) (fun h => ?_)
        refine aw_aload_n 0 D_mo_step_46 rfl rfl ?_
        refine aw_iload D_mo_step_47 rfl ?_
        refine aw_callV1 (As := [_]) D_mo_step_49 kv_mo_next (c_mo_next (by omega) hn9 ht) rfl rfl rfl rfl rfl (Nat.le_of_ble_eq_true rfl) (Nat.zero_le _) (Nat.zero_le _) ?_
        refine aw_istore D_mo_step_52 (Nat.le_of_ble_eq_true rfl) rfl ?_
        refine aw_lload D_mo_step_54 rfl ?_
        refine aw_lconst (lN 1) D_mo_step_56 rfl ?_
        first | with_reducible refine aw_lsubN D_mo_step_57 (by omega) ?_ | refine aw_lsub D_mo_step_57 ?_
        refine aw_lstore D_mo_step_58 (Nat.le_of_ble_eq_true rfl) rfl ?_
        refine aw_goto D_mo_step_60 ?_
        refine ih (l - 1) (nx n b t) (by omega) (hf t ht) (by omega) ?_
        rw [← he]
        conv => rhs; rw [show l = (l - 1) + 1 by omega]
        rfl
  refine aw_iload_n 1 D_mo_step_23 rfl rfl ?_
  refine aw_istore D_mo_step_24 (Nat.le_of_ble_eq_true rfl) rfl ?_
  refine aw_lload_n 2 D_mo_step_26 rfl rfl ?_
  refine aw_lstore D_mo_step_27 (Nat.le_of_ble_eq_true rfl) rfl ?_
  exact first (be s) k s rfl hs hk rfl
theorem c_mo_stepU {x : Int32} {v : Int64} (hx : ¬ vp_in x (2 ^ n)) (h : MS n b tc fl la zs cs m) : AMet M_mo_step [.ref 6, .int x, .long v] [a0, a1, a2, a3, a4, a5, m, a7] (fun (r' : Option Value) (w' : Wd) => r' = some (.int (-nI 1)) ∧ ∃ m', w' = [a0, a1, a2, a3, a4, a5, m', a7] ∧ MS n b tc fl la zs cs m') 0 0 := by
  obtain ⟨fd, R, le, sz, o, be, pc, wt, qu, lm, sl, ce, tb, mt, ru, bf, kp, rfl, hn, hn9, hb, hfd, hL, hT⟩ := h
  refine AMet.of [(0, .ref 6), (1, .int x), (2, .long v)] (by decide +kernel) rfl (Nat.le_of_ble_eq_true rfl) ?_
  refine aw_aload_n 0 D_mo_step_0 rfl rfl ?_
  refine aw_iload_n 1 D_mo_step_1 rfl rfl ?_
  refine aw_callV1 (As := [_]) D_mo_step_2 kv_mo_isState (c_mo_isStateF hn9 hx) rfl rfl rfl rfl rfl (Nat.le_of_ble_eq_true rfl) (Nat.zero_le _) (Nat.zero_le _) ?_
  refine aw_if_neN D_mo_step_5 (by decide) (fun h => absurd h (by decide)) (fun h => ?_)
  refine aw_iconst (-nI 1) D_mo_step_8 rfl ?_
  refine aw_ireturn D_mo_step_9 rfl rfl ?_
  exact ⟨rfl, _, rfl, fd, R, le, sz, o, be, pc, wt, qu, lm, sl, ce, tb, mt, ru, bf, kp, rfl, hn, hn9, hb, hfd, hL, hT⟩
theorem c_mo_stepO {s : Nat} {v : Int64} (hs : s < 2 ^ n) (hv : v < 0) (h : MS n b tc fl la zs cs m) : AMet M_mo_step [.ref 6, .int (nI s), .long v] [a0, a1, a2, a3, a4, a5, m, a7] (fun (r' : Option Value) (w' : Wd) => r' = some (.int (-nI 2)) ∧ ∃ m', w' = [a0, a1, a2, a3, a4, a5, m', a7] ∧ MS n b tc fl la zs cs m') 0 0 := by
  obtain ⟨fd, R, le, sz, o, be, pc, wt, qu, lm, sl, ce, tb, mt, ru, bf, kp, rfl, hn, hn9, hb, hfd, hL, hT⟩ := h
  refine AMet.of [(0, .ref 6), (1, .int (nI s)), (2, .long v)] (by decide +kernel) rfl (Nat.le_of_ble_eq_true rfl) ?_
  refine aw_aload_n 0 D_mo_step_0 rfl rfl ?_
  refine aw_iload_n 1 D_mo_step_1 rfl rfl ?_
  refine aw_callV1 (As := [_]) D_mo_step_2 kv_mo_isState (c_mo_isStateT hn9 hs) rfl rfl rfl rfl rfl (Nat.le_of_ble_eq_true rfl) (Nat.zero_le _) (Nat.zero_le _) ?_
  refine aw_if_neN D_mo_step_5 (by decide) (fun h => ?_) (fun h => absurd h (by decide))
  refine aw_lload_n 2 D_mo_step_10 rfl rfl ?_
  refine aw_lconst (lN 0) D_mo_step_11 rfl ?_
  refine aw_lcmp D_mo_step_12 ?_
  refine aw_if_ge D_mo_step_13 (fun h => ?_) (fun h => ?_)
  · rw [lg_cmp_ge] at h
    exact absurd hv (Int64.not_lt.mpr h)
  · refine aw_bipush (-nI 2) D_mo_step_16 rfl ?_
    refine aw_ireturn D_mo_step_18 rfl rfl ?_
    exact ⟨rfl, _, rfl, fd, R, le, sz, o, be, pc, wt, qu, lm, sl, ce, tb, mt, ru, bf, kp, rfl, hn, hn9, hb, hfd, hL, hT⟩
end Mo2
