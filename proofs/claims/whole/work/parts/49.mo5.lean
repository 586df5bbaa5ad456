/-! ### the reference: sheets -/
theorem nI_ne_9 {l : Nat} (h : l < 3) : nI l ≠ -nI 9 := by
  rcases (show l = 0 ∨ l = 1 ∨ l = 2 by omega) with rfl | rfl | rfl <;> decide
section Lanes
variable {la lm : Nat → Int32} {zs sl : Nat → Nat} {cs : Nat → Nat → Int64} {ce ce' g : Nat → Int64} {k l m : Nat}
theorem LN.none (hL : LN la zs cs lm sl ce) (hk : k < 4) (h : la k = -nI 1) : lm k = -nI 9 := by
  rcases hL.1 k hk with q | ⟨l, h1, h2, _⟩
  · exact q.2
  · exact absurd (h2.symm.trans h) (nI_ne_neg h1)
theorem LN.some (hL : LN la zs cs lm sl ce) (hk : k < 4) (h : la k ≠ -nI 1) : ∃ l, l < 3 ∧ la k = nI l ∧ lm k = nI l ∧ sl k = zs k ∧ ∀ i, i < zs k → ce (600 * k + i) = cs k i := by
  rcases hL.1 k hk with q | q
  · exact absurd q.1 h
  · exact q
theorem LN.ne (hL : LN la zs cs lm sl ce) (hk : k < 4) (h : la k ≠ -nI 1) : lm k ≠ -nI 9 := by
  obtain ⟨l, h1, h2, h3, _⟩ := hL.some hk h
  rw [h3]
  exact nI_ne_9 h1
theorem LN.upd (hL : LN la zs cs lm sl ce) (hl : l < 3) (hm : m ≤ 600) (h1 : ∀ i, i < m → ce' (600 * k + i) = g i) (h2 : ∀ q i, q < 4 → q ≠ k → i < 600 → ce' (600 * q + i) = ce (600 * q + i)) : LN (va_up la k (nI l)) (va_up zs k m) (va_up cs k g) (va_up lm k (nI l)) (va_up sl k m) ce' := by
  refine ⟨fun q hq => ?_, up_le hL.2 hm⟩
  by_cases e : q = k
  · subst e
    right
    exact ⟨l, hl, up_self _ _ _, up_self _ _ _, by rw [up_self, up_self], fun i hi => by rw [up_self] at hi ⊢; exact h1 i hi⟩
  · rw [up_ne _ _ e, up_ne _ _ e, up_ne _ _ e, up_ne _ _ e, up_ne _ _ e]
    rcases hL.1 q hq with z | ⟨l, z1, z2, z3, z4, z5⟩
    · exact Or.inl z
    · have := hL.2 q
      exact Or.inr ⟨l, z1, z2, z3, z4, fun i hi => (h2 q i hq e (by omega)).trans (z5 i hi)⟩
theorem LN.cell (hL : LN la zs cs lm sl ce) (h1 : ∀ i, i < zs k → ce' (600 * k + i) = g i) (h2 : ∀ q i, q < 4 → q ≠ k → i < 600 → ce' (600 * q + i) = ce (600 * q + i)) : LN la zs (va_up cs k g) lm sl ce' := by
  refine ⟨fun q hq => ?_, hL.2⟩
  rcases hL.1 q hq with z | ⟨l, z1, z2, z3, z4, z5⟩
  · exact Or.inl z
  · refine Or.inr ⟨l, z1, z2, z3, z4, fun i hi => ?_⟩
    by_cases e : q = k
    · subst e
      rw [up_self]
      exact h1 i hi
    · rw [up_ne _ _ e]
      have := hL.2 q
      exact (h2 q i hq e (by omega)).trans (z5 i hi)
theorem LN.lose (hL : LN la zs cs lm sl ce) : LN (va_up la k (-nI 1)) (va_up zs k 0) cs (va_up lm k (-nI 9)) sl ce := by
  refine ⟨fun q hq => ?_, up_le hL.2 (by omega)⟩
  by_cases e : q = k
  · subst e
    exact Or.inl ⟨up_self _ _ _, up_self _ _ _⟩
  · rw [up_ne _ _ e, up_ne _ _ e, up_ne _ _ e]
    exact hL.1 q hq
end Lanes
section Mo5
variable {a0 a1 a2 a3 a4 a5 a7 m : List va_E} {fl tc : Int32} {n : Nat} {b : Nat → Nat} {la : Nat → Int32} {zs : Nat → Nat} {cs : Nat → Nat → Int64}
theorem c_mo_sheetU {x y z : Int32} (hx : ¬ vp_in x 4) (h : MS n b tc fl la zs cs m) : AMet M_mo_sheet [.ref 6, .int x, .int y, .int z] [a0, a1, a2, a3, a4, a5, m, a7] (fun (r' : Option Value) (w' : Wd) => r' = some (.int (-nI 1)) ∧ ∃ m', w' = [a0, a1, a2, a3, a4, a5, m', a7] ∧ MS n b tc (nI 0) la zs cs m') 0 0 := by
  obtain ⟨fd, R, le, sz, o, be, pc, wt, qu, lm, sl, ce, tb, mt, ru, bf, kp, rfl, hn, hn9, hb, hfd, hL, hT⟩ := h
  have hp9 := pow_le9 hn9
  refine AMet.of [(0, .ref 6), (1, .int x), (2, .int y), (3, .int z)] (by decide +kernel) rfl (Nat.le_of_ble_eq_true rfl) ?_
  refine aw_aload_n 0 D_mo_sheet_0 rfl rfl ?_
  refine aw_iconst (nI 0) D_mo_sheet_1 rfl ?_
  refine aw_put tc_mo D_mo_sheet_2 rfl (Nat.le_of_ble_eq_true rfl) rfl rfl ?_
  refine aw_iload_n 1 D_mo_sheet_5 rfl rfl ?_
  refine aw_callS1 (As := [_]) D_mo_sheet_6 kv_mo_isSheet (c_mo_isSheetF hx) rfl rfl (Nat.le_of_ble_eq_true rfl) (Nat.zero_le _) (Nat.zero_le _) ?_
  refine aw_if_neN D_mo_sheet_9 (by decide) (fun h => absurd h (by decide)) (fun h => ?_)
  refine aw_iconst (-nI 1) D_mo_sheet_12 rfl ?_
  refine aw_ireturn D_mo_sheet_13 rfl rfl ?_
  exact ⟨rfl, _, rfl, fd, R, le, sz, o, be, pc, wt, qu, lm, sl, ce, tb, mt, ru, bf, kp, rfl, hn, hn9, hb, hfd, hL, hT⟩
theorem c_mo_sheetO {k : Nat} {y z : Int32} (hk : k < 4) (hy : ¬ vp_in y 3 ∨ nI 600 < z) (h : MS n b tc fl la zs cs m) : AMet M_mo_sheet [.ref 6, .int (nI k), .int y, .int z] [a0, a1, a2, a3, a4, a5, m, a7] (fun (r' : Option Value) (w' : Wd) => r' = some (.int (-nI 2)) ∧ ∃ m', w' = [a0, a1, a2, a3, a4, a5, m', a7] ∧ MS n b tc (nI 0) la zs cs m') 0 0 := by
  obtain ⟨fd, R, le, sz, o, be, pc, wt, qu, lm, sl, ce, tb, mt, ru, bf, kp, rfl, hn, hn9, hb, hfd, hL, hT⟩ := h
  have hp9 := pow_le9 hn9
  refine AMet.of [(0, .ref 6), (1, .int (nI k)), (2, .int y), (3, .int z)] (by decide +kernel) rfl (Nat.le_of_ble_eq_true rfl) ?_
  refine aw_aload_n 0 D_mo_sheet_0 rfl rfl ?_
  refine aw_iconst (nI 0) D_mo_sheet_1 rfl ?_
  refine aw_put tc_mo D_mo_sheet_2 rfl (Nat.le_of_ble_eq_true rfl) rfl rfl ?_
  refine aw_iload_n 1 D_mo_sheet_5 rfl rfl ?_
  refine aw_callS1 (As := [_]) D_mo_sheet_6 kv_mo_isSheet (c_mo_isSheetT hk) rfl rfl (Nat.le_of_ble_eq_true rfl) (Nat.zero_le _) (Nat.zero_le _) ?_
  refine aw_if_neN D_mo_sheet_9 (by decide) (fun h => ?_) (fun h => absurd h (by decide))
  by_cases hv : vp_in y 3
  · have hz := hy.resolve_left (fun q => q hv)
    obtain ⟨j, hj, rfl⟩ := vp_in_of hv (by decide)
    refine aw_iload_n 2 D_mo_sheet_14 rfl rfl ?_
    first | with_reducible refine aw_i2lN D_mo_sheet_15 (by omega) ?_ | refine aw_i2l D_mo_sheet_15 ?_
    refine aw_lconst (lN 0) D_mo_sheet_16 rfl ?_
    refine aw_ldc2 D_mo_sheet_17 ?_
    refine aw_callS1 (As := [_, _, _]) D_mo_sheet_20 kv_mo_within (c_mo_withinT (Nat.zero_le j) (show j ≤ 2 by omega) (by decide)) rfl rfl (Nat.le_of_ble_eq_true rfl) (Nat.zero_le _) (Nat.zero_le _) ?_
    refine aw_if_eqN D_mo_sheet_23 (by decide) (fun h => absurd h (by decide)) (fun h => ?_)
    refine aw_iload_n 3 D_mo_sheet_26 rfl rfl ?_
    refine aw_sipush (nI 600) D_mo_sheet_27 rfl ?_
    refine aw_icmp_le D_mo_sheet_30 (fun h => absurd hz (Int32.not_lt.mpr h)) (fun h => ?_)
    refine aw_bipush (-nI 2) D_mo_sheet_33 rfl ?_
    refine aw_ireturn D_mo_sheet_35 rfl rfl ?_
    exact ⟨rfl, _, rfl, fd, R, le, sz, o, be, pc, wt, qu, lm, sl, ce, tb, mt, ru, bf, kp, rfl, hn, hn9, hb, hfd, hL, hT⟩
  · refine aw_iload_n 2 D_mo_sheet_14 rfl rfl ?_
    first | with_reducible refine aw_i2lN D_mo_sheet_15 (by omega) ?_ | refine aw_i2l D_mo_sheet_15 ?_
    refine aw_lconst (lN 0) D_mo_sheet_16 rfl ?_
    refine aw_ldc2 D_mo_sheet_17 ?_
    refine aw_callS1 (As := [_, _, _]) D_mo_sheet_20 kv_mo_within (c_mo_withinF (vp_F (N := 2) (by decide) hv) (by decide) (by decide)) rfl rfl (Nat.le_of_ble_eq_true rfl) (Nat.zero_le _) (Nat.zero_le _) ?_
    refine aw_if_eqN D_mo_sheet_23 (by decide) (fun h => ?_) (fun h => absurd h (by decide))
    refine aw_bipush (-nI 2) D_mo_sheet_33 rfl ?_
    refine aw_ireturn D_mo_sheet_35 rfl rfl ?_
    exact ⟨rfl, _, rfl, fd, R, le, sz, o, be, pc, wt, qu, lm, sl, ce, tb, mt, ru, bf, kp, rfl, hn, hn9, hb, hfd, hL, hT⟩
theorem c_mo_sheetZ {k l : Nat} {z : Int32} (hk : k < 4) (hl : l < 3) (hz0 : z < 0) (h : MS n b tc fl la zs cs m) : AMet M_mo_sheet [.ref 6, .int (nI k), .int (nI l), .int z] [a0, a1, a2, a3, a4, a5, m, a7] (fun (r' : Option Value) (w' : Wd) => r' = some (.int (-nI 10 - nI 4)) ∧ ∃ m', w' = [a0, a1, a2, a3, a4, a5, m', a7] ∧ MS n b tc (nI 4) la zs cs m') 0 0 := by
  obtain ⟨fd, R, le, sz, o, be, pc, wt, qu, lm, sl, ce, tb, mt, ru, bf, kp, rfl, hn, hn9, hb, hfd, hL, hT⟩ := h
  have hp9 := pow_le9 hn9
  refine AMet.of [(0, .ref 6), (1, .int (nI k)), (2, .int (nI l)), (3, .int z)] (by decide +kernel) rfl (Nat.le_of_ble_eq_true rfl) ?_
  refine aw_aload_n 0 D_mo_sheet_0 rfl rfl ?_
  refine aw_iconst (nI 0) D_mo_sheet_1 rfl ?_
  refine aw_put tc_mo D_mo_sheet_2 rfl (Nat.le_of_ble_eq_true rfl) rfl rfl ?_
  refine aw_iload_n 1 D_mo_sheet_5 rfl rfl ?_
  refine aw_callS1 (As := [_]) D_mo_sheet_6 kv_mo_isSheet (c_mo_isSheetT hk) rfl rfl (Nat.le_of_ble_eq_true rfl) (Nat.zero_le _) (Nat.zero_le _) ?_
  refine aw_if_neN D_mo_sheet_9 (by decide) (fun h => ?_) (fun h => absurd h (by decide))
  have hz6 : z ≤ nI 600 := by
    rw [fa_le]
    rw [fa_lt] at hz0
    rw [show (nI 600 : Int32).toInt = 600 by decide]
    have : (0 : Int32).toInt = 0 := by decide
    omega
  refine aw_iload_n 2 D_mo_sheet_14 rfl rfl ?_
  first | with_reducible refine aw_i2lN D_mo_sheet_15 (by omega) ?_ | refine aw_i2l D_mo_sheet_15 ?_
  refine aw_lconst (lN 0) D_mo_sheet_16 rfl ?_
  refine aw_ldc2 D_mo_sheet_17 ?_
  refine aw_callS1 (As := [_, _, _]) D_mo_sheet_20 kv_mo_within (c_mo_withinT (Nat.zero_le l) (show l ≤ 2 by omega) (by decide)) rfl rfl (Nat.le_of_ble_eq_true rfl) (Nat.zero_le _) (Nat.zero_le _) ?_
  refine aw_if_eqN D_mo_sheet_23 (by decide) (fun h => absurd h (by decide)) (fun h => ?_)
  refine aw_iload_n 3 D_mo_sheet_26 rfl rfl ?_
  refine aw_sipush (nI 600) D_mo_sheet_27 rfl ?_
  refine aw_icmp_le D_mo_sheet_30 (fun h => ?_) (fun h => absurd hz6 h)
  refine aw_iload_n 3 D_mo_sheet_36 rfl rfl ?_
  refine aw_if_ge D_mo_sheet_37 (fun h => absurd hz0 (Int32.not_lt.mpr h)) (fun h => ?_)
  refine aw_aload_n 0 D_mo_sheet_40 rfl rfl ?_
  refine aw_iconst (nI 4) D_mo_sheet_41 rfl ?_
  refine aw_callV1 (As := [_]) D_mo_sheet_42 kv_mo_fails (c_mo_fails) rfl rfl rfl rfl rfl (Nat.le_of_ble_eq_true rfl) (Nat.zero_le _) (Nat.zero_le _) ?_
  refine aw_ireturn D_mo_sheet_45 rfl rfl ?_
  exact ⟨rfl, _, rfl, fd, R, le, sz, o, be, pc, wt, qu, lm, sl, ce, tb, mt, ru, bf, kp, rfl, hn, hn9, hb, hfd, hL, hT⟩
theorem c_mo_sheetT {k l p : Nat} (hk : k < 4) (hl : l < 3) (hp : p ≤ 600) (h : MS n b tc fl la zs cs m) : AMet M_mo_sheet [.ref 6, .int (nI k), .int (nI l), .int (nI p)] [a0, a1, a2, a3, a4, a5, m, a7] (fun (r' : Option Value) (w' : Wd) => r' = some (.int (nI 1)) ∧ ∃ m', w' = [a0, a1, a2, a3, a4, a5, m', a7] ∧ MS n b tc (nI 0) (va_up la k (nI l)) (va_up zs k p) (va_up cs k (fun _ => 0)) m') 0 0 := by
  obtain ⟨fd, R, le, sz, o, be, pc, wt, qu, lm, sl, ce, tb, mt, ru, bf, kp, rfl, hn, hn9, hb, hfd, hL, hT⟩ := h
  have hp9 := pow_le9 hn9
  refine AMet.of [(0, .ref 6), (1, .int (nI k)), (2, .int (nI l)), (3, .int (nI p))] (by decide +kernel) rfl (Nat.le_of_ble_eq_true rfl) ?_
  generalize hZ : (fun (r' : Option Value) (w' : Wd) => r' = some (.int (nI 1)) ∧ ∃ m', w' = [a0, a1, a2, a3, a4, a5, m', a7] ∧ MS n b tc (nI 0) (va_up la k (nI l)) (va_up zs k p) (va_up cs k (fun _ => 0)) m') = ZZ
  refine aw_aload_n 0 D_mo_sheet_0 rfl rfl ?_
  refine aw_iconst (nI 0) D_mo_sheet_1 rfl ?_
  refine aw_put tc_mo D_mo_sheet_2 rfl (Nat.le_of_ble_eq_true rfl) rfl rfl ?_
  refine aw_iload_n 1 D_mo_sheet_5 rfl rfl ?_
  refine aw_callS1 (As := [_]) D_mo_sheet_6 kv_mo_isSheet (c_mo_isSheetT hk) rfl rfl (Nat.le_of_ble_eq_true rfl) (Nat.zero_le _) (Nat.zero_le _) ?_
  refine aw_if_neN D_mo_sheet_9 (by decide) (fun h => ?_) (fun h => absurd h (by decide))
  refine aw_iload_n 2 D_mo_sheet_14 rfl rfl ?_
  first | with_reducible refine aw_i2lN D_mo_sheet_15 (by omega) ?_ | refine aw_i2l D_mo_sheet_15 ?_
  refine aw_lconst (lN 0) D_mo_sheet_16 rfl ?_
  refine aw_ldc2 D_mo_sheet_17 ?_
  refine aw_callS1 (As := [_, _, _]) D_mo_sheet_20 kv_mo_within (c_mo_withinT (Nat.zero_le l) (show l ≤ 2 by omega) (by decide)) rfl rfl (Nat.le_of_ble_eq_true rfl) (Nat.zero_le _) (Nat.zero_le _) ?_
  refine aw_if_eqN D_mo_sheet_23 (by decide) (fun h => absurd h (by decide)) (fun h => ?_)
  refine aw_iload_n 3 D_mo_sheet_26 rfl rfl ?_
  refine aw_sipush (nI 600) D_mo_sheet_27 rfl ?_
  refine aw_icmp_leN D_mo_sheet_30 (by omega) (by decide) (fun h => ?_) (fun h => absurd h (by omega))
  refine aw_iload_n 3 D_mo_sheet_36 rfl rfl ?_
  refine aw_if_geN D_mo_sheet_37 (by omega) ?_
  have key : ∀ (d i : Nat), i + d = 600 → AW M_mo_sheet noP (Zp ZZ) 0 0 63 [(0, .ref 6), (1, .int (nI k)), (2, .int (nI l)), (3, .int (nI p)), (4, .int (nI i))] [] [a0, a1, a2, a3, a4, a5, MO (nI 0) tc n fd R b le sz o be pc wt qu (va_up lm k (nI l)) (va_up sl k p) (fb_put ce (fun _ => lN 0) (600 * k) i) tb mt ru bf kp, a7] 0 0 := by
    intro d
    induction d with
    | zero =>
      intro i hi
      have hi : i = 600 := by omega
      subst hi
      have hL2 : LN (va_up la k (nI l)) (va_up zs k p) (va_up cs k (fun _ => 0)) (va_up lm k (nI l)) (va_up sl k p) (fb_put ce (fun _ => lN 0) (600 * k) 600) := by
        refine hL.upd hl hp (fun i hi => ?_) (fun q i hq hne hi => ?_)
        · rw [fb_put_in (by omega) (by omega)]; rfl
        · rw [fb_put_out (by omega)]
      refine aw_iload D_mo_sheet_63 rfl ?_
      refine aw_sipush (nI 600) D_mo_sheet_65 rfl ?_
      refine aw_icmp_geN D_mo_sheet_68 (by decide) (by decide) (fun h => ?_) (fun h => absurd h (by decide))
      refine aw_iconst (nI 1) D_mo_sheet_91 rfl ?_
      refine aw_ireturn D_mo_sheet_92 rfl rfl ?_
      subst hZ; exact ⟨rfl, _, rfl, fd, R, le, sz, o, be, pc, wt, qu, _, _, _, tb, mt, ru, bf, kp, rfl, hn, hn9, hb, hfd, hL2, hT⟩
    | succ d ih =>
      intro i hi
      refine aw_iload D_mo_sheet_63 rfl ?_
      refine aw_sipush (nI 600) D_mo_sheet_65 rfl ?_
      refine aw_icmp_geN D_mo_sheet_68 (by omega) (by decide) (fun h => absurd h (by omega)) (fun h => ?_)
      refine aw_aload_n 0 D_mo_sheet_71 rfl rfl ?_
      refine aw_get D_mo_sheet_72 rfl rfl ?_
      refine aw_sipush (nI 600) D_mo_sheet_75 rfl ?_
      refine aw_iload_n 1 D_mo_sheet_78 rfl rfl ?_
      first | with_reducible refine aw_imulN D_mo_sheet_79 ?_ | refine aw_imul D_mo_sheet_79 ?_
      refine aw_iload D_mo_sheet_80 rfl ?_
      first | with_reducible refine aw_iaddN D_mo_sheet_82 ?_ | refine aw_iadd D_mo_sheet_82 ?_
      refine aw_lconst (lN 0) D_mo_sheet_83 rfl ?_
      refine aw_lastJ D_mo_sheet_84 rfl (by omega) (by omega) ?_
      first | refine aw_incN D_mo_sheet_85 rfl (Nat.le_of_ble_eq_true rfl) rfl ?_ | refine aw_inc D_mo_sheet_85 rfl (Nat.le_of_ble_eq_true rfl) rfl ?_
      refine aw_goto D_mo_sheet_88 ?_
      rw [updL_va, put_up ce (fun _ => lN 0)]
      exact ih (i + 1) (by omega)
  refine aw_aload_n 0 D_mo_sheet_46 rfl rfl ?_
  refine aw_get D_mo_sheet_47 rfl rfl ?_
  refine aw_iload_n 1 D_mo_sheet_50 rfl rfl ?_
  refine aw_iload_n 2 D_mo_sheet_51 rfl rfl ?_
  refine aw_iastJ D_mo_sheet_52 rfl (by omega) (by omega) ?_
  refine aw_aload_n 0 D_mo_sheet_53 rfl rfl ?_
  refine aw_get D_mo_sheet_54 rfl rfl ?_
  refine aw_iload_n 1 D_mo_sheet_57 rfl rfl ?_
  refine aw_iload_n 3 D_mo_sheet_58 rfl rfl ?_
  refine aw_iastN D_mo_sheet_59 rfl (by omega) (by omega) ?_
  refine aw_iconst (nI 0) D_mo_sheet_60 rfl ?_
  refine aw_istore D_mo_sheet_61 (Nat.le_of_ble_eq_true rfl) rfl ?_
  have := key 600 0 (by omega)
  rw [fb_put_0] at this
  exact this
theorem c_mo_loseU {x : Int32} (hx : ¬ vp_in x 4) (h : MS n b tc fl la zs cs m) : AMet M_mo_lose [.ref 6, .int x] [a0, a1, a2, a3, a4, a5, m, a7] (fun (r' : Option Value) (w' : Wd) => r' = some (.int (-nI 1)) ∧ ∃ m', w' = [a0, a1, a2, a3, a4, a5, m', a7] ∧ MS n b tc fl la zs cs m') 0 0 := by
  obtain ⟨fd, R, le, sz, o, be, pc, wt, qu, lm, sl, ce, tb, mt, ru, bf, kp, rfl, hn, hn9, hb, hfd, hL, hT⟩ := h
  have hp9 := pow_le9 hn9
  refine AMet.of [(0, .ref 6), (1, .int x)] (by decide +kernel) rfl (Nat.le_of_ble_eq_true rfl) ?_
  refine aw_iload_n 1 D_mo_lose_0 rfl rfl ?_
  refine aw_callS1 (As := [_]) D_mo_lose_1 kv_mo_isSheet (c_mo_isSheetF hx) rfl rfl (Nat.le_of_ble_eq_true rfl) (Nat.zero_le _) (Nat.zero_le _) ?_
  refine aw_if_neN D_mo_lose_4 (by decide) (fun h => absurd h (by decide)) (fun h => ?_)
  refine aw_iconst (-nI 1) D_mo_lose_7 rfl ?_
  refine aw_ireturn D_mo_lose_8 rfl rfl ?_
  exact ⟨rfl, _, rfl, fd, R, le, sz, o, be, pc, wt, qu, lm, sl, ce, tb, mt, ru, bf, kp, rfl, hn, hn9, hb, hfd, hL, hT⟩
theorem c_mo_loseN {k : Nat} (hk : k < 4) (hno : la k = -nI 1) (h : MS n b tc fl la zs cs m) : AMet M_mo_lose [.ref 6, .int (nI k)] [a0, a1, a2, a3, a4, a5, m, a7] (fun (r' : Option Value) (w' : Wd) => r' = some (.int (nI 0)) ∧ ∃ m', w' = [a0, a1, a2, a3, a4, a5, m', a7] ∧ MS n b tc fl (va_up la k (-nI 1)) (va_up zs k 0) cs m') 0 0 := by
  obtain ⟨fd, R, le, sz, o, be, pc, wt, qu, lm, sl, ce, tb, mt, ru, bf, kp, rfl, hn, hn9, hb, hfd, hL, hT⟩ := h
  have hp9 := pow_le9 hn9
  refine AMet.of [(0, .ref 6), (1, .int (nI k))] (by decide +kernel) rfl (Nat.le_of_ble_eq_true rfl) ?_
  refine aw_iload_n 1 D_mo_lose_0 rfl rfl ?_
  refine aw_callS1 (As := [_]) D_mo_lose_1 kv_mo_isSheet (c_mo_isSheetT hk) rfl rfl (Nat.le_of_ble_eq_true rfl) (Nat.zero_le _) (Nat.zero_le _) ?_
  refine aw_if_neN D_mo_lose_4 (by decide) (fun h => ?_) (fun h => absurd h (by decide))
  refine aw_aload_n 0 D_mo_lose_9 rfl rfl ?_
  refine aw_get D_mo_lose_10 rfl rfl ?_
  refine aw_iload_n 1 D_mo_lose_13 rfl rfl ?_
  refine aw_ialdN D_mo_lose_14 rfl (by omega) (by omega) ?_
  refine aw_bipush (-nI 9) D_mo_lose_15 rfl ?_
  refine aw_icmp_ne D_mo_lose_17 (fun h => absurd (hL.none hk hno) h) (fun h => ?_)
  refine aw_iconst (nI 0) D_mo_lose_20 rfl ?_
  refine aw_goto D_mo_lose_21 ?_
  refine aw_istore_n 2 D_mo_lose_25 rfl (Nat.le_of_ble_eq_true rfl) rfl ?_
  refine aw_aload_n 0 D_mo_lose_26 rfl rfl ?_
  refine aw_get D_mo_lose_27 rfl rfl ?_
  refine aw_iload_n 1 D_mo_lose_30 rfl rfl ?_
  refine aw_bipush (-nI 9) D_mo_lose_31 rfl ?_
  refine aw_iastJ D_mo_lose_33 rfl (by omega) (by omega) ?_
  refine aw_iload_n 2 D_mo_lose_34 rfl rfl ?_
  refine aw_ireturn D_mo_lose_35 rfl rfl ?_
  exact ⟨rfl, _, rfl, fd, R, le, sz, o, be, pc, wt, qu, _, sl, ce, tb, mt, ru, bf, kp, rfl, hn, hn9, hb, hfd, hL.lose, hT⟩
theorem c_mo_loseT {k : Nat} (hk : k < 4) (hne : la k ≠ -nI 1) (h : MS n b tc fl la zs cs m) : AMet M_mo_lose [.ref 6, .int (nI k)] [a0, a1, a2, a3, a4, a5, m, a7] (fun (r' : Option Value) (w' : Wd) => r' = some (.int (nI 1)) ∧ ∃ m', w' = [a0, a1, a2, a3, a4, a5, m', a7] ∧ MS n b tc fl (va_up la k (-nI 1)) (va_up zs k 0) cs m') 0 0 := by
  obtain ⟨fd, R, le, sz, o, be, pc, wt, qu, lm, sl, ce, tb, mt, ru, bf, kp, rfl, hn, hn9, hb, hfd, hL, hT⟩ := h
  have hp9 := pow_le9 hn9
  refine AMet.of [(0, .ref 6), (1, .int (nI k))] (by decide +kernel) rfl (Nat.le_of_ble_eq_true rfl) ?_
  refine aw_iload_n 1 D_mo_lose_0 rfl rfl ?_
  refine aw_callS1 (As := [_]) D_mo_lose_1 kv_mo_isSheet (c_mo_isSheetT hk) rfl rfl (Nat.le_of_ble_eq_true rfl) (Nat.zero_le _) (Nat.zero_le _) ?_
  refine aw_if_neN D_mo_lose_4 (by decide) (fun h => ?_) (fun h => absurd h (by decide))
  refine aw_aload_n 0 D_mo_lose_9 rfl rfl ?_
  refine aw_get D_mo_lose_10 rfl rfl ?_
  refine aw_iload_n 1 D_mo_lose_13 rfl rfl ?_
  refine aw_ialdN D_mo_lose_14 rfl (by omega) (by omega) ?_
  refine aw_bipush (-nI 9) D_mo_lose_15 rfl ?_
  refine aw_icmp_ne D_mo_lose_17 (fun h => ?_) (fun h => absurd h (hL.ne hk hne))
  refine aw_iconst (nI 1) D_mo_lose_24 rfl ?_
  refine aw_istore_n 2 D_mo_lose_25 rfl (Nat.le_of_ble_eq_true rfl) rfl ?_
  refine aw_aload_n 0 D_mo_lose_26 rfl rfl ?_
  refine aw_get D_mo_lose_27 rfl rfl ?_
  refine aw_iload_n 1 D_mo_lose_30 rfl rfl ?_
  refine aw_bipush (-nI 9) D_mo_lose_31 rfl ?_
  refine aw_iastJ D_mo_lose_33 rfl (by omega) (by omega) ?_
  refine aw_iload_n 2 D_mo_lose_34 rfl rfl ?_
  refine aw_ireturn D_mo_lose_35 rfl rfl ?_
  exact ⟨rfl, _, rfl, fd, R, le, sz, o, be, pc, wt, qu, _, sl, ce, tb, mt, ru, bf, kp, rfl, hn, hn9, hb, hfd, hL.lose, hT⟩
theorem c_mo_putU {x y : Int32} {v : Int64} (hx : ¬ vp_in x 4) (h : MS n b tc fl la zs cs m) : AMet M_mo_put [.ref 6, .int x, .int y, .long v] [a0, a1, a2, a3, a4, a5, m, a7] (fun (r' : Option Value) (w' : Wd) => r' = some (.int (-nI 1)) ∧ ∃ m', w' = [a0, a1, a2, a3, a4, a5, m', a7] ∧ MS n b tc (nI 0) la zs cs m') 0 0 := by
  obtain ⟨fd, R, le, sz, o, be, pc, wt, qu, lm, sl, ce, tb, mt, ru, bf, kp, rfl, hn, hn9, hb, hfd, hL, hT⟩ := h
  have hp9 := pow_le9 hn9
  refine AMet.of [(0, .ref 6), (1, .int x), (2, .int y), (3, .long v)] (by decide +kernel) rfl (Nat.le_of_ble_eq_true rfl) ?_
  refine aw_aload_n 0 D_mo_put_0 rfl rfl ?_
  refine aw_iconst (nI 0) D_mo_put_1 rfl ?_
  refine aw_put tc_mo D_mo_put_2 rfl (Nat.le_of_ble_eq_true rfl) rfl rfl ?_
  refine aw_iload_n 1 D_mo_put_5 rfl rfl ?_
  refine aw_callS1 (As := [_]) D_mo_put_6 kv_mo_isSheet (c_mo_isSheetF hx) rfl rfl (Nat.le_of_ble_eq_true rfl) (Nat.zero_le _) (Nat.zero_le _) ?_
  refine aw_if_neN D_mo_put_9 (by decide) (fun h => absurd h (by decide)) (fun h => ?_)
  refine aw_iconst (-nI 1) D_mo_put_12 rfl ?_
  refine aw_ireturn D_mo_put_13 rfl rfl ?_
  exact ⟨rfl, _, rfl, fd, R, le, sz, o, be, pc, wt, qu, lm, sl, ce, tb, mt, ru, bf, kp, rfl, hn, hn9, hb, hfd, hL, hT⟩
theorem c_mo_putN {k : Nat} {y : Int32} {v : Int64} (hk : k < 4) (hno : la k = -nI 1) (h : MS n b tc fl la zs cs m) : AMet M_mo_put [.ref 6, .int (nI k), .int y, .long v] [a0, a1, a2, a3, a4, a5, m, a7] (fun (r' : Option Value) (w' : Wd) => r' = some (.int (-nI 10 - nI 1)) ∧ ∃ m', w' = [a0, a1, a2, a3, a4, a5, m', a7] ∧ MS n b tc (nI 1) la zs cs m') 0 0 := by
  obtain ⟨fd, R, le, sz, o, be, pc, wt, qu, lm, sl, ce, tb, mt, ru, bf, kp, rfl, hn, hn9, hb, hfd, hL, hT⟩ := h
  have hp9 := pow_le9 hn9
  refine AMet.of [(0, .ref 6), (1, .int (nI k)), (2, .int y), (3, .long v)] (by decide +kernel) rfl (Nat.le_of_ble_eq_true rfl) ?_
  refine aw_aload_n 0 D_mo_put_0 rfl rfl ?_
  refine aw_iconst (nI 0) D_mo_put_1 rfl ?_
  refine aw_put tc_mo D_mo_put_2 rfl (Nat.le_of_ble_eq_true rfl) rfl rfl ?_
  refine aw_iload_n 1 D_mo_put_5 rfl rfl ?_
  refine aw_callS1 (As := [_]) D_mo_put_6 kv_mo_isSheet (c_mo_isSheetT hk) rfl rfl (Nat.le_of_ble_eq_true rfl) (Nat.zero_le _) (Nat.zero_le _) ?_
  refine aw_if_neN D_mo_put_9 (by decide) (fun h => ?_) (fun h => absurd h (by decide))
  refine aw_aload_n 0 D_mo_put_14 rfl rfl ?_
  refine aw_get D_mo_put_15 rfl rfl ?_
  refine aw_iload_n 1 D_mo_put_18 rfl rfl ?_
  refine aw_ialdN D_mo_put_19 rfl (by omega) (by omega) ?_
  refine aw_bipush (-nI 9) D_mo_put_20 rfl ?_
  refine aw_icmp_ne D_mo_put_22 (fun h => absurd (hL.none hk hno) h) (fun h => ?_)
  refine aw_aload_n 0 D_mo_put_25 rfl rfl ?_
  refine aw_iconst (nI 1) D_mo_put_26 rfl ?_
  refine aw_callV1 (As := [_]) D_mo_put_27 kv_mo_fails (c_mo_fails) rfl rfl rfl rfl rfl (Nat.le_of_ble_eq_true rfl) (Nat.zero_le _) (Nat.zero_le _) ?_
  refine aw_ireturn D_mo_put_30 rfl rfl ?_
  exact ⟨rfl, _, rfl, fd, R, le, sz, o, be, pc, wt, qu, lm, sl, ce, tb, mt, ru, bf, kp, rfl, hn, hn9, hb, hfd, hL, hT⟩
theorem c_mo_putI {k : Nat} {y : Int32} {v : Int64} (hk : k < 4) (hne : la k ≠ -nI 1) (hy : ¬ vp_in y (zs k)) (h : MS n b tc fl la zs cs m) : AMet M_mo_put [.ref 6, .int (nI k), .int y, .long v] [a0, a1, a2, a3, a4, a5, m, a7] (fun (r' : Option Value) (w' : Wd) => r' = some (.int (-nI 10 - nI 3)) ∧ ∃ m', w' = [a0, a1, a2, a3, a4, a5, m', a7] ∧ MS n b tc (nI 3) la zs cs m') 0 0 := by
  obtain ⟨fd, R, le, sz, o, be, pc, wt, qu, lm, sl, ce, tb, mt, ru, bf, kp, rfl, hn, hn9, hb, hfd, hL, hT⟩ := h
  have hp9 := pow_le9 hn9
  refine AMet.of [(0, .ref 6), (1, .int (nI k)), (2, .int y), (3, .long v)] (by decide +kernel) rfl (Nat.le_of_ble_eq_true rfl) ?_
  generalize hZ : (fun (r' : Option Value) (w' : Wd) => r' = some (.int (-nI 10 - nI 3)) ∧ ∃ m', w' = [a0, a1, a2, a3, a4, a5, m', a7] ∧ MS n b tc (nI 3) la zs cs m') = ZZ
  refine aw_aload_n 0 D_mo_put_0 rfl rfl ?_
  refine aw_iconst (nI 0) D_mo_put_1 rfl ?_
  refine aw_put tc_mo D_mo_put_2 rfl (Nat.le_of_ble_eq_true rfl) rfl rfl ?_
  refine aw_iload_n 1 D_mo_put_5 rfl rfl ?_
  refine aw_callS1 (As := [_]) D_mo_put_6 kv_mo_isSheet (c_mo_isSheetT hk) rfl rfl (Nat.le_of_ble_eq_true rfl) (Nat.zero_le _) (Nat.zero_le _) ?_
  refine aw_if_neN D_mo_put_9 (by decide) (fun h => ?_) (fun h => absurd h (by decide))
  obtain ⟨l, hl, hl1, hl2, hs1, hs2⟩ := hL.some hk hne
  have hzk := hL.2 k
  have hfail : AW M_mo_put noP (Zp ZZ) 0 0 45 [(0, .ref 6), (1, .int (nI k)), (2, .int y), (3, .long v)] [] [a0, a1, a2, a3, a4, a5, MO (nI 0) tc n fd R b le sz o be pc wt qu lm sl ce tb mt ru bf kp, a7] 0 0 := by
    refine aw_aload_n 0 D_mo_put_45 rfl rfl ?_
    refine aw_iconst (nI 3) D_mo_put_46 rfl ?_
    refine aw_callV1 (As := [_]) D_mo_put_47 kv_mo_fails (c_mo_fails) rfl rfl rfl rfl rfl (Nat.le_of_ble_eq_true rfl) (Nat.zero_le _) (Nat.zero_le _) ?_
    refine aw_ireturn D_mo_put_50 rfl rfl ?_
    subst hZ; exact ⟨rfl, _, rfl, fd, R, le, sz, o, be, pc, wt, qu, lm, sl, ce, tb, mt, ru, bf, kp, rfl, hn, hn9, hb, hfd, hL, hT⟩
  refine aw_aload_n 0 D_mo_put_14 rfl rfl ?_
  refine aw_get D_mo_put_15 rfl rfl ?_
  refine aw_iload_n 1 D_mo_put_18 rfl rfl ?_
  refine aw_ialdN D_mo_put_19 rfl (by omega) (by omega) ?_
  refine aw_bipush (-nI 9) D_mo_put_20 rfl ?_
  refine aw_icmp_ne D_mo_put_22 (fun h => ?_) (fun h => absurd h (hL.ne hk hne))
  refine aw_iload_n 2 D_mo_put_31 rfl rfl ?_
  refine aw_if_lt D_mo_put_32 (fun h => hfail) (fun h1 => ?_)
  refine aw_iload_n 2 D_mo_put_35 rfl rfl ?_
  refine aw_aload_n 0 D_mo_put_36 rfl rfl ?_
  refine aw_get D_mo_put_37 rfl rfl ?_
  refine aw_iload_n 1 D_mo_put_40 rfl rfl ?_
  refine aw_ialdN D_mo_put_41 rfl (by omega) (by omega) ?_
  refine aw_icmp_lt D_mo_put_42 (fun h2 => absurd (vp_of h1 (Int32.not_le.mpr h2) (by omega)) (by rw [hs1]; exact hy)) (fun h2 => hfail)
theorem c_mo_putT {k i : Nat} {v : Int64} (hk : k < 4) (hne : la k ≠ -nI 1) (hi : i < zs k) (h : MS n b tc fl la zs cs m) : AMet M_mo_put [.ref 6, .int (nI k), .int (nI i), .long v] [a0, a1, a2, a3, a4, a5, m, a7] (fun (r' : Option Value) (w' : Wd) => r' = some (.int (nI 1)) ∧ ∃ m', w' = [a0, a1, a2, a3, a4, a5, m', a7] ∧ MS n b tc (nI 0) la zs (va_up cs k (va_up (cs k) i (cut (la k) v))) m') 0 0 := by
  obtain ⟨fd, R, le, sz, o, be, pc, wt, qu, lm, sl, ce, tb, mt, ru, bf, kp, rfl, hn, hn9, hb, hfd, hL, hT⟩ := h
  have hp9 := pow_le9 hn9
  refine AMet.of [(0, .ref 6), (1, .int (nI k)), (2, .int (nI i)), (3, .long v)] (by decide +kernel) rfl (Nat.le_of_ble_eq_true rfl) ?_
  generalize hZ : (fun (r' : Option Value) (w' : Wd) => r' = some (.int (nI 1)) ∧ ∃ m', w' = [a0, a1, a2, a3, a4, a5, m', a7] ∧ MS n b tc (nI 0) la zs (va_up cs k (va_up (cs k) i (cut (la k) v))) m') = ZZ
  refine aw_aload_n 0 D_mo_put_0 rfl rfl ?_
  refine aw_iconst (nI 0) D_mo_put_1 rfl ?_
  refine aw_put tc_mo D_mo_put_2 rfl (Nat.le_of_ble_eq_true rfl) rfl rfl ?_
  refine aw_iload_n 1 D_mo_put_5 rfl rfl ?_
  refine aw_callS1 (As := [_]) D_mo_put_6 kv_mo_isSheet (c_mo_isSheetT hk) rfl rfl (Nat.le_of_ble_eq_true rfl) (Nat.zero_le _) (Nat.zero_le _) ?_
  refine aw_if_neN D_mo_put_9 (by decide) (fun h => ?_) (fun h => absurd h (by decide))
  obtain ⟨l, hl, hl1, hl2, hs1, hs2⟩ := hL.some hk hne
  have hzk := hL.2 k
  have hlast : ∀ x : Int64, x = cut (la k) v → AW M_mo_put noP (Zp ZZ) 0 0 95 [(0, .ref 6), (1, .int (nI k)), (2, .int (nI i)), (3, .long v)] [.long x, .int (nI (600 * k + i)), .ref 182] [a0, a1, a2, a3, a4, a5, MO (nI 0) tc n fd R b le sz o be pc wt qu lm sl ce tb mt ru bf kp, a7] 0 0 := by
    intro x hx
    have hL2 : LN la zs (va_up cs k (va_up (cs k) i (cut (la k) v))) lm sl (va_up ce (600 * k + i) x) := by
      refine hL.cell (fun q hq => ?_) (fun q j hq hne hj => ?_)
      · by_cases e : q = i
        · rw [e, up_self, up_self, hx]
        · rw [up_ne _ _ e, up_ne _ _ (by omega)]; exact hs2 q hq
      · rw [up_ne _ _ (by omega)]
    refine aw_lastJ D_mo_put_95 rfl (by omega) (by omega) ?_
    refine aw_iconst (nI 1) D_mo_put_96 rfl ?_
    refine aw_ireturn D_mo_put_97 rfl rfl ?_
    subst hZ; exact ⟨rfl, _, rfl, fd, R, le, sz, o, be, pc, wt, qu, lm, sl, _, tb, mt, ru, bf, kp, rfl, hn, hn9, hb, hfd, hL2, hT⟩
  refine aw_aload_n 0 D_mo_put_14 rfl rfl ?_
  refine aw_get D_mo_put_15 rfl rfl ?_
  refine aw_iload_n 1 D_mo_put_18 rfl rfl ?_
  refine aw_ialdN D_mo_put_19 rfl (by omega) (by omega) ?_
  refine aw_bipush (-nI 9) D_mo_put_20 rfl ?_
  refine aw_icmp_ne D_mo_put_22 (fun h => ?_) (fun h => absurd h (hL.ne hk hne))
  refine aw_iload_n 2 D_mo_put_31 rfl rfl ?_
  refine aw_if_ltN D_mo_put_32 (by omega) ?_
  refine aw_iload_n 2 D_mo_put_35 rfl rfl ?_
  refine aw_aload_n 0 D_mo_put_36 rfl rfl ?_
  refine aw_get D_mo_put_37 rfl rfl ?_
  refine aw_iload_n 1 D_mo_put_40 rfl rfl ?_
  refine aw_ialdN D_mo_put_41 rfl (by omega) (by omega) ?_
  refine aw_icmp_ltN D_mo_put_42 (by omega) (by omega) (fun h2 => ?_) (fun h2 => absurd h2 (by omega))
  refine aw_aload_n 0 D_mo_put_51 rfl rfl ?_
  refine aw_get D_mo_put_52 rfl rfl ?_
  refine aw_sipush (nI 600) D_mo_put_55 rfl ?_
  refine aw_iload_n 1 D_mo_put_58 rfl rfl ?_
  first | with_reducible refine aw_imulN D_mo_put_59 ?_ | refine aw_imul D_mo_put_59 ?_
  refine aw_iload_n 2 D_mo_put_60 rfl rfl ?_
  first | with_reducible refine aw_iaddN D_mo_put_61 ?_ | refine aw_iadd D_mo_put_61 ?_
  refine aw_aload_n 0 D_mo_put_62 rfl rfl ?_
  refine aw_get D_mo_put_63 rfl rfl ?_
  refine aw_iload_n 1 D_mo_put_66 rfl rfl ?_
  refine aw_ialdN D_mo_put_67 rfl (by omega) (by omega) ?_
  rw [hl2]
  rcases (show l = 0 ∨ l = 1 ∨ l = 2 by omega) with q | q | q
  · refine aw_if_neN D_mo_put_68 (by omega) (fun h => absurd h (by omega)) (fun h => ?_)
    refine aw_lload_n 3 D_mo_put_71 rfl rfl ?_
    first | with_reducible refine aw_l2iN D_mo_put_72 ?_ | refine aw_l2i D_mo_put_72 ?_
    refine aw_i2b D_mo_put_73 ?_
    refine aw_i2l D_mo_put_74 ?_
    refine aw_goto D_mo_put_75 ?_
    refine hlast _ ?_
    rw [hl1, q]
    rfl
  · refine aw_if_neN D_mo_put_68 (by omega) (fun h => ?_) (fun h => absurd h (by omega))
    refine aw_aload_n 0 D_mo_put_78 rfl rfl ?_
    refine aw_get D_mo_put_79 rfl rfl ?_
    refine aw_iload_n 1 D_mo_put_82 rfl rfl ?_
    refine aw_ialdN D_mo_put_83 rfl (by omega) (by omega) ?_
    refine aw_iconst (nI 1) D_mo_put_84 rfl ?_
    rw [hl2]
    refine aw_icmp_neN D_mo_put_85 (by omega) (by omega) (fun h => absurd h (by omega)) (fun h => ?_)
    refine aw_lload_n 3 D_mo_put_88 rfl rfl ?_
    first | with_reducible refine aw_l2iN D_mo_put_89 ?_ | refine aw_l2i D_mo_put_89 ?_
    first | with_reducible refine aw_i2lN D_mo_put_90 (by omega) ?_ | refine aw_i2l D_mo_put_90 ?_
    refine aw_goto D_mo_put_91 ?_
    refine hlast _ ?_
    rw [hl1, q]
    rfl
  · refine aw_if_neN D_mo_put_68 (by omega) (fun h => ?_) (fun h => absurd h (by omega))
    refine aw_aload_n 0 D_mo_put_78 rfl rfl ?_
    refine aw_get D_mo_put_79 rfl rfl ?_
    refine aw_iload_n 1 D_mo_put_82 rfl rfl ?_
    refine aw_ialdN D_mo_put_83 rfl (by omega) (by omega) ?_
    refine aw_iconst (nI 1) D_mo_put_84 rfl ?_
    rw [hl2]
    refine aw_icmp_neN D_mo_put_85 (by omega) (by omega) (fun h => ?_) (fun h => absurd h (by omega))
    refine aw_lload_n 3 D_mo_put_94 rfl rfl ?_
    refine hlast _ ?_
    rw [hl1, q]
    rfl
theorem c_mo_atU {x y z : Int32} (hx : ¬ vp_in x 4 ∨ ¬ vp_in z 3) (h : MS n b tc fl la zs cs m) : AMet M_mo_at [.ref 6, .int x, .int y, .int z] [a0, a1, a2, a3, a4, a5, m, a7] (fun (r' : Option Value) (w' : Wd) => r' = some (.long (-9223372036854775808)) ∧ ∃ m', w' = [a0, a1, a2, a3, a4, a5, m', a7] ∧ MS n b tc (nI 0) la zs cs m') 0 0 := by
  obtain ⟨fd, R, le, sz, o, be, pc, wt, qu, lm, sl, ce, tb, mt, ru, bf, kp, rfl, hn, hn9, hb, hfd, hL, hT⟩ := h
  have hp9 := pow_le9 hn9
  refine AMet.of [(0, .ref 6), (1, .int x), (2, .int y), (3, .int z)] (by decide +kernel) rfl (Nat.le_of_ble_eq_true rfl) ?_
  by_cases hv : vp_in x 4
  · have hz := hx.resolve_left (fun q => q hv)
    obtain ⟨j, hj, rfl⟩ := vp_in_of hv (by decide)
    refine aw_aload_n 0 D_mo_at_0 rfl rfl ?_
    refine aw_iconst (nI 0) D_mo_at_1 rfl ?_
    refine aw_put tc_mo D_mo_at_2 rfl (Nat.le_of_ble_eq_true rfl) rfl rfl ?_
    refine aw_iload_n 1 D_mo_at_5 rfl rfl ?_
    refine aw_callS1 (As := [_]) D_mo_at_6 kv_mo_isSheet (c_mo_isSheetT hj) rfl rfl (Nat.le_of_ble_eq_true rfl) (Nat.zero_le _) (Nat.zero_le _) ?_
    refine aw_if_eqN D_mo_at_9 (by decide) (fun h => absurd h (by decide)) (fun h => ?_)
    refine aw_iload_n 3 D_mo_at_12 rfl rfl ?_
    first | with_reducible refine aw_i2lN D_mo_at_13 (by omega) ?_ | refine aw_i2l D_mo_at_13 ?_
    refine aw_lconst (lN 0) D_mo_at_14 rfl ?_
    refine aw_ldc2 D_mo_at_15 ?_
    refine aw_callS1 (As := [_, _, _]) D_mo_at_18 kv_mo_within (c_mo_withinF (vp_F (N := 2) (by decide) hz) (by decide) (by decide)) rfl rfl (Nat.le_of_ble_eq_true rfl) (Nat.zero_le _) (Nat.zero_le _) ?_
    refine aw_if_neN D_mo_at_21 (by decide) (fun h => absurd h (by decide)) (fun h => ?_)
    refine aw_ldc2 D_mo_at_24 ?_
    refine aw_lreturn D_mo_at_27 rfl ?_
    exact ⟨rfl, _, rfl, fd, R, le, sz, o, be, pc, wt, qu, lm, sl, ce, tb, mt, ru, bf, kp, rfl, hn, hn9, hb, hfd, hL, hT⟩
  · refine aw_aload_n 0 D_mo_at_0 rfl rfl ?_
    refine aw_iconst (nI 0) D_mo_at_1 rfl ?_
    refine aw_put tc_mo D_mo_at_2 rfl (Nat.le_of_ble_eq_true rfl) rfl rfl ?_
    refine aw_iload_n 1 D_mo_at_5 rfl rfl ?_
    refine aw_callS1 (As := [_]) D_mo_at_6 kv_mo_isSheet (c_mo_isSheetF hv) rfl rfl (Nat.le_of_ble_eq_true rfl) (Nat.zero_le _) (Nat.zero_le _) ?_
    refine aw_if_eqN D_mo_at_9 (by decide) (fun h => ?_) (fun h => absurd h (by decide))
    refine aw_ldc2 D_mo_at_24 ?_
    refine aw_lreturn D_mo_at_27 rfl ?_
    exact ⟨rfl, _, rfl, fd, R, le, sz, o, be, pc, wt, qu, lm, sl, ce, tb, mt, ru, bf, kp, rfl, hn, hn9, hb, hfd, hL, hT⟩
theorem c_mo_atC {k l : Nat} {y : Int32} (hk : k < 4) (hl : l < 3) (hne : la k ≠ -nI 1) (hc : la k ≠ nI l) (h : MS n b tc fl la zs cs m) : AMet M_mo_at [.ref 6, .int (nI k), .int y, .int (nI l)] [a0, a1, a2, a3, a4, a5, m, a7] (fun (r' : Option Value) (w' : Wd) => r' = some (.long (-9223372036854775808)) ∧ ∃ m', w' = [a0, a1, a2, a3, a4, a5, m', a7] ∧ MS n b tc (nI 2) la zs cs m') 0 0 := by
  obtain ⟨fd, R, le, sz, o, be, pc, wt, qu, lm, sl, ce, tb, mt, ru, bf, kp, rfl, hn, hn9, hb, hfd, hL, hT⟩ := h
  have hp9 := pow_le9 hn9
  refine AMet.of [(0, .ref 6), (1, .int (nI k)), (2, .int y), (3, .int (nI l))] (by decide +kernel) rfl (Nat.le_of_ble_eq_true rfl) ?_
  refine aw_aload_n 0 D_mo_at_0 rfl rfl ?_
  refine aw_iconst (nI 0) D_mo_at_1 rfl ?_
  refine aw_put tc_mo D_mo_at_2 rfl (Nat.le_of_ble_eq_true rfl) rfl rfl ?_
  refine aw_iload_n 1 D_mo_at_5 rfl rfl ?_
  refine aw_callS1 (As := [_]) D_mo_at_6 kv_mo_isSheet (c_mo_isSheetT hk) rfl rfl (Nat.le_of_ble_eq_true rfl) (Nat.zero_le _) (Nat.zero_le _) ?_
  refine aw_if_eqN D_mo_at_9 (by decide) (fun h => absurd h (by decide)) (fun h => ?_)
  refine aw_iload_n 3 D_mo_at_12 rfl rfl ?_
  first | with_reducible refine aw_i2lN D_mo_at_13 (by omega) ?_ | refine aw_i2l D_mo_at_13 ?_
  refine aw_lconst (lN 0) D_mo_at_14 rfl ?_
  refine aw_ldc2 D_mo_at_15 ?_
  refine aw_callS1 (As := [_, _, _]) D_mo_at_18 kv_mo_within (c_mo_withinT (Nat.zero_le l) (show l ≤ 2 by omega) (by decide)) rfl rfl (Nat.le_of_ble_eq_true rfl) (Nat.zero_le _) (Nat.zero_le _) ?_
  refine aw_if_neN D_mo_at_21 (by decide) (fun h => ?_) (fun h => absurd h (by decide))
  refine aw_aload_n 0 D_mo_at_28 rfl rfl ?_
  refine aw_get D_mo_at_29 rfl rfl ?_
  refine aw_iload_n 1 D_mo_at_32 rfl rfl ?_
  refine aw_ialdN D_mo_at_33 rfl (by omega) (by omega) ?_
  refine aw_bipush (-nI 9) D_mo_at_34 rfl ?_
  obtain ⟨l', hl', hl1, hl2, hs1, hs2⟩ := hL.some hk hne
  refine aw_icmp_eq D_mo_at_36 (fun h => absurd h (hL.ne hk hne)) (fun h => ?_)
  refine aw_aload_n 0 D_mo_at_39 rfl rfl ?_
  refine aw_get D_mo_at_40 rfl rfl ?_
  refine aw_iload_n 1 D_mo_at_43 rfl rfl ?_
  refine aw_ialdN D_mo_at_44 rfl (by omega) (by omega) ?_
  refine aw_iload_n 3 D_mo_at_45 rfl rfl ?_
  refine aw_icmp_eq D_mo_at_46 (fun h => absurd ((hl1.trans hl2.symm).trans h) hc) (fun h => ?_)
  refine aw_aload_n 0 D_mo_at_49 rfl rfl ?_
  refine aw_iconst (nI 2) D_mo_at_50 rfl ?_
  refine aw_callV1 (As := [_]) D_mo_at_51 kv_mo_lost (c_mo_lost) rfl rfl rfl rfl rfl (Nat.le_of_ble_eq_true rfl) (Nat.zero_le _) (Nat.zero_le _) ?_
  refine aw_lreturn D_mo_at_54 rfl ?_
  exact ⟨rfl, _, rfl, fd, R, le, sz, o, be, pc, wt, qu, lm, sl, ce, tb, mt, ru, bf, kp, rfl, hn, hn9, hb, hfd, hL, hT⟩
theorem c_mo_atN {k l : Nat} {y : Int32} (hk : k < 4) (hl : l < 3) (hno : la k = -nI 1) (h : MS n b tc fl la zs cs m) : AMet M_mo_at [.ref 6, .int (nI k), .int y, .int (nI l)] [a0, a1, a2, a3, a4, a5, m, a7] (fun (r' : Option Value) (w' : Wd) => r' = some (.long (-9223372036854775808)) ∧ ∃ m', w' = [a0, a1, a2, a3, a4, a5, m', a7] ∧ MS n b tc (nI 1) la zs cs m') 0 0 := by
  obtain ⟨fd, R, le, sz, o, be, pc, wt, qu, lm, sl, ce, tb, mt, ru, bf, kp, rfl, hn, hn9, hb, hfd, hL, hT⟩ := h
  have hp9 := pow_le9 hn9
  refine AMet.of [(0, .ref 6), (1, .int (nI k)), (2, .int y), (3, .int (nI l))] (by decide +kernel) rfl (Nat.le_of_ble_eq_true rfl) ?_
  refine aw_aload_n 0 D_mo_at_0 rfl rfl ?_
  refine aw_iconst (nI 0) D_mo_at_1 rfl ?_
  refine aw_put tc_mo D_mo_at_2 rfl (Nat.le_of_ble_eq_true rfl) rfl rfl ?_
  refine aw_iload_n 1 D_mo_at_5 rfl rfl ?_
  refine aw_callS1 (As := [_]) D_mo_at_6 kv_mo_isSheet (c_mo_isSheetT hk) rfl rfl (Nat.le_of_ble_eq_true rfl) (Nat.zero_le _) (Nat.zero_le _) ?_
  refine aw_if_eqN D_mo_at_9 (by decide) (fun h => absurd h (by decide)) (fun h => ?_)
  refine aw_iload_n 3 D_mo_at_12 rfl rfl ?_
  first | with_reducible refine aw_i2lN D_mo_at_13 (by omega) ?_ | refine aw_i2l D_mo_at_13 ?_
  refine aw_lconst (lN 0) D_mo_at_14 rfl ?_
  refine aw_ldc2 D_mo_at_15 ?_
  refine aw_callS1 (As := [_, _, _]) D_mo_at_18 kv_mo_within (c_mo_withinT (Nat.zero_le l) (show l ≤ 2 by omega) (by decide)) rfl rfl (Nat.le_of_ble_eq_true rfl) (Nat.zero_le _) (Nat.zero_le _) ?_
  refine aw_if_neN D_mo_at_21 (by decide) (fun h => ?_) (fun h => absurd h (by decide))
  refine aw_aload_n 0 D_mo_at_28 rfl rfl ?_
  refine aw_get D_mo_at_29 rfl rfl ?_
  refine aw_iload_n 1 D_mo_at_32 rfl rfl ?_
  refine aw_ialdN D_mo_at_33 rfl (by omega) (by omega) ?_
  refine aw_bipush (-nI 9) D_mo_at_34 rfl ?_
  refine aw_icmp_eq D_mo_at_36 (fun h => ?_) (fun h => absurd (hL.none hk hno) h)
  refine aw_aload_n 0 D_mo_at_55 rfl rfl ?_
  refine aw_get D_mo_at_56 rfl rfl ?_
  refine aw_iload_n 1 D_mo_at_59 rfl rfl ?_
  refine aw_ialdN D_mo_at_60 rfl (by omega) (by omega) ?_
  refine aw_bipush (-nI 9) D_mo_at_61 rfl ?_
  refine aw_icmp_ne D_mo_at_63 (fun h => absurd (hL.none hk hno) h) (fun h => ?_)
  refine aw_aload_n 0 D_mo_at_66 rfl rfl ?_
  refine aw_iconst (nI 1) D_mo_at_67 rfl ?_
  refine aw_callV1 (As := [_]) D_mo_at_68 kv_mo_lost (c_mo_lost) rfl rfl rfl rfl rfl (Nat.le_of_ble_eq_true rfl) (Nat.zero_le _) (Nat.zero_le _) ?_
  refine aw_lreturn D_mo_at_71 rfl ?_
  exact ⟨rfl, _, rfl, fd, R, le, sz, o, be, pc, wt, qu, lm, sl, ce, tb, mt, ru, bf, kp, rfl, hn, hn9, hb, hfd, hL, hT⟩
theorem c_mo_atI {k l : Nat} {y : Int32} (hk : k < 4) (hl : l < 3) (hll : la k = nI l) (hy : ¬ vp_in y (zs k)) (h : MS n b tc fl la zs cs m) : AMet M_mo_at [.ref 6, .int (nI k), .int y, .int (nI l)] [a0, a1, a2, a3, a4, a5, m, a7] (fun (r' : Option Value) (w' : Wd) => r' = some (.long (-9223372036854775808)) ∧ ∃ m', w' = [a0, a1, a2, a3, a4, a5, m', a7] ∧ MS n b tc (nI 3) la zs cs m') 0 0 := by
  obtain ⟨fd, R, le, sz, o, be, pc, wt, qu, lm, sl, ce, tb, mt, ru, bf, kp, rfl, hn, hn9, hb, hfd, hL, hT⟩ := h
  have hp9 := pow_le9 hn9
  refine AMet.of [(0, .ref 6), (1, .int (nI k)), (2, .int y), (3, .int (nI l))] (by decide +kernel) rfl (Nat.le_of_ble_eq_true rfl) ?_
  generalize hZ : (fun (r' : Option Value) (w' : Wd) => r' = some (.long (-9223372036854775808)) ∧ ∃ m', w' = [a0, a1, a2, a3, a4, a5, m', a7] ∧ MS n b tc (nI 3) la zs cs m') = ZZ
  have hfail : AW M_mo_at noP (Zp ZZ) 0 0 86 [(0, .ref 6), (1, .int (nI k)), (2, .int y), (3, .int (nI l))] [] [a0, a1, a2, a3, a4, a5, MO (nI 0) tc n fd R b le sz o be pc wt qu lm sl ce tb mt ru bf kp, a7] 0 0 := by
    refine aw_aload_n 0 D_mo_at_86 rfl rfl ?_
    refine aw_iconst (nI 3) D_mo_at_87 rfl ?_
    refine aw_callV1 (As := [_]) D_mo_at_88 kv_mo_lost (c_mo_lost) rfl rfl rfl rfl rfl (Nat.le_of_ble_eq_true rfl) (Nat.zero_le _) (Nat.zero_le _) ?_
    refine aw_lreturn D_mo_at_91 rfl ?_
    subst hZ; exact ⟨rfl, _, rfl, fd, R, le, sz, o, be, pc, wt, qu, lm, sl, ce, tb, mt, ru, bf, kp, rfl, hn, hn9, hb, hfd, hL, hT⟩
  refine aw_aload_n 0 D_mo_at_0 rfl rfl ?_
  refine aw_iconst (nI 0) D_mo_at_1 rfl ?_
  refine aw_put tc_mo D_mo_at_2 rfl (Nat.le_of_ble_eq_true rfl) rfl rfl ?_
  refine aw_iload_n 1 D_mo_at_5 rfl rfl ?_
  refine aw_callS1 (As := [_]) D_mo_at_6 kv_mo_isSheet (c_mo_isSheetT hk) rfl rfl (Nat.le_of_ble_eq_true rfl) (Nat.zero_le _) (Nat.zero_le _) ?_
  refine aw_if_eqN D_mo_at_9 (by decide) (fun h => absurd h (by decide)) (fun h => ?_)
  refine aw_iload_n 3 D_mo_at_12 rfl rfl ?_
  first | with_reducible refine aw_i2lN D_mo_at_13 (by omega) ?_ | refine aw_i2l D_mo_at_13 ?_
  refine aw_lconst (lN 0) D_mo_at_14 rfl ?_
  refine aw_ldc2 D_mo_at_15 ?_
  refine aw_callS1 (As := [_, _, _]) D_mo_at_18 kv_mo_within (c_mo_withinT (Nat.zero_le l) (show l ≤ 2 by omega) (by decide)) rfl rfl (Nat.le_of_ble_eq_true rfl) (Nat.zero_le _) (Nat.zero_le _) ?_
  refine aw_if_neN D_mo_at_21 (by decide) (fun h => ?_) (fun h => absurd h (by decide))
  refine aw_aload_n 0 D_mo_at_28 rfl rfl ?_
  refine aw_get D_mo_at_29 rfl rfl ?_
  refine aw_iload_n 1 D_mo_at_32 rfl rfl ?_
  refine aw_ialdN D_mo_at_33 rfl (by omega) (by omega) ?_
  refine aw_bipush (-nI 9) D_mo_at_34 rfl ?_
  have hne : la k ≠ -nI 1 := by rw [hll]; exact nI_ne_neg hl
  obtain ⟨l', hl', hl1, hl2, hs1, hs2⟩ := hL.some hk hne
  have hzk := hL.2 k
  refine aw_icmp_eq D_mo_at_36 (fun h => absurd h (hL.ne hk hne)) (fun h => ?_)
  refine aw_aload_n 0 D_mo_at_39 rfl rfl ?_
  refine aw_get D_mo_at_40 rfl rfl ?_
  refine aw_iload_n 1 D_mo_at_43 rfl rfl ?_
  refine aw_ialdN D_mo_at_44 rfl (by omega) (by omega) ?_
  refine aw_iload_n 3 D_mo_at_45 rfl rfl ?_
  refine aw_icmp_eq D_mo_at_46 (fun h => ?_) (fun h => absurd ((hl2.trans hl1.symm).trans hll) h)
  refine aw_aload_n 0 D_mo_at_55 rfl rfl ?_
  refine aw_get D_mo_at_56 rfl rfl ?_
  refine aw_iload_n 1 D_mo_at_59 rfl rfl ?_
  refine aw_ialdN D_mo_at_60 rfl (by omega) (by omega) ?_
  refine aw_bipush (-nI 9) D_mo_at_61 rfl ?_
  refine aw_icmp_ne D_mo_at_63 (fun h => ?_) (fun h => absurd h (hL.ne hk hne))
  refine aw_iload_n 2 D_mo_at_72 rfl rfl ?_
  refine aw_if_lt D_mo_at_73 (fun h => hfail) (fun h1 => ?_)
  refine aw_iload_n 2 D_mo_at_76 rfl rfl ?_
  refine aw_aload_n 0 D_mo_at_77 rfl rfl ?_
  refine aw_get D_mo_at_78 rfl rfl ?_
  refine aw_iload_n 1 D_mo_at_81 rfl rfl ?_
  refine aw_ialdN D_mo_at_82 rfl (by omega) (by omega) ?_
  refine aw_icmp_lt D_mo_at_83 (fun h2 => absurd (vp_of h1 (Int32.not_le.mpr h2) (by omega)) (by rw [hs1]; exact hy)) (fun h2 => hfail)
theorem c_mo_atT {k l i : Nat} (hk : k < 4) (hl : l < 3) (hll : la k = nI l) (hi : i < zs k) (h : MS n b tc fl la zs cs m) : AMet M_mo_at [.ref 6, .int (nI k), .int (nI i), .int (nI l)] [a0, a1, a2, a3, a4, a5, m, a7] (fun (r' : Option Value) (w' : Wd) => r' = some (.long (cs k i)) ∧ ∃ m', w' = [a0, a1, a2, a3, a4, a5, m', a7] ∧ MS n b tc (nI 0) la zs cs m') 0 0 := by
  obtain ⟨fd, R, le, sz, o, be, pc, wt, qu, lm, sl, ce, tb, mt, ru, bf, kp, rfl, hn, hn9, hb, hfd, hL, hT⟩ := h
  have hp9 := pow_le9 hn9
  refine AMet.of [(0, .ref 6), (1, .int (nI k)), (2, .int (nI i)), (3, .int (nI l))] (by decide +kernel) rfl (Nat.le_of_ble_eq_true rfl) ?_
  refine aw_aload_n 0 D_mo_at_0 rfl rfl ?_
  refine aw_iconst (nI 0) D_mo_at_1 rfl ?_
  refine aw_put tc_mo D_mo_at_2 rfl (Nat.le_of_ble_eq_true rfl) rfl rfl ?_
  refine aw_iload_n 1 D_mo_at_5 rfl rfl ?_
  refine aw_callS1 (As := [_]) D_mo_at_6 kv_mo_isSheet (c_mo_isSheetT hk) rfl rfl (Nat.le_of_ble_eq_true rfl) (Nat.zero_le _) (Nat.zero_le _) ?_
  refine aw_if_eqN D_mo_at_9 (by decide) (fun h => absurd h (by decide)) (fun h => ?_)
  refine aw_iload_n 3 D_mo_at_12 rfl rfl ?_
  first | with_reducible refine aw_i2lN D_mo_at_13 (by omega) ?_ | refine aw_i2l D_mo_at_13 ?_
  refine aw_lconst (lN 0) D_mo_at_14 rfl ?_
  refine aw_ldc2 D_mo_at_15 ?_
  refine aw_callS1 (As := [_, _, _]) D_mo_at_18 kv_mo_within (c_mo_withinT (Nat.zero_le l) (show l ≤ 2 by omega) (by decide)) rfl rfl (Nat.le_of_ble_eq_true rfl) (Nat.zero_le _) (Nat.zero_le _) ?_
  refine aw_if_neN D_mo_at_21 (by decide) (fun h => ?_) (fun h => absurd h (by decide))
  refine aw_aload_n 0 D_mo_at_28 rfl rfl ?_
  refine aw_get D_mo_at_29 rfl rfl ?_
  refine aw_iload_n 1 D_mo_at_32 rfl rfl ?_
  refine aw_ialdN D_mo_at_33 rfl (by omega) (by omega) ?_
  refine aw_bipush (-nI 9) D_mo_at_34 rfl ?_
  have hne : la k ≠ -nI 1 := by rw [hll]; exact nI_ne_neg hl
  obtain ⟨l', hl', hl1, hl2, hs1, hs2⟩ := hL.some hk hne
  have hzk := hL.2 k
  refine aw_icmp_eq D_mo_at_36 (fun h => absurd h (hL.ne hk hne)) (fun h => ?_)
  refine aw_aload_n 0 D_mo_at_39 rfl rfl ?_
  refine aw_get D_mo_at_40 rfl rfl ?_
  refine aw_iload_n 1 D_mo_at_43 rfl rfl ?_
  refine aw_ialdN D_mo_at_44 rfl (by omega) (by omega) ?_
  refine aw_iload_n 3 D_mo_at_45 rfl rfl ?_
  refine aw_icmp_eq D_mo_at_46 (fun h => ?_) (fun h => absurd ((hl2.trans hl1.symm).trans hll) h)
  refine aw_aload_n 0 D_mo_at_55 rfl rfl ?_
  refine aw_get D_mo_at_56 rfl rfl ?_
  refine aw_iload_n 1 D_mo_at_59 rfl rfl ?_
  refine aw_ialdN D_mo_at_60 rfl (by omega) (by omega) ?_
  refine aw_bipush (-nI 9) D_mo_at_61 rfl ?_
  refine aw_icmp_ne D_mo_at_63 (fun h => ?_) (fun h => absurd h (hL.ne hk hne))
  refine aw_iload_n 2 D_mo_at_72 rfl rfl ?_
  refine aw_if_ltN D_mo_at_73 (by omega) ?_
  refine aw_iload_n 2 D_mo_at_76 rfl rfl ?_
  refine aw_aload_n 0 D_mo_at_77 rfl rfl ?_
  refine aw_get D_mo_at_78 rfl rfl ?_
  refine aw_iload_n 1 D_mo_at_81 rfl rfl ?_
  refine aw_ialdN D_mo_at_82 rfl (by omega) (by omega) ?_
  refine aw_icmp_ltN D_mo_at_83 (by omega) (by omega) (fun h2 => ?_) (fun h2 => absurd h2 (by omega))
  refine aw_aload_n 0 D_mo_at_92 rfl rfl ?_
  refine aw_get D_mo_at_93 rfl rfl ?_
  refine aw_sipush (nI 600) D_mo_at_96 rfl ?_
  refine aw_iload_n 1 D_mo_at_99 rfl rfl ?_
  first | with_reducible refine aw_imulN D_mo_at_100 ?_ | refine aw_imul D_mo_at_100 ?_
  refine aw_iload_n 2 D_mo_at_101 rfl rfl ?_
  first | with_reducible refine aw_iaddN D_mo_at_102 ?_ | refine aw_iadd D_mo_at_102 ?_
  refine aw_laldN D_mo_at_103 rfl (by omega) (by omega) ?_
  rw [hs2 i hi]
  refine aw_lreturn D_mo_at_104 rfl ?_
  exact ⟨rfl, _, rfl, fd, R, le, sz, o, be, pc, wt, qu, lm, sl, ce, tb, mt, ru, bf, kp, rfl, hn, hn9, hb, hfd, hL, hT⟩
end Mo5
