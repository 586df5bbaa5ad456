/-! ### the determinant -/
theorem idx_ne {W r r' j j' : Nat} (hj : j < W) (hj' : j' < W) (h : r ≠ r' ∨ j ≠ j') : r * W + j ≠ r' * W + j' := fun e => by
  have a := idx_row (r := r) hj
  have b := idx_row (r := r') hj'
  rw [e] at a
  omega
theorem swp_at {m : Nat → Nat} {W r c i j : Nat} (hj : j < W) (hij : i ≤ j) (x : Nat) : swp m W r c i (x * W + j) = m (x * W + j) := by
  obtain ⟨a1, a2⟩ := idx_row (r := x) hj
  unfold swp
  rw [a1, a2, if_neg (fun z => by omega), if_neg (fun z => by omega)]
theorem swp_up {m : Nat → Nat} {W r c j : Nat} (hc : c ≤ j) (hj : j < W) (hrc : r ≠ c) : va_up (va_up (swp m W r c j) (r * W + j) (m (c * W + j))) (c * W + j) (m (r * W + j)) = swp m W r c (j + 1) := by
  have hW : 0 < W := by omega
  funext k
  have hk := Nat.div_add_mod k W
  have hml := Nat.mod_lt k hW
  have hkr : ∀ x, k = x * W + j ↔ k / W = x ∧ k % W = j := by
    intro x
    constructor
    · intro e; rw [e]; exact idx_row hj
    · rintro ⟨e1, e2⟩; rw [← e1, ← e2, Nat.mul_comm]; exact hk.symm
  unfold va_up swp
  by_cases e1 : k = c * W + j
  · obtain ⟨d1, d2⟩ := (hkr c).mp e1
    rw [if_pos e1, if_neg (fun z => hrc (by omega)), if_pos ⟨by omega, by omega, d1⟩, d2]
  · rw [if_neg e1]
    by_cases e2 : k = r * W + j
    · obtain ⟨d1, d2⟩ := (hkr r).mp e2
      rw [if_pos e2, if_pos ⟨by omega, by omega, d1⟩, d2]
    · rw [if_neg e2]
      have n1 : ¬ (k / W = c ∧ k % W = j) := fun z => e1 ((hkr c).mpr z)
      have n2 : ¬ (k / W = r ∧ k % W = j) := fun z => e2 ((hkr r).mpr z)
      by_cases b1 : c ≤ k % W ∧ k % W < j ∧ k / W = r
      · rw [if_pos b1, if_pos ⟨b1.1, by omega, b1.2.2⟩]
      · rw [if_neg b1, if_neg (show ¬ (c ≤ k % W ∧ k % W < j + 1 ∧ k / W = r) from fun z => b1 ⟨z.1, by omega, z.2.2⟩)]
        by_cases b2 : c ≤ k % W ∧ k % W < j ∧ k / W = c
        · rw [if_pos b2, if_pos (show c ≤ k % W ∧ k % W < j + 1 ∧ k / W = c from ⟨b2.1, by omega, b2.2.2⟩)]
        · rw [if_neg b2, if_neg (show ¬ (c ≤ k % W ∧ k % W < j + 1 ∧ k / W = c) from fun z => b2 ⟨z.1, by omega, z.2.2⟩)]
theorem swp_lt {m : Nat → Nat} (h : ∀ i, m i < 1000003) (W r c i : Nat) : ∀ k, swp m W r c i k < 1000003 := by
  intro k
  unfold swp
  split
  · exact h _
  · split
    · exact h _
    · exact h _
theorem clr_lt {m : Nat → Nat} (h : ∀ i, m i < 1000003) (W c iv i : Nat) : ∀ k, clr m W c iv i k < 1000003 := by
  intro k
  unfold clr
  split
  · exact Nat.mod_lt _ (by decide)
  · exact h _
/-- a row half cleared: columns from c below j -/
def cin (m : Nat → Nat) (W c fr row j : Nat) : Nat → Nat := fun k => if k / W = row ∧ c ≤ k % W ∧ k % W < j then (m k + fr * m (c * W + k % W)) % 1000003 else m k
theorem cin_up {m : Nat → Nat} {W c fr row j : Nat} (hc : c ≤ j) (hj : j < W) : va_up (cin m W c fr row j) (row * W + j) ((m (row * W + j) + fr * m (c * W + j)) % 1000003) = cin m W c fr row (j + 1) := by
  have hW : 0 < W := by omega
  funext k
  have hk := Nat.div_add_mod k W
  have hkr : k = row * W + j ↔ k / W = row ∧ k % W = j := by
    constructor
    · intro e; rw [e]; exact idx_row hj
    · rintro ⟨e1, e2⟩; rw [← e1, ← e2, Nat.mul_comm]; exact hk.symm
  unfold va_up cin
  by_cases e1 : k = row * W + j
  · obtain ⟨d1, d2⟩ := hkr.mp e1
    rw [if_pos e1, if_pos ⟨d1, by omega, by omega⟩, d2, ← e1]
  · rw [if_neg e1]
    have n1 : ¬ (k / W = row ∧ k % W = j) := fun z => e1 (hkr.mpr z)
    by_cases b1 : k / W = row ∧ c ≤ k % W ∧ k % W < j
    · rw [if_pos b1, if_pos ⟨b1.1, b1.2.1, by omega⟩]
    · rw [if_neg b1, if_neg (fun z => b1 ⟨z.1, z.2.1, by omega⟩)]
theorem cin_lt {m : Nat → Nat} (h : ∀ i, m i < 1000003) (W c fr row j : Nat) : ∀ k, cin m W c fr row j k < 1000003 := by
  intro k
  unfold cin
  split
  · exact Nat.mod_lt _ (by decide)
  · exact h _
theorem clr_next {m : Nat → Nat} {W c iv row : Nat} (h : ∀ i, m i < 1000003) (hc : c < row) (hW : 0 < W) (hcW : c < W) : cin (clr m W c iv row) W c (fac m W c iv row) row W = clr m W c iv (row + 1) := by
  have e1 : ∀ j, j < W → clr m W c iv row (c * W + j) = m (c * W + j) := fun j hj => by
    obtain ⟨a1, a2⟩ := idx_row (r := c) hj
    unfold clr
    rw [a1, if_neg (fun z => by omega)]
  funext k
  have hml := Nat.mod_lt k hW
  unfold cin
  rw [e1 _ hml]
  by_cases b : k / W = row ∧ c ≤ k % W ∧ k % W < W
  · rw [if_pos b]
    unfold clr
    rw [if_neg (fun z => by omega), if_pos ⟨by omega, by omega, b.2.1⟩, b.1]
  · rw [if_neg b]
    unfold clr
    by_cases b2 : c < k / W ∧ k / W < row ∧ c ≤ k % W
    · rw [if_pos b2, if_pos ⟨b2.1, by omega, b2.2.2⟩]
    · rw [if_neg b2, if_neg (fun z => b2 ⟨z.1, by omega, z.2.2⟩)]
theorem clr_zero {m : Nat → Nat} {W c iv row : Nat} (h : ∀ i, m i < 1000003) (hf : fac m W c iv row = 0) : clr m W c iv (row + 1) = clr m W c iv row := by
  funext k
  unfold clr
  by_cases b2 : c < k / W ∧ k / W < row ∧ c ≤ k % W
  · rw [if_pos b2, if_pos ⟨b2.1, by omega, b2.2.2⟩]
  · rw [if_neg b2]
    by_cases b : c < k / W ∧ k / W < row + 1 ∧ c ≤ k % W
    · rw [if_pos b, show k / W = row by omega, hf, Nat.zero_mul, Nat.add_zero, Nat.mod_eq_of_lt (h k)]
    · rw [if_neg b]
section Trees2
variable {w : Wd} {kc W M : Nat} {m : Nat → Nat}
theorem c_tr_swap {r c : Nat} (hne : 3 ≠ kc) (hr : r < W) (hc : c < W) (hrc : r ≠ c) (hW : W ≤ 512) (hWM : W * W ≤ M) (hM : M < 2 ^ 31) (hT : look w 3 = some (.inr (4, [.ref kc, .int (nI W)]))) (hC : look w kc = some (.inl (1, M, .inr (.inl (lF m))))) : AMet M_tr_swapRows [.ref 3, .int (nI r), .int (nI c)] w (Ex none (updw w kc (.inl (1, M, .inr (.inl (lF (swp m W r c W))))))) 0 0 := by
  refine AMet.of [(0, .ref 3), (1, .int (nI r)), (2, .int (nI c))] (by decide +kernel) rfl (Nat.le_of_ble_eq_true rfl) ?_
  have lT : ∀ f : Nat → Nat, look (updw w kc (.inl (1, M, .inr (.inl (lF f))))) 3 = some (.inr (4, [.ref kc, .int (nI W)])) := fun f => by rw [look_updw hC, if_neg hne]; exact hT
  have lC : ∀ f : Nat → Nat, look (updw w kc (.inl (1, M, .inr (.inl (lF f))))) kc = some (.inl (1, M, .inr (.inl (lF f)))) := fun f => by rw [look_updw hC, if_pos rfl]
  have key : ∀ (k j : Nat), j + k = W → c ≤ j → AW M_tr_swapRows noP (Zp (Ex none (updw w kc (.inl (1, M, .inr (.inl (lF (swp m W r c W)))))))) 0 0 2 [(0, .ref 3), (1, .int (nI r)), (2, .int (nI c)), (3, .int (nI j))] [] (updw w kc (.inl (1, M, .inr (.inl (lF (swp m W r c j)))))) 0 0 := by
    intro k
    induction k with
    | zero =>
      intro j hj hcj
      refine aw_iload_n 3 D_tr_swapRows_2 rfl rfl ?_
      refine aw_aload_n 0 D_tr_swapRows_3 rfl rfl ?_
      refine aw_get D_tr_swapRows_4 (lT _) rfl ?_
      refine aw_icmp_geN D_tr_swapRows_7 (by omega) (by omega) (fun h => ?_) (fun h => absurd h (by omega))
      rw [show j = W by omega]
      refine aw_return D_tr_swapRows_72 rfl ?_
      exact ⟨rfl, rfl⟩
    | succ k ih =>
      intro j hj hcj
      have i1 := idx_lt hr (show j < W by omega)
      have i2 := idx_lt hc (show j < W by omega)
      have v1 := swp_at (m := m) (r := r) (c := c) (show j < W by omega) (Nat.le_refl j) r
      have v2 := swp_at (m := m) (r := r) (c := c) (show j < W by omega) (Nat.le_refl j) c
      refine aw_iload_n 3 D_tr_swapRows_2 rfl rfl ?_
      refine aw_aload_n 0 D_tr_swapRows_3 rfl rfl ?_
      refine aw_get D_tr_swapRows_4 (lT _) rfl ?_
      refine aw_icmp_geN D_tr_swapRows_7 (by omega) (by omega) (fun h => absurd h (by omega)) (fun h => ?_)
      refine aw_aload_n 0 D_tr_swapRows_10 rfl rfl ?_
      refine aw_get D_tr_swapRows_11 (lT _) rfl ?_
      refine aw_iload_n 1 D_tr_swapRows_14 rfl rfl ?_
      refine aw_aload_n 0 D_tr_swapRows_15 rfl rfl ?_
      refine aw_get D_tr_swapRows_16 (lT _) rfl ?_
      first | with_reducible refine aw_imulN D_tr_swapRows_19 ?_ | refine aw_imul D_tr_swapRows_19 ?_
      refine aw_iload_n 3 D_tr_swapRows_20 rfl rfl ?_
      first | with_reducible refine aw_iaddN D_tr_swapRows_21 ?_ | refine aw_iadd D_tr_swapRows_21 ?_
      refine aw_laldN D_tr_swapRows_22 (lC _) (by omega) (by omega) ?_
      rw [show lF (swp m W r c j) (r * W + j) = lN (m (r * W + j)) from congrArg lN v1]
      refine aw_lstore D_tr_swapRows_23 (Nat.le_of_ble_eq_true rfl) rfl ?_
      refine aw_aload_n 0 D_tr_swapRows_25 rfl rfl ?_
      refine aw_get D_tr_swapRows_26 (lT _) rfl ?_
      refine aw_iload_n 1 D_tr_swapRows_29 rfl rfl ?_
      refine aw_aload_n 0 D_tr_swapRows_30 rfl rfl ?_
      refine aw_get D_tr_swapRows_31 (lT _) rfl ?_
      first | with_reducible refine aw_imulN D_tr_swapRows_34 ?_ | refine aw_imul D_tr_swapRows_34 ?_
      refine aw_iload_n 3 D_tr_swapRows_35 rfl rfl ?_
      first | with_reducible refine aw_iaddN D_tr_swapRows_36 ?_ | refine aw_iadd D_tr_swapRows_36 ?_
      refine aw_aload_n 0 D_tr_swapRows_37 rfl rfl ?_
      refine aw_get D_tr_swapRows_38 (lT _) rfl ?_
      refine aw_iload_n 2 D_tr_swapRows_41 rfl rfl ?_
      refine aw_aload_n 0 D_tr_swapRows_42 rfl rfl ?_
      refine aw_get D_tr_swapRows_43 (lT _) rfl ?_
      first | with_reducible refine aw_imulN D_tr_swapRows_46 ?_ | refine aw_imul D_tr_swapRows_46 ?_
      refine aw_iload_n 3 D_tr_swapRows_47 rfl rfl ?_
      first | with_reducible refine aw_iaddN D_tr_swapRows_48 ?_ | refine aw_iadd D_tr_swapRows_48 ?_
      refine aw_laldN D_tr_swapRows_49 (lC _) (by omega) (by omega) ?_
      rw [show lF (swp m W r c j) (c * W + j) = lN (m (c * W + j)) from congrArg lN v2]
      refine aw_lastN D_tr_swapRows_50 (lC _) (by omega) (by omega) ?_
      rw [updw_twice hC]
      refine aw_aload_n 0 D_tr_swapRows_51 rfl rfl ?_
      refine aw_get D_tr_swapRows_52 (lT _) rfl ?_
      refine aw_iload_n 2 D_tr_swapRows_55 rfl rfl ?_
      refine aw_aload_n 0 D_tr_swapRows_56 rfl rfl ?_
      refine aw_get D_tr_swapRows_57 (lT _) rfl ?_
      first | with_reducible refine aw_imulN D_tr_swapRows_60 ?_ | refine aw_imul D_tr_swapRows_60 ?_
      refine aw_iload_n 3 D_tr_swapRows_61 rfl rfl ?_
      first | with_reducible refine aw_iaddN D_tr_swapRows_62 ?_ | refine aw_iadd D_tr_swapRows_62 ?_
      refine aw_lload D_tr_swapRows_63 rfl ?_
      refine aw_lastN D_tr_swapRows_65 (lC _) (by omega) (by omega) ?_
      rw [updw_twice hC, swp_up hcj (by omega) hrc]
      first | refine aw_incN D_tr_swapRows_66 rfl (Nat.le_of_ble_eq_true rfl) rfl ?_ | refine aw_inc D_tr_swapRows_66 rfl (Nat.le_of_ble_eq_true rfl) rfl ?_
      refine aw_goto D_tr_swapRows_69 ?_
      refine aw_take 4 ?_
      exact ih (j + 1) (by omega) (by omega)
  refine aw_iload_n 2 D_tr_swapRows_0 rfl rfl ?_
  refine aw_istore_n 3 D_tr_swapRows_1 rfl (Nat.le_of_ble_eq_true rfl) rfl ?_
  have := key (W - c) c (by omega) (Nat.le_refl _)
  rw [show swp m W r c c = m from funext fun k => by unfold swp; rw [if_neg (fun z => by omega), if_neg (fun z => by omega)], updw_same hC] at this
  exact this
theorem c_tr_clear {c i : Nat} (hne : 3 ≠ kc) (hc : c < W) (hW : W ≤ 512) (hWM : W * W ≤ M) (hM : M < 2 ^ 31) (hi : i < 1000003) (hm : ∀ i, m i < 1000003) (hT : look w 3 = some (.inr (4, [.ref kc, .int (nI W)]))) (hC : look w kc = some (.inl (1, M, .inr (.inl (lF m))))) : AMet M_tr_clearBelow [.ref 3, .int (nI c), .long (lN i)] w (Ex none (updw w kc (.inl (1, M, .inr (.inl (lF (clr m W c i W))))))) 0 0 := by
  refine AMet.of [(0, .ref 3), (1, .int (nI c)), (2, .long (lN i))] (by decide +kernel) rfl (Nat.le_of_ble_eq_true rfl) ?_
  have lT : ∀ f : Nat → Nat, look (updw w kc (.inl (1, M, .inr (.inl (lF f))))) 3 = some (.inr (4, [.ref kc, .int (nI W)])) := fun f => by rw [look_updw hC, if_neg hne]; exact hT
  have lC : ∀ f : Nat → Nat, look (updw w kc (.inl (1, M, .inr (.inl (lF f))))) kc = some (.inl (1, M, .inr (.inl (lF f)))) := fun f => by rw [look_updw hC, if_pos rfl]
  generalize hZ : (Ex none (updw w kc (.inl (1, M, .inr (.inl (lF (clr m W c i W)))))) : Pq) = Post
  have key : ∀ (k row : Nat), row + k = W → c < row → AW M_tr_clearBelow noP (Zp Post) 0 0 5 [(0, .ref 3), (1, .int (nI c)), (2, .long (lN i)), (4, .int (nI row))] [] (updw w kc (.inl (1, M, .inr (.inl (lF (clr m W c i row)))))) 0 0 := by
    intro k
    induction k with
    | zero =>
      intro row hr hcr
      refine aw_iload D_tr_clearBelow_5 rfl ?_
      refine aw_aload_n 0 D_tr_clearBelow_7 rfl rfl ?_
      refine aw_get D_tr_clearBelow_8 (lT _) rfl ?_
      refine aw_icmp_geN D_tr_clearBelow_11 (by omega) (by omega) (fun h => ?_) (fun h => absurd h (by omega))
      rw [show row = W by omega]
      refine aw_return D_tr_clearBelow_119 rfl ?_
      rw [← hZ]; exact ⟨rfl, rfl⟩
    | succ k ih =>
      intro row hr hcr
      have i1 := idx_lt (show row < W by omega) hc
      obtain ⟨a1, a2⟩ := idx_row (r := row) hc
      have v1 : clr m W c i row (row * W + c) = m (row * W + c) := by unfold clr; rw [a1, if_neg (fun z => by omega)]
      have hmv := hm (row * W + c)
      have e1 : (1000003 - m (row * W + c)) * i < 1000004 * 1000003 := Nat.mul_lt_mul'' (by omega) hi
      have hfl : fac m W c i row < 1000003 := Nat.mod_lt _ (by decide)
      have hA := clr_lt hm W c i row
      have inner : ∀ (y j : Nat), j + y = W → c ≤ j → (fac m W c i row ≠ 0 ∨ j = c) → AW M_tr_clearBelow noP (Zp Post) 0 0 43 [(0, .ref 3), (1, .int (nI c)), (2, .long (lN i)), (4, .int (nI row)), (5, .long (lN (fac m W c i row))), (7, .int (nI j))] [] (updw w kc (.inl (1, M, .inr (.inl (lF (cin (clr m W c i row) W c (fac m W c i row) row j)))))) 0 0 := by
        intro y
        induction y with
        | zero =>
          intro j hj hcj hfz
          refine aw_iload D_tr_clearBelow_43 rfl ?_
          refine aw_aload_n 0 D_tr_clearBelow_45 rfl rfl ?_
          refine aw_get D_tr_clearBelow_46 (lT _) rfl ?_
          refine aw_icmp_geN D_tr_clearBelow_49 (by omega) (by omega) (fun h => ?_) (fun h => absurd h (by omega))
          rw [show j = W by omega, clr_next hm hcr (by omega) hc]
          first | refine aw_incN D_tr_clearBelow_113 rfl (Nat.le_of_ble_eq_true rfl) rfl ?_ | refine aw_inc D_tr_clearBelow_113 rfl (Nat.le_of_ble_eq_true rfl) rfl ?_
          refine aw_goto D_tr_clearBelow_116 ?_
          refine aw_take 4 ?_
          exact ih (row + 1) (by omega) (by omega)
        | succ y ihy =>
          intro j hj hcj hfz
          refine aw_iload D_tr_clearBelow_43 rfl ?_
          refine aw_aload_n 0 D_tr_clearBelow_45 rfl rfl ?_
          refine aw_get D_tr_clearBelow_46 (lT _) rfl ?_
          refine aw_icmp_geN D_tr_clearBelow_49 (by omega) (by omega) (fun h => absurd h (by omega)) (fun h => ?_)
          refine aw_lload D_tr_clearBelow_52 rfl ?_
          refine aw_lconst (lN 0) D_tr_clearBelow_54 rfl ?_
          refine aw_lcmp D_tr_clearBelow_55 ?_
          refine aw_if_eq D_tr_clearBelow_56 (fun h2 => ?_) (fun h2 => ?_)
          · rw [lg_cmp_eq, pk_lEQ (by omega) (by omega)] at h2
            have hjc : j = c := by omega
            subst hjc
            rw [show cin (clr m W j i row) W j (fac m W j i row) row j = clr m W j i (row + 1) by
              rw [clr_zero hm h2]; funext k; unfold cin; rw [if_neg (fun z => by omega)]]
            first | refine aw_incN D_tr_clearBelow_113 rfl (Nat.le_of_ble_eq_true rfl) rfl ?_ | refine aw_inc D_tr_clearBelow_113 rfl (Nat.le_of_ble_eq_true rfl) rfl ?_
            refine aw_goto D_tr_clearBelow_116 ?_
            refine aw_take 4 ?_
            exact ih (row + 1) (by omega) (by omega)
          · rw [lg_cmp_eq, pk_lEQ (by omega) (by omega)] at h2
            have x1 := idx_lt (show row < W by omega) (show j < W by omega)
            have x2 := idx_lt hc (show j < W by omega)
            obtain ⟨b1, b2⟩ := idx_row (r := row) (show j < W by omega)
            obtain ⟨d1, d2⟩ := idx_row (r := c) (show j < W by omega)
            have w1 : cin (clr m W c i row) W c (fac m W c i row) row j (row * W + j) = clr m W c i row (row * W + j) := by unfold cin; rw [b2, if_neg (fun z => by omega)]
            have w2 : cin (clr m W c i row) W c (fac m W c i row) row j (c * W + j) = clr m W c i row (c * W + j) := by unfold cin; rw [d1, if_neg (fun z => by omega)]
            have m1 := hA (row * W + j)
            have m2 := hA (c * W + j)
            have m3 := mulP hfl m2
            refine aw_iload D_tr_clearBelow_59 rfl ?_
            refine aw_aload_n 0 D_tr_clearBelow_61 rfl rfl ?_
            refine aw_get D_tr_clearBelow_62 (lT _) rfl ?_
            first | with_reducible refine aw_imulN D_tr_clearBelow_65 ?_ | refine aw_imul D_tr_clearBelow_65 ?_
            refine aw_iload D_tr_clearBelow_66 rfl ?_
            first | with_reducible refine aw_iaddN D_tr_clearBelow_68 ?_ | refine aw_iadd D_tr_clearBelow_68 ?_
            refine aw_istore D_tr_clearBelow_69 (Nat.le_of_ble_eq_true rfl) rfl ?_
            refine aw_aload_n 0 D_tr_clearBelow_71 rfl rfl ?_
            refine aw_get D_tr_clearBelow_72 (lT _) rfl ?_
            refine aw_iload D_tr_clearBelow_75 rfl ?_
            refine aw_aload_n 0 D_tr_clearBelow_77 rfl rfl ?_
            refine aw_get D_tr_clearBelow_78 (lT _) rfl ?_
            refine aw_iload D_tr_clearBelow_81 rfl ?_
            refine aw_laldN D_tr_clearBelow_83 (lC _) (by omega) (by omega) ?_
            rw [show lF (cin (clr m W c i row) W c (fac m W c i row) row j) (row * W + j) = lN (clr m W c i row (row * W + j)) from congrArg lN w1]
            refine aw_lload D_tr_clearBelow_84 rfl ?_
            refine aw_aload_n 0 D_tr_clearBelow_86 rfl rfl ?_
            refine aw_get D_tr_clearBelow_87 (lT _) rfl ?_
            refine aw_iload_n 1 D_tr_clearBelow_90 rfl rfl ?_
            refine aw_aload_n 0 D_tr_clearBelow_91 rfl rfl ?_
            refine aw_get D_tr_clearBelow_92 (lT _) rfl ?_
            first | with_reducible refine aw_imulN D_tr_clearBelow_95 ?_ | refine aw_imul D_tr_clearBelow_95 ?_
            refine aw_iload D_tr_clearBelow_96 rfl ?_
            first | with_reducible refine aw_iaddN D_tr_clearBelow_98 ?_ | refine aw_iadd D_tr_clearBelow_98 ?_
            refine aw_laldN D_tr_clearBelow_99 (lC _) (by omega) (by omega) ?_
            rw [show lF (cin (clr m W c i row) W c (fac m W c i row) row j) (c * W + j) = lN (clr m W c i row (c * W + j)) from congrArg lN w2]
            first | with_reducible refine aw_lmulN D_tr_clearBelow_100 ?_ | refine aw_lmul D_tr_clearBelow_100 ?_
            first | with_reducible refine aw_laddN D_tr_clearBelow_101 ?_ | refine aw_ladd D_tr_clearBelow_101 ?_
            refine aw_ldc2 D_tr_clearBelow_102 ?_
            first | with_reducible refine aw_lremN D_tr_clearBelow_105 (by omega) (by omega) (by omega) ?_ | refine aw_lrem D_tr_clearBelow_105 (by decide) ?_
            refine aw_lastN D_tr_clearBelow_106 (lC _) (by omega) (by omega) ?_
            rw [updw_twice hC, cin_up hcj (by omega)]
            first | refine aw_incN D_tr_clearBelow_107 rfl (Nat.le_of_ble_eq_true rfl) rfl ?_ | refine aw_inc D_tr_clearBelow_107 rfl (Nat.le_of_ble_eq_true rfl) rfl ?_
            refine aw_goto D_tr_clearBelow_110 ?_
            refine aw_take 6 ?_
            exact ihy (j + 1) (by omega) (by omega) (Or.inl h2)
      refine aw_iload D_tr_clearBelow_5 rfl ?_
      refine aw_aload_n 0 D_tr_clearBelow_7 rfl rfl ?_
      refine aw_get D_tr_clearBelow_8 (lT _) rfl ?_
      refine aw_icmp_geN D_tr_clearBelow_11 (by omega) (by omega) (fun h => absurd h (by omega)) (fun h => ?_)
      refine aw_ldc2 D_tr_clearBelow_14 ?_
      refine aw_aload_n 0 D_tr_clearBelow_17 rfl rfl ?_
      refine aw_get D_tr_clearBelow_18 (lT _) rfl ?_
      refine aw_iload D_tr_clearBelow_21 rfl ?_
      refine aw_aload_n 0 D_tr_clearBelow_23 rfl rfl ?_
      refine aw_get D_tr_clearBelow_24 (lT _) rfl ?_
      first | with_reducible refine aw_imulN D_tr_clearBelow_27 ?_ | refine aw_imul D_tr_clearBelow_27 ?_
      refine aw_iload_n 1 D_tr_clearBelow_28 rfl rfl ?_
      first | with_reducible refine aw_iaddN D_tr_clearBelow_29 ?_ | refine aw_iadd D_tr_clearBelow_29 ?_
      refine aw_laldN D_tr_clearBelow_30 (lC _) (by omega) (by omega) ?_
      rw [show lF (clr m W c i row) (row * W + c) = lN (m (row * W + c)) from congrArg lN v1]
      first | with_reducible refine aw_lsubN D_tr_clearBelow_31 (by omega) ?_ | refine aw_lsub D_tr_clearBelow_31 ?_
      refine aw_lload_n 2 D_tr_clearBelow_32 rfl rfl ?_
      first | with_reducible refine aw_lmulN D_tr_clearBelow_33 ?_ | refine aw_lmul D_tr_clearBelow_33 ?_
      refine aw_ldc2 D_tr_clearBelow_34 ?_
      first | with_reducible refine aw_lremN D_tr_clearBelow_37 (by omega) (by omega) (by omega) ?_ | refine aw_lrem D_tr_clearBelow_37 (by decide) ?_
      refine aw_lstore D_tr_clearBelow_38 (Nat.le_of_ble_eq_true rfl) rfl ?_
      refine aw_iload_n 1 D_tr_clearBelow_40 rfl rfl ?_
      refine aw_istore D_tr_clearBelow_41 (Nat.le_of_ble_eq_true rfl) rfl ?_
      have := inner (W - c) c (by omega) (Nat.le_refl _) (Or.inr rfl)
      rw [show cin (clr m W c i row) W c (fac m W c i row) row c = clr m W c i row from funext fun k => by unfold cin; rw [if_neg (fun z => by omega)]] at this
      exact this
  refine aw_iload_n 1 D_tr_clearBelow_0 rfl rfl ?_
  refine aw_iconst (nI 1) D_tr_clearBelow_1 rfl ?_
  first | with_reducible refine aw_iaddN D_tr_clearBelow_2 ?_ | refine aw_iadd D_tr_clearBelow_2 ?_
  refine aw_istore D_tr_clearBelow_3 (Nat.le_of_ble_eq_true rfl) rfl ?_
  have := key (W - (c + 1)) (c + 1) (by omega) (by omega)
  rw [show clr m W c i (c + 1) = m from funext fun k => by unfold clr; rw [if_neg (fun z => by omega)], updw_same hC] at this
  exact this
end Trees2
