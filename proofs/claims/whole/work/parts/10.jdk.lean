/-! ### the JDK's methods -/
section Jdk
variable {w : Wd}
/-- filling a row of ints -/
theorem c_fillI {q N : Nat} {f : Nat → Int32} {x : Int32} (hN : N < 2 ^ 31) (hq : look w q = some (.inl (0, N, .inl f))) : AMet M_ja_fillI [.ref q, .int x] w (Ex none (updw w q (.inl (0, N, .inl (fun j => if j < N then x else f j))))) 0 0 := by
  refine AMet.of [(0, .ref q), (1, .int x)] (by decide +kernel) rfl (Nat.le_of_ble_eq_true rfl) ?_
  refine aw_iconst (nI 0) D_ja_fillI_0 rfl ?_
  refine aw_istore_n 2 D_ja_fillI_1 rfl (Nat.le_of_ble_eq_true rfl) rfl ?_
  refine aw_aload_n 0 D_ja_fillI_2 rfl rfl ?_
  refine aw_alen D_ja_fillI_3 hq (by decide) ?_
  refine aw_istore_n 3 D_ja_fillI_4 rfl (Nat.le_of_ble_eq_true rfl) rfl ?_
  have key : ∀ (m i : Nat), i ≤ N → N - i = m → AW M_ja_fillI noP (Zp (Ex none (updw w q (.inl (0, N, .inl (fun j => if j < N then x else f j)))))) 0 0 5 [(0, .ref q), (1, .int x), (2, .int (nI i)), (3, .int (nI N))] [] (updw w q (.inl (0, N, .inl (fun j => if j < i then x else f j)))) 0 0 := by
    intro m
    induction m with
    | zero =>
      intro i hi hm
      refine aw_iload_n 2 D_ja_fillI_5 rfl rfl ?_
      refine aw_iload_n 3 D_ja_fillI_6 rfl rfl ?_
      refine aw_icmp_geN D_ja_fillI_7 (by omega) (by omega) (fun h => ?_) (fun h => absurd h (by omega))
      have : i = N := by omega
      subst this
      refine aw_return D_ja_fillI_20 rfl ?_
      exact ⟨rfl, rfl⟩
    | succ m ih =>
      intro i hi hm
      refine aw_iload_n 2 D_ja_fillI_5 rfl rfl ?_
      refine aw_iload_n 3 D_ja_fillI_6 rfl rfl ?_
      refine aw_icmp_geN D_ja_fillI_7 (by omega) (by omega) (fun h => absurd h (by omega)) (fun h => ?_)
      refine aw_aload_n 0 D_ja_fillI_10 rfl rfl ?_
      refine aw_iload_n 2 D_ja_fillI_11 rfl rfl ?_
      refine aw_iload_n 1 D_ja_fillI_12 rfl rfl ?_
      refine aw_iastJ D_ja_fillI_13 (by rw [look_updw hq, if_pos rfl]) (by omega) hN ?_
      first | refine aw_incN D_ja_fillI_14 rfl (Nat.le_of_ble_eq_true rfl) rfl ?_ | refine aw_inc D_ja_fillI_14 rfl (Nat.le_of_ble_eq_true rfl) rfl ?_
      refine aw_goto D_ja_fillI_17 ?_
      rw [updw_twice hq, upd_va, fill_up]
      exact ih (i + 1) (by omega) (by omega)
  have := key N 0 (Nat.zero_le _) rfl
  rw [show (fun j => if j < 0 then x else f j) = f from rfl, updw_same hq] at this
  exact this
/-- filling a row of longs -/
theorem c_fillJ {q N : Nat} {f : Nat → Int64} {x : Int64} (hN : N < 2 ^ 31) (hq : look w q = some (.inl (1, N, .inr (.inl f)))) : AMet M_ja_fillJ [.ref q, .long x] w (Ex none (updw w q (.inl (1, N, .inr (.inl (fun j => if j < N then x else f j)))))) 0 0 := by
  refine AMet.of [(0, .ref q), (1, .long x)] (by decide +kernel) rfl (Nat.le_of_ble_eq_true rfl) ?_
  refine aw_iconst (nI 0) D_ja_fillJ_0 rfl ?_
  refine aw_istore_n 3 D_ja_fillJ_1 rfl (Nat.le_of_ble_eq_true rfl) rfl ?_
  refine aw_aload_n 0 D_ja_fillJ_2 rfl rfl ?_
  refine aw_alen D_ja_fillJ_3 hq (by decide) ?_
  refine aw_istore D_ja_fillJ_4 (Nat.le_of_ble_eq_true rfl) rfl ?_
  have key : ∀ (m i : Nat), i ≤ N → N - i = m → AW M_ja_fillJ noP (Zp (Ex none (updw w q (.inl (1, N, .inr (.inl (fun j => if j < N then x else f j))))))) 0 0 6 [(0, .ref q), (1, .long x), (3, .int (nI i)), (4, .int (nI N))] [] (updw w q (.inl (1, N, .inr (.inl (fun j => if j < i then x else f j))))) 0 0 := by
    intro m
    induction m with
    | zero =>
      intro i hi hm
      refine aw_iload_n 3 D_ja_fillJ_6 rfl rfl ?_
      refine aw_iload D_ja_fillJ_7 rfl ?_
      refine aw_icmp_geN D_ja_fillJ_9 (by omega) (by omega) (fun h => ?_) (fun h => absurd h (by omega))
      have : i = N := by omega
      subst this
      refine aw_return D_ja_fillJ_22 rfl ?_
      exact ⟨rfl, rfl⟩
    | succ m ih =>
      intro i hi hm
      refine aw_iload_n 3 D_ja_fillJ_6 rfl rfl ?_
      refine aw_iload D_ja_fillJ_7 rfl ?_
      refine aw_icmp_geN D_ja_fillJ_9 (by omega) (by omega) (fun h => absurd h (by omega)) (fun h => ?_)
      refine aw_aload_n 0 D_ja_fillJ_12 rfl rfl ?_
      refine aw_iload_n 3 D_ja_fillJ_13 rfl rfl ?_
      refine aw_lload_n 1 D_ja_fillJ_14 rfl rfl ?_
      refine aw_lastJ D_ja_fillJ_15 (by rw [look_updw hq, if_pos rfl]) (by omega) hN ?_
      first | refine aw_incN D_ja_fillJ_16 rfl (Nat.le_of_ble_eq_true rfl) rfl ?_ | refine aw_inc D_ja_fillJ_16 rfl (Nat.le_of_ble_eq_true rfl) rfl ?_
      refine aw_goto D_ja_fillJ_19 ?_
      rw [updw_twice hq, updL_va, fill_up]
      exact ih (i + 1) (by omega) (by omega)
  have := key N 0 (Nat.zero_le _) rfl
  rw [show (fun j => if j < 0 then x else f j) = f from rfl, updw_same hq] at this
  exact this
/-- filling the front of a row of ints -/
theorem c_range {n a c : Nat} (hn : n < 2 ^ 31) (hac : a ≤ c) (hcn : c ≤ n) : AMet M_ja_rangeCheck [.int (nI n), .int (nI a), .int (nI c)] w (Ex none w) 0 0 := by
  refine AMet.of [(0, .int (nI n)), (1, .int (nI a)), (2, .int (nI c))] (by decide +kernel) rfl (Nat.le_of_ble_eq_true rfl) ?_
  refine aw_iload_n 1 D_ja_rangeCheck_0 rfl rfl ?_
  refine aw_iload_n 2 D_ja_rangeCheck_1 rfl rfl ?_
  refine aw_icmp_leN D_ja_rangeCheck_2 (by omega) (by omega) (fun h => ?_) (fun h => absurd h (by omega))
  refine aw_iload_n 1 D_ja_rangeCheck_46 rfl rfl ?_
  refine aw_if_geN D_ja_rangeCheck_47 (by omega) ?_
  refine aw_iload_n 2 D_ja_rangeCheck_59 rfl rfl ?_
  refine aw_iload_n 0 D_ja_rangeCheck_60 rfl rfl ?_
  refine aw_icmp_leN D_ja_rangeCheck_61 (by omega) (by omega) (fun h => ?_) (fun h => absurd h (by omega))
  refine aw_return D_ja_rangeCheck_73 rfl ?_
  exact ⟨rfl, rfl⟩
theorem c_fillR {q N c : Nat} {f : Nat → Int32} {x : Int32} (hN : N < 2 ^ 31) (hc : c ≤ N) (hq : look w q = some (.inl (0, N, .inl f))) : AMet M_ja_fillR [.ref q, .int (nI 0), .int (nI c), .int x] w (Ex none (updw w q (.inl (0, N, .inl (fun j => if j < c then x else f j))))) 0 0 := by
  refine AMet.of [(0, .ref q), (1, .int (nI 0)), (2, .int (nI c)), (3, .int x)] (by decide +kernel) rfl (Nat.le_of_ble_eq_true rfl) ?_
  refine aw_aload_n 0 D_ja_fillR_0 rfl rfl ?_
  refine aw_alen D_ja_fillR_1 hq (by decide) ?_
  refine aw_iload_n 1 D_ja_fillR_2 rfl rfl ?_
  refine aw_iload_n 2 D_ja_fillR_3 rfl rfl ?_
  refine aw_callSv (As := [_, _, _]) D_ja_fillR_4 kv_ja_rangeCheck (c_range hN (Nat.zero_le c) hc) rfl rfl (Nat.le_of_ble_eq_true rfl) (Nat.zero_le _) (Nat.zero_le _) ?_
  refine aw_iload_n 1 D_ja_fillR_7 rfl rfl ?_
  refine aw_istore D_ja_fillR_8 (Nat.le_of_ble_eq_true rfl) rfl ?_
  have key : ∀ (m i : Nat), i ≤ c → c - i = m → AW M_ja_fillR noP (Zp (Ex none (updw w q (.inl (0, N, .inl (fun j => if j < c then x else f j)))))) 0 0 10 [(0, .ref q), (1, .int (nI 0)), (2, .int (nI c)), (3, .int x), (4, .int (nI i))] [] (updw w q (.inl (0, N, .inl (fun j => if j < i then x else f j)))) 0 0 := by
    intro m
    induction m with
    | zero =>
      intro i hi hm
      refine aw_iload D_ja_fillR_10 rfl ?_
      refine aw_iload_n 2 D_ja_fillR_12 rfl rfl ?_
      refine aw_icmp_geN D_ja_fillR_13 (by omega) (by omega) (fun h => ?_) (fun h => absurd h (by omega))
      have : i = c := by omega
      subst this
      refine aw_return D_ja_fillR_27 rfl ?_
      exact ⟨rfl, rfl⟩
    | succ m ih =>
      intro i hi hm
      refine aw_iload D_ja_fillR_10 rfl ?_
      refine aw_iload_n 2 D_ja_fillR_12 rfl rfl ?_
      refine aw_icmp_geN D_ja_fillR_13 (by omega) (by omega) (fun h => absurd h (by omega)) (fun h => ?_)
      refine aw_aload_n 0 D_ja_fillR_16 rfl rfl ?_
      refine aw_iload D_ja_fillR_17 rfl ?_
      refine aw_iload_n 3 D_ja_fillR_19 rfl rfl ?_
      refine aw_iastJ D_ja_fillR_20 (by rw [look_updw hq, if_pos rfl]) (by omega) hN ?_
      first | refine aw_incN D_ja_fillR_21 rfl (Nat.le_of_ble_eq_true rfl) rfl ?_ | refine aw_inc D_ja_fillR_21 rfl (Nat.le_of_ble_eq_true rfl) rfl ?_
      refine aw_goto D_ja_fillR_24 ?_
      rw [updw_twice hq, upd_va, fill_up]
      exact ih (i + 1) (by omega) (by omega)
  have := key c 0 (Nat.zero_le _) rfl
  rw [show (fun j => if j < 0 then x else f j) = f from rfl, updw_same hq] at this
  exact this
/-- how many bits are 1: as the machine counts them -/
def pcI (x0 : Int32) : Int32 :=
  let sh (x : Int32) (k : Nat) : Int32 := (x.toUInt32 >>> ((nI k).toUInt32 &&& Int32.toUInt32 31)).toInt32
  let x1 := x0 - (sh x0 1 &&& nI 1431655765)
  let x2 := (x1 &&& nI 858993459) + (sh x1 2 &&& nI 858993459)
  let x3 := (x2 + sh x2 4) &&& nI 252645135
  let x4 := x3 + sh x3 8
  let x5 := x4 + sh x4 16
  x5 &&& nI 63
def pcL (x0 : Int64) : Int32 :=
  let sh (x : Int64) (k : Nat) : Int64 := (x.toUInt64 >>> ((nI k).toInt64.toUInt64 &&& Int64.toUInt64 63)).toInt64
  let x1 := x0 - (sh x0 1 &&& lN 6148914691236517205)
  let x2 := (x1 &&& lN 3689348814741910323) + (sh x1 2 &&& lN 3689348814741910323)
  let x3 := (x2 + sh x2 4) &&& lN 1085102592571150095
  let x4 := x3 + sh x3 8
  let x5 := x4 + sh x4 16
  let x6 := x5 + sh x5 32
  x6.toInt32 &&& nI 127
theorem c_bitI {x : Int32} : AMet M_ji_bitCount [.int x] w (Ex (some (.int (pcI x))) w) 0 0 := by
  refine AMet.of [(0, .int x)] (by decide +kernel) rfl (Nat.le_of_ble_eq_true rfl) ?_
  refine aw_iload_n 0 D_ji_bitCount_0 rfl rfl ?_
  refine aw_iload_n 0 D_ji_bitCount_1 rfl rfl ?_
  refine aw_iconst (nI 1) D_ji_bitCount_2 rfl ?_
  refine aw_iushr D_ji_bitCount_3 ?_
  refine aw_ldc D_ji_bitCount_4 ?_
  first | with_reducible refine aw_iandN D_ji_bitCount_7 ?_ | refine aw_iand D_ji_bitCount_7 ?_
  first | with_reducible refine aw_isubN D_ji_bitCount_8 (by omega) ?_ | refine aw_isub D_ji_bitCount_8 ?_
  refine aw_istore_n 0 D_ji_bitCount_9 rfl (Nat.le_of_ble_eq_true rfl) rfl ?_
  refine aw_iload_n 0 D_ji_bitCount_10 rfl rfl ?_
  refine aw_ldc D_ji_bitCount_11 ?_
  first | with_reducible refine aw_iandN D_ji_bitCount_14 ?_ | refine aw_iand D_ji_bitCount_14 ?_
  refine aw_iload_n 0 D_ji_bitCount_15 rfl rfl ?_
  refine aw_iconst (nI 2) D_ji_bitCount_16 rfl ?_
  refine aw_iushr D_ji_bitCount_17 ?_
  refine aw_ldc D_ji_bitCount_18 ?_
  first | with_reducible refine aw_iandN D_ji_bitCount_21 ?_ | refine aw_iand D_ji_bitCount_21 ?_
  first | with_reducible refine aw_iaddN D_ji_bitCount_22 ?_ | refine aw_iadd D_ji_bitCount_22 ?_
  refine aw_istore_n 0 D_ji_bitCount_23 rfl (Nat.le_of_ble_eq_true rfl) rfl ?_
  refine aw_iload_n 0 D_ji_bitCount_24 rfl rfl ?_
  refine aw_iload_n 0 D_ji_bitCount_25 rfl rfl ?_
  refine aw_iconst (nI 4) D_ji_bitCount_26 rfl ?_
  refine aw_iushr D_ji_bitCount_27 ?_
  first | with_reducible refine aw_iaddN D_ji_bitCount_28 ?_ | refine aw_iadd D_ji_bitCount_28 ?_
  refine aw_ldc D_ji_bitCount_29 ?_
  first | with_reducible refine aw_iandN D_ji_bitCount_32 ?_ | refine aw_iand D_ji_bitCount_32 ?_
  refine aw_istore_n 0 D_ji_bitCount_33 rfl (Nat.le_of_ble_eq_true rfl) rfl ?_
  refine aw_iload_n 0 D_ji_bitCount_34 rfl rfl ?_
  refine aw_iload_n 0 D_ji_bitCount_35 rfl rfl ?_
  refine aw_bipush (nI 8) D_ji_bitCount_36 rfl ?_
  refine aw_iushr D_ji_bitCount_38 ?_
  first | with_reducible refine aw_iaddN D_ji_bitCount_39 ?_ | refine aw_iadd D_ji_bitCount_39 ?_
  refine aw_istore_n 0 D_ji_bitCount_40 rfl (Nat.le_of_ble_eq_true rfl) rfl ?_
  refine aw_iload_n 0 D_ji_bitCount_41 rfl rfl ?_
  refine aw_iload_n 0 D_ji_bitCount_42 rfl rfl ?_
  refine aw_bipush (nI 16) D_ji_bitCount_43 rfl ?_
  refine aw_iushr D_ji_bitCount_45 ?_
  first | with_reducible refine aw_iaddN D_ji_bitCount_46 ?_ | refine aw_iadd D_ji_bitCount_46 ?_
  refine aw_istore_n 0 D_ji_bitCount_47 rfl (Nat.le_of_ble_eq_true rfl) rfl ?_
  refine aw_iload_n 0 D_ji_bitCount_48 rfl rfl ?_
  refine aw_bipush (nI 63) D_ji_bitCount_49 rfl ?_
  first | with_reducible refine aw_iandN D_ji_bitCount_51 ?_ | refine aw_iand D_ji_bitCount_51 ?_
  refine aw_ireturn D_ji_bitCount_52 rfl rfl ?_
  exact ⟨rfl, rfl⟩
theorem c_bitL {x : Int64} : AMet M_jl_bitCount [.long x] w (Ex (some (.int (pcL x))) w) 0 0 := by
  refine AMet.of [(0, .long x)] (by decide +kernel) rfl (Nat.le_of_ble_eq_true rfl) ?_
  refine aw_lload_n 0 D_jl_bitCount_0 rfl rfl ?_
  refine aw_lload_n 0 D_jl_bitCount_1 rfl rfl ?_
  refine aw_iconst (nI 1) D_jl_bitCount_2 rfl ?_
  refine aw_lushr D_jl_bitCount_3 ?_
  refine aw_ldc2 D_jl_bitCount_4 ?_
  refine aw_land D_jl_bitCount_7 ?_
  first | with_reducible refine aw_lsubN D_jl_bitCount_8 (by omega) ?_ | refine aw_lsub D_jl_bitCount_8 ?_
  refine aw_lstore_n 0 D_jl_bitCount_9 rfl (Nat.le_of_ble_eq_true rfl) rfl ?_
  refine aw_lload_n 0 D_jl_bitCount_10 rfl rfl ?_
  refine aw_ldc2 D_jl_bitCount_11 ?_
  refine aw_land D_jl_bitCount_14 ?_
  refine aw_lload_n 0 D_jl_bitCount_15 rfl rfl ?_
  refine aw_iconst (nI 2) D_jl_bitCount_16 rfl ?_
  refine aw_lushr D_jl_bitCount_17 ?_
  refine aw_ldc2 D_jl_bitCount_18 ?_
  refine aw_land D_jl_bitCount_21 ?_
  first | with_reducible refine aw_laddN D_jl_bitCount_22 ?_ | refine aw_ladd D_jl_bitCount_22 ?_
  refine aw_lstore_n 0 D_jl_bitCount_23 rfl (Nat.le_of_ble_eq_true rfl) rfl ?_
  refine aw_lload_n 0 D_jl_bitCount_24 rfl rfl ?_
  refine aw_lload_n 0 D_jl_bitCount_25 rfl rfl ?_
  refine aw_iconst (nI 4) D_jl_bitCount_26 rfl ?_
  refine aw_lushr D_jl_bitCount_27 ?_
  first | with_reducible refine aw_laddN D_jl_bitCount_28 ?_ | refine aw_ladd D_jl_bitCount_28 ?_
  refine aw_ldc2 D_jl_bitCount_29 ?_
  refine aw_land D_jl_bitCount_32 ?_
  refine aw_lstore_n 0 D_jl_bitCount_33 rfl (Nat.le_of_ble_eq_true rfl) rfl ?_
  refine aw_lload_n 0 D_jl_bitCount_34 rfl rfl ?_
  refine aw_lload_n 0 D_jl_bitCount_35 rfl rfl ?_
  refine aw_bipush (nI 8) D_jl_bitCount_36 rfl ?_
  refine aw_lushr D_jl_bitCount_38 ?_
  first | with_reducible refine aw_laddN D_jl_bitCount_39 ?_ | refine aw_ladd D_jl_bitCount_39 ?_
  refine aw_lstore_n 0 D_jl_bitCount_40 rfl (Nat.le_of_ble_eq_true rfl) rfl ?_
  refine aw_lload_n 0 D_jl_bitCount_41 rfl rfl ?_
  refine aw_lload_n 0 D_jl_bitCount_42 rfl rfl ?_
  refine aw_bipush (nI 16) D_jl_bitCount_43 rfl ?_
  refine aw_lushr D_jl_bitCount_45 ?_
  first | with_reducible refine aw_laddN D_jl_bitCount_46 ?_ | refine aw_ladd D_jl_bitCount_46 ?_
  refine aw_lstore_n 0 D_jl_bitCount_47 rfl (Nat.le_of_ble_eq_true rfl) rfl ?_
  refine aw_lload_n 0 D_jl_bitCount_48 rfl rfl ?_
  refine aw_lload_n 0 D_jl_bitCount_49 rfl rfl ?_
  refine aw_bipush (nI 32) D_jl_bitCount_50 rfl ?_
  refine aw_lushr D_jl_bitCount_52 ?_
  first | with_reducible refine aw_laddN D_jl_bitCount_53 ?_ | refine aw_ladd D_jl_bitCount_53 ?_
  refine aw_lstore_n 0 D_jl_bitCount_54 rfl (Nat.le_of_ble_eq_true rfl) rfl ?_
  refine aw_lload_n 0 D_jl_bitCount_55 rfl rfl ?_
  first | with_reducible refine aw_l2iN D_jl_bitCount_56 ?_ | refine aw_l2i D_jl_bitCount_56 ?_
  refine aw_bipush (nI 127) D_jl_bitCount_57 rfl ?_
  first | with_reducible refine aw_iandN D_jl_bitCount_59 ?_ | refine aw_iand D_jl_bitCount_59 ?_
  refine aw_ireturn D_jl_bitCount_60 rfl rfl ?_
  exact ⟨rfl, rfl⟩
end Jdk
