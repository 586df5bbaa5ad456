/-! ### trees counted: a determinant, modulo 1000003 -/

theorem idx_lt {W r j : Nat} (hr : r < W) (hj : j < W) : r * W + j < W * W := by
  have h1 : (r + 1) * W ≤ W * W := Nat.mul_le_mul_right _ hr
  rw [Nat.add_mul, Nat.one_mul] at h1
  omega
theorem idx_row {W r j : Nat} (hj : j < W) : (r * W + j) / W = r ∧ (r * W + j) % W = j := by
  have hW : 0 < W := by omega
  constructor
  · rw [Nat.mul_comm, Nat.mul_add_div hW, Nat.div_eq_of_lt hj, Nat.add_zero]
  · rw [Nat.mul_comm, Nat.mul_add_mod, Nat.mod_eq_of_lt hj]
theorem mulP {a c : Nat} (ha : a < 1000003) (hc : c < 1000003) : a * c < 1000003 * 1000003 := Nat.mul_lt_mul'' ha hc
def ad1 (m : Nat → Nat) (i a : Nat) : Nat → Nat := va_up m i ((m i + a) % 1000003)
theorem ad1_lt {m : Nat → Nat} (h : ∀ i, m i < 1000003) (i a : Nat) : ∀ k, ad1 m i a k < 1000003 := by
  intro k
  unfold ad1 va_up
  split
  · exact Nat.mod_lt _ (by decide)
  · exact h k
def adA (m : Nat → Nat) (W x : Nat) : Nat → Nat := if x < W then ad1 m (x * W + x) 1 else m
def adB (m : Nat → Nat) (W x y : Nat) : Nat → Nat := if x < W ∧ y < W then ad1 (ad1 m (x * W + y) (1000003 - 1)) (y * W + x) (1000003 - 1) else m
def adp (m : Nat → Nat) (W x y : Nat) : Nat → Nat := adB (adA (adA m W x) W y) W x y
theorem adA_lt {m : Nat → Nat} (h : ∀ i, m i < 1000003) (W x : Nat) : ∀ k, adA m W x k < 1000003 := by
  unfold adA
  split
  · exact ad1_lt h _ _
  · exact h
theorem adp_lt {m : Nat → Nat} (h : ∀ i, m i < 1000003) (W x y : Nat) : ∀ k, adp m W x y k < 1000003 := by
  unfold adp adB
  split
  · exact ad1_lt (ad1_lt (adA_lt (adA_lt h _ _) _ _) _ _) _ _
  · exact adA_lt (adA_lt h _ _) _ _
/-- pairs of partners below t, added -/
def bld (ro : Nat → Nat) (W : Nat) : Nat → Nat → Nat
  | 0 => fun _ => 0
  | t + 1 => if ro (2 * t) = ro (2 * t + 1) then bld ro W t else adp (bld ro W t) W (ro (2 * t)) (ro (2 * t + 1))
theorem bld_lt (ro : Nat → Nat) (W : Nat) : ∀ t k, bld ro W t k < 1000003
  | 0, _ => by show 0 < 1000003; decide
  | t + 1, k => by
    unfold bld
    split
    · exact bld_lt ro W t k
    · exact adp_lt (bld_lt ro W t) _ _ _ k
def iv : Nat → Nat → Nat → Nat → Nat
  | 0, res, _, _ => res
  | f + 1, res, pw, left => if left = 0 then res else iv f (if left % 2 = 1 then res * pw % 1000003 else res) (pw * pw % 1000003) (left / 2)
def inv (x : Nat) : Nat := iv 20 1 x 1000001
theorem iv_lt : ∀ f res pw left, res < 1000003 → iv f res pw left < 1000003
  | 0, res, _, _, h => h
  | f + 1, res, pw, left, h => by
    unfold iv
    split
    · exact h
    · refine iv_lt f _ _ _ ?_
      split
      · exact Nat.mod_lt _ (by decide)
      · exact h
theorem inv_lt (x : Nat) : inv x < 1000003 := iv_lt _ _ _ _ (by decide)
/-- the first row from r on with a cell that isn't 0 in column c; W, if there is none -/
def pvr (m : Nat → Nat) (W c : Nat) : Nat → Nat → Nat
  | 0, r => r
  | k + 1, r => if m (r * W + c) ≠ 0 then r else pvr m W c k (r + 1)
def piv (m : Nat → Nat) (W c : Nat) : Nat := pvr m W c (W - c) c
theorem pvr_ge (m : Nat → Nat) (W c : Nat) : ∀ k r, r ≤ pvr m W c k r ∧ pvr m W c k r ≤ r + k
  | 0, r => ⟨Nat.le_refl _, Nat.le_refl _⟩
  | k + 1, r => by
    unfold pvr
    split
    · omega
    · have := pvr_ge m W c k (r + 1)
      omega
/-- rows r and c change places, from column c on -/
def swp (m : Nat → Nat) (W r c i : Nat) : Nat → Nat := fun k => if c ≤ k % W ∧ k % W < i ∧ k / W = r then m (c * W + k % W) else if c ≤ k % W ∧ k % W < i ∧ k / W = c then m (r * W + k % W) else m k
def fac (m : Nat → Nat) (W c iv row : Nat) : Nat := (1000003 - m (row * W + c)) * iv % 1000003
/-- rows below c, above i, are cleared with row c, from column c on -/
def clr (m : Nat → Nat) (W c iv i : Nat) : Nat → Nat := fun k => if c < k / W ∧ k / W < i ∧ c ≤ k % W then (m k + fac m W c iv (k / W) * m (c * W + k % W)) % 1000003 else m k
def dts (m : Nat → Nat) (W : Nat) : Nat → Nat → Nat → Nat
  | 0, _, p => p
  | k + 1, c, p =>
    let r := piv m W c
    if r = W then 0 else
    let m1 := if r = c then m else swp m W r c W
    let p1 := if r = c then p else 1000003 - p
    dts (clr m1 W c (inv (m1 (c * W + c))) W) W k (c + 1) (p1 * m1 (c * W + c) % 1000003)
section Trees
variable {w : Wd} {kc W M : Nat} {m : Nat → Nat}
theorem c_tr_inverse {x : Nat} (hx : x < 1000003) : AMet M_tr_inverse [.long (lN x)] w (Ex (some (.long (lN (inv x)))) w) 0 0 := by
  refine AMet.of [(0, .long (lN x))] (by decide +kernel) rfl (Nat.le_of_ble_eq_true rfl) ?_
  have key : ∀ (f res pw left : Nat), left < 2 ^ f → left < 2 ^ 31 → res < 1000003 → pw < 1000003 → AW M_tr_inverse noP (Zp (Ex (some (.long (lN (iv f res pw left)))) w)) 0 0 9 [(0, .long (lN x)), (2, .long (lN res)), (4, .long (lN pw)), (6, .int (nI left))] [] w 0 0 := by
    intro f
    induction f with
    | zero =>
      intro res pw left h1 h31 h2 h3
      have : left = 0 := by omega
      subst this
      refine aw_iload D_tr_inverse_9 rfl ?_
      refine aw_if_leN D_tr_inverse_11 (by omega) (fun h => ?_) (fun h => absurd h (by omega))
      refine aw_lload_n 2 D_tr_inverse_51 rfl rfl ?_
      refine aw_lreturn D_tr_inverse_52 rfl ?_
      exact ⟨rfl, rfl⟩
    | succ f ih =>
      intro res pw left h1 h31 h2 h3
      have e1 := mulP h2 h3
      have e2 := mulP h3 h3
      have hh : left / 2 < 2 ^ f := by rw [Nat.pow_succ] at h1; omega
      refine aw_iload D_tr_inverse_9 rfl ?_
      unfold iv
      refine aw_if_leN D_tr_inverse_11 (by omega) (fun h => ?_) (fun h => ?_)
      · rw [if_pos h]
        refine aw_lload_n 2 D_tr_inverse_51 rfl rfl ?_
        refine aw_lreturn D_tr_inverse_52 rfl ?_
        exact ⟨rfl, rfl⟩
      · rw [if_neg (by omega)]
        refine aw_iload D_tr_inverse_14 rfl ?_
        refine aw_iconst (nI 1) D_tr_inverse_16 rfl ?_
        first | with_reducible refine aw_iandN D_tr_inverse_17 ?_ | refine aw_iand D_tr_inverse_17 ?_
        refine aw_iconst (nI 1) D_tr_inverse_18 rfl ?_
        rw [Nat.and_one_is_mod]
        refine aw_icmp_neN D_tr_inverse_19 (by omega) (by omega) (fun h4 => ?_) (fun h4 => ?_)
        · rw [if_neg h4]
          refine aw_lload D_tr_inverse_31 rfl ?_
          refine aw_lload D_tr_inverse_33 rfl ?_
          first | with_reducible refine aw_lmulN D_tr_inverse_35 ?_ | refine aw_lmul D_tr_inverse_35 ?_
          refine aw_ldc2 D_tr_inverse_36 ?_
          first | with_reducible refine aw_lremN D_tr_inverse_39 (by omega) (by omega) (by omega) ?_ | refine aw_lrem D_tr_inverse_39 (by decide) ?_
          refine aw_lstore D_tr_inverse_40 (Nat.le_of_ble_eq_true rfl) rfl ?_
          refine aw_iload D_tr_inverse_42 rfl ?_
          refine aw_iconst (nI 1) D_tr_inverse_44 rfl ?_
          first | with_reducible refine aw_ishrN D_tr_inverse_45 (by omega) (by omega) ?_ | refine aw_ishr D_tr_inverse_45 ?_
          refine aw_istore D_tr_inverse_46 (Nat.le_of_ble_eq_true rfl) rfl ?_
          refine aw_goto D_tr_inverse_48 ?_
          rw [show left / 2 ^ 1 = left / 2 by rfl]
          exact ih res _ _ hh (by omega) h2 (Nat.mod_lt _ (by decide))
        · rw [if_pos h4]
          refine aw_lload_n 2 D_tr_inverse_22 rfl rfl ?_
          refine aw_lload D_tr_inverse_23 rfl ?_
          first | with_reducible refine aw_lmulN D_tr_inverse_25 ?_ | refine aw_lmul D_tr_inverse_25 ?_
          refine aw_ldc2 D_tr_inverse_26 ?_
          first | with_reducible refine aw_lremN D_tr_inverse_29 (by omega) (by omega) (by omega) ?_ | refine aw_lrem D_tr_inverse_29 (by decide) ?_
          refine aw_lstore_n 2 D_tr_inverse_30 rfl (Nat.le_of_ble_eq_true rfl) rfl ?_
          refine aw_lload D_tr_inverse_31 rfl ?_
          refine aw_lload D_tr_inverse_33 rfl ?_
          first | with_reducible refine aw_lmulN D_tr_inverse_35 ?_ | refine aw_lmul D_tr_inverse_35 ?_
          refine aw_ldc2 D_tr_inverse_36 ?_
          first | with_reducible refine aw_lremN D_tr_inverse_39 (by omega) (by omega) (by omega) ?_ | refine aw_lrem D_tr_inverse_39 (by decide) ?_
          refine aw_lstore D_tr_inverse_40 (Nat.le_of_ble_eq_true rfl) rfl ?_
          refine aw_iload D_tr_inverse_42 rfl ?_
          refine aw_iconst (nI 1) D_tr_inverse_44 rfl ?_
          first | with_reducible refine aw_ishrN D_tr_inverse_45 (by omega) (by omega) ?_ | refine aw_ishr D_tr_inverse_45 ?_
          refine aw_istore D_tr_inverse_46 (Nat.le_of_ble_eq_true rfl) rfl ?_
          refine aw_goto D_tr_inverse_48 ?_
          rw [show left / 2 ^ 1 = left / 2 by rfl]
          exact ih _ _ _ hh (by omega) (Nat.mod_lt _ (by decide)) (Nat.mod_lt _ (by decide))
  refine aw_lconst (lN 1) D_tr_inverse_0 rfl ?_
  refine aw_lstore_n 2 D_tr_inverse_1 rfl (Nat.le_of_ble_eq_true rfl) rfl ?_
  refine aw_lload_n 0 D_tr_inverse_2 rfl rfl ?_
  refine aw_lstore D_tr_inverse_3 (Nat.le_of_ble_eq_true rfl) rfl ?_
  refine aw_ldc D_tr_inverse_5 ?_
  refine aw_istore D_tr_inverse_7 (Nat.le_of_ble_eq_true rfl) rfl ?_
  exact key 20 1 x 1000001 (by decide) (by decide) (by decide) hx
theorem c_tr_add {r j a : Nat} (hr : r < W) (hj : j < W) (hW : W ≤ 512) (hWM : W * W ≤ M) (hM : M < 2 ^ 31) (ha : a < 1000003) (hm : ∀ i, m i < 1000003) (hT : look w 3 = some (.inr (4, [.ref kc, .int (nI W)]))) (hC : look w kc = some (.inl (1, M, .inr (.inl (lF m))))) : AMet M_tr_add [.ref 3, .int (nI r), .int (nI j), .long (lN a)] w (Ex none (updw w kc (.inl (1, M, .inr (.inl (lF (ad1 m (r * W + j) a))))))) 0 0 := by
  have hi := idx_lt hr hj
  have hmi := hm (r * W + j)
  refine AMet.of [(0, .ref 3), (1, .int (nI r)), (2, .int (nI j)), (3, .long (lN a))] (by decide +kernel) rfl (Nat.le_of_ble_eq_true rfl) ?_
  refine aw_iload_n 1 D_tr_add_0 rfl rfl ?_
  refine aw_aload_n 0 D_tr_add_1 rfl rfl ?_
  refine aw_get D_tr_add_2 (hT) rfl ?_
  first | with_reducible refine aw_imulN D_tr_add_5 ?_ | refine aw_imul D_tr_add_5 ?_
  refine aw_iload_n 2 D_tr_add_6 rfl rfl ?_
  first | with_reducible refine aw_iaddN D_tr_add_7 ?_ | refine aw_iadd D_tr_add_7 ?_
  refine aw_istore D_tr_add_8 (Nat.le_of_ble_eq_true rfl) rfl ?_
  refine aw_aload_n 0 D_tr_add_10 rfl rfl ?_
  refine aw_get D_tr_add_11 (hT) rfl ?_
  refine aw_iload D_tr_add_14 rfl ?_
  refine aw_aload_n 0 D_tr_add_16 rfl rfl ?_
  refine aw_get D_tr_add_17 (hT) rfl ?_
  refine aw_iload D_tr_add_20 rfl ?_
  refine aw_laldN D_tr_add_22 (hC) (by omega) (by omega) ?_
  refine aw_lload_n 3 D_tr_add_23 rfl rfl ?_
  first | with_reducible refine aw_laddN D_tr_add_24 ?_ | refine aw_ladd D_tr_add_24 ?_
  refine aw_ldc2 D_tr_add_25 ?_
  first | with_reducible refine aw_lremN D_tr_add_28 (by omega) (by omega) (by omega) ?_ | refine aw_lrem D_tr_add_28 (by decide) ?_
  refine aw_lastN D_tr_add_29 (hC) (by omega) (by omega) ?_
  refine aw_return D_tr_add_30 rfl ?_
  exact ⟨rfl, rfl⟩
theorem c_tr_addPair {x y : Nat} (hne : 3 ≠ kc) (hx : x < 2 ^ 31) (hy : y < 2 ^ 31) (hW : W ≤ 512) (hWM : W * W ≤ M) (hM : M < 2 ^ 31) (hm : ∀ i, m i < 1000003) (hT : look w 3 = some (.inr (4, [.ref kc, .int (nI W)]))) (hC : look w kc = some (.inl (1, M, .inr (.inl (lF m))))) : AMet M_tr_addPair [.ref 3, .int (nI x), .int (nI y)] w (Ex none (updw w kc (.inl (1, M, .inr (.inl (lF (adp m W x y))))))) 0 0 := by
  refine AMet.of [(0, .ref 3), (1, .int (nI x)), (2, .int (nI y))] (by decide +kernel) rfl (Nat.le_of_ble_eq_true rfl) ?_
  have lT : ∀ f : Nat → Nat, look (updw w kc (.inl (1, M, .inr (.inl (lF f))))) 3 = some (.inr (4, [.ref kc, .int (nI W)])) := fun f => by rw [look_updw hC, if_neg hne]; exact hT
  have lC : ∀ f : Nat → Nat, look (updw w kc (.inl (1, M, .inr (.inl (lF f))))) kc = some (.inl (1, M, .inr (.inl (lF f)))) := fun f => by rw [look_updw hC, if_pos rfl]
  have e0 : w = updw w kc (.inl (1, M, .inr (.inl (lF m)))) := (updw_same hC).symm
  have s3 : ∀ f : Nat → Nat, (∀ i, f i < 1000003) → AW M_tr_addPair noP (Zp (Ex none (updw w kc (.inl (1, M, .inr (.inl (lF (adB f W x y)))))))) 0 0 30 [(0, .ref 3), (1, .int (nI x)), (2, .int (nI y))] [] (updw w kc (.inl (1, M, .inr (.inl (lF f))))) 0 0 := by
    intro f hf
    unfold adB
    refine aw_iload_n 1 D_tr_addPair_30 rfl rfl ?_
    refine aw_aload_n 0 D_tr_addPair_31 rfl rfl ?_
    refine aw_get D_tr_addPair_32 (lT f) rfl ?_
    refine aw_icmp_geN D_tr_addPair_35 (by omega) (by omega) (fun h => ?_) (fun h => ?_)
    · rw [if_neg (fun z => by omega)]
      refine aw_return D_tr_addPair_64 rfl ?_
      exact ⟨rfl, rfl⟩
    · refine aw_iload_n 2 D_tr_addPair_38 rfl rfl ?_
      refine aw_aload_n 0 D_tr_addPair_39 rfl rfl ?_
      refine aw_get D_tr_addPair_40 (lT f) rfl ?_
      refine aw_icmp_geN D_tr_addPair_43 (by omega) (by omega) (fun h2 => ?_) (fun h2 => ?_)
      · rw [if_neg (fun z => by omega)]
        refine aw_return D_tr_addPair_64 rfl ?_
        exact ⟨rfl, rfl⟩
      · rw [if_pos ⟨h, h2⟩]
        refine aw_aload_n 0 D_tr_addPair_46 rfl rfl ?_
        refine aw_iload_n 1 D_tr_addPair_47 rfl rfl ?_
        refine aw_iload_n 2 D_tr_addPair_48 rfl rfl ?_
        refine aw_ldc2 D_tr_addPair_49 ?_
        refine aw_callVv (As := [_, _, _]) D_tr_addPair_52 kv_tr_add (c_tr_add h h2 hW hWM hM (by decide) hf (lT f) (lC f)) rfl rfl (lT f) rfl rfl (Nat.le_of_ble_eq_true rfl) (Nat.zero_le _) (Nat.zero_le _) ?_
        rw [updw_twice hC]
        refine aw_aload_n 0 D_tr_addPair_55 rfl rfl ?_
        refine aw_iload_n 2 D_tr_addPair_56 rfl rfl ?_
        refine aw_iload_n 1 D_tr_addPair_57 rfl rfl ?_
        refine aw_ldc2 D_tr_addPair_58 ?_
        refine aw_callVv (As := [_, _, _]) D_tr_addPair_61 kv_tr_add (c_tr_add h2 h hW hWM hM (by decide) (ad1_lt hf _ _) (lT _) (lC _)) rfl rfl (lT _) rfl rfl (Nat.le_of_ble_eq_true rfl) (Nat.zero_le _) (Nat.zero_le _) ?_
        rw [updw_twice hC]
        refine aw_return D_tr_addPair_64 rfl ?_
        exact ⟨rfl, rfl⟩
  have s2 : ∀ f : Nat → Nat, (∀ i, f i < 1000003) → AW M_tr_addPair noP (Zp (Ex none (updw w kc (.inl (1, M, .inr (.inl (lF (adB (adA f W y) W x y)))))))) 0 0 15 [(0, .ref 3), (1, .int (nI x)), (2, .int (nI y))] [] (updw w kc (.inl (1, M, .inr (.inl (lF f))))) 0 0 := by
    intro f hf
    have k3 := s3 (adA f W y) (adA_lt hf W y)
    unfold adA at k3 ⊢
    refine aw_iload_n 2 D_tr_addPair_15 rfl rfl ?_
    refine aw_aload_n 0 D_tr_addPair_16 rfl rfl ?_
    refine aw_get D_tr_addPair_17 (lT f) rfl ?_
    refine aw_icmp_geN D_tr_addPair_20 (by omega) (by omega) (fun h => ?_) (fun h => ?_)
    · rw [if_neg (by omega)] at k3 ⊢
      exact k3
    · rw [if_pos h] at k3 ⊢
      refine aw_aload_n 0 D_tr_addPair_23 rfl rfl ?_
      refine aw_iload_n 2 D_tr_addPair_24 rfl rfl ?_
      refine aw_iload_n 2 D_tr_addPair_25 rfl rfl ?_
      refine aw_lconst (lN 1) D_tr_addPair_26 rfl ?_
      refine aw_callVv (As := [_, _, _]) D_tr_addPair_27 kv_tr_add (c_tr_add h h hW hWM hM (by decide) hf (lT f) (lC f)) rfl rfl (lT f) rfl rfl (Nat.le_of_ble_eq_true rfl) (Nat.zero_le _) (Nat.zero_le _) ?_
      rw [updw_twice hC]
      exact k3
  have k2 := s2 (adA m W x) (adA_lt hm W x)
  show AW M_tr_addPair noP (Zp (Ex none (updw w kc (.inl (1, M, .inr (.inl (lF (adB (adA (adA m W x) W y) W x y)))))))) 0 0 0 [(0, .ref 3), (1, .int (nI x)), (2, .int (nI y))] [] w 0 0
  generalize hG : adB (adA (adA m W x) W y) W x y = G at k2 ⊢
  unfold adA at k2
  refine aw_iload_n 1 D_tr_addPair_0 rfl rfl ?_
  refine aw_aload_n 0 D_tr_addPair_1 rfl rfl ?_
  refine aw_get D_tr_addPair_2 (hT) rfl ?_
  refine aw_icmp_geN D_tr_addPair_5 (by omega) (by omega) (fun h => ?_) (fun h => ?_)
  · rw [if_neg (by omega), updw_same hC] at k2
    exact k2
  · rw [if_pos h] at k2
    refine aw_aload_n 0 D_tr_addPair_8 rfl rfl ?_
    refine aw_iload_n 1 D_tr_addPair_9 rfl rfl ?_
    refine aw_iload_n 1 D_tr_addPair_10 rfl rfl ?_
    refine aw_lconst (lN 1) D_tr_addPair_11 rfl ?_
    refine aw_callVv (As := [_, _, _]) D_tr_addPair_12 kv_tr_add (c_tr_add h h hW hWM hM (by decide) hm hT hC) rfl rfl (hT) rfl rfl (Nat.le_of_ble_eq_true rfl) (Nat.zero_le _) (Nat.zero_le _) ?_
    exact k2
theorem c_tr_pivot {c : Nat} (hc : c < W) (hW : W ≤ 512) (hWM : W * W ≤ M) (hM : M < 2 ^ 31) (hm : ∀ i, m i < 1000003) (hT : look w 3 = some (.inr (4, [.ref kc, .int (nI W)]))) (hC : look w kc = some (.inl (1, M, .inr (.inl (lF m))))) : AMet M_tr_pivotRow [.ref 3, .int (nI c)] w (Ex (some (.int (if piv m W c = W then -nI 1 else nI (piv m W c)))) w) 0 0 := by
  refine AMet.of [(0, .ref 3), (1, .int (nI c))] (by decide +kernel) rfl (Nat.le_of_ble_eq_true rfl) ?_
  have key : ∀ (k r : Nat), r + k = W → c ≤ r → AW M_tr_pivotRow noP (Zp (Ex (some (.int (if pvr m W c k r = W then -nI 1 else nI (pvr m W c k r)))) w)) 0 0 2 [(0, .ref 3), (1, .int (nI c)), (2, .int (nI r))] [] w 0 0 := by
    intro k
    induction k with
    | zero =>
      intro r hr hcr
      refine aw_iload_n 2 D_tr_pivotRow_2 rfl rfl ?_
      refine aw_aload_n 0 D_tr_pivotRow_3 rfl rfl ?_
      refine aw_get D_tr_pivotRow_4 (hT) rfl ?_
      refine aw_icmp_geN D_tr_pivotRow_7 (by omega) (by omega) (fun h => ?_) (fun h => absurd h (by omega))
      refine aw_iconst (-nI 1) D_tr_pivotRow_36 rfl ?_
      rw [show pvr m W c 0 r = r from rfl, if_pos (by omega)]
      refine aw_ireturn D_tr_pivotRow_37 rfl rfl ?_
      exact ⟨rfl, rfl⟩
    | succ k ih =>
      intro r hr hcr
      have hi := idx_lt (show r < W by omega) hc
      have hmi := hm (r * W + c)
      refine aw_iload_n 2 D_tr_pivotRow_2 rfl rfl ?_
      refine aw_aload_n 0 D_tr_pivotRow_3 rfl rfl ?_
      refine aw_get D_tr_pivotRow_4 (hT) rfl ?_
      refine aw_icmp_geN D_tr_pivotRow_7 (by omega) (by omega) (fun h => absurd h (by omega)) (fun h => ?_)
      refine aw_aload_n 0 D_tr_pivotRow_10 rfl rfl ?_
      refine aw_get D_tr_pivotRow_11 (hT) rfl ?_
      refine aw_iload_n 2 D_tr_pivotRow_14 rfl rfl ?_
      refine aw_aload_n 0 D_tr_pivotRow_15 rfl rfl ?_
      refine aw_get D_tr_pivotRow_16 (hT) rfl ?_
      first | with_reducible refine aw_imulN D_tr_pivotRow_19 ?_ | refine aw_imul D_tr_pivotRow_19 ?_
      refine aw_iload_n 1 D_tr_pivotRow_20 rfl rfl ?_
      first | with_reducible refine aw_iaddN D_tr_pivotRow_21 ?_ | refine aw_iadd D_tr_pivotRow_21 ?_
      refine aw_laldN D_tr_pivotRow_22 (hC) (by omega) (by omega) ?_
      refine aw_lconst (lN 0) D_tr_pivotRow_23 rfl ?_
      refine aw_lcmp D_tr_pivotRow_24 ?_
      unfold pvr
      refine aw_if_eq D_tr_pivotRow_25 (fun h2 => ?_) (fun h2 => ?_)
      · rw [lg_cmp_eq, pk_lEQ (by omega) (by omega)] at h2
        rw [if_neg (by omega : ¬ m (r * W + c) ≠ 0)]
        first | refine aw_incN D_tr_pivotRow_30 rfl (Nat.le_of_ble_eq_true rfl) rfl ?_ | refine aw_inc D_tr_pivotRow_30 rfl (Nat.le_of_ble_eq_true rfl) rfl ?_
        refine aw_goto D_tr_pivotRow_33 ?_
        exact ih (r + 1) (by omega) (by omega)
      · rw [lg_cmp_eq, pk_lEQ (by omega) (by omega)] at h2
        rw [if_pos h2, if_neg (by omega)]
        refine aw_iload_n 2 D_tr_pivotRow_28 rfl rfl ?_
        refine aw_ireturn D_tr_pivotRow_29 rfl rfl ?_
        exact ⟨rfl, rfl⟩
  refine aw_iload_n 1 D_tr_pivotRow_0 rfl rfl ?_
  refine aw_istore_n 2 D_tr_pivotRow_1 rfl (Nat.le_of_ble_eq_true rfl) rfl ?_
  exact key (W - c) c (by omega) (Nat.le_refl _)
end Trees
