/-! ### two sheets, or one with itself -/
def opn (how x y : Nat) : Nat := if how = 0 then x ^^^ y else x &&& y
theorem xor_le1 {x y : Nat} (hx : x ≤ 1) (hy : y ≤ 1) : x ^^^ y ≤ 1 := by
  rcases (show x = 0 ∨ x = 1 by omega) with rfl | rfl <;> rcases (show y = 0 ∨ y = 1 by omega) with rfl | rfl <;> decide
theorem and_le1 {x y : Nat} (hx : x ≤ 1) (hy : y ≤ 1) : x &&& y ≤ 1 := by
  rcases (show x = 0 ∨ x = 1 by omega) with rfl | rfl <;> rcases (show y = 0 ∨ y = 1 by omega) with rfl | rfl <;> decide
theorem opn_le {how x y : Nat} (hx : x ≤ 1) (hy : y ≤ 1) : opn how x y ≤ 1 := by
  unfold opn
  by_cases h : how = 0
  · rw [if_pos h]; exact xor_le1 hx hy
  · rw [if_neg h]; exact and_le1 hx hy
theorem cut_small {la : Int32} {x : Nat} (hx : x ≤ 1) : cut la (lN x) = lN x := by
  unfold cut
  have h1 : (lN x).toInt32.toInt8.toInt32.toInt64 = lN x := by
    rcases (show x = 0 ∨ x = 1 by omega) with rfl | rfl <;> decide
  have h2 : (lN x).toInt32.toInt64 = lN x := by
    rcases (show x = 0 ∨ x = 1 by omega) with rfl | rfl <;> decide
  by_cases e1 : la = 0
  · rw [if_pos e1, h1]
  · rw [if_neg e1]
    by_cases e2 : la = nI 1
    · rw [if_pos e2, h2]
    · rw [if_neg e2]
section Sheet2
variable {w : Wd} {q qc p pc : Nat} {la lb : Int32} {sa sb : Nat} {ca cb : Nat → Int64}
def mixC (how : Nat) (ca cb : Nat → Int64) (i : Nat) : Nat → Int64 := fun j => if j < i then lN (opn how (bt (ca j)) (bt (cb j))) else ca j
theorem mixC_up (how : Nat) (ca cb : Nat → Int64) (i : Nat) : va_up (mixC how ca cb i) i (lN (opn how (bt (ca i)) (bt (cb i)))) = mixC how ca cb (i + 1) := by
  funext j
  unfold va_up mixC
  by_cases e : j = i
  · rw [if_pos e, if_pos (by omega), e]
  · rw [if_neg e]
    by_cases e2 : j < i
    · rw [if_pos e2, if_pos (by omega)]
    · rw [if_neg e2, if_neg (by omega)]
theorem c_sh_mix {how : Nat} (X : Nat → Nat → Int64) (h1 : how ≤ 1) (hsa : sa ≤ 600) (hsb : sb ≤ 600)
    (hq : look w q = some (.inr (3, [.int la, .int (nI sa), .ref qc]))) (hc : look w qc = some (.inl (1, 600, .inr (.inl ca)))) (hp : look w p = some (.inr (3, [.int lb, .int (nI sb), .ref pc])))
    (hqi : ∀ i, look (updw w qc (.inl (1, 600, .inr (.inl (mixC how ca cb i))))) q = some (.inr (3, [.int la, .int (nI sa), .ref qc])))
    (hpi : ∀ i, look (updw w qc (.inl (1, 600, .inr (.inl (mixC how ca cb i))))) p = some (.inr (3, [.int lb, .int (nI sb), .ref pc])))
    (hci : ∀ i, look (updw w qc (.inl (1, 600, .inr (.inl (mixC how ca cb i))))) pc = some (.inl (1, 600, .inr (.inl (X i)))))
    (hX : ∀ i, X i i = cb i) :
    AMet M_sh_mixWith [.ref q, .ref p, .int (nI how)] w (Ex (some (.int (nI (min sa sb)))) (updw w qc (.inl (1, 600, .inr (.inl (mixC how ca cb (min sa sb))))))) 0 0 := by
  refine AMet.of [(0, .ref q), (1, .ref p), (2, .int (nI how))] (by decide +kernel) rfl (Nat.le_of_ble_eq_true rfl) ?_
  have key : ∀ (m i : Nat), i + m = min sa sb → AW M_sh_mixWith noP (Zp (Ex (some (.int (nI (min sa sb)))) (updw w qc (.inl (1, 600, .inr (.inl (mixC how ca cb (min sa sb)))))))) 0 0 15 [(0, .ref q), (1, .ref p), (2, .int (nI how)), (3, .int (nI (min sa sb))), (4, .int (nI i))] [] (updw w qc (.inl (1, 600, .inr (.inl (mixC how ca cb i))))) 0 0 := by
    intro m
    induction m with
    | zero =>
      intro i hi
      refine aw_iload D_sh_mixWith_15 rfl ?_
      refine aw_iload_n 3 D_sh_mixWith_17 rfl rfl ?_
      refine aw_icmp_geN D_sh_mixWith_18 (by omega) (by omega) (fun h => ?_) (fun h => absurd h (by omega))
      refine aw_iload_n 3 D_sh_mixWith_68 rfl rfl ?_
      rw [show i = min sa sb by omega]
      refine aw_ireturn D_sh_mixWith_69 rfl rfl ?_
      exact ⟨rfl, rfl⟩
    | succ m ih =>
      intro i hi
      have hcc : look (updw w qc (.inl (1, 600, .inr (.inl (mixC how ca cb i))))) qc = some (.inl (1, 600, .inr (.inl (mixC how ca cb i)))) := by rw [look_updw hc, if_pos rfl]
      have e1 : bt (mixC how ca cb i i) = bt (ca i) := by unfold mixC; rw [if_neg (Nat.lt_irrefl i)]
      have e2 : bt (X i i) = bt (cb i) := by rw [hX]
      have b1 := bt_le (ca i)
      have b2 := bt_le (cb i)
      refine aw_iload D_sh_mixWith_15 rfl ?_
      refine aw_iload_n 3 D_sh_mixWith_17 rfl rfl ?_
      refine aw_icmp_geN D_sh_mixWith_18 (by omega) (by omega) (fun h => absurd h (by omega)) (fun h => ?_)
      refine aw_aload_n 0 D_sh_mixWith_21 rfl rfl ?_
      refine aw_iload D_sh_mixWith_22 rfl ?_
      refine aw_callV1 (As := [_]) D_sh_mixWith_24 kv_sh_bitAt (c_sh_bit (i := i) (by omega) (hqi i) hcc) rfl rfl (hqi i) rfl rfl (Nat.le_of_ble_eq_true rfl) (Nat.zero_le _) (Nat.zero_le _) ?_
      rw [e1]
      refine aw_istore D_sh_mixWith_27 (Nat.le_of_ble_eq_true rfl) rfl ?_
      refine aw_aload_n 1 D_sh_mixWith_29 rfl rfl ?_
      refine aw_iload D_sh_mixWith_30 rfl ?_
      refine aw_callV1 (As := [_]) D_sh_mixWith_32 kv_sh_bitAt (c_sh_bit (i := i) (by omega) (hpi i) (hci i)) rfl rfl (hpi i) rfl rfl (Nat.le_of_ble_eq_true rfl) (Nat.zero_le _) (Nat.zero_le _) ?_
      rw [e2]
      refine aw_istore D_sh_mixWith_35 (Nat.le_of_ble_eq_true rfl) rfl ?_
      refine aw_aload_n 0 D_sh_mixWith_37 rfl rfl ?_
      refine aw_iload D_sh_mixWith_38 rfl ?_
      refine aw_iload_n 2 D_sh_mixWith_40 rfl rfl ?_
      have hend : ∀ z : Nat, z = opn how (bt (ca i)) (bt (cb i)) → AW M_sh_mixWith noP (Zp (Ex (some (.int (nI (min sa sb)))) (updw w qc (.inl (1, 600, .inr (.inl (mixC how ca cb (min sa sb)))))))) 0 0 59 [(0, .ref q), (1, .ref p), (2, .int (nI how)), (3, .int (nI (min sa sb))), (4, .int (nI i)), (5, .int (nI (bt (ca i)))), (6, .int (nI (bt (cb i))))] [.long (lN z), .int (nI i), .ref q] (updw w qc (.inl (1, 600, .inr (.inl (mixC how ca cb i))))) 0 0 := by
        intro z hz
        refine aw_callVv (As := [_, _]) D_sh_mixWith_59 kv_sh_write (c_sh_write (i := i) (v := lN z) (by omega) (hqi i) hcc) rfl rfl (hqi i) rfl rfl (Nat.le_of_ble_eq_true rfl) (Nat.zero_le _) (Nat.zero_le _) ?_
        rw [hz, cut_small (opn_le b1 b2), mixC_up, updw_twice hc]
        first | refine aw_incN D_sh_mixWith_62 rfl (Nat.le_of_ble_eq_true rfl) rfl ?_ | refine aw_inc D_sh_mixWith_62 rfl (Nat.le_of_ble_eq_true rfl) rfl ?_
        refine aw_goto D_sh_mixWith_65 ?_
        refine aw_take 5 ?_
        exact ih (i + 1) (by omega)
      refine aw_if_neN D_sh_mixWith_41 (by omega) (fun h => ?_) (fun h => ?_)
      · have := and_le1 b1 b2
        refine aw_iload D_sh_mixWith_53 rfl ?_
        refine aw_iload D_sh_mixWith_55 rfl ?_
        first | with_reducible refine aw_iandN D_sh_mixWith_57 ?_ | refine aw_iand D_sh_mixWith_57 ?_
        first | with_reducible refine aw_i2lN D_sh_mixWith_58 (by omega) ?_ | refine aw_i2l D_sh_mixWith_58 ?_
        exact hend _ (by unfold opn; rw [if_neg (by omega)])
      · have := xor_le1 b1 b2
        refine aw_iload D_sh_mixWith_44 rfl ?_
        refine aw_iload D_sh_mixWith_46 rfl ?_
        first | with_reducible refine aw_ixorN D_sh_mixWith_48 ?_ | refine aw_ixor D_sh_mixWith_48 ?_
        first | with_reducible refine aw_i2lN D_sh_mixWith_49 (by omega) ?_ | refine aw_i2l D_sh_mixWith_49 ?_
        refine aw_goto D_sh_mixWith_50 ?_
        exact hend _ (by unfold opn; rw [if_pos h])
  refine aw_aload_n 0 D_sh_mixWith_0 rfl rfl ?_
  refine aw_get D_sh_mixWith_1 (hq) rfl ?_
  refine aw_aload_n 1 D_sh_mixWith_4 rfl rfl ?_
  refine aw_get D_sh_mixWith_5 (hp) rfl ?_
  refine aw_minN D_sh_mixWith_8 (by omega) (by omega) (Nat.le_of_ble_eq_true rfl) ?_
  refine aw_istore_n 3 D_sh_mixWith_11 rfl (Nat.le_of_ble_eq_true rfl) rfl ?_
  refine aw_iconst (nI 0) D_sh_mixWith_12 rfl ?_
  refine aw_istore D_sh_mixWith_13 (Nat.le_of_ble_eq_true rfl) rfl ?_
  have := key (min sa sb) 0 (by omega)
  rw [show mixC how ca cb 0 = ca from funext fun j => if_neg (by omega), updw_same hc] at this
  exact this
def thinC (cs ct : Nat → Int64) (d i : Nat) : Nat → Int64 := fun j => if j < i then cs (j * d) else ct j
theorem thinC_up (cs ct : Nat → Int64) (d i : Nat) : va_up (thinC cs ct d i) i (cs (i * d)) = thinC cs ct d (i + 1) := by
  funext j
  unfold va_up thinC
  by_cases e : j = i
  · rw [if_pos e, if_pos (by omega), e]
  · rw [if_neg e]
    by_cases e2 : j < i
    · rw [if_pos e2, if_pos (by omega)]
    · rw [if_neg e2, if_neg (by omega)]
theorem thin_in {sb d i : Nat} (hd : 1 ≤ d) (hi : i < (sb + d - 1) / d) : i * d < sb := by
  have h1 : (i + 1) * d ≤ (sb + d - 1) / d * d := Nat.mul_le_mul_right _ hi
  have h2 : (sb + d - 1) / d * d ≤ sb + d - 1 := Nat.div_mul_le_self _ _
  rw [Nat.add_mul, Nat.one_mul] at h1
  omega
theorem thin_le {sb d : Nat} (hd : 1 ≤ d) : (sb + d - 1) / d ≤ sb := by
  rcases Nat.lt_or_ge sb ((sb + d - 1) / d) with h | h
  · have := thin_in hd h
    have h2 : sb * 1 ≤ sb * d := Nat.mul_le_mul_left _ hd
    omega
  · exact h
/-- q becomes each d-th cell of p (also q itself) -/
theorem c_sh_thin {d : Nat} (X : Nat → Nat → Int64) (hd1 : 1 ≤ d) (hd : d ≤ 600) (hsb : sb ≤ 600)
    (hq : look w q = some (.inr (3, [.int la, .int (nI sa), .ref qc]))) (hc : look w qc = some (.inl (1, 600, .inr (.inl ca)))) (hp : look w p = some (.inr (3, [.int lb, .int (nI sb), .ref pc])))
    (hqi : ∀ i, look (updw w qc (.inl (1, 600, .inr (.inl (thinC cb ca d i))))) q = some (.inr (3, [.int la, .int (nI sa), .ref qc])))
    (hpi : ∀ i, look (updw w qc (.inl (1, 600, .inr (.inl (thinC cb ca d i))))) p = some (.inr (3, [.int lb, .int (nI sb), .ref pc])))
    (hci : ∀ i, look (updw w qc (.inl (1, 600, .inr (.inl (thinC cb ca d i))))) pc = some (.inl (1, 600, .inr (.inl (X i)))))
    (hX : ∀ i, X i (i * d) = cb (i * d)) :
    AMet M_sh_becomeThinned [.ref q, .ref p, .int (nI d)] w (Ex none (updw (updw w qc (.inl (1, 600, .inr (.inl (thinC cb ca d ((sb + d - 1) / d)))))) q (.inr (3, [.int lb, .int (nI ((sb + d - 1) / d)), .ref qc])))) 0 0 := by
  refine AMet.of [(0, .ref q), (1, .ref p), (2, .int (nI d))] (by decide +kernel) rfl (Nat.le_of_ble_eq_true rfl) ?_
  have hle := thin_le (sb := sb) hd1
  generalize hK : (sb + d - 1) / d = K at hle ⊢
  have key : ∀ (m i : Nat), i + m = K → AW M_sh_becomeThinned noP (Zp (Ex none (updw (updw w qc (.inl (1, 600, .inr (.inl (thinC cb ca d K))))) q (.inr (3, [.int lb, .int (nI K), .ref qc]))))) 0 0 23 [(0, .ref q), (1, .ref p), (2, .int (nI d)), (3, .int (nI K)), (4, .int (nI i))] [] (updw w qc (.inl (1, 600, .inr (.inl (thinC cb ca d i))))) 0 0 := by
    intro m
    induction m with
    | zero =>
      intro i hi
      refine aw_iload D_sh_becomeThinned_23 rfl ?_
      refine aw_iload_n 3 D_sh_becomeThinned_25 rfl rfl ?_
      refine aw_icmp_geN D_sh_becomeThinned_26 (by omega) (by omega) (fun h => ?_) (fun h => absurd h (by omega))
      rw [show i = K by omega]
      generalize hW : updw w qc (.inl (1, 600, .inr (.inl (thinC cb ca d K)))) = W
      have hqK := hqi K
      have hpK := hpi K
      rw [hW] at hqK hpK
      refine aw_aload_n 0 D_sh_becomeThinned_51 rfl rfl ?_
      refine aw_aload_n 1 D_sh_becomeThinned_52 rfl rfl ?_
      refine aw_get D_sh_becomeThinned_53 (hpK) rfl ?_
      refine aw_put tc_sh D_sh_becomeThinned_56 (hqK) (Nat.le_of_ble_eq_true rfl) rfl rfl ?_
      have h1 : look (updw W q (.inr (3, [.int lb, .int (nI sa), .ref qc]))) q = some (.inr (3, [.int lb, .int (nI sa), .ref qc])) := by rw [look_updw hqK, if_pos rfl]
      refine aw_aload_n 0 D_sh_becomeThinned_59 rfl rfl ?_
      refine aw_iload_n 3 D_sh_becomeThinned_60 rfl rfl ?_
      refine aw_put tc_sh D_sh_becomeThinned_61 (h1) (Nat.le_of_ble_eq_true rfl) rfl rfl ?_
      show AW _ _ _ _ _ _ _ _ (updw (updw W q (.inr (3, [.int lb, .int (nI sa), .ref qc]))) q (.inr (3, [.int lb, .int (nI K), .ref qc]))) _ _
      rw [updw_twice hqK]
      refine aw_return D_sh_becomeThinned_64 rfl ?_
      exact ⟨rfl, rfl⟩
    | succ m ih =>
      intro i hi
      have hid := thin_in (sb := sb) (i := i) hd1 (by omega)
      have hcc : look (updw w qc (.inl (1, 600, .inr (.inl (thinC cb ca d i))))) qc = some (.inl (1, 600, .inr (.inl (thinC cb ca d i)))) := by rw [look_updw hc, if_pos rfl]
      refine aw_iload D_sh_becomeThinned_23 rfl ?_
      refine aw_iload_n 3 D_sh_becomeThinned_25 rfl rfl ?_
      refine aw_icmp_geN D_sh_becomeThinned_26 (by omega) (by omega) (fun h => absurd h (by omega)) (fun h => ?_)
      refine aw_aload_n 0 D_sh_becomeThinned_29 rfl rfl ?_
      refine aw_get D_sh_becomeThinned_30 ((hqi i)) rfl ?_
      refine aw_iload D_sh_becomeThinned_33 rfl ?_
      refine aw_aload_n 1 D_sh_becomeThinned_35 rfl rfl ?_
      refine aw_get D_sh_becomeThinned_36 ((hpi i)) rfl ?_
      refine aw_iload D_sh_becomeThinned_39 rfl ?_
      refine aw_iload_n 2 D_sh_becomeThinned_41 rfl rfl ?_
      first | with_reducible refine aw_imulN D_sh_becomeThinned_42 ?_ | refine aw_imul D_sh_becomeThinned_42 ?_
      refine aw_laldN D_sh_becomeThinned_43 ((hci i)) (by omega) (by omega) ?_
      rw [hX]
      refine aw_lastJ D_sh_becomeThinned_44 (hcc) (by omega) (by omega) ?_
      first | refine aw_incN D_sh_becomeThinned_45 rfl (Nat.le_of_ble_eq_true rfl) rfl ?_ | refine aw_inc D_sh_becomeThinned_45 rfl (Nat.le_of_ble_eq_true rfl) rfl ?_
      refine aw_goto D_sh_becomeThinned_48 ?_
      rw [updL_va, updw_twice hc, thinC_up]
      exact ih (i + 1) (by omega)
  refine aw_iload_n 2 D_sh_becomeThinned_0 rfl rfl ?_
  refine aw_iconst (nI 1) D_sh_becomeThinned_1 rfl ?_
  refine aw_icmp_geN D_sh_becomeThinned_2 (by omega) (by omega) (fun h => ?_) (fun h => absurd h (by omega))
  refine aw_aload_n 1 D_sh_becomeThinned_9 rfl rfl ?_
  refine aw_get D_sh_becomeThinned_10 (hp) rfl ?_
  refine aw_iload_n 2 D_sh_becomeThinned_13 rfl rfl ?_
  first | with_reducible refine aw_iaddN D_sh_becomeThinned_14 ?_ | refine aw_iadd D_sh_becomeThinned_14 ?_
  refine aw_iconst (nI 1) D_sh_becomeThinned_15 rfl ?_
  first | with_reducible refine aw_isubN D_sh_becomeThinned_16 (by omega) ?_ | refine aw_isub D_sh_becomeThinned_16 ?_
  refine aw_iload_n 2 D_sh_becomeThinned_17 rfl rfl ?_
  first | with_reducible refine aw_idivN D_sh_becomeThinned_18 (by omega) (by omega) (by omega) ?_ | refine aw_idiv D_sh_becomeThinned_18 (by decide) ?_
  refine aw_istore_n 3 D_sh_becomeThinned_19 rfl (Nat.le_of_ble_eq_true rfl) rfl ?_
  refine aw_iconst (nI 0) D_sh_becomeThinned_20 rfl ?_
  refine aw_istore D_sh_becomeThinned_21 (Nat.le_of_ble_eq_true rfl) rfl ?_
  rw [hK]
  have := key K 0 (by omega)
  rw [show thinC cb ca d 0 = ca from funext fun j => if_neg (by omega), updw_same hc] at this
  exact this
end Sheet2
