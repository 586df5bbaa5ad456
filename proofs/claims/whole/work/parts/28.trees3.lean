/-! ### ways -/
section Trees3
theorem c_tr_det {w : Wd} {kc W M : Nat} {m : Nat → Nat} (hne : 3 ≠ kc) (hW : W ≤ 512) (hWM : W * W ≤ M) (hM : M < 2 ^ 31) (hm : ∀ i, m i < 1000003) (hT : look w 3 = some (.inr (4, [.ref kc, .int (nI W)]))) (hC : look w kc = some (.inl (1, M, .inr (.inl (lF m))))) : AMet M_tr_determinant [.ref 3] w (fun r w' => r = some (.long (lN (dts m W W 0 1))) ∧ ∃ m' : Nat → Nat, w' = updw w kc (.inl (1, M, .inr (.inl (lF m'))))) 0 0 := by
  refine AMet.of [(0, .ref 3)] (by decide +kernel) rfl (Nat.le_of_ble_eq_true rfl) ?_
  have lT : ∀ f : Nat → Nat, look (updw w kc (.inl (1, M, .inr (.inl (lF f))))) 3 = some (.inr (4, [.ref kc, .int (nI W)])) := fun f => by rw [look_updw hC, if_neg hne]; exact hT
  have lC : ∀ f : Nat → Nat, look (updw w kc (.inl (1, M, .inr (.inl (lF f))))) kc = some (.inl (1, M, .inr (.inl (lF f)))) := fun f => by rw [look_updw hC, if_pos rfl]
  have key : ∀ (k c p : Nat) (f : Nat → Nat), c + k = W → p < 1000003 → (∀ i, f i < 1000003) → AW M_tr_determinant noP (Zp (fun r w' => r = some (.long (lN (dts f W k c p))) ∧ ∃ m' : Nat → Nat, w' = updw w kc (.inl (1, M, .inr (.inl (lF m')))))) 0 0 4 [(0, .ref 3), (1, .long (lN p)), (3, .int (nI c))] [] (updw w kc (.inl (1, M, .inr (.inl (lF f))))) 0 0 := by
    intro k
    induction k with
    | zero =>
      intro c p f hk hp hf
      refine aw_iload_n 3 D_tr_determinant_4 rfl rfl ?_
      refine aw_aload_n 0 D_tr_determinant_5 rfl rfl ?_
      refine aw_get D_tr_determinant_6 (lT _) rfl ?_
      refine aw_icmp_geN D_tr_determinant_9 (by omega) (by omega) (fun h => ?_) (fun h => absurd h (by omega))
      refine aw_lload_n 1 D_tr_determinant_85 rfl rfl ?_
      refine aw_lreturn D_tr_determinant_86 rfl ?_
      exact ⟨rfl, f, rfl⟩
    | succ k ih =>
      intro c p f hk hp hf
      have hc : c < W := by omega
      have hpv := pvr_ge f W c (W - c) c
      have hpv' : c ≤ piv f W c ∧ piv f W c ≤ W := ⟨hpv.1, by have := hpv.2; show pvr f W c (W - c) c ≤ W; omega⟩
      have icc := idx_lt hc hc
      have cont : ∀ (g : Nat → Nat) (p1 : Nat), p1 ≤ 1000003 → (∀ i, g i < 1000003) → ∀ L4 : Value, L4 = .int (nI (piv f W c)) → AW M_tr_determinant noP (Zp (fun r w' => r = some (.long (lN (dts (clr g W c (inv (g (c * W + c))) W) W k (c + 1) (p1 * g (c * W + c) % 1000003)))) ∧ ∃ m' : Nat → Nat, w' = updw w kc (.inl (1, M, .inr (.inl (lF m')))))) 0 0 45 [(0, .ref 3), (1, .long (lN p1)), (3, .int (nI c)), (4, L4)] [] (updw w kc (.inl (1, M, .inr (.inl (lF g))))) 0 0 := by
        intro g p1 hp1 hg L4 hL4
        subst hL4
        have hgc := hg (c * W + c)
        have hmul : p1 * g (c * W + c) < 1000004 * 1000003 := Nat.mul_lt_mul'' (by omega) hgc
        refine aw_aload_n 0 D_tr_determinant_45 rfl rfl ?_
        refine aw_get D_tr_determinant_46 (lT _) rfl ?_
        refine aw_iload_n 3 D_tr_determinant_49 rfl rfl ?_
        refine aw_aload_n 0 D_tr_determinant_50 rfl rfl ?_
        refine aw_get D_tr_determinant_51 (lT _) rfl ?_
        first | with_reducible refine aw_imulN D_tr_determinant_54 ?_ | refine aw_imul D_tr_determinant_54 ?_
        refine aw_iload_n 3 D_tr_determinant_55 rfl rfl ?_
        first | with_reducible refine aw_iaddN D_tr_determinant_56 ?_ | refine aw_iadd D_tr_determinant_56 ?_
        refine aw_laldN D_tr_determinant_57 (lC _) (by omega) (by omega) ?_
        refine aw_lstore D_tr_determinant_58 (Nat.le_of_ble_eq_true rfl) rfl ?_
        refine aw_lload_n 1 D_tr_determinant_60 rfl rfl ?_
        refine aw_lload D_tr_determinant_61 rfl ?_
        first | with_reducible refine aw_lmulN D_tr_determinant_63 ?_ | refine aw_lmul D_tr_determinant_63 ?_
        refine aw_ldc2 D_tr_determinant_64 ?_
        first | with_reducible refine aw_lremN D_tr_determinant_67 (by omega) (by omega) (by omega) ?_ | refine aw_lrem D_tr_determinant_67 (by decide) ?_
        refine aw_lstore_n 1 D_tr_determinant_68 rfl (Nat.le_of_ble_eq_true rfl) rfl ?_
        refine aw_aload_n 0 D_tr_determinant_69 rfl rfl ?_
        refine aw_iload_n 3 D_tr_determinant_70 rfl rfl ?_
        refine aw_lload D_tr_determinant_71 rfl ?_
        refine aw_callS1 (As := [_]) D_tr_determinant_73 kv_tr_inverse (c_tr_inverse hgc) rfl rfl (Nat.le_of_ble_eq_true rfl) (Nat.zero_le _) (Nat.zero_le _) ?_
        refine aw_callVv (As := [_, _]) D_tr_determinant_76 kv_tr_clearBelow (c_tr_clear hne hc hW hWM hM (inv_lt _) hg (lT _) (lC _)) rfl rfl (lT _) rfl rfl (Nat.le_of_ble_eq_true rfl) (Nat.zero_le _) (Nat.zero_le _) ?_
        rw [updw_twice hC]
        first | refine aw_incN D_tr_determinant_79 rfl (Nat.le_of_ble_eq_true rfl) rfl ?_ | refine aw_inc D_tr_determinant_79 rfl (Nat.le_of_ble_eq_true rfl) rfl ?_
        refine aw_goto D_tr_determinant_82 ?_
        refine aw_take 3 ?_
        exact ih (c + 1) _ _ (by omega) (Nat.mod_lt _ (by decide)) (clr_lt hg _ _ _ _)
      refine aw_iload_n 3 D_tr_determinant_4 rfl rfl ?_
      refine aw_aload_n 0 D_tr_determinant_5 rfl rfl ?_
      refine aw_get D_tr_determinant_6 (lT _) rfl ?_
      refine aw_icmp_geN D_tr_determinant_9 (by omega) (by omega) (fun h => absurd h (by omega)) (fun h => ?_)
      refine aw_aload_n 0 D_tr_determinant_12 rfl rfl ?_
      refine aw_iload_n 3 D_tr_determinant_13 rfl rfl ?_
      refine aw_callV1 (As := [_]) D_tr_determinant_14 kv_tr_pivotRow (c_tr_pivot hc hW hWM hM hf (lT f) (lC f)) rfl rfl (lT f) rfl rfl (Nat.le_of_ble_eq_true rfl) (Nat.zero_le _) (Nat.zero_le _) ?_
      unfold dts
      by_cases h1 : piv f W c = W
      · rw [if_pos h1, if_pos h1]
        refine aw_istore D_tr_determinant_17 (Nat.le_of_ble_eq_true rfl) rfl ?_
        refine aw_iload D_tr_determinant_19 rfl ?_
        refine aw_if_ge D_tr_determinant_21 (fun h2 => absurd h2 (by decide)) (fun h2 => ?_)
        refine aw_lconst (lN 0) D_tr_determinant_24 rfl ?_
        refine aw_lreturn D_tr_determinant_25 rfl ?_
        exact ⟨rfl, f, rfl⟩
      · rw [if_neg h1, if_neg h1]
        refine aw_istore D_tr_determinant_17 (Nat.le_of_ble_eq_true rfl) rfl ?_
        refine aw_iload D_tr_determinant_19 rfl ?_
        refine aw_if_geN D_tr_determinant_21 (by omega) ?_
        refine aw_iload D_tr_determinant_26 rfl ?_
        refine aw_iload_n 3 D_tr_determinant_28 rfl rfl ?_
        refine aw_icmp_eqN D_tr_determinant_29 (by omega) (by omega) (fun h2 => ?_) (fun h2 => ?_)
        · rw [if_pos h2, if_pos h2]
          exact cont f p (by omega) hf _ rfl
        · rw [if_neg h2, if_neg h2]
          refine aw_aload_n 0 D_tr_determinant_32 rfl rfl ?_
          refine aw_iload D_tr_determinant_33 rfl ?_
          refine aw_iload_n 3 D_tr_determinant_35 rfl rfl ?_
          refine aw_callVv (As := [_, _]) D_tr_determinant_36 kv_tr_swapRows (c_tr_swap hne (show piv f W c < W by omega) hc h2 hW hWM hM (lT f) (lC f)) rfl rfl (lT f) rfl rfl (Nat.le_of_ble_eq_true rfl) (Nat.zero_le _) (Nat.zero_le _) ?_
          rw [updw_twice hC]
          refine aw_ldc2 D_tr_determinant_39 ?_
          refine aw_lload_n 1 D_tr_determinant_42 rfl rfl ?_
          first | with_reducible refine aw_lsubN D_tr_determinant_43 (by omega) ?_ | refine aw_lsub D_tr_determinant_43 ?_
          refine aw_lstore_n 1 D_tr_determinant_44 rfl (Nat.le_of_ble_eq_true rfl) rfl ?_
          exact cont (swp f W (piv f W c) c W) (1000003 - p) (by omega) (swp_lt hf _ _ _ _) _ rfl
  refine aw_lconst (lN 1) D_tr_determinant_0 rfl ?_
  refine aw_lstore_n 1 D_tr_determinant_1 rfl (Nat.le_of_ble_eq_true rfl) rfl ?_
  refine aw_iconst (nI 0) D_tr_determinant_2 rfl ?_
  refine aw_istore_n 3 D_tr_determinant_3 rfl (Nat.le_of_ble_eq_true rfl) rfl ?_
  have := key W 0 1 m (by omega) (by decide) hm
  rw [updw_same hC] at this
  exact this
/-- the trees' cells: a row of longs in the eighth region -/
def TD (dy : List va_E) (kc : Nat) : Prop := kc % 16 = 7 ∧ ∃ (M : Nat) (f : Nat → Int64), M ≤ 65536 ∧ dy[kc / 16]? = some (.inl (1, M, .inr (.inl f)))
variable {mn rg ri sh rr mo dy : List va_E} {kc W : Nat}
theorem look_d {tr : List va_E} (h : kc % 16 = 7) : look [mn, rg, ri, tr, sh, rr, mo, dy] kc = dy[kc / 16]? := by
  unfold look
  rw [h]
  rfl
theorem updw_d {tr : List va_E} (h : kc % 16 = 7) (e : va_E) : updw [mn, rg, ri, tr, sh, rr, mo, dy] kc e = [mn, rg, ri, tr, sh, rr, mo, dy.set (kc / 16) e] := by
  unfold updw
  rw [h]
  rfl
theorem c_tr_clr (hW : W ≤ 64) (hD : TD dy kc) : AMet M_tr_clear [.ref 3] [mn, rg, ri, [.inr (4, [.ref kc, .int (nI W)])], sh, rr, mo, dy] (fun r w' => r = none ∧ ∃ (kc' M : Nat) (dy' : List va_E), w' = [mn, rg, ri, [.inr (4, [.ref kc', .int (nI W)])], sh, rr, mo, dy'] ∧ kc' % 16 = 7 ∧ W * W ≤ M ∧ M ≤ 65536 ∧ dy'[kc' / 16]? = some (.inl (1, M, .inr (.inl (lF (fun _ => 0)))))) 1 4096 := by
  obtain ⟨h7, M, f, hM, hd⟩ := hD
  have hWW : W * W ≤ 64 * 64 := Nat.mul_le_mul hW hW
  refine AMet.of [(0, .ref 3)] (by decide +kernel) rfl (Nat.le_of_ble_eq_true rfl) ?_
  generalize hZ : (fun (r : Option Value) (w' : Wd) => r = none ∧ ∃ (kc' M : Nat) (dy' : List va_E), w' = [mn, rg, ri, [.inr (4, [.ref kc', .int (nI W)])], sh, rr, mo, dy'] ∧ kc' % 16 = 7 ∧ W * W ≤ M ∧ M ≤ 65536 ∧ dy'[kc' / 16]? = some (.inl (1, M, .inr (.inl (lF (fun _ => 0)))))) = Post
  have tail : ∀ (kc' M : Nat) (dy' : List va_E) (f : Nat → Int64) (nc ns : Nat), nc ≤ 1 → ns ≤ 4096 → kc' % 16 = 7 → W * W ≤ M → M ≤ 65536 → dy'[kc' / 16]? = some (.inl (1, M, .inr (.inl f))) → AW M_tr_clear noP (Zp Post) 1 4096 32 [(0, .ref 3)] [] [mn, rg, ri, [.inr (4, [.ref kc', .int (nI W)])], sh, rr, mo, dy'] nc ns := by
    intro kc' M dy' f nc ns h1 h2 h3 h4 h5 h6
    have hl : look [mn, rg, ri, [.inr (4, [.ref kc', .int (nI W)])], sh, rr, mo, dy'] kc' = some (.inl (1, M, .inr (.inl f))) := (look_d h3).trans h6
    have hlt := (List.getElem?_eq_some_iff.mp h6).1
    refine aw_aload_n 0 D_tr_clear_32 rfl rfl ?_
    refine aw_get D_tr_clear_33 rfl rfl ?_
    refine aw_lconst (lN 0) D_tr_clear_36 rfl ?_
    refine aw_callSv (As := [_, _]) D_tr_clear_37 kv_ja_fillJ (c_fillJ (by omega) hl) rfl rfl (Nat.le_of_ble_eq_true rfl) (by omega) (by omega) ?_
    refine aw_rowL (q := kc') (t := 1) (N := M) (f := fun j => if j < M then lN 0 else f j) (g := lF (fun _ => 0)) (by rw [look_updw hl, if_pos rfl]) (fun j hj => by rw [if_pos hj]) ?_
    rw [updw_twice hl, updw_d h3]
    refine aw_return D_tr_clear_40 rfl ?_
    rw [← hZ]; exact ⟨rfl, kc', M, _, rfl, h3, h4, h5, by rw [List.getElem?_set_self hlt]⟩
  refine aw_aload_n 0 D_tr_clear_0 rfl rfl ?_
  refine aw_get D_tr_clear_1 rfl rfl ?_
  refine aw_alen D_tr_clear_4 ((look_d h7).trans hd) (by decide) ?_
  refine aw_aload_n 0 D_tr_clear_5 rfl rfl ?_
  refine aw_get D_tr_clear_6 rfl rfl ?_
  refine aw_aload_n 0 D_tr_clear_9 rfl rfl ?_
  refine aw_get D_tr_clear_10 rfl rfl ?_
  first | with_reducible refine aw_imulN D_tr_clear_13 ?_ | refine aw_imul D_tr_clear_13 ?_
  refine aw_icmp_geN D_tr_clear_14 (by omega) (by omega) (fun h => ?_) (fun h => ?_)
  · exact tail kc M dy f 0 0 (by omega) (by omega) h7 h hM hd
  · refine aw_aload_n 0 D_tr_clear_17 rfl rfl ?_
    refine aw_aload_n 0 D_tr_clear_18 rfl rfl ?_
    refine aw_get D_tr_clear_19 rfl rfl ?_
    refine aw_aload_n 0 D_tr_clear_22 rfl rfl ?_
    refine aw_get D_tr_clear_23 rfl rfl ?_
    first | with_reducible refine aw_imulN D_tr_clear_26 ?_ | refine aw_imul D_tr_clear_26 ?_
    refine aw_newL 7 (W * W) D_tr_clear_27 rfl (by omega) ⟨by decide, by decide, by show 7 < 8; decide⟩ (by decide) (by omega) ?_
    refine aw_put tc_tr D_tr_clear_29 rfl (Nat.le_of_ble_eq_true rfl) rfl rfl ?_
    exact tail (16 * dy.length + 7) (W * W) (dy ++ [.inl (1, W * W, .inr (.inl (fun _ => 0)))]) (fun _ => 0) (0 + 1) (0 + W * W) (by omega) (by omega) (by omega) (Nat.le_refl _) (by omega) (by rw [show (16 * dy.length + 7) / 16 = dy.length by omega, List.getElem?_append_right (Nat.le_refl _), Nat.sub_self]; rfl)
def wys (ro : Nat → Nat) (c H : Nat) : Nat := if c - 1 < 1 then 1 else dts (bld ro (c - 1) H) (c - 1) (c - 1) 0 1
theorem c_tr_count {mn sh rr mo dy : List va_E} {n N ch : Nat} {b bn : Nat → Nat} {c pd st fa : Nat} {o : Nat → Option Nat} {be pc le sz wt qu : Nat → Nat} {kc W : Nat} (hn : 2 ≤ n) (hn9 : n ≤ 9) (hN : N = 2 ^ n) (hb : ∀ k, b k ≤ 1) (hF : FT n b c pd st fa o be pc le sz) (hc : c ≤ 65) (hD : TD dy kc) : AMet M_tr_count [.ref 3, .ref 1, .ref 2] [mn, RG n N ch b bn, RI c pd st fa o be pc le sz wt qu, [.inr (4, [.ref kc, .int (nI W)])], sh, rr, mo, dy]
    (fun r w' => r = some (.int (nI (wys (fun s => (o s).getD 0) c (2 ^ n / 2)))) ∧ ∃ (kc' W' : Nat) (dy' : List va_E), w' = [mn, RG n N ch b bn, RI c pd st fa o be pc le sz wt qu, [.inr (4, [.ref kc', .int (nI W')])], sh, rr, mo, dy'] ∧ TD dy' kc') 1 4096 := by
  have hp9 := pow_le9 hn9
  have h4 : 2 ^ n = 2 * 2 ^ (n - 1) := (pow_half (by omega)).symm
  have hf := FT.hf (n := n) (b := b) (by omega) hb
  have hV := hF.2.1
  have hc1 : 1 ≤ c := by have := hV.1 0 (Nat.two_pow_pos n); omega
  subst hN
  refine AMet.of [(0, .ref 3), (1, .ref 1), (2, .ref 2)] (by decide +kernel) rfl (Nat.le_of_ble_eq_true rfl) ?_
  generalize hZ : (fun (r : Option Value) (w' : Wd) => r = some (.int (nI (wys (fun s => (o s).getD 0) c (2 ^ n / 2)))) ∧ ∃ (kc' W' : Nat) (dy' : List va_E), w' = [mn, RG n (2 ^ n) ch b bn, RI c pd st fa o be pc le sz wt qu, [.inr (4, [.ref kc', .int (nI W')])], sh, rr, mo, dy'] ∧ TD dy' kc') = Post
  refine aw_aload_n 0 D_tr_count_0 rfl rfl ?_
  refine aw_aload_n 2 D_tr_count_1 rfl rfl ?_
  refine aw_get D_tr_count_2 rfl rfl ?_
  refine aw_iconst (nI 1) D_tr_count_5 rfl ?_
  first | with_reducible refine aw_isubN D_tr_count_6 (by omega) ?_ | refine aw_isub D_tr_count_6 ?_
  refine aw_put tc_tr D_tr_count_7 rfl (Nat.le_of_ble_eq_true rfl) rfl rfl ?_
  refine aw_aload_n 0 D_tr_count_10 rfl rfl ?_
  refine aw_get D_tr_count_11 rfl rfl ?_
  refine aw_iconst (nI 1) D_tr_count_14 rfl ?_
  refine aw_icmp_geN D_tr_count_15 (by omega) (by omega) (fun h => ?_) (fun h => ?_)
  · refine aw_aload_n 0 D_tr_count_20 rfl rfl ?_
    refine aw_callV (As := []) D_tr_count_21 kv_tr_clear (c_tr_clr (kc := kc) (W := c - 1) (by omega) hD) rfl rfl rfl rfl rfl (Nat.le_of_ble_eq_true rfl) (by decide) (by decide) (fun r w' hp => ?_)
    obtain ⟨rfl, kc', M, dy', rfl, g1, g2, g3, g4⟩ := hp
    have hlt := (List.getElem?_eq_some_iff.mp g4).1
    have hne : 3 ≠ kc' := by omega
    have loop : ∀ (k t : Nat) (dy2 : List va_E), t + k = 2 ^ n / 2 → dy2[kc' / 16]? = some (.inl (1, M, .inr (.inl (lF (bld (fun s => (o s).getD 0) (c - 1) t))))) → AW M_tr_count noP (Zp Post) 1 4096 26 [(0, .ref 3), (1, .ref 1), (2, .ref 2), (3, .int (nI t))] [] [mn, RG n (2 ^ n) ch b bn, RI c pd st fa o be pc le sz wt qu, [.inr (4, [.ref kc', .int (nI (c - 1))])], sh, rr, mo, dy2] 1 4096 := by
      intro k
      induction k with
      | zero =>
        intro t dy2 ht hd
        have hl : look [mn, RG n (2 ^ n) ch b bn, RI c pd st fa o be pc le sz wt qu, [.inr (4, [.ref kc', .int (nI (c - 1))])], sh, rr, mo, dy2] kc' = some (.inl (1, M, .inr (.inl (lF (bld (fun s => (o s).getD 0) (c - 1) t))))) := (look_d g1).trans hd
        have hlt2 := (List.getElem?_eq_some_iff.mp hd).1
        refine aw_iload_n 3 D_tr_count_26 rfl rfl ?_
        refine aw_aload_n 1 D_tr_count_27 rfl rfl ?_
        refine aw_get D_tr_count_28 rfl rfl ?_
        refine aw_iconst (nI 2) D_tr_count_31 rfl ?_
        first | with_reducible refine aw_idivN D_tr_count_32 (by omega) (by omega) (by omega) ?_ | refine aw_idiv D_tr_count_32 (by decide) ?_
        refine aw_icmp_geN D_tr_count_33 (by omega) (by omega) (fun h => ?_) (fun h => absurd h (by omega))
        refine aw_aload_n 0 D_tr_count_79 rfl rfl ?_
        refine aw_callV (As := []) D_tr_count_80 kv_tr_determinant (c_tr_det hne (by omega) g2 (by omega) (bld_lt _ _ _) rfl hl) rfl rfl rfl rfl rfl (Nat.le_of_ble_eq_true rfl) (by decide) (by decide) (fun r w' hp => ?_)
        obtain ⟨rfl, m', rfl⟩ := hp
        show AW M_tr_count noP (Zp Post) 1 4096 83 [(0, .ref 3), (1, .ref 1), (2, .ref 2), (3, .int (nI t))] [.long (lN (dts (bld (fun s => (o s).getD 0) (c - 1) t) (c - 1) (c - 1) 0 1))] _ (1 + 0) (4096 + 0)
        rw [updw_d g1]
        first | with_reducible refine aw_l2iN D_tr_count_83 ?_ | refine aw_l2i D_tr_count_83 ?_
        refine aw_ireturn D_tr_count_84 rfl rfl ?_
        rw [← hZ]; exact ⟨by unfold wys; rw [if_neg (by omega), show t = 2 ^ n / 2 by omega], kc', c - 1, _, rfl, g1, M, _, g3, by rw [List.getElem?_set_self hlt2]⟩
      | succ k ih =>
        intro t dy2 ht hd
        have hl : look [mn, RG n (2 ^ n) ch b bn, RI c pd st fa o be pc le sz wt qu, [.inr (4, [.ref kc', .int (nI (c - 1))])], sh, rr, mo, dy2] kc' = some (.inl (1, M, .inr (.inl (lF (bld (fun s => (o s).getD 0) (c - 1) t))))) := (look_d g1).trans hd
        have hlt2 := (List.getElem?_eq_some_iff.mp hd).1
        have i1 : 2 * t < 2 ^ n := by omega
        have i2 : 2 * t + 1 < 2 ^ n := by omega
        have o1 := oI_get (z := -nI 1) (hF.1 _ i1)
        have o2 := oI_get (z := -nI 1) (hF.1 _ i2)
        have r1 := hV.1 _ i1
        have r2 := hV.1 _ i2
        dsimp only at r1 r2
        refine aw_iload_n 3 D_tr_count_26 rfl rfl ?_
        refine aw_aload_n 1 D_tr_count_27 rfl rfl ?_
        refine aw_get D_tr_count_28 rfl rfl ?_
        refine aw_iconst (nI 2) D_tr_count_31 rfl ?_
        first | with_reducible refine aw_idivN D_tr_count_32 (by omega) (by omega) (by omega) ?_ | refine aw_idiv D_tr_count_32 (by decide) ?_
        refine aw_icmp_geN D_tr_count_33 (by omega) (by omega) (fun h => absurd h (by omega)) (fun h => ?_)
        refine aw_aload_n 2 D_tr_count_36 rfl rfl ?_
        refine aw_get D_tr_count_37 rfl rfl ?_
        refine aw_iconst (nI 2) D_tr_count_40 rfl ?_
        refine aw_iload_n 3 D_tr_count_41 rfl rfl ?_
        first | with_reducible refine aw_imulN D_tr_count_42 ?_ | refine aw_imul D_tr_count_42 ?_
        refine aw_ialdN D_tr_count_43 rfl (by omega) (by omega) ?_
        rw [show oF (-nI 1) o (2 * t) = nI ((o (2 * t)).getD 0) from o1]
        refine aw_istore D_tr_count_44 (Nat.le_of_ble_eq_true rfl) rfl ?_
        refine aw_aload_n 2 D_tr_count_46 rfl rfl ?_
        refine aw_get D_tr_count_47 rfl rfl ?_
        refine aw_iconst (nI 2) D_tr_count_50 rfl ?_
        refine aw_iload_n 3 D_tr_count_51 rfl rfl ?_
        first | with_reducible refine aw_imulN D_tr_count_52 ?_ | refine aw_imul D_tr_count_52 ?_
        refine aw_iconst (nI 1) D_tr_count_53 rfl ?_
        first | with_reducible refine aw_iaddN D_tr_count_54 ?_ | refine aw_iadd D_tr_count_54 ?_
        refine aw_ialdN D_tr_count_55 rfl (by omega) (by omega) ?_
        rw [show oF (-nI 1) o (2 * t + 1) = nI ((o (2 * t + 1)).getD 0) from o2]
        refine aw_istore D_tr_count_56 (Nat.le_of_ble_eq_true rfl) rfl ?_
        refine aw_iload D_tr_count_58 rfl ?_
        refine aw_iload D_tr_count_60 rfl ?_
        refine aw_icmp_eqN D_tr_count_62 (by omega) (by omega) (fun h2 => ?_) (fun h2 => ?_)
        · first | refine aw_incN D_tr_count_73 rfl (Nat.le_of_ble_eq_true rfl) rfl ?_ | refine aw_inc D_tr_count_73 rfl (Nat.le_of_ble_eq_true rfl) rfl ?_
          refine aw_goto D_tr_count_76 ?_
          refine aw_take 4 ?_
          refine ih (t + 1) dy2 (by omega) ?_
          unfold bld
          rw [if_pos h2]
          exact hd
        · refine aw_aload_n 0 D_tr_count_65 rfl rfl ?_
          refine aw_iload D_tr_count_66 rfl ?_
          refine aw_iload D_tr_count_68 rfl ?_
          refine aw_callVv (As := [_, _]) D_tr_count_70 kv_tr_addPair (c_tr_addPair hne (by omega) (by omega) (by omega) g2 (by omega) (bld_lt _ _ _) rfl hl) rfl rfl rfl rfl rfl (Nat.le_of_ble_eq_true rfl) (by decide) (by decide) ?_
          rw [updw_d g1]
          first | refine aw_incN D_tr_count_73 rfl (Nat.le_of_ble_eq_true rfl) rfl ?_ | refine aw_inc D_tr_count_73 rfl (Nat.le_of_ble_eq_true rfl) rfl ?_
          refine aw_goto D_tr_count_76 ?_
          refine aw_take 4 ?_
          refine ih (t + 1) _ (by omega) ?_
          rw [List.getElem?_set_self hlt2]
          show _ = some (Sum.inl (1, M, Sum.inr (Sum.inl (lF (if (o (2 * t)).getD 0 = (o (2 * t + 1)).getD 0 then _ else _)))))
          rw [if_neg h2]
    refine aw_iconst (nI 0) D_tr_count_24 rfl ?_
    refine aw_istore_n 3 D_tr_count_25 rfl (Nat.le_of_ble_eq_true rfl) rfl ?_
    exact loop (2 ^ n / 2) 0 dy' (by omega) g4
  · refine aw_iconst (nI 1) D_tr_count_18 rfl ?_
    refine aw_ireturn D_tr_count_19 rfl rfl ?_
    rw [← hZ]; exact ⟨by unfold wys; rw [if_pos h], kc, c - 1, dy, rfl, hD⟩
end Trees3
