/-! ### what is asked of the rings -/
section Rings3
variable {mn tr sh rr mo dy : List va_E} {n N ch : Nat} {b bn : Nat → Nat} {c pd st fa : Nat} {o : Nat → Option Nat} {be pc le sz wt qu : Nat → Nat}
theorem oI_get {z : Int32} {x : Option Nat} (h : x ≠ none) : oI z x = nI (x.getD 0) := by
  cases x with
  | none => exact absurd rfl h
  | some r => rfl
theorem FT.hf {n : Nat} {b : Nat → Nat} (hn : 1 ≤ n) (hb : ∀ k, b k ≤ 1) : ∀ s, s < 2 ^ n → nx n b s < 2 ^ n := fun s hs => nx_lt hn hs hb
theorem c_ri_hasT {r : Nat} (hr : r < c) (hc : c ≤ 512) : AMet M_ri_has [.ref 2, .int (nI r)] [mn, RG n N ch b bn, RI c pd st fa o be pc le sz wt qu, tr, sh, rr, mo, dy] (Ex (some (.int (nI 1))) [mn, RG n N ch b bn, RI c pd st fa o be pc le sz wt qu, tr, sh, rr, mo, dy]) 0 0 := by
  refine AMet.of [(0, .ref 2), (1, .int (nI r))] (by decide +kernel) rfl (Nat.le_of_ble_eq_true rfl) ?_
  refine aw_iload_n 1 D_ri_has_0 rfl rfl ?_
  refine aw_if_ltN D_ri_has_1 (by omega) ?_
  refine aw_iload_n 1 D_ri_has_4 rfl rfl ?_
  refine aw_aload_n 0 D_ri_has_5 rfl rfl ?_
  refine aw_get D_ri_has_6 rfl rfl ?_
  refine aw_icmp_geN D_ri_has_9 (by omega) (by omega) (fun h => absurd h (by omega)) (fun h => ?_)
  refine aw_iconst (nI 1) D_ri_has_12 rfl ?_
  refine aw_goto D_ri_has_13 ?_
  refine aw_ireturn D_ri_has_17 rfl rfl ?_
  exact ⟨rfl, rfl⟩
theorem c_ri_hasF {x : Int32} (hx : ¬ vp_in x c) (hc : c ≤ 512) : AMet M_ri_has [.ref 2, .int x] [mn, RG n N ch b bn, RI c pd st fa o be pc le sz wt qu, tr, sh, rr, mo, dy] (Ex (some (.int (nI 0))) [mn, RG n N ch b bn, RI c pd st fa o be pc le sz wt qu, tr, sh, rr, mo, dy]) 0 0 := by
  refine AMet.of [(0, .ref 2), (1, .int x)] (by decide +kernel) rfl (Nat.le_of_ble_eq_true rfl) ?_
  refine aw_iload_n 1 D_ri_has_0 rfl rfl ?_
  refine aw_if_lt D_ri_has_1 (fun h => ?_) (fun h => ?_)
  · refine aw_iconst (nI 0) D_ri_has_16 rfl ?_
    refine aw_ireturn D_ri_has_17 rfl rfl ?_
    exact ⟨rfl, rfl⟩
  · refine aw_iload_n 1 D_ri_has_4 rfl rfl ?_
    refine aw_aload_n 0 D_ri_has_5 rfl rfl ?_
    refine aw_get D_ri_has_6 rfl rfl ?_
    refine aw_icmp_ge D_ri_has_9 (fun h1 => ?_) (fun h1 => ?_)
    · refine aw_iconst (nI 0) D_ri_has_16 rfl ?_
      refine aw_ireturn D_ri_has_17 rfl rfl ?_
      exact ⟨rfl, rfl⟩
    · exact absurd (vp_of h h1 (by omega)) hx
theorem c_ri_around {s : Nat} (hn : 2 ≤ n) (hn9 : n ≤ 9) (hb : ∀ k, b k ≤ 1) (hF : FT n b c pd st fa o be pc le sz) (hs : s < 2 ^ n) : AMet M_ri_sizeAround [.ref 2, .int (nI s)] [mn, RG n N ch b bn, RI c pd st fa o be pc le sz wt qu, tr, sh, rr, mo, dy] (Ex (some (.int (nI (sz ((o s).getD 0))))) [mn, RG n N ch b bn, RI c pd st fa o be pc le sz wt qu, tr, sh, rr, mo, dy]) 0 0 := by
  have hp9 := pow_le9 hn9
  have hf := FT.hf (n := n) (b := b) (by omega) hb
  have hV := hF.2.1
  have hR := hV.R_le
  have hr := hV.1 s hs
  have h1 := hV.sz_pos hs
  have h2 := hV.sz_le hf hr
  have ho := oI_get (z := -nI 1) (hF.1 s hs)
  dsimp only at hr h1 h2
  refine AMet.of [(0, .ref 2), (1, .int (nI s))] (by decide +kernel) rfl (Nat.le_of_ble_eq_true rfl) ?_
  refine aw_aload_n 0 D_ri_sizeAround_0 rfl rfl ?_
  refine aw_get D_ri_sizeAround_1 rfl rfl ?_
  refine aw_iload_n 1 D_ri_sizeAround_4 rfl rfl ?_
  refine aw_ialdN D_ri_sizeAround_5 rfl (by omega) (by omega) ?_
  rw [show oF (-nI 1) o s = nI ((o s).getD 0) from ho]
  refine aw_istore_n 2 D_ri_sizeAround_6 rfl (Nat.le_of_ble_eq_true rfl) rfl ?_
  refine aw_aload_n 0 D_ri_sizeAround_7 rfl rfl ?_
  refine aw_iload_n 2 D_ri_sizeAround_8 rfl rfl ?_
  refine aw_callV1 (As := [_]) D_ri_sizeAround_9 kv_ri_has (c_ri_hasT hr (by omega)) rfl rfl rfl rfl rfl (Nat.le_of_ble_eq_true rfl) (Nat.zero_le _) (Nat.zero_le _) ?_
  refine aw_if_eqN D_ri_sizeAround_12 (by omega) (fun h => absurd h (by omega)) (fun h => ?_)
  refine aw_iconst (nI 1) D_ri_sizeAround_15 rfl ?_
  refine aw_aload_n 0 D_ri_sizeAround_16 rfl rfl ?_
  refine aw_get D_ri_sizeAround_17 rfl rfl ?_
  refine aw_iload_n 2 D_ri_sizeAround_20 rfl rfl ?_
  refine aw_ialdN D_ri_sizeAround_21 rfl (by omega) (by omega) ?_
  refine aw_maxN D_ri_sizeAround_22 (by omega) (by omega) (Nat.le_of_ble_eq_true rfl) ?_
  refine aw_goto D_ri_sizeAround_25 ?_
  rw [Nat.max_eq_right h1]
  refine aw_ireturn D_ri_sizeAround_29 rfl rfl ?_
  exact ⟨rfl, rfl⟩
def kind (n : Nat) (o : Nat → Option Nat) (be sz : Nat → Nat) (s : Nat) : Nat := if 0 < be s then 2 else if sz ((o s).getD 0) = 1 then 0 else 1
theorem c_ri_kind {s : Nat} (hn : 2 ≤ n) (hn9 : n ≤ 9) (hb : ∀ k, b k ≤ 1) (hF : FT n b c pd st fa o be pc le sz) (hs : s < 2 ^ n) : AMet M_ri_kindOf [.ref 2, .int (nI s)] [mn, RG n N ch b bn, RI c pd st fa o be pc le sz wt qu, tr, sh, rr, mo, dy] (Ex (some (.int (nI (kind n o be sz s)))) [mn, RG n N ch b bn, RI c pd st fa o be pc le sz wt qu, tr, sh, rr, mo, dy]) 0 0 := by
  have hp9 := pow_le9 hn9
  have hf := FT.hf (n := n) (b := b) (by omega) hb
  have hV := hF.2.1
  have hbl := hV.be_le hf hs
  have h2 := hV.sz_le hf (hV.1 s hs)
  dsimp only at h2
  unfold kind
  refine AMet.of [(0, .ref 2), (1, .int (nI s))] (by decide +kernel) rfl (Nat.le_of_ble_eq_true rfl) ?_
  refine aw_aload_n 0 D_ri_kindOf_0 rfl rfl ?_
  refine aw_get D_ri_kindOf_1 rfl rfl ?_
  refine aw_iload_n 1 D_ri_kindOf_4 rfl rfl ?_
  refine aw_ialdN D_ri_kindOf_5 rfl (by omega) (by omega) ?_
  refine aw_if_leN D_ri_kindOf_6 (by omega) (fun h => ?_) (fun h => ?_)
  · rw [if_neg (by omega)]
    refine aw_aload_n 0 D_ri_kindOf_11 rfl rfl ?_
    refine aw_iload_n 1 D_ri_kindOf_12 rfl rfl ?_
    refine aw_callV1 (As := [_]) D_ri_kindOf_13 kv_ri_sizeAround (c_ri_around hn hn9 hb hF hs) rfl rfl rfl rfl rfl (Nat.le_of_ble_eq_true rfl) (Nat.zero_le _) (Nat.zero_le _) ?_
    refine aw_iconst (nI 1) D_ri_kindOf_16 rfl ?_
    refine aw_icmp_neN D_ri_kindOf_17 (by omega) (by omega) (fun h3 => ?_) (fun h3 => ?_)
    · rw [if_neg h3]
      refine aw_iconst (nI 1) D_ri_kindOf_24 rfl ?_
      refine aw_ireturn D_ri_kindOf_25 rfl rfl ?_
      exact ⟨rfl, rfl⟩
    · rw [if_pos h3]
      refine aw_iconst (nI 0) D_ri_kindOf_20 rfl ?_
      refine aw_goto D_ri_kindOf_21 ?_
      refine aw_ireturn D_ri_kindOf_25 rfl rfl ?_
      exact ⟨rfl, rfl⟩
  · rw [if_pos h]
    refine aw_iconst (nI 2) D_ri_kindOf_9 rfl ?_
    refine aw_ireturn D_ri_kindOf_10 rfl rfl ?_
    exact ⟨rfl, rfl⟩
theorem c_ri_steps {s k : Nat} (hn : 2 ≤ n) (hn9 : n ≤ 9) (hb : ∀ k, b k ≤ 1) (hF : FT n b c pd st fa o be pc le sz) (hs : s < 2 ^ n) (hk : k < 2 ^ 63) : AMet M_ri_stepsThatMatter [.ref 2, .int (nI s), .long (lN k)] [mn, RG n N ch b bn, RI c pd st fa o be pc le sz wt qu, tr, sh, rr, mo, dy] (Ex (some (.int (nI (if k ≤ be s then k else be s + (k - be s) % sz ((o s).getD 0))))) [mn, RG n N ch b bn, RI c pd st fa o be pc le sz wt qu, tr, sh, rr, mo, dy]) 0 0 := by
  have hp9 := pow_le9 hn9
  have hf := FT.hf (n := n) (b := b) (by omega) hb
  have hV := hF.2.1
  have hbl := hV.be_le hf hs
  have h2 := hV.sz_le hf (hV.1 s hs)
  have h1 := hV.sz_pos hs
  dsimp only at h1 h2
  refine AMet.of [(0, .ref 2), (1, .int (nI s)), (2, .long (lN k))] (by decide +kernel) rfl (Nat.le_of_ble_eq_true rfl) ?_
  refine aw_lload_n 2 D_ri_stepsThatMatter_0 rfl rfl ?_
  refine aw_aload_n 0 D_ri_stepsThatMatter_1 rfl rfl ?_
  refine aw_get D_ri_stepsThatMatter_2 rfl rfl ?_
  refine aw_iload_n 1 D_ri_stepsThatMatter_5 rfl rfl ?_
  refine aw_ialdN D_ri_stepsThatMatter_6 rfl (by omega) (by omega) ?_
  first | with_reducible refine aw_i2lN D_ri_stepsThatMatter_7 (by omega) ?_ | refine aw_i2l D_ri_stepsThatMatter_7 ?_
  refine aw_lcmp D_ri_stepsThatMatter_8 ?_
  refine aw_if_gt D_ri_stepsThatMatter_9 (fun h => ?_) (fun h => ?_)
  · rw [lg_cmp_gt, pk_lLT (by omega) (by omega)] at h
    rw [if_neg (by omega)]
    refine aw_aload_n 0 D_ri_stepsThatMatter_15 rfl rfl ?_
    refine aw_get D_ri_stepsThatMatter_16 rfl rfl ?_
    refine aw_iload_n 1 D_ri_stepsThatMatter_19 rfl rfl ?_
    refine aw_ialdN D_ri_stepsThatMatter_20 rfl (by omega) (by omega) ?_
    refine aw_lload_n 2 D_ri_stepsThatMatter_21 rfl rfl ?_
    refine aw_aload_n 0 D_ri_stepsThatMatter_22 rfl rfl ?_
    refine aw_get D_ri_stepsThatMatter_23 rfl rfl ?_
    refine aw_iload_n 1 D_ri_stepsThatMatter_26 rfl rfl ?_
    refine aw_ialdN D_ri_stepsThatMatter_27 rfl (by omega) (by omega) ?_
    first | with_reducible refine aw_i2lN D_ri_stepsThatMatter_28 (by omega) ?_ | refine aw_i2l D_ri_stepsThatMatter_28 ?_
    first | with_reducible refine aw_lsubN D_ri_stepsThatMatter_29 (by omega) ?_ | refine aw_lsub D_ri_stepsThatMatter_29 ?_
    refine aw_aload_n 0 D_ri_stepsThatMatter_30 rfl rfl ?_
    refine aw_iload_n 1 D_ri_stepsThatMatter_31 rfl rfl ?_
    refine aw_callV1 (As := [_]) D_ri_stepsThatMatter_32 kv_ri_sizeAround (c_ri_around hn hn9 hb hF hs) rfl rfl rfl rfl rfl (Nat.le_of_ble_eq_true rfl) (Nat.zero_le _) (Nat.zero_le _) ?_
    first | with_reducible refine aw_i2lN D_ri_stepsThatMatter_35 (by omega) ?_ | refine aw_i2l D_ri_stepsThatMatter_35 ?_
    first | with_reducible refine aw_lremN D_ri_stepsThatMatter_36 (by omega) (by omega) (by omega) ?_ | refine aw_lrem D_ri_stepsThatMatter_36 (by decide) ?_
    first | with_reducible refine aw_l2iN D_ri_stepsThatMatter_37 ?_ | refine aw_l2i D_ri_stepsThatMatter_37 ?_
    first | with_reducible refine aw_iaddN D_ri_stepsThatMatter_38 ?_ | refine aw_iadd D_ri_stepsThatMatter_38 ?_
    refine aw_ireturn D_ri_stepsThatMatter_39 rfl rfl ?_
    exact ⟨rfl, rfl⟩
  · rw [lg_cmp_gt, pk_lLT (by omega) (by omega)] at h
    rw [if_pos (by omega)]
    refine aw_lload_n 2 D_ri_stepsThatMatter_12 rfl rfl ?_
    first | with_reducible refine aw_l2iN D_ri_stepsThatMatter_13 ?_ | refine aw_l2i D_ri_stepsThatMatter_13 ?_
    refine aw_ireturn D_ri_stepsThatMatter_14 rfl rfl ?_
    exact ⟨rfl, rfl⟩
theorem c_ri_onesOut {r : Nat} (hn : 2 ≤ n) (hn9 : n ≤ 9) (hb : ∀ k, b k ≤ 1) (hF : FT n b c pd st fa o be pc le sz) (hr : r < c) : AMet M_ri_countOnesOut [.ref 2, .ref 1, .int (nI r)] [mn, RG n N ch b bn, RI c pd st fa o be pc le sz wt qu, tr, sh, rr, mo, dy] (Ex (some (.int (nI (fb_sm (fun j => itr (nx n b) j (le r) % 2) (sz r))))) [mn, RG n N ch b bn, RI c pd st fa o be pc le sz wt qu, tr, sh, rr, mo, dy]) 0 0 := by
  have hp9 := pow_le9 hn9
  have hf := FT.hf (n := n) (b := b) (by omega) hb
  have hV := hF.2.1
  have hR := hV.R_le
  have h2 := hV.sz_le hf hr
  have hl := (hV.2.2.2.1 r hr).1
  refine AMet.of [(0, .ref 2), (1, .ref 1), (2, .int (nI r))] (by decide +kernel) rfl (Nat.le_of_ble_eq_true rfl) ?_
  have key : ∀ (m i : Nat), i + m = sz r → AW M_ri_countOnesOut noP (Zp (Ex (some (.int (nI (fb_sm (fun j => itr (nx n b) j (le r) % 2) (sz r))))) [mn, RG n N ch b bn, RI c pd st fa o be pc le sz wt qu, tr, sh, rr, mo, dy])) 0 0 13 [(0, .ref 2), (1, .ref 1), (2, .int (nI r)), (3, .int (nI (fb_sm (fun j => itr (nx n b) j (le r) % 2) i))), (4, .int (nI (itr (nx n b) i (le r)))), (5, .int (nI i))] [] [mn, RG n N ch b bn, RI c pd st fa o be pc le sz wt qu, tr, sh, rr, mo, dy] 0 0 := by
    intro m
    induction m with
    | zero =>
      intro i hi
      refine aw_iload D_ri_countOnesOut_13 rfl ?_
      refine aw_aload_n 0 D_ri_countOnesOut_15 rfl rfl ?_
      refine aw_get D_ri_countOnesOut_16 rfl rfl ?_
      refine aw_iload_n 2 D_ri_countOnesOut_19 rfl rfl ?_
      refine aw_ialdN D_ri_countOnesOut_20 rfl (by omega) (by omega) ?_
      refine aw_icmp_geN D_ri_countOnesOut_21 (by omega) (by omega) (fun h => ?_) (fun h => absurd h (by omega))
      refine aw_iload_n 3 D_ri_countOnesOut_45 rfl rfl ?_
      rw [show i = sz r by omega]
      refine aw_ireturn D_ri_countOnesOut_46 rfl rfl ?_
      exact ⟨rfl, rfl⟩
    | succ m ih =>
      intro i hi
      have hx := itr_lt hf i _ hl
      refine aw_iload D_ri_countOnesOut_13 rfl ?_
      refine aw_aload_n 0 D_ri_countOnesOut_15 rfl rfl ?_
      refine aw_get D_ri_countOnesOut_16 rfl rfl ?_
      refine aw_iload_n 2 D_ri_countOnesOut_19 rfl rfl ?_
      refine aw_ialdN D_ri_countOnesOut_20 rfl (by omega) (by omega) ?_
      refine aw_icmp_geN D_ri_countOnesOut_21 (by omega) (by omega) (fun h => absurd h (by omega)) (fun h => ?_)
      refine aw_iload_n 3 D_ri_countOnesOut_24 rfl rfl ?_
      refine aw_iload D_ri_countOnesOut_25 rfl ?_
      refine aw_iconst (nI 1) D_ri_countOnesOut_27 rfl ?_
      first | with_reducible refine aw_iandN D_ri_countOnesOut_28 ?_ | refine aw_iand D_ri_countOnesOut_28 ?_
      first | with_reducible refine aw_iaddN D_ri_countOnesOut_29 ?_ | refine aw_iadd D_ri_countOnesOut_29 ?_
      rw [Nat.and_one_is_mod]
      refine aw_istore_n 3 D_ri_countOnesOut_30 rfl (Nat.le_of_ble_eq_true rfl) rfl ?_
      refine aw_aload_n 1 D_ri_countOnesOut_31 rfl rfl ?_
      refine aw_iload D_ri_countOnesOut_32 rfl ?_
      refine aw_callV1 (As := [_]) D_ri_countOnesOut_34 kv_rg_next (c_rg_next (by omega) hn9 hx hb) rfl rfl rfl rfl rfl (Nat.le_of_ble_eq_true rfl) (Nat.zero_le _) (Nat.zero_le _) ?_
      refine aw_istore D_ri_countOnesOut_37 (Nat.le_of_ble_eq_true rfl) rfl ?_
      first | refine aw_incN D_ri_countOnesOut_39 rfl (Nat.le_of_ble_eq_true rfl) rfl ?_ | refine aw_inc D_ri_countOnesOut_39 rfl (Nat.le_of_ble_eq_true rfl) rfl ?_
      refine aw_goto D_ri_countOnesOut_42 ?_
      rw [← itr_succ (nx n b)]
      exact ih (i + 1) (by omega)
  refine aw_iconst (nI 0) D_ri_countOnesOut_0 rfl ?_
  refine aw_istore_n 3 D_ri_countOnesOut_1 rfl (Nat.le_of_ble_eq_true rfl) rfl ?_
  refine aw_aload_n 0 D_ri_countOnesOut_2 rfl rfl ?_
  refine aw_get D_ri_countOnesOut_3 rfl rfl ?_
  refine aw_iload_n 2 D_ri_countOnesOut_6 rfl rfl ?_
  refine aw_ialdN D_ri_countOnesOut_7 rfl (by omega) (by omega) ?_
  refine aw_istore D_ri_countOnesOut_8 (Nat.le_of_ble_eq_true rfl) rfl ?_
  refine aw_iconst (nI 0) D_ri_countOnesOut_10 rfl ?_
  refine aw_istore D_ri_countOnesOut_11 (Nat.le_of_ble_eq_true rfl) rfl ?_
  exact key (sz r) 0 (by omega)
theorem c_ri_behind {r : Nat} (hn : 2 ≤ n) (hn9 : n ≤ 9) (hN : N = 2 ^ n) (hb : ∀ k, b k ≤ 1) (hF : FT n b c pd st fa o be pc le sz) (hr : r < c) : AMet M_ri_countBehind [.ref 2, .ref 1, .int (nI r)] [mn, RG n N ch b bn, RI c pd st fa o be pc le sz wt qu, tr, sh, rr, mo, dy] (Ex (some (.int (nI (fb_ct (fun s => decide ((o s).getD 0 = r ∧ 0 < be s)) (2 ^ n))))) [mn, RG n N ch b bn, RI c pd st fa o be pc le sz wt qu, tr, sh, rr, mo, dy]) 0 0 := by
  have hp9 := pow_le9 hn9
  have hf := FT.hf (n := n) (b := b) (by omega) hb
  have hV := hF.2.1
  have hR := hV.R_le
  subst hN
  refine AMet.of [(0, .ref 2), (1, .ref 1), (2, .int (nI r))] (by decide +kernel) rfl (Nat.le_of_ble_eq_true rfl) ?_
  have key : ∀ (m i : Nat), i + m = 2 ^ n → AW M_ri_countBehind noP (Zp (Ex (some (.int (nI (fb_ct (fun s => decide ((o s).getD 0 = r ∧ 0 < be s)) (2 ^ n))))) [mn, RG n (2 ^ n) ch b bn, RI c pd st fa o be pc le sz wt qu, tr, sh, rr, mo, dy])) 0 0 5 [(0, .ref 2), (1, .ref 1), (2, .int (nI r)), (3, .int (nI (fb_ct (fun s => decide ((o s).getD 0 = r ∧ 0 < be s)) i))), (4, .int (nI i))] [] [mn, RG n (2 ^ n) ch b bn, RI c pd st fa o be pc le sz wt qu, tr, sh, rr, mo, dy] 0 0 := by
    intro m
    induction m with
    | zero =>
      intro i hi
      refine aw_iload D_ri_countBehind_5 rfl ?_
      refine aw_aload_n 1 D_ri_countBehind_7 rfl rfl ?_
      refine aw_get D_ri_countBehind_8 rfl rfl ?_
      refine aw_icmp_geN D_ri_countBehind_11 (by omega) (by omega) (fun h => ?_) (fun h => absurd h (by omega))
      refine aw_iload_n 3 D_ri_countBehind_44 rfl rfl ?_
      rw [show i = 2 ^ n by omega]
      refine aw_ireturn D_ri_countBehind_45 rfl rfl ?_
      exact ⟨rfl, rfl⟩
    | succ m ih =>
      intro i hi
      have hi2 : i < 2 ^ n := by omega
      have ho := oI_get (z := -nI 1) (hF.1 i hi2)
      have hri := hV.1 i hi2
      have hbl := hV.be_le hf hi2
      dsimp only at hri
      have hno : ¬ ((o i).getD 0 = r ∧ 0 < be i) → fb_ct (fun s => decide ((o s).getD 0 = r ∧ 0 < be s)) (i + 1) = fb_ct (fun s => decide ((o s).getD 0 = r ∧ 0 < be s)) i := fun z => by
        rw [fb_ct_succ, if_neg (by simpa using z)]; rfl
      refine aw_iload D_ri_countBehind_5 rfl ?_
      refine aw_aload_n 1 D_ri_countBehind_7 rfl rfl ?_
      refine aw_get D_ri_countBehind_8 rfl rfl ?_
      refine aw_icmp_geN D_ri_countBehind_11 (by omega) (by omega) (fun h => absurd h (by omega)) (fun h => ?_)
      refine aw_aload_n 0 D_ri_countBehind_14 rfl rfl ?_
      refine aw_get D_ri_countBehind_15 rfl rfl ?_
      refine aw_iload D_ri_countBehind_18 rfl ?_
      refine aw_ialdN D_ri_countBehind_20 rfl (by omega) (by omega) ?_
      refine aw_iload_n 2 D_ri_countBehind_21 rfl rfl ?_
      rw [show oF (-nI 1) o i = nI ((o i).getD 0) from ho]
      refine aw_icmp_neN D_ri_countBehind_22 (by omega) (by omega) (fun h3 => ?_) (fun h3 => ?_)
      · first | refine aw_incN D_ri_countBehind_38 rfl (Nat.le_of_ble_eq_true rfl) rfl ?_ | refine aw_inc D_ri_countBehind_38 rfl (Nat.le_of_ble_eq_true rfl) rfl ?_
        refine aw_goto D_ri_countBehind_41 ?_
        have := ih (i + 1) (by omega)
        rw [hno (fun z => h3 z.1)] at this
        exact this
      · refine aw_aload_n 0 D_ri_countBehind_25 rfl rfl ?_
        refine aw_get D_ri_countBehind_26 rfl rfl ?_
        refine aw_iload D_ri_countBehind_29 rfl ?_
        refine aw_ialdN D_ri_countBehind_31 rfl (by omega) (by omega) ?_
        refine aw_if_leN D_ri_countBehind_32 (by omega) (fun h4 => ?_) (fun h4 => ?_)
        · first | refine aw_incN D_ri_countBehind_38 rfl (Nat.le_of_ble_eq_true rfl) rfl ?_ | refine aw_inc D_ri_countBehind_38 rfl (Nat.le_of_ble_eq_true rfl) rfl ?_
          refine aw_goto D_ri_countBehind_41 ?_
          have := ih (i + 1) (by omega)
          rw [hno (fun z => by omega)] at this
          exact this
        · first | refine aw_incN D_ri_countBehind_35 rfl (Nat.le_of_ble_eq_true rfl) rfl ?_ | refine aw_inc D_ri_countBehind_35 rfl (Nat.le_of_ble_eq_true rfl) rfl ?_
          first | refine aw_incN D_ri_countBehind_38 rfl (Nat.le_of_ble_eq_true rfl) rfl ?_ | refine aw_inc D_ri_countBehind_38 rfl (Nat.le_of_ble_eq_true rfl) rfl ?_
          refine aw_goto D_ri_countBehind_41 ?_
          have := ih (i + 1) (by omega)
          rw [fb_ct_succ, if_pos (decide_eq_true ⟨h3, h4⟩)] at this
          exact this
  refine aw_iconst (nI 0) D_ri_countBehind_0 rfl ?_
  refine aw_istore_n 3 D_ri_countBehind_1 rfl (Nat.le_of_ble_eq_true rfl) rfl ?_
  refine aw_iconst (nI 0) D_ri_countBehind_2 rfl ?_
  refine aw_istore D_ri_countBehind_3 (Nat.le_of_ble_eq_true rfl) rfl ?_
  exact key (2 ^ n) 0 (by omega)
/-- how far a ring goes with itself, j steps on -/
def alike (f : Nat → Nat) (a d : Nat) : Nat → Int32
  | 0 => nI 0
  | i + 1 => alike f a d i + (if itr f i a % 2 = itr f i d % 2 then nI 1 else -nI 1)
theorem c_ri_like {r d : Nat} (hn : 2 ≤ n) (hn9 : n ≤ 9) (hb : ∀ k, b k ≤ 1) (hF : FT n b c pd st fa o be pc le sz) (hr : r < c) (hd : d < 2 ^ 31) : AMet M_ri_likeness [.ref 2, .ref 1, .int (nI r), .int (nI d)] [mn, RG n N ch b bn, RI c pd st fa o be pc le sz wt qu, tr, sh, rr, mo, dy] (Ex (some (.int (alike (nx n b) (le r) (itr (nx n b) d (le r)) (sz r)))) [mn, RG n N ch b bn, RI c pd st fa o be pc le sz wt qu, tr, sh, rr, mo, dy]) 0 0 := by
  have hp9 := pow_le9 hn9
  have hf := FT.hf (n := n) (b := b) (by omega) hb
  have hV := hF.2.1
  have hR := hV.R_le
  have h2 := hV.sz_le hf hr
  obtain ⟨hl, h1, h3, h4⟩ := hV.2.2.2.1 r hr
  have hro : (o (le r)).getD 0 = r := (h4 0 (by omega)).2.1
  have hmod := itr_mod h3 d
  have hdl := itr_lt hf d _ hl
  have hml := Nat.mod_lt d (show 0 < sz r by omega)
  refine AMet.of [(0, .ref 2), (1, .ref 1), (2, .int (nI r)), (3, .int (nI d))] (by decide +kernel) rfl (Nat.le_of_ble_eq_true rfl) ?_
  have key : ∀ (m i : Nat), i + m = sz r → AW M_ri_likeness noP (Zp (Ex (some (.int (alike (nx n b) (le r) (itr (nx n b) d (le r)) (sz r)))) [mn, RG n N ch b bn, RI c pd st fa o be pc le sz wt qu, tr, sh, rr, mo, dy])) 0 0 30 [(0, .ref 2), (1, .ref 1), (2, .int (nI r)), (3, .int (nI d)), (4, .int (nI (itr (nx n b) i (le r)))), (5, .int (nI (itr (nx n b) i (itr (nx n b) d (le r))))), (6, .int (alike (nx n b) (le r) (itr (nx n b) d (le r)) i)), (7, .int (nI i))] [] [mn, RG n N ch b bn, RI c pd st fa o be pc le sz wt qu, tr, sh, rr, mo, dy] 0 0 := by
    intro m
    induction m with
    | zero =>
      intro i hi
      refine aw_iload D_ri_likeness_30 rfl ?_
      refine aw_aload_n 0 D_ri_likeness_32 rfl rfl ?_
      refine aw_get D_ri_likeness_33 rfl rfl ?_
      refine aw_iload_n 2 D_ri_likeness_36 rfl rfl ?_
      refine aw_ialdN D_ri_likeness_37 rfl (by omega) (by omega) ?_
      refine aw_icmp_geN D_ri_likeness_38 (by omega) (by omega) (fun h => ?_) (fun h => absurd h (by omega))
      refine aw_iload D_ri_likeness_84 rfl ?_
      rw [show i = sz r by omega]
      refine aw_ireturn D_ri_likeness_86 rfl rfl ?_
      exact ⟨rfl, rfl⟩
    | succ m ih =>
      intro i hi
      have hx := itr_lt hf i _ hl
      have hy := itr_lt hf i _ hdl
      refine aw_iload D_ri_likeness_30 rfl ?_
      refine aw_aload_n 0 D_ri_likeness_32 rfl rfl ?_
      refine aw_get D_ri_likeness_33 rfl rfl ?_
      refine aw_iload_n 2 D_ri_likeness_36 rfl rfl ?_
      refine aw_ialdN D_ri_likeness_37 rfl (by omega) (by omega) ?_
      refine aw_icmp_geN D_ri_likeness_38 (by omega) (by omega) (fun h => absurd h (by omega)) (fun h => ?_)
      refine aw_iload D_ri_likeness_41 rfl ?_
      refine aw_iload D_ri_likeness_43 rfl ?_
      refine aw_iconst (nI 1) D_ri_likeness_45 rfl ?_
      first | with_reducible refine aw_iandN D_ri_likeness_46 ?_ | refine aw_iand D_ri_likeness_46 ?_
      refine aw_iload D_ri_likeness_47 rfl ?_
      refine aw_iconst (nI 1) D_ri_likeness_49 rfl ?_
      first | with_reducible refine aw_iandN D_ri_likeness_50 ?_ | refine aw_iand D_ri_likeness_50 ?_
      rw [Nat.and_one_is_mod, Nat.and_one_is_mod]
      have hend : ∀ z : Int32, z = (if itr (nx n b) i (le r) % 2 = itr (nx n b) i (itr (nx n b) d (le r)) % 2 then nI 1 else -nI 1) → AW M_ri_likeness noP (Zp (Ex (some (.int (alike (nx n b) (le r) (itr (nx n b) d (le r)) (sz r)))) [mn, RG n N ch b bn, RI c pd st fa o be pc le sz wt qu, tr, sh, rr, mo, dy])) 0 0 59 [(0, .ref 2), (1, .ref 1), (2, .int (nI r)), (3, .int (nI d)), (4, .int (nI (itr (nx n b) i (le r)))), (5, .int (nI (itr (nx n b) i (itr (nx n b) d (le r))))), (6, .int (alike (nx n b) (le r) (itr (nx n b) d (le r)) i)), (7, .int (nI i))] [.int z, .int (alike (nx n b) (le r) (itr (nx n b) d (le r)) i)] [mn, RG n N ch b bn, RI c pd st fa o be pc le sz wt qu, tr, sh, rr, mo, dy] 0 0 := by
        intro z hz
        refine aw_iadd D_ri_likeness_59 ?_
        refine aw_istore D_ri_likeness_60 (Nat.le_of_ble_eq_true rfl) rfl ?_
        refine aw_aload_n 1 D_ri_likeness_62 rfl rfl ?_
        refine aw_iload D_ri_likeness_63 rfl ?_
        refine aw_callV1 (As := [_]) D_ri_likeness_65 kv_rg_next (c_rg_next (by omega) hn9 hx hb) rfl rfl rfl rfl rfl (Nat.le_of_ble_eq_true rfl) (Nat.zero_le _) (Nat.zero_le _) ?_
        refine aw_istore D_ri_likeness_68 (Nat.le_of_ble_eq_true rfl) rfl ?_
        refine aw_aload_n 1 D_ri_likeness_70 rfl rfl ?_
        refine aw_iload D_ri_likeness_71 rfl ?_
        refine aw_callV1 (As := [_]) D_ri_likeness_73 kv_rg_next (c_rg_next (by omega) hn9 hy hb) rfl rfl rfl rfl rfl (Nat.le_of_ble_eq_true rfl) (Nat.zero_le _) (Nat.zero_le _) ?_
        refine aw_istore D_ri_likeness_76 (Nat.le_of_ble_eq_true rfl) rfl ?_
        first | refine aw_incN D_ri_likeness_78 rfl (Nat.le_of_ble_eq_true rfl) rfl ?_ | refine aw_inc D_ri_likeness_78 rfl (Nat.le_of_ble_eq_true rfl) rfl ?_
        refine aw_goto D_ri_likeness_81 ?_
        rw [← itr_succ (nx n b), ← itr_succ (nx n b), hz]
        exact ih (i + 1) (by omega)
      refine aw_icmp_neN D_ri_likeness_51 (by omega) (by omega) (fun h5 => ?_) (fun h5 => ?_)
      · refine aw_iconst (-nI 1) D_ri_likeness_58 rfl ?_
        exact hend _ (by rw [if_neg h5])
      · refine aw_iconst (nI 1) D_ri_likeness_54 rfl ?_
        refine aw_goto D_ri_likeness_55 ?_
        exact hend _ (by rw [if_pos h5])
  refine aw_aload_n 0 D_ri_likeness_0 rfl rfl ?_
  refine aw_get D_ri_likeness_1 rfl rfl ?_
  refine aw_iload_n 2 D_ri_likeness_4 rfl rfl ?_
  refine aw_ialdN D_ri_likeness_5 rfl (by omega) (by omega) ?_
  refine aw_istore D_ri_likeness_6 (Nat.le_of_ble_eq_true rfl) rfl ?_
  refine aw_aload_n 1 D_ri_likeness_8 rfl rfl ?_
  refine aw_iload D_ri_likeness_9 rfl ?_
  refine aw_iload_n 3 D_ri_likeness_11 rfl rfl ?_
  refine aw_aload_n 0 D_ri_likeness_12 rfl rfl ?_
  refine aw_iload D_ri_likeness_13 rfl ?_
  refine aw_callV1 (As := [_]) D_ri_likeness_15 kv_ri_sizeAround (c_ri_around hn hn9 hb hF hl) rfl rfl rfl rfl rfl (Nat.le_of_ble_eq_true rfl) (Nat.zero_le _) (Nat.zero_le _) ?_
  rw [hro]
  first | with_reducible refine aw_iremN D_ri_likeness_18 (by omega) (by omega) (by omega) ?_ | refine aw_irem D_ri_likeness_18 (by decide) ?_
  refine aw_callV1 (As := [_, _]) D_ri_likeness_19 kv_rg_walk (c_rg_walk (by omega) hn9 hl hb (by omega)) rfl rfl rfl rfl rfl (Nat.le_of_ble_eq_true rfl) (Nat.zero_le _) (Nat.zero_le _) ?_
  rw [hmod]
  refine aw_istore D_ri_likeness_22 (Nat.le_of_ble_eq_true rfl) rfl ?_
  refine aw_iconst (nI 0) D_ri_likeness_24 rfl ?_
  refine aw_istore D_ri_likeness_25 (Nat.le_of_ble_eq_true rfl) rfl ?_
  refine aw_iconst (nI 0) D_ri_likeness_27 rfl ?_
  refine aw_istore D_ri_likeness_28 (Nat.le_of_ble_eq_true rfl) rfl ?_
  exact key (sz r) 0 (by omega)
end Rings3
