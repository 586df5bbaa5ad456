/-! ### the rings get their names -/
theorem NI.cle {f : Nat → Nat} {N : Nat} {wt : Nat → Nat} {o : Nat → Option Nat} {be pc le sz : Nat → Nat} {c i : Nat} (h : NI f N wt o be pc le sz c i) : c ≤ i :=
  fb_holes i c le (fun r hr => (h.2.2.1 r hr).1) (fun r r' a b => Nat.ne_of_lt (h.2.2.2.1 r r' a b))
theorem WI.val {f : Nat → Nat} {N : Nat} {wt : Nat → Nat} {o o' : Nat → Option Nat} {be pc le sz be' pc' : Nat → Nat} {c i s j : Nat} (hN : NI f N wt o be pc le sz c i) (h : WI f N o be pc c s j o' be' pc') {t r : Nat} (ht : t < N) (e : o' t = some r) : r ≤ c := by
  by_cases hm : ∃ a, a < j ∧ itr f a s = t
  · obtain ⟨a, ha, z⟩ := hm
    have := (h.2.2.1 a ha).1
    rw [z, e] at this
    cases this; exact Nat.le_refl _
  · have := (h.2.2.2 t (fun a ha z => hm ⟨a, ha, z⟩)).1
    rw [e] at this
    have := (hN.2.1 t r ht this.symm).1
    omega
theorem ct_inQ {qu : Nat → Nat} {N : Nat} : ∀ k, (∀ j, j < k → qu j < N) → (∀ i j, i < j → j < k → qu i ≠ qu j) → fb_ct (fun s => inQ qu k s) N = k
  | 0, _, _ => fb_ct_zero.mpr (fun _ _ => rfl)
  | k + 1, h1, h2 => by
    have ih := ct_inQ k (fun j hj => h1 j (by omega)) (fun i j a b => h2 i j a (by omega))
    have hn : inQ qu k (qu k) = false := by
      rw [Bool.eq_false_iff]
      intro e
      obtain ⟨j, hj, e⟩ := (inQ_iff qu _ k).mp e
      exact h2 j k hj (by omega) e
    have e : (fun s => inQ qu (k + 1) s) = (fun s => if s = qu k then true else inQ qu k s) := by
      funext s
      show (inQ qu k s || decide (qu k = s)) = _
      by_cases q : s = qu k
      · rw [if_pos q, q]; simp
      · rw [if_neg q, show decide (qu k = s) = false from decide_eq_false (fun z => q z.symm), Bool.or_false]
    have := fb_ct_upd (fun s => inQ qu k s) true (i := qu k) (h1 k (by omega))
    rw [e]
    have e0 : (if inQ qu k (qu k) = true then 1 else 0) = 0 := by rw [hn]; rfl
    have e1 : (if true = true then 1 else 0) = 1 := rfl
    change _ + (if inQ qu k (qu k) = true then 1 else 0) = _ at this
    rw [e0, e1, ih] at this
    omega
theorem PI.count {f : Nat → Nat} {N : Nat} {wt qu : Nat → Nat} {pl q : Nat} (h : PI f N wt qu pl q) : fb_ct (fun t => decide (wt t = 0)) N = pl := by
  rw [← ct_inQ pl h.2.1 h.2.2.1]
  refine fb_ct_cong (fun t ht => ?_)
  rw [Bool.eq_iff_iff, decide_eq_true_iff, h.2.2.2.2.1 t ht, inQ_iff]
/-- all that is found of a register -/
def FT (n : Nat) (b : Nat → Nat) (c pd st fa : Nat) (o : Nat → Option Nat) (be pc le sz : Nat → Nat) : Prop :=
  (∀ s, s < 2 ^ n → o s ≠ none) ∧ VT (nx n b) (2 ^ n) (fun s => (o s).getD 0) be pc le sz c ∧ pd = fb_ct (fun s => decide (0 < be s)) (2 ^ n) ∧ st = strt n b ∧ (∀ s, s < 2 ^ n → be s ≤ fa) ∧ (fa = 0 ∨ ∃ s, s < 2 ^ n ∧ be s = fa) ∧ fa ≤ 2 ^ n
section Rings2
variable {mn tr sh rr mo dy : List va_E} {n N ch : Nat} {b bn : Nat → Nat} {c pd st fa : Nat} {o : Nat → Option Nat} {be pc le sz wt qu : Nat → Nat}
theorem c_ri_nameRing {s pl : Nat} (hn : 2 ≤ n) (hn9 : n ≤ 9) (hN : N = 2 ^ n) (hb : ∀ k, b k ≤ 1) (hI : PI (nx n b) N wt qu pl pl) (hNI : NI (nx n b) N wt o be pc le sz c s) (hs : s < N) (hw : wt s ≠ 0) (hos : o s = none) : AMet M_ri_nameRing [.ref 2, .ref 1, .int (nI s)] [mn, RG n N ch b bn, RI c pd st fa o be pc le sz wt qu, tr, sh, rr, mo, dy]
    (fun r w' => r = none ∧ ∃ (o' : Nat → Option Nat) (be' pc' le' sz' : Nat → Nat), w' = [mn, RG n N ch b bn, RI (c + 1) pd st fa o' be' pc' le' sz' wt qu, tr, sh, rr, mo, dy] ∧ NI (nx n b) N wt o' be' pc' le' sz' (c + 1) (s + 1)) 0 0 := by
  have hp9 := pow_le9 hn9
  subst hN
  have hf : ∀ s, s < 2 ^ n → nx n b s < 2 ^ n := fun s hs => nx_lt (by omega) hs hb
  obtain ⟨hst, hinj⟩ := hI.stay hf
  have hcle := hNI.cle
  refine AMet.of [(0, .ref 2), (1, .ref 1), (2, .int (nI s))] (by decide +kernel) rfl (Nat.le_of_ble_eq_true rfl) ?_
  generalize hZ : (fun (r : Option Value) (w' : Wd) => r = none ∧ ∃ (o' : Nat → Option Nat) (be' pc' le' sz' : Nat → Nat), w' = [mn, RG n (2 ^ n) ch b bn, RI (c + 1) pd st fa o' be' pc' le' sz' wt qu, tr, sh, rr, mo, dy] ∧ NI (nx n b) (2 ^ n) wt o' be' pc' le' sz' (c + 1) (s + 1)) = Post
  have hend : ∀ (j : Nat) (o' : Nat → Option Nat) (be' pc' : Nat → Nat), WI (nx n b) (2 ^ n) o be pc c s j o' be' pc' → o' (itr (nx n b) j s) ≠ none → AW M_ri_nameRing noP (Zp Post) 0 0 61 [(0, .ref 2), (1, .ref 1), (2, .int (nI s)), (3, .int (nI (itr (nx n b) j s))), (4, .int (nI j))] [] [mn, RG n (2 ^ n) ch b bn, RI c pd st fa o' be' pc' le sz wt qu, tr, sh, rr, mo, dy] 0 0 := by
    intro j o' be' pc' hW he
    refine aw_aload_n 0 D_ri_nameRing_61 rfl rfl ?_
    refine aw_get D_ri_nameRing_62 rfl rfl ?_
    refine aw_aload_n 0 D_ri_nameRing_65 rfl rfl ?_
    refine aw_get D_ri_nameRing_66 rfl rfl ?_
    refine aw_iload_n 2 D_ri_nameRing_69 rfl rfl ?_
    refine aw_iastN D_ri_nameRing_70 rfl (by omega) (by omega) ?_
    refine aw_aload_n 0 D_ri_nameRing_71 rfl rfl ?_
    refine aw_get D_ri_nameRing_72 rfl rfl ?_
    refine aw_aload_n 0 D_ri_nameRing_75 rfl rfl ?_
    refine aw_get D_ri_nameRing_76 rfl rfl ?_
    refine aw_iload D_ri_nameRing_79 rfl ?_
    refine aw_iastN D_ri_nameRing_81 rfl (by omega) (by omega) ?_
    refine aw_aload_n 0 D_ri_nameRing_82 rfl rfl ?_
    refine aw_dup D_ri_nameRing_83 rfl ?_
    refine aw_get D_ri_nameRing_84 rfl rfl ?_
    refine aw_iconst (nI 1) D_ri_nameRing_87 rfl ?_
    first | with_reducible refine aw_iaddN D_ri_nameRing_88 ?_ | refine aw_iadd D_ri_nameRing_88 ?_
    refine aw_put tc_ri D_ri_nameRing_89 rfl (Nat.le_of_ble_eq_true rfl) rfl rfl ?_
    refine aw_return D_ri_nameRing_92 rfl ?_
    rw [← hZ]; exact ⟨rfl, o', be', pc', va_up le c s, va_up sz c j, rfl, hNI.ring hf hst hinj hs hw hos hW he⟩
  have loop : ∀ (m j : Nat) (o' : Nat → Option Nat) (be' pc' : Nat → Nat), 2 ^ n - j = m → WI (nx n b) (2 ^ n) o be pc c s j o' be' pc' → AW M_ri_nameRing noP (Zp Post) 0 0 5 [(0, .ref 2), (1, .ref 1), (2, .int (nI s)), (3, .int (nI (itr (nx n b) j s))), (4, .int (nI j))] [] [mn, RG n (2 ^ n) ch b bn, RI c pd st fa o' be' pc' le sz wt qu, tr, sh, rr, mo, dy] 0 0 := by
    intro m
    induction m with
    | zero =>
      intro j o' be' pc' hm hW
      have hjle := hW.le hf hs
      have he : o' (itr (nx n b) j s) ≠ none := fun z => by have := hW.full hf hs z; omega
      refine aw_iload D_ri_nameRing_5 rfl ?_
      refine aw_aload_n 1 D_ri_nameRing_7 rfl rfl ?_
      refine aw_get D_ri_nameRing_8 rfl rfl ?_
      refine aw_icmp_geN D_ri_nameRing_11 (by omega) (by omega) (fun h => ?_) (fun h => absurd h (by omega))
      exact hend j o' be' pc' hW he
    | succ m ih =>
      intro j o' be' pc' hm hW
      have hx := itr_lt hf j s hs
      have hv : ∀ r, o' (itr (nx n b) j s) = some r → r < 2 ^ 31 := fun r e => by have := hW.val hNI hx e; omega
      refine aw_iload D_ri_nameRing_5 rfl ?_
      refine aw_aload_n 1 D_ri_nameRing_7 rfl rfl ?_
      refine aw_get D_ri_nameRing_8 rfl rfl ?_
      refine aw_icmp_geN D_ri_nameRing_11 (by omega) (by omega) (fun h => absurd h (by omega)) (fun h => ?_)
      refine aw_aload_n 0 D_ri_nameRing_14 rfl rfl ?_
      refine aw_get D_ri_nameRing_15 rfl rfl ?_
      refine aw_iload_n 3 D_ri_nameRing_18 rfl rfl ?_
      refine aw_ialdN D_ri_nameRing_19 rfl (by omega) (by omega) ?_
      refine aw_iconst (-nI 1) D_ri_nameRing_20 rfl ?_
      refine aw_icmp_ne D_ri_nameRing_21 (fun h2 => ?_) (fun h2 => ?_)
      · exact hend j o' be' pc' hW (fun z => h2 ((oI_m1 hv).mpr z))
      · have h3 := (oI_m1 hv).mp h2
        refine aw_aload_n 0 D_ri_nameRing_24 rfl rfl ?_
        refine aw_get D_ri_nameRing_25 rfl rfl ?_
        refine aw_iload_n 3 D_ri_nameRing_28 rfl rfl ?_
        refine aw_aload_n 0 D_ri_nameRing_29 rfl rfl ?_
        refine aw_get D_ri_nameRing_30 rfl rfl ?_
        refine aw_iastJ D_ri_nameRing_33 rfl (by omega) (by omega) ?_
        rw [oF_upd1]
        refine aw_aload_n 0 D_ri_nameRing_34 rfl rfl ?_
        refine aw_get D_ri_nameRing_35 rfl rfl ?_
        refine aw_iload_n 3 D_ri_nameRing_38 rfl rfl ?_
        refine aw_iconst (nI 0) D_ri_nameRing_39 rfl ?_
        refine aw_iastN D_ri_nameRing_40 rfl (by omega) (by omega) ?_
        refine aw_aload_n 0 D_ri_nameRing_41 rfl rfl ?_
        refine aw_get D_ri_nameRing_42 rfl rfl ?_
        refine aw_iload_n 3 D_ri_nameRing_45 rfl rfl ?_
        refine aw_iload D_ri_nameRing_46 rfl ?_
        refine aw_iastN D_ri_nameRing_48 rfl (by omega) (by omega) ?_
        refine aw_aload_n 1 D_ri_nameRing_49 rfl rfl ?_
        refine aw_iload_n 3 D_ri_nameRing_50 rfl rfl ?_
        refine aw_callV1 (As := [_]) D_ri_nameRing_51 kv_rg_next (c_rg_next (by omega) hn9 hx hb) rfl rfl rfl rfl rfl (Nat.le_of_ble_eq_true rfl) (Nat.zero_le _) (Nat.zero_le _) ?_
        refine aw_istore_n 3 D_ri_nameRing_54 rfl (Nat.le_of_ble_eq_true rfl) rfl ?_
        first | refine aw_incN D_ri_nameRing_55 rfl (Nat.le_of_ble_eq_true rfl) rfl ?_ | refine aw_inc D_ri_nameRing_55 rfl (Nat.le_of_ble_eq_true rfl) rfl ?_
        refine aw_goto D_ri_nameRing_58 ?_
        rw [← itr_succ (nx n b)]
        exact ih (j + 1) _ _ _ (by omega) (hW.step h3)
  refine aw_iload_n 2 D_ri_nameRing_0 rfl rfl ?_
  refine aw_istore_n 3 D_ri_nameRing_1 rfl (Nat.le_of_ble_eq_true rfl) rfl ?_
  refine aw_iconst (nI 0) D_ri_nameRing_2 rfl ?_
  refine aw_istore D_ri_nameRing_3 (Nat.le_of_ble_eq_true rfl) rfl ?_
  exact loop (2 ^ n) 0 o be pc (by omega) (WI.zero _ _ _ _ _ _ _)
theorem c_ri_nameRings {pl : Nat} (hn : 2 ≤ n) (hn9 : n ≤ 9) (hN : N = 2 ^ n) (hb : ∀ k, b k ≤ 1) (hI : PI (nx n b) N wt qu pl pl) (ho : ∀ t, t < N → o t = none) : AMet M_ri_nameRings [.ref 2, .ref 1] [mn, RG n N ch b bn, RI c pd st fa o be pc le sz wt qu, tr, sh, rr, mo, dy]
    (fun r w' => r = none ∧ ∃ (o' : Nat → Option Nat) (be' pc' le' sz' : Nat → Nat) (c' : Nat), w' = [mn, RG n N ch b bn, RI c' pd st fa o' be' pc' le' sz' wt qu, tr, sh, rr, mo, dy] ∧ NI (nx n b) N wt o' be' pc' le' sz' c' N) 0 0 := by
  have hp9 := pow_le9 hn9
  refine AMet.of [(0, .ref 2), (1, .ref 1)] (by decide +kernel) rfl (Nat.le_of_ble_eq_true rfl) ?_
  generalize hZ : (fun (r : Option Value) (w' : Wd) => r = none ∧ ∃ (o' : Nat → Option Nat) (be' pc' le' sz' : Nat → Nat) (c' : Nat), w' = [mn, RG n N ch b bn, RI c' pd st fa o' be' pc' le' sz' wt qu, tr, sh, rr, mo, dy] ∧ NI (nx n b) N wt o' be' pc' le' sz' c' N) = Post
  have hwle : ∀ t, t < N → wt t ≤ N := fun t ht => by rw [hI.2.2.2.1 t ht]; exact fb_ct_le _ _
  have loop : ∀ (m i : Nat) (o' : Nat → Option Nat) (be' pc' le' sz' : Nat → Nat) (c' : Nat), i + m = N → NI (nx n b) N wt o' be' pc' le' sz' c' i → AW M_ri_nameRings noP (Zp Post) 0 0 7 [(0, .ref 2), (1, .ref 1), (2, .int (nI i))] [] [mn, RG n N ch b bn, RI c' pd st fa o' be' pc' le' sz' wt qu, tr, sh, rr, mo, dy] 0 0 := by
    intro m
    induction m with
    | zero =>
      intro i o' be' pc' le' sz' c' hi hNI
      refine aw_iload_n 2 D_ri_nameRings_7 rfl rfl ?_
      refine aw_aload_n 1 D_ri_nameRings_8 rfl rfl ?_
      refine aw_get D_ri_nameRings_9 rfl rfl ?_
      refine aw_icmp_geN D_ri_nameRings_12 (by omega) (by omega) (fun h => ?_) (fun h => absurd h (by omega))
      rw [show i = N by omega] at hNI
      refine aw_return D_ri_nameRings_46 rfl ?_
      rw [← hZ]; exact ⟨rfl, o', be', pc', le', sz', c', rfl, hNI⟩
    | succ m ih =>
      intro i o' be' pc' le' sz' c' hi hNI
      have hwi := hwle i (by omega)
      have hcl := hNI.cle
      refine aw_iload_n 2 D_ri_nameRings_7 rfl rfl ?_
      refine aw_aload_n 1 D_ri_nameRings_8 rfl rfl ?_
      refine aw_get D_ri_nameRings_9 rfl rfl ?_
      refine aw_icmp_geN D_ri_nameRings_12 (by omega) (by omega) (fun h => absurd h (by omega)) (fun h => ?_)
      refine aw_aload_n 0 D_ri_nameRings_15 rfl rfl ?_
      refine aw_get D_ri_nameRings_16 rfl rfl ?_
      refine aw_iload_n 2 D_ri_nameRings_19 rfl rfl ?_
      refine aw_ialdN D_ri_nameRings_20 rfl (by omega) (by omega) ?_
      refine aw_if_leN D_ri_nameRings_21 (by omega) (fun h2 => ?_) (fun h2 => ?_)
      · first | refine aw_incN D_ri_nameRings_40 rfl (Nat.le_of_ble_eq_true rfl) rfl ?_ | refine aw_inc D_ri_nameRings_40 rfl (Nat.le_of_ble_eq_true rfl) rfl ?_
        refine aw_goto D_ri_nameRings_43 ?_
        exact ih (i + 1) _ _ _ _ _ _ (by omega) (hNI.skip (Or.inl h2))
      · have hv : ∀ r, o' i = some r → r < 2 ^ 31 := fun r e => by have := (hNI.2.1 i r (by omega) e).1; omega
        refine aw_aload_n 0 D_ri_nameRings_24 rfl rfl ?_
        refine aw_get D_ri_nameRings_25 rfl rfl ?_
        refine aw_iload_n 2 D_ri_nameRings_28 rfl rfl ?_
        refine aw_ialdN D_ri_nameRings_29 rfl (by omega) (by omega) ?_
        refine aw_iconst (-nI 1) D_ri_nameRings_30 rfl ?_
        refine aw_icmp_ne D_ri_nameRings_31 (fun h3 => ?_) (fun h3 => ?_)
        · first | refine aw_incN D_ri_nameRings_40 rfl (Nat.le_of_ble_eq_true rfl) rfl ?_ | refine aw_inc D_ri_nameRings_40 rfl (Nat.le_of_ble_eq_true rfl) rfl ?_
          refine aw_goto D_ri_nameRings_43 ?_
          exact ih (i + 1) _ _ _ _ _ _ (by omega) (hNI.skip (Or.inr (fun z => h3 ((oI_m1 hv).mpr z))))
        · refine aw_aload_n 0 D_ri_nameRings_34 rfl rfl ?_
          refine aw_aload_n 1 D_ri_nameRings_35 rfl rfl ?_
          refine aw_iload_n 2 D_ri_nameRings_36 rfl rfl ?_
          refine aw_callV (As := [_, _]) D_ri_nameRings_37 kv_ri_nameRing (c_ri_nameRing (s := i) hn hn9 hN hb hI hNI (by omega) (by omega) ((oI_m1 hv).mp h3)) rfl rfl rfl rfl rfl (Nat.le_of_ble_eq_true rfl) (Nat.zero_le _) (Nat.zero_le _) (fun r w' hp => ?_)
          obtain ⟨rfl, o2, be2, pc2, le2, sz2, rfl, h4⟩ := hp
          first | refine aw_incN D_ri_nameRings_40 rfl (Nat.le_of_ble_eq_true rfl) rfl ?_ | refine aw_inc D_ri_nameRings_40 rfl (Nat.le_of_ble_eq_true rfl) rfl ?_
          refine aw_goto D_ri_nameRings_43 ?_
          exact ih (i + 1) _ _ _ _ _ _ (by omega) h4
  refine aw_aload_n 0 D_ri_nameRings_0 rfl rfl ?_
  refine aw_iconst (nI 0) D_ri_nameRings_1 rfl ?_
  refine aw_put tc_ri D_ri_nameRings_2 rfl (Nat.le_of_ble_eq_true rfl) rfl rfl ?_
  refine aw_iconst (nI 0) D_ri_nameRings_5 rfl ?_
  refine aw_istore_n 2 D_ri_nameRings_6 rfl (Nat.le_of_ble_eq_true rfl) rfl ?_
  exact loop N 0 o be pc le sz 0 (by omega) (NI.zero ho)
theorem c_ri_nameBehind (hn : 2 ≤ n) (hn9 : n ≤ 9) (hN : N = 2 ^ n) (hb : ∀ k, b k ≤ 1) (hI : PI (nx n b) N wt qu pd pd) (hNI : NI (nx n b) N wt o be pc le sz c N) : AMet M_ri_nameBehind [.ref 2, .ref 1] [mn, RG n N ch b bn, RI c pd (strt n b) fa o be pc le sz wt qu, tr, sh, rr, mo, dy]
    (fun r w' => r = none ∧ ∃ (fa' : Nat) (o' : Nat → Option Nat) (be' pc' : Nat → Nat), w' = [mn, RG n N ch b bn, RI c pd (strt n b) fa' o' be' pc' le sz wt qu, tr, sh, rr, mo, dy] ∧ FT n b c pd (strt n b) fa' o' be' pc' le sz) 0 0 := by
  have hp9 := pow_le9 hn9
  subst hN
  have hf : ∀ s, s < 2 ^ n → nx n b s < 2 ^ n := fun s hs => nx_lt (by omega) hs hb
  have hple := hI.le
  refine AMet.of [(0, .ref 2), (1, .ref 1)] (by decide +kernel) rfl (Nat.le_of_ble_eq_true rfl) ?_
  generalize hZ : (fun (r : Option Value) (w' : Wd) => r = none ∧ ∃ (fa' : Nat) (o' : Nat → Option Nat) (be' pc' : Nat → Nat), w' = [mn, RG n (2 ^ n) ch b bn, RI c pd (strt n b) fa' o' be' pc' le sz wt qu, tr, sh, rr, mo, dy] ∧ FT n b c pd (strt n b) fa' o' be' pc' le sz) = Post
  have loop : ∀ (k : Nat) (fa : Nat) (o' : Nat → Option Nat) (be' pc' : Nat → Nat), k ≤ pd → BI (nx n b) (2 ^ n) wt qu pd k o be pc o' be' pc' → (∀ t, t < 2 ^ n → o' t ≠ none → be' t ≤ pd - k) → (∀ j, k ≤ j → j < pd → be' (qu j) ≤ fa) → (fa = 0 ∨ ∃ j, k ≤ j ∧ j < pd ∧ be' (qu j) = fa) → fa ≤ pd - k →
      AW M_ri_nameBehind noP (Zp Post) 0 0 12 [(0, .ref 2), (1, .ref 1), (2, .int (nI k - nI 1))] [] [mn, RG n (2 ^ n) ch b bn, RI c pd (strt n b) fa o' be' pc' le sz wt qu, tr, sh, rr, mo, dy] 0 0 := by
    intro k
    induction k with
    | zero =>
      intro fa o' be' pc' hk hB hbd h1 h2 h3
      refine aw_iload_n 2 D_ri_nameBehind_12 rfl rfl ?_
      refine aw_if_lt D_ri_nameBehind_13 (fun h => ?_) (fun h => absurd (show nI 0 - nI 1 < 0 by decide) h)
      obtain ⟨d1, d2, d3⟩ := hB.done hf hI hNI
      have hq : ∀ s, s < 2 ^ n → (∃ j, j < pd ∧ qu j = s) ∨ be' s = 0 := by
        intro s hs
        by_cases q : wt s = 0
        · exact Or.inl ((hI.2.2.2.2.1 s hs).mp q)
        · exact Or.inr ((d3 s hs).mpr q)
      have hFT : FT n b c pd (strt n b) fa o' be' pc' le sz := by
        refine ⟨d1, d2, ?_, rfl, fun s hs => ?_, ?_, by omega⟩
        · rw [← hI.count]
          refine fb_ct_cong (fun s hs => ?_)
          rw [Bool.eq_iff_iff, decide_eq_true_iff, decide_eq_true_iff]
          have := d3 s hs
          omega
        · rcases hq s hs with ⟨j, hj, rfl⟩ | q
          · exact h1 j (Nat.zero_le _) hj
          · omega
        · rcases h2 with q | ⟨j, -, hj, q⟩
          · exact Or.inl q
          · exact Or.inr ⟨qu j, hI.2.1 j hj, q⟩
      refine aw_return D_ri_nameBehind_94 rfl ?_
      rw [← hZ]; exact ⟨rfl, fa, o', be', pc', rfl, hFT⟩
    | succ k ih =>
      intro fa o' be' pc' hk hB hbd h1 h2 h3
      rw [pk_sub (show 1 ≤ k + 1 by omega), show k + 1 - 1 = k from rfl]
      have hs := hI.2.1 k (by omega)
      have ht := hf _ hs
      have hnm := hB.named hf hI hNI (by omega)
      have hbt := hbd _ ht hnm
      have hd : ∀ j, k + 1 ≤ j → j < pd → qu j ≠ qu k := fun j a1 a2 z => hI.2.2.1 k j (by omega) a2 z.symm
      refine aw_iload_n 2 D_ri_nameBehind_12 rfl rfl ?_
      refine aw_if_ltN D_ri_nameBehind_13 (by omega) ?_
      refine aw_aload_n 0 D_ri_nameBehind_16 rfl rfl ?_
      refine aw_get D_ri_nameBehind_17 rfl rfl ?_
      refine aw_iload_n 2 D_ri_nameBehind_20 rfl rfl ?_
      refine aw_ialdN D_ri_nameBehind_21 rfl (by omega) (by omega) ?_
      refine aw_istore_n 3 D_ri_nameBehind_22 rfl (Nat.le_of_ble_eq_true rfl) rfl ?_
      refine aw_aload_n 1 D_ri_nameBehind_23 rfl rfl ?_
      refine aw_iload_n 3 D_ri_nameBehind_24 rfl rfl ?_
      refine aw_callV1 (As := [_]) D_ri_nameBehind_25 kv_rg_next (c_rg_next (s := qu k) (by omega) hn9 hs hb) rfl rfl rfl rfl rfl (Nat.le_of_ble_eq_true rfl) (Nat.zero_le _) (Nat.zero_le _) ?_
      refine aw_istore D_ri_nameBehind_28 (Nat.le_of_ble_eq_true rfl) rfl ?_
      refine aw_aload_n 0 D_ri_nameBehind_30 rfl rfl ?_
      refine aw_get D_ri_nameBehind_31 rfl rfl ?_
      refine aw_iload_n 3 D_ri_nameBehind_34 rfl rfl ?_
      refine aw_aload_n 0 D_ri_nameBehind_35 rfl rfl ?_
      refine aw_get D_ri_nameBehind_36 rfl rfl ?_
      refine aw_iload D_ri_nameBehind_39 rfl ?_
      refine aw_ialdN D_ri_nameBehind_41 rfl (by omega) (by omega) ?_
      refine aw_iastJ D_ri_nameBehind_42 rfl (by omega) (by omega) ?_
      rw [oF_upd]
      refine aw_aload_n 0 D_ri_nameBehind_43 rfl rfl ?_
      refine aw_get D_ri_nameBehind_44 rfl rfl ?_
      refine aw_iload_n 3 D_ri_nameBehind_47 rfl rfl ?_
      refine aw_aload_n 0 D_ri_nameBehind_48 rfl rfl ?_
      refine aw_get D_ri_nameBehind_49 rfl rfl ?_
      refine aw_iload D_ri_nameBehind_52 rfl ?_
      refine aw_ialdN D_ri_nameBehind_54 rfl (by omega) (by omega) ?_
      refine aw_iastN D_ri_nameBehind_55 rfl (by omega) (by omega) ?_
      refine aw_aload_n 0 D_ri_nameBehind_56 rfl rfl ?_
      refine aw_get D_ri_nameBehind_57 rfl rfl ?_
      refine aw_iload_n 3 D_ri_nameBehind_60 rfl rfl ?_
      refine aw_aload_n 0 D_ri_nameBehind_61 rfl rfl ?_
      refine aw_get D_ri_nameBehind_62 rfl rfl ?_
      refine aw_iload D_ri_nameBehind_65 rfl ?_
      refine aw_ialdN D_ri_nameBehind_67 rfl (by omega) (by omega) ?_
      refine aw_iconst (nI 1) D_ri_nameBehind_68 rfl ?_
      first | with_reducible refine aw_iaddN D_ri_nameBehind_69 ?_ | refine aw_iadd D_ri_nameBehind_69 ?_
      refine aw_iastN D_ri_nameBehind_70 rfl (by omega) (by omega) ?_
      refine aw_aload_n 0 D_ri_nameBehind_71 rfl rfl ?_
      refine aw_aload_n 0 D_ri_nameBehind_72 rfl rfl ?_
      refine aw_get D_ri_nameBehind_73 rfl rfl ?_
      refine aw_aload_n 0 D_ri_nameBehind_76 rfl rfl ?_
      refine aw_get D_ri_nameBehind_77 rfl rfl ?_
      refine aw_iload_n 3 D_ri_nameBehind_80 rfl rfl ?_
      refine aw_ialdN D_ri_nameBehind_81 rfl (by omega) (by omega) ?_
      rw [nF_at]
      refine aw_maxN D_ri_nameBehind_82 (by omega) (by omega) (Nat.le_of_ble_eq_true rfl) ?_
      refine aw_put tc_ri D_ri_nameBehind_85 rfl (Nat.le_of_ble_eq_true rfl) rfl rfl ?_
      first | refine aw_decN D_ri_nameBehind_88 rfl (by omega) (Nat.le_of_ble_eq_true rfl) rfl ?_ | refine aw_dec D_ri_nameBehind_88 rfl (Nat.le_of_ble_eq_true rfl) rfl ?_
      refine aw_goto D_ri_nameBehind_91 ?_
      refine aw_take 3 ?_
      refine ih (max fa (be' (nx n b (qu k)) + 1)) _ _ _ (by omega) (hB.step hf hI hNI (by omega)) (fun t ht2 hne => ?_) (fun j hj hjp => ?_) ?_ (by omega)
      · by_cases e : t = qu k
        · rw [e, vu_at]; omega
        · rw [vu_ne e] at hne ⊢
          have := hbd t ht2 hne
          omega
      · by_cases e : j = k
        · rw [e, vu_at]; omega
        · rw [vu_ne (hd j (by omega) hjp)]
          have := h1 j (by omega) hjp
          omega
      · right
        rcases Nat.le_total fa (be' (nx n b (qu k)) + 1) with q | q
        · exact ⟨k, Nat.le_refl _, by omega, by rw [vu_at]; omega⟩
        · rcases h2 with z | ⟨j, j1, j2, j3⟩
          · omega
          · exact ⟨j, by omega, j2, by rw [vu_ne (hd j j1 j2)]; omega⟩
  refine aw_aload_n 0 D_ri_nameBehind_0 rfl rfl ?_
  refine aw_iconst (nI 0) D_ri_nameBehind_1 rfl ?_
  refine aw_put tc_ri D_ri_nameBehind_2 rfl (Nat.le_of_ble_eq_true rfl) rfl rfl ?_
  refine aw_aload_n 0 D_ri_nameBehind_5 rfl rfl ?_
  refine aw_get D_ri_nameBehind_6 rfl rfl ?_
  refine aw_iconst (nI 1) D_ri_nameBehind_9 rfl ?_
  refine aw_isub D_ri_nameBehind_10 ?_
  refine aw_istore_n 2 D_ri_nameBehind_11 rfl (Nat.le_of_ble_eq_true rfl) rfl ?_
  refine loop pd 0 o be pc (Nat.le_refl _) (BI.start _ _ _ _ _ _ _ _) (fun t ht hne => ?_) (fun j a1 a2 => absurd a1 (by omega)) (Or.inl rfl) (Nat.zero_le _)
  cases hr : o t with
  | none => exact absurd hr hne
  | some r => rw [(hNI.2.1 t r ht hr).2.2.1]; exact Nat.zero_le _
theorem c_ri_find (hn : 2 ≤ n) (hn9 : n ≤ 9) (hN : N = 2 ^ n) (hb : ∀ k, b k ≤ 1) : AMet M_ri_find [.ref 2, .ref 1] [mn, RG n N ch b bn, RI c pd st fa o be pc le sz wt qu, tr, sh, rr, mo, dy]
    (fun r w' => r = none ∧ ∃ (c' pd' st' fa' : Nat) (o' : Nat → Option Nat) (be' pc' le' sz' wt' qu' : Nat → Nat), w' = [mn, RG n N ch b bn, RI c' pd' st' fa' o' be' pc' le' sz' wt' qu', tr, sh, rr, mo, dy] ∧ FT n b c' pd' st' fa' o' be' pc' le' sz') 0 0 := by
  refine AMet.of [(0, .ref 2), (1, .ref 1)] (by decide +kernel) rfl (Nat.le_of_ble_eq_true rfl) ?_
  refine aw_aload_n 0 D_ri_find_0 rfl rfl ?_
  refine aw_aload_n 1 D_ri_find_1 rfl rfl ?_
  refine aw_callV (As := [_]) D_ri_find_2 kv_ri_peel (c_ri_peel hn hn9 hN hb) rfl rfl rfl rfl rfl (Nat.le_of_ble_eq_true rfl) (Nat.zero_le _) (Nat.zero_le _) (fun r w' hp => ?_)
  obtain ⟨rfl, o1, wt1, qu1, pl, rfl, ho, hI⟩ := hp
  refine aw_aload_n 0 D_ri_find_5 rfl rfl ?_
  refine aw_aload_n 1 D_ri_find_6 rfl rfl ?_
  refine aw_callV (As := [_]) D_ri_find_7 kv_ri_nameRings (c_ri_nameRings hn hn9 hN hb hI ho) rfl rfl rfl rfl rfl (Nat.le_of_ble_eq_true rfl) (Nat.zero_le _) (Nat.zero_le _) (fun r w' hp => ?_)
  obtain ⟨rfl, o2, be2, pc2, le2, sz2, c2, rfl, hNI⟩ := hp
  refine aw_aload_n 0 D_ri_find_10 rfl rfl ?_
  refine aw_aload_n 1 D_ri_find_11 rfl rfl ?_
  refine aw_callV (As := [_]) D_ri_find_12 kv_ri_nameBehind (c_ri_nameBehind hn hn9 hN hb hI hNI) rfl rfl rfl rfl rfl (Nat.le_of_ble_eq_true rfl) (Nat.zero_le _) (Nat.zero_le _) (fun r w' hp => ?_)
  obtain ⟨rfl, fa3, o3, be3, pc3, rfl, hFT⟩ := hp
  refine aw_return D_ri_find_15 rfl ?_
  exact ⟨rfl, c2, pl, strt n b, fa3, o3, be3, pc3, le2, sz2, wt1, qu1, rfl, hFT⟩
end Rings2
