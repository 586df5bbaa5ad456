/-! ### the reference: back, about, ring, told, turn, along, tell, weigh, as -/
/-- the j-th before i that p holds of -/
def fnd (p : Nat → Bool) (j : Nat) : Nat → Int32
  | 0 => -nI 1
  | i + 1 => if p i && decide (fb_ct p i = j) then nI i else fnd p j i
theorem fnd_two {p : Nat → Bool} {e j : Nat} (h : ∀ s, p s = true → s = e ∨ s = e + 1) (hj : j ≤ 1) (N : Nat) (hN : e + 1 < N) : fnd p j N = if fb_ct p N ≤ j then -nI 1 else nI (if j = 0 ∧ p e = true then e else e + 1) := by
  have lo : ∀ k, k ≤ e → fb_ct p k = 0 ∧ fnd p j k = -nI 1 := by
    intro k
    induction k with
    | zero => exact fun _ => ⟨rfl, rfl⟩
    | succ k ih =>
      intro hk
      have hp : p k = false := by
        rw [Bool.eq_false_iff]
        intro z
        rcases h k z with q | q <;> omega
      obtain ⟨i1, i2⟩ := ih (by omega)
      refine ⟨?_, ?_⟩
      · rw [fb_ct_succ, i1, hp]; rfl
      · unfold fnd; rw [hp, i2]; rfl
  have hi : ∀ m, fnd p j (e + 2 + m) = fnd p j (e + 2) := by
    intro m
    induction m with
    | zero => rfl
    | succ m ih =>
      have hp : p (e + 2 + m) = false := by
        rw [Bool.eq_false_iff]
        intro z
        rcases h _ z with q | q <;> omega
      show (if p (e + 2 + m) && decide (fb_ct p (e + 2 + m) = j) then nI (e + 2 + m) else fnd p j (e + 2 + m)) = _
      rw [hp, ih]
      rfl
  have hc := ct_two h N hN
  obtain ⟨l1, l2⟩ := lo e (Nat.le_refl e)
  rw [hc, show N = e + 2 + (N - (e + 2)) by omega, hi]
  show (if p (e + 1) && decide (fb_ct p (e + 1) = j) then nI (e + 1) else (if p e && decide (fb_ct p e = j) then nI e else fnd p j e)) = _
  rw [fb_ct_succ, l1, l2]
  rcases (show j = 0 ∨ j = 1 by omega) with rfl | rfl <;> cases p e <;> cases p (e + 1) <;> rfl
section Mo3
variable {a0 a1 a2 a3 a4 a5 a7 m : List va_E} {fl tc : Int32} {n : Nat} {b : Nat → Nat} {la : Nat → Int32} {zs : Nat → Nat} {cs : Nat → Nat → Int64}
theorem wi_B {y : Int32} (hy : y ≠ -nI 1) (hy2 : ¬ vp_in y 2) : ¬ (-lN 1 ≤ y.toInt64 ∧ y.toInt64 ≤ lN 1) := by
  rintro ⟨h1, h2⟩
  rw [show (-lN 1 : Int64) = (-nI 1 : Int32).toInt64 by decide, fa_wide_le, fa_le] at h1
  rw [show (lN 1 : Int64) = (nI 1 : Int32).toInt64 by decide, fa_wide_le, fa_le] at h2
  rw [show (-nI 1 : Int32).toInt = -1 by decide] at h1
  rw [show (nI 1 : Int32).toInt = 1 by decide] at h2
  rw [vp_in_iff] at hy2
  have : y.toInt ≠ -1 := fun z => hy ((fa_eq _ _).mpr (z.trans (show (-1 : Int) = (-nI 1 : Int32).toInt by decide)))
  omega
theorem c_mo_backU {x y : Int32} (hx : ¬ vp_in x (2 ^ n)) (h : MS n b tc fl la zs cs m) : AMet M_mo_back [.ref 6, .int x, .int y] [a0, a1, a2, a3, a4, a5, m, a7] (fun (r' : Option Value) (w' : Wd) => r' = some (.int (-nI 1)) ∧ ∃ m', w' = [a0, a1, a2, a3, a4, a5, m', a7] ∧ MS n b tc fl la zs cs m') 0 0 := by
  obtain ⟨fd, R, le, sz, o, be, pc, wt, qu, lm, sl, ce, tb, mt, ru, bf, kp, rfl, hn, hn9, hb, hfd, hL, hT⟩ := h
  refine AMet.of [(0, .ref 6), (1, .int x), (2, .int y)] (by decide +kernel) rfl (Nat.le_of_ble_eq_true rfl) ?_
  refine aw_aload_n 0 D_mo_back_0 rfl rfl ?_
  refine aw_iload_n 1 D_mo_back_1 rfl rfl ?_
  refine aw_callV1 (As := [_]) D_mo_back_2 kv_mo_isState (c_mo_isStateF hn9 hx) rfl rfl rfl rfl rfl (Nat.le_of_ble_eq_true rfl) (Nat.zero_le _) (Nat.zero_le _) ?_
  refine aw_if_neN D_mo_back_5 (by decide) (fun h => absurd h (by decide)) (fun h => ?_)
  refine aw_iconst (-nI 1) D_mo_back_8 rfl ?_
  refine aw_ireturn D_mo_back_9 rfl rfl ?_
  exact ⟨rfl, _, rfl, fd, R, le, sz, o, be, pc, wt, qu, lm, sl, ce, tb, mt, ru, bf, kp, rfl, hn, hn9, hb, hfd, hL, hT⟩
theorem c_mo_backO {s : Nat} {y : Int32} (hs : s < 2 ^ n) (hy : y ≠ -nI 1) (hy2 : ¬ vp_in y 2) (h : MS n b tc fl la zs cs m) : AMet M_mo_back [.ref 6, .int (nI s), .int y] [a0, a1, a2, a3, a4, a5, m, a7] (fun (r' : Option Value) (w' : Wd) => r' = some (.int (-nI 2)) ∧ ∃ m', w' = [a0, a1, a2, a3, a4, a5, m', a7] ∧ MS n b tc fl la zs cs m') 0 0 := by
  obtain ⟨fd, R, le, sz, o, be, pc, wt, qu, lm, sl, ce, tb, mt, ru, bf, kp, rfl, hn, hn9, hb, hfd, hL, hT⟩ := h
  refine AMet.of [(0, .ref 6), (1, .int (nI s)), (2, .int y)] (by decide +kernel) rfl (Nat.le_of_ble_eq_true rfl) ?_
  refine aw_aload_n 0 D_mo_back_0 rfl rfl ?_
  refine aw_iload_n 1 D_mo_back_1 rfl rfl ?_
  refine aw_callV1 (As := [_]) D_mo_back_2 kv_mo_isState (c_mo_isStateT hn9 hs) rfl rfl rfl rfl rfl (Nat.le_of_ble_eq_true rfl) (Nat.zero_le _) (Nat.zero_le _) ?_
  refine aw_if_neN D_mo_back_5 (by decide) (fun h => ?_) (fun h => absurd h (by decide))
  refine aw_iload_n 2 D_mo_back_10 rfl rfl ?_
  first | with_reducible refine aw_i2lN D_mo_back_11 (by omega) ?_ | refine aw_i2l D_mo_back_11 ?_
  refine aw_ldc2 D_mo_back_12 ?_
  refine aw_lconst (lN 1) D_mo_back_15 rfl ?_
  refine aw_callS1 (As := [_, _, _]) D_mo_back_16 kv_mo_within (c_mo_within) rfl rfl (Nat.le_of_ble_eq_true rfl) (Nat.zero_le _) (Nat.zero_le _) ?_
  rw [if_neg (wi_B hy hy2)]
  refine aw_if_neN D_mo_back_19 (by decide) (fun h => absurd h (by decide)) (fun h => ?_)
  refine aw_bipush (-nI 2) D_mo_back_22 rfl ?_
  refine aw_ireturn D_mo_back_24 rfl rfl ?_
  exact ⟨rfl, _, rfl, fd, R, le, sz, o, be, pc, wt, qu, lm, sl, ce, tb, mt, ru, bf, kp, rfl, hn, hn9, hb, hfd, hL, hT⟩
theorem nI_neg1 {x : Nat} (hx : x < 2 ^ 31) : ¬ nI x = -nI 1 := fun e => by
  have := nI_toInt hx
  rw [e, show (-nI 1 : Int32).toInt = -1 by decide] at this
  omega
section Back
variable {fd R : Nat} {le sz : Nat → Nat} {o : Nat → Option Nat} {be pc wt qu : Nat → Nat} {sl : Nat → Nat} {ce : Nat → Int64} {tb mt ru bf kp : Nat → Nat}
theorem c_mo_backM0 {s : Nat} (hn : 2 ≤ n) (hn9 : n ≤ 9) (hb : ∀ k, b k ≤ 1) (hs : s < 2 ^ n) : AMet M_mo_back [.ref 6, .int (nI s), .int (-nI 1)] [a0, a1, a2, a3, a4, a5, MO fl tc n fd R b le sz o be pc wt qu la sl ce tb mt ru bf kp, a7] (Ex (some (.int (nI (cb n b s)))) [a0, a1, a2, a3, a4, a5, MO fl tc n fd R b le sz o be pc wt qu la sl ce tb mt ru bf kp, a7]) 0 0 := by
  have hp9 := pow_le9 hn9
  have hcb := cb_ct (n := n) (b := b) (t := s) (by omega) hs hb
  rw [hcb]
  refine AMet.of [(0, .ref 6), (1, .int (nI s)), (2, .int (-nI 1))] (by decide +kernel) rfl (Nat.le_of_ble_eq_true rfl) ?_
  have key : ∀ (d i : Nat), i + d = 2 ^ n → AW M_mo_back noP (Zp (Ex (some (.int (nI (fb_ct (fun t => decide (nx n b t = s)) (2 ^ n))))) [a0, a1, a2, a3, a4, a5, MO fl tc n fd R b le sz o be pc wt qu la sl ce tb mt ru bf kp, a7])) 0 0 33 [(0, .ref 6), (1, .int (nI s)), (2, .int (-nI 1)), (3, .int (nI (fb_ct (fun t => decide (nx n b t = s)) i))), (4, .int (-nI 1)), (5, .int (nI i))] [] [a0, a1, a2, a3, a4, a5, MO fl tc n fd R b le sz o be pc wt qu la sl ce tb mt ru bf kp, a7] 0 0 := by
    intro d
    induction d with
    | zero =>
      intro i hi
      have hi : i = 2 ^ n := by omega
      subst hi
      refine aw_iload D_mo_back_33 rfl ?_
      refine aw_aload_n 0 D_mo_back_35 rfl rfl ?_
      refine aw_callV1 (As := []) D_mo_back_36 kv_mo_states (c_mo_states hn9) rfl rfl rfl rfl rfl (Nat.le_of_ble_eq_true rfl) (Nat.zero_le _) (Nat.zero_le _) ?_
      refine aw_icmp_geN D_mo_back_39 (by omega) (by omega) (fun h => ?_) (fun h => absurd h (by omega))
      refine aw_iload_n 2 D_mo_back_75 rfl rfl ?_
      refine aw_iconst (-nI 1) D_mo_back_76 rfl ?_
      refine aw_icmp_ne D_mo_back_77 (fun h => absurd rfl h) (fun h => ?_)
      refine aw_iload_n 3 D_mo_back_80 rfl rfl ?_
      refine aw_goto D_mo_back_81 ?_
      refine aw_ireturn D_mo_back_86 rfl rfl ?_
      exact ⟨rfl, rfl⟩
    | succ d ih =>
      intro i hi
      have hx := nx_lt (n := n) (b := b) (s := i) (by omega) (by omega) hb
      have hct := fb_ct_le (fun t => decide (nx n b t = s)) i
      refine aw_iload D_mo_back_33 rfl ?_
      refine aw_aload_n 0 D_mo_back_35 rfl rfl ?_
      refine aw_callV1 (As := []) D_mo_back_36 kv_mo_states (c_mo_states hn9) rfl rfl rfl rfl rfl (Nat.le_of_ble_eq_true rfl) (Nat.zero_le _) (Nat.zero_le _) ?_
      refine aw_icmp_geN D_mo_back_39 (by omega) (by omega) (fun h => absurd h (by omega)) (fun h => ?_)
      refine aw_aload_n 0 D_mo_back_42 rfl rfl ?_
      refine aw_iload D_mo_back_43 rfl ?_
      refine aw_callV1 (As := [_]) D_mo_back_45 kv_mo_next (c_mo_next (by omega) hn9 (show i < 2 ^ n by omega)) rfl rfl rfl rfl rfl (Nat.le_of_ble_eq_true rfl) (Nat.zero_le _) (Nat.zero_le _) ?_
      refine aw_iload_n 1 D_mo_back_48 rfl rfl ?_
      refine aw_icmp_neN D_mo_back_49 (by omega) (by omega) (fun h2 => ?_) (fun h2 => ?_)
      · have e : fb_ct (fun t => decide (nx n b t = s)) (i + 1) = fb_ct (fun t => decide (nx n b t = s)) i := by
          rw [fb_ct_succ, if_neg (fun z => h2 (of_decide_eq_true z))]; rfl
        first | refine aw_incN D_mo_back_69 rfl (Nat.le_of_ble_eq_true rfl) rfl ?_ | refine aw_inc D_mo_back_69 rfl (Nat.le_of_ble_eq_true rfl) rfl ?_
        refine aw_goto D_mo_back_72 ?_
        rw [← e]
        exact ih (i + 1) (by omega)
      · have e : fb_ct (fun t => decide (nx n b t = s)) (i + 1) = fb_ct (fun t => decide (nx n b t = s)) i + 1 := by
          rw [fb_ct_succ, if_pos (decide_eq_true h2)]
        refine aw_iload_n 3 D_mo_back_52 rfl rfl ?_
        refine aw_iload_n 2 D_mo_back_53 rfl rfl ?_
        refine aw_icmp_ne D_mo_back_54 (fun h3 => ?_) (fun h3 => absurd h3 (nI_neg1 (by omega)))
        refine aw_iload D_mo_back_62 rfl ?_
        refine aw_istore D_mo_back_64 (Nat.le_of_ble_eq_true rfl) rfl ?_
        first | refine aw_incN D_mo_back_66 rfl (Nat.le_of_ble_eq_true rfl) rfl ?_ | refine aw_inc D_mo_back_66 rfl (Nat.le_of_ble_eq_true rfl) rfl ?_
        first | refine aw_incN D_mo_back_69 rfl (Nat.le_of_ble_eq_true rfl) rfl ?_ | refine aw_inc D_mo_back_69 rfl (Nat.le_of_ble_eq_true rfl) rfl ?_
        refine aw_goto D_mo_back_72 ?_
        rw [← e]
        exact ih (i + 1) (by omega)
  refine aw_aload_n 0 D_mo_back_0 rfl rfl ?_
  refine aw_iload_n 1 D_mo_back_1 rfl rfl ?_
  refine aw_callV1 (As := [_]) D_mo_back_2 kv_mo_isState (c_mo_isStateT hn9 hs) rfl rfl rfl rfl rfl (Nat.le_of_ble_eq_true rfl) (Nat.zero_le _) (Nat.zero_le _) ?_
  refine aw_if_neN D_mo_back_5 (by decide) (fun h => ?_) (fun h => absurd h (by decide))
  refine aw_iload_n 2 D_mo_back_10 rfl rfl ?_
  first | with_reducible refine aw_i2lN D_mo_back_11 (by omega) ?_ | refine aw_i2l D_mo_back_11 ?_
  refine aw_ldc2 D_mo_back_12 ?_
  refine aw_lconst (lN 1) D_mo_back_15 rfl ?_
  refine aw_callS1 (As := [_, _, _]) D_mo_back_16 kv_mo_within (c_mo_within) rfl rfl (Nat.le_of_ble_eq_true rfl) (Nat.zero_le _) (Nat.zero_le _) ?_
  rw [if_pos (show (-lN 1 : Int64) ≤ (-nI 1 : Int32).toInt64 ∧ (-nI 1 : Int32).toInt64 ≤ lN 1 by decide)]
  refine aw_if_neN D_mo_back_19 (by decide) (fun h => ?_) (fun h => absurd h (by decide))
  refine aw_iconst (nI 0) D_mo_back_25 rfl ?_
  refine aw_istore_n 3 D_mo_back_26 rfl (Nat.le_of_ble_eq_true rfl) rfl ?_
  refine aw_iconst (-nI 1) D_mo_back_27 rfl ?_
  refine aw_istore D_mo_back_28 (Nat.le_of_ble_eq_true rfl) rfl ?_
  refine aw_iconst (nI 0) D_mo_back_30 rfl ?_
  refine aw_istore D_mo_back_31 (Nat.le_of_ble_eq_true rfl) rfl ?_
  exact key (2 ^ n) 0 (by omega)
theorem c_mo_find1 : AMet M_mo_find [.ref 6] [a0, a1, a2, a3, a4, a5, MO fl tc n 1 R b le sz o be pc wt qu la sl ce tb mt ru bf kp, a7] (Ex none [a0, a1, a2, a3, a4, a5, MO fl tc n 1 R b le sz o be pc wt qu la sl ce tb mt ru bf kp, a7]) 0 0 := by
  refine AMet.of [(0, .ref 6)] (by decide +kernel) rfl (Nat.le_of_ble_eq_true rfl) ?_
  refine aw_aload_n 0 D_mo_find_0 rfl rfl ?_
  refine aw_get D_mo_find_1 rfl rfl ?_
  refine aw_if_eqN D_mo_find_4 (by decide) (fun h => absurd h (by decide)) (fun h2 => ?_)
  refine aw_return D_mo_find_7 rfl ?_
  exact ⟨rfl, rfl⟩
theorem c_mo_step1 {s k pd fa : Nat} (hn : 2 ≤ n) (hn9 : n ≤ 9) (hb : ∀ k, b k ≤ 1) (hF : FT n b R pd (strt n b) fa o be pc le sz) (hs : s < 2 ^ n) (hk : k < 2 ^ 63) : AMet M_mo_step [.ref 6, .int (nI s), .long (lN k)] [a0, a1, a2, a3, a4, a5, MO fl tc n 1 R b le sz o be pc wt qu la sl ce tb mt ru bf kp, a7] (Ex (some (.int (nI (itr (nx n b) k s)))) [a0, a1, a2, a3, a4, a5, MO fl tc n 1 R b le sz o be pc wt qu la sl ce tb mt ru bf kp, a7]) 0 0 := by
  have hp9 := pow_le9 hn9
  have hf := FT.hf (n := n) (b := b) (by omega) hb
  refine AMet.of [(0, .ref 6), (1, .int (nI s)), (2, .long (lN k))] (by decide +kernel) rfl (Nat.le_of_ble_eq_true rfl) ?_
  generalize hZ : (Ex (some (.int (nI (itr (nx n b) k s)))) [a0, a1, a2, a3, a4, a5, MO fl tc n 1 R b le sz o be pc wt qu la sl ce tb mt ru bf kp, a7]) = ZZ
  refine aw_aload_n 0 D_mo_step_0 rfl rfl ?_
  refine aw_iload_n 1 D_mo_step_1 rfl rfl ?_
  refine aw_callV1 (As := [_]) D_mo_step_2 kv_mo_isState (c_mo_isStateT hn9 hs) rfl rfl rfl rfl rfl (Nat.le_of_ble_eq_true rfl) (Nat.zero_le _) (Nat.zero_le _) ?_
  refine aw_if_neN D_mo_step_5 (by decide) (fun h => ?_) (fun h => absurd h (by decide))
  refine aw_lload_n 2 D_mo_step_10 rfl rfl ?_
  refine aw_lconst (lN 0) D_mo_step_11 rfl ?_
  refine aw_lcmp D_mo_step_12 ?_
  refine aw_if_ge D_mo_step_13 (fun h => ?_) (fun h => absurd ((lg_cmp_ge _ _).mpr ((pk_lLE (by omega) hk).mpr (Nat.zero_le k))) h)
  refine aw_aload_n 0 D_mo_step_19 rfl rfl ?_
  refine aw_callVv (As := []) D_mo_step_20 kv_mo_find (c_mo_find1) rfl rfl rfl rfl rfl (Nat.le_of_ble_eq_true rfl) (Nat.zero_le _) (Nat.zero_le _) ?_
  have hV := hF.2.1
  have last : ∀ (l t : Nat), t < 2 ^ n → l < 2 ^ 31 → itr (nx n b) l t = itr (nx n b) k s → AW M_mo_step noP (Zp ZZ) 0 0 88 [(0, .ref 6), (1, .int (nI s)), (2, .long (lN k)), (4, .int (nI t)), (5, .long (lN l))] [] [a0, a1, a2, a3, a4, a5, MO fl tc n 1 R b le sz o be pc wt qu la sl ce tb mt ru bf kp, a7] 0 0 := by
    intro l
    induction l with
    | zero =>
      intro t ht hl he
      refine aw_lload D_mo_step_88 rfl ?_
      refine aw_lconst (lN 0) D_mo_step_90 rfl ?_
      refine aw_lcmp D_mo_step_91 ?_
      refine aw_if_le D_mo_step_92 (fun h => ?_) (fun h => absurd ((lg_cmp_le _ _).mpr ((pk_lLE (by omega) (by omega)).mpr (Nat.le_refl 0))) h)
      rw [show t = itr (nx n b) k s from he]
      refine aw_iload D_mo_step_112 rfl ?_
      refine aw_ireturn D_mo_step_114 rfl rfl ?_
      subst hZ; exact ⟨rfl, rfl⟩
    | succ l ih =>
      intro t ht hl he
      refine aw_lload D_mo_step_88 rfl ?_
      refine aw_lconst (lN 0) D_mo_step_90 rfl ?_
      refine aw_lcmp D_mo_step_91 ?_
      refine aw_if_le D_mo_step_92 (fun h => absurd ((pk_lLE (by omega) (by omega)).mp ((lg_cmp_le _ _).mp h)) (by omega)) (fun h => ?_)
      refine aw_aload_n 0 D_mo_step_95 rfl rfl ?_
      refine aw_iload D_mo_step_96 rfl ?_
      refine aw_callV1 (As := [_]) D_mo_step_98 kv_mo_next (c_mo_next (by omega) hn9 ht) rfl rfl rfl rfl rfl (Nat.le_of_ble_eq_true rfl) (Nat.zero_le _) (Nat.zero_le _) ?_
      refine aw_istore D_mo_step_101 (Nat.le_of_ble_eq_true rfl) rfl ?_
      refine aw_lload D_mo_step_103 rfl ?_
      refine aw_lconst (lN 1) D_mo_step_105 rfl ?_
      first | with_reducible refine aw_lsubN D_mo_step_106 (by omega) ?_ | refine aw_lsub D_mo_step_106 ?_
      refine aw_lstore D_mo_step_107 (Nat.le_of_ble_eq_true rfl) rfl ?_
      refine aw_goto D_mo_step_109 ?_
      exact ih (nx n b t) (hf t ht) (by omega) he
  have mid : ∀ (l t : Nat), t < 2 ^ n → l < 2 ^ 63 → (l = 0 ∨ be t = 0) → itr (nx n b) l t = itr (nx n b) k s → AW M_mo_step noP (Zp ZZ) 0 0 63 [(0, .ref 6), (1, .int (nI s)), (2, .long (lN k)), (4, .int (nI t)), (5, .long (lN l))] [] [a0, a1, a2, a3, a4, a5, MO fl tc n 1 R b le sz o be pc wt qu la sl ce tb mt ru bf kp, a7] 0 0 := by
    intro l t ht hl h0 he
    rcases Nat.eq_zero_or_pos l with rfl | hp
    · refine aw_lload D_mo_step_63 rfl ?_
      refine aw_lconst (lN 0) D_mo_step_65 rfl ?_
      refine aw_lcmp D_mo_step_66 ?_
      refine aw_if_le D_mo_step_67 (fun h => ?_) (fun h => absurd ((lg_cmp_le _ _).mpr ((pk_lLE (by omega) (by omega)).mpr (Nat.le_refl 0))) h)
      exact last 0 t ht (by decide) he
    · have hbt : be t = 0 := h0.resolve_left (by omega)
      have hr := hV.1 t ht
      have hR := hV.R_le
      have h1 := hV.sz_pos ht
      have h2 := hV.sz_le hf hr
      dsimp only at hr h1 h2
      have hml := Nat.mod_lt l (show 0 < sz ((o t).getD 0) by omega)
      refine aw_lload D_mo_step_63 rfl ?_
      refine aw_lconst (lN 0) D_mo_step_65 rfl ?_
      refine aw_lcmp D_mo_step_66 ?_
      refine aw_if_le D_mo_step_67 (fun h => absurd ((pk_lLE (by omega) (by omega)).mp ((lg_cmp_le _ _).mp h)) (by omega)) (fun h => ?_)
      refine aw_lload D_mo_step_70 rfl ?_
      refine aw_aload_n 0 D_mo_step_72 rfl rfl ?_
      refine aw_get D_mo_step_73 rfl rfl ?_
      refine aw_aload_n 0 D_mo_step_76 rfl rfl ?_
      refine aw_get D_mo_step_77 rfl rfl ?_
      refine aw_iload D_mo_step_80 rfl ?_
      refine aw_ialdN D_mo_step_82 rfl (by omega) (by omega) ?_
      rw [show oF (-nI 9) o t = nI ((o t).getD 0) from oI_get (hF.1 t ht)]
      refine aw_ialdN D_mo_step_83 rfl (by omega) (by omega) ?_
      first | with_reducible refine aw_i2lN D_mo_step_84 (by omega) ?_ | refine aw_i2l D_mo_step_84 ?_
      first | with_reducible refine aw_lremN D_mo_step_85 (by omega) (by omega) (by omega) ?_ | refine aw_lrem D_mo_step_85 (by decide) ?_
      refine aw_lstore D_mo_step_86 (Nat.le_of_ble_eq_true rfl) rfl ?_
      refine last _ t ht (by omega) ?_
      rw [← he]
      have := hV.steps hf ht (k := l) (by omega)
      rw [hbt, Nat.zero_add, Nat.sub_zero] at this
      exact this
  have first : ∀ (e l t : Nat), be t = e → t < 2 ^ n → l < 2 ^ 63 → itr (nx n b) l t = itr (nx n b) k s → AW M_mo_step noP (Zp ZZ) 0 0 29 [(0, .ref 6), (1, .int (nI s)), (2, .long (lN k)), (4, .int (nI t)), (5, .long (lN l))] [] [a0, a1, a2, a3, a4, a5, MO fl tc n 1 R b le sz o be pc wt qu la sl ce tb mt ru bf kp, a7] 0 0 := by
    intro e
    induction e with
    | zero =>
      intro l t hbt ht hl he
      refine aw_lload D_mo_step_29 rfl ?_
      refine aw_lconst (lN 0) D_mo_step_31 rfl ?_
      refine aw_lcmp D_mo_step_32 ?_
      refine aw_if_le D_mo_step_33 (fun h => mid l t ht hl (Or.inr hbt) he) (fun h => ?_)
      refine aw_aload_n 0 D_mo_step_36 rfl rfl ?_
      refine aw_get D_mo_step_37 rfl rfl ?_
      refine aw_iload D_mo_step_40 rfl ?_
      refine aw_ialdN D_mo_step_42 rfl (by omega) (by omega) ?_
      refine aw_if_leN D_mo_step_43 (by omega) (fun h => mid l t ht hl (Or.inr hbt) he) (fun h => absurd h (by omega))
    | succ e ih =>
      intro l t hbt ht hl he
      have hbl := hV.be_le hf ht
      have hst := (hV.2.2.1 t ht (by omega)).1
      refine aw_lload D_mo_step_29 rfl ?_
      refine aw_lconst (lN 0) D_mo_step_31 rfl ?_
      refine aw_lcmp D_mo_step_32 ?_
      refine aw_if_le D_mo_step_33 (fun h => ?_) (fun h => ?_)
      · have := (pk_lLE (by omega) (by omega)).mp ((lg_cmp_le _ _).mp h)
        exact mid l t ht hl (Or.inl (by omega)) he
      · have hlp : 0 < l := by
          rcases Nat.eq_zero_or_pos l with rfl | q
          · exact absurd ((lg_cmp_le _ _).mpr ((pk_lLE (by omega) (by omega)).mpr (Nat.le_refl 0))) h
          · exact q
        refine aw_aload_n 0 D_mo_step_36 rfl rfl ?_
        refine aw_get D_mo_step_37 rfl rfl ?_
        refine aw_iload D_mo_step_40 rfl ?_
        refine aw_ialdN D_mo_step_42 rfl (by omega) (by omega) ?_
        refine aw_if_leN D_mo_step_43 (by omega) (fun h => absurd h (by omega)) (fun h => ?_)
        refine aw_aload_n 0 D_mo_step_46 rfl rfl ?_
        refine aw_iload D_mo_step_47 rfl ?_
        refine aw_callV1 (As := [_]) D_mo_step_49 kv_mo_next (c_mo_next (by omega) hn9 ht) rfl rfl rfl rfl rfl (Nat.le_of_ble_eq_true rfl) (Nat.zero_le _) (Nat.zero_le _) ?_
        refine aw_istore D_mo_step_52 (Nat.le_of_ble_eq_true rfl) rfl ?_
        refine aw_lload D_mo_step_54 rfl ?_
        refine aw_lconst (lN 1) D_mo_step_56 rfl ?_
        first | with_reducible refine aw_lsubN D_mo_step_57 (by omega) ?_ | refine aw_lsub D_mo_step_57 ?_
        refine aw_lstore D_mo_step_58 (Nat.le_of_ble_eq_true rfl) rfl ?_
        refine aw_goto D_mo_step_60 ?_
        refine ih (l - 1) (nx n b t) (by omega) (hf t ht) (by omega) ?_
        rw [← he]
        conv => rhs; rw [show l = (l - 1) + 1 by omega]
        rfl
  refine aw_iload_n 1 D_mo_step_23 rfl rfl ?_
  refine aw_istore D_mo_step_24 (Nat.le_of_ble_eq_true rfl) rfl ?_
  refine aw_lload_n 2 D_mo_step_26 rfl rfl ?_
  refine aw_lstore D_mo_step_27 (Nat.le_of_ble_eq_true rfl) rfl ?_
  exact first (be s) k s rfl hs hk rfl
end Back
theorem c_mo_backM {s : Nat} (hs : s < 2 ^ n) (h : MS n b tc fl la zs cs m) : AMet M_mo_back [.ref 6, .int (nI s), .int (-nI 1)] [a0, a1, a2, a3, a4, a5, m, a7] (fun (r' : Option Value) (w' : Wd) => r' = some (.int (nI (cb n b s))) ∧ ∃ m', w' = [a0, a1, a2, a3, a4, a5, m', a7] ∧ MS n b tc fl la zs cs m') 0 0 := by
  obtain ⟨fd, R, le, sz, o, be, pc, wt, qu, lm, sl, ce, tb, mt, ru, bf, kp, rfl, hn, hn9, hb, hfd, hL, hT⟩ := h
  refine (c_mo_backM0 hn hn9 hb hs).mono ?_
  rintro r w' ⟨rfl, rfl⟩
  exact ⟨rfl, _, rfl, fd, R, le, sz, o, be, pc, wt, qu, lm, sl, ce, tb, mt, ru, bf, kp, rfl, hn, hn9, hb, hfd, hL, hT⟩
theorem c_mo_backX {s j : Nat} (hs : s < 2 ^ n) (hj : j ≤ 1) (h : MS n b tc fl la zs cs m) : AMet M_mo_back [.ref 6, .int (nI s), .int (nI j)] [a0, a1, a2, a3, a4, a5, m, a7] (fun (r' : Option Value) (w' : Wd) => r' = some (.int (if cb n b s ≤ j then -nI 1 else nI (if j = 0 ∧ nx n b (2 * s % 2 ^ n) = s then 2 * s % 2 ^ n else 2 * s % 2 ^ n + 1))) ∧ ∃ m', w' = [a0, a1, a2, a3, a4, a5, m', a7] ∧ MS n b tc fl la zs cs m') 0 0 := by
  obtain ⟨fd, R, le, sz, o, be, pc, wt, qu, lm, sl, ce, tb, mt, ru, bf, kp, rfl, hn, hn9, hb, hfd, hL, hT⟩ := h
  have hp9 := pow_le9 hn9
  have he := even_lt (s := s) (n := n) (by omega)
  have hcb := cb_ct (n := n) (b := b) (t := s) (by omega) hs hb
  have hpp : ∀ t, (decide (t < 2 ^ n) && decide (nx n b t = s)) = true → t = 2 * s % 2 ^ n ∨ t = 2 * s % 2 ^ n + 1 := by
    intro t ht
    simp only [Bool.and_eq_true, decide_eq_true_eq] at ht
    exact ((nx_pre (by omega) ht.1 hb).mp ht.2).1
  have hfin := fnd_two hpp hj (2 ^ n) he
  have hct : fb_ct (fun t => decide (t < 2 ^ n) && decide (nx n b t = s)) (2 ^ n) = cb n b s := by
    rw [hcb]
    exact fb_ct_cong (fun k hk => by simp [hk])
  rw [hct] at hfin
  have hpe : (decide (2 * s % 2 ^ n < 2 ^ n) && decide (nx n b (2 * s % 2 ^ n) = s)) = true ↔ nx n b (2 * s % 2 ^ n) = s := by
    simp only [Bool.and_eq_true, decide_eq_true_eq]
    exact ⟨fun z => z.2, fun z => ⟨by omega, z⟩⟩
  have hfe : (if j = 0 ∧ (decide (2 * s % 2 ^ n < 2 ^ n) && decide (nx n b (2 * s % 2 ^ n) = s)) = true then 2 * s % 2 ^ n else 2 * s % 2 ^ n + 1) = (if j = 0 ∧ nx n b (2 * s % 2 ^ n) = s then 2 * s % 2 ^ n else 2 * s % 2 ^ n + 1) := by
    simp only [hpe]
  rw [hfe] at hfin
  refine AMet.of [(0, .ref 6), (1, .int (nI s)), (2, .int (nI j))] (by decide +kernel) rfl (Nat.le_of_ble_eq_true rfl) ?_
  rw [← hfin]
  generalize hP : (fun t => decide (t < 2 ^ n) && decide (nx n b t = s)) = P
  have hPt : ∀ t, t < 2 ^ n → P t = decide (nx n b t = s) := fun t ht => by rw [← hP]; simp [ht]
  have key : ∀ (d i : Nat), i + d = 2 ^ n → AW M_mo_back noP (Zp (fun (r' : Option Value) (w' : Wd) => r' = some (.int (fnd P j (2 ^ n))) ∧ ∃ m', w' = [a0, a1, a2, a3, a4, a5, m', a7] ∧ MS n b tc fl la zs cs m')) 0 0 33 [(0, .ref 6), (1, .int (nI s)), (2, .int (nI j)), (3, .int (nI (fb_ct P i))), (4, .int (fnd P j i)), (5, .int (nI i))] [] [a0, a1, a2, a3, a4, a5, MO fl tc n fd R b le sz o be pc wt qu lm sl ce tb mt ru bf kp, a7] 0 0 := by
    intro d
    induction d with
    | zero =>
      intro i hi
      have hi : i = 2 ^ n := by omega
      subst hi
      refine aw_iload D_mo_back_33 rfl ?_
      refine aw_aload_n 0 D_mo_back_35 rfl rfl ?_
      refine aw_callV1 (As := []) D_mo_back_36 kv_mo_states (c_mo_states hn9) rfl rfl rfl rfl rfl (Nat.le_of_ble_eq_true rfl) (Nat.zero_le _) (Nat.zero_le _) ?_
      refine aw_icmp_geN D_mo_back_39 (by omega) (by omega) (fun h => ?_) (fun h => absurd h (by omega))
      refine aw_iload_n 2 D_mo_back_75 rfl rfl ?_
      refine aw_iconst (-nI 1) D_mo_back_76 rfl ?_
      refine aw_icmp_ne D_mo_back_77 (fun h => ?_) (fun h => absurd h (nI_neg1 (by omega)))
      refine aw_iload D_mo_back_84 rfl ?_
      refine aw_ireturn D_mo_back_86 rfl rfl ?_
      exact ⟨rfl, _, rfl, fd, R, le, sz, o, be, pc, wt, qu, lm, sl, ce, tb, mt, ru, bf, kp, rfl, hn, hn9, hb, hfd, hL, hT⟩
    | succ d ih =>
      intro i hi
      have hx := nx_lt (n := n) (b := b) (s := i) (by omega) (by omega) hb
      have hct := fb_ct_le P i
      have hi2 : fnd P j (i + 1) = if P i && decide (fb_ct P i = j) then nI i else fnd P j i := rfl
      refine aw_iload D_mo_back_33 rfl ?_
      refine aw_aload_n 0 D_mo_back_35 rfl rfl ?_
      refine aw_callV1 (As := []) D_mo_back_36 kv_mo_states (c_mo_states hn9) rfl rfl rfl rfl rfl (Nat.le_of_ble_eq_true rfl) (Nat.zero_le _) (Nat.zero_le _) ?_
      refine aw_icmp_geN D_mo_back_39 (by omega) (by omega) (fun h => absurd h (by omega)) (fun h => ?_)
      refine aw_aload_n 0 D_mo_back_42 rfl rfl ?_
      refine aw_iload D_mo_back_43 rfl ?_
      refine aw_callV1 (As := [_]) D_mo_back_45 kv_mo_next (c_mo_next (by omega) hn9 (show i < 2 ^ n by omega)) rfl rfl rfl rfl rfl (Nat.le_of_ble_eq_true rfl) (Nat.zero_le _) (Nat.zero_le _) ?_
      refine aw_iload_n 1 D_mo_back_48 rfl rfl ?_
      refine aw_icmp_neN D_mo_back_49 (by omega) (by omega) (fun h2 => ?_) (fun h2 => ?_)
      · have hp : P i = false := by rw [hPt i (by omega)]; exact decide_eq_false h2
        have e : fb_ct P (i + 1) = fb_ct P i := by rw [fb_ct_succ, hp]; rfl
        have e2 : fnd P j (i + 1) = fnd P j i := by rw [hi2, hp]; rfl
        first | refine aw_incN D_mo_back_69 rfl (Nat.le_of_ble_eq_true rfl) rfl ?_ | refine aw_inc D_mo_back_69 rfl (Nat.le_of_ble_eq_true rfl) rfl ?_
        refine aw_goto D_mo_back_72 ?_
        have := ih (i + 1) (by omega)
        rw [e, e2] at this
        exact this
      · have hp : P i = true := by rw [hPt i (by omega)]; exact decide_eq_true h2
        have e : fb_ct P (i + 1) = fb_ct P i + 1 := by rw [fb_ct_succ, hp]; rfl
        refine aw_iload_n 3 D_mo_back_52 rfl rfl ?_
        refine aw_iload_n 2 D_mo_back_53 rfl rfl ?_
        refine aw_icmp_neN D_mo_back_54 (by omega) (by omega) (fun h3 => ?_) (fun h3 => ?_)
        · have e2 : fnd P j (i + 1) = fnd P j i := by rw [hi2, hp, Bool.true_and, if_neg (fun z => h3 (of_decide_eq_true z))]
          refine aw_iload D_mo_back_62 rfl ?_
          refine aw_istore D_mo_back_64 (Nat.le_of_ble_eq_true rfl) rfl ?_
          first | refine aw_incN D_mo_back_66 rfl (Nat.le_of_ble_eq_true rfl) rfl ?_ | refine aw_inc D_mo_back_66 rfl (Nat.le_of_ble_eq_true rfl) rfl ?_
          first | refine aw_incN D_mo_back_69 rfl (Nat.le_of_ble_eq_true rfl) rfl ?_ | refine aw_inc D_mo_back_69 rfl (Nat.le_of_ble_eq_true rfl) rfl ?_
          refine aw_goto D_mo_back_72 ?_
          have := ih (i + 1) (by omega)
          rw [e, e2] at this
          exact this
        · have e2 : fnd P j (i + 1) = nI i := by rw [hi2, hp, Bool.true_and, if_pos (decide_eq_true h3)]
          refine aw_iload D_mo_back_57 rfl ?_
          refine aw_goto D_mo_back_59 ?_
          refine aw_istore D_mo_back_64 (Nat.le_of_ble_eq_true rfl) rfl ?_
          first | refine aw_incN D_mo_back_66 rfl (Nat.le_of_ble_eq_true rfl) rfl ?_ | refine aw_inc D_mo_back_66 rfl (Nat.le_of_ble_eq_true rfl) rfl ?_
          first | refine aw_incN D_mo_back_69 rfl (Nat.le_of_ble_eq_true rfl) rfl ?_ | refine aw_inc D_mo_back_69 rfl (Nat.le_of_ble_eq_true rfl) rfl ?_
          refine aw_goto D_mo_back_72 ?_
          have := ih (i + 1) (by omega)
          rw [e, e2] at this
          exact this
  refine aw_aload_n 0 D_mo_back_0 rfl rfl ?_
  refine aw_iload_n 1 D_mo_back_1 rfl rfl ?_
  refine aw_callV1 (As := [_]) D_mo_back_2 kv_mo_isState (c_mo_isStateT hn9 hs) rfl rfl rfl rfl rfl (Nat.le_of_ble_eq_true rfl) (Nat.zero_le _) (Nat.zero_le _) ?_
  refine aw_if_neN D_mo_back_5 (by decide) (fun h => ?_) (fun h => absurd h (by decide))
  refine aw_iload_n 2 D_mo_back_10 rfl rfl ?_
  first | with_reducible refine aw_i2lN D_mo_back_11 (by omega) ?_ | refine aw_i2l D_mo_back_11 ?_
  refine aw_ldc2 D_mo_back_12 ?_
  refine aw_lconst (lN 1) D_mo_back_15 rfl ?_
  refine aw_callS1 (As := [_, _, _]) D_mo_back_16 kv_mo_within (c_mo_within) rfl rfl (Nat.le_of_ble_eq_true rfl) (Nat.zero_le _) (Nat.zero_le _) ?_
  rw [if_pos (show (-lN 1 : Int64) ≤ lN j ∧ lN j ≤ lN 1 by rcases (show j = 0 ∨ j = 1 by omega) with rfl | rfl <;> decide)]
  refine aw_if_neN D_mo_back_19 (by decide) (fun h => ?_) (fun h => absurd h (by decide))
  refine aw_iconst (nI 0) D_mo_back_25 rfl ?_
  refine aw_istore_n 3 D_mo_back_26 rfl (Nat.le_of_ble_eq_true rfl) rfl ?_
  refine aw_iconst (-nI 1) D_mo_back_27 rfl ?_
  refine aw_istore D_mo_back_28 (Nat.le_of_ble_eq_true rfl) rfl ?_
  refine aw_iconst (nI 0) D_mo_back_30 rfl ?_
  refine aw_istore D_mo_back_31 (Nat.le_of_ble_eq_true rfl) rfl ?_
  exact key (2 ^ n) 0 (by omega)
theorem c_mo_about {s j : Nat} (hs : s < 2 ^ n) (hj : j < 3) (h : MS n b tc fl la zs cs m) : AMet M_mo_about [.ref 6, .int (nI s), .int (nI j)] [a0, a1, a2, a3, a4, a5, m, a7] (fun (r' : Option Value) (w' : Wd) => r' = some (.int (nI (match j with | 0 => cRo n b s | 1 => cBe n b s | _ => cPc n b s))) ∧ ∃ m', w' = [a0, a1, a2, a3, a4, a5, m', a7] ∧ MS n b tc fl la zs cs m') 0 0 := by
  obtain ⟨fd, R, le, sz, o, be, pc, wt, qu, lm, sl, ce, tb, mt, ru, bf, kp, rfl, hn, hn9, hb, hfd, hL, hT⟩ := h
  have hp9 := pow_le9 hn9
  refine AMet.of [(0, .ref 6), (1, .int (nI s)), (2, .int (nI j))] (by decide +kernel) rfl (Nat.le_of_ble_eq_true rfl) ?_
  refine aw_aload_n 0 D_mo_about_0 rfl rfl ?_
  refine aw_iload_n 1 D_mo_about_1 rfl rfl ?_
  refine aw_callV1 (As := [_]) D_mo_about_2 kv_mo_isState (c_mo_isStateT hn9 hs) rfl rfl rfl rfl rfl (Nat.le_of_ble_eq_true rfl) (Nat.zero_le _) (Nat.zero_le _) ?_
  refine aw_if_neN D_mo_about_5 (by decide) (fun h => ?_) (fun h => absurd h (by decide))
  refine aw_aload_n 0 D_mo_about_10 rfl rfl ?_
  refine aw_callV (As := []) D_mo_about_11 kv_mo_find (c_mo_find hn hn9 hb hfd) rfl rfl rfl rfl rfl (Nat.le_of_ble_eq_true rfl) (Nat.zero_le _) (Nat.zero_le _) (fun r w' hp => ?_)
  obtain ⟨rfl, R, le, sz, o, be, pc, wt, qu, rfl, pd, fa, hF⟩ := hp
  have hcan := (hF.can (by omega) hb).2.2.1 s hs
  refine aw_iload_n 2 D_mo_about_14 rfl rfl ?_
  rcases (show j = 0 ∨ j = 1 ∨ j = 2 by omega) with rfl | rfl | rfl
  · refine aw_tableIn (off := 29) (tgt := 44) D_mo_about_15 (by decide) (by decide) (by decide) (by decide) ?_
    refine aw_aload_n 0 D_mo_about_44 rfl rfl ?_
    refine aw_get D_mo_about_45 rfl rfl ?_
    refine aw_iload_n 1 D_mo_about_48 rfl rfl ?_
    refine aw_ialdN D_mo_about_49 rfl (by omega) (by omega) ?_
    rw [show oF (-nI 9) o s = nI (cRo n b s) by rw [show oF (-nI 9) o s = nI ((o s).getD 0) from oI_get (hF.1 s hs), hcan.1]]
    refine aw_ireturn D_mo_about_50 rfl rfl ?_
    exact ⟨rfl, _, rfl, 1, R, le, sz, o, be, pc, wt, qu, lm, sl, ce, tb, mt, ru, bf, kp, rfl, hn, hn9, hb, (Or.inr ⟨rfl, pd, fa, hF⟩), hL, hT⟩
  · refine aw_tableIn (off := 36) (tgt := 51) D_mo_about_15 (by decide) (by decide) (by decide) (by decide) ?_
    refine aw_aload_n 0 D_mo_about_51 rfl rfl ?_
    refine aw_get D_mo_about_52 rfl rfl ?_
    refine aw_iload_n 1 D_mo_about_55 rfl rfl ?_
    refine aw_ialdN D_mo_about_56 rfl (by omega) (by omega) ?_
    rw [show nF be s = nI (cBe n b s) from congrArg nI hcan.2.1]
    refine aw_ireturn D_mo_about_57 rfl rfl ?_
    exact ⟨rfl, _, rfl, 1, R, le, sz, o, be, pc, wt, qu, lm, sl, ce, tb, mt, ru, bf, kp, rfl, hn, hn9, hb, (Or.inr ⟨rfl, pd, fa, hF⟩), hL, hT⟩
  · refine aw_tableIn (off := 43) (tgt := 58) D_mo_about_15 (by decide) (by decide) (by decide) (by decide) ?_
    refine aw_aload_n 0 D_mo_about_58 rfl rfl ?_
    refine aw_get D_mo_about_59 rfl rfl ?_
    refine aw_iload_n 1 D_mo_about_62 rfl rfl ?_
    refine aw_ialdN D_mo_about_63 rfl (by omega) (by omega) ?_
    rw [show nF pc s = nI (cPc n b s) from congrArg nI hcan.2.2]
    refine aw_ireturn D_mo_about_64 rfl rfl ?_
    exact ⟨rfl, _, rfl, 1, R, le, sz, o, be, pc, wt, qu, lm, sl, ce, tb, mt, ru, bf, kp, rfl, hn, hn9, hb, (Or.inr ⟨rfl, pd, fa, hF⟩), hL, hT⟩
theorem c_mo_about3 {s : Nat} (hs : s < 2 ^ n) (h : MS n b tc fl la zs cs m) : AMet M_mo_about [.ref 6, .int (nI s), .int (nI 3)] [a0, a1, a2, a3, a4, a5, m, a7] (fun (r' : Option Value) (w' : Wd) => r' = some (.int (nI (s ^^^ 1))) ∧ ∃ m', w' = [a0, a1, a2, a3, a4, a5, m', a7] ∧ MS n b tc fl la zs cs m') 0 0 := by
  obtain ⟨fd, R, le, sz, o, be, pc, wt, qu, lm, sl, ce, tb, mt, ru, bf, kp, rfl, hn, hn9, hb, hfd, hL, hT⟩ := h
  refine AMet.of [(0, .ref 6), (1, .int (nI s)), (2, .int (nI 3))] (by decide +kernel) rfl (Nat.le_of_ble_eq_true rfl) ?_
  refine aw_aload_n 0 D_mo_about_0 rfl rfl ?_
  refine aw_iload_n 1 D_mo_about_1 rfl rfl ?_
  refine aw_callV1 (As := [_]) D_mo_about_2 kv_mo_isState (c_mo_isStateT hn9 hs) rfl rfl rfl rfl rfl (Nat.le_of_ble_eq_true rfl) (Nat.zero_le _) (Nat.zero_le _) ?_
  refine aw_if_neN D_mo_about_5 (by decide) (fun h => ?_) (fun h => absurd h (by decide))
  refine aw_aload_n 0 D_mo_about_10 rfl rfl ?_
  refine aw_callV (As := []) D_mo_about_11 kv_mo_find (c_mo_find hn hn9 hb hfd) rfl rfl rfl rfl rfl (Nat.le_of_ble_eq_true rfl) (Nat.zero_le _) (Nat.zero_le _) (fun r w' hp => ?_)
  obtain ⟨rfl, R, le, sz, o, be, pc, wt, qu, rfl, pd, fa, hF⟩ := hp
  refine aw_iload_n 2 D_mo_about_14 rfl rfl ?_
  refine aw_tableIn (off := 50) (tgt := 65) D_mo_about_15 (by decide) (by decide) (by decide) (by decide) ?_
  refine aw_iload_n 1 D_mo_about_65 rfl rfl ?_
  refine aw_iconst (nI 1) D_mo_about_66 rfl ?_
  first | with_reducible refine aw_ixorN D_mo_about_67 ?_ | refine aw_ixor D_mo_about_67 ?_
  refine aw_ireturn D_mo_about_68 rfl rfl ?_
  exact ⟨rfl, _, rfl, 1, R, le, sz, o, be, pc, wt, qu, lm, sl, ce, tb, mt, ru, bf, kp, rfl, hn, hn9, hb, (Or.inr ⟨rfl, pd, fa, hF⟩), hL, hT⟩
theorem c_mo_aboutU {x y : Int32} (hx : ¬ vp_in x (2 ^ n)) (h : MS n b tc fl la zs cs m) : AMet M_mo_about [.ref 6, .int x, .int y] [a0, a1, a2, a3, a4, a5, m, a7] (fun (r' : Option Value) (w' : Wd) => r' = some (.int (-nI 1)) ∧ ∃ m', w' = [a0, a1, a2, a3, a4, a5, m', a7] ∧ MS n b tc fl la zs cs m') 0 0 := by
  obtain ⟨fd, R, le, sz, o, be, pc, wt, qu, lm, sl, ce, tb, mt, ru, bf, kp, rfl, hn, hn9, hb, hfd, hL, hT⟩ := h
  refine AMet.of [(0, .ref 6), (1, .int x), (2, .int y)] (by decide +kernel) rfl (Nat.le_of_ble_eq_true rfl) ?_
  refine aw_aload_n 0 D_mo_about_0 rfl rfl ?_
  refine aw_iload_n 1 D_mo_about_1 rfl rfl ?_
  refine aw_callV1 (As := [_]) D_mo_about_2 kv_mo_isState (c_mo_isStateF hn9 hx) rfl rfl rfl rfl rfl (Nat.le_of_ble_eq_true rfl) (Nat.zero_le _) (Nat.zero_le _) ?_
  refine aw_if_neN D_mo_about_5 (by decide) (fun h => absurd h (by decide)) (fun h => ?_)
  refine aw_iconst (-nI 1) D_mo_about_8 rfl ?_
  refine aw_ireturn D_mo_about_9 rfl rfl ?_
  exact ⟨rfl, _, rfl, fd, R, le, sz, o, be, pc, wt, qu, lm, sl, ce, tb, mt, ru, bf, kp, rfl, hn, hn9, hb, hfd, hL, hT⟩
theorem c_mo_aboutO {s : Nat} {y : Int32} (hs : s < 2 ^ n) (hy : ¬ vp_in y 4) (h : MS n b tc fl la zs cs m) : AMet M_mo_about [.ref 6, .int (nI s), .int y] [a0, a1, a2, a3, a4, a5, m, a7] (fun (r' : Option Value) (w' : Wd) => r' = some (.int (-nI 2)) ∧ ∃ m', w' = [a0, a1, a2, a3, a4, a5, m', a7] ∧ MS n b tc fl la zs cs m') 0 0 := by
  obtain ⟨fd, R, le, sz, o, be, pc, wt, qu, lm, sl, ce, tb, mt, ru, bf, kp, rfl, hn, hn9, hb, hfd, hL, hT⟩ := h
  refine AMet.of [(0, .ref 6), (1, .int (nI s)), (2, .int y)] (by decide +kernel) rfl (Nat.le_of_ble_eq_true rfl) ?_
  refine aw_aload_n 0 D_mo_about_0 rfl rfl ?_
  refine aw_iload_n 1 D_mo_about_1 rfl rfl ?_
  refine aw_callV1 (As := [_]) D_mo_about_2 kv_mo_isState (c_mo_isStateT hn9 hs) rfl rfl rfl rfl rfl (Nat.le_of_ble_eq_true rfl) (Nat.zero_le _) (Nat.zero_le _) ?_
  refine aw_if_neN D_mo_about_5 (by decide) (fun h => ?_) (fun h => absurd h (by decide))
  refine aw_aload_n 0 D_mo_about_10 rfl rfl ?_
  refine aw_callV (As := []) D_mo_about_11 kv_mo_find (c_mo_find hn hn9 hb hfd) rfl rfl rfl rfl rfl (Nat.le_of_ble_eq_true rfl) (Nat.zero_le _) (Nat.zero_le _) (fun r w' hp => ?_)
  obtain ⟨rfl, R, le, sz, o, be, pc, wt, qu, rfl, pd, fa, hF⟩ := hp
  refine aw_iload_n 2 D_mo_about_14 rfl rfl ?_
  refine aw_tableOut (tgt := 69) D_mo_about_15 (sw_out (N := 3) hy) (by decide) ?_
  refine aw_bipush (-nI 2) D_mo_about_69 rfl ?_
  refine aw_ireturn D_mo_about_71 rfl rfl ?_
  exact ⟨rfl, _, rfl, 1, R, le, sz, o, be, pc, wt, qu, lm, sl, ce, tb, mt, ru, bf, kp, rfl, hn, hn9, hb, (Or.inr ⟨rfl, pd, fa, hF⟩), hL, hT⟩
theorem c_mo_turnPair0 {t fd R : Nat} {le sz : Nat → Nat} {o : Nat → Option Nat} {be pc wt qu : Nat → Nat} {sl : Nat → Nat} {ce : Nat → Int64} {tb mt ru bf kp : Nat → Nat} (hn : 2 ≤ n) (hn9 : n ≤ 9) (hb : ∀ k, b k ≤ 1) (ht : t < 2 ^ n / 2) : AMet M_mo_turnPair [.ref 6, .int (nI t)] [a0, a1, a2, a3, a4, a5, MO fl tc n fd R b le sz o be pc wt qu la sl ce tb mt ru bf kp, a7]
    (fun r w' => r = none ∧ ∃ (R' : Nat) (le' sz' : Nat → Nat) (o' : Nat → Option Nat) (be' pc' wt' qu' : Nat → Nat), w' = [a0, a1, a2, a3, a4, a5, MO fl tc n 1 R' (turnB b t) le' sz' o' be' pc' wt' qu' la sl ce tb mt ru bf kp, a7] ∧ MF n (turnB b t) R' o' be' pc' le' sz') 0 0 := by
  have hp9 := pow_le9 hn9
  have hb2 := turnB_le hb t
  refine AMet.of [(0, .ref 6), (1, .int (nI t))] (by decide +kernel) rfl (Nat.le_of_ble_eq_true rfl) ?_
  have x1 : ∀ x, x ≤ 1 → x ^^^ 1 = 1 - x := fun x hx => by rcases (show x = 0 ∨ x = 1 by omega) with rfl | rfl <;> rfl
  refine aw_aload_n 0 D_mo_turnPair_0 rfl rfl ?_
  refine aw_get D_mo_turnPair_1 rfl rfl ?_
  refine aw_iconst (nI 2) D_mo_turnPair_4 rfl ?_
  refine aw_iload_n 1 D_mo_turnPair_5 rfl rfl ?_
  first | with_reducible refine aw_imulN D_mo_turnPair_6 ?_ | refine aw_imul D_mo_turnPair_6 ?_
  refine aw_dup2_11 D_mo_turnPair_7 rfl rfl ?_
  refine aw_ialdN D_mo_turnPair_8 rfl (by omega) (by omega) ?_
  refine aw_iconst (nI 1) D_mo_turnPair_9 rfl ?_
  first | with_reducible refine aw_ixorN D_mo_turnPair_10 ?_ | refine aw_ixor D_mo_turnPair_10 ?_
  rw [x1 _ (hb _)]
  refine aw_iastN D_mo_turnPair_11 rfl (by omega) (by omega) ?_
  refine aw_aload_n 0 D_mo_turnPair_12 rfl rfl ?_
  refine aw_get D_mo_turnPair_13 rfl rfl ?_
  refine aw_iconst (nI 2) D_mo_turnPair_16 rfl ?_
  refine aw_iload_n 1 D_mo_turnPair_17 rfl rfl ?_
  first | with_reducible refine aw_imulN D_mo_turnPair_18 ?_ | refine aw_imul D_mo_turnPair_18 ?_
  refine aw_iconst (nI 1) D_mo_turnPair_19 rfl ?_
  first | with_reducible refine aw_iaddN D_mo_turnPair_20 ?_ | refine aw_iadd D_mo_turnPair_20 ?_
  refine aw_dup2_11 D_mo_turnPair_21 rfl rfl ?_
  refine aw_ialdN D_mo_turnPair_22 rfl (by omega) (by omega) ?_
  rw [show nF (va_up b (2 * t) (1 - b (2 * t))) (2 * t + 1) = nI (b (2 * t + 1)) from congrArg nI (vu_ne (by omega))]
  refine aw_iconst (nI 1) D_mo_turnPair_23 rfl ?_
  first | with_reducible refine aw_ixorN D_mo_turnPair_24 ?_ | refine aw_ixor D_mo_turnPair_24 ?_
  rw [x1 _ (hb _)]
  refine aw_iastN D_mo_turnPair_25 rfl (by omega) (by omega) ?_
  refine aw_aload_n 0 D_mo_turnPair_26 rfl rfl ?_
  refine aw_iconst (nI 0) D_mo_turnPair_27 rfl ?_
  refine aw_put tc_mo D_mo_turnPair_28 rfl (Nat.le_of_ble_eq_true rfl) rfl rfl ?_
  refine aw_aload_n 0 D_mo_turnPair_31 rfl rfl ?_
  refine aw_callV (As := []) D_mo_turnPair_32 kv_mo_find (c_mo_find (b := turnB b t) hn hn9 hb2 (Or.inl rfl)) rfl rfl rfl rfl rfl (Nat.le_of_ble_eq_true rfl) (Nat.zero_le _) (Nat.zero_le _) (fun r w' hp => ?_)
  obtain ⟨rfl, hp⟩ := hp
  refine aw_return D_mo_turnPair_35 rfl ?_
  exact ⟨rfl, hp⟩
theorem c_mo_turnT {t : Nat} (ht : t < 2 ^ n / 2) (hp : pureTo b (2 ^ n / 2) = true) (h : MS n b tc fl la zs cs m) : AMet M_mo_turn [.ref 6, .int (nI t)] [a0, a1, a2, a3, a4, a5, m, a7] (fun (r' : Option Value) (w' : Wd) => r' = some (.int (nI (cR n (turnB b t)))) ∧ ∃ m', w' = [a0, a1, a2, a3, a4, a5, m', a7] ∧ MS n (turnB b t) tc fl la zs cs m') 0 0 := by
  obtain ⟨fd, R, le, sz, o, be, pc, wt, qu, lm, sl, ce, tb, mt, ru, bf, kp, rfl, hn, hn9, hb, hfd, hL, hT⟩ := h
  have hp9 := pow_le9 hn9
  have hb2 := turnB_le hb t
  refine AMet.of [(0, .ref 6), (1, .int (nI t))] (by decide +kernel) rfl (Nat.le_of_ble_eq_true rfl) ?_
  refine aw_iload_n 1 D_mo_turn_0 rfl rfl ?_
  first | with_reducible refine aw_i2lN D_mo_turn_1 (by omega) ?_ | refine aw_i2l D_mo_turn_1 ?_
  refine aw_lconst (lN 0) D_mo_turn_2 rfl ?_
  refine aw_aload_n 0 D_mo_turn_3 rfl rfl ?_
  refine aw_callV1 (As := []) D_mo_turn_4 kv_mo_states (c_mo_states hn9) rfl rfl rfl rfl rfl (Nat.le_of_ble_eq_true rfl) (Nat.zero_le _) (Nat.zero_le _) ?_
  refine aw_iconst (nI 2) D_mo_turn_7 rfl ?_
  first | with_reducible refine aw_idivN D_mo_turn_8 (by omega) (by omega) (by omega) ?_ | refine aw_idiv D_mo_turn_8 (by decide) ?_
  refine aw_iconst (nI 1) D_mo_turn_9 rfl ?_
  first | with_reducible refine aw_isubN D_mo_turn_10 (by omega) ?_ | refine aw_isub D_mo_turn_10 ?_
  first | with_reducible refine aw_i2lN D_mo_turn_11 (by omega) ?_ | refine aw_i2l D_mo_turn_11 ?_
  refine aw_callS1 (As := [_, _, _]) D_mo_turn_12 kv_mo_within (c_mo_withinT (Nat.zero_le t) (show t ≤ 2 ^ n / 2 - 1 by omega) (by omega)) rfl rfl (Nat.le_of_ble_eq_true rfl) (Nat.zero_le _) (Nat.zero_le _) ?_
  refine aw_if_neN D_mo_turn_15 (by decide) (fun h => ?_) (fun h => absurd h (by decide))
  refine aw_aload_n 0 D_mo_turn_20 rfl rfl ?_
  refine aw_callV1 (As := []) D_mo_turn_21 kv_mo_isPure (c_mo_pure (by omega) hn9 hb) rfl rfl rfl rfl rfl (Nat.le_of_ble_eq_true rfl) (Nat.zero_le _) (Nat.zero_le _) ?_
  rw [if_pos hp]
  refine aw_if_neN D_mo_turn_24 (by decide) (fun h => ?_) (fun h => absurd h (by decide))
  refine aw_aload_n 0 D_mo_turn_30 rfl rfl ?_
  refine aw_iload_n 1 D_mo_turn_31 rfl rfl ?_
  refine aw_callV (As := [_]) D_mo_turn_32 kv_mo_turnPair (c_mo_turnPair0 hn hn9 hb ht) rfl rfl rfl rfl rfl (Nat.le_of_ble_eq_true rfl) (Nat.zero_le _) (Nat.zero_le _) (fun r w' hp => ?_)
  obtain ⟨rfl, R, le, sz, o, be, pc, wt, qu, rfl, pd, fa, hF⟩ := hp
  refine aw_aload_n 0 D_mo_turn_35 rfl rfl ?_
  refine aw_get D_mo_turn_36 rfl rfl ?_
  rw [(hF.can (by omega) hb2).1]
  refine aw_ireturn D_mo_turn_39 rfl rfl ?_
  exact ⟨rfl, _, rfl, 1, _, le, sz, o, be, pc, wt, qu, lm, sl, ce, tb, mt, ru, bf, kp, rfl, hn, hn9, hb2, (Or.inr ⟨rfl, pd, fa, (hF.can (by omega) hb2).1 ▸ hF⟩), hL, hT⟩
theorem c_mo_turnU {x : Int32} (hx : ¬ vp_in x (2 ^ n / 2)) (h : MS n b tc fl la zs cs m) : AMet M_mo_turn [.ref 6, .int x] [a0, a1, a2, a3, a4, a5, m, a7] (fun (r' : Option Value) (w' : Wd) => r' = some (.int (-nI 1)) ∧ ∃ m', w' = [a0, a1, a2, a3, a4, a5, m', a7] ∧ MS n b tc fl la zs cs m') 0 0 := by
  obtain ⟨fd, R, le, sz, o, be, pc, wt, qu, lm, sl, ce, tb, mt, ru, bf, kp, rfl, hn, hn9, hb, hfd, hL, hT⟩ := h
  have hp9 := pow_le9 hn9
  have hh := pow_half (n := n) (by omega)
  have hP := Nat.two_pow_pos (n - 1)
  refine AMet.of [(0, .ref 6), (1, .int x)] (by decide +kernel) rfl (Nat.le_of_ble_eq_true rfl) ?_
  refine aw_iload_n 1 D_mo_turn_0 rfl rfl ?_
  first | with_reducible refine aw_i2lN D_mo_turn_1 (by omega) ?_ | refine aw_i2l D_mo_turn_1 ?_
  refine aw_lconst (lN 0) D_mo_turn_2 rfl ?_
  refine aw_aload_n 0 D_mo_turn_3 rfl rfl ?_
  refine aw_callV1 (As := []) D_mo_turn_4 kv_mo_states (c_mo_states hn9) rfl rfl rfl rfl rfl (Nat.le_of_ble_eq_true rfl) (Nat.zero_le _) (Nat.zero_le _) ?_
  refine aw_iconst (nI 2) D_mo_turn_7 rfl ?_
  first | with_reducible refine aw_idivN D_mo_turn_8 (by omega) (by omega) (by omega) ?_ | refine aw_idiv D_mo_turn_8 (by decide) ?_
  refine aw_iconst (nI 1) D_mo_turn_9 rfl ?_
  first | with_reducible refine aw_isubN D_mo_turn_10 (by omega) ?_ | refine aw_isub D_mo_turn_10 ?_
  first | with_reducible refine aw_i2lN D_mo_turn_11 (by omega) ?_ | refine aw_i2l D_mo_turn_11 ?_
  refine aw_callS1 (As := [_, _, _]) D_mo_turn_12 kv_mo_within (c_mo_withinF (x := x) (a := 0) (c := 2 ^ n / 2 - 1) (by rintro ⟨k, _, hk, rfl⟩; exact hx (vp_in_nI (by omega) (by omega))) (by omega) (by decide)) rfl rfl (Nat.le_of_ble_eq_true rfl) (Nat.zero_le _) (Nat.zero_le _) ?_
  refine aw_if_neN D_mo_turn_15 (by decide) (fun h => absurd h (by decide)) (fun h => ?_)
  refine aw_iconst (-nI 1) D_mo_turn_18 rfl ?_
  refine aw_ireturn D_mo_turn_19 rfl rfl ?_
  exact ⟨rfl, _, rfl, fd, R, le, sz, o, be, pc, wt, qu, lm, sl, ce, tb, mt, ru, bf, kp, rfl, hn, hn9, hb, hfd, hL, hT⟩
theorem c_mo_turnS {t : Nat} (ht : t < 2 ^ n / 2) (hp : ¬ pureTo b (2 ^ n / 2) = true) (h : MS n b tc fl la zs cs m) : AMet M_mo_turn [.ref 6, .int (nI t)] [a0, a1, a2, a3, a4, a5, m, a7] (fun (r' : Option Value) (w' : Wd) => r' = some (.int (-nI 3)) ∧ ∃ m', w' = [a0, a1, a2, a3, a4, a5, m', a7] ∧ MS n b tc fl la zs cs m') 0 0 := by
  obtain ⟨fd, R, le, sz, o, be, pc, wt, qu, lm, sl, ce, tb, mt, ru, bf, kp, rfl, hn, hn9, hb, hfd, hL, hT⟩ := h
  have hp9 := pow_le9 hn9
  refine AMet.of [(0, .ref 6), (1, .int (nI t))] (by decide +kernel) rfl (Nat.le_of_ble_eq_true rfl) ?_
  refine aw_iload_n 1 D_mo_turn_0 rfl rfl ?_
  first | with_reducible refine aw_i2lN D_mo_turn_1 (by omega) ?_ | refine aw_i2l D_mo_turn_1 ?_
  refine aw_lconst (lN 0) D_mo_turn_2 rfl ?_
  refine aw_aload_n 0 D_mo_turn_3 rfl rfl ?_
  refine aw_callV1 (As := []) D_mo_turn_4 kv_mo_states (c_mo_states hn9) rfl rfl rfl rfl rfl (Nat.le_of_ble_eq_true rfl) (Nat.zero_le _) (Nat.zero_le _) ?_
  refine aw_iconst (nI 2) D_mo_turn_7 rfl ?_
  first | with_reducible refine aw_idivN D_mo_turn_8 (by omega) (by omega) (by omega) ?_ | refine aw_idiv D_mo_turn_8 (by decide) ?_
  refine aw_iconst (nI 1) D_mo_turn_9 rfl ?_
  first | with_reducible refine aw_isubN D_mo_turn_10 (by omega) ?_ | refine aw_isub D_mo_turn_10 ?_
  first | with_reducible refine aw_i2lN D_mo_turn_11 (by omega) ?_ | refine aw_i2l D_mo_turn_11 ?_
  refine aw_callS1 (As := [_, _, _]) D_mo_turn_12 kv_mo_within (c_mo_withinT (Nat.zero_le t) (show t ≤ 2 ^ n / 2 - 1 by omega) (by omega)) rfl rfl (Nat.le_of_ble_eq_true rfl) (Nat.zero_le _) (Nat.zero_le _) ?_
  refine aw_if_neN D_mo_turn_15 (by decide) (fun h => ?_) (fun h => absurd h (by decide))
  refine aw_aload_n 0 D_mo_turn_20 rfl rfl ?_
  refine aw_callV1 (As := []) D_mo_turn_21 kv_mo_isPure (c_mo_pure (by omega) hn9 hb) rfl rfl rfl rfl rfl (Nat.le_of_ble_eq_true rfl) (Nat.zero_le _) (Nat.zero_le _) ?_
  rw [if_neg hp]
  refine aw_if_neN D_mo_turn_24 (by decide) (fun h => absurd h (by decide)) (fun h => ?_)
  refine aw_bipush (-nI 3) D_mo_turn_27 rfl ?_
  refine aw_ireturn D_mo_turn_29 rfl rfl ?_
  exact ⟨rfl, _, rfl, fd, R, le, sz, o, be, pc, wt, qu, lm, sl, ce, tb, mt, ru, bf, kp, rfl, hn, hn9, hb, hfd, hL, hT⟩
theorem c_mo_alongU {x y : Int32} (hx : ¬ vp_in x (cR n b)) (h : MS n b tc fl la zs cs m) : AMet M_mo_along [.ref 6, .int x, .int y] [a0, a1, a2, a3, a4, a5, m, a7] (fun (r' : Option Value) (w' : Wd) => r' = some (.int (-nI 1)) ∧ ∃ m', w' = [a0, a1, a2, a3, a4, a5, m', a7] ∧ MS n b tc fl la zs cs m') 0 0 := by
  obtain ⟨fd, R, le, sz, o, be, pc, wt, qu, lm, sl, ce, tb, mt, ru, bf, kp, rfl, hn, hn9, hb, hfd, hL, hT⟩ := h
  have hp9 := pow_le9 hn9
  refine AMet.of [(0, .ref 6), (1, .int x), (2, .int y)] (by decide +kernel) rfl (Nat.le_of_ble_eq_true rfl) ?_
  refine aw_aload_n 0 D_mo_along_0 rfl rfl ?_
  refine aw_callV (As := []) D_mo_along_1 kv_mo_find (c_mo_find hn hn9 hb hfd) rfl rfl rfl rfl rfl (Nat.le_of_ble_eq_true rfl) (Nat.zero_le _) (Nat.zero_le _) (fun r w' hp => ?_)
  obtain ⟨rfl, R, le, sz, o, be, pc, wt, qu, rfl, pd, fa, hF⟩ := hp
  have hR := hF.2.1.R_le
  rw [← (hF.can (by omega) hb).1] at hx
  refine aw_iload_n 1 D_mo_along_4 rfl rfl ?_
  refine aw_if_lt D_mo_along_5 (fun h1 => ?_) (fun h1 => ?_)
  · refine aw_iconst (-nI 1) D_mo_along_16 rfl ?_
    refine aw_ireturn D_mo_along_17 rfl rfl ?_
    exact ⟨rfl, _, rfl, 1, R, le, sz, o, be, pc, wt, qu, lm, sl, ce, tb, mt, ru, bf, kp, rfl, hn, hn9, hb, (Or.inr ⟨rfl, pd, fa, hF⟩), hL, hT⟩
  · refine aw_iload_n 1 D_mo_along_8 rfl rfl ?_
    refine aw_aload_n 0 D_mo_along_9 rfl rfl ?_
    refine aw_get D_mo_along_10 rfl rfl ?_
    refine aw_icmp_lt D_mo_along_13 (fun h2 => absurd (vp_of h1 (Int32.not_le.mpr h2) (by omega)) hx) (fun h2 => ?_)
    refine aw_iconst (-nI 1) D_mo_along_16 rfl ?_
    refine aw_ireturn D_mo_along_17 rfl rfl ?_
    exact ⟨rfl, _, rfl, 1, R, le, sz, o, be, pc, wt, qu, lm, sl, ce, tb, mt, ru, bf, kp, rfl, hn, hn9, hb, (Or.inr ⟨rfl, pd, fa, hF⟩), hL, hT⟩
theorem c_mo_alongO {r : Nat} {y : Int32} (hr : r < cR n b) (hy : y < 0) (h : MS n b tc fl la zs cs m) : AMet M_mo_along [.ref 6, .int (nI r), .int y] [a0, a1, a2, a3, a4, a5, m, a7] (fun (r' : Option Value) (w' : Wd) => r' = some (.int (-nI 2)) ∧ ∃ m', w' = [a0, a1, a2, a3, a4, a5, m', a7] ∧ MS n b tc fl la zs cs m') 0 0 := by
  obtain ⟨fd, R, le, sz, o, be, pc, wt, qu, lm, sl, ce, tb, mt, ru, bf, kp, rfl, hn, hn9, hb, hfd, hL, hT⟩ := h
  have hp9 := pow_le9 hn9
  refine AMet.of [(0, .ref 6), (1, .int (nI r)), (2, .int y)] (by decide +kernel) rfl (Nat.le_of_ble_eq_true rfl) ?_
  refine aw_aload_n 0 D_mo_along_0 rfl rfl ?_
  refine aw_callV (As := []) D_mo_along_1 kv_mo_find (c_mo_find hn hn9 hb hfd) rfl rfl rfl rfl rfl (Nat.le_of_ble_eq_true rfl) (Nat.zero_le _) (Nat.zero_le _) (fun r w' hp => ?_)
  obtain ⟨rfl, R, le, sz, o, be, pc, wt, qu, rfl, pd, fa, hF⟩ := hp
  have hR := hF.2.1.R_le
  rw [← (hF.can (by omega) hb).1] at hr
  refine aw_iload_n 1 D_mo_along_4 rfl rfl ?_
  refine aw_if_ltN D_mo_along_5 (by omega) ?_
  refine aw_iload_n 1 D_mo_along_8 rfl rfl ?_
  refine aw_aload_n 0 D_mo_along_9 rfl rfl ?_
  refine aw_get D_mo_along_10 rfl rfl ?_
  refine aw_icmp_ltN D_mo_along_13 (by omega) (by omega) (fun h2 => ?_) (fun h2 => absurd h2 (by omega))
  refine aw_iload_n 2 D_mo_along_18 rfl rfl ?_
  refine aw_if_ge D_mo_along_19 (fun h2 => absurd hy (Int32.not_lt.mpr h2)) (fun h2 => ?_)
  refine aw_bipush (-nI 2) D_mo_along_22 rfl ?_
  refine aw_ireturn D_mo_along_24 rfl rfl ?_
  exact ⟨rfl, _, rfl, 1, R, le, sz, o, be, pc, wt, qu, lm, sl, ce, tb, mt, ru, bf, kp, rfl, hn, hn9, hb, (Or.inr ⟨rfl, pd, fa, hF⟩), hL, hT⟩
theorem c_mo_alongT {r d : Nat} (hr : r < cR n b) (hd : d < 2 ^ 31) (h : MS n b tc fl la zs cs m) : AMet M_mo_along [.ref 6, .int (nI r), .int (nI d)] [a0, a1, a2, a3, a4, a5, m, a7] (fun (r' : Option Value) (w' : Wd) => r' = some (.int (alike (nx n b) (cLe n b r) (itr (nx n b) d (cLe n b r)) (cSz n b r))) ∧ ∃ m', w' = [a0, a1, a2, a3, a4, a5, m', a7] ∧ MS n b tc fl la zs cs m') 0 0 := by
  obtain ⟨fd, R, le, sz, o, be, pc, wt, qu, lm, sl, ce, tb, mt, ru, bf, kp, rfl, hn, hn9, hb, hfd, hL, hT⟩ := h
  have hp9 := pow_le9 hn9
  have hf := FT.hf (n := n) (b := b) (by omega) hb
  refine AMet.of [(0, .ref 6), (1, .int (nI r)), (2, .int (nI d))] (by decide +kernel) rfl (Nat.le_of_ble_eq_true rfl) ?_
  generalize hZ : (fun (r' : Option Value) (w' : Wd) => r' = some (.int (alike (nx n b) (cLe n b r) (itr (nx n b) d (cLe n b r)) (cSz n b r))) ∧ ∃ m', w' = [a0, a1, a2, a3, a4, a5, m', a7] ∧ MS n b tc fl la zs cs m') = ZZ
  refine aw_aload_n 0 D_mo_along_0 rfl rfl ?_
  refine aw_callV (As := []) D_mo_along_1 kv_mo_find (c_mo_find hn hn9 hb hfd) rfl rfl rfl rfl rfl (Nat.le_of_ble_eq_true rfl) (Nat.zero_le _) (Nat.zero_le _) (fun r w' hp => ?_)
  obtain ⟨rfl, R, le, sz, o, be, pc, wt, qu, rfl, pd, fa, hF⟩ := hp
  have hR := hF.2.1.R_le
  have hcan := hF.can (by omega) hb
  have hr2 := hr
  rw [← hcan.1] at hr2
  obtain ⟨e1, e2⟩ := hcan.2.1 r hr2
  have hlt := (hF.2.1.2.2.2.1 r hr2).1
  refine aw_iload_n 1 D_mo_along_4 rfl rfl ?_
  refine aw_if_ltN D_mo_along_5 (by omega) ?_
  refine aw_iload_n 1 D_mo_along_8 rfl rfl ?_
  refine aw_aload_n 0 D_mo_along_9 rfl rfl ?_
  refine aw_get D_mo_along_10 rfl rfl ?_
  refine aw_icmp_ltN D_mo_along_13 (by omega) (by omega) (fun h2 => ?_) (fun h2 => absurd h2 (by omega))
  refine aw_iload_n 2 D_mo_along_18 rfl rfl ?_
  refine aw_if_geN D_mo_along_19 (by omega) ?_
  refine aw_aload_n 0 D_mo_along_25 rfl rfl ?_
  refine aw_get D_mo_along_26 rfl rfl ?_
  refine aw_iload_n 1 D_mo_along_29 rfl rfl ?_
  refine aw_ialdN D_mo_along_30 rfl (by omega) (by omega) ?_
  refine aw_istore_n 3 D_mo_along_31 rfl (Nat.le_of_ble_eq_true rfl) rfl ?_
  refine aw_aload_n 0 D_mo_along_32 rfl rfl ?_
  refine aw_iload_n 3 D_mo_along_33 rfl rfl ?_
  refine aw_iload_n 2 D_mo_along_34 rfl rfl ?_
  first | with_reducible refine aw_i2lN D_mo_along_35 (by omega) ?_ | refine aw_i2l D_mo_along_35 ?_
  rw [e1] at hlt
  rw [show nF le r = nI (cLe n b r) from congrArg nI e1]
  refine aw_callV1 (As := [_, _]) D_mo_along_36 kv_mo_step (c_mo_step1 (k := d) hn hn9 hb hF hlt (by omega)) rfl rfl rfl rfl rfl (Nat.le_of_ble_eq_true rfl) (Nat.zero_le _) (Nat.zero_le _) ?_
  have hsz := hF.2.1.sz_le hf hr2
  rw [e2] at hsz
  have key : ∀ (q i : Nat), i + q = cSz n b r → AW M_mo_along noP (Zp ZZ) 0 0 47 [(0, .ref 6), (1, .int (nI r)), (2, .int (nI d)), (3, .int (nI (itr (nx n b) i (cLe n b r)))), (4, .int (nI (itr (nx n b) i (itr (nx n b) d (cLe n b r))))), (5, .int (alike (nx n b) (cLe n b r) (itr (nx n b) d (cLe n b r)) i)), (6, .int (nI i))] [] [a0, a1, a2, a3, a4, a5, MO fl tc n 1 R b le sz o be pc wt qu lm sl ce tb mt ru bf kp, a7] 0 0 := by
    intro q
    induction q with
    | zero =>
      intro i hi
      have hi : i = cSz n b r := by omega
      subst hi
      refine aw_iload D_mo_along_47 rfl ?_
      refine aw_aload_n 0 D_mo_along_49 rfl rfl ?_
      refine aw_get D_mo_along_50 rfl rfl ?_
      refine aw_iload_n 1 D_mo_along_53 rfl rfl ?_
      refine aw_ialdN D_mo_along_54 rfl (by omega) (by omega) ?_
      rw [show nF sz r = nI (cSz n b r) from congrArg nI e2]
      refine aw_icmp_geN D_mo_along_55 (by omega) (by omega) (fun h => ?_) (fun h => absurd h (by omega))
      refine aw_iload D_mo_along_98 rfl ?_
      refine aw_ireturn D_mo_along_100 rfl rfl ?_
      subst hZ; exact ⟨rfl, _, rfl, 1, R, le, sz, o, be, pc, wt, qu, lm, sl, ce, tb, mt, ru, bf, kp, rfl, hn, hn9, hb, (Or.inr ⟨rfl, pd, fa, hF⟩), hL, hT⟩
    | succ q ih =>
      intro i hi
      have hx := itr_lt hf i _ hlt
      have hy := itr_lt hf i _ (itr_lt hf d _ hlt)
      have hal : alike (nx n b) (cLe n b r) (itr (nx n b) d (cLe n b r)) (i + 1) = alike (nx n b) (cLe n b r) (itr (nx n b) d (cLe n b r)) i + (if itr (nx n b) i (cLe n b r) % 2 = itr (nx n b) i (itr (nx n b) d (cLe n b r)) % 2 then nI 1 else -nI 1) := rfl
      have hnext : ∀ v : Int32, v = (if itr (nx n b) i (cLe n b r) % 2 = itr (nx n b) i (itr (nx n b) d (cLe n b r)) % 2 then nI 1 else -nI 1) → AW M_mo_along noP (Zp ZZ) 0 0 75 [(0, .ref 6), (1, .int (nI r)), (2, .int (nI d)), (3, .int (nI (itr (nx n b) i (cLe n b r)))), (4, .int (nI (itr (nx n b) i (itr (nx n b) d (cLe n b r))))), (5, .int (alike (nx n b) (cLe n b r) (itr (nx n b) d (cLe n b r)) i)), (6, .int (nI i))] [.int v, .int (alike (nx n b) (cLe n b r) (itr (nx n b) d (cLe n b r)) i)] [a0, a1, a2, a3, a4, a5, MO fl tc n 1 R b le sz o be pc wt qu lm sl ce tb mt ru bf kp, a7] 0 0 := by
        intro v hv
        refine aw_iadd D_mo_along_75 ?_
        rw [hv, ← hal]
        refine aw_istore D_mo_along_76 (Nat.le_of_ble_eq_true rfl) rfl ?_
        refine aw_aload_n 0 D_mo_along_78 rfl rfl ?_
        refine aw_iload_n 3 D_mo_along_79 rfl rfl ?_
        refine aw_callV1 (As := [_]) D_mo_along_80 kv_mo_next (c_mo_next (by omega) hn9 hx) rfl rfl rfl rfl rfl (Nat.le_of_ble_eq_true rfl) (Nat.zero_le _) (Nat.zero_le _) ?_
        refine aw_istore_n 3 D_mo_along_83 rfl (Nat.le_of_ble_eq_true rfl) rfl ?_
        refine aw_aload_n 0 D_mo_along_84 rfl rfl ?_
        refine aw_iload D_mo_along_85 rfl ?_
        refine aw_callV1 (As := [_]) D_mo_along_87 kv_mo_next (c_mo_next (by omega) hn9 hy) rfl rfl rfl rfl rfl (Nat.le_of_ble_eq_true rfl) (Nat.zero_le _) (Nat.zero_le _) ?_
        refine aw_istore D_mo_along_90 (Nat.le_of_ble_eq_true rfl) rfl ?_
        first | refine aw_incN D_mo_along_92 rfl (Nat.le_of_ble_eq_true rfl) rfl ?_ | refine aw_inc D_mo_along_92 rfl (Nat.le_of_ble_eq_true rfl) rfl ?_
        refine aw_goto D_mo_along_95 ?_
        rw [← itr_succ (nx n b), ← itr_succ (nx n b)]
        exact ih (i + 1) (by omega)
      refine aw_iload D_mo_along_47 rfl ?_
      refine aw_aload_n 0 D_mo_along_49 rfl rfl ?_
      refine aw_get D_mo_along_50 rfl rfl ?_
      refine aw_iload_n 1 D_mo_along_53 rfl rfl ?_
      refine aw_ialdN D_mo_along_54 rfl (by omega) (by omega) ?_
      rw [show nF sz r = nI (cSz n b r) from congrArg nI e2]
      refine aw_icmp_geN D_mo_along_55 (by omega) (by omega) (fun h => absurd h (by omega)) (fun h => ?_)
      refine aw_iload D_mo_along_58 rfl ?_
      refine aw_iload_n 3 D_mo_along_60 rfl rfl ?_
      refine aw_iconst (nI 1) D_mo_along_61 rfl ?_
      first | with_reducible refine aw_iandN D_mo_along_62 ?_ | refine aw_iand D_mo_along_62 ?_
      refine aw_iload D_mo_along_63 rfl ?_
      refine aw_iconst (nI 1) D_mo_along_65 rfl ?_
      first | with_reducible refine aw_iandN D_mo_along_66 ?_ | refine aw_iand D_mo_along_66 ?_
      rw [Nat.and_one_is_mod, Nat.and_one_is_mod]
      refine aw_icmp_neN D_mo_along_67 (by omega) (by omega) (fun h => ?_) (fun h => ?_)
      · refine aw_iconst (-nI 1) D_mo_along_74 rfl ?_
        exact hnext _ (if_neg h).symm
      · refine aw_iconst (nI 1) D_mo_along_70 rfl ?_
        refine aw_goto D_mo_along_71 ?_
        exact hnext _ (if_pos h).symm
  refine aw_istore D_mo_along_39 (Nat.le_of_ble_eq_true rfl) rfl ?_
  refine aw_iconst (nI 0) D_mo_along_41 rfl ?_
  refine aw_istore D_mo_along_42 (Nat.le_of_ble_eq_true rfl) rfl ?_
  refine aw_iconst (nI 0) D_mo_along_44 rfl ?_
  refine aw_istore D_mo_along_45 (Nat.le_of_ble_eq_true rfl) rfl ?_
  exact key (cSz n b r) 0 (by omega)
end Mo3
