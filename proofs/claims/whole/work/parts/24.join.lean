/-! ### joining all rings: groups of rings -/
def turnB (b : Nat → Nat) (t : Nat) : Nat → Nat := va_up (va_up b (2 * t) (1 - b (2 * t))) (2 * t + 1) (1 - b (2 * t + 1))
def rgp (g : Nat → Nat) (a x : Nat) (i : Nat) : Nat → Nat := fun r => if r < i ∧ g r = a then x else g r
/-- t pairs are looked at: the groups, the feedback, how many were turned -/
def jst (ro : Nat → Nat) (C : Nat) (q : (Nat → Nat) × (Nat → Nat) × Nat) (t : Nat) : (Nat → Nat) × (Nat → Nat) × Nat :=
  if q.1 (ro (2 * t)) = q.1 (ro (2 * t + 1)) then q else (rgp q.1 (q.1 (ro (2 * t + 1))) (q.1 (ro (2 * t))) C, turnB q.2.1 t, q.2.2 + 1)
def jfr (ro : Nat → Nat) (C : Nat) (q : (Nat → Nat) × (Nat → Nat) × Nat) : Nat → (Nat → Nat) × (Nat → Nat) × Nat
  | 0 => q
  | t + 1 => jst ro C (jfr ro C q t) t
theorem turnB_le {b : Nat → Nat} (hb : ∀ k, b k ≤ 1) (t : Nat) : ∀ k, turnB b t k ≤ 1 := by
  intro k
  unfold turnB va_up
  split
  · omega
  · split
    · omega
    · exact hb k
theorem look7 {mn rg ri tr sh rr mo dy : List va_E} {e : va_E} : look [mn, rg, ri, tr, sh, rr, mo, dy ++ [e]] (16 * dy.length + 7) = some e := by
  unfold look
  rw [show (16 * dy.length + 7) % 16 = 7 by omega, show (16 * dy.length + 7) / 16 = dy.length by omega]
  show (dy ++ [e])[dy.length]? = some e
  rw [List.getElem?_append_right (Nat.le_refl _), Nat.sub_self]
  rfl
theorem updw7 {mn rg ri tr sh rr mo dy : List va_E} {e e' : va_E} : updw [mn, rg, ri, tr, sh, rr, mo, dy ++ [e]] (16 * dy.length + 7) e' = [mn, rg, ri, tr, sh, rr, mo, dy ++ [e']] := by
  unfold updw
  rw [show (16 * dy.length + 7) % 16 = 7 by omega, show (16 * dy.length + 7) / 16 = dy.length by omega]
  show [mn, rg, ri, tr, sh, rr, mo, (dy ++ [e]).set dy.length e'] = _
  rw [List.set_append_right _ _ (Nat.le_refl _), Nat.sub_self]
  rfl
theorem c_ri_regroup {w : Wd} {q N a x : Nat} {g : Nat → Nat} (hN : N ≤ 512) (ha : a < 2 ^ 31) (hg : ∀ r, r < N → g r < 2 ^ 31) (hq : look w q = some (.inl (0, N, .inl (nF g)))) : AMet M_ri_regroup [.ref q, .int (nI a), .int (nI x)] w (Ex none (updw w q (.inl (0, N, .inl (nF (rgp g a x N)))))) 0 0 := by
  refine AMet.of [(0, .ref q), (1, .int (nI a)), (2, .int (nI x))] (by decide +kernel) rfl (Nat.le_of_ble_eq_true rfl) ?_
  have up : ∀ i, g i = a → va_up (rgp g a x i) i x = rgp g a x (i + 1) := by
    intro i e
    funext j
    unfold va_up rgp
    by_cases h : j = i
    · rw [if_pos h, if_pos ⟨by omega, by rw [h]; exact e⟩]
    · rw [if_neg h]
      by_cases h2 : j < i ∧ g j = a
      · rw [if_pos h2, if_pos ⟨by omega, h2.2⟩]
      · rw [if_neg h2, if_neg (fun z => h2 ⟨by omega, z.2⟩)]
  have no : ∀ i, g i ≠ a → rgp g a x i = rgp g a x (i + 1) := by
    intro i e
    funext j
    unfold rgp
    by_cases h2 : j < i ∧ g j = a
    · rw [if_pos h2, if_pos ⟨by omega, h2.2⟩]
    · rw [if_neg h2, if_neg]
      rintro ⟨z1, z2⟩
      rcases Nat.lt_or_ge j i with q | q
      · exact h2 ⟨q, z2⟩
      · rw [show j = i by omega] at z2; exact e z2
  have key : ∀ (m i : Nat), i + m = N → AW M_ri_regroup noP (Zp (Ex none (updw w q (.inl (0, N, .inl (nF (rgp g a x N))))))) 0 0 2 [(0, .ref q), (1, .int (nI a)), (2, .int (nI x)), (3, .int (nI i))] [] (updw w q (.inl (0, N, .inl (nF (rgp g a x i))))) 0 0 := by
    intro m
    induction m with
    | zero =>
      intro i hi
      have hl : look (updw w q (.inl (0, N, .inl (nF (rgp g a x i))))) q = some (.inl (0, N, .inl (nF (rgp g a x i)))) := by rw [look_updw hq, if_pos rfl]
      refine aw_iload_n 3 D_ri_regroup_2 rfl rfl ?_
      refine aw_aload_n 0 D_ri_regroup_3 rfl rfl ?_
      refine aw_alen D_ri_regroup_4 (hl) (by decide) ?_
      refine aw_icmp_geN D_ri_regroup_5 (by omega) (by omega) (fun h => ?_) (fun h => absurd h (by omega))
      rw [show i = N by omega]
      refine aw_return D_ri_regroup_25 rfl ?_
      exact ⟨rfl, rfl⟩
    | succ m ih =>
      intro i hi
      have hl : look (updw w q (.inl (0, N, .inl (nF (rgp g a x i))))) q = some (.inl (0, N, .inl (nF (rgp g a x i)))) := by rw [look_updw hq, if_pos rfl]
      have hgi : rgp g a x i i = g i := by unfold rgp; rw [if_neg (fun z => by omega)]
      have hlt := hg i (by omega)
      refine aw_iload_n 3 D_ri_regroup_2 rfl rfl ?_
      refine aw_aload_n 0 D_ri_regroup_3 rfl rfl ?_
      refine aw_alen D_ri_regroup_4 (hl) (by decide) ?_
      refine aw_icmp_geN D_ri_regroup_5 (by omega) (by omega) (fun h => absurd h (by omega)) (fun h => ?_)
      refine aw_aload_n 0 D_ri_regroup_8 rfl rfl ?_
      refine aw_iload_n 3 D_ri_regroup_9 rfl rfl ?_
      refine aw_ialdN D_ri_regroup_10 (hl) (by omega) (by omega) ?_
      refine aw_iload_n 1 D_ri_regroup_11 rfl rfl ?_
      rw [show nF (rgp g a x i) i = nI (g i) from congrArg nI hgi]
      refine aw_icmp_neN D_ri_regroup_12 (by omega) (by omega) (fun h => ?_) (fun h => ?_)
      · first | refine aw_incN D_ri_regroup_19 rfl (Nat.le_of_ble_eq_true rfl) rfl ?_ | refine aw_inc D_ri_regroup_19 rfl (Nat.le_of_ble_eq_true rfl) rfl ?_
        refine aw_goto D_ri_regroup_22 ?_
        rw [no i h]
        exact ih (i + 1) (by omega)
      · refine aw_aload_n 0 D_ri_regroup_15 rfl rfl ?_
        refine aw_iload_n 3 D_ri_regroup_16 rfl rfl ?_
        refine aw_iload_n 2 D_ri_regroup_17 rfl rfl ?_
        refine aw_iastN D_ri_regroup_18 (hl) (by omega) (by omega) ?_
        rw [updw_twice hq, up i h]
        first | refine aw_incN D_ri_regroup_19 rfl (Nat.le_of_ble_eq_true rfl) rfl ?_ | refine aw_inc D_ri_regroup_19 rfl (Nat.le_of_ble_eq_true rfl) rfl ?_
        refine aw_goto D_ri_regroup_22 ?_
        exact ih (i + 1) (by omega)
  refine aw_iconst (nI 0) D_ri_regroup_0 rfl ?_
  refine aw_istore_n 3 D_ri_regroup_1 rfl (Nat.le_of_ble_eq_true rfl) rfl ?_
  have := key N 0 (by omega)
  rw [show rgp g a x 0 = g from funext fun r => if_neg (fun z => by omega), updw_same hq] at this
  exact this
section Join
variable {mn tr sh rr mo dy : List va_E} {n N ch : Nat} {b bn : Nat → Nat} {c pd st fa : Nat} {o : Nat → Option Nat} {be pc le sz wt qu : Nat → Nat}
theorem c_ri_joinAll (hn : 2 ≤ n) (hn9 : n ≤ 9) (hN : N = 2 ^ n) (hb : ∀ k, b k ≤ 1) (hF : FT n b c pd st fa o be pc le sz) : AMet M_ri_joinAll [.ref 2, .ref 1] [mn, RG n N 0 b bn, RI c pd st fa o be pc le sz wt qu, tr, sh, rr, mo, dy]
    (fun r w' => r = some (.int (nI (jfr (fun s => (o s).getD 0) c (id, b, 0) (2 ^ n / 2)).2.2)) ∧ ∃ (ch' : Nat) (e : va_E), (ch' = 1 ∨ ch' = 0 ∧ (jfr (fun s => (o s).getD 0) c (id, b, 0) (2 ^ n / 2)).2.1 = b) ∧ w' = [mn, RG n N ch' (jfr (fun s => (o s).getD 0) c (id, b, 0) (2 ^ n / 2)).2.1 bn, RI c pd st fa o be pc le sz wt qu, tr, sh, rr, mo, dy ++ [e]]) 1 512 := by
  have hp9 := pow_le9 hn9
  have h4 : 2 ^ n = 2 * 2 ^ (n - 1) := (pow_half (by omega)).symm
  have hf := FT.hf (n := n) (b := b) (by omega) hb
  have hV := hF.2.1
  have hR := hV.R_le
  subst hN
  refine AMet.of [(0, .ref 2), (1, .ref 1)] (by decide +kernel) rfl (Nat.le_of_ble_eq_true rfl) ?_
  generalize hZ : (fun (r : Option Value) (w' : Wd) => r = some (.int (nI (jfr (fun s => (o s).getD 0) c (id, b, 0) (2 ^ n / 2)).2.2)) ∧ ∃ (ch' : Nat) (e : va_E), (ch' = 1 ∨ ch' = 0 ∧ (jfr (fun s => (o s).getD 0) c (id, b, 0) (2 ^ n / 2)).2.1 = b) ∧ w' = [mn, RG n (2 ^ n) ch' (jfr (fun s => (o s).getD 0) c (id, b, 0) (2 ^ n / 2)).2.1 bn, RI c pd st fa o be pc le sz wt qu, tr, sh, rr, mo, dy ++ [e]]) = Post
  have loop2 : ∀ (m t : Nat) (q : (Nat → Nat) × (Nat → Nat) × Nat) (ch' : Nat), t + m = 2 ^ n / 2 → q = jfr (fun s => (o s).getD 0) c (id, b, 0) t → (ch' = 1 ∨ ch' = 0 ∧ q.2.1 = b) → (∀ r, r < c → q.1 r < c) → (∀ k, q.2.1 k ≤ 1) → q.2.2 ≤ t →
      AW M_ri_joinAll noP (Zp Post) 1 512 32 [(0, .ref 2), (1, .ref 1), (2, .ref (16 * dy.length + 7)), (3, .int (nI q.2.2)), (4, .int (nI t))] [] [mn, RG n (2 ^ n) ch' q.2.1 bn, RI c pd st fa o be pc le sz wt qu, tr, sh, rr, mo, dy ++ [.inl (0, c, .inl (nF q.1))]] 1 c := by
    intro m
    induction m with
    | zero =>
      intro t q ch' ht hq hch hg hb' hk
      refine aw_iload D_ri_joinAll_32 rfl ?_
      refine aw_aload_n 1 D_ri_joinAll_34 rfl rfl ?_
      refine aw_get D_ri_joinAll_35 rfl rfl ?_
      refine aw_iconst (nI 2) D_ri_joinAll_38 rfl ?_
      first | with_reducible refine aw_idivN D_ri_joinAll_39 (by omega) (by omega) (by omega) ?_ | refine aw_idiv D_ri_joinAll_39 (by decide) ?_
      refine aw_icmp_geN D_ri_joinAll_40 (by omega) (by omega) (fun h => ?_) (fun h => absurd h (by omega))
      refine aw_iload_n 3 D_ri_joinAll_101 rfl rfl ?_
      rw [show t = 2 ^ n / 2 by omega] at hq
      refine aw_ireturn D_ri_joinAll_102 rfl rfl ?_
      rw [← hZ]; subst hq; exact ⟨rfl, ch', _, hch, rfl⟩
    | succ m ih =>
      intro t q ch' ht hq hch hg hb' hk
      have i1 : 2 * t < 2 ^ n := by omega
      have i2 : 2 * t + 1 < 2 ^ n := by omega
      have o1 := oI_get (z := -nI 1) (hF.1 _ i1)
      have o2 := oI_get (z := -nI 1) (hF.1 _ i2)
      have r1 := hV.1 _ i1
      have r2 := hV.1 _ i2
      dsimp only at r1 r2
      have g1 := hg _ r1
      have g2 := hg _ r2
      have hs : jfr (fun s => (o s).getD 0) c (id, b, 0) (t + 1) = jst (fun s => (o s).getD 0) c q t := by rw [hq]; rfl
      refine aw_iload D_ri_joinAll_32 rfl ?_
      refine aw_aload_n 1 D_ri_joinAll_34 rfl rfl ?_
      refine aw_get D_ri_joinAll_35 rfl rfl ?_
      refine aw_iconst (nI 2) D_ri_joinAll_38 rfl ?_
      first | with_reducible refine aw_idivN D_ri_joinAll_39 (by omega) (by omega) (by omega) ?_ | refine aw_idiv D_ri_joinAll_39 (by decide) ?_
      refine aw_icmp_geN D_ri_joinAll_40 (by omega) (by omega) (fun h => absurd h (by omega)) (fun h => ?_)
      refine aw_aload_n 2 D_ri_joinAll_43 rfl rfl ?_
      refine aw_aload_n 0 D_ri_joinAll_44 rfl rfl ?_
      refine aw_get D_ri_joinAll_45 rfl rfl ?_
      refine aw_iconst (nI 2) D_ri_joinAll_48 rfl ?_
      refine aw_iload D_ri_joinAll_49 rfl ?_
      first | with_reducible refine aw_imulN D_ri_joinAll_51 ?_ | refine aw_imul D_ri_joinAll_51 ?_
      refine aw_ialdN D_ri_joinAll_52 rfl (by omega) (by omega) ?_
      rw [show oF (-nI 1) o (2 * t) = nI ((o (2 * t)).getD 0) from o1]
      refine aw_ialdN D_ri_joinAll_53 (look7) (by omega) (by omega) ?_
      refine aw_istore D_ri_joinAll_54 (Nat.le_of_ble_eq_true rfl) rfl ?_
      refine aw_aload_n 2 D_ri_joinAll_56 rfl rfl ?_
      refine aw_aload_n 0 D_ri_joinAll_57 rfl rfl ?_
      refine aw_get D_ri_joinAll_58 rfl rfl ?_
      refine aw_iconst (nI 2) D_ri_joinAll_61 rfl ?_
      refine aw_iload D_ri_joinAll_62 rfl ?_
      first | with_reducible refine aw_imulN D_ri_joinAll_64 ?_ | refine aw_imul D_ri_joinAll_64 ?_
      refine aw_iconst (nI 1) D_ri_joinAll_65 rfl ?_
      first | with_reducible refine aw_iaddN D_ri_joinAll_66 ?_ | refine aw_iadd D_ri_joinAll_66 ?_
      refine aw_ialdN D_ri_joinAll_67 rfl (by omega) (by omega) ?_
      rw [show oF (-nI 1) o (2 * t + 1) = nI ((o (2 * t + 1)).getD 0) from o2]
      refine aw_ialdN D_ri_joinAll_68 (look7) (by omega) (by omega) ?_
      refine aw_istore D_ri_joinAll_69 (Nat.le_of_ble_eq_true rfl) rfl ?_
      refine aw_iload D_ri_joinAll_71 rfl ?_
      refine aw_iload D_ri_joinAll_73 rfl ?_
      refine aw_icmp_eqN D_ri_joinAll_75 (by omega) (by omega) (fun h2 => ?_) (fun h2 => ?_)
      · first | refine aw_incN D_ri_joinAll_95 rfl (Nat.le_of_ble_eq_true rfl) rfl ?_ | refine aw_inc D_ri_joinAll_95 rfl (Nat.le_of_ble_eq_true rfl) rfl ?_
        refine aw_goto D_ri_joinAll_98 ?_
        refine aw_take 5 ?_
        exact ih (t + 1) q ch' (by omega) (by rw [hs]; unfold jst; rw [if_pos h2]) hch hg hb' (by omega)
      · refine aw_aload_n 1 D_ri_joinAll_78 rfl rfl ?_
        refine aw_iload D_ri_joinAll_79 rfl ?_
        refine aw_callVv (As := [_]) D_ri_joinAll_81 kv_rg_turnPair (c_rg_turn (t := t) (by omega) hb') rfl rfl rfl rfl rfl (Nat.le_of_ble_eq_true rfl) (by omega) (by omega) ?_
        refine aw_aload_n 2 D_ri_joinAll_84 rfl rfl ?_
        refine aw_iload D_ri_joinAll_85 rfl ?_
        refine aw_iload D_ri_joinAll_87 rfl ?_
        refine aw_callSv (As := [_, _, _]) D_ri_joinAll_89 kv_ri_regroup (c_ri_regroup (N := c) (a := q.1 ((o (2 * t + 1)).getD 0)) (x := q.1 ((o (2 * t)).getD 0)) (g := q.1) (by omega) (by omega) (fun r hr => by have := hg r hr; omega) look7) rfl rfl (Nat.le_of_ble_eq_true rfl) (by omega) (by omega) ?_
        rw [updw7]
        first | refine aw_incN D_ri_joinAll_92 rfl (Nat.le_of_ble_eq_true rfl) rfl ?_ | refine aw_inc D_ri_joinAll_92 rfl (Nat.le_of_ble_eq_true rfl) rfl ?_
        first | refine aw_incN D_ri_joinAll_95 rfl (Nat.le_of_ble_eq_true rfl) rfl ?_ | refine aw_inc D_ri_joinAll_95 rfl (Nat.le_of_ble_eq_true rfl) rfl ?_
        refine aw_goto D_ri_joinAll_98 ?_
        refine aw_take 5 ?_
        have e : jst (fun s => (o s).getD 0) c q t = (rgp q.1 (q.1 ((o (2 * t + 1)).getD 0)) (q.1 ((o (2 * t)).getD 0)) c, turnB q.2.1 t, q.2.2 + 1) := by unfold jst; rw [if_neg h2]
        have := ih (t + 1) (rgp q.1 (q.1 ((o (2 * t + 1)).getD 0)) (q.1 ((o (2 * t)).getD 0)) c, turnB q.2.1 t, q.2.2 + 1) 1 (by omega) (by rw [hs, e]) (Or.inl rfl) (fun r hr => ?_) (turnB_le hb' t) (by show q.2.2 + 1 ≤ t + 1; omega)
        · exact this
        · show (if r < c ∧ q.1 r = _ then q.1 _ else q.1 r) < c
          split
          · exact g1
          · exact hg r hr
  have fil : ∀ (m i : Nat) (g : Nat → Nat), i + m = c → (∀ r, r < i → g r = r) → AW M_ri_joinAll noP (Zp Post) 1 512 9 [(0, .ref 2), (1, .ref 1), (2, .ref (16 * dy.length + 7)), (3, .int (nI i))] [] [mn, RG n (2 ^ n) 0 b bn, RI c pd st fa o be pc le sz wt qu, tr, sh, rr, mo, dy ++ [.inl (0, c, .inl (nF g))]] 1 c := by
    intro m
    induction m with
    | zero =>
      intro i g hi hg
      refine aw_iload_n 3 D_ri_joinAll_9 rfl rfl ?_
      refine aw_aload_n 0 D_ri_joinAll_10 rfl rfl ?_
      refine aw_get D_ri_joinAll_11 rfl rfl ?_
      refine aw_icmp_geN D_ri_joinAll_14 (by omega) (by omega) (fun h => ?_) (fun h => absurd h (by omega))
      refine aw_row (q := 16 * dy.length + 7) (g := nF id) look7 (fun j hj => congrArg nI (hg j (by omega))) ?_
      rw [updw7]
      refine aw_iconst (nI 0) D_ri_joinAll_27 rfl ?_
      refine aw_istore_n 3 D_ri_joinAll_28 rfl (Nat.le_of_ble_eq_true rfl) rfl ?_
      refine aw_iconst (nI 0) D_ri_joinAll_29 rfl ?_
      refine aw_istore D_ri_joinAll_30 (Nat.le_of_ble_eq_true rfl) rfl ?_
      exact loop2 (2 ^ n / 2) 0 (id, b, 0) 0 (by omega) rfl (Or.inr ⟨rfl, rfl⟩) (fun r hr => hr) hb (Nat.le_refl _)
    | succ m ih =>
      intro i g hi hg
      refine aw_iload_n 3 D_ri_joinAll_9 rfl rfl ?_
      refine aw_aload_n 0 D_ri_joinAll_10 rfl rfl ?_
      refine aw_get D_ri_joinAll_11 rfl rfl ?_
      refine aw_icmp_geN D_ri_joinAll_14 (by omega) (by omega) (fun h => absurd h (by omega)) (fun h => ?_)
      refine aw_aload_n 2 D_ri_joinAll_17 rfl rfl ?_
      refine aw_iload_n 3 D_ri_joinAll_18 rfl rfl ?_
      refine aw_iload_n 3 D_ri_joinAll_19 rfl rfl ?_
      refine aw_iastN D_ri_joinAll_20 (look7) (by omega) (by omega) ?_
      rw [updw7]
      first | refine aw_incN D_ri_joinAll_21 rfl (Nat.le_of_ble_eq_true rfl) rfl ?_ | refine aw_inc D_ri_joinAll_21 rfl (Nat.le_of_ble_eq_true rfl) rfl ?_
      refine aw_goto D_ri_joinAll_24 ?_
      refine ih (i + 1) _ (by omega) (fun r hr => ?_)
      by_cases e : r = i
      · rw [e, vu_at]
      · rw [vu_ne e]; exact hg r (by omega)
  refine aw_aload_n 0 D_ri_joinAll_0 rfl rfl ?_
  refine aw_get D_ri_joinAll_1 rfl rfl ?_
  refine aw_newI 7 c D_ri_joinAll_4 rfl (by omega) ⟨by decide, by decide, by show 7 < 8; decide⟩ (by decide) (by omega) ?_
  show AW M_ri_joinAll noP (Zp Post) 1 512 6 [(0, .ref 2), (1, .ref 1)] [.ref (16 * dy.length + 7)] [mn, RG n (2 ^ n) 0 b bn, RI c pd st fa o be pc le sz wt qu, tr, sh, rr, mo, dy ++ [.inl (0, c, .inl (nF (fun _ => 0)))]] (0 + 1) (0 + c)
  rw [Nat.zero_add, Nat.zero_add]
  refine aw_astore_n 2 D_ri_joinAll_6 rfl (Nat.le_of_ble_eq_true rfl) rfl ?_
  refine aw_iconst (nI 0) D_ri_joinAll_7 rfl ?_
  refine aw_istore_n 3 D_ri_joinAll_8 rfl (Nat.le_of_ble_eq_true rfl) rfl ?_
  exact fil c 0 (fun _ => 0) (by omega) (fun r hr => absurd hr (by omega))
end Join
