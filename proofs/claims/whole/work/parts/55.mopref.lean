/-! ### the reference: prefer -/
section MoPref
variable {a0 a1 a2 a3 a4 a5 a7 m : List va_E} {fl tc : Int32} {n : Nat} {b : Nat → Nat} {la : Nat → Int32} {zs : Nat → Nat} {cs : Nat → Nat → Int64}
theorem c_mo_prefO {x : Int32} (hx : ¬ vp_in x 2) (h : MS n b tc fl la zs cs m) : AMet M_mo_prefer [.ref 6, .int x] [a0, a1, a2, a3, a4, a5, m, a7] (fun (r' : Option Value) (w' : Wd) => r' = some (.int (-nI 2)) ∧ ∃ m', w' = [a0, a1, a2, a3, a4, a5, m', a7] ∧ MS n b tc fl la zs cs m') 0 0 := by
  obtain ⟨fd, R, le, sz, o, be, pc, wt, qu, lm, sl, ce, tb, mt, ru, bf, kp, rfl, hn, hn9, hb, hfd, hL, hT⟩ := h
  refine AMet.of [(0, .ref 6), (1, .int x)] (by decide +kernel) rfl (Nat.le_of_ble_eq_true rfl) ?_
  refine aw_iload_n 1 D_mo_prefer_0 rfl rfl ?_
  first | with_reducible refine aw_i2lN D_mo_prefer_1 (by omega) ?_ | refine aw_i2l D_mo_prefer_1 ?_
  refine aw_lconst (lN 0) D_mo_prefer_2 rfl ?_
  refine aw_lconst (lN 1) D_mo_prefer_3 rfl ?_
  refine aw_callS1 (As := [_, _, _]) D_mo_prefer_4 kv_mo_within (c_mo_withinF (vp_F (N := 1) (by decide) hx) (by decide) (by decide)) rfl rfl (Nat.le_of_ble_eq_true rfl) (Nat.zero_le _) (Nat.zero_le _) ?_
  refine aw_if_neN D_mo_prefer_7 (by decide) (fun h => absurd h (by decide)) (fun h => ?_)
  refine aw_bipush (-nI 2) D_mo_prefer_10 rfl ?_
  refine aw_ireturn D_mo_prefer_12 rfl rfl ?_
  exact ⟨rfl, _, rfl, fd, R, le, sz, o, be, pc, wt, qu, lm, sl, ce, tb, mt, ru, bf, kp, rfl, hn, hn9, hb, hfd, hL, hT⟩
theorem c_mo_prefT {p : Nat} (hp : p ≤ 1) (h : MS n b tc fl la zs cs m) : AMet M_mo_prefer [.ref 6, .int (nI p)] [a0, a1, a2, a3, a4, a5, m, a7] (fun (r' : Option Value) (w' : Wd) => r' = some (.int (nI (fb_sm (pfr n p (pf0 (2 ^ n) p b) (2 ^ n)).2.2 (2 ^ n)))) ∧ ∃ m', w' = [a0, a1, a2, a3, a4, a5, m', a7] ∧ MS n ((pfr n p (pf0 (2 ^ n) p b) (2 ^ n)).2.2) tc fl la zs cs m') 0 0 := by
  obtain ⟨fd, R, le, sz, o, be, pc, wt, qu, lm, sl, ce, tb, mt, ru, bf, kp, rfl, hn, hn9, hb, hfd, hL, hT⟩ := h
  have hp9 := pow_le9 hn9
  have hh := pow_half (n := n) (by omega)
  have hP := Nat.two_pow_pos (n - 1)
  have hb2 : ∀ k, (pfr n p (pf0 (2 ^ n) p b) (2 ^ n)).2.2 k ≤ 1 := pfr_le hp hb (2 ^ n)
  have hld : ∀ s x, s / 2 + x * (2 ^ n / 2) = ld n s x := fun s x => by unfold ld; rw [show 2 ^ n / 2 = 2 ^ (n - 1) by omega]
  have hchk : pck n p (2 ^ n - 1) (if p = 1 then 0 else 2 ^ n - 1) 0 = true := by
    rcases (show p = 0 ∨ p = 1 by omega) with rfl | rfl
    · exact (pck_ok n (by omega) hn).2
    · exact (pck_ok n (by omega) hn).1
  refine AMet.of [(0, .ref 6), (1, .int (nI p))] (by decide +kernel) rfl (Nat.le_of_ble_eq_true rfl) ?_
  generalize hB : (pfr n p (pf0 (2 ^ n) p b) (2 ^ n)).2.2 = B at hb2
  generalize hZ : (fun (r' : Option Value) (w' : Wd) => r' = some (.int (nI (fb_sm B (2 ^ n)))) ∧ ∃ m', w' = [a0, a1, a2, a3, a4, a5, m', a7] ∧ MS n B tc fl la zs cs m') = ZZ
  generalize hF : (if p = 1 then 0 else 2 ^ n - 1) = F at hchk
  have hF2 : F < 2 ^ n := by rw [← hF]; split <;> omega
  have hFd : F / (2 ^ n / 2) = 1 - p := by
    rw [← hF]
    rcases (show p = 0 ∨ p = 1 by omega) with rfl | rfl
    · rw [if_neg (by decide), show 2 ^ n / 2 = 2 ^ (n - 1) by omega, show 2 ^ n - 1 = 2 ^ (n - 1) * 1 + (2 ^ (n - 1) - 1) by omega, Nat.mul_add_div hP, Nat.div_eq_of_lt (by omega)]
    · rw [if_pos rfl, Nat.zero_div]
  have key : ∀ (k h msk : Nat) (bn mt b : Nat → Nat) (L5 : List (Nat × Value)), pck n p k h msk = true → h < 2 ^ n → (∀ j, j < 2 ^ n → bn j = if msk.testBit j then 1 else 0) → (∀ j, j < 2 ^ n → mt j = if (msk ||| 2 ^ h).testBit j then 1 else 0) → (pfr n p (h, bn, b) (k + 1)).2.2 = B → (L5 = [] ∨ ∃ x y, L5 = [(6, Value.int x), (7, Value.int y)]) →
      AW M_mo_prefer noP (Zp ZZ) 0 0 65 ([(0, .ref 6), (1, .int (nI p)), (2, .int (nI (2 ^ n))), (3, .int (nI F)), (4, .int (nI h)), (5, .int (nI 1))] ++ L5) [] [a0, a1, a2, a3, a4, a5, MO fl tc n fd R b le sz o be pc wt qu lm sl ce tb mt ru bf kp, a7] 0 0 := by
    intro k
    induction k with
    | zero =>
      intro h msk bn mt b L5 hc hh2 hbn hmt hfin hL5
      have hl1 := ld_lt (n := n) (s := h) (x := p) (by omega) hh2 hp
      have hl2 := ld_lt (n := n) (s := h) (x := 1 - p) (by omega) hh2 (by omega)
      unfold pck at hc
      rw [Bool.and_eq_true] at hc
      have m1 : mt (ld n h p) = 1 := by rw [hmt _ hl1, hc.1]; rfl
      have m2 : mt (ld n h (1 - p)) = 1 := by rw [hmt _ hl2, hc.2]; rfl
      have hv : va_up bn h 1 (ld n h p) = 1 := by
        have q := hc.1
        rw [bit_or, Bool.or_eq_true] at q
        unfold va_up
        by_cases e : ld n h p = h
        · rw [if_pos e]
        · rw [if_neg e, hbn _ hl1]
          rcases q with q | q
          · rw [if_pos q]
          · exact absurd (of_decide_eq_true q).symm e
      have hB2 : va_up b h (1 - p) = B := by
        rw [← hfin]
        show _ = va_up b h (if va_up bn h 1 (ld n h p) = 1 then 1 - p else p)
        rw [if_pos hv]
      have hrest : AW M_mo_prefer noP (Zp ZZ) 0 0 65 [(0, .ref 6), (1, .int (nI p)), (2, .int (nI (2 ^ n))), (3, .int (nI F)), (4, .int (nI h)), (5, .int (nI 1))] [] [a0, a1, a2, a3, a4, a5, MO fl tc n fd R b le sz o be pc wt qu lm sl ce tb mt ru bf kp, a7] 0 0 := by
        refine aw_iload D_mo_prefer_65 rfl ?_
        refine aw_if_eqN D_mo_prefer_67 (by decide) (fun h => absurd h (by decide)) (fun _ => ?_)
        refine aw_iload D_mo_prefer_70 rfl ?_
        refine aw_iconst (nI 2) D_mo_prefer_72 rfl ?_
        first | with_reducible refine aw_idivN D_mo_prefer_73 (by omega) (by omega) (by omega) ?_ | refine aw_idiv D_mo_prefer_73 (by decide) ?_
        refine aw_istore D_mo_prefer_74 (Nat.le_of_ble_eq_true rfl) rfl ?_
        refine aw_iload_n 1 D_mo_prefer_76 rfl rfl ?_
        refine aw_istore D_mo_prefer_77 (Nat.le_of_ble_eq_true rfl) rfl ?_
        refine aw_aload_n 0 D_mo_prefer_79 rfl rfl ?_
        refine aw_get D_mo_prefer_80 rfl rfl ?_
        refine aw_iload D_mo_prefer_83 rfl ?_
        refine aw_iload D_mo_prefer_85 rfl ?_
        refine aw_iload_n 2 D_mo_prefer_87 rfl rfl ?_
        refine aw_iconst (nI 2) D_mo_prefer_88 rfl ?_
        first | with_reducible refine aw_idivN D_mo_prefer_89 (by omega) (by omega) (by omega) ?_ | refine aw_idiv D_mo_prefer_89 (by decide) ?_
        first | with_reducible refine aw_imulN D_mo_prefer_90 ?_ | refine aw_imul D_mo_prefer_90 ?_
        first | with_reducible refine aw_iaddN D_mo_prefer_91 ?_ | refine aw_iadd D_mo_prefer_91 ?_
        rw [hld]
        refine aw_zaldN D_mo_prefer_92 rfl (by omega) (by omega) ?_
        rw [show nF mt (ld n h p) = nI 1 from congrArg nI m1]
        refine aw_if_eqN D_mo_prefer_93 (by decide) (fun h => absurd h (by decide)) (fun _ => ?_)
        refine aw_iconst (nI 1) D_mo_prefer_96 rfl ?_
        refine aw_iload_n 1 D_mo_prefer_97 rfl rfl ?_
        first | with_reducible refine aw_isubN D_mo_prefer_98 (by omega) ?_ | refine aw_isub D_mo_prefer_98 ?_
        refine aw_istore D_mo_prefer_99 (Nat.le_of_ble_eq_true rfl) rfl ?_
        refine aw_aload_n 0 D_mo_prefer_101 rfl rfl ?_
        refine aw_get D_mo_prefer_102 rfl rfl ?_
        refine aw_iload D_mo_prefer_105 rfl ?_
        refine aw_iload D_mo_prefer_107 rfl ?_
        refine aw_iload_n 2 D_mo_prefer_109 rfl rfl ?_
        refine aw_iconst (nI 2) D_mo_prefer_110 rfl ?_
        first | with_reducible refine aw_idivN D_mo_prefer_111 (by omega) (by omega) (by omega) ?_ | refine aw_idiv D_mo_prefer_111 (by decide) ?_
        first | with_reducible refine aw_imulN D_mo_prefer_112 ?_ | refine aw_imul D_mo_prefer_112 ?_
        first | with_reducible refine aw_iaddN D_mo_prefer_113 ?_ | refine aw_iadd D_mo_prefer_113 ?_
        rw [hld]
        refine aw_zaldN D_mo_prefer_114 rfl (by omega) (by omega) ?_
        rw [show nF mt (ld n h (1 - p)) = nI 1 from congrArg nI m2]
        refine aw_if_neN D_mo_prefer_115 (by decide) (fun _ => ?_) (fun h => absurd h (by decide))
        refine aw_iconst (nI 0) D_mo_prefer_122 rfl ?_
        refine aw_istore D_mo_prefer_123 (Nat.le_of_ble_eq_true rfl) rfl ?_
        refine aw_iload D_mo_prefer_125 rfl ?_
        refine aw_if_eqN D_mo_prefer_127 (by decide) (fun _ => ?_) (fun h => absurd h (by decide))
        refine aw_goto D_mo_prefer_158 ?_
        refine aw_iload D_mo_prefer_65 rfl ?_
        refine aw_if_eqN D_mo_prefer_67 (by decide) (fun _ => ?_) (fun h => absurd h (by decide))
        refine aw_aload_n 0 D_mo_prefer_161 rfl rfl ?_
        refine aw_get D_mo_prefer_162 rfl rfl ?_
        refine aw_iload D_mo_prefer_165 rfl ?_
        refine aw_iload_n 3 D_mo_prefer_167 rfl rfl ?_
        refine aw_iload_n 2 D_mo_prefer_168 rfl rfl ?_
        refine aw_iconst (nI 2) D_mo_prefer_169 rfl ?_
        first | with_reducible refine aw_idivN D_mo_prefer_170 (by omega) (by omega) (by omega) ?_ | refine aw_idiv D_mo_prefer_170 (by decide) ?_
        first | with_reducible refine aw_idivN D_mo_prefer_171 (by omega) (by omega) (by omega) ?_ | refine aw_idiv D_mo_prefer_171 (by decide) ?_
        rw [hFd]
        refine aw_iastN D_mo_prefer_172 rfl (by omega) (by omega) ?_
        refine aw_aload_n 0 D_mo_prefer_173 rfl rfl ?_
        refine aw_iconst (nI 0) D_mo_prefer_174 rfl ?_
        refine aw_put tc_mo D_mo_prefer_175 rfl (Nat.le_of_ble_eq_true rfl) rfl rfl ?_
        refine aw_aload_n 0 D_mo_prefer_178 rfl rfl ?_
        rw [hB2]
        refine aw_callV1 (As := []) D_mo_prefer_179 kv_mo_ones (c_mo_ones hn9 hb2) rfl rfl rfl rfl rfl (Nat.le_of_ble_eq_true rfl) (Nat.zero_le _) (Nat.zero_le _) ?_
        refine aw_ireturn D_mo_prefer_182 rfl rfl ?_
        subst hZ; exact ⟨rfl, _, rfl, 0, R, le, sz, o, be, pc, wt, qu, lm, sl, ce, tb, mt, ru, bf, kp, rfl, hn, hn9, hb2, (Or.inl rfl), hL, hT⟩
      rcases hL5 with rfl | ⟨x, y, rfl⟩
      · exact hrest
      · exact aw_take 6 hrest
    | succ k ih =>
      intro h msk bn mt b L5 hc hh2 hbn hmt hfin hL5
      have hl1 := ld_lt (n := n) (s := h) (x := p) (by omega) hh2 hp
      have hl2 := ld_lt (n := n) (s := h) (x := 1 - p) (by omega) hh2 (by omega)
      have hbn2 : ∀ j, j < 2 ^ n → va_up bn h 1 j = if (msk ||| 2 ^ h).testBit j then 1 else 0 := by
        intro j hj
        rw [bit_or]
        unfold va_up
        by_cases e : j = h
        · rw [if_pos e, decide_eq_true e.symm, Bool.or_true]; rfl
        · rw [if_neg e, hbn j hj, show decide (h = j) = false from decide_eq_false (fun z => e z.symm), Bool.or_false]
      have up2 : ∀ h1, ∀ j, j < 2 ^ n → va_up mt h1 1 j = if (msk ||| 2 ^ h ||| 2 ^ h1).testBit j then 1 else 0 := by
        intro h1 j hj
        rw [bit_or]
        unfold va_up
        by_cases e : j = h1
        · rw [if_pos e, decide_eq_true e.symm, Bool.or_true]; rfl
        · rw [if_neg e, hmt j hj, show decide (h1 = j) = false from decide_eq_false (fun z => e z.symm), Bool.or_false]
      unfold pck at hc
      rw [pfr_front] at hfin
      have hrest : AW M_mo_prefer noP (Zp ZZ) 0 0 65 [(0, .ref 6), (1, .int (nI p)), (2, .int (nI (2 ^ n))), (3, .int (nI F)), (4, .int (nI h)), (5, .int (nI 1))] [] [a0, a1, a2, a3, a4, a5, MO fl tc n fd R b le sz o be pc wt qu lm sl ce tb mt ru bf kp, a7] 0 0 := by
        refine aw_iload D_mo_prefer_65 rfl ?_
        refine aw_if_eqN D_mo_prefer_67 (by decide) (fun h => absurd h (by decide)) (fun _ => ?_)
        refine aw_iload D_mo_prefer_70 rfl ?_
        refine aw_iconst (nI 2) D_mo_prefer_72 rfl ?_
        first | with_reducible refine aw_idivN D_mo_prefer_73 (by omega) (by omega) (by omega) ?_ | refine aw_idiv D_mo_prefer_73 (by decide) ?_
        refine aw_istore D_mo_prefer_74 (Nat.le_of_ble_eq_true rfl) rfl ?_
        refine aw_iload_n 1 D_mo_prefer_76 rfl rfl ?_
        refine aw_istore D_mo_prefer_77 (Nat.le_of_ble_eq_true rfl) rfl ?_
        refine aw_aload_n 0 D_mo_prefer_79 rfl rfl ?_
        refine aw_get D_mo_prefer_80 rfl rfl ?_
        refine aw_iload D_mo_prefer_83 rfl ?_
        refine aw_iload D_mo_prefer_85 rfl ?_
        refine aw_iload_n 2 D_mo_prefer_87 rfl rfl ?_
        refine aw_iconst (nI 2) D_mo_prefer_88 rfl ?_
        first | with_reducible refine aw_idivN D_mo_prefer_89 (by omega) (by omega) (by omega) ?_ | refine aw_idiv D_mo_prefer_89 (by decide) ?_
        first | with_reducible refine aw_imulN D_mo_prefer_90 ?_ | refine aw_imul D_mo_prefer_90 ?_
        first | with_reducible refine aw_iaddN D_mo_prefer_91 ?_ | refine aw_iadd D_mo_prefer_91 ?_
        rw [hld]
        refine aw_zaldN D_mo_prefer_92 rfl (by omega) (by omega) ?_
        cases ht : (msk ||| 2 ^ h).testBit (ld n h p) with
        | true =>
          rw [ht, cond_true, Bool.and_eq_true] at hc
          have m1 : mt (ld n h p) = 1 := by rw [hmt _ hl1, ht]; rfl
          have hne : (msk ||| 2 ^ h).testBit (ld n h (1 - p)) = false := by have := hc.1; simpa using this
          have m2 : mt (ld n h (1 - p)) = 0 := by rw [hmt _ hl2, hne]; rfl
          have hps : pst n p (h, bn, b) = (ld n h (1 - p), va_up bn h 1, va_up b h (1 - p)) := by
            unfold pst
            dsimp only
            rw [if_pos (show va_up bn h 1 (ld n h p) = 1 by rw [hbn2 _ hl1, ht]; rfl)]
          rw [hps] at hfin
          rw [show nF mt (ld n h p) = nI 1 from congrArg nI m1]
          refine aw_if_eqN D_mo_prefer_93 (by decide) (fun h => absurd h (by decide)) (fun _ => ?_)
          refine aw_iconst (nI 1) D_mo_prefer_96 rfl ?_
          refine aw_iload_n 1 D_mo_prefer_97 rfl rfl ?_
          first | with_reducible refine aw_isubN D_mo_prefer_98 (by omega) ?_ | refine aw_isub D_mo_prefer_98 ?_
          refine aw_istore D_mo_prefer_99 (Nat.le_of_ble_eq_true rfl) rfl ?_
          refine aw_aload_n 0 D_mo_prefer_101 rfl rfl ?_
          refine aw_get D_mo_prefer_102 rfl rfl ?_
          refine aw_iload D_mo_prefer_105 rfl ?_
          refine aw_iload D_mo_prefer_107 rfl ?_
          refine aw_iload_n 2 D_mo_prefer_109 rfl rfl ?_
          refine aw_iconst (nI 2) D_mo_prefer_110 rfl ?_
          first | with_reducible refine aw_idivN D_mo_prefer_111 (by omega) (by omega) (by omega) ?_ | refine aw_idiv D_mo_prefer_111 (by decide) ?_
          first | with_reducible refine aw_imulN D_mo_prefer_112 ?_ | refine aw_imul D_mo_prefer_112 ?_
          first | with_reducible refine aw_iaddN D_mo_prefer_113 ?_ | refine aw_iadd D_mo_prefer_113 ?_
          rw [hld]
          refine aw_zaldN D_mo_prefer_114 rfl (by omega) (by omega) ?_
          rw [show nF mt (ld n h (1 - p)) = nI 0 from congrArg nI m2]
          refine aw_if_neN D_mo_prefer_115 (by decide) (fun h => absurd h (by decide)) (fun _ => ?_)
          refine aw_iconst (nI 1) D_mo_prefer_118 rfl ?_
          refine aw_goto D_mo_prefer_119 ?_
          refine aw_istore D_mo_prefer_123 (Nat.le_of_ble_eq_true rfl) rfl ?_
          refine aw_iload D_mo_prefer_125 rfl ?_
          refine aw_if_eqN D_mo_prefer_127 (by decide) (fun h => absurd h (by decide)) (fun _ => ?_)
          refine aw_aload_n 0 D_mo_prefer_130 rfl rfl ?_
          refine aw_get D_mo_prefer_131 rfl rfl ?_
          refine aw_iload D_mo_prefer_134 rfl ?_
          refine aw_iload D_mo_prefer_136 rfl ?_
          refine aw_iastN D_mo_prefer_138 rfl (by omega) (by omega) ?_
          refine aw_iload D_mo_prefer_139 rfl ?_
          refine aw_iload D_mo_prefer_141 rfl ?_
          refine aw_iload_n 2 D_mo_prefer_143 rfl rfl ?_
          refine aw_iconst (nI 2) D_mo_prefer_144 rfl ?_
          first | with_reducible refine aw_idivN D_mo_prefer_145 (by omega) (by omega) (by omega) ?_ | refine aw_idiv D_mo_prefer_145 (by decide) ?_
          first | with_reducible refine aw_imulN D_mo_prefer_146 ?_ | refine aw_imul D_mo_prefer_146 ?_
          first | with_reducible refine aw_iaddN D_mo_prefer_147 ?_ | refine aw_iadd D_mo_prefer_147 ?_
          rw [hld]
          refine aw_istore D_mo_prefer_148 (Nat.le_of_ble_eq_true rfl) rfl ?_
          refine aw_aload_n 0 D_mo_prefer_150 rfl rfl ?_
          refine aw_get D_mo_prefer_151 rfl rfl ?_
          refine aw_iload D_mo_prefer_154 rfl ?_
          refine aw_iconst (nI 1) D_mo_prefer_156 rfl ?_
          refine aw_zastN D_mo_prefer_157 rfl (by omega) (by omega) rfl ?_
          refine aw_goto D_mo_prefer_158 ?_
          exact ih _ _ _ _ _ [(6, .int (nI (h / 2))), (7, .int (nI (1 - p)))] hc.2 hl2 hbn2 (up2 _) hfin (Or.inr ⟨_, _, rfl⟩)
        | false =>
          rw [ht, cond_false] at hc
          have m1 : mt (ld n h p) = 0 := by rw [hmt _ hl1, ht]; rfl
          have hps : pst n p (h, bn, b) = (ld n h p, va_up bn h 1, va_up b h p) := by
            unfold pst
            dsimp only
            rw [if_neg (show ¬ va_up bn h 1 (ld n h p) = 1 by rw [hbn2 _ hl1, ht]; decide)]
          rw [hps] at hfin
          rw [show nF mt (ld n h p) = nI 0 from congrArg nI m1]
          refine aw_if_eqN D_mo_prefer_93 (by decide) (fun _ => ?_) (fun h => absurd h (by decide))
          refine aw_aload_n 0 D_mo_prefer_101 rfl rfl ?_
          refine aw_get D_mo_prefer_102 rfl rfl ?_
          refine aw_iload D_mo_prefer_105 rfl ?_
          refine aw_iload D_mo_prefer_107 rfl ?_
          refine aw_iload_n 2 D_mo_prefer_109 rfl rfl ?_
          refine aw_iconst (nI 2) D_mo_prefer_110 rfl ?_
          first | with_reducible refine aw_idivN D_mo_prefer_111 (by omega) (by omega) (by omega) ?_ | refine aw_idiv D_mo_prefer_111 (by decide) ?_
          first | with_reducible refine aw_imulN D_mo_prefer_112 ?_ | refine aw_imul D_mo_prefer_112 ?_
          first | with_reducible refine aw_iaddN D_mo_prefer_113 ?_ | refine aw_iadd D_mo_prefer_113 ?_
          rw [hld]
          refine aw_zaldN D_mo_prefer_114 rfl (by omega) (by omega) ?_
          rw [show nF mt (ld n h p) = nI 0 from congrArg nI m1]
          refine aw_if_neN D_mo_prefer_115 (by decide) (fun h => absurd h (by decide)) (fun _ => ?_)
          refine aw_iconst (nI 1) D_mo_prefer_118 rfl ?_
          refine aw_goto D_mo_prefer_119 ?_
          refine aw_istore D_mo_prefer_123 (Nat.le_of_ble_eq_true rfl) rfl ?_
          refine aw_iload D_mo_prefer_125 rfl ?_
          refine aw_if_eqN D_mo_prefer_127 (by decide) (fun h => absurd h (by decide)) (fun _ => ?_)
          refine aw_aload_n 0 D_mo_prefer_130 rfl rfl ?_
          refine aw_get D_mo_prefer_131 rfl rfl ?_
          refine aw_iload D_mo_prefer_134 rfl ?_
          refine aw_iload D_mo_prefer_136 rfl ?_
          refine aw_iastN D_mo_prefer_138 rfl (by omega) (by omega) ?_
          refine aw_iload D_mo_prefer_139 rfl ?_
          refine aw_iload D_mo_prefer_141 rfl ?_
          refine aw_iload_n 2 D_mo_prefer_143 rfl rfl ?_
          refine aw_iconst (nI 2) D_mo_prefer_144 rfl ?_
          first | with_reducible refine aw_idivN D_mo_prefer_145 (by omega) (by omega) (by omega) ?_ | refine aw_idiv D_mo_prefer_145 (by decide) ?_
          first | with_reducible refine aw_imulN D_mo_prefer_146 ?_ | refine aw_imul D_mo_prefer_146 ?_
          first | with_reducible refine aw_iaddN D_mo_prefer_147 ?_ | refine aw_iadd D_mo_prefer_147 ?_
          rw [hld]
          refine aw_istore D_mo_prefer_148 (Nat.le_of_ble_eq_true rfl) rfl ?_
          refine aw_aload_n 0 D_mo_prefer_150 rfl rfl ?_
          refine aw_get D_mo_prefer_151 rfl rfl ?_
          refine aw_iload D_mo_prefer_154 rfl ?_
          refine aw_iconst (nI 1) D_mo_prefer_156 rfl ?_
          refine aw_zastN D_mo_prefer_157 rfl (by omega) (by omega) rfl ?_
          refine aw_goto D_mo_prefer_158 ?_
          exact ih _ _ _ _ _ [(6, .int (nI (h / 2))), (7, .int (nI p))] hc hl1 hbn2 (up2 _) hfin (Or.inr ⟨_, _, rfl⟩)
      rcases hL5 with rfl | ⟨x, y, rfl⟩
      · exact hrest
      · exact aw_take 6 hrest
  have fill : ∀ (d i : Nat) (mt : Nat → Nat), i + d = 2 ^ n → (∀ j, j < i → mt j = 0) → AW M_mo_prefer noP (Zp ZZ) 0 0 20 [(0, .ref 6), (1, .int (nI p)), (2, .int (nI (2 ^ n))), (3, .int (nI i))] [] [a0, a1, a2, a3, a4, a5, MO fl tc n fd R b le sz o be pc wt qu lm sl ce tb mt ru bf kp, a7] 0 0 := by
    intro d
    induction d with
    | zero =>
      intro i mt hi hmt
      have hi : i = 2 ^ n := by omega
      subst hi
      have rest : ∀ x : Nat, x = F → AW M_mo_prefer noP (Zp ZZ) 0 0 50 [(0, .ref 6), (1, .int (nI p)), (2, .int (nI (2 ^ n))), (3, .int (nI (2 ^ n)))] [.int (nI x)] [a0, a1, a2, a3, a4, a5, MO fl tc n fd R b le sz o be pc wt qu lm sl ce tb mt ru bf kp, a7] 0 0 := by
        rintro x rfl
        refine aw_istore_n 3 D_mo_prefer_50 rfl (Nat.le_of_ble_eq_true rfl) rfl ?_
        refine aw_iload_n 3 D_mo_prefer_51 rfl rfl ?_
        refine aw_istore D_mo_prefer_52 (Nat.le_of_ble_eq_true rfl) rfl ?_
        refine aw_aload_n 0 D_mo_prefer_54 rfl rfl ?_
        refine aw_get D_mo_prefer_55 rfl rfl ?_
        refine aw_iload D_mo_prefer_58 rfl ?_
        refine aw_iconst (nI 1) D_mo_prefer_60 rfl ?_
        refine aw_zastN D_mo_prefer_61 rfl (by omega) (by omega) rfl ?_
        refine aw_iconst (nI 1) D_mo_prefer_62 rfl ?_
        refine aw_istore D_mo_prefer_63 (Nat.le_of_ble_eq_true rfl) rfl ?_
        refine key (2 ^ n - 1) x 0 (fun _ => 0) _ b [] hchk hF2 (fun j hj => by rw [Nat.zero_testBit]; rfl) (fun j hj => ?_) ?_ (Or.inl rfl)
        · rw [bit_or, Nat.zero_testBit, Bool.false_or]
          unfold va_up
          by_cases e : j = x
          · rw [if_pos e, if_pos (decide_eq_true e.symm)]
          · rw [if_neg e, hmt j hj, if_neg (fun z => e (of_decide_eq_true z).symm)]
        · rw [show 2 ^ n - 1 + 1 = 2 ^ n by omega, ← hB, ← hF]
          rfl
      refine aw_iload_n 3 D_mo_prefer_20 rfl rfl ?_
      refine aw_iload_n 2 D_mo_prefer_21 rfl rfl ?_
      refine aw_icmp_geN D_mo_prefer_22 (by omega) (by omega) (fun h => ?_) (fun h => absurd h (by omega))
      refine aw_iload_n 1 D_mo_prefer_38 rfl rfl ?_
      refine aw_iconst (nI 1) D_mo_prefer_39 rfl ?_
      refine aw_icmp_neN D_mo_prefer_40 (by omega) (by decide) (fun h => ?_) (fun h => ?_)
      · refine aw_iload_n 2 D_mo_prefer_47 rfl rfl ?_
        refine aw_iconst (nI 1) D_mo_prefer_48 rfl ?_
        first | with_reducible refine aw_isubN D_mo_prefer_49 (by omega) ?_ | refine aw_isub D_mo_prefer_49 ?_
        exact rest _ (by rw [← hF, if_neg h])
      · refine aw_iconst (nI 0) D_mo_prefer_43 rfl ?_
        refine aw_goto D_mo_prefer_44 ?_
        exact rest _ (by rw [← hF, if_pos h])
    | succ d ih =>
      intro i mt hi hmt
      refine aw_iload_n 3 D_mo_prefer_20 rfl rfl ?_
      refine aw_iload_n 2 D_mo_prefer_21 rfl rfl ?_
      refine aw_icmp_geN D_mo_prefer_22 (by omega) (by omega) (fun h => absurd h (by omega)) (fun h => ?_)
      refine aw_aload_n 0 D_mo_prefer_25 rfl rfl ?_
      refine aw_get D_mo_prefer_26 rfl rfl ?_
      refine aw_iload_n 3 D_mo_prefer_29 rfl rfl ?_
      refine aw_iconst (nI 0) D_mo_prefer_30 rfl ?_
      refine aw_zastN D_mo_prefer_31 rfl (by omega) (by omega) rfl ?_
      first | refine aw_incN D_mo_prefer_32 rfl (Nat.le_of_ble_eq_true rfl) rfl ?_ | refine aw_inc D_mo_prefer_32 rfl (Nat.le_of_ble_eq_true rfl) rfl ?_
      refine aw_goto D_mo_prefer_35 ?_
      refine ih (i + 1) _ (by omega) (fun j hj => ?_)
      by_cases e : j = i
      · rw [e, vu_at]
      · rw [vu_ne e]; exact hmt j (by omega)
  refine aw_iload_n 1 D_mo_prefer_0 rfl rfl ?_
  first | with_reducible refine aw_i2lN D_mo_prefer_1 (by omega) ?_ | refine aw_i2l D_mo_prefer_1 ?_
  refine aw_lconst (lN 0) D_mo_prefer_2 rfl ?_
  refine aw_lconst (lN 1) D_mo_prefer_3 rfl ?_
  refine aw_callS1 (As := [_, _, _]) D_mo_prefer_4 kv_mo_within (c_mo_withinT (Nat.zero_le p) hp (by decide)) rfl rfl (Nat.le_of_ble_eq_true rfl) (Nat.zero_le _) (Nat.zero_le _) ?_
  refine aw_if_neN D_mo_prefer_7 (by decide) (fun h => ?_) (fun h => absurd h (by decide))
  refine aw_aload_n 0 D_mo_prefer_13 rfl rfl ?_
  refine aw_callV1 (As := []) D_mo_prefer_14 kv_mo_states (c_mo_states hn9) rfl rfl rfl rfl rfl (Nat.le_of_ble_eq_true rfl) (Nat.zero_le _) (Nat.zero_le _) ?_
  refine aw_istore_n 2 D_mo_prefer_17 rfl (Nat.le_of_ble_eq_true rfl) rfl ?_
  refine aw_iconst (nI 0) D_mo_prefer_18 rfl ?_
  refine aw_istore_n 3 D_mo_prefer_19 rfl (Nat.le_of_ble_eq_true rfl) rfl ?_
  exact fill (2 ^ n) 0 mt (by omega) (fun j hj => absurd hj (by omega))
end MoPref
