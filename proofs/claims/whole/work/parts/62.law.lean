/-! ### the law: its loop, and its start -/
section LawLoop
variable {L : Nat} {xs : Nat → Int32}
set_option maxRecDepth 100000 in
theorem law_loop (hL : L ≤ 3072) : ∀ (d k nc ns : Nat) (w : Wd), 6 * k + d = L → nc ≤ 100 + k → ns ≤ 30000 + 4096 * k → LI w → AW M_law_law (lawP L xs) lawZ 600000 7302250 18 [(0, .ref 8), (1, .ref 0), (2, .ref 6), (3, .int (nI (6 * k)))] [] w nc ns := by
  intro d
  have fin : ∀ (k nc ns : Nat) (w : Wd), AW M_law_law (lawP L xs) lawZ 600000 7302250 1182 [(0, .ref 8), (1, .ref 0), (2, .ref 6), (3, .int (nI (6 * k)))] [] w nc ns := by
    intro k nc ns w
    refine aw_iconst (nI 1) D_law_law_1182 rfl ?_
    refine aw_ireturn D_law_law_1183 rfl rfl ?_
    rfl
  induction d using Nat.strongRecOn with
  | ind d ih =>
    intro k nc ns w hd hc hs hI
    rcases Nat.lt_or_ge d 6 with h6 | h6
    · rcases Nat.lt_or_ge L 6 with hl | hl
      · have hk : k = 0 := by omega
        subst hk
        refine aw_iload_n 3 D_law_law_18 rfl rfl ?_
        refine aw_aload_n 0 D_law_law_19 rfl rfl ?_
        refine aw_slen D_law_law_20 ?_
        refine aw_bipush (nI 6) D_law_law_21 rfl ?_
        refine aw_isub D_law_law_23 ?_
        refine aw_icmp_gt D_law_law_24 (fun h => fin _ _ _ _) (fun h => absurd ?_ h)
        rcases (show L = 0 ∨ L = 1 ∨ L = 2 ∨ L = 3 ∨ L = 4 ∨ L = 5 by omega) with q | q | q | q | q | q <;> rw [q] <;> decide
      · refine aw_iload_n 3 D_law_law_18 rfl rfl ?_
        refine aw_aload_n 0 D_law_law_19 rfl rfl ?_
        refine aw_slen D_law_law_20 ?_
        refine aw_bipush (nI 6) D_law_law_21 rfl ?_
        first | with_reducible refine aw_isubN D_law_law_23 (by omega) ?_ | refine aw_isub D_law_law_23 ?_
        refine aw_icmp_gtN D_law_law_24 (by omega) (by omega) (fun h => fin _ _ _ _) (fun h => absurd h (by omega))
    · have hg : Go L xs (6 * k) nc ns := by
        intro w' nc' ns' hI' hc' hs'
        refine aw_inc6N D_law_law_1176 rfl (Nat.le_of_ble_eq_true rfl) rfl ?_
        refine aw_goto D_law_law_1179 ?_
        have := ih (d - 6) (by omega) (k + 1) nc' ns' w' (by omega) (by omega) (by omega) hI'
        rw [show 6 * (k + 1) = 6 * k + 6 by omega] at this
        exact this
      have hi : 6 * k + 6 ≤ L := by omega
      have hc1 : nc + 1 ≤ 600000 := by omega
      have hs1 : ns + 4096 ≤ 7302250 := by omega
      obtain ⟨j, hj, hjx⟩ := and31 (xs (6 * k))
      refine aw_iload_n 3 D_law_law_18 rfl rfl ?_
      refine aw_aload_n 0 D_law_law_19 rfl rfl ?_
      refine aw_slen D_law_law_20 ?_
      refine aw_bipush (nI 6) D_law_law_21 rfl ?_
      first | with_reducible refine aw_isubN D_law_law_23 (by omega) ?_ | refine aw_isub D_law_law_23 ?_
      refine aw_icmp_gtN D_law_law_24 (by omega) (by omega) (fun h => absurd h (by omega)) (fun h => ?_)
      refine aw_aload_n 0 D_law_law_27 rfl rfl ?_
      refine aw_iload_n 3 D_law_law_28 rfl rfl ?_
      refine aw_sldN D_law_law_29 (by omega) (by omega) ?_
      refine aw_bipush (nI 31) D_law_law_30 rfl ?_
      first | with_reducible refine aw_iandN D_law_law_32 ?_ | refine aw_iand D_law_law_32 ?_
      rw [hjx]
      rcases (show j = 0 ∨ j = 1 ∨ j = 2 ∨ j = 3 ∨ j = 4 ∨ j = 5 ∨ j = 6 ∨ j = 7 ∨ j = 8 ∨ j = 9 ∨ j = 10 ∨ j = 11 ∨ j = 12 ∨ j = 13 ∨ j = 14 ∨ j = 15 ∨ j = 16 ∨ j = 17 ∨ j = 18 ∨ j = 19 ∨ j = 20 ∨ j = 21 ∨ j = 22 ∨ j = 23 ∨ j = 24 ∨ j = 25 ∨ j = 26 ∨ j = 27 ∨ j = 28 ∨ j = 29 ∨ j = 30 ∨ j = 31 by omega) with rfl | rfl | rfl | rfl | rfl | rfl | rfl | rfl | rfl | rfl | rfl | rfl | rfl | rfl | rfl | rfl | rfl | rfl | rfl | rfl | rfl | rfl | rfl | rfl | rfl | rfl | rfl | rfl | rfl | rfl | rfl | rfl
      · refine aw_tableIn (off := 139) (tgt := 172) D_law_law_33 (by decide) (by decide) (by decide) (by decide) ?_
        exact lc_length hi hL hI hc1 hs1 hg
      · refine aw_tableIn (off := 162) (tgt := 195) D_law_law_33 (by decide) (by decide) (by decide) (by decide) ?_
        exact lc_set hi hL hI hc1 hs1 hg
      · refine aw_tableIn (off := 195) (tgt := 228) D_law_law_33 (by decide) (by decide) (by decide) (by decide) ?_
        exact lc_linear hi hL hI hc1 hs1 hg
      · refine aw_tableIn (off := 228) (tgt := 261) D_law_law_33 (by decide) (by decide) (by decide) (by decide) ?_
        exact lc_take hi hL hI hc1 hs1 hg
      · refine aw_tableIn (off := 291) (tgt := 324) D_law_law_33 (by decide) (by decide) (by decide) (by decide) ?_
        exact lc_feedback hi hL hI hc1 hs1 hg
      · refine aw_tableIn (off := 314) (tgt := 347) D_law_law_33 (by decide) (by decide) (by decide) (by decide) ?_
        exact lc_step hi hL hI hc1 hs1 hg
      · refine aw_tableIn (off := 377) (tgt := 410) D_law_law_33 (by decide) (by decide) (by decide) (by decide) ?_
        exact lc_back hi hL hI hc1 hs1 hg
      · refine aw_tableIn (off := 410) (tgt := 443) D_law_law_33 (by decide) (by decide) (by decide) (by decide) ?_
        exact lc_about hi hL hI hc1 hs1 hg
      · refine aw_tableIn (off := 443) (tgt := 476) D_law_law_33 (by decide) (by decide) (by decide) (by decide) ?_
        exact lc_ring hi hL hI hc1 hs1 hg
      · refine aw_tableIn (off := 476) (tgt := 509) D_law_law_33 (by decide) (by decide) (by decide) (by decide) ?_
        exact lc_told hi hL hI hc1 hs1 hg
      · refine aw_tableIn (off := 499) (tgt := 532) D_law_law_33 (by decide) (by decide) (by decide) (by decide) ?_
        exact lc_turn hi hL hI hc1 hs1 hg
      · refine aw_tableIn (off := 522) (tgt := 555) D_law_law_33 (by decide) (by decide) (by decide) (by decide) ?_
        exact lc_join hi hL hI hc1 hs1 hg
      · refine aw_tableIn (off := 535) (tgt := 568) D_law_law_33 (by decide) (by decide) (by decide) (by decide) ?_
        exact lc_ways hi hL hI hc1 hs1 hg
      · refine aw_tableIn (off := 548) (tgt := 581) D_law_law_33 (by decide) (by decide) (by decide) (by decide) ?_
        exact lc_prefer hi hL hI hc1 hs1 hg
      · refine aw_tableIn (off := 571) (tgt := 604) D_law_law_33 (by decide) (by decide) (by decide) (by decide) ?_
        exact lc_sheet hi hL hI hc1 hs1 hg
      · refine aw_tableIn (off := 614) (tgt := 647) D_law_law_33 (by decide) (by decide) (by decide) (by decide) ?_
        exact lc_lose hi hL hI hc1 hs1 hg
      · refine aw_tableIn (off := 637) (tgt := 670) D_law_law_33 (by decide) (by decide) (by decide) (by decide) ?_
        exact lc_put hi hL hI hc1 hs1 hg
      · refine aw_tableIn (off := 710) (tgt := 743) D_law_law_33 (by decide) (by decide) (by decide) (by decide) ?_
        exact lc_at hi hL hI hc1 hs1 hg
      · refine aw_tableIn (off := 754) (tgt := 787) D_law_law_33 (by decide) (by decide) (by decide) (by decide) ?_
        exact lc_out hi hL hI hc1 hs1 hg
      · refine aw_tableIn (off := 807) (tgt := 840) D_law_law_33 (by decide) (by decide) (by decide) (by decide) ?_
        exact lc_thin hi hL hI hc1 hs1 hg
      · refine aw_tableIn (off := 850) (tgt := 883) D_law_law_33 (by decide) (by decide) (by decide) (by decide) ?_
        exact lc_mix hi hL hI hc1 hs1 hg
      · refine aw_tableIn (off := 893) (tgt := 926) D_law_law_33 (by decide) (by decide) (by decide) (by decide) ?_
        exact lc_order hi hL hI hc1 hs1 hg
      · refine aw_tableIn (off := 926) (tgt := 959) D_law_law_33 (by decide) (by decide) (by decide) (by decide) ?_
        exact lc_greatest hi hL hI hc1 hs1 hg
      · refine aw_tableIn (off := 959) (tgt := 992) D_law_law_33 (by decide) (by decide) (by decide) (by decide) ?_
        exact lc_period hi hL hI hc1 hs1 hg
      · refine aw_tableIn (off := 982) (tgt := 1015) D_law_law_33 (by decide) (by decide) (by decide) (by decide) ?_
        exact lc_learn hi hL hI hc1 hs1 hg
      · refine aw_tableIn (off := 1005) (tgt := 1038) D_law_law_33 (by decide) (by decide) (by decide) (by decide) ?_
        exact lc_along hi hL hI hc1 hs1 hg
      · refine aw_tableIn (off := 1038) (tgt := 1071) D_law_law_33 (by decide) (by decide) (by decide) (by decide) ?_
        exact lc_tell hi hL hI hc1 hs1 hg
      · refine aw_tableIn (off := 1061) (tgt := 1094) D_law_law_33 (by decide) (by decide) (by decide) (by decide) ?_
        exact lc_weigh hi hL hI hc1 hs1 hg
      · refine aw_tableIn (off := 1084) (tgt := 1117) D_law_law_33 (by decide) (by decide) (by decide) (by decide) ?_
        exact lc_as hi hL hI hc1 hs1 hg
      · refine aw_tableIn (off := 1117) (tgt := 1150) D_law_law_33 (by decide) (by decide) (by decide) (by decide) ?_
        exact lc_trace hi hL hI hc1 hs1 hg
      · refine aw_tableIn (off := 1130) (tgt := 1163) D_law_law_33 (by decide) (by decide) (by decide) (by decide) ?_
        exact lc_fault hi hL hI hc1 hs1 hg
      · refine aw_tableOut (tgt := 1176) D_law_law_33 (by decide) (by decide) ?_
        exact hg w nc ns hI (by omega) (by omega)
theorem law_body (hL : L ≤ 3072) : AW M_law_law (lawP L xs) lawZ 600000 7302250 0 [(0, .ref 8)] [] [[], [], [], [], [], [], [], []] 0 0 := by
  refine aw_new 0 df_br tc_br D_law_law_0 nf_br no_br ⟨by decide, by decide, Nat.le_of_ble_eq_true rfl⟩ (by decide) (by decide) ?_
  dsimp only [df_rg, df_ri, df_rr, df_sh, df_tr, df_br, df_mo, updw, pushw, keyw, List.set_cons_zero, List.set_cons_succ, List.getD, List.getElem?_cons_zero, List.getElem?_cons_succ, Option.getD_some, Nat.reduceMod, Nat.reduceDiv, Nat.reduceMul, Nat.reduceAdd, List.length_cons, List.length_nil, List.cons_append, List.nil_append]
  refine aw_dup D_law_law_3 rfl ?_
  refine aw_callIv (As := []) D_law_law_4 kv_br_init (c_br_init (mo := [])) rfl rfl (Nat.le_of_ble_eq_true rfl) (by decide) (by decide) ?_
  refine aw_astore_n 1 D_law_law_7 rfl (Nat.le_of_ble_eq_true rfl) rfl ?_
  refine aw_new 6 df_mo tc_mo D_law_law_8 nf_mo no_mo ⟨by decide, by decide, Nat.le_of_ble_eq_true rfl⟩ (by decide) (by decide) ?_
  dsimp only [df_rg, df_ri, df_rr, df_sh, df_tr, df_br, df_mo, updw, pushw, keyw, List.set_cons_zero, List.set_cons_succ, List.getD, List.getElem?_cons_zero, List.getElem?_cons_succ, Option.getD_some, Nat.reduceMod, Nat.reduceDiv, Nat.reduceMul, Nat.reduceAdd, List.length_cons, List.length_nil, List.cons_append, List.nil_append]
  refine aw_dup D_law_law_11 rfl ?_
  refine aw_callI (As := []) D_law_law_12 kv_mo_init c_mo_init rfl rfl (Nat.le_of_ble_eq_true rfl) (by decide) (by decide) (fun r w' hp => ?_)
  obtain ⟨rfl, lm, hlm, rfl⟩ := hp
  refine aw_astore_n 2 D_law_law_15 rfl (Nat.le_of_ble_eq_true rfl) rfl ?_
  refine aw_iconst (nI 0) D_law_law_16 rfl ?_
  refine aw_istore_n 3 D_law_law_17 rfl (Nat.le_of_ble_eq_true rfl) rfl ?_
  refine law_loop hL L 0 _ _ _ (by omega) (by decide) (by decide) ?_
  refine ⟨3, fun _ => 0, 0, 0, fun _ => -nI 1, fun _ => 0, fun _ _ => 0, MO 0 0 3 0 0 (fun _ => 0) (fun _ => 0) (fun _ => 0) (fun _ => some 0) (fun _ => 0) (fun _ => 0) (fun _ => 0) (fun _ => 0) lm (fun _ => 0) (fun _ => 0) (fun _ => 0) (fun _ => 0) (fun _ => 0) (fun _ => 0) (fun _ => 0), ?_, ?_⟩
  · exact ⟨1, fun _ => 0, 0, 0, 0, 0, fun _ => some 0, fun _ => 0, fun _ => 0, fun _ => 0, fun _ => 0, fun _ => 0, fun _ => 0, 7, 0, 0, fun _ => 0, fun _ => 0, fun _ => 0, fun _ => 0, fun _ => 0, _, rfl, by decide, by decide, fun _ => Nat.zero_le 1, Or.inl rfl, ⟨rfl, 0, _, by decide, rfl⟩, fun _ => Nat.zero_le 600⟩
  · exact ⟨0, 0, fun _ => 0, fun _ => 0, fun _ => some 0, fun _ => 0, fun _ => 0, fun _ => 0, fun _ => 0, lm, fun _ => 0, fun _ => 0, fun _ => 0, fun _ => 0, fun _ => 0, fun _ => 0, fun _ => 0, rfl, by decide, by decide, fun _ => Nat.zero_le 1, Or.inl rfl, ⟨fun k hk => Or.inl ⟨rfl, hlm k hk⟩, fun _ => Nat.zero_le 600⟩, fun _ => by show 0 < 1000003; decide⟩
end LawLoop
