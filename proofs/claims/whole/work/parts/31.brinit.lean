/-! ### a new BitRings -/
theorem aw_rowQ {mi : MI} {Ψ : Pst} {Z : Zt} {MC MS pc : Nat} {L : List (Nat × Value)} {st : List Value} {w : Wd} {nc ns : Nat} {q t N : Nat} {f g : Nat → Option Nat} (hq : look w q = some (.inl (t, N, .inr (.inr (.inr (.inr f)))))) (h : ∀ j, j < N → f j = g j) (hok : ∀ i k, g i = some k → domw w k) (k : AW mi Ψ Z MC MS pc L st (updw w q (.inl (t, N, .inr (.inr (.inr (.inr g)))))) nc ns) : AW mi Ψ Z MC MS pc L st w nc ns := by
  intro l p e s m args below meth c Q D dA A w0 ad0 C R ad H locs ls hh
  obtain ⟨g1, g2, hP, hD, hS, hl, hwl, hws, g9, g10⟩ := hh
  have hmv : ∀ j, domw w j → domw (updw w q (.inl (t, N, .inr (.inr (.inr (.inr g)))))) j := fun j => domw_updw hq
  have a1 : H[ad q]? = some (vp_cell (dA t) (N, .inr (.inr (.inr (.inr (fun j => (f j).map ad)))))) := (hP q _ hq).1
  have hP' := hP.upd hD hq (e := .inl (t, N, .inr (.inr (.inr (.inr g))))) (H1 := H) (by
    show H[ad q]? = some (vp_cell (dA t) (N, .inr (.inr (.inr (.inr (fun j => (g j).map ad))))))
    rw [a1, vp_cell_q, vp_cell_q, arrV_congr (fun j hj => by rw [h j hj])]) hok (fun _ _ => rfl)
  exact k l p e s m args below meth c Q D dA A w0 ad0 C R ad H locs ls ⟨g1, g2.trans (AE.upd hq), hP', hD.upd hq, hS, hl, fun x hx => okv_mono hmv (hwl x hx), fun x hx => okv_mono hmv (hws x hx), g9, g10⟩
abbrev TR (kc W : Nat) : List va_E := [.inr (4, [.ref kc, .int (nI W)])]
theorem c_br_init {mo : List va_E} : AMet M_br_init [.ref 0] [[.inr (5, df_br)], [], [], [], [], [], mo, []] (Ex none [BR 0 0, RG 3 8 1 (fun _ => 0) (fun _ => 0), RI 0 0 0 0 (fun _ => some 0) (fun _ => 0) (fun _ => 0) (fun _ => 0) (fun _ => 0) (fun _ => 0) (fun _ => 0), TR 7 0, SH (fun _ => -nI 1) (fun _ => 0) (fun _ _ => 0), RR 0 (fun _ => 0) (fun _ => 0) (fun _ => 0) (fun _ => 0) (fun _ => 0), mo, [.inl (1, 0, .inr (.inl (lF (fun _ => 0))))]]) 28 8878 := by
  refine AMet.of [(0, .ref 0)] (by decide +kernel) rfl (Nat.le_of_ble_eq_true rfl) ?_
  refine aw_aload_n 0 D_br_init_0 rfl rfl ?_
  refine aw_obj D_br_init_1 ?_
  refine aw_aload_n 0 D_br_init_4 rfl rfl ?_
  refine aw_new 1 df_rg tc_rg D_br_init_5 nf_rg no_rg ⟨by decide, by decide, Nat.le_of_ble_eq_true rfl⟩ (by decide) (by decide) ?_
  dsimp only [df_rg, df_ri, df_rr, df_sh, df_tr, df_br, df_mo, updw, pushw, keyw, List.set_cons_zero, List.set_cons_succ, List.getD, List.getElem?_cons_zero, List.getElem?_cons_succ, Option.getD_some, Nat.reduceMod, Nat.reduceDiv, Nat.reduceMul, Nat.reduceAdd, List.length_cons, List.length_nil, List.cons_append, List.nil_append]
  refine aw_dup D_br_init_8 rfl ?_
  refine aw_callNv (As := []) D_br_init_9 kv_rg_init (c_rg_init) rfl rfl (Nat.le_of_ble_eq_true rfl) (by decide) (by decide) ?_
  refine aw_putF tc_br D_br_init_12 rfl rfl rfl (Nat.le_of_ble_eq_true rfl) rfl rfl ?_
  dsimp only [df_rg, df_ri, df_rr, df_sh, df_tr, df_br, df_mo, updw, pushw, keyw, List.set_cons_zero, List.set_cons_succ, List.getD, List.getElem?_cons_zero, List.getElem?_cons_succ, Option.getD_some, Nat.reduceMod, Nat.reduceDiv, Nat.reduceMul, Nat.reduceAdd, List.length_cons, List.length_nil, List.cons_append, List.nil_append]
  refine aw_aload_n 0 D_br_init_15 rfl rfl ?_
  refine aw_new 2 df_ri tc_ri D_br_init_16 nf_ri no_ri ⟨by decide, by decide, Nat.le_of_ble_eq_true rfl⟩ (by decide) (by decide) ?_
  dsimp only [df_rg, df_ri, df_rr, df_sh, df_tr, df_br, df_mo, updw, pushw, keyw, List.set_cons_zero, List.set_cons_succ, List.getD, List.getElem?_cons_zero, List.getElem?_cons_succ, Option.getD_some, Nat.reduceMod, Nat.reduceDiv, Nat.reduceMul, Nat.reduceAdd, List.length_cons, List.length_nil, List.cons_append, List.nil_append]
  refine aw_dup D_br_init_19 rfl ?_
  refine aw_callNv (As := []) D_br_init_20 kv_ri_init (c_ri_init) rfl rfl (Nat.le_of_ble_eq_true rfl) (by decide) (by decide) ?_
  refine aw_putF tc_br D_br_init_23 rfl rfl rfl (Nat.le_of_ble_eq_true rfl) rfl rfl ?_
  dsimp only [df_rg, df_ri, df_rr, df_sh, df_tr, df_br, df_mo, updw, pushw, keyw, List.set_cons_zero, List.set_cons_succ, List.getD, List.getElem?_cons_zero, List.getElem?_cons_succ, Option.getD_some, Nat.reduceMod, Nat.reduceDiv, Nat.reduceMul, Nat.reduceAdd, List.length_cons, List.length_nil, List.cons_append, List.nil_append]
  refine aw_aload_n 0 D_br_init_26 rfl rfl ?_
  refine aw_new 3 df_tr tc_tr D_br_init_27 nf_tr no_tr ⟨by decide, by decide, Nat.le_of_ble_eq_true rfl⟩ (by decide) (by decide) ?_
  dsimp only [df_rg, df_ri, df_rr, df_sh, df_tr, df_br, df_mo, updw, pushw, keyw, List.set_cons_zero, List.set_cons_succ, List.getD, List.getElem?_cons_zero, List.getElem?_cons_succ, Option.getD_some, Nat.reduceMod, Nat.reduceDiv, Nat.reduceMul, Nat.reduceAdd, List.length_cons, List.length_nil, List.cons_append, List.nil_append]
  refine aw_dup D_br_init_30 rfl ?_
  refine aw_callNv (As := []) D_br_init_31 kv_tr_init (c_tr_init) rfl rfl (Nat.le_of_ble_eq_true rfl) (by decide) (by decide) ?_
  refine aw_putF tc_br D_br_init_34 rfl rfl rfl (Nat.le_of_ble_eq_true rfl) rfl rfl ?_
  dsimp only [df_rg, df_ri, df_rr, df_sh, df_tr, df_br, df_mo, updw, pushw, keyw, List.set_cons_zero, List.set_cons_succ, List.getD, List.getElem?_cons_zero, List.getElem?_cons_succ, Option.getD_some, Nat.reduceMod, Nat.reduceDiv, Nat.reduceMul, Nat.reduceAdd, List.length_cons, List.length_nil, List.cons_append, List.nil_append]
  refine aw_aload_n 0 D_br_init_37 rfl rfl ?_
  refine aw_iconst (nI 4) D_br_init_38 rfl ?_
  refine aw_newq 0 4 D_br_init_39 rfl (by decide) ⟨by decide, by decide, Nat.le_of_ble_eq_true rfl⟩ (by decide) (by decide) ?_
  dsimp only [df_rg, df_ri, df_rr, df_sh, df_tr, df_br, df_mo, updw, pushw, keyw, List.set_cons_zero, List.set_cons_succ, List.getD, List.getElem?_cons_zero, List.getElem?_cons_succ, Option.getD_some, Nat.reduceMod, Nat.reduceDiv, Nat.reduceMul, Nat.reduceAdd, List.length_cons, List.length_nil, List.cons_append, List.nil_append]
  refine aw_putF tc_br D_br_init_42 rfl rfl rfl (Nat.le_of_ble_eq_true rfl) rfl rfl ?_
  dsimp only [df_rg, df_ri, df_rr, df_sh, df_tr, df_br, df_mo, updw, pushw, keyw, List.set_cons_zero, List.set_cons_succ, List.getD, List.getElem?_cons_zero, List.getElem?_cons_succ, Option.getD_some, Nat.reduceMod, Nat.reduceDiv, Nat.reduceMul, Nat.reduceAdd, List.length_cons, List.length_nil, List.cons_append, List.nil_append]
  refine aw_iconst (nI 0) D_br_init_45 rfl ?_
  refine aw_istore_n 1 D_br_init_46 rfl (Nat.le_of_ble_eq_true rfl) rfl ?_
  refine aw_iload_n 1 D_br_init_47 rfl rfl ?_
  refine aw_iconst (nI 4) D_br_init_48 rfl ?_
  refine aw_icmp_geN D_br_init_49 (by decide) (by decide) (fun h => absurd h (by decide)) (fun _ => ?_)
  refine aw_aload_n 0 D_br_init_52 rfl rfl ?_
  refine aw_get D_br_init_53 rfl rfl ?_
  refine aw_iload_n 1 D_br_init_56 rfl rfl ?_
  refine aw_new 4 df_sh tc_sh D_br_init_57 nf_sh no_sh ⟨by decide, by decide, Nat.le_of_ble_eq_true rfl⟩ (by decide) (by decide) ?_
  dsimp only [df_rg, df_ri, df_rr, df_sh, df_tr, df_br, df_mo, updw, pushw, keyw, List.set_cons_zero, List.set_cons_succ, List.getD, List.getElem?_cons_zero, List.getElem?_cons_succ, Option.getD_some, Nat.reduceMod, Nat.reduceDiv, Nat.reduceMul, Nat.reduceAdd, List.length_cons, List.length_nil, List.cons_append, List.nil_append]
  refine aw_dup D_br_init_60 rfl ?_
  refine aw_callNv (As := []) D_br_init_61 kv_sh_init (c_sh_init0) rfl rfl (Nat.le_of_ble_eq_true rfl) (by decide) (by decide) ?_
  refine aw_aast D_br_init_64 rfl rfl (vp_in_nI (by decide) (by decide)) ?_
  dsimp only [df_rg, df_ri, df_rr, df_sh, df_tr, df_br, df_mo, updw, pushw, keyw, List.set_cons_zero, List.set_cons_succ, List.getD, List.getElem?_cons_zero, List.getElem?_cons_succ, Option.getD_some, Nat.reduceMod, Nat.reduceDiv, Nat.reduceMul, Nat.reduceAdd, List.length_cons, List.length_nil, List.cons_append, List.nil_append]
  first | refine aw_incN D_br_init_65 rfl (Nat.le_of_ble_eq_true rfl) rfl ?_ | refine aw_inc D_br_init_65 rfl (Nat.le_of_ble_eq_true rfl) rfl ?_
  refine aw_goto D_br_init_68 ?_
  refine aw_iload_n 1 D_br_init_47 rfl rfl ?_
  refine aw_iconst (nI 4) D_br_init_48 rfl ?_
  refine aw_icmp_geN D_br_init_49 (by decide) (by decide) (fun h => absurd h (by decide)) (fun _ => ?_)
  refine aw_aload_n 0 D_br_init_52 rfl rfl ?_
  refine aw_get D_br_init_53 rfl rfl ?_
  refine aw_iload_n 1 D_br_init_56 rfl rfl ?_
  refine aw_new 4 df_sh tc_sh D_br_init_57 nf_sh no_sh ⟨by decide, by decide, Nat.le_of_ble_eq_true rfl⟩ (by decide) (by decide) ?_
  dsimp only [df_rg, df_ri, df_rr, df_sh, df_tr, df_br, df_mo, updw, pushw, keyw, List.set_cons_zero, List.set_cons_succ, List.getD, List.getElem?_cons_zero, List.getElem?_cons_succ, Option.getD_some, Nat.reduceMod, Nat.reduceDiv, Nat.reduceMul, Nat.reduceAdd, List.length_cons, List.length_nil, List.cons_append, List.nil_append]
  refine aw_dup D_br_init_60 rfl ?_
  refine aw_callNv (As := []) D_br_init_61 kv_sh_init (c_sh_init1) rfl rfl (Nat.le_of_ble_eq_true rfl) (by decide) (by decide) ?_
  refine aw_aast D_br_init_64 rfl rfl (vp_in_nI (by decide) (by decide)) ?_
  dsimp only [df_rg, df_ri, df_rr, df_sh, df_tr, df_br, df_mo, updw, pushw, keyw, List.set_cons_zero, List.set_cons_succ, List.getD, List.getElem?_cons_zero, List.getElem?_cons_succ, Option.getD_some, Nat.reduceMod, Nat.reduceDiv, Nat.reduceMul, Nat.reduceAdd, List.length_cons, List.length_nil, List.cons_append, List.nil_append]
  first | refine aw_incN D_br_init_65 rfl (Nat.le_of_ble_eq_true rfl) rfl ?_ | refine aw_inc D_br_init_65 rfl (Nat.le_of_ble_eq_true rfl) rfl ?_
  refine aw_goto D_br_init_68 ?_
  refine aw_iload_n 1 D_br_init_47 rfl rfl ?_
  refine aw_iconst (nI 4) D_br_init_48 rfl ?_
  refine aw_icmp_geN D_br_init_49 (by decide) (by decide) (fun h => absurd h (by decide)) (fun _ => ?_)
  refine aw_aload_n 0 D_br_init_52 rfl rfl ?_
  refine aw_get D_br_init_53 rfl rfl ?_
  refine aw_iload_n 1 D_br_init_56 rfl rfl ?_
  refine aw_new 4 df_sh tc_sh D_br_init_57 nf_sh no_sh ⟨by decide, by decide, Nat.le_of_ble_eq_true rfl⟩ (by decide) (by decide) ?_
  dsimp only [df_rg, df_ri, df_rr, df_sh, df_tr, df_br, df_mo, updw, pushw, keyw, List.set_cons_zero, List.set_cons_succ, List.getD, List.getElem?_cons_zero, List.getElem?_cons_succ, Option.getD_some, Nat.reduceMod, Nat.reduceDiv, Nat.reduceMul, Nat.reduceAdd, List.length_cons, List.length_nil, List.cons_append, List.nil_append]
  refine aw_dup D_br_init_60 rfl ?_
  refine aw_callNv (As := []) D_br_init_61 kv_sh_init (c_sh_init2) rfl rfl (Nat.le_of_ble_eq_true rfl) (by decide) (by decide) ?_
  refine aw_aast D_br_init_64 rfl rfl (vp_in_nI (by decide) (by decide)) ?_
  dsimp only [df_rg, df_ri, df_rr, df_sh, df_tr, df_br, df_mo, updw, pushw, keyw, List.set_cons_zero, List.set_cons_succ, List.getD, List.getElem?_cons_zero, List.getElem?_cons_succ, Option.getD_some, Nat.reduceMod, Nat.reduceDiv, Nat.reduceMul, Nat.reduceAdd, List.length_cons, List.length_nil, List.cons_append, List.nil_append]
  first | refine aw_incN D_br_init_65 rfl (Nat.le_of_ble_eq_true rfl) rfl ?_ | refine aw_inc D_br_init_65 rfl (Nat.le_of_ble_eq_true rfl) rfl ?_
  refine aw_goto D_br_init_68 ?_
  refine aw_iload_n 1 D_br_init_47 rfl rfl ?_
  refine aw_iconst (nI 4) D_br_init_48 rfl ?_
  refine aw_icmp_geN D_br_init_49 (by decide) (by decide) (fun h => absurd h (by decide)) (fun _ => ?_)
  refine aw_aload_n 0 D_br_init_52 rfl rfl ?_
  refine aw_get D_br_init_53 rfl rfl ?_
  refine aw_iload_n 1 D_br_init_56 rfl rfl ?_
  refine aw_new 4 df_sh tc_sh D_br_init_57 nf_sh no_sh ⟨by decide, by decide, Nat.le_of_ble_eq_true rfl⟩ (by decide) (by decide) ?_
  dsimp only [df_rg, df_ri, df_rr, df_sh, df_tr, df_br, df_mo, updw, pushw, keyw, List.set_cons_zero, List.set_cons_succ, List.getD, List.getElem?_cons_zero, List.getElem?_cons_succ, Option.getD_some, Nat.reduceMod, Nat.reduceDiv, Nat.reduceMul, Nat.reduceAdd, List.length_cons, List.length_nil, List.cons_append, List.nil_append]
  refine aw_dup D_br_init_60 rfl ?_
  refine aw_callNv (As := []) D_br_init_61 kv_sh_init (c_sh_init3) rfl rfl (Nat.le_of_ble_eq_true rfl) (by decide) (by decide) ?_
  refine aw_aast D_br_init_64 rfl rfl (vp_in_nI (by decide) (by decide)) ?_
  dsimp only [df_rg, df_ri, df_rr, df_sh, df_tr, df_br, df_mo, updw, pushw, keyw, List.set_cons_zero, List.set_cons_succ, List.getD, List.getElem?_cons_zero, List.getElem?_cons_succ, Option.getD_some, Nat.reduceMod, Nat.reduceDiv, Nat.reduceMul, Nat.reduceAdd, List.length_cons, List.length_nil, List.cons_append, List.nil_append]
  first | refine aw_incN D_br_init_65 rfl (Nat.le_of_ble_eq_true rfl) rfl ?_ | refine aw_inc D_br_init_65 rfl (Nat.le_of_ble_eq_true rfl) rfl ?_
  refine aw_goto D_br_init_68 ?_
  refine aw_iload_n 1 D_br_init_47 rfl rfl ?_
  refine aw_iconst (nI 4) D_br_init_48 rfl ?_
  refine aw_icmp_geN D_br_init_49 (by decide) (by decide) (fun _ => ?_) (fun h => absurd h (by decide))
  refine aw_aload_n 0 D_br_init_71 rfl rfl ?_
  refine aw_new 5 df_rr tc_rr D_br_init_72 nf_rr no_rr ⟨by decide, by decide, Nat.le_of_ble_eq_true rfl⟩ (by decide) (by decide) ?_
  dsimp only [df_rg, df_ri, df_rr, df_sh, df_tr, df_br, df_mo, updw, pushw, keyw, List.set_cons_zero, List.set_cons_succ, List.getD, List.getElem?_cons_zero, List.getElem?_cons_succ, Option.getD_some, Nat.reduceMod, Nat.reduceDiv, Nat.reduceMul, Nat.reduceAdd, List.length_cons, List.length_nil, List.cons_append, List.nil_append]
  refine aw_dup D_br_init_75 rfl ?_
  refine aw_callNv (As := []) D_br_init_76 kv_rr_init (c_rr_init) rfl rfl (Nat.le_of_ble_eq_true rfl) (by decide) (by decide) ?_
  refine aw_putF tc_br D_br_init_79 rfl rfl rfl (Nat.le_of_ble_eq_true rfl) rfl rfl ?_
  dsimp only [df_rg, df_ri, df_rr, df_sh, df_tr, df_br, df_mo, updw, pushw, keyw, List.set_cons_zero, List.set_cons_succ, List.getD, List.getElem?_cons_zero, List.getElem?_cons_succ, Option.getD_some, Nat.reduceMod, Nat.reduceDiv, Nat.reduceMul, Nat.reduceAdd, List.length_cons, List.length_nil, List.cons_append, List.nil_append]
  refine aw_rowQ (q := 16) (g := shf) rfl (fun j hj => ?_) (fun i k hk => ?_) ?_
  · rcases (show j = 0 ∨ j = 1 ∨ j = 2 ∨ j = 3 by omega) with rfl | rfl | rfl | rfl <;> rfl
  · unfold shf at hk
    by_cases hi : i < 4
    · rw [if_pos hi] at hk
      cases hk
      rcases (show i = 0 ∨ i = 1 ∨ i = 2 ∨ i = 3 by omega) with rfl | rfl | rfl | rfl <;> exact Or.inl ⟨_, rfl⟩
    · rw [if_neg hi] at hk; cases hk
  refine aw_return D_br_init_82 rfl ?_
  exact ⟨rfl, rfl⟩
