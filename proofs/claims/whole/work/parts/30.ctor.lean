/-! ### what is made at first -/
abbrev df_rg : List Value := [.int 0, .int 0, .int 0, .null, .null]
abbrev df_ri : List Value := [.int 0, .int 0, .int 0, .int 0, .null, .null, .null, .null, .null, .null, .null]
abbrev df_rr : List Value := [.null, .null, .null, .null, .null, .int 0]
abbrev df_sh : List Value := [.int 0, .int 0, .null]
abbrev df_tr : List Value := [.null, .int 0]
abbrev df_br : List Value := [.null, .null, .null, .null, .null, .int 0, .int 0]
abbrev df_mo : List Value := [.int 0, .int 0, .int 0, .null, .int 0, .int 0, .null, .null, .null, .null, .null, .null, .null, .null, .null, .null, .null, .null, .null, .null, .null]
theorem nf_rg : ∀ j, j < 5 → defaultValue (ty_rg j) = vp_V (df_rg.map (cv fun x => x)) j := by decide
theorem nf_ri : ∀ j, j < 11 → defaultValue (ty_ri j) = vp_V (df_ri.map (cv fun x => x)) j := by decide
theorem nf_rr : ∀ j, j < 6 → defaultValue (ty_rr j) = vp_V (df_rr.map (cv fun x => x)) j := by decide
theorem nf_sh : ∀ j, j < 3 → defaultValue (ty_sh j) = vp_V (df_sh.map (cv fun x => x)) j := by decide
theorem nf_tr : ∀ j, j < 2 → defaultValue (ty_tr j) = vp_V (df_tr.map (cv fun x => x)) j := by decide
theorem nf_br : ∀ j, j < 7 → defaultValue (ty_br j) = vp_V (df_br.map (cv fun x => x)) j := by decide
theorem nf_mo : ∀ j, j < 21 → defaultValue (ty_mo j) = vp_V (df_mo.map (cv fun x => x)) j := by decide
def noRef : Value → Bool
  | .ref _ => false
  | _ => true
theorem no_of {l : List Value} (h : l.all noRef = true) : ∀ v ∈ l, ∀ k, v ≠ .ref k := fun v hv k e => by
  have := List.all_eq_true.mp h v hv
  rw [e] at this
  cases this
theorem no_rg : ∀ v ∈ df_rg, ∀ k, v ≠ .ref k := no_of rfl
theorem no_ri : ∀ v ∈ df_ri, ∀ k, v ≠ .ref k := no_of rfl
theorem no_rr : ∀ v ∈ df_rr, ∀ k, v ≠ .ref k := no_of rfl
theorem no_sh : ∀ v ∈ df_sh, ∀ k, v ≠ .ref k := no_of rfl
theorem no_tr : ∀ v ∈ df_tr, ∀ k, v ≠ .ref k := no_of rfl
theorem no_br : ∀ v ∈ df_br, ∀ k, v ≠ .ref k := no_of rfl
theorem no_mo : ∀ v ∈ df_mo, ∀ k, v ≠ .ref k := no_of rfl
abbrev RR (mk : Nat) (ru ol re : Nat → Nat) (ms : Nat → Nat) (sp : Nat → Int32) : List va_E := [.inr (2, [.ref 21, .ref 37, .ref 53, .ref 69, .ref 85, .int (nI mk)]), .inl (1, 10, .inr (.inl (lF ru))), .inl (1, 10, .inr (.inl (lF ol))), .inl (1, 10, .inr (.inl (lF re))), .inl (0, 600, .inl (nF ms)), .inl (0, 1200, .inl sp)]
abbrev SH (la : Nat → Int32) (sz : Nat → Nat) (ce : Nat → Nat → Int64) : List va_E := [.inr (3, [.int (la 0), .int (nI (sz 0)), .ref 20]), .inl (1, 600, .inr (.inl (ce 0))), .inr (3, [.int (la 1), .int (nI (sz 1)), .ref 52]), .inl (1, 600, .inr (.inl (ce 1))), .inr (3, [.int (la 2), .int (nI (sz 2)), .ref 84]), .inl (1, 600, .inr (.inl (ce 2))), .inr (3, [.int (la 3), .int (nI (sz 3)), .ref 116]), .inl (1, 600, .inr (.inl (ce 3)))]
def shf : Nat → Option Nat := fun i => if i < 4 then some (4 + 32 * i) else none
abbrev BR (tr fl : Int32) : List va_E := [.inr (5, [.ref 1, .ref 2, .ref 3, .ref 16, .ref 5, .int tr, .int fl]), .inl (3, 4, .inr (.inr (.inr (.inr shf))))]
abbrev MO (fl tc : Int32) (n fd R : Nat) (b le sz : Nat → Nat) (o : Nat → Option Nat) (be pc wt qu : Nat → Nat) (la : Nat → Int32) (sl : Nat → Nat) (ce : Nat → Int64) (tb mt ru bf kp : Nat → Nat) : List va_E :=
  [.inr (6, [.int fl, .int tc, .int (nI n), .ref 22, .int (nI fd), .int (nI R), .ref 38, .ref 54, .ref 70, .ref 86, .ref 102, .ref 118, .ref 134, .ref 150, .ref 166, .ref 182, .ref 198, .ref 214, .ref 230, .ref 246, .ref 262]), .inl (0, 512, .inl (nF b)), .inl (0, 512, .inl (nF le)), .inl (0, 512, .inl (nF sz)), .inl (0, 512, .inl (oF (-nI 9) o)), .inl (0, 512, .inl (nF be)), .inl (0, 512, .inl (nF pc)), .inl (0, 512, .inl (nF wt)), .inl (0, 512, .inl (nF qu)), .inl (0, 4, .inl la), .inl (0, 4, .inl (nF sl)), .inl (1, 2400, .inr (.inl ce)), .inl (1, 4096, .inr (.inl (lF tb))), .inl (2, 512, .inl (nF mt)), .inl (0, 601, .inl (nF ru)), .inl (0, 601, .inl (nF bf)), .inl (0, 601, .inl (nF kp))]
section Ctor
variable {mn rg ri tr sh rr mo dy : List va_E}
theorem c_rg_init : AMet M_rg_init [.ref 1] [mn, [.inr (0, df_rg)], ri, tr, sh, rr, mo, dy] (Ex none [mn, RG 3 8 1 (fun _ => 0) (fun _ => 0), ri, tr, sh, rr, mo, dy]) 2 1024 := by
  refine AMet.of [(0, .ref 1)] (by decide +kernel) rfl (Nat.le_of_ble_eq_true rfl) ?_
  refine aw_aload_n 0 D_rg_init_0 rfl rfl ?_
  refine aw_obj D_rg_init_1 ?_
  refine aw_aload_n 0 D_rg_init_4 rfl rfl ?_
  refine aw_iconst (nI 3) D_rg_init_5 rfl ?_
  refine aw_put tc_rg D_rg_init_6 rfl (Nat.le_of_ble_eq_true rfl) rfl rfl ?_
  refine aw_aload_n 0 D_rg_init_9 rfl rfl ?_
  refine aw_bipush (nI 8) D_rg_init_10 rfl ?_
  refine aw_put tc_rg D_rg_init_12 rfl (Nat.le_of_ble_eq_true rfl) rfl rfl ?_
  refine aw_aload_n 0 D_rg_init_15 rfl rfl ?_
  refine aw_iconst (nI 1) D_rg_init_16 rfl ?_
  refine aw_put tc_rg D_rg_init_17 rfl (Nat.le_of_ble_eq_true rfl) rfl rfl ?_
  refine aw_aload_n 0 D_rg_init_20 rfl rfl ?_
  refine aw_sipush (nI 512) D_rg_init_21 rfl ?_
  refine aw_newI 1 512 D_rg_init_24 rfl (by decide) ⟨by decide, by decide, Nat.le_of_ble_eq_true rfl⟩ (by decide) (by decide) ?_
  dsimp only [df_rg, df_ri, df_rr, df_sh, df_tr, df_br, df_mo, updw, pushw, keyw, List.set_cons_zero, List.set_cons_succ, List.getD, List.getElem?_cons_zero, List.getElem?_cons_succ, Option.getD_some, Nat.reduceMod, Nat.reduceDiv, Nat.reduceMul, Nat.reduceAdd, List.length_cons, List.length_nil, List.cons_append, List.nil_append]
  refine aw_putF tc_rg D_rg_init_26 rfl rfl rfl (Nat.le_of_ble_eq_true rfl) rfl rfl ?_
  dsimp only [df_rg, df_ri, df_rr, df_sh, df_tr, df_br, df_mo, updw, pushw, keyw, List.set_cons_zero, List.set_cons_succ, List.getD, List.getElem?_cons_zero, List.getElem?_cons_succ, Option.getD_some, Nat.reduceMod, Nat.reduceDiv, Nat.reduceMul, Nat.reduceAdd, List.length_cons, List.length_nil, List.cons_append, List.nil_append]
  refine aw_aload_n 0 D_rg_init_29 rfl rfl ?_
  refine aw_sipush (nI 512) D_rg_init_30 rfl ?_
  refine aw_newI 1 512 D_rg_init_33 rfl (by decide) ⟨by decide, by decide, Nat.le_of_ble_eq_true rfl⟩ (by decide) (by decide) ?_
  dsimp only [df_rg, df_ri, df_rr, df_sh, df_tr, df_br, df_mo, updw, pushw, keyw, List.set_cons_zero, List.set_cons_succ, List.getD, List.getElem?_cons_zero, List.getElem?_cons_succ, Option.getD_some, Nat.reduceMod, Nat.reduceDiv, Nat.reduceMul, Nat.reduceAdd, List.length_cons, List.length_nil, List.cons_append, List.nil_append]
  refine aw_putF tc_rg D_rg_init_35 rfl rfl rfl (Nat.le_of_ble_eq_true rfl) rfl rfl ?_
  dsimp only [df_rg, df_ri, df_rr, df_sh, df_tr, df_br, df_mo, updw, pushw, keyw, List.set_cons_zero, List.set_cons_succ, List.getD, List.getElem?_cons_zero, List.getElem?_cons_succ, Option.getD_some, Nat.reduceMod, Nat.reduceDiv, Nat.reduceMul, Nat.reduceAdd, List.length_cons, List.length_nil, List.cons_append, List.nil_append]
  refine aw_return D_rg_init_38 rfl ?_
  exact ⟨rfl, rfl⟩
theorem c_ri_init : AMet M_ri_init [.ref 2] [mn, rg, [.inr (1, df_ri)], tr, sh, rr, mo, dy] (Ex none [mn, rg, RI 0 0 0 0 (fun _ => some 0) (fun _ => 0) (fun _ => 0) (fun _ => 0) (fun _ => 0) (fun _ => 0) (fun _ => 0), tr, sh, rr, mo, dy]) 7 3584 := by
  refine AMet.of [(0, .ref 2)] (by decide +kernel) rfl (Nat.le_of_ble_eq_true rfl) ?_
  refine aw_aload_n 0 D_ri_init_0 rfl rfl ?_
  refine aw_obj D_ri_init_1 ?_
  refine aw_aload_n 0 D_ri_init_4 rfl rfl ?_
  refine aw_sipush (nI 512) D_ri_init_5 rfl ?_
  refine aw_newI 2 512 D_ri_init_8 rfl (by decide) ⟨by decide, by decide, Nat.le_of_ble_eq_true rfl⟩ (by decide) (by decide) ?_
  dsimp only [df_rg, df_ri, df_rr, df_sh, df_tr, df_br, df_mo, updw, pushw, keyw, List.set_cons_zero, List.set_cons_succ, List.getD, List.getElem?_cons_zero, List.getElem?_cons_succ, Option.getD_some, Nat.reduceMod, Nat.reduceDiv, Nat.reduceMul, Nat.reduceAdd, List.length_cons, List.length_nil, List.cons_append, List.nil_append]
  refine aw_putF tc_ri D_ri_init_10 rfl rfl rfl (Nat.le_of_ble_eq_true rfl) rfl rfl ?_
  dsimp only [df_rg, df_ri, df_rr, df_sh, df_tr, df_br, df_mo, updw, pushw, keyw, List.set_cons_zero, List.set_cons_succ, List.getD, List.getElem?_cons_zero, List.getElem?_cons_succ, Option.getD_some, Nat.reduceMod, Nat.reduceDiv, Nat.reduceMul, Nat.reduceAdd, List.length_cons, List.length_nil, List.cons_append, List.nil_append]
  refine aw_aload_n 0 D_ri_init_13 rfl rfl ?_
  refine aw_sipush (nI 512) D_ri_init_14 rfl ?_
  refine aw_newI 2 512 D_ri_init_17 rfl (by decide) ⟨by decide, by decide, Nat.le_of_ble_eq_true rfl⟩ (by decide) (by decide) ?_
  dsimp only [df_rg, df_ri, df_rr, df_sh, df_tr, df_br, df_mo, updw, pushw, keyw, List.set_cons_zero, List.set_cons_succ, List.getD, List.getElem?_cons_zero, List.getElem?_cons_succ, Option.getD_some, Nat.reduceMod, Nat.reduceDiv, Nat.reduceMul, Nat.reduceAdd, List.length_cons, List.length_nil, List.cons_append, List.nil_append]
  refine aw_putF tc_ri D_ri_init_19 rfl rfl rfl (Nat.le_of_ble_eq_true rfl) rfl rfl ?_
  dsimp only [df_rg, df_ri, df_rr, df_sh, df_tr, df_br, df_mo, updw, pushw, keyw, List.set_cons_zero, List.set_cons_succ, List.getD, List.getElem?_cons_zero, List.getElem?_cons_succ, Option.getD_some, Nat.reduceMod, Nat.reduceDiv, Nat.reduceMul, Nat.reduceAdd, List.length_cons, List.length_nil, List.cons_append, List.nil_append]
  refine aw_aload_n 0 D_ri_init_22 rfl rfl ?_
  refine aw_sipush (nI 512) D_ri_init_23 rfl ?_
  refine aw_newI 2 512 D_ri_init_26 rfl (by decide) ⟨by decide, by decide, Nat.le_of_ble_eq_true rfl⟩ (by decide) (by decide) ?_
  dsimp only [df_rg, df_ri, df_rr, df_sh, df_tr, df_br, df_mo, updw, pushw, keyw, List.set_cons_zero, List.set_cons_succ, List.getD, List.getElem?_cons_zero, List.getElem?_cons_succ, Option.getD_some, Nat.reduceMod, Nat.reduceDiv, Nat.reduceMul, Nat.reduceAdd, List.length_cons, List.length_nil, List.cons_append, List.nil_append]
  refine aw_putF tc_ri D_ri_init_28 rfl rfl rfl (Nat.le_of_ble_eq_true rfl) rfl rfl ?_
  dsimp only [df_rg, df_ri, df_rr, df_sh, df_tr, df_br, df_mo, updw, pushw, keyw, List.set_cons_zero, List.set_cons_succ, List.getD, List.getElem?_cons_zero, List.getElem?_cons_succ, Option.getD_some, Nat.reduceMod, Nat.reduceDiv, Nat.reduceMul, Nat.reduceAdd, List.length_cons, List.length_nil, List.cons_append, List.nil_append]
  refine aw_aload_n 0 D_ri_init_31 rfl rfl ?_
  refine aw_sipush (nI 512) D_ri_init_32 rfl ?_
  refine aw_newI 2 512 D_ri_init_35 rfl (by decide) ⟨by decide, by decide, Nat.le_of_ble_eq_true rfl⟩ (by decide) (by decide) ?_
  dsimp only [df_rg, df_ri, df_rr, df_sh, df_tr, df_br, df_mo, updw, pushw, keyw, List.set_cons_zero, List.set_cons_succ, List.getD, List.getElem?_cons_zero, List.getElem?_cons_succ, Option.getD_some, Nat.reduceMod, Nat.reduceDiv, Nat.reduceMul, Nat.reduceAdd, List.length_cons, List.length_nil, List.cons_append, List.nil_append]
  refine aw_putF tc_ri D_ri_init_37 rfl rfl rfl (Nat.le_of_ble_eq_true rfl) rfl rfl ?_
  dsimp only [df_rg, df_ri, df_rr, df_sh, df_tr, df_br, df_mo, updw, pushw, keyw, List.set_cons_zero, List.set_cons_succ, List.getD, List.getElem?_cons_zero, List.getElem?_cons_succ, Option.getD_some, Nat.reduceMod, Nat.reduceDiv, Nat.reduceMul, Nat.reduceAdd, List.length_cons, List.length_nil, List.cons_append, List.nil_append]
  refine aw_aload_n 0 D_ri_init_40 rfl rfl ?_
  refine aw_sipush (nI 512) D_ri_init_41 rfl ?_
  refine aw_newI 2 512 D_ri_init_44 rfl (by decide) ⟨by decide, by decide, Nat.le_of_ble_eq_true rfl⟩ (by decide) (by decide) ?_
  dsimp only [df_rg, df_ri, df_rr, df_sh, df_tr, df_br, df_mo, updw, pushw, keyw, List.set_cons_zero, List.set_cons_succ, List.getD, List.getElem?_cons_zero, List.getElem?_cons_succ, Option.getD_some, Nat.reduceMod, Nat.reduceDiv, Nat.reduceMul, Nat.reduceAdd, List.length_cons, List.length_nil, List.cons_append, List.nil_append]
  refine aw_putF tc_ri D_ri_init_46 rfl rfl rfl (Nat.le_of_ble_eq_true rfl) rfl rfl ?_
  dsimp only [df_rg, df_ri, df_rr, df_sh, df_tr, df_br, df_mo, updw, pushw, keyw, List.set_cons_zero, List.set_cons_succ, List.getD, List.getElem?_cons_zero, List.getElem?_cons_succ, Option.getD_some, Nat.reduceMod, Nat.reduceDiv, Nat.reduceMul, Nat.reduceAdd, List.length_cons, List.length_nil, List.cons_append, List.nil_append]
  refine aw_aload_n 0 D_ri_init_49 rfl rfl ?_
  refine aw_sipush (nI 512) D_ri_init_50 rfl ?_
  refine aw_newI 2 512 D_ri_init_53 rfl (by decide) ⟨by decide, by decide, Nat.le_of_ble_eq_true rfl⟩ (by decide) (by decide) ?_
  dsimp only [df_rg, df_ri, df_rr, df_sh, df_tr, df_br, df_mo, updw, pushw, keyw, List.set_cons_zero, List.set_cons_succ, List.getD, List.getElem?_cons_zero, List.getElem?_cons_succ, Option.getD_some, Nat.reduceMod, Nat.reduceDiv, Nat.reduceMul, Nat.reduceAdd, List.length_cons, List.length_nil, List.cons_append, List.nil_append]
  refine aw_putF tc_ri D_ri_init_55 rfl rfl rfl (Nat.le_of_ble_eq_true rfl) rfl rfl ?_
  dsimp only [df_rg, df_ri, df_rr, df_sh, df_tr, df_br, df_mo, updw, pushw, keyw, List.set_cons_zero, List.set_cons_succ, List.getD, List.getElem?_cons_zero, List.getElem?_cons_succ, Option.getD_some, Nat.reduceMod, Nat.reduceDiv, Nat.reduceMul, Nat.reduceAdd, List.length_cons, List.length_nil, List.cons_append, List.nil_append]
  refine aw_aload_n 0 D_ri_init_58 rfl rfl ?_
  refine aw_sipush (nI 512) D_ri_init_59 rfl ?_
  refine aw_newI 2 512 D_ri_init_62 rfl (by decide) ⟨by decide, by decide, Nat.le_of_ble_eq_true rfl⟩ (by decide) (by decide) ?_
  dsimp only [df_rg, df_ri, df_rr, df_sh, df_tr, df_br, df_mo, updw, pushw, keyw, List.set_cons_zero, List.set_cons_succ, List.getD, List.getElem?_cons_zero, List.getElem?_cons_succ, Option.getD_some, Nat.reduceMod, Nat.reduceDiv, Nat.reduceMul, Nat.reduceAdd, List.length_cons, List.length_nil, List.cons_append, List.nil_append]
  refine aw_putF tc_ri D_ri_init_64 rfl rfl rfl (Nat.le_of_ble_eq_true rfl) rfl rfl ?_
  dsimp only [df_rg, df_ri, df_rr, df_sh, df_tr, df_br, df_mo, updw, pushw, keyw, List.set_cons_zero, List.set_cons_succ, List.getD, List.getElem?_cons_zero, List.getElem?_cons_succ, Option.getD_some, Nat.reduceMod, Nat.reduceDiv, Nat.reduceMul, Nat.reduceAdd, List.length_cons, List.length_nil, List.cons_append, List.nil_append]
  refine aw_return D_ri_init_67 rfl ?_
  exact ⟨rfl, rfl⟩
theorem c_tr_init : AMet M_tr_init [.ref 3] [mn, rg, ri, [.inr (4, df_tr)], sh, rr, mo, []] (Ex none [mn, rg, ri, [.inr (4, [.ref 7, .int (nI 0)])], sh, rr, mo, [.inl (1, 0, .inr (.inl (lF (fun _ => 0))))]]) 1 0 := by
  refine AMet.of [(0, .ref 3)] (by decide +kernel) rfl (Nat.le_of_ble_eq_true rfl) ?_
  refine aw_aload_n 0 D_tr_init_0 rfl rfl ?_
  refine aw_obj D_tr_init_1 ?_
  refine aw_aload_n 0 D_tr_init_4 rfl rfl ?_
  refine aw_iconst (nI 0) D_tr_init_5 rfl ?_
  refine aw_newL 7 0 D_tr_init_6 rfl (by decide) ⟨by decide, by decide, Nat.le_of_ble_eq_true rfl⟩ (by decide) (by decide) ?_
  dsimp only [df_rg, df_ri, df_rr, df_sh, df_tr, df_br, df_mo, updw, pushw, keyw, List.set_cons_zero, List.set_cons_succ, List.getD, List.getElem?_cons_zero, List.getElem?_cons_succ, Option.getD_some, Nat.reduceMod, Nat.reduceDiv, Nat.reduceMul, Nat.reduceAdd, List.length_cons, List.length_nil, List.cons_append, List.nil_append]
  refine aw_put tc_tr D_tr_init_8 rfl (Nat.le_of_ble_eq_true rfl) rfl rfl ?_
  refine aw_return D_tr_init_11 rfl ?_
  exact ⟨rfl, rfl⟩
theorem c_rr_init : AMet M_rr_init [.ref 5] [mn, rg, ri, tr, sh, [.inr (2, df_rr)], mo, dy] (Ex none [mn, rg, ri, tr, sh, RR 0 (fun _ => 0) (fun _ => 0) (fun _ => 0) (fun _ => 0) (fun _ => 0), mo, dy]) 5 1830 := by
  refine AMet.of [(0, .ref 5)] (by decide +kernel) rfl (Nat.le_of_ble_eq_true rfl) ?_
  refine aw_aload_n 0 D_rr_init_0 rfl rfl ?_
  refine aw_obj D_rr_init_1 ?_
  refine aw_aload_n 0 D_rr_init_4 rfl rfl ?_
  refine aw_bipush (nI 10) D_rr_init_5 rfl ?_
  refine aw_newL 5 10 D_rr_init_7 rfl (by decide) ⟨by decide, by decide, Nat.le_of_ble_eq_true rfl⟩ (by decide) (by decide) ?_
  dsimp only [df_rg, df_ri, df_rr, df_sh, df_tr, df_br, df_mo, updw, pushw, keyw, List.set_cons_zero, List.set_cons_succ, List.getD, List.getElem?_cons_zero, List.getElem?_cons_succ, Option.getD_some, Nat.reduceMod, Nat.reduceDiv, Nat.reduceMul, Nat.reduceAdd, List.length_cons, List.length_nil, List.cons_append, List.nil_append]
  refine aw_putF tc_rr D_rr_init_9 rfl rfl rfl (Nat.le_of_ble_eq_true rfl) rfl rfl ?_
  dsimp only [df_rg, df_ri, df_rr, df_sh, df_tr, df_br, df_mo, updw, pushw, keyw, List.set_cons_zero, List.set_cons_succ, List.getD, List.getElem?_cons_zero, List.getElem?_cons_succ, Option.getD_some, Nat.reduceMod, Nat.reduceDiv, Nat.reduceMul, Nat.reduceAdd, List.length_cons, List.length_nil, List.cons_append, List.nil_append]
  refine aw_aload_n 0 D_rr_init_12 rfl rfl ?_
  refine aw_bipush (nI 10) D_rr_init_13 rfl ?_
  refine aw_newL 5 10 D_rr_init_15 rfl (by decide) ⟨by decide, by decide, Nat.le_of_ble_eq_true rfl⟩ (by decide) (by decide) ?_
  dsimp only [df_rg, df_ri, df_rr, df_sh, df_tr, df_br, df_mo, updw, pushw, keyw, List.set_cons_zero, List.set_cons_succ, List.getD, List.getElem?_cons_zero, List.getElem?_cons_succ, Option.getD_some, Nat.reduceMod, Nat.reduceDiv, Nat.reduceMul, Nat.reduceAdd, List.length_cons, List.length_nil, List.cons_append, List.nil_append]
  refine aw_putF tc_rr D_rr_init_17 rfl rfl rfl (Nat.le_of_ble_eq_true rfl) rfl rfl ?_
  dsimp only [df_rg, df_ri, df_rr, df_sh, df_tr, df_br, df_mo, updw, pushw, keyw, List.set_cons_zero, List.set_cons_succ, List.getD, List.getElem?_cons_zero, List.getElem?_cons_succ, Option.getD_some, Nat.reduceMod, Nat.reduceDiv, Nat.reduceMul, Nat.reduceAdd, List.length_cons, List.length_nil, List.cons_append, List.nil_append]
  refine aw_aload_n 0 D_rr_init_20 rfl rfl ?_
  refine aw_bipush (nI 10) D_rr_init_21 rfl ?_
  refine aw_newL 5 10 D_rr_init_23 rfl (by decide) ⟨by decide, by decide, Nat.le_of_ble_eq_true rfl⟩ (by decide) (by decide) ?_
  dsimp only [df_rg, df_ri, df_rr, df_sh, df_tr, df_br, df_mo, updw, pushw, keyw, List.set_cons_zero, List.set_cons_succ, List.getD, List.getElem?_cons_zero, List.getElem?_cons_succ, Option.getD_some, Nat.reduceMod, Nat.reduceDiv, Nat.reduceMul, Nat.reduceAdd, List.length_cons, List.length_nil, List.cons_append, List.nil_append]
  refine aw_putF tc_rr D_rr_init_25 rfl rfl rfl (Nat.le_of_ble_eq_true rfl) rfl rfl ?_
  dsimp only [df_rg, df_ri, df_rr, df_sh, df_tr, df_br, df_mo, updw, pushw, keyw, List.set_cons_zero, List.set_cons_succ, List.getD, List.getElem?_cons_zero, List.getElem?_cons_succ, Option.getD_some, Nat.reduceMod, Nat.reduceDiv, Nat.reduceMul, Nat.reduceAdd, List.length_cons, List.length_nil, List.cons_append, List.nil_append]
  refine aw_aload_n 0 D_rr_init_28 rfl rfl ?_
  refine aw_sipush (nI 600) D_rr_init_29 rfl ?_
  refine aw_newI 5 600 D_rr_init_32 rfl (by decide) ⟨by decide, by decide, Nat.le_of_ble_eq_true rfl⟩ (by decide) (by decide) ?_
  dsimp only [df_rg, df_ri, df_rr, df_sh, df_tr, df_br, df_mo, updw, pushw, keyw, List.set_cons_zero, List.set_cons_succ, List.getD, List.getElem?_cons_zero, List.getElem?_cons_succ, Option.getD_some, Nat.reduceMod, Nat.reduceDiv, Nat.reduceMul, Nat.reduceAdd, List.length_cons, List.length_nil, List.cons_append, List.nil_append]
  refine aw_putF tc_rr D_rr_init_34 rfl rfl rfl (Nat.le_of_ble_eq_true rfl) rfl rfl ?_
  dsimp only [df_rg, df_ri, df_rr, df_sh, df_tr, df_br, df_mo, updw, pushw, keyw, List.set_cons_zero, List.set_cons_succ, List.getD, List.getElem?_cons_zero, List.getElem?_cons_succ, Option.getD_some, Nat.reduceMod, Nat.reduceDiv, Nat.reduceMul, Nat.reduceAdd, List.length_cons, List.length_nil, List.cons_append, List.nil_append]
  refine aw_aload_n 0 D_rr_init_37 rfl rfl ?_
  refine aw_sipush (nI 1200) D_rr_init_38 rfl ?_
  refine aw_newI 5 1200 D_rr_init_41 rfl (by decide) ⟨by decide, by decide, Nat.le_of_ble_eq_true rfl⟩ (by decide) (by decide) ?_
  dsimp only [df_rg, df_ri, df_rr, df_sh, df_tr, df_br, df_mo, updw, pushw, keyw, List.set_cons_zero, List.set_cons_succ, List.getD, List.getElem?_cons_zero, List.getElem?_cons_succ, Option.getD_some, Nat.reduceMod, Nat.reduceDiv, Nat.reduceMul, Nat.reduceAdd, List.length_cons, List.length_nil, List.cons_append, List.nil_append]
  refine aw_putF tc_rr D_rr_init_43 rfl rfl rfl (Nat.le_of_ble_eq_true rfl) rfl rfl ?_
  dsimp only [df_rg, df_ri, df_rr, df_sh, df_tr, df_br, df_mo, updw, pushw, keyw, List.set_cons_zero, List.set_cons_succ, List.getD, List.getElem?_cons_zero, List.getElem?_cons_succ, Option.getD_some, Nat.reduceMod, Nat.reduceDiv, Nat.reduceMul, Nat.reduceAdd, List.length_cons, List.length_nil, List.cons_append, List.nil_append]
  refine aw_return D_rr_init_46 rfl ?_
  exact ⟨rfl, rfl⟩
theorem c_sh_init0 : AMet M_sh_init [.ref 4] [mn, rg, ri, tr, [.inr (3, df_sh)], rr, mo, dy] (Ex none [mn, rg, ri, tr, [.inr (3, [.int (-nI 1), .int (nI 0), .ref 20]), .inl (1, 600, .inr (.inl (fun _ => 0)))], rr, mo, dy]) 1 600 := by
  refine AMet.of [(0, .ref 4)] (by decide +kernel) rfl (Nat.le_of_ble_eq_true rfl) ?_
  refine aw_aload_n 0 D_sh_init_0 rfl rfl ?_
  refine aw_obj D_sh_init_1 ?_
  refine aw_aload_n 0 D_sh_init_4 rfl rfl ?_
  refine aw_iconst (-nI 1) D_sh_init_5 rfl ?_
  refine aw_put tc_sh D_sh_init_6 rfl (Nat.le_of_ble_eq_true rfl) rfl rfl ?_
  refine aw_aload_n 0 D_sh_init_9 rfl rfl ?_
  refine aw_sipush (nI 600) D_sh_init_10 rfl ?_
  refine aw_newL 4 600 D_sh_init_13 rfl (by decide) ⟨by decide, by decide, Nat.le_of_ble_eq_true rfl⟩ (by decide) (by decide) ?_
  dsimp only [df_rg, df_ri, df_rr, df_sh, df_tr, df_br, df_mo, updw, pushw, keyw, List.set_cons_zero, List.set_cons_succ, List.getD, List.getElem?_cons_zero, List.getElem?_cons_succ, Option.getD_some, Nat.reduceMod, Nat.reduceDiv, Nat.reduceMul, Nat.reduceAdd, List.length_cons, List.length_nil, List.cons_append, List.nil_append]
  refine aw_putF tc_sh D_sh_init_15 rfl rfl rfl (Nat.le_of_ble_eq_true rfl) rfl rfl ?_
  dsimp only [df_rg, df_ri, df_rr, df_sh, df_tr, df_br, df_mo, updw, pushw, keyw, List.set_cons_zero, List.set_cons_succ, List.getD, List.getElem?_cons_zero, List.getElem?_cons_succ, Option.getD_some, Nat.reduceMod, Nat.reduceDiv, Nat.reduceMul, Nat.reduceAdd, List.length_cons, List.length_nil, List.cons_append, List.nil_append]
  refine aw_return D_sh_init_18 rfl ?_
  exact ⟨rfl, rfl⟩
theorem c_sh_init1 {a0 a1 : va_E} : AMet M_sh_init [.ref 36] [mn, rg, ri, tr, [a0, a1, .inr (3, df_sh)], rr, mo, dy] (Ex none [mn, rg, ri, tr, [a0, a1, .inr (3, [.int (-nI 1), .int (nI 0), .ref 52]), .inl (1, 600, .inr (.inl (fun _ => 0)))], rr, mo, dy]) 1 600 := by
  refine AMet.of [(0, .ref 36)] (by decide +kernel) rfl (Nat.le_of_ble_eq_true rfl) ?_
  refine aw_aload_n 0 D_sh_init_0 rfl rfl ?_
  refine aw_obj D_sh_init_1 ?_
  refine aw_aload_n 0 D_sh_init_4 rfl rfl ?_
  refine aw_iconst (-nI 1) D_sh_init_5 rfl ?_
  refine aw_put tc_sh D_sh_init_6 rfl (Nat.le_of_ble_eq_true rfl) rfl rfl ?_
  refine aw_aload_n 0 D_sh_init_9 rfl rfl ?_
  refine aw_sipush (nI 600) D_sh_init_10 rfl ?_
  refine aw_newL 4 600 D_sh_init_13 rfl (by decide) ⟨by decide, by decide, Nat.le_of_ble_eq_true rfl⟩ (by decide) (by decide) ?_
  dsimp only [df_rg, df_ri, df_rr, df_sh, df_tr, df_br, df_mo, updw, pushw, keyw, List.set_cons_zero, List.set_cons_succ, List.getD, List.getElem?_cons_zero, List.getElem?_cons_succ, Option.getD_some, Nat.reduceMod, Nat.reduceDiv, Nat.reduceMul, Nat.reduceAdd, List.length_cons, List.length_nil, List.cons_append, List.nil_append]
  refine aw_putF tc_sh D_sh_init_15 rfl rfl rfl (Nat.le_of_ble_eq_true rfl) rfl rfl ?_
  dsimp only [df_rg, df_ri, df_rr, df_sh, df_tr, df_br, df_mo, updw, pushw, keyw, List.set_cons_zero, List.set_cons_succ, List.getD, List.getElem?_cons_zero, List.getElem?_cons_succ, Option.getD_some, Nat.reduceMod, Nat.reduceDiv, Nat.reduceMul, Nat.reduceAdd, List.length_cons, List.length_nil, List.cons_append, List.nil_append]
  refine aw_return D_sh_init_18 rfl ?_
  exact ⟨rfl, rfl⟩
theorem c_sh_init2 {a0 a1 a2 a3 : va_E} : AMet M_sh_init [.ref 68] [mn, rg, ri, tr, [a0, a1, a2, a3, .inr (3, df_sh)], rr, mo, dy] (Ex none [mn, rg, ri, tr, [a0, a1, a2, a3, .inr (3, [.int (-nI 1), .int (nI 0), .ref 84]), .inl (1, 600, .inr (.inl (fun _ => 0)))], rr, mo, dy]) 1 600 := by
  refine AMet.of [(0, .ref 68)] (by decide +kernel) rfl (Nat.le_of_ble_eq_true rfl) ?_
  refine aw_aload_n 0 D_sh_init_0 rfl rfl ?_
  refine aw_obj D_sh_init_1 ?_
  refine aw_aload_n 0 D_sh_init_4 rfl rfl ?_
  refine aw_iconst (-nI 1) D_sh_init_5 rfl ?_
  refine aw_put tc_sh D_sh_init_6 rfl (Nat.le_of_ble_eq_true rfl) rfl rfl ?_
  refine aw_aload_n 0 D_sh_init_9 rfl rfl ?_
  refine aw_sipush (nI 600) D_sh_init_10 rfl ?_
  refine aw_newL 4 600 D_sh_init_13 rfl (by decide) ⟨by decide, by decide, Nat.le_of_ble_eq_true rfl⟩ (by decide) (by decide) ?_
  dsimp only [df_rg, df_ri, df_rr, df_sh, df_tr, df_br, df_mo, updw, pushw, keyw, List.set_cons_zero, List.set_cons_succ, List.getD, List.getElem?_cons_zero, List.getElem?_cons_succ, Option.getD_some, Nat.reduceMod, Nat.reduceDiv, Nat.reduceMul, Nat.reduceAdd, List.length_cons, List.length_nil, List.cons_append, List.nil_append]
  refine aw_putF tc_sh D_sh_init_15 rfl rfl rfl (Nat.le_of_ble_eq_true rfl) rfl rfl ?_
  dsimp only [df_rg, df_ri, df_rr, df_sh, df_tr, df_br, df_mo, updw, pushw, keyw, List.set_cons_zero, List.set_cons_succ, List.getD, List.getElem?_cons_zero, List.getElem?_cons_succ, Option.getD_some, Nat.reduceMod, Nat.reduceDiv, Nat.reduceMul, Nat.reduceAdd, List.length_cons, List.length_nil, List.cons_append, List.nil_append]
  refine aw_return D_sh_init_18 rfl ?_
  exact ⟨rfl, rfl⟩
theorem c_sh_init3 {a0 a1 a2 a3 a4 a5 : va_E} : AMet M_sh_init [.ref 100] [mn, rg, ri, tr, [a0, a1, a2, a3, a4, a5, .inr (3, df_sh)], rr, mo, dy] (Ex none [mn, rg, ri, tr, [a0, a1, a2, a3, a4, a5, .inr (3, [.int (-nI 1), .int (nI 0), .ref 116]), .inl (1, 600, .inr (.inl (fun _ => 0)))], rr, mo, dy]) 1 600 := by
  refine AMet.of [(0, .ref 100)] (by decide +kernel) rfl (Nat.le_of_ble_eq_true rfl) ?_
  refine aw_aload_n 0 D_sh_init_0 rfl rfl ?_
  refine aw_obj D_sh_init_1 ?_
  refine aw_aload_n 0 D_sh_init_4 rfl rfl ?_
  refine aw_iconst (-nI 1) D_sh_init_5 rfl ?_
  refine aw_put tc_sh D_sh_init_6 rfl (Nat.le_of_ble_eq_true rfl) rfl rfl ?_
  refine aw_aload_n 0 D_sh_init_9 rfl rfl ?_
  refine aw_sipush (nI 600) D_sh_init_10 rfl ?_
  refine aw_newL 4 600 D_sh_init_13 rfl (by decide) ⟨by decide, by decide, Nat.le_of_ble_eq_true rfl⟩ (by decide) (by decide) ?_
  dsimp only [df_rg, df_ri, df_rr, df_sh, df_tr, df_br, df_mo, updw, pushw, keyw, List.set_cons_zero, List.set_cons_succ, List.getD, List.getElem?_cons_zero, List.getElem?_cons_succ, Option.getD_some, Nat.reduceMod, Nat.reduceDiv, Nat.reduceMul, Nat.reduceAdd, List.length_cons, List.length_nil, List.cons_append, List.nil_append]
  refine aw_putF tc_sh D_sh_init_15 rfl rfl rfl (Nat.le_of_ble_eq_true rfl) rfl rfl ?_
  dsimp only [df_rg, df_ri, df_rr, df_sh, df_tr, df_br, df_mo, updw, pushw, keyw, List.set_cons_zero, List.set_cons_succ, List.getD, List.getElem?_cons_zero, List.getElem?_cons_succ, Option.getD_some, Nat.reduceMod, Nat.reduceDiv, Nat.reduceMul, Nat.reduceAdd, List.length_cons, List.length_nil, List.cons_append, List.nil_append]
  refine aw_return D_sh_init_18 rfl ?_
  exact ⟨rfl, rfl⟩
theorem c_mo_init : AMet M_mo_init [.ref 6] [mn, rg, ri, tr, sh, rr, [.inr (6, df_mo)], dy] (fun r w' => r = none ∧ ∃ la : Nat → Int32, (∀ k, k < 4 → la k = -nI 9) ∧ w' = [mn, rg, ri, tr, sh, rr, MO 0 0 3 0 0 (fun _ => 0) (fun _ => 0) (fun _ => 0) (fun _ => some 0) (fun _ => 0) (fun _ => 0) (fun _ => 0) (fun _ => 0) la (fun _ => 0) (fun _ => 0) (fun _ => 0) (fun _ => 0) (fun _ => 0) (fun _ => 0) (fun _ => 0), dy]) 16 12919 := by
  refine AMet.of [(0, .ref 6)] (by decide +kernel) rfl (Nat.le_of_ble_eq_true rfl) ?_
  refine aw_aload_n 0 D_mo_init_0 rfl rfl ?_
  refine aw_obj D_mo_init_1 ?_
  refine aw_aload_n 0 D_mo_init_4 rfl rfl ?_
  refine aw_iconst (nI 3) D_mo_init_5 rfl ?_
  refine aw_put tc_mo D_mo_init_6 rfl (Nat.le_of_ble_eq_true rfl) rfl rfl ?_
  refine aw_aload_n 0 D_mo_init_9 rfl rfl ?_
  refine aw_sipush (nI 512) D_mo_init_10 rfl ?_
  refine aw_newI 6 512 D_mo_init_13 rfl (by decide) ⟨by decide, by decide, Nat.le_of_ble_eq_true rfl⟩ (by decide) (by decide) ?_
  dsimp only [df_rg, df_ri, df_rr, df_sh, df_tr, df_br, df_mo, updw, pushw, keyw, List.set_cons_zero, List.set_cons_succ, List.getD, List.getElem?_cons_zero, List.getElem?_cons_succ, Option.getD_some, Nat.reduceMod, Nat.reduceDiv, Nat.reduceMul, Nat.reduceAdd, List.length_cons, List.length_nil, List.cons_append, List.nil_append]
  refine aw_putF tc_mo D_mo_init_15 rfl rfl rfl (Nat.le_of_ble_eq_true rfl) rfl rfl ?_
  dsimp only [df_rg, df_ri, df_rr, df_sh, df_tr, df_br, df_mo, updw, pushw, keyw, List.set_cons_zero, List.set_cons_succ, List.getD, List.getElem?_cons_zero, List.getElem?_cons_succ, Option.getD_some, Nat.reduceMod, Nat.reduceDiv, Nat.reduceMul, Nat.reduceAdd, List.length_cons, List.length_nil, List.cons_append, List.nil_append]
  refine aw_aload_n 0 D_mo_init_18 rfl rfl ?_
  refine aw_sipush (nI 512) D_mo_init_19 rfl ?_
  refine aw_newI 6 512 D_mo_init_22 rfl (by decide) ⟨by decide, by decide, Nat.le_of_ble_eq_true rfl⟩ (by decide) (by decide) ?_
  dsimp only [df_rg, df_ri, df_rr, df_sh, df_tr, df_br, df_mo, updw, pushw, keyw, List.set_cons_zero, List.set_cons_succ, List.getD, List.getElem?_cons_zero, List.getElem?_cons_succ, Option.getD_some, Nat.reduceMod, Nat.reduceDiv, Nat.reduceMul, Nat.reduceAdd, List.length_cons, List.length_nil, List.cons_append, List.nil_append]
  refine aw_putF tc_mo D_mo_init_24 rfl rfl rfl (Nat.le_of_ble_eq_true rfl) rfl rfl ?_
  dsimp only [df_rg, df_ri, df_rr, df_sh, df_tr, df_br, df_mo, updw, pushw, keyw, List.set_cons_zero, List.set_cons_succ, List.getD, List.getElem?_cons_zero, List.getElem?_cons_succ, Option.getD_some, Nat.reduceMod, Nat.reduceDiv, Nat.reduceMul, Nat.reduceAdd, List.length_cons, List.length_nil, List.cons_append, List.nil_append]
  refine aw_aload_n 0 D_mo_init_27 rfl rfl ?_
  refine aw_sipush (nI 512) D_mo_init_28 rfl ?_
  refine aw_newI 6 512 D_mo_init_31 rfl (by decide) ⟨by decide, by decide, Nat.le_of_ble_eq_true rfl⟩ (by decide) (by decide) ?_
  dsimp only [df_rg, df_ri, df_rr, df_sh, df_tr, df_br, df_mo, updw, pushw, keyw, List.set_cons_zero, List.set_cons_succ, List.getD, List.getElem?_cons_zero, List.getElem?_cons_succ, Option.getD_some, Nat.reduceMod, Nat.reduceDiv, Nat.reduceMul, Nat.reduceAdd, List.length_cons, List.length_nil, List.cons_append, List.nil_append]
  refine aw_putF tc_mo D_mo_init_33 rfl rfl rfl (Nat.le_of_ble_eq_true rfl) rfl rfl ?_
  dsimp only [df_rg, df_ri, df_rr, df_sh, df_tr, df_br, df_mo, updw, pushw, keyw, List.set_cons_zero, List.set_cons_succ, List.getD, List.getElem?_cons_zero, List.getElem?_cons_succ, Option.getD_some, Nat.reduceMod, Nat.reduceDiv, Nat.reduceMul, Nat.reduceAdd, List.length_cons, List.length_nil, List.cons_append, List.nil_append]
  refine aw_aload_n 0 D_mo_init_36 rfl rfl ?_
  refine aw_sipush (nI 512) D_mo_init_37 rfl ?_
  refine aw_newI 6 512 D_mo_init_40 rfl (by decide) ⟨by decide, by decide, Nat.le_of_ble_eq_true rfl⟩ (by decide) (by decide) ?_
  dsimp only [df_rg, df_ri, df_rr, df_sh, df_tr, df_br, df_mo, updw, pushw, keyw, List.set_cons_zero, List.set_cons_succ, List.getD, List.getElem?_cons_zero, List.getElem?_cons_succ, Option.getD_some, Nat.reduceMod, Nat.reduceDiv, Nat.reduceMul, Nat.reduceAdd, List.length_cons, List.length_nil, List.cons_append, List.nil_append]
  refine aw_putF tc_mo D_mo_init_42 rfl rfl rfl (Nat.le_of_ble_eq_true rfl) rfl rfl ?_
  dsimp only [df_rg, df_ri, df_rr, df_sh, df_tr, df_br, df_mo, updw, pushw, keyw, List.set_cons_zero, List.set_cons_succ, List.getD, List.getElem?_cons_zero, List.getElem?_cons_succ, Option.getD_some, Nat.reduceMod, Nat.reduceDiv, Nat.reduceMul, Nat.reduceAdd, List.length_cons, List.length_nil, List.cons_append, List.nil_append]
  refine aw_aload_n 0 D_mo_init_45 rfl rfl ?_
  refine aw_sipush (nI 512) D_mo_init_46 rfl ?_
  refine aw_newI 6 512 D_mo_init_49 rfl (by decide) ⟨by decide, by decide, Nat.le_of_ble_eq_true rfl⟩ (by decide) (by decide) ?_
  dsimp only [df_rg, df_ri, df_rr, df_sh, df_tr, df_br, df_mo, updw, pushw, keyw, List.set_cons_zero, List.set_cons_succ, List.getD, List.getElem?_cons_zero, List.getElem?_cons_succ, Option.getD_some, Nat.reduceMod, Nat.reduceDiv, Nat.reduceMul, Nat.reduceAdd, List.length_cons, List.length_nil, List.cons_append, List.nil_append]
  refine aw_putF tc_mo D_mo_init_51 rfl rfl rfl (Nat.le_of_ble_eq_true rfl) rfl rfl ?_
  dsimp only [df_rg, df_ri, df_rr, df_sh, df_tr, df_br, df_mo, updw, pushw, keyw, List.set_cons_zero, List.set_cons_succ, List.getD, List.getElem?_cons_zero, List.getElem?_cons_succ, Option.getD_some, Nat.reduceMod, Nat.reduceDiv, Nat.reduceMul, Nat.reduceAdd, List.length_cons, List.length_nil, List.cons_append, List.nil_append]
  refine aw_aload_n 0 D_mo_init_54 rfl rfl ?_
  refine aw_sipush (nI 512) D_mo_init_55 rfl ?_
  refine aw_newI 6 512 D_mo_init_58 rfl (by decide) ⟨by decide, by decide, Nat.le_of_ble_eq_true rfl⟩ (by decide) (by decide) ?_
  dsimp only [df_rg, df_ri, df_rr, df_sh, df_tr, df_br, df_mo, updw, pushw, keyw, List.set_cons_zero, List.set_cons_succ, List.getD, List.getElem?_cons_zero, List.getElem?_cons_succ, Option.getD_some, Nat.reduceMod, Nat.reduceDiv, Nat.reduceMul, Nat.reduceAdd, List.length_cons, List.length_nil, List.cons_append, List.nil_append]
  refine aw_putF tc_mo D_mo_init_60 rfl rfl rfl (Nat.le_of_ble_eq_true rfl) rfl rfl ?_
  dsimp only [df_rg, df_ri, df_rr, df_sh, df_tr, df_br, df_mo, updw, pushw, keyw, List.set_cons_zero, List.set_cons_succ, List.getD, List.getElem?_cons_zero, List.getElem?_cons_succ, Option.getD_some, Nat.reduceMod, Nat.reduceDiv, Nat.reduceMul, Nat.reduceAdd, List.length_cons, List.length_nil, List.cons_append, List.nil_append]
  refine aw_aload_n 0 D_mo_init_63 rfl rfl ?_
  refine aw_sipush (nI 512) D_mo_init_64 rfl ?_
  refine aw_newI 6 512 D_mo_init_67 rfl (by decide) ⟨by decide, by decide, Nat.le_of_ble_eq_true rfl⟩ (by decide) (by decide) ?_
  dsimp only [df_rg, df_ri, df_rr, df_sh, df_tr, df_br, df_mo, updw, pushw, keyw, List.set_cons_zero, List.set_cons_succ, List.getD, List.getElem?_cons_zero, List.getElem?_cons_succ, Option.getD_some, Nat.reduceMod, Nat.reduceDiv, Nat.reduceMul, Nat.reduceAdd, List.length_cons, List.length_nil, List.cons_append, List.nil_append]
  refine aw_putF tc_mo D_mo_init_69 rfl rfl rfl (Nat.le_of_ble_eq_true rfl) rfl rfl ?_
  dsimp only [df_rg, df_ri, df_rr, df_sh, df_tr, df_br, df_mo, updw, pushw, keyw, List.set_cons_zero, List.set_cons_succ, List.getD, List.getElem?_cons_zero, List.getElem?_cons_succ, Option.getD_some, Nat.reduceMod, Nat.reduceDiv, Nat.reduceMul, Nat.reduceAdd, List.length_cons, List.length_nil, List.cons_append, List.nil_append]
  refine aw_aload_n 0 D_mo_init_72 rfl rfl ?_
  refine aw_sipush (nI 512) D_mo_init_73 rfl ?_
  refine aw_newI 6 512 D_mo_init_76 rfl (by decide) ⟨by decide, by decide, Nat.le_of_ble_eq_true rfl⟩ (by decide) (by decide) ?_
  dsimp only [df_rg, df_ri, df_rr, df_sh, df_tr, df_br, df_mo, updw, pushw, keyw, List.set_cons_zero, List.set_cons_succ, List.getD, List.getElem?_cons_zero, List.getElem?_cons_succ, Option.getD_some, Nat.reduceMod, Nat.reduceDiv, Nat.reduceMul, Nat.reduceAdd, List.length_cons, List.length_nil, List.cons_append, List.nil_append]
  refine aw_putF tc_mo D_mo_init_78 rfl rfl rfl (Nat.le_of_ble_eq_true rfl) rfl rfl ?_
  dsimp only [df_rg, df_ri, df_rr, df_sh, df_tr, df_br, df_mo, updw, pushw, keyw, List.set_cons_zero, List.set_cons_succ, List.getD, List.getElem?_cons_zero, List.getElem?_cons_succ, Option.getD_some, Nat.reduceMod, Nat.reduceDiv, Nat.reduceMul, Nat.reduceAdd, List.length_cons, List.length_nil, List.cons_append, List.nil_append]
  refine aw_aload_n 0 D_mo_init_81 rfl rfl ?_
  refine aw_iconst (nI 4) D_mo_init_82 rfl ?_
  refine aw_newI 6 4 D_mo_init_83 rfl (by decide) ⟨by decide, by decide, Nat.le_of_ble_eq_true rfl⟩ (by decide) (by decide) ?_
  dsimp only [df_rg, df_ri, df_rr, df_sh, df_tr, df_br, df_mo, updw, pushw, keyw, List.set_cons_zero, List.set_cons_succ, List.getD, List.getElem?_cons_zero, List.getElem?_cons_succ, Option.getD_some, Nat.reduceMod, Nat.reduceDiv, Nat.reduceMul, Nat.reduceAdd, List.length_cons, List.length_nil, List.cons_append, List.nil_append]
  refine aw_dup D_mo_init_85 rfl ?_
  refine aw_iconst (nI 0) D_mo_init_86 rfl ?_
  refine aw_bipush (-nI 9) D_mo_init_87 rfl ?_
  refine aw_iastJ D_mo_init_89 rfl (by decide) (by omega) ?_
  refine aw_dup D_mo_init_90 rfl ?_
  refine aw_iconst (nI 1) D_mo_init_91 rfl ?_
  refine aw_bipush (-nI 9) D_mo_init_92 rfl ?_
  refine aw_iastJ D_mo_init_94 rfl (by decide) (by omega) ?_
  refine aw_dup D_mo_init_95 rfl ?_
  refine aw_iconst (nI 2) D_mo_init_96 rfl ?_
  refine aw_bipush (-nI 9) D_mo_init_97 rfl ?_
  refine aw_iastJ D_mo_init_99 rfl (by decide) (by omega) ?_
  refine aw_dup D_mo_init_100 rfl ?_
  refine aw_iconst (nI 3) D_mo_init_101 rfl ?_
  refine aw_bipush (-nI 9) D_mo_init_102 rfl ?_
  refine aw_iastJ D_mo_init_104 rfl (by decide) (by omega) ?_
  refine aw_putF tc_mo D_mo_init_105 rfl rfl rfl (Nat.le_of_ble_eq_true rfl) rfl rfl ?_
  dsimp only [df_rg, df_ri, df_rr, df_sh, df_tr, df_br, df_mo, updw, pushw, keyw, List.set_cons_zero, List.set_cons_succ, List.getD, List.getElem?_cons_zero, List.getElem?_cons_succ, Option.getD_some, Nat.reduceMod, Nat.reduceDiv, Nat.reduceMul, Nat.reduceAdd, List.length_cons, List.length_nil, List.cons_append, List.nil_append]
  refine aw_aload_n 0 D_mo_init_108 rfl rfl ?_
  refine aw_iconst (nI 4) D_mo_init_109 rfl ?_
  refine aw_newI 6 4 D_mo_init_110 rfl (by decide) ⟨by decide, by decide, Nat.le_of_ble_eq_true rfl⟩ (by decide) (by decide) ?_
  dsimp only [df_rg, df_ri, df_rr, df_sh, df_tr, df_br, df_mo, updw, pushw, keyw, List.set_cons_zero, List.set_cons_succ, List.getD, List.getElem?_cons_zero, List.getElem?_cons_succ, Option.getD_some, Nat.reduceMod, Nat.reduceDiv, Nat.reduceMul, Nat.reduceAdd, List.length_cons, List.length_nil, List.cons_append, List.nil_append]
  refine aw_putF tc_mo D_mo_init_112 rfl rfl rfl (Nat.le_of_ble_eq_true rfl) rfl rfl ?_
  dsimp only [df_rg, df_ri, df_rr, df_sh, df_tr, df_br, df_mo, updw, pushw, keyw, List.set_cons_zero, List.set_cons_succ, List.getD, List.getElem?_cons_zero, List.getElem?_cons_succ, Option.getD_some, Nat.reduceMod, Nat.reduceDiv, Nat.reduceMul, Nat.reduceAdd, List.length_cons, List.length_nil, List.cons_append, List.nil_append]
  refine aw_aload_n 0 D_mo_init_115 rfl rfl ?_
  refine aw_sipush (nI 2400) D_mo_init_116 rfl ?_
  refine aw_newL 6 2400 D_mo_init_119 rfl (by decide) ⟨by decide, by decide, Nat.le_of_ble_eq_true rfl⟩ (by decide) (by decide) ?_
  dsimp only [df_rg, df_ri, df_rr, df_sh, df_tr, df_br, df_mo, updw, pushw, keyw, List.set_cons_zero, List.set_cons_succ, List.getD, List.getElem?_cons_zero, List.getElem?_cons_succ, Option.getD_some, Nat.reduceMod, Nat.reduceDiv, Nat.reduceMul, Nat.reduceAdd, List.length_cons, List.length_nil, List.cons_append, List.nil_append]
  refine aw_putF tc_mo D_mo_init_121 rfl rfl rfl (Nat.le_of_ble_eq_true rfl) rfl rfl ?_
  dsimp only [df_rg, df_ri, df_rr, df_sh, df_tr, df_br, df_mo, updw, pushw, keyw, List.set_cons_zero, List.set_cons_succ, List.getD, List.getElem?_cons_zero, List.getElem?_cons_succ, Option.getD_some, Nat.reduceMod, Nat.reduceDiv, Nat.reduceMul, Nat.reduceAdd, List.length_cons, List.length_nil, List.cons_append, List.nil_append]
  refine aw_aload_n 0 D_mo_init_124 rfl rfl ?_
  refine aw_sipush (nI 4096) D_mo_init_125 rfl ?_
  refine aw_newL 6 4096 D_mo_init_128 rfl (by decide) ⟨by decide, by decide, Nat.le_of_ble_eq_true rfl⟩ (by decide) (by decide) ?_
  dsimp only [df_rg, df_ri, df_rr, df_sh, df_tr, df_br, df_mo, updw, pushw, keyw, List.set_cons_zero, List.set_cons_succ, List.getD, List.getElem?_cons_zero, List.getElem?_cons_succ, Option.getD_some, Nat.reduceMod, Nat.reduceDiv, Nat.reduceMul, Nat.reduceAdd, List.length_cons, List.length_nil, List.cons_append, List.nil_append]
  refine aw_putF tc_mo D_mo_init_130 rfl rfl rfl (Nat.le_of_ble_eq_true rfl) rfl rfl ?_
  dsimp only [df_rg, df_ri, df_rr, df_sh, df_tr, df_br, df_mo, updw, pushw, keyw, List.set_cons_zero, List.set_cons_succ, List.getD, List.getElem?_cons_zero, List.getElem?_cons_succ, Option.getD_some, Nat.reduceMod, Nat.reduceDiv, Nat.reduceMul, Nat.reduceAdd, List.length_cons, List.length_nil, List.cons_append, List.nil_append]
  refine aw_aload_n 0 D_mo_init_133 rfl rfl ?_
  refine aw_sipush (nI 512) D_mo_init_134 rfl ?_
  refine aw_newZ 6 512 D_mo_init_137 rfl (by decide) ⟨by decide, by decide, Nat.le_of_ble_eq_true rfl⟩ (by decide) (by decide) ?_
  dsimp only [df_rg, df_ri, df_rr, df_sh, df_tr, df_br, df_mo, updw, pushw, keyw, List.set_cons_zero, List.set_cons_succ, List.getD, List.getElem?_cons_zero, List.getElem?_cons_succ, Option.getD_some, Nat.reduceMod, Nat.reduceDiv, Nat.reduceMul, Nat.reduceAdd, List.length_cons, List.length_nil, List.cons_append, List.nil_append]
  refine aw_putF tc_mo D_mo_init_139 rfl rfl rfl (Nat.le_of_ble_eq_true rfl) rfl rfl ?_
  dsimp only [df_rg, df_ri, df_rr, df_sh, df_tr, df_br, df_mo, updw, pushw, keyw, List.set_cons_zero, List.set_cons_succ, List.getD, List.getElem?_cons_zero, List.getElem?_cons_succ, Option.getD_some, Nat.reduceMod, Nat.reduceDiv, Nat.reduceMul, Nat.reduceAdd, List.length_cons, List.length_nil, List.cons_append, List.nil_append]
  refine aw_aload_n 0 D_mo_init_142 rfl rfl ?_
  refine aw_sipush (nI 601) D_mo_init_143 rfl ?_
  refine aw_newI 6 601 D_mo_init_146 rfl (by decide) ⟨by decide, by decide, Nat.le_of_ble_eq_true rfl⟩ (by decide) (by decide) ?_
  dsimp only [df_rg, df_ri, df_rr, df_sh, df_tr, df_br, df_mo, updw, pushw, keyw, List.set_cons_zero, List.set_cons_succ, List.getD, List.getElem?_cons_zero, List.getElem?_cons_succ, Option.getD_some, Nat.reduceMod, Nat.reduceDiv, Nat.reduceMul, Nat.reduceAdd, List.length_cons, List.length_nil, List.cons_append, List.nil_append]
  refine aw_putF tc_mo D_mo_init_148 rfl rfl rfl (Nat.le_of_ble_eq_true rfl) rfl rfl ?_
  dsimp only [df_rg, df_ri, df_rr, df_sh, df_tr, df_br, df_mo, updw, pushw, keyw, List.set_cons_zero, List.set_cons_succ, List.getD, List.getElem?_cons_zero, List.getElem?_cons_succ, Option.getD_some, Nat.reduceMod, Nat.reduceDiv, Nat.reduceMul, Nat.reduceAdd, List.length_cons, List.length_nil, List.cons_append, List.nil_append]
  refine aw_aload_n 0 D_mo_init_151 rfl rfl ?_
  refine aw_sipush (nI 601) D_mo_init_152 rfl ?_
  refine aw_newI 6 601 D_mo_init_155 rfl (by decide) ⟨by decide, by decide, Nat.le_of_ble_eq_true rfl⟩ (by decide) (by decide) ?_
  dsimp only [df_rg, df_ri, df_rr, df_sh, df_tr, df_br, df_mo, updw, pushw, keyw, List.set_cons_zero, List.set_cons_succ, List.getD, List.getElem?_cons_zero, List.getElem?_cons_succ, Option.getD_some, Nat.reduceMod, Nat.reduceDiv, Nat.reduceMul, Nat.reduceAdd, List.length_cons, List.length_nil, List.cons_append, List.nil_append]
  refine aw_putF tc_mo D_mo_init_157 rfl rfl rfl (Nat.le_of_ble_eq_true rfl) rfl rfl ?_
  dsimp only [df_rg, df_ri, df_rr, df_sh, df_tr, df_br, df_mo, updw, pushw, keyw, List.set_cons_zero, List.set_cons_succ, List.getD, List.getElem?_cons_zero, List.getElem?_cons_succ, Option.getD_some, Nat.reduceMod, Nat.reduceDiv, Nat.reduceMul, Nat.reduceAdd, List.length_cons, List.length_nil, List.cons_append, List.nil_append]
  refine aw_aload_n 0 D_mo_init_160 rfl rfl ?_
  refine aw_sipush (nI 601) D_mo_init_161 rfl ?_
  refine aw_newI 6 601 D_mo_init_164 rfl (by decide) ⟨by decide, by decide, Nat.le_of_ble_eq_true rfl⟩ (by decide) (by decide) ?_
  dsimp only [df_rg, df_ri, df_rr, df_sh, df_tr, df_br, df_mo, updw, pushw, keyw, List.set_cons_zero, List.set_cons_succ, List.getD, List.getElem?_cons_zero, List.getElem?_cons_succ, Option.getD_some, Nat.reduceMod, Nat.reduceDiv, Nat.reduceMul, Nat.reduceAdd, List.length_cons, List.length_nil, List.cons_append, List.nil_append]
  refine aw_putF tc_mo D_mo_init_166 rfl rfl rfl (Nat.le_of_ble_eq_true rfl) rfl rfl ?_
  dsimp only [df_rg, df_ri, df_rr, df_sh, df_tr, df_br, df_mo, updw, pushw, keyw, List.set_cons_zero, List.set_cons_succ, List.getD, List.getElem?_cons_zero, List.getElem?_cons_succ, Option.getD_some, Nat.reduceMod, Nat.reduceDiv, Nat.reduceMul, Nat.reduceAdd, List.length_cons, List.length_nil, List.cons_append, List.nil_append]
  refine aw_return D_mo_init_169 rfl ?_
  refine ⟨rfl, _, ?_, rfl⟩; intro k hk; rcases (show k = 0 ∨ k = 1 ∨ k = 2 ∨ k = 3 by omega) with rfl | rfl | rfl | rfl <;> rfl
end Ctor
