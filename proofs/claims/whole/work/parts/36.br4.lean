/-! ### BitRings: sheets, telling -/
section ShL
variable {a b c d e f g : List va_E} {la : Nat → Int32} {zs : Nat → Nat} {cs : Nat → Nat → Int64} {k : Nat}
theorem sh_obj (hk : k < 4) : look [a, b, c, d, SH la zs cs, e, f, g] (4 + 32 * k) = some (.inr (3, [.int (la k), .int (nI (zs k)), .ref (20 + 32 * k)])) := by
  rcases (show k = 0 ∨ k = 1 ∨ k = 2 ∨ k = 3 by omega) with rfl | rfl | rfl | rfl <;> rfl
theorem sh_cel (hk : k < 4) : look [a, b, c, d, SH la zs cs, e, f, g] (20 + 32 * k) = some (.inl (1, 600, .inr (.inl (cs k)))) := by
  rcases (show k = 0 ∨ k = 1 ∨ k = 2 ∨ k = 3 by omega) with rfl | rfl | rfl | rfl <;> rfl
theorem sh_objr (hk : k < 4) : (SH la zs cs)[(4 + 32 * k) / 16]? = some (.inr (3, [.int (la k), .int (nI (zs k)), .ref (20 + 32 * k)])) := by
  rcases (show k = 0 ∨ k = 1 ∨ k = 2 ∨ k = 3 by omega) with rfl | rfl | rfl | rfl <;> rfl
theorem sh_celr (hk : k < 4) : (SH la zs cs)[(20 + 32 * k) / 16]? = some (.inl (1, 600, .inr (.inl (cs k)))) := by
  rcases (show k = 0 ∨ k = 1 ∨ k = 2 ∨ k = 3 by omega) with rfl | rfl | rfl | rfl <;> rfl
theorem sh_ob_up {l : Int32} {z : Nat} (hk : k < 4) : updw [a, b, c, d, SH la zs cs, e, f, g] (4 + 32 * k) (.inr (3, [.int l, .int (nI z), .ref (20 + 32 * k)])) = [a, b, c, d, SH (va_up la k l) (va_up zs k z) cs, e, f, g] := by
  rcases (show k = 0 ∨ k = 1 ∨ k = 2 ∨ k = 3 by omega) with rfl | rfl | rfl | rfl <;> rfl
theorem sh_ce_up {h : Nat → Int64} (hk : k < 4) : updw [a, b, c, d, SH la zs cs, e, f, g] (20 + 32 * k) (.inl (1, 600, .inr (.inl h))) = [a, b, c, d, SH la zs (va_up cs k h), e, f, g] := by
  rcases (show k = 0 ∨ k = 1 ∨ k = 2 ∨ k = 3 by omega) with rfl | rfl | rfl | rfl <;> rfl
theorem shf_at (hk : k < 4) : shf k = some (4 + 32 * k) := if_pos hk
theorem up_le {z x : Nat} (hz : ∀ k, zs k ≤ 600) (hx : x ≤ 600) : ∀ k, va_up zs z x k ≤ 600 := fun k => by unfold va_up; split; exact hx; exact hz k
theorem up_self {α : Type} (f : Nat → α) (k : Nat) (x : α) : va_up f k x k = x := if_pos rfl
theorem up_ne {α : Type} (f : Nat → α) {k j : Nat} (x : α) (h : j ≠ k) : va_up f k x j = f j := if_neg h
theorem up_up {α : Type} (f : Nat → α) (k : Nat) (x y : α) : va_up (va_up f k x) k y = va_up f k y := funext fun j => by unfold va_up; split <;> rfl
theorem up_id {α : Type} (f : Nat → α) (k : Nat) : va_up f k (f k) = f := funext fun j => by unfold va_up; split; (next h => rw [h]); rfl
theorem put_up {α : Type} (f h : Nat → α) (a n : Nat) : va_up (fb_put f h a n) (a + n) (h n) = fb_put f h a (n + 1) := by
  funext j
  unfold va_up
  by_cases q : j = a + n
  · rw [if_pos q, fb_put_in (by omega) (by omega), show j - a = n by omega]
  · rw [if_neg q]
    by_cases q2 : a ≤ j ∧ j < a + n
    · rw [fb_put_in q2.1 q2.2, fb_put_in (by omega) (by omega)]
    · rw [fb_put_out (by omega), fb_put_out (by omega)]
end ShL
section Br4h
variable {a1 a2 a3 a4 a5 a6 a7 : List va_E} {tc fl : Int32}
theorem c_br_faulted {x : Int32} : AMet M_br_faulted [.ref 0, .int x] [BR tc fl, a1, a2, a3, a4, a5, a6, a7] (Ex (some (.int (-nI 10 - x))) [BR tc x, a1, a2, a3, a4, a5, a6, a7]) 0 0 := by
  refine AMet.of [(0, .ref 0), (1, .int x)] (by decide +kernel) rfl (Nat.le_of_ble_eq_true rfl) ?_
  refine aw_aload_n 0 D_br_faulted_0 rfl rfl ?_
  refine aw_iload_n 1 D_br_faulted_1 rfl rfl ?_
  refine aw_put tc_br D_br_faulted_2 rfl (Nat.le_of_ble_eq_true rfl) rfl rfl ?_
  refine aw_bipush (-nI 10) D_br_faulted_5 rfl ?_
  refine aw_iload_n 1 D_br_faulted_7 rfl rfl ?_
  first | with_reducible refine aw_isubN D_br_faulted_8 (by omega) ?_ | refine aw_isub D_br_faulted_8 ?_
  refine aw_ireturn D_br_faulted_9 rfl rfl ?_
  exact ⟨rfl, rfl⟩
theorem c_br_leave {x : Int32} : AMet M_br_leave [.ref 0, .int x] [BR tc fl, a1, a2, a3, a4, a5, a6, a7] (Ex none [BR (nI 31 * tc + x) fl, a1, a2, a3, a4, a5, a6, a7]) 0 0 := by
  refine AMet.of [(0, .ref 0), (1, .int x)] (by decide +kernel) rfl (Nat.le_of_ble_eq_true rfl) ?_
  refine aw_aload_n 0 D_br_leave_0 rfl rfl ?_
  refine aw_bipush (nI 31) D_br_leave_1 rfl ?_
  refine aw_aload_n 0 D_br_leave_3 rfl rfl ?_
  refine aw_get D_br_leave_4 rfl rfl ?_
  first | with_reducible refine aw_imulN D_br_leave_7 ?_ | refine aw_imul D_br_leave_7 ?_
  refine aw_iload_n 1 D_br_leave_8 rfl rfl ?_
  first | with_reducible refine aw_iaddN D_br_leave_9 ?_ | refine aw_iadd D_br_leave_9 ?_
  refine aw_put tc_br D_br_leave_10 rfl (Nat.le_of_ble_eq_true rfl) rfl rfl ?_
  refine aw_return D_br_leave_13 rfl ?_
  exact ⟨rfl, rfl⟩
theorem c_br_tellAlone : AMet M_br_tellAlone [.ref 0] [BR tc fl, a1, a2, a3, a4, a5, a6, a7] (Ex (some (.int (nI 1))) [BR (nI 31 * tc + nI 1) fl, a1, a2, a3, a4, a5, a6, a7]) 0 0 := by
  refine AMet.of [(0, .ref 0)] (by decide +kernel) rfl (Nat.le_of_ble_eq_true rfl) ?_
  refine aw_aload_n 0 D_br_tellAlone_0 rfl rfl ?_
  refine aw_iconst (nI 1) D_br_tellAlone_1 rfl ?_
  refine aw_callVv (As := [_]) D_br_tellAlone_2 kv_br_leave (c_br_leave) rfl rfl rfl rfl rfl (Nat.le_of_ble_eq_true rfl) (Nat.zero_le _) (Nat.zero_le _) ?_
  refine aw_iconst (nI 1) D_br_tellAlone_5 rfl ?_
  refine aw_ireturn D_br_tellAlone_6 rfl rfl ?_
  exact ⟨rfl, rfl⟩
theorem c_br_tellLonger {m : Nat} : AMet M_br_tellLonger [.ref 0, .int (nI m)] [BR tc fl, a1, a2, a3, a4, a5, a6, a7] (Ex (some (.int (nI (2 + m)))) [BR (nI 31 * (nI 31 * tc + nI 2) + nI 1) fl, a1, a2, a3, a4, a5, a6, a7]) 0 0 := by
  refine AMet.of [(0, .ref 0), (1, .int (nI m))] (by decide +kernel) rfl (Nat.le_of_ble_eq_true rfl) ?_
  refine aw_aload_n 0 D_br_tellLonger_0 rfl rfl ?_
  refine aw_iconst (nI 2) D_br_tellLonger_1 rfl ?_
  refine aw_callVv (As := [_]) D_br_tellLonger_2 kv_br_leave (c_br_leave) rfl rfl rfl rfl rfl (Nat.le_of_ble_eq_true rfl) (Nat.zero_le _) (Nat.zero_le _) ?_
  refine aw_iconst (nI 2) D_br_tellLonger_5 rfl ?_
  refine aw_aload_n 0 D_br_tellLonger_6 rfl rfl ?_
  refine aw_callV1 (As := []) D_br_tellLonger_7 kv_br_tellAlone (c_br_tellAlone) rfl rfl rfl rfl rfl (Nat.le_of_ble_eq_true rfl) (Nat.zero_le _) (Nat.zero_le _) ?_
  first | with_reducible refine aw_imulN D_br_tellLonger_10 ?_ | refine aw_imul D_br_tellLonger_10 ?_
  refine aw_iload_n 1 D_br_tellLonger_11 rfl rfl ?_
  first | with_reducible refine aw_iaddN D_br_tellLonger_12 ?_ | refine aw_iadd D_br_tellLonger_12 ?_
  refine aw_ireturn D_br_tellLonger_13 rfl rfl ?_
  exact ⟨rfl, rfl⟩
theorem c_br_tellBehind {m : Nat} : AMet M_br_tellBehind [.ref 0, .int (nI m)] [BR tc fl, a1, a2, a3, a4, a5, a6, a7] (Ex (some (.int (nI 1 - nI m))) [BR (nI 31 * (nI 31 * tc + nI 3) + nI 1) fl, a1, a2, a3, a4, a5, a6, a7]) 0 0 := by
  refine AMet.of [(0, .ref 0), (1, .int (nI m))] (by decide +kernel) rfl (Nat.le_of_ble_eq_true rfl) ?_
  refine aw_aload_n 0 D_br_tellBehind_0 rfl rfl ?_
  refine aw_iconst (nI 3) D_br_tellBehind_1 rfl ?_
  refine aw_callVv (As := [_]) D_br_tellBehind_2 kv_br_leave (c_br_leave) rfl rfl rfl rfl rfl (Nat.le_of_ble_eq_true rfl) (Nat.zero_le _) (Nat.zero_le _) ?_
  refine aw_aload_n 0 D_br_tellBehind_5 rfl rfl ?_
  refine aw_callV1 (As := []) D_br_tellBehind_6 kv_br_tellAlone (c_br_tellAlone) rfl rfl rfl rfl rfl (Nat.le_of_ble_eq_true rfl) (Nat.zero_le _) (Nat.zero_le _) ?_
  refine aw_iload_n 1 D_br_tellBehind_9 rfl rfl ?_
  first | with_reducible refine aw_isubN D_br_tellBehind_10 (by omega) ?_ | refine aw_isub D_br_tellBehind_10 ?_
  refine aw_ireturn D_br_tellBehind_11 rfl rfl ?_
  exact ⟨rfl, rfl⟩
theorem c_br_weighLent {x : Int32} : AMet M_br_weighLent [.ref 0, .int x] [BR tc fl, a1, a2, a3, a4, a5, a6, a7] (Ex (some (.int x)) [BR (nI 31 * tc + nI 4) fl, a1, a2, a3, a4, a5, a6, a7]) 0 0 := by
  refine AMet.of [(0, .ref 0), (1, .int x)] (by decide +kernel) rfl (Nat.le_of_ble_eq_true rfl) ?_
  refine aw_aload_n 0 D_br_weighLent_0 rfl rfl ?_
  refine aw_iconst (nI 4) D_br_weighLent_1 rfl ?_
  refine aw_callVv (As := [_]) D_br_weighLent_2 kv_br_leave (c_br_leave) rfl rfl rfl rfl rfl (Nat.le_of_ble_eq_true rfl) (Nat.zero_le _) (Nat.zero_le _) ?_
  refine aw_iload_n 1 D_br_weighLent_5 rfl rfl ?_
  refine aw_ireturn D_br_weighLent_6 rfl rfl ?_
  exact ⟨rfl, rfl⟩
theorem c_br_weighBehind : AMet M_br_weighBehind [.ref 0] [BR tc fl, a1, a2, a3, a4, a5, a6, a7] (Ex (some (.int (nI 600))) [BR (nI 31 * tc + nI 5) fl, a1, a2, a3, a4, a5, a6, a7]) 0 0 := by
  refine AMet.of [(0, .ref 0)] (by decide +kernel) rfl (Nat.le_of_ble_eq_true rfl) ?_
  refine aw_aload_n 0 D_br_weighBehind_0 rfl rfl ?_
  refine aw_iconst (nI 5) D_br_weighBehind_1 rfl ?_
  refine aw_callVv (As := [_]) D_br_weighBehind_2 kv_br_leave (c_br_leave) rfl rfl rfl rfl rfl (Nat.le_of_ble_eq_true rfl) (Nat.zero_le _) (Nat.zero_le _) ?_
  refine aw_sipush (nI 600) D_br_weighBehind_5 rfl ?_
  refine aw_ireturn D_br_weighBehind_8 rfl rfl ?_
  exact ⟨rfl, rfl⟩
end Br4h
section Br4
variable {n : Nat} {b : Nat → Nat} {tc fl : Int32} {la : Nat → Int32} {zs : Nat → Nat} {cs : Nat → Nat → Int64} {mo : List va_E} {w : Wd}
noncomputable def cKd (n : Nat) (b : Nat → Nat) (s : Nat) : Nat := if 0 < cBe n b s then 2 else if cSz n b (cRo n b s) = 1 then 0 else 1
theorem kind_can {c pd st fa : Nat} {o : Nat → Option Nat} {be pc le sz : Nat → Nat} {s : Nat} (hn : 1 ≤ n) (hb : ∀ k, b k ≤ 1) (hF : FT n b c pd st fa o be pc le sz) (hs : s < 2 ^ n) : kind n o be sz s = cKd n b s ∧ sz ((o s).getD 0) = cSz n b (cRo n b s) ∧ be s = cBe n b s := by
  have hcan := hF.can hn hb
  have h1 := hcan.2.2.1 s hs
  have h2 := (hcan.2.1 _ (hF.2.1.1 s hs)).2
  dsimp only at h2
  rw [h1.1] at h2
  refine ⟨?_, by rw [h1.1]; exact h2, h1.2.1⟩
  unfold kind cKd
  rw [h1.1, h1.2.1, h2]
theorem c_br_backU {x y : Int32} (hx : ¬ vp_in x (2 ^ n)) (h : CS n b tc fl la zs cs mo w) : AMet M_br_back [.ref 0, .int x, .int y] w (Ex (some (.int (-nI 1))) w) 0 0 := by
  obtain ⟨ch, bn, c, pd, st, fa, o, be, pc, le, sz, wt, qu, kc, tw, mk, ru, ol, re, ms, sp, dy, rfl, hn, hn9, hb, hch, hD, hz⟩ := h
  have hp9 := pow_le9 hn9
  refine AMet.of [(0, .ref 0), (1, .int x), (2, .int y)] (by decide +kernel) rfl (Nat.le_of_ble_eq_true rfl) ?_
  refine aw_aload_n 0 D_br_back_0 rfl rfl ?_
  refine aw_get D_br_back_1 rfl rfl ?_
  refine aw_iload_n 1 D_br_back_4 rfl rfl ?_
  refine aw_callV1 (As := [_]) D_br_back_5 kv_rg_has (c_rg_hasF hx hp9) rfl rfl rfl rfl rfl (Nat.le_of_ble_eq_true rfl) (Nat.zero_le _) (Nat.zero_le _) ?_
  refine aw_if_neN D_br_back_8 (by omega) (fun h => absurd h (by omega)) (fun h => ?_)
  refine aw_iconst (-nI 1) D_br_back_11 rfl ?_
  refine aw_ireturn D_br_back_12 rfl rfl ?_
  exact ⟨rfl, rfl⟩
theorem c_br_backO {s : Nat} {y : Int32} (hs : s < 2 ^ n) (hy : y ≠ -nI 1) (hy2 : ¬ vp_in y 2) (h : CS n b tc fl la zs cs mo w) : AMet M_br_back [.ref 0, .int (nI s), .int y] w (Ex (some (.int (-nI 2))) w) 0 0 := by
  obtain ⟨ch, bn, c, pd, st, fa, o, be, pc, le, sz, wt, qu, kc, tw, mk, ru, ol, re, ms, sp, dy, rfl, hn, hn9, hb, hch, hD, hz⟩ := h
  have hp9 := pow_le9 hn9
  refine AMet.of [(0, .ref 0), (1, .int (nI s)), (2, .int y)] (by decide +kernel) rfl (Nat.le_of_ble_eq_true rfl) ?_
  refine aw_aload_n 0 D_br_back_0 rfl rfl ?_
  refine aw_get D_br_back_1 rfl rfl ?_
  refine aw_iload_n 1 D_br_back_4 rfl rfl ?_
  refine aw_callV1 (As := [_]) D_br_back_5 kv_rg_has (c_rg_hasT hs hp9) rfl rfl rfl rfl rfl (Nat.le_of_ble_eq_true rfl) (Nat.zero_le _) (Nat.zero_le _) ?_
  refine aw_if_neN D_br_back_8 (by omega) (fun h => ?_) (fun h => absurd h (by omega))
  refine aw_iload_n 2 D_br_back_13 rfl rfl ?_
  refine aw_iconst (-nI 1) D_br_back_14 rfl ?_
  refine aw_icmp_lt D_br_back_15 (fun h2 => ?_) (fun h2 => ?_)
  · refine aw_bipush (-nI 2) D_br_back_23 rfl ?_
    refine aw_ireturn D_br_back_25 rfl rfl ?_
    exact ⟨rfl, rfl⟩
  · refine aw_iload_n 2 D_br_back_18 rfl rfl ?_
    refine aw_iconst (nI 1) D_br_back_19 rfl ?_
    refine aw_icmp_le D_br_back_20 (fun h3 => ?_) (fun h3 => ?_)
    · exfalso
      have h4 : ¬ y < 0 := fun z => hy (by
        have e1 : (-nI 1 : Int32).toInt = -1 := by decide
        have e2 : y.toInt < 0 := by have := Int32.lt_iff_toInt_lt.mp z; rwa [show (0 : Int32).toInt = 0 from rfl] at this
        have e3 : ¬ y.toInt < -1 := fun q => h2 (Int32.lt_iff_toInt_lt.mpr (by rw [e1]; exact q))
        exact Int32.toInt_inj.mp (by rw [e1]; omega))
      exact hy2 (vp_of2 (N := 1) h4 (fun q => absurd h3 (Int32.not_le.mpr q)) (by decide))
    · refine aw_bipush (-nI 2) D_br_back_23 rfl ?_
      refine aw_ireturn D_br_back_25 rfl rfl ?_
      exact ⟨rfl, rfl⟩
theorem c_br_backM {s : Nat} (hs : s < 2 ^ n) (h : CS n b tc fl la zs cs mo w) : AMet M_br_back [.ref 0, .int (nI s), .int (-nI 1)] w (Ex (some (.int (nI (cb n b s)))) w) 0 0 := by
  obtain ⟨ch, bn, c, pd, st, fa, o, be, pc, le, sz, wt, qu, kc, tw, mk, ru, ol, re, ms, sp, dy, rfl, hn, hn9, hb, hch, hD, hz⟩ := h
  have hp9 := pow_le9 hn9
  refine AMet.of [(0, .ref 0), (1, .int (nI s)), (2, .int (-nI 1))] (by decide +kernel) rfl (Nat.le_of_ble_eq_true rfl) ?_
  refine aw_aload_n 0 D_br_back_0 rfl rfl ?_
  refine aw_get D_br_back_1 rfl rfl ?_
  refine aw_iload_n 1 D_br_back_4 rfl rfl ?_
  refine aw_callV1 (As := [_]) D_br_back_5 kv_rg_has (c_rg_hasT hs hp9) rfl rfl rfl rfl rfl (Nat.le_of_ble_eq_true rfl) (Nat.zero_le _) (Nat.zero_le _) ?_
  refine aw_if_neN D_br_back_8 (by omega) (fun h => ?_) (fun h => absurd h (by omega))
  refine aw_iload_n 2 D_br_back_13 rfl rfl ?_
  refine aw_iconst (-nI 1) D_br_back_14 rfl ?_
  refine aw_icmp_lt D_br_back_15 (fun h2 => absurd h2 (by decide)) (fun h2 => ?_)
  refine aw_iload_n 2 D_br_back_18 rfl rfl ?_
  refine aw_iconst (nI 1) D_br_back_19 rfl ?_
  refine aw_icmp_le D_br_back_20 (fun h3 => ?_) (fun h3 => absurd (by decide) h3)
  refine aw_aload_n 0 D_br_back_26 rfl rfl ?_
  refine aw_get D_br_back_27 rfl rfl ?_
  refine aw_iload_n 1 D_br_back_30 rfl rfl ?_
  refine aw_callV1 (As := [_]) D_br_back_31 kv_rg_countBefore (c_rg_cb (by omega) hn9 hs rfl hb) rfl rfl rfl rfl rfl (Nat.le_of_ble_eq_true rfl) (Nat.zero_le _) (Nat.zero_le _) ?_
  refine aw_istore_n 3 D_br_back_34 rfl (Nat.le_of_ble_eq_true rfl) rfl ?_
  refine aw_iload_n 2 D_br_back_35 rfl rfl ?_
  refine aw_iconst (-nI 1) D_br_back_36 rfl ?_
  refine aw_icmp_ne D_br_back_37 (fun h2 => absurd rfl h2) (fun h2 => ?_)
  refine aw_iload_n 3 D_br_back_40 rfl rfl ?_
  refine aw_ireturn D_br_back_41 rfl rfl ?_
  exact ⟨rfl, rfl⟩
theorem c_br_backX {s j : Nat} (hs : s < 2 ^ n) (hj : j ≤ 1) (h : CS n b tc fl la zs cs mo w) : AMet M_br_back [.ref 0, .int (nI s), .int (nI j)] w (Ex (some (.int (if cb n b s ≤ j then -nI 1 else nI (if j = 0 ∧ nx n b (2 * s % 2 ^ n) = s then 2 * s % 2 ^ n else 2 * s % 2 ^ n + 1)))) w) 0 0 := by
  obtain ⟨ch, bn, c, pd, st, fa, o, be, pc, le, sz, wt, qu, kc, tw, mk, ru, ol, re, ms, sp, dy, rfl, hn, hn9, hb, hch, hD, hz⟩ := h
  have hp9 := pow_le9 hn9
  refine AMet.of [(0, .ref 0), (1, .int (nI s)), (2, .int (nI j))] (by decide +kernel) rfl (Nat.le_of_ble_eq_true rfl) ?_
  have hcb : cb n b s ≤ 2 := by unfold cb; split <;> split <;> omega
  have hev : 2 * s % 2 ^ n < 2 ^ n := Nat.mod_lt _ (Nat.two_pow_pos n)
  have hnx := nx_lt (n := n) (b := b) (by omega) hev hb
  refine aw_aload_n 0 D_br_back_0 rfl rfl ?_
  refine aw_get D_br_back_1 rfl rfl ?_
  refine aw_iload_n 1 D_br_back_4 rfl rfl ?_
  refine aw_callV1 (As := [_]) D_br_back_5 kv_rg_has (c_rg_hasT hs hp9) rfl rfl rfl rfl rfl (Nat.le_of_ble_eq_true rfl) (Nat.zero_le _) (Nat.zero_le _) ?_
  refine aw_if_neN D_br_back_8 (by omega) (fun h => ?_) (fun h => absurd h (by omega))
  refine aw_iload_n 2 D_br_back_13 rfl rfl ?_
  refine aw_iconst (-nI 1) D_br_back_14 rfl ?_
  refine aw_icmp_lt D_br_back_15 (fun h2 => ?_) (fun h2 => ?_)
  · exfalso
    rcases (show j = 0 ∨ j = 1 by omega) with rfl | rfl <;> revert h2 <;> decide
  refine aw_iload_n 2 D_br_back_18 rfl rfl ?_
  refine aw_iconst (nI 1) D_br_back_19 rfl ?_
  refine aw_icmp_leN D_br_back_20 (by omega) (by omega) (fun h => ?_) (fun h => absurd h (by omega))
  refine aw_aload_n 0 D_br_back_26 rfl rfl ?_
  refine aw_get D_br_back_27 rfl rfl ?_
  refine aw_iload_n 1 D_br_back_30 rfl rfl ?_
  refine aw_callV1 (As := [_]) D_br_back_31 kv_rg_countBefore (c_rg_cb (by omega) hn9 hs rfl hb) rfl rfl rfl rfl rfl (Nat.le_of_ble_eq_true rfl) (Nat.zero_le _) (Nat.zero_le _) ?_
  refine aw_istore_n 3 D_br_back_34 rfl (Nat.le_of_ble_eq_true rfl) rfl ?_
  refine aw_iload_n 2 D_br_back_35 rfl rfl ?_
  refine aw_iconst (-nI 1) D_br_back_36 rfl ?_
  refine aw_icmp_ne D_br_back_37 (fun h2 => ?_) (fun h2 => ?_)
  · refine aw_iload_n 2 D_br_back_42 rfl rfl ?_
    refine aw_iload_n 3 D_br_back_43 rfl rfl ?_
    refine aw_icmp_ltN D_br_back_44 (by omega) (by omega) (fun h => ?_) (fun h => ?_)
    · rw [if_neg (by omega)]
      refine aw_aload_n 0 D_br_back_49 rfl rfl ?_
      refine aw_get D_br_back_50 rfl rfl ?_
      refine aw_iload_n 1 D_br_back_53 rfl rfl ?_
      refine aw_callV1 (As := [_]) D_br_back_54 kv_rg_evenBefore (c_rg_even hn9 hs rfl) rfl rfl rfl rfl rfl (Nat.le_of_ble_eq_true rfl) (Nat.zero_le _) (Nat.zero_le _) ?_
      refine aw_istore D_br_back_57 (Nat.le_of_ble_eq_true rfl) rfl ?_
      refine aw_iload_n 2 D_br_back_59 rfl rfl ?_
      refine aw_if_neN D_br_back_60 (by omega) (fun h => ?_) (fun h => ?_)
      · rw [if_neg (by omega)]
        refine aw_iconst (nI 0) D_br_back_80 rfl ?_
        refine aw_istore D_br_back_81 (Nat.le_of_ble_eq_true rfl) rfl ?_
        refine aw_iload D_br_back_83 rfl ?_
        refine aw_if_eqN D_br_back_85 (by omega) (fun h => ?_) (fun h => absurd h (by omega))
        refine aw_iload D_br_back_93 rfl ?_
        refine aw_iconst (nI 1) D_br_back_95 rfl ?_
        first | with_reducible refine aw_iaddN D_br_back_96 ?_ | refine aw_iadd D_br_back_96 ?_
        refine aw_ireturn D_br_back_97 rfl rfl ?_
        exact ⟨rfl, rfl⟩
      · refine aw_aload_n 0 D_br_back_63 rfl rfl ?_
        refine aw_get D_br_back_64 rfl rfl ?_
        refine aw_iload D_br_back_67 rfl ?_
        refine aw_callV1 (As := [_]) D_br_back_69 kv_rg_next (c_rg_next (by omega) hn9 hev hb) rfl rfl rfl rfl rfl (Nat.le_of_ble_eq_true rfl) (Nat.zero_le _) (Nat.zero_le _) ?_
        refine aw_iload_n 1 D_br_back_72 rfl rfl ?_
        refine aw_icmp_neN D_br_back_73 (by omega) (by omega) (fun h2 => ?_) (fun h2 => ?_)
        · rw [if_neg (fun q => h2 q.2)]
          refine aw_iconst (nI 0) D_br_back_80 rfl ?_
          refine aw_istore D_br_back_81 (Nat.le_of_ble_eq_true rfl) rfl ?_
          refine aw_iload D_br_back_83 rfl ?_
          refine aw_if_eqN D_br_back_85 (by omega) (fun h => ?_) (fun h => absurd h (by omega))
          refine aw_iload D_br_back_93 rfl ?_
          refine aw_iconst (nI 1) D_br_back_95 rfl ?_
          first | with_reducible refine aw_iaddN D_br_back_96 ?_ | refine aw_iadd D_br_back_96 ?_
          refine aw_ireturn D_br_back_97 rfl rfl ?_
          exact ⟨rfl, rfl⟩
        · rw [if_pos ⟨h, h2⟩]
          refine aw_iconst (nI 1) D_br_back_76 rfl ?_
          refine aw_goto D_br_back_77 ?_
          refine aw_istore D_br_back_81 (Nat.le_of_ble_eq_true rfl) rfl ?_
          refine aw_iload D_br_back_83 rfl ?_
          refine aw_if_eqN D_br_back_85 (by omega) (fun h => absurd h (by omega)) (fun h => ?_)
          refine aw_iload D_br_back_88 rfl ?_
          refine aw_goto D_br_back_90 ?_
          refine aw_ireturn D_br_back_97 rfl rfl ?_
          exact ⟨rfl, rfl⟩
    · rw [if_pos (by omega)]
      refine aw_iconst (-nI 1) D_br_back_47 rfl ?_
      refine aw_ireturn D_br_back_48 rfl rfl ?_
      exact ⟨rfl, rfl⟩
  · exfalso
    rcases (show j = 0 ∨ j = 1 by omega) with rfl | rfl <;> revert h2 <;> decide
theorem c_br_alongU {x y : Int32} (hx : ¬ vp_in x (cR n b)) (h : CS n b tc fl la zs cs mo w) : AMet M_br_along [.ref 0, .int x, .int y] w (fun r' w' => r' = some (.int (-nI 1)) ∧ CS n b tc fl la zs cs mo w') 0 0 := by
  obtain ⟨ch, bn, c, pd, st, fa, o, be, pc, le, sz, wt, qu, kc, tw, mk, ru, ol, re, ms, sp, dy, rfl, hn, hn9, hb, hch, hD, hz⟩ := h
  have hp9 := pow_le9 hn9
  refine AMet.of [(0, .ref 0), (1, .int x), (2, .int y)] (by decide +kernel) rfl (Nat.le_of_ble_eq_true rfl) ?_
  refine aw_aload_n 0 D_br_along_0 rfl rfl ?_
  refine aw_callV (As := []) D_br_along_1 kv_br_foundRings (c_br_found hn hn9 hb hch) rfl rfl rfl rfl rfl (Nat.le_of_ble_eq_true rfl) (Nat.zero_le _) (Nat.zero_le _) (fun r w' hp => ?_)
  obtain ⟨rfl, c, pd, st, fa, o, be, pc, le, sz, wt, qu, rfl, hF⟩ := hp
  have hcan := hF.can (by omega) hb
  have hRl := hF.2.1.R_le
  show AW M_br_along noP _ 0 0 4 _ [.ref 2] _ _ _
  refine aw_astore_n 3 D_br_along_4 rfl (Nat.le_of_ble_eq_true rfl) rfl ?_
  refine aw_aload_n 3 D_br_along_5 rfl rfl ?_
  refine aw_iload_n 1 D_br_along_6 rfl rfl ?_
  refine aw_callV1 (As := [_]) D_br_along_7 kv_ri_has (c_ri_hasF (by rw [hcan.1]; exact hx) (by omega)) rfl rfl rfl rfl rfl (Nat.le_of_ble_eq_true rfl) (Nat.zero_le _) (Nat.zero_le _) ?_
  refine aw_if_neN D_br_along_10 (by omega) (fun h => absurd h (by omega)) (fun h => ?_)
  refine aw_iconst (-nI 1) D_br_along_13 rfl ?_
  refine aw_ireturn D_br_along_14 rfl rfl ?_
  exact ⟨rfl, 0, bn, c, pd, st, fa, o, be, pc, le, sz, wt, qu, kc, tw, mk, ru, ol, re, ms, sp, dy, rfl, hn, hn9, hb, Or.inr ⟨rfl, hF⟩, hD, hz⟩
theorem c_br_alongO {r : Nat} {y : Int32} (hr : r < cR n b) (hy : y < 0) (h : CS n b tc fl la zs cs mo w) : AMet M_br_along [.ref 0, .int (nI r), .int y] w (fun r' w' => r' = some (.int (-nI 2)) ∧ CS n b tc fl la zs cs mo w') 0 0 := by
  obtain ⟨ch, bn, c, pd, st, fa, o, be, pc, le, sz, wt, qu, kc, tw, mk, ru, ol, re, ms, sp, dy, rfl, hn, hn9, hb, hch, hD, hz⟩ := h
  have hp9 := pow_le9 hn9
  refine AMet.of [(0, .ref 0), (1, .int (nI r)), (2, .int y)] (by decide +kernel) rfl (Nat.le_of_ble_eq_true rfl) ?_
  refine aw_aload_n 0 D_br_along_0 rfl rfl ?_
  refine aw_callV (As := []) D_br_along_1 kv_br_foundRings (c_br_found hn hn9 hb hch) rfl rfl rfl rfl rfl (Nat.le_of_ble_eq_true rfl) (Nat.zero_le _) (Nat.zero_le _) (fun r w' hp => ?_)
  obtain ⟨rfl, c, pd, st, fa, o, be, pc, le, sz, wt, qu, rfl, hF⟩ := hp
  have hcan := hF.can (by omega) hb
  have hRl := hF.2.1.R_le
  show AW M_br_along noP _ 0 0 4 _ [.ref 2] _ _ _
  have hrc : r < c := by rw [hcan.1]; exact hr
  refine aw_astore_n 3 D_br_along_4 rfl (Nat.le_of_ble_eq_true rfl) rfl ?_
  refine aw_aload_n 3 D_br_along_5 rfl rfl ?_
  refine aw_iload_n 1 D_br_along_6 rfl rfl ?_
  refine aw_callV1 (As := [_]) D_br_along_7 kv_ri_has (c_ri_hasT hrc (by omega)) rfl rfl rfl rfl rfl (Nat.le_of_ble_eq_true rfl) (Nat.zero_le _) (Nat.zero_le _) ?_
  refine aw_if_neN D_br_along_10 (by omega) (fun h => ?_) (fun h => absurd h (by omega))
  refine aw_iload_n 2 D_br_along_15 rfl rfl ?_
  refine aw_if_ge D_br_along_16 (fun h => absurd hy (Int32.not_lt.mpr h)) (fun h => ?_)
  refine aw_bipush (-nI 2) D_br_along_19 rfl ?_
  refine aw_ireturn D_br_along_21 rfl rfl ?_
  exact ⟨rfl, 0, bn, c, pd, st, fa, o, be, pc, le, sz, wt, qu, kc, tw, mk, ru, ol, re, ms, sp, dy, rfl, hn, hn9, hb, Or.inr ⟨rfl, hF⟩, hD, hz⟩
theorem c_br_alongT {r d : Nat} (hr : r < cR n b) (hd : d < 2 ^ 31) (h : CS n b tc fl la zs cs mo w) : AMet M_br_along [.ref 0, .int (nI r), .int (nI d)] w (fun r' w' => r' = some (.int (alike (nx n b) (cLe n b r) (itr (nx n b) d (cLe n b r)) (cSz n b r))) ∧ CS n b tc fl la zs cs mo w') 0 0 := by
  obtain ⟨ch, bn, c, pd, st, fa, o, be, pc, le, sz, wt, qu, kc, tw, mk, ru, ol, re, ms, sp, dy, rfl, hn, hn9, hb, hch, hD, hz⟩ := h
  have hp9 := pow_le9 hn9
  refine AMet.of [(0, .ref 0), (1, .int (nI r)), (2, .int (nI d))] (by decide +kernel) rfl (Nat.le_of_ble_eq_true rfl) ?_
  refine aw_aload_n 0 D_br_along_0 rfl rfl ?_
  refine aw_callV (As := []) D_br_along_1 kv_br_foundRings (c_br_found hn hn9 hb hch) rfl rfl rfl rfl rfl (Nat.le_of_ble_eq_true rfl) (Nat.zero_le _) (Nat.zero_le _) (fun r w' hp => ?_)
  obtain ⟨rfl, c, pd, st, fa, o, be, pc, le, sz, wt, qu, rfl, hF⟩ := hp
  have hcan := hF.can (by omega) hb
  have hRl := hF.2.1.R_le
  show AW M_br_along noP _ 0 0 4 _ [.ref 2] _ _ _
  have hrc : r < c := by rw [hcan.1]; exact hr
  refine aw_astore_n 3 D_br_along_4 rfl (Nat.le_of_ble_eq_true rfl) rfl ?_
  refine aw_aload_n 3 D_br_along_5 rfl rfl ?_
  refine aw_iload_n 1 D_br_along_6 rfl rfl ?_
  refine aw_callV1 (As := [_]) D_br_along_7 kv_ri_has (c_ri_hasT hrc (by omega)) rfl rfl rfl rfl rfl (Nat.le_of_ble_eq_true rfl) (Nat.zero_le _) (Nat.zero_le _) ?_
  refine aw_if_neN D_br_along_10 (by omega) (fun h => ?_) (fun h => absurd h (by omega))
  refine aw_iload_n 2 D_br_along_15 rfl rfl ?_
  refine aw_if_geN D_br_along_16 (by omega) ?_
  refine aw_aload_n 3 D_br_along_22 rfl rfl ?_
  refine aw_aload_n 0 D_br_along_23 rfl rfl ?_
  refine aw_get D_br_along_24 rfl rfl ?_
  refine aw_iload_n 1 D_br_along_27 rfl rfl ?_
  refine aw_iload_n 2 D_br_along_28 rfl rfl ?_
  refine aw_callV1 (As := [_, _, _]) D_br_along_29 kv_ri_likeness (c_ri_like hn hn9 hb hF hrc hd) rfl rfl rfl rfl rfl (Nat.le_of_ble_eq_true rfl) (Nat.zero_le _) (Nat.zero_le _) ?_
  rw [(hcan.2.1 r hrc).1, (hcan.2.1 r hrc).2]
  refine aw_ireturn D_br_along_32 rfl rfl ?_
  exact ⟨rfl, 0, bn, c, pd, st, fa, o, be, pc, le, sz, wt, qu, kc, tw, mk, ru, ol, re, ms, sp, dy, rfl, hn, hn9, hb, Or.inr ⟨rfl, hF⟩, hD, hz⟩
theorem c_br_tellU {x : Int32} (hx : ¬ vp_in x (2 ^ n)) (h : CS n b tc fl la zs cs mo w) : AMet M_br_tell [.ref 0, .int x] w (Ex (some (.int (-nI 1))) w) 0 0 := by
  obtain ⟨ch, bn, c, pd, st, fa, o, be, pc, le, sz, wt, qu, kc, tw, mk, ru, ol, re, ms, sp, dy, rfl, hn, hn9, hb, hch, hD, hz⟩ := h
  have hp9 := pow_le9 hn9
  refine AMet.of [(0, .ref 0), (1, .int x)] (by decide +kernel) rfl (Nat.le_of_ble_eq_true rfl) ?_
  refine aw_aload_n 0 D_br_tell_0 rfl rfl ?_
  refine aw_get D_br_tell_1 rfl rfl ?_
  refine aw_iload_n 1 D_br_tell_4 rfl rfl ?_
  refine aw_callV1 (As := [_]) D_br_tell_5 kv_rg_has (c_rg_hasF hx hp9) rfl rfl rfl rfl rfl (Nat.le_of_ble_eq_true rfl) (Nat.zero_le _) (Nat.zero_le _) ?_
  refine aw_if_neN D_br_tell_8 (by omega) (fun h => absurd h (by omega)) (fun h => ?_)
  refine aw_iconst (-nI 1) D_br_tell_11 rfl ?_
  refine aw_ireturn D_br_tell_12 rfl rfl ?_
  exact ⟨rfl, rfl⟩
theorem c_br_weighU {x : Int32} (hx : ¬ vp_in x (2 ^ n)) (h : CS n b tc fl la zs cs mo w) : AMet M_br_weigh [.ref 0, .int x] w (Ex (some (.int (-nI 1))) w) 0 0 := by
  obtain ⟨ch, bn, c, pd, st, fa, o, be, pc, le, sz, wt, qu, kc, tw, mk, ru, ol, re, ms, sp, dy, rfl, hn, hn9, hb, hch, hD, hz⟩ := h
  have hp9 := pow_le9 hn9
  refine AMet.of [(0, .ref 0), (1, .int x)] (by decide +kernel) rfl (Nat.le_of_ble_eq_true rfl) ?_
  refine aw_aload_n 0 D_br_weigh_0 rfl rfl ?_
  refine aw_get D_br_weigh_1 rfl rfl ?_
  refine aw_iload_n 1 D_br_weigh_4 rfl rfl ?_
  refine aw_callV1 (As := [_]) D_br_weigh_5 kv_rg_has (c_rg_hasF hx hp9) rfl rfl rfl rfl rfl (Nat.le_of_ble_eq_true rfl) (Nat.zero_le _) (Nat.zero_le _) ?_
  refine aw_if_neN D_br_weigh_8 (by omega) (fun h => absurd h (by omega)) (fun h => ?_)
  refine aw_iconst (-nI 1) D_br_weigh_11 rfl ?_
  refine aw_ireturn D_br_weigh_12 rfl rfl ?_
  exact ⟨rfl, rfl⟩
theorem c_br_tellB {s : Nat} (hs : s < 2 ^ n) (hkd : cKd n b s = 2) (h : CS n b tc fl la zs cs mo w) : AMet M_br_tell [.ref 0, .int (nI s)] w (fun r' w' => r' = some (.int (nI 1 - nI (cBe n b s))) ∧ CS n b (nI 31 * (nI 31 * tc + nI 3) + nI 1) fl la zs cs mo w') 0 0 := by
  obtain ⟨ch, bn, c, pd, st, fa, o, be, pc, le, sz, wt, qu, kc, tw, mk, ru, ol, re, ms, sp, dy, rfl, hn, hn9, hb, hch, hD, hz⟩ := h
  have hp9 := pow_le9 hn9
  refine AMet.of [(0, .ref 0), (1, .int (nI s))] (by decide +kernel) rfl (Nat.le_of_ble_eq_true rfl) ?_
  refine aw_aload_n 0 D_br_tell_0 rfl rfl ?_
  refine aw_get D_br_tell_1 rfl rfl ?_
  refine aw_iload_n 1 D_br_tell_4 rfl rfl ?_
  refine aw_callV1 (As := [_]) D_br_tell_5 kv_rg_has (c_rg_hasT hs hp9) rfl rfl rfl rfl rfl (Nat.le_of_ble_eq_true rfl) (Nat.zero_le _) (Nat.zero_le _) ?_
  refine aw_if_neN D_br_tell_8 (by omega) (fun h => ?_) (fun h => absurd h (by omega))
  refine aw_aload_n 0 D_br_tell_13 rfl rfl ?_
  refine aw_callV (As := []) D_br_tell_14 kv_br_foundRings (c_br_found hn hn9 hb hch) rfl rfl rfl rfl rfl (Nat.le_of_ble_eq_true rfl) (Nat.zero_le _) (Nat.zero_le _) (fun r w' hp => ?_)
  obtain ⟨rfl, c, pd, st, fa, o, be, pc, le, sz, wt, qu, rfl, hF⟩ := hp
  have hcan := hF.can (by omega) hb
  have hRl := hF.2.1.R_le
  show AW M_br_tell noP _ 0 0 17 _ [.ref 2] _ _ _
  have hk := kind_can (by omega) hb hF hs
  refine aw_astore_n 2 D_br_tell_17 rfl (Nat.le_of_ble_eq_true rfl) rfl ?_
  refine aw_aload_n 2 D_br_tell_18 rfl rfl ?_
  refine aw_iload_n 1 D_br_tell_19 rfl rfl ?_
  refine aw_callV1 (As := [_]) D_br_tell_20 kv_ri_kindOf (c_ri_kind hn hn9 hb hF hs) rfl rfl rfl rfl rfl (Nat.le_of_ble_eq_true rfl) (Nat.zero_le _) (Nat.zero_le _) ?_
  rw [hk.1, hkd]
  refine aw_lookup (off := 25) (tgt := 48) D_br_tell_23 (by decide) (by decide) (by decide) ?_
  refine aw_aload_n 0 D_br_tell_48 rfl rfl ?_
  refine aw_aload_n 2 D_br_tell_49 rfl rfl ?_
  refine aw_get D_br_tell_50 rfl rfl ?_
  refine aw_iload_n 1 D_br_tell_53 rfl rfl ?_
  refine aw_ialdN D_br_tell_54 rfl (by omega) (by omega) ?_
  refine aw_callV1 (As := [_]) D_br_tell_55 kv_br_tellBehind (c_br_tellBehind) rfl rfl rfl rfl rfl (Nat.le_of_ble_eq_true rfl) (Nat.zero_le _) (Nat.zero_le _) ?_
  rw [hk.2.2]
  refine aw_ireturn D_br_tell_58 rfl rfl ?_
  exact ⟨rfl, 0, bn, c, pd, st, fa, o, be, pc, le, sz, wt, qu, kc, tw, mk, ru, ol, re, ms, sp, dy, rfl, hn, hn9, hb, Or.inr ⟨rfl, hF⟩, hD, hz⟩
theorem c_br_tellL {s : Nat} (hs : s < 2 ^ n) (hkd : cKd n b s = 1) (h : CS n b tc fl la zs cs mo w) : AMet M_br_tell [.ref 0, .int (nI s)] w (fun r' w' => r' = some (.int (nI (2 + cSz n b (cRo n b s)))) ∧ CS n b (nI 31 * (nI 31 * tc + nI 2) + nI 1) fl la zs cs mo w') 0 0 := by
  obtain ⟨ch, bn, c, pd, st, fa, o, be, pc, le, sz, wt, qu, kc, tw, mk, ru, ol, re, ms, sp, dy, rfl, hn, hn9, hb, hch, hD, hz⟩ := h
  have hp9 := pow_le9 hn9
  refine AMet.of [(0, .ref 0), (1, .int (nI s))] (by decide +kernel) rfl (Nat.le_of_ble_eq_true rfl) ?_
  refine aw_aload_n 0 D_br_tell_0 rfl rfl ?_
  refine aw_get D_br_tell_1 rfl rfl ?_
  refine aw_iload_n 1 D_br_tell_4 rfl rfl ?_
  refine aw_callV1 (As := [_]) D_br_tell_5 kv_rg_has (c_rg_hasT hs hp9) rfl rfl rfl rfl rfl (Nat.le_of_ble_eq_true rfl) (Nat.zero_le _) (Nat.zero_le _) ?_
  refine aw_if_neN D_br_tell_8 (by omega) (fun h => ?_) (fun h => absurd h (by omega))
  refine aw_aload_n 0 D_br_tell_13 rfl rfl ?_
  refine aw_callV (As := []) D_br_tell_14 kv_br_foundRings (c_br_found hn hn9 hb hch) rfl rfl rfl rfl rfl (Nat.le_of_ble_eq_true rfl) (Nat.zero_le _) (Nat.zero_le _) (fun r w' hp => ?_)
  obtain ⟨rfl, c, pd, st, fa, o, be, pc, le, sz, wt, qu, rfl, hF⟩ := hp
  have hcan := hF.can (by omega) hb
  have hRl := hF.2.1.R_le
  show AW M_br_tell noP _ 0 0 17 _ [.ref 2] _ _ _
  have hk := kind_can (by omega) hb hF hs
  refine aw_astore_n 2 D_br_tell_17 rfl (Nat.le_of_ble_eq_true rfl) rfl ?_
  refine aw_aload_n 2 D_br_tell_18 rfl rfl ?_
  refine aw_iload_n 1 D_br_tell_19 rfl rfl ?_
  refine aw_callV1 (As := [_]) D_br_tell_20 kv_ri_kindOf (c_ri_kind hn hn9 hb hF hs) rfl rfl rfl rfl rfl (Nat.le_of_ble_eq_true rfl) (Nat.zero_le _) (Nat.zero_le _) ?_
  rw [hk.1, hkd]
  refine aw_lookup (off := 36) (tgt := 59) D_br_tell_23 (by decide) (by decide) (by decide) ?_
  refine aw_aload_n 0 D_br_tell_59 rfl rfl ?_
  refine aw_aload_n 2 D_br_tell_60 rfl rfl ?_
  refine aw_iload_n 1 D_br_tell_61 rfl rfl ?_
  refine aw_callV1 (As := [_]) D_br_tell_62 kv_ri_sizeAround (c_ri_around hn hn9 hb hF hs) rfl rfl rfl rfl rfl (Nat.le_of_ble_eq_true rfl) (Nat.zero_le _) (Nat.zero_le _) ?_
  refine aw_callV1 (As := [_]) D_br_tell_65 kv_br_tellLonger (c_br_tellLonger) rfl rfl rfl rfl rfl (Nat.le_of_ble_eq_true rfl) (Nat.zero_le _) (Nat.zero_le _) ?_
  rw [hk.2.1]
  refine aw_ireturn D_br_tell_68 rfl rfl ?_
  exact ⟨rfl, 0, bn, c, pd, st, fa, o, be, pc, le, sz, wt, qu, kc, tw, mk, ru, ol, re, ms, sp, dy, rfl, hn, hn9, hb, Or.inr ⟨rfl, hF⟩, hD, hz⟩
theorem c_br_tellA {s : Nat} (hs : s < 2 ^ n) (hkd : cKd n b s = 0) (h : CS n b tc fl la zs cs mo w) : AMet M_br_tell [.ref 0, .int (nI s)] w (fun r' w' => r' = some (.int (nI 1)) ∧ CS n b (nI 31 * tc + nI 1) fl la zs cs mo w') 0 0 := by
  obtain ⟨ch, bn, c, pd, st, fa, o, be, pc, le, sz, wt, qu, kc, tw, mk, ru, ol, re, ms, sp, dy, rfl, hn, hn9, hb, hch, hD, hz⟩ := h
  have hp9 := pow_le9 hn9
  refine AMet.of [(0, .ref 0), (1, .int (nI s))] (by decide +kernel) rfl (Nat.le_of_ble_eq_true rfl) ?_
  refine aw_aload_n 0 D_br_tell_0 rfl rfl ?_
  refine aw_get D_br_tell_1 rfl rfl ?_
  refine aw_iload_n 1 D_br_tell_4 rfl rfl ?_
  refine aw_callV1 (As := [_]) D_br_tell_5 kv_rg_has (c_rg_hasT hs hp9) rfl rfl rfl rfl rfl (Nat.le_of_ble_eq_true rfl) (Nat.zero_le _) (Nat.zero_le _) ?_
  refine aw_if_neN D_br_tell_8 (by omega) (fun h => ?_) (fun h => absurd h (by omega))
  refine aw_aload_n 0 D_br_tell_13 rfl rfl ?_
  refine aw_callV (As := []) D_br_tell_14 kv_br_foundRings (c_br_found hn hn9 hb hch) rfl rfl rfl rfl rfl (Nat.le_of_ble_eq_true rfl) (Nat.zero_le _) (Nat.zero_le _) (fun r w' hp => ?_)
  obtain ⟨rfl, c, pd, st, fa, o, be, pc, le, sz, wt, qu, rfl, hF⟩ := hp
  have hcan := hF.can (by omega) hb
  have hRl := hF.2.1.R_le
  show AW M_br_tell noP _ 0 0 17 _ [.ref 2] _ _ _
  have hk := kind_can (by omega) hb hF hs
  refine aw_astore_n 2 D_br_tell_17 rfl (Nat.le_of_ble_eq_true rfl) rfl ?_
  refine aw_aload_n 2 D_br_tell_18 rfl rfl ?_
  refine aw_iload_n 1 D_br_tell_19 rfl rfl ?_
  refine aw_callV1 (As := [_]) D_br_tell_20 kv_ri_kindOf (c_ri_kind hn hn9 hb hF hs) rfl rfl rfl rfl rfl (Nat.le_of_ble_eq_true rfl) (Nat.zero_le _) (Nat.zero_le _) ?_
  rw [hk.1, hkd]
  refine aw_lookup (off := 46) (tgt := 69) D_br_tell_23 (by decide) (by decide) (by decide) ?_
  refine aw_aload_n 0 D_br_tell_69 rfl rfl ?_
  refine aw_callV1 (As := []) D_br_tell_70 kv_br_tellAlone (c_br_tellAlone) rfl rfl rfl rfl rfl (Nat.le_of_ble_eq_true rfl) (Nat.zero_le _) (Nat.zero_le _) ?_
  refine aw_ireturn D_br_tell_73 rfl rfl ?_
  exact ⟨rfl, 0, bn, c, pd, st, fa, o, be, pc, le, sz, wt, qu, kc, tw, mk, ru, ol, re, ms, sp, dy, rfl, hn, hn9, hb, Or.inr ⟨rfl, hF⟩, hD, hz⟩
theorem c_br_weighB {s : Nat} (hs : s < 2 ^ n) (hkd : cKd n b s = 2) (h : CS n b tc fl la zs cs mo w) : AMet M_br_weigh [.ref 0, .int (nI s)] w (fun r' w' => r' = some (.int (nI 600)) ∧ CS n b (nI 31 * tc + nI 5) fl la zs cs mo w') 0 0 := by
  obtain ⟨ch, bn, c, pd, st, fa, o, be, pc, le, sz, wt, qu, kc, tw, mk, ru, ol, re, ms, sp, dy, rfl, hn, hn9, hb, hch, hD, hz⟩ := h
  have hp9 := pow_le9 hn9
  refine AMet.of [(0, .ref 0), (1, .int (nI s))] (by decide +kernel) rfl (Nat.le_of_ble_eq_true rfl) ?_
  refine aw_aload_n 0 D_br_weigh_0 rfl rfl ?_
  refine aw_get D_br_weigh_1 rfl rfl ?_
  refine aw_iload_n 1 D_br_weigh_4 rfl rfl ?_
  refine aw_callV1 (As := [_]) D_br_weigh_5 kv_rg_has (c_rg_hasT hs hp9) rfl rfl rfl rfl rfl (Nat.le_of_ble_eq_true rfl) (Nat.zero_le _) (Nat.zero_le _) ?_
  refine aw_if_neN D_br_weigh_8 (by omega) (fun h => ?_) (fun h => absurd h (by omega))
  refine aw_aload_n 0 D_br_weigh_13 rfl rfl ?_
  refine aw_callV (As := []) D_br_weigh_14 kv_br_foundRings (c_br_found hn hn9 hb hch) rfl rfl rfl rfl rfl (Nat.le_of_ble_eq_true rfl) (Nat.zero_le _) (Nat.zero_le _) (fun r w' hp => ?_)
  obtain ⟨rfl, c, pd, st, fa, o, be, pc, le, sz, wt, qu, rfl, hF⟩ := hp
  have hcan := hF.can (by omega) hb
  have hRl := hF.2.1.R_le
  show AW M_br_weigh noP _ 0 0 17 _ [.ref 2] _ _ _
  have hk := kind_can (by omega) hb hF hs
  refine aw_iload_n 1 D_br_weigh_17 rfl rfl ?_
  refine aw_callV1 (As := [_]) D_br_weigh_18 kv_ri_kindOf (c_ri_kind hn hn9 hb hF hs) rfl rfl rfl rfl rfl (Nat.le_of_ble_eq_true rfl) (Nat.zero_le _) (Nat.zero_le _) ?_
  rw [hk.1, hkd]
  refine aw_iconst (nI 2) D_br_weigh_21 rfl ?_
  refine aw_icmp_neN D_br_weigh_22 (by omega) (by omega) (fun h => absurd h (by omega)) (fun h => ?_)
  refine aw_aload_n 0 D_br_weigh_25 rfl rfl ?_
  refine aw_callV1 (As := []) D_br_weigh_26 kv_br_weighBehind (c_br_weighBehind) rfl rfl rfl rfl rfl (Nat.le_of_ble_eq_true rfl) (Nat.zero_le _) (Nat.zero_le _) ?_
  refine aw_goto D_br_weigh_29 ?_
  refine aw_ireturn D_br_weigh_37 rfl rfl ?_
  exact ⟨rfl, 0, bn, c, pd, st, fa, o, be, pc, le, sz, wt, qu, kc, tw, mk, ru, ol, re, ms, sp, dy, rfl, hn, hn9, hb, Or.inr ⟨rfl, hF⟩, hD, hz⟩
theorem c_br_weighL {s : Nat} (hs : s < 2 ^ n) (hkd : cKd n b s ≠ 2) (h : CS n b tc fl la zs cs mo w) : AMet M_br_weigh [.ref 0, .int (nI s)] w (fun r' w' => r' = some (.int (nI s)) ∧ CS n b (nI 31 * tc + nI 4) fl la zs cs mo w') 0 0 := by
  obtain ⟨ch, bn, c, pd, st, fa, o, be, pc, le, sz, wt, qu, kc, tw, mk, ru, ol, re, ms, sp, dy, rfl, hn, hn9, hb, hch, hD, hz⟩ := h
  have hp9 := pow_le9 hn9
  refine AMet.of [(0, .ref 0), (1, .int (nI s))] (by decide +kernel) rfl (Nat.le_of_ble_eq_true rfl) ?_
  refine aw_aload_n 0 D_br_weigh_0 rfl rfl ?_
  refine aw_get D_br_weigh_1 rfl rfl ?_
  refine aw_iload_n 1 D_br_weigh_4 rfl rfl ?_
  refine aw_callV1 (As := [_]) D_br_weigh_5 kv_rg_has (c_rg_hasT hs hp9) rfl rfl rfl rfl rfl (Nat.le_of_ble_eq_true rfl) (Nat.zero_le _) (Nat.zero_le _) ?_
  refine aw_if_neN D_br_weigh_8 (by omega) (fun h => ?_) (fun h => absurd h (by omega))
  refine aw_aload_n 0 D_br_weigh_13 rfl rfl ?_
  refine aw_callV (As := []) D_br_weigh_14 kv_br_foundRings (c_br_found hn hn9 hb hch) rfl rfl rfl rfl rfl (Nat.le_of_ble_eq_true rfl) (Nat.zero_le _) (Nat.zero_le _) (fun r w' hp => ?_)
  obtain ⟨rfl, c, pd, st, fa, o, be, pc, le, sz, wt, qu, rfl, hF⟩ := hp
  have hcan := hF.can (by omega) hb
  have hRl := hF.2.1.R_le
  show AW M_br_weigh noP _ 0 0 17 _ [.ref 2] _ _ _
  have hk := kind_can (by omega) hb hF hs
  have hk3 : cKd n b s ≤ 2 := by unfold cKd; split; omega; split <;> omega
  refine aw_iload_n 1 D_br_weigh_17 rfl rfl ?_
  refine aw_callV1 (As := [_]) D_br_weigh_18 kv_ri_kindOf (c_ri_kind hn hn9 hb hF hs) rfl rfl rfl rfl rfl (Nat.le_of_ble_eq_true rfl) (Nat.zero_le _) (Nat.zero_le _) ?_
  rw [hk.1]
  refine aw_iconst (nI 2) D_br_weigh_21 rfl ?_
  refine aw_icmp_neN D_br_weigh_22 (by omega) (by omega) (fun h => ?_) (fun h => absurd h (by omega))
  refine aw_aload_n 0 D_br_weigh_32 rfl rfl ?_
  refine aw_iload_n 1 D_br_weigh_33 rfl rfl ?_
  refine aw_callV1 (As := [_]) D_br_weigh_34 kv_br_weighLent (c_br_weighLent) rfl rfl rfl rfl rfl (Nat.le_of_ble_eq_true rfl) (Nat.zero_le _) (Nat.zero_le _) ?_
  refine aw_ireturn D_br_weigh_37 rfl rfl ?_
  exact ⟨rfl, 0, bn, c, pd, st, fa, o, be, pc, le, sz, wt, qu, kc, tw, mk, ru, ol, re, ms, sp, dy, rfl, hn, hn9, hb, Or.inr ⟨rfl, hF⟩, hD, hz⟩
theorem c_br_asU {x y : Int32} (hx : ¬ vp_in x (2 ^ n)) (h : CS n b tc fl la zs cs mo w) : AMet M_br_as [.ref 0, .int x, .int y] w (fun r' w' => r' = some (.int (-nI 1)) ∧ CS n b tc (nI 0) la zs cs mo w') 0 0 := by
  obtain ⟨ch, bn, c, pd, st, fa, o, be, pc, le, sz, wt, qu, kc, tw, mk, ru, ol, re, ms, sp, dy, rfl, hn, hn9, hb, hch, hD, hz⟩ := h
  have hp9 := pow_le9 hn9
  refine AMet.of [(0, .ref 0), (1, .int x), (2, .int y)] (by decide +kernel) rfl (Nat.le_of_ble_eq_true rfl) ?_
  refine aw_aload_n 0 D_br_as_0 rfl rfl ?_
  refine aw_iconst (nI 0) D_br_as_1 rfl ?_
  refine aw_put tc_br D_br_as_2 rfl (Nat.le_of_ble_eq_true rfl) rfl rfl ?_
  show AW M_br_as noP _ 0 0 5 _ _ [BR tc (nI 0), RG n (2 ^ n) ch b bn, RI c pd st fa o be pc le sz wt qu, TR kc tw, SH la zs cs, RR mk ru ol re ms sp, mo, dy] _ _
  refine aw_aload_n 0 D_br_as_5 rfl rfl ?_
  refine aw_get D_br_as_6 rfl rfl ?_
  refine aw_iload_n 1 D_br_as_9 rfl rfl ?_
  refine aw_callV1 (As := [_]) D_br_as_10 kv_rg_has (c_rg_hasF hx hp9) rfl rfl rfl rfl rfl (Nat.le_of_ble_eq_true rfl) (Nat.zero_le _) (Nat.zero_le _) ?_
  refine aw_if_neN D_br_as_13 (by omega) (fun h => absurd h (by omega)) (fun h => ?_)
  refine aw_iconst (-nI 1) D_br_as_16 rfl ?_
  refine aw_ireturn D_br_as_17 rfl rfl ?_
  exact ⟨rfl, ch, bn, c, pd, st, fa, o, be, pc, le, sz, wt, qu, kc, tw, mk, ru, ol, re, ms, sp, dy, rfl, hn, hn9, hb, hch, hD, hz⟩
theorem c_br_asO {s : Nat} {y : Int32} (hs : s < 2 ^ n) (hy : ¬ vp_in y 4) (h : CS n b tc fl la zs cs mo w) : AMet M_br_as [.ref 0, .int (nI s), .int y] w (fun r' w' => r' = some (.int (-nI 2)) ∧ CS n b tc (nI 0) la zs cs mo w') 0 0 := by
  obtain ⟨ch, bn, c, pd, st, fa, o, be, pc, le, sz, wt, qu, kc, tw, mk, ru, ol, re, ms, sp, dy, rfl, hn, hn9, hb, hch, hD, hz⟩ := h
  have hp9 := pow_le9 hn9
  refine AMet.of [(0, .ref 0), (1, .int (nI s)), (2, .int y)] (by decide +kernel) rfl (Nat.le_of_ble_eq_true rfl) ?_
  refine aw_aload_n 0 D_br_as_0 rfl rfl ?_
  refine aw_iconst (nI 0) D_br_as_1 rfl ?_
  refine aw_put tc_br D_br_as_2 rfl (Nat.le_of_ble_eq_true rfl) rfl rfl ?_
  show AW M_br_as noP _ 0 0 5 _ _ [BR tc (nI 0), RG n (2 ^ n) ch b bn, RI c pd st fa o be pc le sz wt qu, TR kc tw, SH la zs cs, RR mk ru ol re ms sp, mo, dy] _ _
  refine aw_aload_n 0 D_br_as_5 rfl rfl ?_
  refine aw_get D_br_as_6 rfl rfl ?_
  refine aw_iload_n 1 D_br_as_9 rfl rfl ?_
  refine aw_callV1 (As := [_]) D_br_as_10 kv_rg_has (c_rg_hasT hs hp9) rfl rfl rfl rfl rfl (Nat.le_of_ble_eq_true rfl) (Nat.zero_le _) (Nat.zero_le _) ?_
  refine aw_if_neN D_br_as_13 (by omega) (fun h => ?_) (fun h => absurd h (by omega))
  refine aw_iload_n 2 D_br_as_18 rfl rfl ?_
  refine aw_if_lt D_br_as_19 (fun h2 => ?_) (fun h2 => ?_)
  · refine aw_bipush (-nI 2) D_br_as_27 rfl ?_
    refine aw_ireturn D_br_as_29 rfl rfl ?_
    exact ⟨rfl, ch, bn, c, pd, st, fa, o, be, pc, le, sz, wt, qu, kc, tw, mk, ru, ol, re, ms, sp, dy, rfl, hn, hn9, hb, hch, hD, hz⟩
  · refine aw_iload_n 2 D_br_as_22 rfl rfl ?_
    refine aw_iconst (nI 3) D_br_as_23 rfl ?_
    refine aw_icmp_le D_br_as_24 (fun h3 => absurd (vp_of2 (N := 3) h2 (fun q => absurd h3 (Int32.not_le.mpr q)) (by decide)) hy) (fun h3 => ?_)
    refine aw_bipush (-nI 2) D_br_as_27 rfl ?_
    refine aw_ireturn D_br_as_29 rfl rfl ?_
    exact ⟨rfl, ch, bn, c, pd, st, fa, o, be, pc, le, sz, wt, qu, kc, tw, mk, ru, ol, re, ms, sp, dy, rfl, hn, hn9, hb, hch, hD, hz⟩
theorem c_br_asT {s j : Nat} (hs : s < 2 ^ n) (hj : j < 4) (hfit : j = cKd n b s ∨ j = 3 ∧ cKd n b s < 2) (h : CS n b tc fl la zs cs mo w) : AMet M_br_as [.ref 0, .int (nI s), .int (nI j)] w (fun r' w' => r' = some (.int (nI 1)) ∧ CS n b tc (nI 0) la zs cs mo w') 0 0 := by
  obtain ⟨ch, bn, c, pd, st, fa, o, be, pc, le, sz, wt, qu, kc, tw, mk, ru, ol, re, ms, sp, dy, rfl, hn, hn9, hb, hch, hD, hz⟩ := h
  have hp9 := pow_le9 hn9
  refine AMet.of [(0, .ref 0), (1, .int (nI s)), (2, .int (nI j))] (by decide +kernel) rfl (Nat.le_of_ble_eq_true rfl) ?_
  refine aw_aload_n 0 D_br_as_0 rfl rfl ?_
  refine aw_iconst (nI 0) D_br_as_1 rfl ?_
  refine aw_put tc_br D_br_as_2 rfl (Nat.le_of_ble_eq_true rfl) rfl rfl ?_
  show AW M_br_as noP _ 0 0 5 _ _ [BR tc (nI 0), RG n (2 ^ n) ch b bn, RI c pd st fa o be pc le sz wt qu, TR kc tw, SH la zs cs, RR mk ru ol re ms sp, mo, dy] _ _
  refine aw_aload_n 0 D_br_as_5 rfl rfl ?_
  refine aw_get D_br_as_6 rfl rfl ?_
  refine aw_iload_n 1 D_br_as_9 rfl rfl ?_
  refine aw_callV1 (As := [_]) D_br_as_10 kv_rg_has (c_rg_hasT hs hp9) rfl rfl rfl rfl rfl (Nat.le_of_ble_eq_true rfl) (Nat.zero_le _) (Nat.zero_le _) ?_
  refine aw_if_neN D_br_as_13 (by omega) (fun h => ?_) (fun h => absurd h (by omega))
  refine aw_iload_n 2 D_br_as_18 rfl rfl ?_
  refine aw_if_ltN D_br_as_19 (by omega) ?_
  refine aw_iload_n 2 D_br_as_22 rfl rfl ?_
  refine aw_iconst (nI 3) D_br_as_23 rfl ?_
  refine aw_icmp_leN D_br_as_24 (by omega) (by omega) (fun h => ?_) (fun h => absurd h (by omega))
  refine aw_aload_n 0 D_br_as_30 rfl rfl ?_
  refine aw_callV (As := []) D_br_as_31 kv_br_foundRings (c_br_found hn hn9 hb hch) rfl rfl rfl rfl rfl (Nat.le_of_ble_eq_true rfl) (Nat.zero_le _) (Nat.zero_le _) (fun r w' hp => ?_)
  obtain ⟨rfl, c, pd, st, fa, o, be, pc, le, sz, wt, qu, rfl, hF⟩ := hp
  have hcan := hF.can (by omega) hb
  have hRl := hF.2.1.R_le
  show AW M_br_as noP _ 0 0 34 _ [.ref 2] _ _ _
  have hk := kind_can (by omega) hb hF hs
  have hk3 : cKd n b s ≤ 2 := by unfold cKd; split; omega; split <;> omega
  refine aw_iload_n 1 D_br_as_34 rfl rfl ?_
  refine aw_callV1 (As := [_]) D_br_as_35 kv_ri_kindOf (c_ri_kind hn hn9 hb hF hs) rfl rfl rfl rfl rfl (Nat.le_of_ble_eq_true rfl) (Nat.zero_le _) (Nat.zero_le _) ?_
  rw [hk.1]
  refine aw_istore_n 3 D_br_as_38 rfl (Nat.le_of_ble_eq_true rfl) rfl ?_
  refine aw_iload_n 2 D_br_as_39 rfl rfl ?_
  refine aw_iconst (nI 3) D_br_as_40 rfl ?_
  refine aw_icmp_neN D_br_as_41 (by omega) (by omega) (fun h => ?_) (fun h => ?_)
  · refine aw_iload_n 3 D_br_as_57 rfl rfl ?_
    refine aw_iload_n 2 D_br_as_58 rfl rfl ?_
    refine aw_icmp_neN D_br_as_59 (by omega) (by omega) (fun h => absurd h (by omega)) (fun h => ?_)
    refine aw_iconst (nI 1) D_br_as_62 rfl ?_
    refine aw_goto D_br_as_63 ?_
    refine aw_istore D_br_as_67 (Nat.le_of_ble_eq_true rfl) rfl ?_
    refine aw_iload D_br_as_69 rfl ?_
    refine aw_if_eqN D_br_as_71 (by omega) (fun h => absurd h (by omega)) (fun h => ?_)
    refine aw_iconst (nI 1) D_br_as_74 rfl ?_
    refine aw_goto D_br_as_75 ?_
    refine aw_ireturn D_br_as_83 rfl rfl ?_
    exact ⟨rfl, 0, bn, c, pd, st, fa, o, be, pc, le, sz, wt, qu, kc, tw, mk, ru, ol, re, ms, sp, dy, rfl, hn, hn9, hb, Or.inr ⟨rfl, hF⟩, hD, hz⟩
  · refine aw_iload_n 3 D_br_as_44 rfl rfl ?_
    refine aw_iconst (nI 2) D_br_as_45 rfl ?_
    refine aw_icmp_eqN D_br_as_46 (by omega) (by omega) (fun h => absurd h (by omega)) (fun h => ?_)
    refine aw_iconst (nI 1) D_br_as_49 rfl ?_
    refine aw_goto D_br_as_50 ?_
    refine aw_istore D_br_as_67 (Nat.le_of_ble_eq_true rfl) rfl ?_
    refine aw_iload D_br_as_69 rfl ?_
    refine aw_if_eqN D_br_as_71 (by omega) (fun h => absurd h (by omega)) (fun h => ?_)
    refine aw_iconst (nI 1) D_br_as_74 rfl ?_
    refine aw_goto D_br_as_75 ?_
    refine aw_ireturn D_br_as_83 rfl rfl ?_
    exact ⟨rfl, 0, bn, c, pd, st, fa, o, be, pc, le, sz, wt, qu, kc, tw, mk, ru, ol, re, ms, sp, dy, rfl, hn, hn9, hb, Or.inr ⟨rfl, hF⟩, hD, hz⟩
theorem c_br_asF {s j : Nat} (hs : s < 2 ^ n) (hj : j < 4) (hfit : ¬ (j = cKd n b s ∨ j = 3 ∧ cKd n b s < 2)) (h : CS n b tc fl la zs cs mo w) : AMet M_br_as [.ref 0, .int (nI s), .int (nI j)] w (fun r' w' => r' = some (.int (-nI 10 - nI 2)) ∧ CS n b tc (nI 2) la zs cs mo w') 0 0 := by
  obtain ⟨ch, bn, c, pd, st, fa, o, be, pc, le, sz, wt, qu, kc, tw, mk, ru, ol, re, ms, sp, dy, rfl, hn, hn9, hb, hch, hD, hz⟩ := h
  have hp9 := pow_le9 hn9
  refine AMet.of [(0, .ref 0), (1, .int (nI s)), (2, .int (nI j))] (by decide +kernel) rfl (Nat.le_of_ble_eq_true rfl) ?_
  refine aw_aload_n 0 D_br_as_0 rfl rfl ?_
  refine aw_iconst (nI 0) D_br_as_1 rfl ?_
  refine aw_put tc_br D_br_as_2 rfl (Nat.le_of_ble_eq_true rfl) rfl rfl ?_
  show AW M_br_as noP _ 0 0 5 _ _ [BR tc (nI 0), RG n (2 ^ n) ch b bn, RI c pd st fa o be pc le sz wt qu, TR kc tw, SH la zs cs, RR mk ru ol re ms sp, mo, dy] _ _
  refine aw_aload_n 0 D_br_as_5 rfl rfl ?_
  refine aw_get D_br_as_6 rfl rfl ?_
  refine aw_iload_n 1 D_br_as_9 rfl rfl ?_
  refine aw_callV1 (As := [_]) D_br_as_10 kv_rg_has (c_rg_hasT hs hp9) rfl rfl rfl rfl rfl (Nat.le_of_ble_eq_true rfl) (Nat.zero_le _) (Nat.zero_le _) ?_
  refine aw_if_neN D_br_as_13 (by omega) (fun h => ?_) (fun h => absurd h (by omega))
  refine aw_iload_n 2 D_br_as_18 rfl rfl ?_
  refine aw_if_ltN D_br_as_19 (by omega) ?_
  refine aw_iload_n 2 D_br_as_22 rfl rfl ?_
  refine aw_iconst (nI 3) D_br_as_23 rfl ?_
  refine aw_icmp_leN D_br_as_24 (by omega) (by omega) (fun h => ?_) (fun h => absurd h (by omega))
  refine aw_aload_n 0 D_br_as_30 rfl rfl ?_
  refine aw_callV (As := []) D_br_as_31 kv_br_foundRings (c_br_found hn hn9 hb hch) rfl rfl rfl rfl rfl (Nat.le_of_ble_eq_true rfl) (Nat.zero_le _) (Nat.zero_le _) (fun r w' hp => ?_)
  obtain ⟨rfl, c, pd, st, fa, o, be, pc, le, sz, wt, qu, rfl, hF⟩ := hp
  have hcan := hF.can (by omega) hb
  have hRl := hF.2.1.R_le
  show AW M_br_as noP _ 0 0 34 _ [.ref 2] _ _ _
  have hk := kind_can (by omega) hb hF hs
  have hk3 : cKd n b s ≤ 2 := by unfold cKd; split; omega; split <;> omega
  refine aw_iload_n 1 D_br_as_34 rfl rfl ?_
  refine aw_callV1 (As := [_]) D_br_as_35 kv_ri_kindOf (c_ri_kind hn hn9 hb hF hs) rfl rfl rfl rfl rfl (Nat.le_of_ble_eq_true rfl) (Nat.zero_le _) (Nat.zero_le _) ?_
  rw [hk.1]
  refine aw_istore_n 3 D_br_as_38 rfl (Nat.le_of_ble_eq_true rfl) rfl ?_
  refine aw_iload_n 2 D_br_as_39 rfl rfl ?_
  refine aw_iconst (nI 3) D_br_as_40 rfl ?_
  refine aw_icmp_neN D_br_as_41 (by omega) (by omega) (fun h => ?_) (fun h => ?_)
  · refine aw_iload_n 3 D_br_as_57 rfl rfl ?_
    refine aw_iload_n 2 D_br_as_58 rfl rfl ?_
    refine aw_icmp_neN D_br_as_59 (by omega) (by omega) (fun h => ?_) (fun h => absurd h (by omega))
    refine aw_iconst (nI 0) D_br_as_66 rfl ?_
    refine aw_istore D_br_as_67 (Nat.le_of_ble_eq_true rfl) rfl ?_
    refine aw_iload D_br_as_69 rfl ?_
    refine aw_if_eqN D_br_as_71 (by omega) (fun h => ?_) (fun h => absurd h (by omega))
    refine aw_aload_n 0 D_br_as_78 rfl rfl ?_
    refine aw_iconst (nI 2) D_br_as_79 rfl ?_
    refine aw_callV1 (As := [_]) D_br_as_80 kv_br_faulted (c_br_faulted) rfl rfl rfl rfl rfl (Nat.le_of_ble_eq_true rfl) (Nat.zero_le _) (Nat.zero_le _) ?_
    refine aw_ireturn D_br_as_83 rfl rfl ?_
    exact ⟨rfl, 0, bn, c, pd, st, fa, o, be, pc, le, sz, wt, qu, kc, tw, mk, ru, ol, re, ms, sp, dy, rfl, hn, hn9, hb, Or.inr ⟨rfl, hF⟩, hD, hz⟩
  · refine aw_iload_n 3 D_br_as_44 rfl rfl ?_
    refine aw_iconst (nI 2) D_br_as_45 rfl ?_
    refine aw_icmp_eqN D_br_as_46 (by omega) (by omega) (fun h => ?_) (fun h => absurd h (by omega))
    refine aw_iconst (nI 0) D_br_as_53 rfl ?_
    refine aw_goto D_br_as_54 ?_
    refine aw_istore D_br_as_67 (Nat.le_of_ble_eq_true rfl) rfl ?_
    refine aw_iload D_br_as_69 rfl ?_
    refine aw_if_eqN D_br_as_71 (by omega) (fun h => ?_) (fun h => absurd h (by omega))
    refine aw_aload_n 0 D_br_as_78 rfl rfl ?_
    refine aw_iconst (nI 2) D_br_as_79 rfl ?_
    refine aw_callV1 (As := [_]) D_br_as_80 kv_br_faulted (c_br_faulted) rfl rfl rfl rfl rfl (Nat.le_of_ble_eq_true rfl) (Nat.zero_le _) (Nat.zero_le _) ?_
    refine aw_ireturn D_br_as_83 rfl rfl ?_
    exact ⟨rfl, 0, bn, c, pd, st, fa, o, be, pc, le, sz, wt, qu, kc, tw, mk, ru, ol, re, ms, sp, dy, rfl, hn, hn9, hb, Or.inr ⟨rfl, hF⟩, hD, hz⟩
end Br4
