/-! ### the reference: linear order -/
/-- the reference's rows against Berlekamp and Massey's state -/
def BMI (c : Nat → Nat) (i L since : Nat) (ru bf : Nat → Nat) : Prop :=
  ∃ r o, bms c i = (L, r, o) ∧ 1 ≤ since ∧ since ≤ i + 1 ∧ (∀ j, j ≤ 600 → ru j = r j) ∧ (∀ j, j ≤ 600 → shq 0 o j = if j < since then 0 else bf (j - since)) ∧ (∀ j, L < j → r j = 0) ∧ (∀ j, shq 0 o j ≠ 0 → j ≤ i + 1 - L) ∧ (∀ j, j ≤ 600 → bf j < 2)
theorem BMI.zero {c ru bf : Nat → Nat} (h1 : ∀ j, j ≤ 600 → ru j = bm0 j) (h2 : ∀ j, j ≤ 600 → bf j = bm0 j) : BMI c 0 0 1 ru bf := by
  refine ⟨bm0, bm0, rfl, Nat.le_refl _, Nat.le_refl _, h1, fun j hj => ?_, fun j hj => if_neg (by omega), fun j hj => ?_, fun j hj => by rw [h2 j hj]; exact bm0_lt j⟩
  · unfold shq
    by_cases e : j = 0
    · rw [if_pos e, if_pos (by omega)]
    · rw [if_neg e, if_neg (by omega), h2 _ (by omega)]
  · unfold shq bm0 at hj
    by_cases e : j = 0
    · omega
    · rw [if_neg e] at hj
      by_cases e2 : j - 1 = 0
      · omega
      · rw [if_neg e2] at hj
        exact absurd rfl hj
theorem shq_succ (f : Nat → Nat) (j : Nat) : shq 0 f (j + 1) = f j := rfl
theorem shift_keep {o bf : Nat → Nat} {since : Nat} (h : ∀ j, j ≤ 600 → shq 0 o j = if j < since then 0 else bf (j - since)) : ∀ j, j ≤ 600 → shq 0 (shq 0 o) j = if j < since + 1 then 0 else bf (j - (since + 1)) := by
  intro j hj
  rcases j with _ | j
  · rw [if_pos (by omega)]; rfl
  · rw [shq_succ, h j (by omega)]
    by_cases e : j < since
    · rw [if_pos e, if_pos (by omega)]
    · rw [if_neg e, if_neg (by omega)]
      congr 1
      omega
theorem rct_at {c : Nat → Nat} : ∀ i j, rct c (i + 1) j = if j ≤ i then c (i - j) else 0
  | 0, j => by
    show shq (c 0) (fun _ => 0) j = _
    unfold shq
    by_cases e : j = 0
    · rw [if_pos e, if_pos (by omega), e]
    · rw [if_neg e, if_neg (by omega)]
  | i + 1, j => by
    show shq (c (i + 1)) (rct c (i + 1)) j = _
    unfold shq
    by_cases e : j = 0
    · rw [if_pos e, if_pos (by omega), e]; rfl
    · rw [if_neg e, rct_at i (j - 1)]
      by_cases e2 : j ≤ i + 1
      · rw [if_pos (by omega), if_pos e2]
        congr 1
        omega
      · rw [if_neg (by omega), if_neg e2]
theorem sm_cut {f : Nat → Nat} {a : Nat} (h : ∀ j, a ≤ j → f j = 0) : ∀ d, fb_sm f (a + d) = fb_sm f a
  | 0 => rfl
  | d + 1 => by
    show fb_sm f (a + d) + f (a + d) = fb_sm f a
    rw [sm_cut h d, h _ (by omega)]
    rfl
theorem BMI.off {c ru bf : Nat → Nat} {i L since : Nat} (hi : i < 600) (h : BMI c i L since ru bf) : L ≤ i ∧ ∀ r o, bms c i = (L, r, o) → fb_sm (fun j => r j * rct c (i + 1) j) 640 = fb_sm (fun j => ru j * c (i - j)) (L + 1) := by
  obtain ⟨r, o, h0, h1, h2, h3, h4, h5, h6, h7⟩ := h
  have hL := bms_le c i
  rw [h0] at hL
  dsimp only at hL
  refine ⟨hL, fun r' o' h0' => ?_⟩
  rw [h0] at h0'
  cases h0'
  rw [show 640 = L + 1 + (640 - (L + 1)) by omega, sm_cut (fun j hj => by rw [h5 j (by omega), Nat.zero_mul])]
  refine fb_sm_cong (fun j hj => ?_)
  rw [rct_at, if_pos (by omega), h3 j (by omega)]
theorem BMI.keep {c ru bf : Nat → Nat} {i L since : Nat} (hi : i < 600) (h : BMI c i L since ru bf) (hoff : fb_sm (fun j => ru j * c (i - j)) (L + 1) % 2 = 0) : BMI c (i + 1) L (since + 1) ru bf := by
  have hO := h.off hi
  obtain ⟨r, o, h0, h1, h2, h3, h4, h5, h6, h7⟩ := h
  refine ⟨r, shq 0 o, ?_, by omega, by omega, h3, shift_keep h4, h5, fun j hj => ?_, h7⟩
  · show (if _ then _ else _) = _
    rw [h0]
    dsimp only
    rw [hO.2 r o h0, if_neg (by omega)]
  · rcases j with _ | j
    · omega
    · have := h6 j hj
      omega
theorem BMI.turn {c ru bf ru' : Nat → Nat} {i L since : Nat} (hi : i < 600) (h : BMI c i L since ru bf) (hr : ∀ j, j ≤ 600 → ru j < 2) (hoff : fb_sm (fun j => ru j * c (i - j)) (L + 1) % 2 = 1) (h2L : ¬ 2 * L ≤ i) (hru : ∀ j, j ≤ 600 → ru' j = if j < since then ru j else ru j ^^^ bf (j - since)) : BMI c (i + 1) L (since + 1) ru' bf := by
  have hO := h.off hi
  have hlt := bms_lt c i
  obtain ⟨r, o, h0, h1, h2, h3, h4, h5, h6, h7⟩ := h
  rw [h0] at hlt
  dsimp only at hlt
  refine ⟨xr r (shq 0 o), shq 0 o, ?_, by omega, by omega, fun j hj => ?_, shift_keep h4, fun j hj => ?_, fun j hj => ?_, h7⟩
  · show (if _ then _ else _) = _
    rw [h0]
    dsimp only
    rw [hO.2 r o h0, if_pos hoff, if_neg h2L]
  · have hrj := hr j hj
    rw [hru j hj]
    unfold xr
    rw [h4 j hj]
    by_cases e : j < since
    · rw [if_pos e, if_pos e, ← h3 j hj]; omega
    · rw [if_neg e, if_neg e, ← h3 j hj]
      have hb := h7 (j - since) (by omega)
      rcases (show ru j = 0 ∨ ru j = 1 by omega) with q | q <;> rcases (show bf (j - since) = 0 ∨ bf (j - since) = 1 by omega) with q2 | q2 <;> rw [q, q2] <;> rfl
  · unfold xr
    rw [h5 j hj]
    rcases Nat.eq_zero_or_pos (shq 0 o j) with q | q
    · rw [q]
    · have := h6 j (by omega)
      omega
  · rcases j with _ | j
    · omega
    · have := h6 j hj
      omega
theorem BMI.grow {c ru bf ru' bf' : Nat → Nat} {i L since : Nat} (hi : i < 600) (h : BMI c i L since ru bf) (hr : ∀ j, j ≤ 600 → ru j < 2) (hoff : fb_sm (fun j => ru j * c (i - j)) (L + 1) % 2 = 1) (h2L : 2 * L ≤ i) (hru : ∀ j, j ≤ 600 → ru' j = if j < since then ru j else ru j ^^^ bf (j - since)) (hbf : ∀ j, j ≤ 600 → bf' j = ru j) : BMI c (i + 1) (i + 1 - L) 1 ru' bf' := by
  have hO := h.off hi
  obtain ⟨r, o, h0, h1, h2, h3, h4, h5, h6, h7⟩ := h
  refine ⟨xr r (shq 0 o), r, ?_, by omega, by omega, fun j hj => ?_, fun j hj => ?_, fun j hj => ?_, fun j hj => ?_, fun j hj => by rw [hbf j hj]; exact hr j hj⟩
  · show (if _ then _ else _) = _
    rw [h0]
    dsimp only
    rw [hO.2 r o h0, if_pos hoff, if_pos h2L]
  · have hrj := hr j hj
    rw [hru j hj]
    unfold xr
    rw [h4 j hj]
    by_cases e : j < since
    · rw [if_pos e, if_pos e, ← h3 j hj]; omega
    · rw [if_neg e, if_neg e, ← h3 j hj]
      have hb := h7 (j - since) (by omega)
      rcases (show ru j = 0 ∨ ru j = 1 by omega) with q | q <;> rcases (show bf (j - since) = 0 ∨ bf (j - since) = 1 by omega) with q2 | q2 <;> rw [q, q2] <;> rfl
  · rcases j with _ | j
    · rw [if_pos (by omega)]; rfl
    · rw [shq_succ, if_neg (by omega), hbf _ (by omega), h3 _ (by omega)]
      rfl
  · unfold xr
    rw [h5 j (by omega)]
    rcases Nat.eq_zero_or_pos (shq 0 o j) with q | q
    · rw [q]
    · have := h6 j (by omega)
      omega
  · rcases j with _ | j
    · omega
    · rw [shq_succ] at hj
      rcases Nat.lt_or_ge L j with q | q
      · exact absurd (h5 j q) hj
      · omega
theorem BMI.rlt {c ru bf : Nat → Nat} {i L since : Nat} (h : BMI c i L since ru bf) : ∀ j, j ≤ 600 → ru j < 2 := by
  have hlt := bms_lt c i
  obtain ⟨r, o, h0, h1, h2, h3, _⟩ := h
  rw [h0] at hlt
  exact fun j hj => by rw [h3 j hj]; exact hlt.1 j
theorem bit2 {S a b : Nat} (ha : a < 2) (hb : b < 2) : (S % 2) ^^^ (a &&& b) = (S + a * b) % 2 := by
  rcases (show a = 0 ∨ a = 1 by omega) with rfl | rfl <;> rcases (show b = 0 ∨ b = 1 by omega) with rfl | rfl <;> rcases (show S % 2 = 0 ∨ S % 2 = 1 by omega) with q | q <;> rw [q, Nat.add_mod, q] <;> rfl
section Mo9
variable {a0 a1 a2 a3 a4 a5 a7 m : List va_E} {fl tc : Int32} {n : Nat} {b : Nat → Nat} {la : Nat → Int32} {zs : Nat → Nat} {cs : Nat → Nat → Int64}
theorem c_mo_orderU {x y : Int32} (hx : ¬ vp_in x 4) (h : MS n b tc fl la zs cs m) : AMet M_mo_order [.ref 6, .int x, .int y] [a0, a1, a2, a3, a4, a5, m, a7] (fun (r' : Option Value) (w' : Wd) => r' = some (.int (-nI 1)) ∧ ∃ m', w' = [a0, a1, a2, a3, a4, a5, m', a7] ∧ MS n b tc (nI 0) la zs cs m') 0 0 := by
  obtain ⟨fd, R, le, sz, o, be, pc, wt, qu, lm, sl, ce, tb, mt, ru, bf, kp, rfl, hn, hn9, hb, hfd, hL, hT⟩ := h
  refine AMet.of [(0, .ref 6), (1, .int x), (2, .int y)] (by decide +kernel) rfl (Nat.le_of_ble_eq_true rfl) ?_
  refine aw_aload_n 0 D_mo_order_0 rfl rfl ?_
  refine aw_iconst (nI 0) D_mo_order_1 rfl ?_
  refine aw_put tc_mo D_mo_order_2 rfl (Nat.le_of_ble_eq_true rfl) rfl rfl ?_
  refine aw_iload_n 1 D_mo_order_5 rfl rfl ?_
  refine aw_callS1 (As := [_]) D_mo_order_6 kv_mo_isSheet (c_mo_isSheetF hx) rfl rfl (Nat.le_of_ble_eq_true rfl) (Nat.zero_le _) (Nat.zero_le _) ?_
  refine aw_if_neN D_mo_order_9 (by decide) (fun h => absurd h (by decide)) (fun h => ?_)
  refine aw_iconst (-nI 1) D_mo_order_12 rfl ?_
  refine aw_ireturn D_mo_order_13 rfl rfl ?_
  exact ⟨rfl, _, rfl, fd, R, le, sz, o, be, pc, wt, qu, lm, sl, ce, tb, mt, ru, bf, kp, rfl, hn, hn9, hb, hfd, hL, hT⟩
theorem c_mo_orderN {k : Nat} {y : Int32} (hk : k < 4) (hno : la k = -nI 1) (h : MS n b tc fl la zs cs m) : AMet M_mo_order [.ref 6, .int (nI k), .int y] [a0, a1, a2, a3, a4, a5, m, a7] (fun (r' : Option Value) (w' : Wd) => r' = some (.int (-nI 10 - nI 1)) ∧ ∃ m', w' = [a0, a1, a2, a3, a4, a5, m', a7] ∧ MS n b tc (nI 1) la zs cs m') 0 0 := by
  obtain ⟨fd, R, le, sz, o, be, pc, wt, qu, lm, sl, ce, tb, mt, ru, bf, kp, rfl, hn, hn9, hb, hfd, hL, hT⟩ := h
  refine AMet.of [(0, .ref 6), (1, .int (nI k)), (2, .int y)] (by decide +kernel) rfl (Nat.le_of_ble_eq_true rfl) ?_
  refine aw_aload_n 0 D_mo_order_0 rfl rfl ?_
  refine aw_iconst (nI 0) D_mo_order_1 rfl ?_
  refine aw_put tc_mo D_mo_order_2 rfl (Nat.le_of_ble_eq_true rfl) rfl rfl ?_
  refine aw_iload_n 1 D_mo_order_5 rfl rfl ?_
  refine aw_callS1 (As := [_]) D_mo_order_6 kv_mo_isSheet (c_mo_isSheetT hk) rfl rfl (Nat.le_of_ble_eq_true rfl) (Nat.zero_le _) (Nat.zero_le _) ?_
  refine aw_if_neN D_mo_order_9 (by decide) (fun h => ?_) (fun h => absurd h (by decide))
  refine aw_aload_n 0 D_mo_order_14 rfl rfl ?_
  refine aw_iload_n 1 D_mo_order_15 rfl rfl ?_
  refine aw_iload_n 2 D_mo_order_16 rfl rfl ?_
  refine aw_callV1 (As := [_, _]) D_mo_order_17 kv_mo_againstBits (c_mo_againstN hk (hL.none hk hno)) rfl rfl rfl rfl rfl (Nat.le_of_ble_eq_true rfl) (Nat.zero_le _) (Nat.zero_le _) ?_
  refine aw_istore_n 3 D_mo_order_20 rfl (Nat.le_of_ble_eq_true rfl) rfl ?_
  refine aw_iload_n 3 D_mo_order_21 rfl rfl ?_
  refine aw_if_eq D_mo_order_22 (fun h => absurd h (by decide)) (fun h => ?_)
  refine aw_iload_n 3 D_mo_order_25 rfl rfl ?_
  refine aw_ireturn D_mo_order_26 rfl rfl ?_
  exact ⟨rfl, _, rfl, fd, R, le, sz, o, be, pc, wt, qu, lm, sl, ce, tb, mt, ru, bf, kp, rfl, hn, hn9, hb, hfd, hL, hT⟩
theorem c_mo_orderI {k : Nat} {y : Int32} (hk : k < 4) (hne : la k ≠ -nI 1) (hy : ¬ ∃ m, m ≤ zs k ∧ y = nI m) (h : MS n b tc fl la zs cs m) : AMet M_mo_order [.ref 6, .int (nI k), .int y] [a0, a1, a2, a3, a4, a5, m, a7] (fun (r' : Option Value) (w' : Wd) => r' = some (.int (-nI 10 - nI 3)) ∧ ∃ m', w' = [a0, a1, a2, a3, a4, a5, m', a7] ∧ MS n b tc (nI 3) la zs cs m') 0 0 := by
  obtain ⟨fd, R, le, sz, o, be, pc, wt, qu, lm, sl, ce, tb, mt, ru, bf, kp, rfl, hn, hn9, hb, hfd, hL, hT⟩ := h
  obtain ⟨l, hl, hl1, hl2, hs1, hs2⟩ := hL.some hk hne
  have hzk := hL.2 k
  refine AMet.of [(0, .ref 6), (1, .int (nI k)), (2, .int y)] (by decide +kernel) rfl (Nat.le_of_ble_eq_true rfl) ?_
  refine aw_aload_n 0 D_mo_order_0 rfl rfl ?_
  refine aw_iconst (nI 0) D_mo_order_1 rfl ?_
  refine aw_put tc_mo D_mo_order_2 rfl (Nat.le_of_ble_eq_true rfl) rfl rfl ?_
  refine aw_iload_n 1 D_mo_order_5 rfl rfl ?_
  refine aw_callS1 (As := [_]) D_mo_order_6 kv_mo_isSheet (c_mo_isSheetT hk) rfl rfl (Nat.le_of_ble_eq_true rfl) (Nat.zero_le _) (Nat.zero_le _) ?_
  refine aw_if_neN D_mo_order_9 (by decide) (fun h => ?_) (fun h => absurd h (by decide))
  refine aw_aload_n 0 D_mo_order_14 rfl rfl ?_
  refine aw_iload_n 1 D_mo_order_15 rfl rfl ?_
  refine aw_iload_n 2 D_mo_order_16 rfl rfl ?_
  refine aw_callV1 (As := [_, _]) D_mo_order_17 kv_mo_againstBits (c_mo_againstI hk (hL.ne hk hne) (by omega) (by rw [hs1]; exact hy)) rfl rfl rfl rfl rfl (Nat.le_of_ble_eq_true rfl) (Nat.zero_le _) (Nat.zero_le _) ?_
  refine aw_istore_n 3 D_mo_order_20 rfl (Nat.le_of_ble_eq_true rfl) rfl ?_
  refine aw_iload_n 3 D_mo_order_21 rfl rfl ?_
  refine aw_if_eq D_mo_order_22 (fun h => absurd h (by decide)) (fun h => ?_)
  refine aw_iload_n 3 D_mo_order_25 rfl rfl ?_
  refine aw_ireturn D_mo_order_26 rfl rfl ?_
  exact ⟨rfl, _, rfl, fd, R, le, sz, o, be, pc, wt, qu, lm, sl, ce, tb, mt, ru, bf, kp, rfl, hn, hn9, hb, hfd, hL, hT⟩
theorem c_mo_orderT {k p : Nat} (hk : k < 4) (hne : la k ≠ -nI 1) (hp : p ≤ zs k) (h : MS n b tc fl la zs cs m) : AMet M_mo_order [.ref 6, .int (nI k), .int (nI p)] [a0, a1, a2, a3, a4, a5, m, a7] (fun (r' : Option Value) (w' : Wd) => r' = some (.int (nI (bms (fun i => bt (cs k i)) p).1)) ∧ ∃ m', w' = [a0, a1, a2, a3, a4, a5, m', a7] ∧ MS n b tc (nI 0) la zs cs m') 0 0 := by
  obtain ⟨fd, R, le, sz, o, be, pc, wt, qu, lm, sl, ce, tb, mt, ru, bf, kp, rfl, hn, hn9, hb, hfd, hL, hT⟩ := h
  obtain ⟨l, hl, hl1, hl2, hs1, hs2⟩ := hL.some hk hne
  have hzk := hL.2 k
  refine AMet.of [(0, .ref 6), (1, .int (nI k)), (2, .int (nI p))] (by decide +kernel) rfl (Nat.le_of_ble_eq_true rfl) ?_
  generalize hZ : (fun (r' : Option Value) (w' : Wd) => r' = some (.int (nI (bms (fun i => bt (cs k i)) p).1)) ∧ ∃ m', w' = [a0, a1, a2, a3, a4, a5, m', a7] ∧ MS n b tc (nI 0) la zs cs m') = ZZ
  generalize hc : (fun i => bt (cs k i)) = c at hZ
  have hci : ∀ i, i < zs k → bt (ce (600 * k + i)) = c i := fun i hi => by rw [hs2 i hi]; exact congrFun hc i
  have hc2 : ∀ i, c i < 2 := fun i => by rw [← hc]; exact bt_lt _
  have main : ∀ (d i L since : Nat) (ru bf kp : Nat → Nat), i + d = p → BMI c i L since ru bf → AW M_mo_order noP (Zp ZZ) 0 0 87 [(0, .ref 6), (1, .int (nI k)), (2, .int (nI p)), (3, .int (nI 0)), (4, .int (nI L)), (5, .int (nI since)), (6, .int (nI i))] [] [a0, a1, a2, a3, a4, a5, MO (nI 0) tc n fd R b le sz o be pc wt qu lm sl ce tb mt ru bf kp, a7] 0 0 := by
    intro d
    induction d with
    | zero =>
      intro i L since ru bf kp hi hB
      have hi : i = p := by omega
      subst hi
      obtain ⟨r, oo, h0, _⟩ := hB
      refine aw_iload D_mo_order_87 rfl ?_
      refine aw_iload_n 2 D_mo_order_89 rfl rfl ?_
      refine aw_icmp_geN D_mo_order_90 (by omega) (by omega) (fun h => ?_) (fun h => absurd h (by omega))
      refine aw_iload D_mo_order_293 rfl ?_
      refine aw_ireturn D_mo_order_295 rfl rfl ?_
      subst hZ; rw [h0]; exact ⟨rfl, _, rfl, fd, R, le, sz, o, be, pc, wt, qu, lm, sl, ce, tb, mt, ru, bf, kp, rfl, hn, hn9, hb, hfd, hL, hT⟩
    | succ d ih =>
      intro i L since ru bf kp hi hB
      have hi6 : i < 600 := by omega
      obtain ⟨hLi, hO⟩ := hB.off hi6
      have hrl := hB.rlt
      have hs1' : 1 ≤ since := by obtain ⟨r, o, h0, h1, h2, _⟩ := hB; exact h1
      have hs2' : since ≤ i + 1 := by obtain ⟨r, o, h0, h1, h2, _⟩ := hB; exact h2
      have hbl : ∀ j, j ≤ 600 → bf j < 2 := by obtain ⟨r, o, h0, h1, h2, h3, h4, h5, h6, h7⟩ := hB; exact h7
      have behind : ∀ g : Nat, (g = if 2 * L ≤ i then 1 else 0) → fb_sm (fun j => ru j * c (i - j)) (L + 1) % 2 = 1 → AW M_mo_order noP (Zp ZZ) 0 0 160 [(0, .ref 6), (1, .int (nI k)), (2, .int (nI p)), (3, .int (nI 0)), (4, .int (nI L)), (5, .int (nI since)), (6, .int (nI i)), (7, .int (nI 1)), (8, .int (nI (L + 1)))] [.int (nI g)] [a0, a1, a2, a3, a4, a5, MO (nI 0) tc n fd R b le sz o be pc wt qu lm sl ce tb mt ru bf kp, a7] 0 0 := by
        intro g hg hoff
        have hg1 : g ≤ 1 := by rw [hg]; split <;> omega
        have copyB : ∀ (e j : Nat) (ru' bf' kp' : Nat → Nat), j + e = 601 → g = 1 → (∀ q, q ≤ 600 → ru' q = if q < since then ru q else ru q ^^^ bf (q - since)) → (∀ q, q ≤ 600 → kp' q = ru q) → (∀ q, q < j → bf' q = ru q) → AW M_mo_order noP (Zp ZZ) 0 0 253 [(0, .ref 6), (1, .int (nI k)), (2, .int (nI p)), (3, .int (nI 0)), (4, .int (nI (i + 1 - L))), (5, .int (nI since)), (6, .int (nI i)), (7, .int (nI 1)), (8, .int (nI g)), (9, .int (nI j))] [] [a0, a1, a2, a3, a4, a5, MO (nI 0) tc n fd R b le sz o be pc wt qu lm sl ce tb mt ru' bf' kp', a7] 0 0 := by
          intro e
          induction e with
          | zero =>
            intro j ru' bf' kp' hj hg2 h1 h2 h3
            refine aw_iload D_mo_order_253 rfl ?_
            refine aw_sipush (nI 600) D_mo_order_255 rfl ?_
            refine aw_icmp_gtN D_mo_order_258 (by omega) (by decide) (fun h => ?_) (fun h => absurd h (by omega))
            refine aw_iconst (nI 0) D_mo_order_281 rfl ?_
            refine aw_istore D_mo_order_282 (Nat.le_of_ble_eq_true rfl) rfl ?_
            first | refine aw_incN D_mo_order_284 rfl (Nat.le_of_ble_eq_true rfl) rfl ?_ | refine aw_inc D_mo_order_284 rfl (Nat.le_of_ble_eq_true rfl) rfl ?_
            first | refine aw_incN D_mo_order_287 rfl (Nat.le_of_ble_eq_true rfl) rfl ?_ | refine aw_inc D_mo_order_287 rfl (Nat.le_of_ble_eq_true rfl) rfl ?_
            refine aw_goto D_mo_order_290 ?_
            refine aw_take 7 ?_
            refine ih (i + 1) (i + 1 - L) 1 ru' bf' kp' (by omega) (hB.grow hi6 hrl hoff ?_ h1 (fun q hq => h3 q (by omega)))
            rcases Nat.lt_or_ge i (2 * L) with z | z
            · rw [if_neg (by omega)] at hg; omega
            · exact z
          | succ e ie =>
            intro j ru' bf' kp' hj hg2 h1 h2 h3
            refine aw_iload D_mo_order_253 rfl ?_
            refine aw_sipush (nI 600) D_mo_order_255 rfl ?_
            refine aw_icmp_gtN D_mo_order_258 (by omega) (by decide) (fun h => absurd h (by omega)) (fun h => ?_)
            refine aw_aload_n 0 D_mo_order_261 rfl rfl ?_
            refine aw_get D_mo_order_262 rfl rfl ?_
            refine aw_iload D_mo_order_265 rfl ?_
            refine aw_aload_n 0 D_mo_order_267 rfl rfl ?_
            refine aw_get D_mo_order_268 rfl rfl ?_
            refine aw_iload D_mo_order_271 rfl ?_
            refine aw_ialdN D_mo_order_273 rfl (by omega) (by omega) ?_
            refine aw_iastN D_mo_order_274 rfl (by omega) (by omega) ?_
            first | refine aw_incN D_mo_order_275 rfl (Nat.le_of_ble_eq_true rfl) rfl ?_ | refine aw_inc D_mo_order_275 rfl (Nat.le_of_ble_eq_true rfl) rfl ?_
            refine aw_goto D_mo_order_278 ?_
            refine ie (j + 1) ru' _ kp' (by omega) hg2 h1 h2 (fun q hq => ?_)
            unfold va_up
            by_cases z : q = j
            · rw [if_pos z, h2 j (by omega), z]
            · rw [if_neg z]; exact h3 q (by omega)
        have xorL : ∀ (e j : Nat) (ru' kp' : Nat → Nat), j + e = 601 → since ≤ j → (∀ q, q ≤ 600 → ru' q = if q < since then ru q else if q < j then ru q ^^^ bf (q - since) else ru q) → (g = 1 → ∀ q, q ≤ 600 → kp' q = ru q) → AW M_mo_order noP (Zp ZZ) 0 0 202 [(0, .ref 6), (1, .int (nI k)), (2, .int (nI p)), (3, .int (nI 0)), (4, .int (nI L)), (5, .int (nI since)), (6, .int (nI i)), (7, .int (nI 1)), (8, .int (nI g)), (9, .int (nI j))] [] [a0, a1, a2, a3, a4, a5, MO (nI 0) tc n fd R b le sz o be pc wt qu lm sl ce tb mt ru' bf kp', a7] 0 0 := by
          intro e
          induction e with
          | zero =>
            intro j ru' kp' hj hsj h1 h2
            have h1' : ∀ q, q ≤ 600 → ru' q = if q < since then ru q else ru q ^^^ bf (q - since) := fun q hq => by
              rw [h1 q hq]
              by_cases z : q < since
              · rw [if_pos z, if_pos z]
              · rw [if_neg z, if_neg z, if_pos (by omega)]
            refine aw_iload D_mo_order_202 rfl ?_
            refine aw_sipush (nI 600) D_mo_order_204 rfl ?_
            refine aw_icmp_gtN D_mo_order_207 (by omega) (by decide) (fun h => ?_) (fun h => absurd h (by omega))
            refine aw_iload D_mo_order_236 rfl ?_
            refine aw_if_eqN D_mo_order_238 (by omega) (fun h => ?_) (fun h => ?_)
            · first | refine aw_incN D_mo_order_284 rfl (Nat.le_of_ble_eq_true rfl) rfl ?_ | refine aw_inc D_mo_order_284 rfl (Nat.le_of_ble_eq_true rfl) rfl ?_
              first | refine aw_incN D_mo_order_287 rfl (Nat.le_of_ble_eq_true rfl) rfl ?_ | refine aw_inc D_mo_order_287 rfl (Nat.le_of_ble_eq_true rfl) rfl ?_
              refine aw_goto D_mo_order_290 ?_
              refine aw_take 7 ?_
              refine ih (i + 1) L (since + 1) ru' bf kp' (by omega) (hB.turn hi6 hrl hoff (fun z => ?_) h1')
              rw [if_pos z] at hg
              omega
            · refine aw_iload D_mo_order_241 rfl ?_
              refine aw_iconst (nI 1) D_mo_order_243 rfl ?_
              first | with_reducible refine aw_iaddN D_mo_order_244 ?_ | refine aw_iadd D_mo_order_244 ?_
              refine aw_iload D_mo_order_245 rfl ?_
              first | with_reducible refine aw_isubN D_mo_order_247 (by omega) ?_ | refine aw_isub D_mo_order_247 ?_
              refine aw_istore D_mo_order_248 (Nat.le_of_ble_eq_true rfl) rfl ?_
              refine aw_iconst (nI 0) D_mo_order_250 rfl ?_
              refine aw_istore D_mo_order_251 (Nat.le_of_ble_eq_true rfl) rfl ?_
              exact copyB 601 0 ru' bf kp' (by omega) (by omega) h1' (h2 (by omega)) (fun q hq => absurd hq (by omega))
          | succ e ie =>
            intro j ru' kp' hj hsj h1 h2
            have hrj : ru' j = ru j := by rw [h1 j (by omega), if_neg (by omega), if_neg (by omega)]
            refine aw_iload D_mo_order_202 rfl ?_
            refine aw_sipush (nI 600) D_mo_order_204 rfl ?_
            refine aw_icmp_gtN D_mo_order_207 (by omega) (by decide) (fun h => absurd h (by omega)) (fun h => ?_)
            refine aw_aload_n 0 D_mo_order_210 rfl rfl ?_
            refine aw_get D_mo_order_211 rfl rfl ?_
            refine aw_iload D_mo_order_214 rfl ?_
            refine aw_dup2_11 D_mo_order_216 rfl rfl ?_
            refine aw_ialdN D_mo_order_217 rfl (by omega) (by omega) ?_
            refine aw_aload_n 0 D_mo_order_218 rfl rfl ?_
            refine aw_get D_mo_order_219 rfl rfl ?_
            refine aw_iload D_mo_order_222 rfl ?_
            refine aw_iload D_mo_order_224 rfl ?_
            first | with_reducible refine aw_isubN D_mo_order_226 (by omega) ?_ | refine aw_isub D_mo_order_226 ?_
            refine aw_ialdN D_mo_order_227 rfl (by omega) (by omega) ?_
            first | with_reducible refine aw_ixorN D_mo_order_228 ?_ | refine aw_ixor D_mo_order_228 ?_
            refine aw_iastN D_mo_order_229 rfl (by omega) (by omega) ?_
            first | refine aw_incN D_mo_order_230 rfl (Nat.le_of_ble_eq_true rfl) rfl ?_ | refine aw_inc D_mo_order_230 rfl (Nat.le_of_ble_eq_true rfl) rfl ?_
            refine aw_goto D_mo_order_233 ?_
            refine ie (j + 1) _ kp' (by omega) (by omega) (fun q hq => ?_) h2
            unfold va_up
            by_cases z : q = j
            · rw [if_pos z, hrj, z, if_neg (by omega), if_pos (by omega)]
            · rw [if_neg z, h1 q hq]
              by_cases z1 : q < since
              · rw [if_pos z1, if_pos z1]
              · rw [if_neg z1, if_neg z1]
                by_cases z2 : q < j
                · rw [if_pos z2, if_pos (by omega)]
                · rw [if_neg z2, if_neg (by omega)]
        have goX : ∀ (j : Nat) (kp' : Nat → Nat), (g = 1 → ∀ q, q ≤ 600 → kp' q = ru q) → AW M_mo_order noP (Zp ZZ) 0 0 198 [(0, .ref 6), (1, .int (nI k)), (2, .int (nI p)), (3, .int (nI 0)), (4, .int (nI L)), (5, .int (nI since)), (6, .int (nI i)), (7, .int (nI 1)), (8, .int (nI g)), (9, .int (nI j))] [] [a0, a1, a2, a3, a4, a5, MO (nI 0) tc n fd R b le sz o be pc wt qu lm sl ce tb mt ru bf kp', a7] 0 0 := by
          intro j kp' h
          refine aw_iload D_mo_order_198 rfl ?_
          refine aw_istore D_mo_order_200 (Nat.le_of_ble_eq_true rfl) rfl ?_
          refine xorL (601 - since) since ru kp' (by omega) (Nat.le_refl _) (fun q hq => ?_) h
          by_cases z : q < since
          · rw [if_pos z]
          · rw [if_neg z, if_neg z]
        have copyK : ∀ (e j : Nat) (kp' : Nat → Nat), j + e = 601 → g = 1 → (∀ q, q < j → kp' q = ru q) → AW M_mo_order noP (Zp ZZ) 0 0 165 [(0, .ref 6), (1, .int (nI k)), (2, .int (nI p)), (3, .int (nI 0)), (4, .int (nI L)), (5, .int (nI since)), (6, .int (nI i)), (7, .int (nI 1)), (8, .int (nI g)), (9, .int (nI j))] [] [a0, a1, a2, a3, a4, a5, MO (nI 0) tc n fd R b le sz o be pc wt qu lm sl ce tb mt ru bf kp', a7] 0 0 := by
          intro e
          induction e with
          | zero =>
            intro j kp' hj hg2 h1
            refine aw_iload D_mo_order_165 rfl ?_
            refine aw_sipush (nI 600) D_mo_order_167 rfl ?_
            refine aw_icmp_gtN D_mo_order_170 (by omega) (by decide) (fun h => ?_) (fun h => absurd h (by omega))
            exact goX j kp' (fun _ q hq => h1 q (by omega))
          | succ e ie =>
            intro j kp' hj hg2 h1
            refine aw_iload D_mo_order_165 rfl ?_
            refine aw_sipush (nI 600) D_mo_order_167 rfl ?_
            refine aw_icmp_gtN D_mo_order_170 (by omega) (by decide) (fun h => absurd h (by omega)) (fun h => ?_)
            refine aw_iload D_mo_order_173 rfl ?_
            refine aw_if_eqN D_mo_order_175 (by omega) (fun h => absurd h (by omega)) (fun h => ?_)
            refine aw_aload_n 0 D_mo_order_178 rfl rfl ?_
            refine aw_get D_mo_order_179 rfl rfl ?_
            refine aw_iload D_mo_order_182 rfl ?_
            refine aw_aload_n 0 D_mo_order_184 rfl rfl ?_
            refine aw_get D_mo_order_185 rfl rfl ?_
            refine aw_iload D_mo_order_188 rfl ?_
            refine aw_ialdN D_mo_order_190 rfl (by omega) (by omega) ?_
            refine aw_iastN D_mo_order_191 rfl (by omega) (by omega) ?_
            first | refine aw_incN D_mo_order_192 rfl (Nat.le_of_ble_eq_true rfl) rfl ?_ | refine aw_inc D_mo_order_192 rfl (Nat.le_of_ble_eq_true rfl) rfl ?_
            refine aw_goto D_mo_order_195 ?_
            refine ie (j + 1) _ (by omega) hg2 (fun q hq => ?_)
            unfold va_up
            by_cases z : q = j
            · rw [if_pos z, z]
            · rw [if_neg z]; exact h1 q (by omega)
        refine aw_istore D_mo_order_160 (Nat.le_of_ble_eq_true rfl) rfl ?_
        refine aw_iconst (nI 0) D_mo_order_162 rfl ?_
        refine aw_istore D_mo_order_163 (Nat.le_of_ble_eq_true rfl) rfl ?_
        rcases (show g = 0 ∨ g = 1 by omega) with z | z
        · refine aw_iload D_mo_order_165 rfl ?_
          refine aw_sipush (nI 600) D_mo_order_167 rfl ?_
          refine aw_icmp_gtN D_mo_order_170 (by omega) (by decide) (fun h => absurd h (by omega)) (fun h => ?_)
          refine aw_iload D_mo_order_173 rfl ?_
          refine aw_if_eqN D_mo_order_175 (by omega) (fun h => ?_) (fun h => absurd h (by omega))
          exact goX 0 kp (fun q => absurd q (by omega))
        · exact copyK 601 0 kp (by omega) z (fun q hq => absurd hq (by omega))
      have inner : ∀ (e j : Nat), j + e = L + 1 → AW M_mo_order noP (Zp ZZ) 0 0 99 [(0, .ref 6), (1, .int (nI k)), (2, .int (nI p)), (3, .int (nI 0)), (4, .int (nI L)), (5, .int (nI since)), (6, .int (nI i)), (7, .int (nI (fb_sm (fun j => ru j * c (i - j)) j % 2))), (8, .int (nI j))] [] [a0, a1, a2, a3, a4, a5, MO (nI 0) tc n fd R b le sz o be pc wt qu lm sl ce tb mt ru bf kp, a7] 0 0 := by
        intro e
        induction e with
        | zero =>
          intro j hj
          have hj : j = L + 1 := by omega
          subst hj
          refine aw_iload D_mo_order_99 rfl ?_
          refine aw_iload D_mo_order_101 rfl ?_
          refine aw_icmp_gtN D_mo_order_103 (by omega) (by omega) (fun h => ?_) (fun h => absurd h (by omega))
          refine aw_iload D_mo_order_135 rfl ?_
          refine aw_if_neN D_mo_order_137 (by omega) (fun h => ?_) (fun h => ?_)
          · have hoff : fb_sm (fun j => ru j * c (i - j)) (L + 1) % 2 = 1 := by omega
            rw [hoff]
            refine aw_iconst (nI 2) D_mo_order_146 rfl ?_
            refine aw_iload D_mo_order_147 rfl ?_
            first | with_reducible refine aw_imulN D_mo_order_149 ?_ | refine aw_imul D_mo_order_149 ?_
            refine aw_iload D_mo_order_150 rfl ?_
            refine aw_icmp_gtN D_mo_order_152 (by omega) (by omega) (fun h => ?_) (fun h => ?_)
            · refine aw_iconst (nI 0) D_mo_order_159 rfl ?_
              exact behind 0 (by rw [if_neg (by omega)]) hoff
            · refine aw_iconst (nI 1) D_mo_order_155 rfl ?_
              refine aw_goto D_mo_order_156 ?_
              exact behind 1 (by rw [if_pos (by omega)]) hoff
          · first | refine aw_incN D_mo_order_140 rfl (Nat.le_of_ble_eq_true rfl) rfl ?_ | refine aw_inc D_mo_order_140 rfl (Nat.le_of_ble_eq_true rfl) rfl ?_
            refine aw_goto D_mo_order_143 ?_
            first | refine aw_incN D_mo_order_287 rfl (Nat.le_of_ble_eq_true rfl) rfl ?_ | refine aw_inc D_mo_order_287 rfl (Nat.le_of_ble_eq_true rfl) rfl ?_
            refine aw_goto D_mo_order_290 ?_
            refine aw_take 7 ?_
            exact ih (i + 1) L (since + 1) ru bf kp (by omega) (hB.keep hi6 h)
        | succ e ie =>
          intro j hj
          have hrj := hrl j (by omega)
          have hcj := hc2 (i - j)
          refine aw_iload D_mo_order_99 rfl ?_
          refine aw_iload D_mo_order_101 rfl ?_
          refine aw_icmp_gtN D_mo_order_103 (by omega) (by omega) (fun h => absurd h (by omega)) (fun h => ?_)
          refine aw_iload D_mo_order_106 rfl ?_
          refine aw_aload_n 0 D_mo_order_108 rfl rfl ?_
          refine aw_get D_mo_order_109 rfl rfl ?_
          refine aw_iload D_mo_order_112 rfl ?_
          refine aw_ialdN D_mo_order_114 rfl (by omega) (by omega) ?_
          refine aw_aload_n 0 D_mo_order_115 rfl rfl ?_
          refine aw_iload_n 1 D_mo_order_116 rfl rfl ?_
          refine aw_iload D_mo_order_117 rfl ?_
          refine aw_iload D_mo_order_119 rfl ?_
          first | with_reducible refine aw_isubN D_mo_order_121 (by omega) ?_ | refine aw_isub D_mo_order_121 ?_
          refine aw_callV1 (As := [_, _]) D_mo_order_122 kv_mo_bit (c_mo_bit hk (show i - j < 600 by omega)) rfl rfl rfl rfl rfl (Nat.le_of_ble_eq_true rfl) (Nat.zero_le _) (Nat.zero_le _) ?_
          rw [hci (i - j) (by omega)]
          first | with_reducible refine aw_iandN D_mo_order_125 ?_ | refine aw_iand D_mo_order_125 ?_
          first | with_reducible refine aw_ixorN D_mo_order_126 ?_ | refine aw_ixor D_mo_order_126 ?_
          rw [bit2 hrj hcj]
          refine aw_istore D_mo_order_127 (Nat.le_of_ble_eq_true rfl) rfl ?_
          first | refine aw_incN D_mo_order_129 rfl (Nat.le_of_ble_eq_true rfl) rfl ?_ | refine aw_inc D_mo_order_129 rfl (Nat.le_of_ble_eq_true rfl) rfl ?_
          refine aw_goto D_mo_order_132 ?_
          exact ie (j + 1) (by omega)
      refine aw_iload D_mo_order_87 rfl ?_
      refine aw_iload_n 2 D_mo_order_89 rfl rfl ?_
      refine aw_icmp_geN D_mo_order_90 (by omega) (by omega) (fun h => absurd h (by omega)) (fun h => ?_)
      refine aw_iconst (nI 0) D_mo_order_93 rfl ?_
      refine aw_istore D_mo_order_94 (Nat.le_of_ble_eq_true rfl) rfl ?_
      refine aw_iconst (nI 0) D_mo_order_96 rfl ?_
      refine aw_istore D_mo_order_97 (Nat.le_of_ble_eq_true rfl) rfl ?_
      exact inner (L + 1) 0 (by omega)
  have init : ∀ (d i : Nat) (ru bf : Nat → Nat), i + d = 601 → (∀ j, j < i → ru j = bm0 j) → (∀ j, j < i → bf j = bm0 j) → AW M_mo_order noP (Zp ZZ) 0 0 30 [(0, .ref 6), (1, .int (nI k)), (2, .int (nI p)), (3, .int (nI 0)), (4, .int (nI i))] [] [a0, a1, a2, a3, a4, a5, MO (nI 0) tc n fd R b le sz o be pc wt qu lm sl ce tb mt ru bf kp, a7] 0 0 := by
    intro d
    induction d with
    | zero =>
      intro i ru bf hi h1 h2
      refine aw_iload D_mo_order_30 rfl ?_
      refine aw_sipush (nI 600) D_mo_order_32 rfl ?_
      refine aw_icmp_gtN D_mo_order_35 (by omega) (by decide) (fun h => ?_) (fun h => absurd h (by omega))
      refine aw_iconst (nI 0) D_mo_order_78 rfl ?_
      refine aw_istore D_mo_order_79 (Nat.le_of_ble_eq_true rfl) rfl ?_
      refine aw_iconst (nI 1) D_mo_order_81 rfl ?_
      refine aw_istore D_mo_order_82 (Nat.le_of_ble_eq_true rfl) rfl ?_
      refine aw_iconst (nI 0) D_mo_order_84 rfl ?_
      refine aw_istore D_mo_order_85 (Nat.le_of_ble_eq_true rfl) rfl ?_
      exact main p 0 0 1 ru bf kp (by omega) (BMI.zero (fun j hj => h1 j (by omega)) (fun j hj => h2 j (by omega)))
    | succ d ih =>
      intro i ru bf hi h1 h2
      have up1 : ∀ (f : Nat → Nat) (v : Nat), v = bm0 i → (∀ j, j < i → f j = bm0 j) → ∀ j, j < i + 1 → va_up f i v j = bm0 j := fun f v hv hf j hj => by
        unfold va_up
        by_cases z : j = i
        · rw [if_pos z, hv, z]
        · rw [if_neg z]; exact hf j (by omega)
      refine aw_iload D_mo_order_30 rfl ?_
      refine aw_sipush (nI 600) D_mo_order_32 rfl ?_
      refine aw_icmp_gtN D_mo_order_35 (by omega) (by decide) (fun h => absurd h (by omega)) (fun h => ?_)
      refine aw_aload_n 0 D_mo_order_38 rfl rfl ?_
      refine aw_get D_mo_order_39 rfl rfl ?_
      refine aw_iload D_mo_order_42 rfl ?_
      refine aw_iload D_mo_order_44 rfl ?_
      refine aw_if_neN D_mo_order_46 (by omega) (fun h => ?_) (fun h => ?_)
      · refine aw_iconst (nI 0) D_mo_order_53 rfl ?_
        refine aw_iastN D_mo_order_54 rfl (by omega) (by omega) ?_
        refine aw_aload_n 0 D_mo_order_55 rfl rfl ?_
        refine aw_get D_mo_order_56 rfl rfl ?_
        refine aw_iload D_mo_order_59 rfl ?_
        refine aw_iload D_mo_order_61 rfl ?_
        refine aw_if_neN D_mo_order_63 (by omega) (fun h => ?_) (fun h2 => absurd h2 (by omega))
        refine aw_iconst (nI 0) D_mo_order_70 rfl ?_
        refine aw_iastN D_mo_order_71 rfl (by omega) (by omega) ?_
        first | refine aw_incN D_mo_order_72 rfl (Nat.le_of_ble_eq_true rfl) rfl ?_ | refine aw_inc D_mo_order_72 rfl (Nat.le_of_ble_eq_true rfl) rfl ?_
        refine aw_goto D_mo_order_75 ?_
        have hv : 0 = bm0 i := by unfold bm0; rw [if_neg (by omega)]
        exact ih (i + 1) _ _ (by omega) (up1 ru 0 hv h1) (up1 bf 0 hv h2)
      · refine aw_iconst (nI 1) D_mo_order_49 rfl ?_
        refine aw_goto D_mo_order_50 ?_
        refine aw_iastN D_mo_order_54 rfl (by omega) (by omega) ?_
        refine aw_aload_n 0 D_mo_order_55 rfl rfl ?_
        refine aw_get D_mo_order_56 rfl rfl ?_
        refine aw_iload D_mo_order_59 rfl ?_
        refine aw_iload D_mo_order_61 rfl ?_
        refine aw_if_neN D_mo_order_63 (by omega) (fun h2 => absurd h2 (by omega)) (fun h => ?_)
        refine aw_iconst (nI 1) D_mo_order_66 rfl ?_
        refine aw_goto D_mo_order_67 ?_
        refine aw_iastN D_mo_order_71 rfl (by omega) (by omega) ?_
        first | refine aw_incN D_mo_order_72 rfl (Nat.le_of_ble_eq_true rfl) rfl ?_ | refine aw_inc D_mo_order_72 rfl (Nat.le_of_ble_eq_true rfl) rfl ?_
        refine aw_goto D_mo_order_75 ?_
        have hv : 1 = bm0 i := by unfold bm0; rw [if_pos (by omega)]
        exact ih (i + 1) _ _ (by omega) (up1 ru 1 hv h1) (up1 bf 1 hv h2)
  refine aw_aload_n 0 D_mo_order_0 rfl rfl ?_
  refine aw_iconst (nI 0) D_mo_order_1 rfl ?_
  refine aw_put tc_mo D_mo_order_2 rfl (Nat.le_of_ble_eq_true rfl) rfl rfl ?_
  refine aw_iload_n 1 D_mo_order_5 rfl rfl ?_
  refine aw_callS1 (As := [_]) D_mo_order_6 kv_mo_isSheet (c_mo_isSheetT hk) rfl rfl (Nat.le_of_ble_eq_true rfl) (Nat.zero_le _) (Nat.zero_le _) ?_
  refine aw_if_neN D_mo_order_9 (by decide) (fun h => ?_) (fun h => absurd h (by decide))
  refine aw_aload_n 0 D_mo_order_14 rfl rfl ?_
  refine aw_iload_n 1 D_mo_order_15 rfl rfl ?_
  refine aw_iload_n 2 D_mo_order_16 rfl rfl ?_
  refine aw_callV1 (As := [_, _]) D_mo_order_17 kv_mo_againstBits (c_mo_againstT hk (hL.ne hk hne) (by omega) (by omega)) rfl rfl rfl rfl rfl (Nat.le_of_ble_eq_true rfl) (Nat.zero_le _) (Nat.zero_le _) ?_
  refine aw_istore_n 3 D_mo_order_20 rfl (Nat.le_of_ble_eq_true rfl) rfl ?_
  refine aw_iload_n 3 D_mo_order_21 rfl rfl ?_
  refine aw_if_eqN D_mo_order_22 (by decide) (fun h => ?_) (fun h => absurd h (by decide))
  refine aw_iconst (nI 0) D_mo_order_27 rfl ?_
  refine aw_istore D_mo_order_28 (Nat.le_of_ble_eq_true rfl) rfl ?_
  exact init 601 0 ru bf (by omega) (fun j hj => absurd hj (by omega)) (fun j hj => absurd hj (by omega))
end Mo9
