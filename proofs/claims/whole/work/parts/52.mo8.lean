/-! ### the reference: learn and order -/
/-- a row with n zeros ahead -/
def pz (n : Nat) (c : Nat → Nat) : Nat → Nat := fun x => if x < n then 0 else c (x - n)
theorem pz_lt {n : Nat} {c : Nat → Nat} (hc : ∀ i, c i < 2) : ∀ i, pz n c i < 2 := fun i => by
  unfold pz
  split
  · omega
  · exact hc _
theorem wd_cong {f g : Nat → Nat} : ∀ n a a', (∀ j, j < n → f (a + j) = g (a' + j)) → wd f n a = wd g n a'
  | 0, _, _, _ => rfl
  | n + 1, a, a', h => by
    show f a + 2 * wd f n (a + 1) = g a' + 2 * wd g n (a' + 1)
    rw [show f a = g a' from h 0 (by omega), wd_cong n (a + 1) (a' + 1) (fun j hj => by rw [show a + 1 + j = a + (j + 1) by omega, show a' + 1 + j = a' + (j + 1) by omega]; exact h (j + 1) (by omega))]
theorem ffw_wd {n : Nat} {c b : Nat → Nat} (hn : 1 ≤ n) (hc : ∀ i, c i < 2) : ∀ i, (ffw n c b i).1 = wd (pz n c) n i
  | 0 => by
    show 0 = wd (pz n c) n 0
    have : wd (pz n c) n 0 = wd (fun _ => 0) n 0 := wd_cong n 0 0 (fun j hj => by show (if 0 + j < n then 0 else c (0 + j - n)) = 0; rw [if_pos (by omega)])
    rw [this]
    have z : ∀ n a, wd (fun _ => 0) n a = 0 := by
      intro n
      induction n with
      | zero => exact fun _ => rfl
      | succ n ih => intro a; show 0 + 2 * wd (fun _ => 0) n (a + 1) = 0; rw [ih]
    rw [z]
  | i + 1 => by
    show ld n (ffw n c b i).1 (c i) = _
    rw [ffw_wd hn hc i]
    unfold ld
    obtain ⟨q, rfl⟩ : ∃ q, n = q + 1 := ⟨n - 1, by omega⟩
    have h1 := pz_lt (n := q + 1) hc i
    have e1 : wd (pz (q + 1) c) (q + 1) i = pz (q + 1) c i + 2 * wd (pz (q + 1) c) q (i + 1) := rfl
    rw [e1, wd_snoc (pz (q + 1) c) q (i + 1), show i + 1 + q = i + (q + 1) by omega, show pz (q + 1) c (i + (q + 1)) = c i by unfold pz; rw [if_neg (by omega), Nat.add_sub_cancel]]
    rw [show q + 1 - 1 = q from rfl, Nat.mul_comm (2 ^ q)]
    omega
/-- the reference's feedback behind i places -/
def mlb (n : Nat) (c : Nat → Nat) : Nat → Nat → Nat
  | 0 => fun _ => 0
  | i + 1 => va_up (mlb n c i) (wd c n i) (c (i + n))
theorem ffw_lo {n : Nat} {c b : Nat → Nat} : ∀ i, i ≤ n → (ffw n c b i).2 = b
  | 0, _ => rfl
  | i + 1, h => by
    show (if n ≤ i then va_up (ffw n c b i).2 (ffw n c b i).1 (c i) else (ffw n c b i).2) = b
    rw [if_neg (by omega)]
    exact ffw_lo i (by omega)
theorem ffw_hi {n : Nat} {c : Nat → Nat} (hn : 1 ≤ n) (hc : ∀ i, c i < 2) : ∀ i, (ffw n c (fun _ => 0) (n + i)).2 = mlb n c i
  | 0 => ffw_lo n (Nat.le_refl _)
  | i + 1 => by
    show (if n ≤ n + i then va_up (ffw n c (fun _ => 0) (n + i)).2 (ffw n c (fun _ => 0) (n + i)).1 (c (n + i)) else (ffw n c (fun _ => 0) (n + i)).2) = va_up (mlb n c i) (wd c n i) (c (i + n))
    rw [if_pos (by omega), ffw_hi hn hc i, ffw_wd hn hc, Nat.add_comm i n]
    congr 1
    refine wd_cong n _ _ (fun j _ => ?_)
    unfold pz
    rw [if_neg (by omega)]
    congr 1
    omega
theorem mlb_le {n : Nat} {c : Nat → Nat} (hc : ∀ i, c i < 2) : ∀ i j, mlb n c i j ≤ 1
  | 0, _ => Nat.zero_le 1
  | i + 1, j => by
    show va_up (mlb n c i) (wd c n i) (c (i + n)) j ≤ 1
    unfold va_up
    split
    · have := hc (i + n); omega
    · exact mlb_le hc i j
section Mo8
variable {a0 a1 a2 a3 a4 a5 a7 m : List va_E} {fl tc : Int32} {n : Nat} {b : Nat → Nat} {la : Nat → Int32} {zs : Nat → Nat} {cs : Nat → Nat → Int64}
theorem c_mo_learnU {x : Int32} (hx : ¬ vp_in x 4) (h : MS n b tc fl la zs cs m) : AMet M_mo_learn [.ref 6, .int x] [a0, a1, a2, a3, a4, a5, m, a7] (fun (r' : Option Value) (w' : Wd) => r' = some (.int (-nI 1)) ∧ ∃ m', w' = [a0, a1, a2, a3, a4, a5, m', a7] ∧ MS n b tc (nI 0) la zs cs m') 0 0 := by
  obtain ⟨fd, R, le, sz, o, be, pc, wt, qu, lm, sl, ce, tb, mt, ru, bf, kp, rfl, hn, hn9, hb, hfd, hL, hT⟩ := h
  refine AMet.of [(0, .ref 6), (1, .int x)] (by decide +kernel) rfl (Nat.le_of_ble_eq_true rfl) ?_
  refine aw_aload_n 0 D_mo_learn_0 rfl rfl ?_
  refine aw_iconst (nI 0) D_mo_learn_1 rfl ?_
  refine aw_put tc_mo D_mo_learn_2 rfl (Nat.le_of_ble_eq_true rfl) rfl rfl ?_
  refine aw_iload_n 1 D_mo_learn_5 rfl rfl ?_
  refine aw_callS1 (As := [_]) D_mo_learn_6 kv_mo_isSheet (c_mo_isSheetF hx) rfl rfl (Nat.le_of_ble_eq_true rfl) (Nat.zero_le _) (Nat.zero_le _) ?_
  refine aw_if_neN D_mo_learn_9 (by decide) (fun h => absurd h (by decide)) (fun h => ?_)
  refine aw_iconst (-nI 1) D_mo_learn_12 rfl ?_
  refine aw_ireturn D_mo_learn_13 rfl rfl ?_
  exact ⟨rfl, _, rfl, fd, R, le, sz, o, be, pc, wt, qu, lm, sl, ce, tb, mt, ru, bf, kp, rfl, hn, hn9, hb, hfd, hL, hT⟩
theorem c_mo_learnN {k : Nat} (hk : k < 4) (hno : la k = -nI 1) (h : MS n b tc fl la zs cs m) : AMet M_mo_learn [.ref 6, .int (nI k)] [a0, a1, a2, a3, a4, a5, m, a7] (fun (r' : Option Value) (w' : Wd) => r' = some (.int (-nI 10 - nI 1)) ∧ ∃ m', w' = [a0, a1, a2, a3, a4, a5, m', a7] ∧ MS n b tc (nI 1) la zs cs m') 0 0 := by
  obtain ⟨fd, R, le, sz, o, be, pc, wt, qu, lm, sl, ce, tb, mt, ru, bf, kp, rfl, hn, hn9, hb, hfd, hL, hT⟩ := h
  refine AMet.of [(0, .ref 6), (1, .int (nI k))] (by decide +kernel) rfl (Nat.le_of_ble_eq_true rfl) ?_
  refine aw_aload_n 0 D_mo_learn_0 rfl rfl ?_
  refine aw_iconst (nI 0) D_mo_learn_1 rfl ?_
  refine aw_put tc_mo D_mo_learn_2 rfl (Nat.le_of_ble_eq_true rfl) rfl rfl ?_
  refine aw_iload_n 1 D_mo_learn_5 rfl rfl ?_
  refine aw_callS1 (As := [_]) D_mo_learn_6 kv_mo_isSheet (c_mo_isSheetT hk) rfl rfl (Nat.le_of_ble_eq_true rfl) (Nat.zero_le _) (Nat.zero_le _) ?_
  refine aw_if_neN D_mo_learn_9 (by decide) (fun h => ?_) (fun h => absurd h (by decide))
  refine aw_aload_n 0 D_mo_learn_14 rfl rfl ?_
  refine aw_get D_mo_learn_15 rfl rfl ?_
  refine aw_iload_n 1 D_mo_learn_18 rfl rfl ?_
  refine aw_ialdN D_mo_learn_19 rfl (by omega) (by omega) ?_
  refine aw_bipush (-nI 9) D_mo_learn_20 rfl ?_
  refine aw_icmp_ne D_mo_learn_22 (fun h => absurd (hL.none hk hno) h) (fun h => ?_)
  refine aw_aload_n 0 D_mo_learn_25 rfl rfl ?_
  refine aw_iconst (nI 1) D_mo_learn_26 rfl ?_
  refine aw_callV1 (As := [_]) D_mo_learn_27 kv_mo_fails (c_mo_fails) rfl rfl rfl rfl rfl (Nat.le_of_ble_eq_true rfl) (Nat.zero_le _) (Nat.zero_le _) ?_
  refine aw_ireturn D_mo_learn_30 rfl rfl ?_
  exact ⟨rfl, _, rfl, fd, R, le, sz, o, be, pc, wt, qu, lm, sl, ce, tb, mt, ru, bf, kp, rfl, hn, hn9, hb, hfd, hL, hT⟩
theorem c_mo_learnS {k g : Nat} (hk : k < 4) (hne : la k ≠ -nI 1) (hg : IsGr (fun i => bt (cs k i)) (zs k) g) (h9 : 9 < g) (h : MS n b tc fl la zs cs m) : AMet M_mo_learn [.ref 6, .int (nI k)] [a0, a1, a2, a3, a4, a5, m, a7] (fun (r' : Option Value) (w' : Wd) => r' = some (.int (-nI 3)) ∧ ∃ m', w' = [a0, a1, a2, a3, a4, a5, m', a7] ∧ MS n b tc (nI 0) la zs cs m') 0 0 := by
  obtain ⟨fd, R, le, sz, o, be, pc, wt, qu, lm, sl, ce, tb, mt, ru, bf, kp, rfl, hn, hn9, hb, hfd, hL, hT⟩ := h
  obtain ⟨l, hl, hl1, hl2, hs1, hs2⟩ := hL.some hk hne
  have hzk := hL.2 k
  have hgl := hg.le
  refine AMet.of [(0, .ref 6), (1, .int (nI k))] (by decide +kernel) rfl (Nat.le_of_ble_eq_true rfl) ?_
  refine aw_aload_n 0 D_mo_learn_0 rfl rfl ?_
  refine aw_iconst (nI 0) D_mo_learn_1 rfl ?_
  refine aw_put tc_mo D_mo_learn_2 rfl (Nat.le_of_ble_eq_true rfl) rfl rfl ?_
  refine aw_iload_n 1 D_mo_learn_5 rfl rfl ?_
  refine aw_callS1 (As := [_]) D_mo_learn_6 kv_mo_isSheet (c_mo_isSheetT hk) rfl rfl (Nat.le_of_ble_eq_true rfl) (Nat.zero_le _) (Nat.zero_le _) ?_
  refine aw_if_neN D_mo_learn_9 (by decide) (fun h => ?_) (fun h => absurd h (by decide))
  refine aw_aload_n 0 D_mo_learn_14 rfl rfl ?_
  refine aw_get D_mo_learn_15 rfl rfl ?_
  refine aw_iload_n 1 D_mo_learn_18 rfl rfl ?_
  refine aw_ialdN D_mo_learn_19 rfl (by omega) (by omega) ?_
  refine aw_bipush (-nI 9) D_mo_learn_20 rfl ?_
  refine aw_icmp_ne D_mo_learn_22 (fun h => ?_) (fun h => absurd h (hL.ne hk hne))
  refine aw_aload_n 0 D_mo_learn_31 rfl rfl ?_
  refine aw_iload_n 1 D_mo_learn_32 rfl rfl ?_
  refine aw_aload_n 0 D_mo_learn_33 rfl rfl ?_
  refine aw_get D_mo_learn_34 rfl rfl ?_
  refine aw_iload_n 1 D_mo_learn_37 rfl rfl ?_
  refine aw_ialdN D_mo_learn_38 rfl (by omega) (by omega) ?_
  rw [show nF sl k = nI (zs k) from congrArg nI hs1]
  refine aw_callV (As := [_, _]) D_mo_learn_39 kv_mo_greatestOf (c_mo_greatestOf (c := fun i => bt (cs k i)) hk (by omega) (fun i => bt_lt _) (fun i hi => by rw [hs2 i (by omega)])) rfl rfl rfl rfl rfl (Nat.le_of_ble_eq_true rfl) (Nat.zero_le _) (Nat.zero_le _) (fun r w' hp => ?_)
  obtain ⟨g', rfl, hg', rfl⟩ := hp
  have hgg := hg'.one hg
  subst hgg
  show AW M_mo_learn noP _ 0 0 42 _ [.int (nI g')] _ _ _
  refine aw_istore_n 2 D_mo_learn_42 rfl (Nat.le_of_ble_eq_true rfl) rfl ?_
  refine aw_iload_n 2 D_mo_learn_43 rfl rfl ?_
  refine aw_bipush (nI 9) D_mo_learn_44 rfl ?_
  refine aw_icmp_leN D_mo_learn_46 (by omega) (by omega) (fun h => absurd h (by omega)) (fun h => ?_)
  refine aw_bipush (-nI 3) D_mo_learn_49 rfl ?_
  refine aw_ireturn D_mo_learn_51 rfl rfl ?_
  exact ⟨rfl, _, rfl, fd, R, le, sz, o, be, pc, wt, qu, lm, sl, ce, tb, mt, ru, bf, kp, rfl, hn, hn9, hb, hfd, hL, hT⟩
theorem c_mo_learnT {k g : Nat} (hk : k < 4) (hne : la k ≠ -nI 1) (hg : IsGr (fun i => bt (cs k i)) (zs k) g) (h9 : g ≤ 9) (h : MS n b tc fl la zs cs m) : AMet M_mo_learn [.ref 6, .int (nI k)] [a0, a1, a2, a3, a4, a5, m, a7] (fun (r' : Option Value) (w' : Wd) => r' = some (.int (nI (max g 2))) ∧ ∃ m', w' = [a0, a1, a2, a3, a4, a5, m', a7] ∧ MS (max g 2) ((ffw (max g 2) (fun i => bt (cs k i)) (fun _ => 0) (zs k)).2) tc (nI 0) la zs cs m') 0 0 := by
  obtain ⟨fd, R, le, sz, o, be, pc, wt, qu, lm, sl, ce, tb, mt, ru, bf, kp, rfl, hn, hn9, hb, hfd, hL, hT⟩ := h
  obtain ⟨l, hl, hl1, hl2, hs1, hs2⟩ := hL.some hk hne
  have hzk := hL.2 k
  have hgl := hg.le
  refine AMet.of [(0, .ref 6), (1, .int (nI k))] (by decide +kernel) rfl (Nat.le_of_ble_eq_true rfl) ?_
  generalize hZ : (fun (r' : Option Value) (w' : Wd) => r' = some (.int (nI (max g 2))) ∧ ∃ m', w' = [a0, a1, a2, a3, a4, a5, m', a7] ∧ MS (max g 2) ((ffw (max g 2) (fun i => bt (cs k i)) (fun _ => 0) (zs k)).2) tc (nI 0) la zs cs m') = ZZ
  refine aw_aload_n 0 D_mo_learn_0 rfl rfl ?_
  refine aw_iconst (nI 0) D_mo_learn_1 rfl ?_
  refine aw_put tc_mo D_mo_learn_2 rfl (Nat.le_of_ble_eq_true rfl) rfl rfl ?_
  refine aw_iload_n 1 D_mo_learn_5 rfl rfl ?_
  refine aw_callS1 (As := [_]) D_mo_learn_6 kv_mo_isSheet (c_mo_isSheetT hk) rfl rfl (Nat.le_of_ble_eq_true rfl) (Nat.zero_le _) (Nat.zero_le _) ?_
  refine aw_if_neN D_mo_learn_9 (by decide) (fun h => ?_) (fun h => absurd h (by decide))
  refine aw_aload_n 0 D_mo_learn_14 rfl rfl ?_
  refine aw_get D_mo_learn_15 rfl rfl ?_
  refine aw_iload_n 1 D_mo_learn_18 rfl rfl ?_
  refine aw_ialdN D_mo_learn_19 rfl (by omega) (by omega) ?_
  refine aw_bipush (-nI 9) D_mo_learn_20 rfl ?_
  refine aw_icmp_ne D_mo_learn_22 (fun h => ?_) (fun h => absurd h (hL.ne hk hne))
  refine aw_aload_n 0 D_mo_learn_31 rfl rfl ?_
  refine aw_iload_n 1 D_mo_learn_32 rfl rfl ?_
  refine aw_aload_n 0 D_mo_learn_33 rfl rfl ?_
  refine aw_get D_mo_learn_34 rfl rfl ?_
  refine aw_iload_n 1 D_mo_learn_37 rfl rfl ?_
  refine aw_ialdN D_mo_learn_38 rfl (by omega) (by omega) ?_
  rw [show nF sl k = nI (zs k) from congrArg nI hs1]
  refine aw_callV (As := [_, _]) D_mo_learn_39 kv_mo_greatestOf (c_mo_greatestOf (c := fun i => bt (cs k i)) hk (by omega) (fun i => bt_lt _) (fun i hi => by rw [hs2 i (by omega)])) rfl rfl rfl rfl rfl (Nat.le_of_ble_eq_true rfl) (Nat.zero_le _) (Nat.zero_le _) (fun r w' hp => ?_)
  obtain ⟨g', rfl, hg', rfl⟩ := hp
  have hgg := hg'.one hg
  subst hgg
  show AW M_mo_learn noP _ 0 0 42 _ [.int (nI g')] _ _ _
  refine aw_istore_n 2 D_mo_learn_42 rfl (Nat.le_of_ble_eq_true rfl) rfl ?_
  refine aw_iload_n 2 D_mo_learn_43 rfl rfl ?_
  refine aw_bipush (nI 9) D_mo_learn_44 rfl ?_
  refine aw_icmp_leN D_mo_learn_46 (by omega) (by omega) (fun h => ?_) (fun h => absurd h (by omega))
  have hN2 : 2 ≤ max g' 2 := by omega
  have hN9 : max g' 2 ≤ 9 := by omega
  have hMS : MS n b tc (nI 0) la zs cs (MO (nI 0) tc n fd R b le sz o be pc wt qu lm sl ce tb mt ru bf kp) := ⟨fd, R, le, sz, o, be, pc, wt, qu, lm, sl, ce, tb, mt, ru, bf, kp, rfl, hn, hn9, hb, hfd, hL, hT⟩
  generalize hNN : max g' 2 = N at hN2 hN9 hZ
  have rest : AW M_mo_learn noP (Zp ZZ) 0 0 63 [(0, .ref 6), (1, .int (nI k)), (2, .int (nI g'))] [.int (nI N), .ref 6] [a0, a1, a2, a3, a4, a5, MO (nI 0) tc n fd R b le sz o be pc wt qu lm sl ce tb mt ru bf kp, a7] 0 0 := by
    refine aw_callV (As := [_]) D_mo_learn_63 kv_mo_length (c_mo_lengthT hN2 hN9 hMS) rfl rfl rfl rfl rfl (Nat.le_of_ble_eq_true rfl) (Nat.zero_le _) (Nat.zero_le _) (fun r w' hp => ?_)
    obtain ⟨rfl, m2, rfl, h⟩ := hp
    show AW M_mo_learn noP _ 0 0 66 _ [.int (nI n)] _ _ _
    clear hMS hs2 hs1 hl2 hl1 hl hL hfd hb hn9 hn
    obtain ⟨fd, R, le, sz, o, be, pc, wt, qu, lm, sl, ce, tb, mt, ru, bf, kp, rfl, hn, hn9, hb, hfd, hL, hT⟩ := h
    obtain ⟨l, hl, hl1, hl2, hs1, hs2⟩ := hL.some hk hne
    have hp9 := pow_le9 hn9
    generalize hc : (fun i => bt (cs k i)) = c at hZ
    have hci : ∀ i, i < zs k → bt (ce (600 * k + i)) = c i := fun i hi => by rw [hs2 i hi]; exact congrFun hc i
    have hc2 : ∀ i, c i < 2 := fun i => by rw [← hc]; exact bt_lt _
    have key : ∀ (d i : Nat), zs k ≤ i + N + d → (i = 0 ∨ i + N ≤ zs k) → AW M_mo_learn noP (Zp ZZ) 0 0 69 [(0, .ref 6), (1, .int (nI k)), (2, .int (nI g')), (3, .int (nI i))] [] [a0, a1, a2, a3, a4, a5, MO (nI 0) tc N fd R (mlb N c i) le sz o be pc wt qu lm sl ce tb mt ru bf kp, a7] 0 0 := by
      intro d
      have stop : ∀ i, zs k ≤ i + N → (i = 0 ∨ i + N ≤ zs k) → AW M_mo_learn noP (Zp ZZ) 0 0 69 [(0, .ref 6), (1, .int (nI k)), (2, .int (nI g')), (3, .int (nI i))] [] [a0, a1, a2, a3, a4, a5, MO (nI 0) tc N fd R (mlb N c i) le sz o be pc wt qu lm sl ce tb mt ru bf kp, a7] 0 0 := by
        intro i h1 h2
        have hfin : (ffw N c (fun _ => 0) (zs k)).2 = mlb N c i := by
          rcases h2 with rfl | h2
          · exact ffw_lo _ (by omega)
          · rw [show zs k = N + i by omega]
            exact ffw_hi (by omega) hc2 i
        rw [hfin] at hZ
        refine aw_iload_n 3 D_mo_learn_69 rfl rfl ?_
        refine aw_aload_n 0 D_mo_learn_70 rfl rfl ?_
        refine aw_get D_mo_learn_71 rfl rfl ?_
        first | with_reducible refine aw_iaddN D_mo_learn_74 ?_ | refine aw_iadd D_mo_learn_74 ?_
        refine aw_aload_n 0 D_mo_learn_75 rfl rfl ?_
        refine aw_get D_mo_learn_76 rfl rfl ?_
        refine aw_iload_n 1 D_mo_learn_79 rfl rfl ?_
        refine aw_ialdN D_mo_learn_80 rfl (by omega) (by omega) ?_
        rw [show nF sl k = nI (zs k) from congrArg nI hs1]
        refine aw_icmp_geN D_mo_learn_81 (by omega) (by omega) (fun h => ?_) (fun h => absurd h (by omega))
        refine aw_aload_n 0 D_mo_learn_146 rfl rfl ?_
        refine aw_iconst (nI 0) D_mo_learn_147 rfl ?_
        refine aw_put tc_mo D_mo_learn_148 rfl (Nat.le_of_ble_eq_true rfl) rfl rfl ?_
        refine aw_aload_n 0 D_mo_learn_151 rfl rfl ?_
        refine aw_get D_mo_learn_152 rfl rfl ?_
        refine aw_ireturn D_mo_learn_155 rfl rfl ?_
        subst hZ; exact ⟨rfl, _, rfl, 0, R, le, sz, o, be, pc, wt, qu, lm, sl, ce, tb, mt, ru, bf, kp, rfl, hn, hn9, (mlb_le hc2 i), (Or.inl rfl), hL, hT⟩
      induction d with
      | zero => exact fun i h1 h2 => stop i (by omega) h2
      | succ d ih =>
        intro i h1 h2
        rcases Nat.lt_or_ge (i + N) (zs k) with hlt | hlt
        · have inner : ∀ (e j : Nat), j + e = N → AW M_mo_learn noP (Zp ZZ) 0 0 90 [(0, .ref 6), (1, .int (nI k)), (2, .int (nI g')), (3, .int (nI i)), (4, .int (nI (wd c j i))), (5, .int (nI j))] [] [a0, a1, a2, a3, a4, a5, MO (nI 0) tc N fd R (mlb N c i) le sz o be pc wt qu lm sl ce tb mt ru bf kp, a7] 0 0 := by
            intro e
            induction e with
            | zero =>
              intro j hj
              have hj : j = N := by omega
              subst hj
              have hw := wd_lt hc2 j i
              refine aw_iload D_mo_learn_90 rfl ?_
              refine aw_aload_n 0 D_mo_learn_92 rfl rfl ?_
              refine aw_get D_mo_learn_93 rfl rfl ?_
              refine aw_icmp_geN D_mo_learn_96 (by omega) (by omega) (fun h => ?_) (fun h => absurd h (by omega))
              refine aw_aload_n 0 D_mo_learn_122 rfl rfl ?_
              refine aw_get D_mo_learn_123 rfl rfl ?_
              refine aw_iload D_mo_learn_126 rfl ?_
              refine aw_aload_n 0 D_mo_learn_128 rfl rfl ?_
              refine aw_iload_n 1 D_mo_learn_129 rfl rfl ?_
              refine aw_iload_n 3 D_mo_learn_130 rfl rfl ?_
              refine aw_aload_n 0 D_mo_learn_131 rfl rfl ?_
              refine aw_get D_mo_learn_132 rfl rfl ?_
              first | with_reducible refine aw_iaddN D_mo_learn_135 ?_ | refine aw_iadd D_mo_learn_135 ?_
              refine aw_callV1 (As := [_, _]) D_mo_learn_136 kv_mo_bit (c_mo_bit hk (show i + j < 600 by omega)) rfl rfl rfl rfl rfl (Nat.le_of_ble_eq_true rfl) (Nat.zero_le _) (Nat.zero_le _) ?_
              rw [hci (i + j) hlt]
              refine aw_iastN D_mo_learn_139 rfl (by omega) (by omega) ?_
              first | refine aw_incN D_mo_learn_140 rfl (Nat.le_of_ble_eq_true rfl) rfl ?_ | refine aw_inc D_mo_learn_140 rfl (Nat.le_of_ble_eq_true rfl) rfl ?_
              refine aw_goto D_mo_learn_143 ?_
              refine aw_take 4 ?_
              exact ih (i + 1) (by omega) (Or.inr (by omega))
            | succ e ie =>
              intro j hj
              have hw := wd_lt hc2 j i
              have h2j := hc2 (i + j)
              have hpj : 2 ^ j ≤ 512 := pow_le9 (by omega)
              have hcj : c (i + j) * 2 ^ j ≤ 1 * 2 ^ j := Nat.mul_le_mul_right _ (by omega)
              refine aw_iload D_mo_learn_90 rfl ?_
              refine aw_aload_n 0 D_mo_learn_92 rfl rfl ?_
              refine aw_get D_mo_learn_93 rfl rfl ?_
              refine aw_icmp_geN D_mo_learn_96 (by omega) (by omega) (fun h => absurd h (by omega)) (fun h => ?_)
              refine aw_iload D_mo_learn_99 rfl ?_
              refine aw_aload_n 0 D_mo_learn_101 rfl rfl ?_
              refine aw_iload_n 1 D_mo_learn_102 rfl rfl ?_
              refine aw_iload_n 3 D_mo_learn_103 rfl rfl ?_
              refine aw_iload D_mo_learn_104 rfl ?_
              first | with_reducible refine aw_iaddN D_mo_learn_106 ?_ | refine aw_iadd D_mo_learn_106 ?_
              refine aw_callV1 (As := [_, _]) D_mo_learn_107 kv_mo_bit (c_mo_bit hk (show i + j < 600 by omega)) rfl rfl rfl rfl rfl (Nat.le_of_ble_eq_true rfl) (Nat.zero_le _) (Nat.zero_le _) ?_
              rw [hci (i + j) (by omega)]
              refine aw_iload D_mo_learn_110 rfl ?_
              refine aw_ishlN D_mo_learn_112 (by omega) (by omega) ?_
              first | with_reducible refine aw_iaddN D_mo_learn_113 ?_ | refine aw_iadd D_mo_learn_113 ?_
              rw [show wd c j i + c (i + j) * 2 ^ j = wd c (j + 1) i by rw [wd_snoc, Nat.mul_comm]]
              refine aw_istore D_mo_learn_114 (Nat.le_of_ble_eq_true rfl) rfl ?_
              first | refine aw_incN D_mo_learn_116 rfl (Nat.le_of_ble_eq_true rfl) rfl ?_ | refine aw_inc D_mo_learn_116 rfl (Nat.le_of_ble_eq_true rfl) rfl ?_
              refine aw_goto D_mo_learn_119 ?_
              exact ie (j + 1) (by omega)
          refine aw_iload_n 3 D_mo_learn_69 rfl rfl ?_
          refine aw_aload_n 0 D_mo_learn_70 rfl rfl ?_
          refine aw_get D_mo_learn_71 rfl rfl ?_
          first | with_reducible refine aw_iaddN D_mo_learn_74 ?_ | refine aw_iadd D_mo_learn_74 ?_
          refine aw_aload_n 0 D_mo_learn_75 rfl rfl ?_
          refine aw_get D_mo_learn_76 rfl rfl ?_
          refine aw_iload_n 1 D_mo_learn_79 rfl rfl ?_
          refine aw_ialdN D_mo_learn_80 rfl (by omega) (by omega) ?_
          rw [show nF sl k = nI (zs k) from congrArg nI hs1]
          refine aw_icmp_geN D_mo_learn_81 (by omega) (by omega) (fun h => absurd h (by omega)) (fun h => ?_)
          refine aw_iconst (nI 0) D_mo_learn_84 rfl ?_
          refine aw_istore D_mo_learn_85 (Nat.le_of_ble_eq_true rfl) rfl ?_
          refine aw_iconst (nI 0) D_mo_learn_87 rfl ?_
          refine aw_istore D_mo_learn_88 (Nat.le_of_ble_eq_true rfl) rfl ?_
          exact inner N 0 (by omega)
        · exact stop i hlt h2
    refine aw_pop D_mo_learn_66 rfl ?_
    refine aw_iconst (nI 0) D_mo_learn_67 rfl ?_
    refine aw_istore_n 3 D_mo_learn_68 rfl (Nat.le_of_ble_eq_true rfl) rfl ?_
    exact key (zs k) 0 (by omega) (Or.inl rfl)
  refine aw_aload_n 0 D_mo_learn_52 rfl rfl ?_
  refine aw_iload_n 2 D_mo_learn_53 rfl rfl ?_
  refine aw_iconst (nI 2) D_mo_learn_54 rfl ?_
  refine aw_icmp_geN D_mo_learn_55 (by omega) (by omega) (fun h => ?_) (fun h => ?_)
  · have hgN : g' = N := by omega
    refine aw_iload_n 2 D_mo_learn_62 rfl rfl ?_
    rw [hgN] at rest ⊢
    exact rest
  · have hgN : 2 = N := by omega
    refine aw_iconst (nI 2) D_mo_learn_58 rfl ?_
    refine aw_goto D_mo_learn_59 ?_
    subst hgN
    exact rest
end Mo8
