/-! ### both sides call by call -/
section Ways2
variable {n : Nat} {b : Nat → Nat} {tc fl : Int32} {la : Nat → Int32} {zs : Nat → Nat} {cs : Nat → Nat → Int64} {mo : List va_E} {w : Wd}
theorem c_br_ways2 (hp : pureTo b (2 ^ n / 2) = true) (h : CS n b tc fl la zs cs mo w) : AMet M_br_ways [.ref 0] w (fun r w' => r = some (.int (nI (wys (cRo n b) (cR n b) (2 ^ n / 2)))) ∧ CS n b tc fl la zs cs mo w') 1 4096 := by
  obtain ⟨ch, bn, c, pd, st, fa, o, be, pc, le, sz, wt, qu, kc, tw, mk, ru, ol, re, ms, sp, dy, rfl, hn, hn9, hb, hch, hD, hz⟩ := h
  have hp9 := pow_le9 hn9
  have h4 : 2 ^ n = 2 * 2 ^ (n - 1) := (pow_half (by omega)).symm
  refine AMet.of [(0, .ref 0)] (by decide +kernel) rfl (Nat.le_of_ble_eq_true rfl) ?_
  refine aw_aload_n 0 D_br_ways_0 rfl rfl ?_
  refine aw_get D_br_ways_1 rfl rfl ?_
  refine aw_callV1 (As := []) D_br_ways_4 kv_rg_isPure (c_rg_pure hp9 (by omega) hb) rfl rfl rfl rfl rfl (Nat.le_of_ble_eq_true rfl) (Nat.zero_le _) (Nat.zero_le _) ?_
  rw [if_pos hp]
  refine aw_if_neN D_br_ways_7 (by omega) (fun h => ?_) (fun h => absurd h (by omega))
  refine aw_aload_n 0 D_br_ways_13 rfl rfl ?_
  refine aw_get D_br_ways_14 rfl rfl ?_
  refine aw_aload_n 0 D_br_ways_17 rfl rfl ?_
  refine aw_get D_br_ways_18 rfl rfl ?_
  refine aw_aload_n 0 D_br_ways_21 rfl rfl ?_
  refine aw_callV (As := []) D_br_ways_22 kv_br_foundRings (c_br_found hn hn9 hb hch) rfl rfl rfl rfl rfl (Nat.le_of_ble_eq_true rfl) (Nat.zero_le _) (Nat.zero_le _) (fun r w' hp => ?_)
  obtain ⟨rfl, c, pd, st, fa, o, be, pc, le, sz, wt, qu, rfl, hF⟩ := hp
  have hcan := hF.can (by omega) hb
  have hR := cR_few (by omega) hn9 hb hF
  show AW M_br_ways noP _ 1 4096 25 _ [.ref 2, .ref 1, .ref 3] _ _ _
  refine aw_callV (As := [_, _]) D_br_ways_25 kv_tr_count (c_tr_count hn hn9 rfl hb hF (by rw [hcan.1]; exact hR) hD) rfl rfl rfl rfl rfl (Nat.le_of_ble_eq_true rfl) (by decide) (by decide) (fun r w' hp => ?_)
  obtain ⟨rfl, kc, tw, dy, rfl, hD⟩ := hp
  have hj : wys (fun s => (o s).getD 0) c (2 ^ n / 2) = wys (cRo n b) (cR n b) (2 ^ n / 2) := by
    rw [hcan.1]
    exact wys_congr (H := 2 ^ n / 2) (fun s hs => (hcan.2.2.1 s (by omega)).1)
  rw [hj]
  show AW M_br_ways noP _ 1 4096 28 _ [.int (nI (wys (cRo n b) (cR n b) (2 ^ n / 2)))] _ _ _
  refine aw_ireturn D_br_ways_28 rfl rfl ?_
  exact ⟨rfl, 0, bn, c, pd, st, fa, o, be, pc, le, sz, wt, qu, kc, tw, mk, ru, ol, re, ms, sp, dy, rfl, hn, hn9, hb, Or.inr ⟨rfl, hF⟩, hD, hz⟩
end Ways2
/-- both sides stand for the same -/
def LI (w : Wd) : Prop := ∃ (n : Nat) (b : Nat → Nat) (tc fl : Int32) (la : Nat → Int32) (zs : Nat → Nat) (cs : Nat → Nat → Int64) (mo : List va_E), CS n b tc fl la zs cs mo w ∧ MS n b tc fl la zs cs mo
def isI (v : Value) : Prop := ∃ x : Int32, v = .int x
def isL (v : Value) : Prop := ∃ x : Int64, v = .long x
/-- a call of the class, then the like one of the reference: like answers, and both stand for the same then -/
def Pair (T : Value → Prop) (MB MM : MI) (as : List Value) (w : Wd) (mc ms : Nat) : Prop :=
  AMet MB (.ref 0 :: as) w (fun r w1 => ∃ v, T v ∧ r = some v ∧ (∃ fs, look w1 6 = some (.inr (6, fs))) ∧ AMet MM (.ref 6 :: as) w1 (fun r' w2 => r' = some v ∧ LI w2) 0 0) mc ms
section Pairs
variable {n n' : Nat} {b b' : Nat → Nat} {tc fl tc' fl' : Int32} {la la' : Nat → Int32} {zs zs' : Nat → Nat} {cs cs' : Nat → Nat → Int64} {mo : List va_E} {w w1 : Wd} {v : Value} {MB MM : MI} {as : List Value} {mc ms : Nat} {T : Value → Prop}
theorem mid (hMS : MS n b tc fl la zs cs mo) (hC : CS n' b' tc' fl' la' zs' cs' mo w1) (hM : ∀ a0 a1 a2 a3 a4 a5 a7 : List va_E, AMet MM (.ref 6 :: as) [a0, a1, a2, a3, a4, a5, mo, a7] (fun r' w' => r' = some v ∧ ∃ m', w' = [a0, a1, a2, a3, a4, a5, m', a7] ∧ MS n' b' tc' fl' la' zs' cs' m') 0 0) : (∃ fs, look w1 6 = some (.inr (6, fs))) ∧ AMet MM (.ref 6 :: as) w1 (fun r' w2 => r' = some v ∧ LI w2) 0 0 := by
  obtain ⟨ch, bn, c, pd, st, fa, o, be, pc, le, sz, wt, qu, kc, tw, mk, ru, ol, re, ms, sp, dy, rfl, hn, hn9, hb, hch, hD, hz⟩ := hC
  refine ⟨?_, (hM _ _ _ _ _ _ _).mono ?_⟩
  · obtain ⟨fd, R, le, sz, o, be, pc, wt, qu, lm, sl, ce, tb, mt, ru, bf, kp, rfl, _⟩ := hMS
    exact ⟨_, rfl⟩
  · rintro r w2 ⟨h1, m', rfl, h2⟩
    exact ⟨h1, n', b', tc', fl', la', zs', cs', m', ⟨ch, bn, c, pd, st, fa, o, be, pc, le, sz, wt, qu, kc, tw, mk, ru, ol, re, ms, sp, dy, rfl, hn, hn9, hb, hch, hD, hz⟩, h2⟩
theorem pair_mk (hT : T v) (hMS : MS n b tc fl la zs cs mo) (hB : AMet MB (.ref 0 :: as) w (fun r w' => r = some v ∧ CS n' b' tc' fl' la' zs' cs' mo w') mc ms) (hM : ∀ a0 a1 a2 a3 a4 a5 a7 : List va_E, AMet MM (.ref 6 :: as) [a0, a1, a2, a3, a4, a5, mo, a7] (fun r' w' => r' = some v ∧ ∃ m', w' = [a0, a1, a2, a3, a4, a5, m', a7] ∧ MS n' b' tc' fl' la' zs' cs' m') 0 0) : Pair T MB MM as w mc ms :=
  hB.mono (fun r w1 h => ⟨v, hT, h.1, mid hMS h.2 hM⟩)
theorem pair_mkE (hT : T v) (hMS : MS n b tc fl la zs cs mo) (hC : CS n b tc fl la zs cs mo w) (hB : AMet MB (.ref 0 :: as) w (Ex (some v) w) mc ms) (hM : ∀ a0 a1 a2 a3 a4 a5 a7 : List va_E, AMet MM (.ref 6 :: as) [a0, a1, a2, a3, a4, a5, mo, a7] (fun r' w' => r' = some v ∧ ∃ m', w' = [a0, a1, a2, a3, a4, a5, m', a7] ∧ MS n b tc fl la zs cs m') 0 0) : Pair T MB MM as w mc ms :=
  hB.mono (fun r w1 h => ⟨v, hT, h.1, mid hMS (by rw [h.2]; exact hC) hM⟩)
theorem vp_any {x : Int32} {N : Nat} (h : vp_in x N) : ∃ j, j < N ∧ x = nI j := by
  obtain ⟨j, hj, rfl⟩ := nI_of (fun z => h (Or.inl z))
  refine ⟨j, ?_, rfl⟩
  rcases Nat.lt_or_ge j N with q | q
  · exact q
  · exact absurd (Or.inr (by rw [nI_clamp hj]; exact q)) h
theorem IsGr.ex (c : Nat → Nat) (n : Nat) : ∃ g, IsGr c n g := by
  obtain ⟨k, h1, h2⟩ := pk_least (fun m => ¬ Dv c n m) ⟨n, fun z => by have := z.lt; omega⟩
  exact ⟨k, fun m hm => Classical.not_not.mp (h2 m hm), h1⟩
theorem iI (x : Int32) : isI (.int x) := ⟨x, rfl⟩
theorem iL (x : Int64) : isL (.long x) := ⟨x, rfl⟩
theorem pr_length {w : Wd} (hI : LI w) (x : Int32) : Pair isI M_br_length M_mo_length [.int x] w 0 0 := by
  obtain ⟨n, b, tc, fl, la, zs, cs, mo, hC, hM⟩ := hI
  by_cases h : ∃ k, 2 ≤ k ∧ k ≤ 9 ∧ x = nI k
  · obtain ⟨k, h2, h9, rfl⟩ := h
    exact pair_mk (iI _) hM (c_br_lengthT h2 h9 hC) (fun a0 a1 a2 a3 a4 a5 a7 => c_mo_lengthT h2 h9 hM)
  · exact pair_mkE (iI _) hM hC (c_br_lengthF h) (fun a0 a1 a2 a3 a4 a5 a7 => c_mo_lengthF h hM)
theorem pr_set {w : Wd} (hI : LI w) (x y : Int32) : Pair isI M_br_set M_mo_set [.int x, .int y] w 0 0 := by
  obtain ⟨n, b, tc, fl, la, zs, cs, mo, hC, hM⟩ := hI
  by_cases h : vp_in x (2 ^ n)
  · obtain ⟨s, hs, rfl⟩ := vp_any h
    by_cases h2 : vp_in y 2
    · obtain ⟨j, hj, rfl⟩ := vp_any h2
      exact pair_mk (iI _) hM (c_br_setT hs (show j ≤ 1 by omega) hC) (fun a0 a1 a2 a3 a4 a5 a7 => c_mo_setT hs (show j ≤ 1 by omega) hM)
    · exact pair_mkE (iI _) hM hC (c_br_setO hs h2 hC) (fun a0 a1 a2 a3 a4 a5 a7 => c_mo_setO hs h2 hM)
  · exact pair_mkE (iI _) hM hC (c_br_setU h hC) (fun a0 a1 a2 a3 a4 a5 a7 => c_mo_setU h hM)
theorem pr_linear {w : Wd} (hI : LI w) (x y : Int32) : Pair isI M_br_linear M_mo_linear [.int x, .int y] w 0 0 := by
  obtain ⟨n, b, tc, fl, la, zs, cs, mo, hC, hM⟩ := hI
  by_cases h : vp_in x (2 ^ n)
  · by_cases h2 : vp_in y 2
    · obtain ⟨s, hs, rfl⟩ := vp_any h
      obtain ⟨j, hj, rfl⟩ := vp_any h2
      exact pair_mk (iI _) hM (c_br_linT hs (show j ≤ 1 by omega) hC) (fun a0 a1 a2 a3 a4 a5 a7 => c_mo_linT hs (show j ≤ 1 by omega) hM)
    · exact pair_mkE (iI _) hM hC (c_br_linF (Or.inr h2) hC) (fun a0 a1 a2 a3 a4 a5 a7 => c_mo_linF (Or.inr h2) hM)
  · exact pair_mkE (iI _) hM hC (c_br_linF (Or.inl h) hC) (fun a0 a1 a2 a3 a4 a5 a7 => c_mo_linF (Or.inl h) hM)
theorem pr_take {w : Wd} (hI : LI w) (x l y p u : Int32) : Pair isI M_br_take M_mo_take [.int x, .int l, .int y, .int p, .int u] w 0 0 := by
  obtain ⟨n, b, tc, fl, la, zs, cs, mo, hC, hM⟩ := hI
  by_cases hx : vp_in x 4
  · by_cases hu : vp_in u (2 ^ n)
    · obtain ⟨k, hk, rfl⟩ := vp_any hx
      obtain ⟨s, hs, rfl⟩ := vp_any hu
      by_cases hv : vp_in l 3
      · obtain ⟨l, hl, rfl⟩ := vp_any hv
        by_cases hno : la k = -nI 1
        · exact pair_mk (iI _) hM (c_br_takeN hk hs hl hno hC) (fun a0 a1 a2 a3 a4 a5 a7 => c_mo_takeN hk hs hl hno hM)
        · by_cases hc : la k = nI l
          · by_cases hp : p < 0
            · exact pair_mk (iI _) hM (c_br_takeZ hk hs hl hc hp hC) (fun a0 a1 a2 a3 a4 a5 a7 => c_mo_takeZ hk hs hl hc hp hM)
            · obtain ⟨p, hp2, rfl⟩ := nI_of hp
              by_cases hb : ∃ i, i + p ≤ zs k ∧ s + p ≤ 2 ^ n ∧ y = nI i
              · obtain ⟨i, h1, h2, rfl⟩ := hb
                exact pair_mk (iI _) hM (c_br_takeT hk hs hl hc h1 h2 hC) (fun a0 a1 a2 a3 a4 a5 a7 => c_mo_takeT hk hs hl hc h1 h2 hM)
              · exact pair_mk (iI _) hM (c_br_takeI hk hs hl hc hp2 hb hC) (fun a0 a1 a2 a3 a4 a5 a7 => c_mo_takeI hk hs hl hc hp2 hb hM)
          · exact pair_mk (iI _) hM (c_br_takeC hk hs hl hno hc hC) (fun a0 a1 a2 a3 a4 a5 a7 => c_mo_takeC hk hs hl hno hc hM)
      · exact pair_mk (iI _) hM (c_br_takeO hk hs hv hC) (fun a0 a1 a2 a3 a4 a5 a7 => c_mo_takeO hk hs hv hM)
    · exact pair_mk (iI _) hM (c_br_takeU (Or.inr hu) hC) (fun a0 a1 a2 a3 a4 a5 a7 => c_mo_takeU (Or.inr hu) hM)
  · exact pair_mk (iI _) hM (c_br_takeU (Or.inl hx) hC) (fun a0 a1 a2 a3 a4 a5 a7 => c_mo_takeU (Or.inl hx) hM)
theorem pr_feedback {w : Wd} (hI : LI w) (x : Int32) : Pair isI M_br_feedback M_mo_feedback [.int x] w 0 0 := by
  obtain ⟨n, b, tc, fl, la, zs, cs, mo, hC, hM⟩ := hI
  by_cases h : vp_in x (2 ^ n)
  · obtain ⟨s, hs, rfl⟩ := vp_any h
    exact pair_mkE (iI _) hM hC (c_br_feedT hs hC) (fun a0 a1 a2 a3 a4 a5 a7 => c_mo_feedT hs hM)
  · exact pair_mkE (iI _) hM hC (c_br_feedU h hC) (fun a0 a1 a2 a3 a4 a5 a7 => c_mo_feedU h hM)
theorem pr_step {w : Wd} (hI : LI w) (x : Int32) (v : Int64) : Pair isI M_br_step M_mo_step [.int x, .long v] w 0 0 := by
  obtain ⟨n, b, tc, fl, la, zs, cs, mo, hC, hM⟩ := hI
  by_cases h : vp_in x (2 ^ n)
  · obtain ⟨s, hs, rfl⟩ := vp_any h
    by_cases h2 : v < 0
    · exact pair_mkE (iI _) hM hC (c_br_stepO hs h2 hC) (fun a0 a1 a2 a3 a4 a5 a7 => c_mo_stepO hs h2 hM)
    · obtain ⟨k, hk, rfl⟩ := pk_lOf h2
      exact pair_mk (iI _) hM (c_br_stepT hs hk hC) (fun a0 a1 a2 a3 a4 a5 a7 => c_mo_stepT hs hk hM)
  · exact pair_mkE (iI _) hM hC (c_br_stepU h hC) (fun a0 a1 a2 a3 a4 a5 a7 => c_mo_stepU h hM)
theorem pr_back {w : Wd} (hI : LI w) (x y : Int32) : Pair isI M_br_back M_mo_back [.int x, .int y] w 0 0 := by
  obtain ⟨n, b, tc, fl, la, zs, cs, mo, hC, hM⟩ := hI
  by_cases h : vp_in x (2 ^ n)
  · obtain ⟨s, hs, rfl⟩ := vp_any h
    by_cases h1 : y = -nI 1
    · subst h1
      exact pair_mkE (iI _) hM hC (c_br_backM hs hC) (fun a0 a1 a2 a3 a4 a5 a7 => c_mo_backM hs hM)
    · by_cases h2 : vp_in y 2
      · obtain ⟨j, hj, rfl⟩ := vp_any h2
        exact pair_mkE (iI _) hM hC (c_br_backX hs (show j ≤ 1 by omega) hC) (fun a0 a1 a2 a3 a4 a5 a7 => c_mo_backX hs (show j ≤ 1 by omega) hM)
      · exact pair_mkE (iI _) hM hC (c_br_backO hs h1 h2 hC) (fun a0 a1 a2 a3 a4 a5 a7 => c_mo_backO hs h1 h2 hM)
  · exact pair_mkE (iI _) hM hC (c_br_backU h hC) (fun a0 a1 a2 a3 a4 a5 a7 => c_mo_backU h hM)
theorem pr_about {w : Wd} (hI : LI w) (x y : Int32) : Pair isI M_br_about M_mo_about [.int x, .int y] w 0 0 := by
  obtain ⟨n, b, tc, fl, la, zs, cs, mo, hC, hM⟩ := hI
  by_cases h : vp_in x (2 ^ n)
  · obtain ⟨s, hs, rfl⟩ := vp_any h
    by_cases h2 : vp_in y 4
    · obtain ⟨j, hj, rfl⟩ := vp_any h2
      rcases Nat.lt_or_ge j 3 with q | q
      · exact pair_mk (iI _) hM (c_br_about hs q hC) (fun a0 a1 a2 a3 a4 a5 a7 => c_mo_about hs q hM)
      · have : j = 3 := by omega
        subst this
        exact pair_mkE (iI _) hM hC (c_br_about3 hs hC) (fun a0 a1 a2 a3 a4 a5 a7 => c_mo_about3 hs hM)
    · exact pair_mkE (iI _) hM hC (c_br_aboutO hs h2 hC) (fun a0 a1 a2 a3 a4 a5 a7 => c_mo_aboutO hs h2 hM)
  · exact pair_mkE (iI _) hM hC (c_br_aboutU h hC) (fun a0 a1 a2 a3 a4 a5 a7 => c_mo_aboutU h hM)
theorem pr_ring {w : Wd} (hI : LI w) (x y : Int32) : Pair isI M_br_ring M_mo_ring [.int x, .int y] w 0 0 := by
  obtain ⟨n, b, tc, fl, la, zs, cs, mo, hC, hM⟩ := hI
  by_cases h : vp_in x (cR n b)
  · obtain ⟨r, hr, rfl⟩ := vp_any h
    by_cases h2 : vp_in y 4
    · obtain ⟨j, hj, rfl⟩ := vp_any h2
      rcases (show j = 0 ∨ j = 1 ∨ j = 2 ∨ j = 3 by omega) with rfl | rfl | rfl | rfl
      · exact pair_mk (iI _) hM (c_br_ring0 hr hC) (fun a0 a1 a2 a3 a4 a5 a7 => c_mo_ring0 hr hM)
      · exact pair_mk (iI _) hM (c_br_ring1 hr hC) (fun a0 a1 a2 a3 a4 a5 a7 => c_mo_ring1 hr hM)
      · exact pair_mk (iI _) hM (c_br_ring2 hr hC) (fun a0 a1 a2 a3 a4 a5 a7 => c_mo_ring2 hr hM)
      · exact pair_mk (iI _) hM (c_br_ring3 hr hC) (fun a0 a1 a2 a3 a4 a5 a7 => c_mo_ring3 hr hM)
    · exact pair_mk (iI _) hM (c_br_ringO hr h2 hC) (fun a0 a1 a2 a3 a4 a5 a7 => c_mo_ringO hr h2 hM)
  · exact pair_mk (iI _) hM (c_br_ringU h hC) (fun a0 a1 a2 a3 a4 a5 a7 => c_mo_ringU h hM)
theorem pr_told {w : Wd} (hI : LI w) (x : Int32) : Pair isI M_br_told M_mo_told [.int x] w 0 0 := by
  obtain ⟨n, b, tc, fl, la, zs, cs, mo, hC, hM⟩ := hI
  by_cases h : vp_in x 8
  · obtain ⟨j, hj, rfl⟩ := vp_any h
    rcases (show j = 0 ∨ j = 1 ∨ j = 2 ∨ j = 3 ∨ j = 4 ∨ j = 5 ∨ j = 6 ∨ j = 7 by omega) with rfl | rfl | rfl | rfl | rfl | rfl | rfl | rfl
    · exact pair_mk (iI _) hM (c_br_told0 hC) (fun a0 a1 a2 a3 a4 a5 a7 => c_mo_told0 hM)
    · exact pair_mk (iI _) hM (c_br_told1 hC) (fun a0 a1 a2 a3 a4 a5 a7 => c_mo_told1 hM)
    · exact pair_mk (iI _) hM (c_br_told2 hC) (fun a0 a1 a2 a3 a4 a5 a7 => c_mo_told2 hM)
    · exact pair_mk (iI _) hM (c_br_told3 hC) (fun a0 a1 a2 a3 a4 a5 a7 => c_mo_told3 hM)
    · exact pair_mk (iI _) hM (c_br_told4 hC) (fun a0 a1 a2 a3 a4 a5 a7 => c_mo_told4 hM)
    · exact pair_mk (iI _) hM (c_br_told5 hC) (fun a0 a1 a2 a3 a4 a5 a7 => c_mo_told5 hM)
    · exact pair_mk (iI _) hM (c_br_told6 hC) (fun a0 a1 a2 a3 a4 a5 a7 => c_mo_told6 hM)
    · exact pair_mk (iI _) hM (c_br_told7 hC) (fun a0 a1 a2 a3 a4 a5 a7 => c_mo_told7 hM)
  · exact pair_mkE (iI _) hM hC (c_br_toldO h) (fun a0 a1 a2 a3 a4 a5 a7 => c_mo_toldO h hM)
theorem pr_turn {w : Wd} (hI : LI w) (x : Int32) : Pair isI M_br_turn M_mo_turn [.int x] w 0 0 := by
  obtain ⟨n, b, tc, fl, la, zs, cs, mo, hC, hM⟩ := hI
  by_cases h : vp_in x (2 ^ n / 2)
  · obtain ⟨t, ht, rfl⟩ := vp_any h
    by_cases hp : pureTo b (2 ^ n / 2) = true
    · exact pair_mk (iI _) hM (c_br_turnT ht hp hC) (fun a0 a1 a2 a3 a4 a5 a7 => c_mo_turnT ht hp hM)
    · exact pair_mkE (iI _) hM hC (c_br_turnS ht hp hC) (fun a0 a1 a2 a3 a4 a5 a7 => c_mo_turnS ht hp hM)
  · exact pair_mkE (iI _) hM hC (c_br_turnU h hC) (fun a0 a1 a2 a3 a4 a5 a7 => c_mo_turnU h hM)
theorem pr_join {w : Wd} (hI : LI w) : Pair isI M_br_join M_mo_join [] w 1 512 ∨ Pair isI M_br_join M_mo_join [] w 0 0 := by
  obtain ⟨n, b, tc, fl, la, zs, cs, mo, hC, hM⟩ := hI
  by_cases hp : pureTo b (2 ^ n / 2) = true
  · left
    exact pair_mk (iI _) hM (c_br_join hp hC) (fun a0 a1 a2 a3 a4 a5 a7 => c_mo_join hp hM)
  · right
    exact pair_mkE (iI _) hM hC (c_br_joinS hp hC) (fun a0 a1 a2 a3 a4 a5 a7 => c_mo_joinS hp hM)
theorem pr_ways {w : Wd} (hI : LI w) : Pair isI M_br_ways M_mo_ways [] w 1 4096 ∨ Pair isI M_br_ways M_mo_ways [] w 0 0 := by
  obtain ⟨n, b, tc, fl, la, zs, cs, mo, hC, hM⟩ := hI
  by_cases hp : pureTo b (2 ^ n / 2) = true
  · left
    exact pair_mk (iI _) hM (c_br_ways2 hp hC) (fun a0 a1 a2 a3 a4 a5 a7 => c_mo_ways hp hM)
  · right
    exact pair_mkE (iI _) hM hC (c_br_waysS hp hC) (fun a0 a1 a2 a3 a4 a5 a7 => c_mo_waysS hp hM)
theorem pr_prefer {w : Wd} (hI : LI w) (x : Int32) : Pair isI M_br_prefer M_mo_prefer [.int x] w 0 0 := by
  obtain ⟨n, b, tc, fl, la, zs, cs, mo, hC, hM⟩ := hI
  by_cases h : vp_in x 2
  · obtain ⟨p, hp, rfl⟩ := vp_any h
    have hp1 : p ≤ 1 := by omega
    have hb : ∀ k, b k ≤ 1 := by
      obtain ⟨fd, R, le, sz, o, be, pc, wt, qu, lm, sl, ce, tb, mt, ru, bf, kp, rfl, hn, hn9, hb, _⟩ := hM
      exact hb
    exact pair_mk (iI _) hM (c_br_prefT hp1 (pfr_le hp1 hb _) hC) (fun a0 a1 a2 a3 a4 a5 a7 => c_mo_prefT hp1 hM)
  · exact pair_mkE (iI _) hM hC (c_br_prefO h) (fun a0 a1 a2 a3 a4 a5 a7 => c_mo_prefO h hM)
theorem pr_sheet {w : Wd} (hI : LI w) (x y z : Int32) : Pair isI M_br_sheet M_mo_sheet [.int x, .int y, .int z] w 0 0 := by
  obtain ⟨n, b, tc, fl, la, zs, cs, mo, hC, hM⟩ := hI
  by_cases hx : vp_in x 4
  · obtain ⟨k, hk, rfl⟩ := vp_any hx
    by_cases hy : vp_in y 3
    · by_cases h6 : nI 600 < z
      · exact pair_mk (iI _) hM (c_br_sheetO hk (Or.inr h6) hC) (fun a0 a1 a2 a3 a4 a5 a7 => c_mo_sheetO hk (Or.inr h6) hM)
      · obtain ⟨l, hl, rfl⟩ := vp_any hy
        by_cases hz : z < 0
        · exact pair_mk (iI _) hM (c_br_sheetZ hk hl hz hC) (fun a0 a1 a2 a3 a4 a5 a7 => c_mo_sheetZ hk hl hz hM)
        · obtain ⟨p, hp, rfl⟩ := nI_of hz
          have hp6 : p ≤ 600 := by
            rcases Nat.lt_or_ge 600 p with q | q
            · exact absurd ((nI_ltI (by decide) hp).mpr q) h6
            · exact q
          exact pair_mk (iI _) hM (c_br_sheetT hk hl hp6 hC) (fun a0 a1 a2 a3 a4 a5 a7 => c_mo_sheetT hk hl hp6 hM)
    · exact pair_mk (iI _) hM (c_br_sheetO hk (Or.inl hy) hC) (fun a0 a1 a2 a3 a4 a5 a7 => c_mo_sheetO hk (Or.inl hy) hM)
  · exact pair_mk (iI _) hM (c_br_sheetU hx hC) (fun a0 a1 a2 a3 a4 a5 a7 => c_mo_sheetU hx hM)
theorem pr_lose {w : Wd} (hI : LI w) (x : Int32) : Pair isI M_br_lose M_mo_lose [.int x] w 0 0 := by
  obtain ⟨n, b, tc, fl, la, zs, cs, mo, hC, hM⟩ := hI
  by_cases hx : vp_in x 4
  · obtain ⟨k, hk, rfl⟩ := vp_any hx
    by_cases hno : la k = -nI 1
    · exact pair_mk (iI _) hM (c_br_loseN hk hno hC) (fun a0 a1 a2 a3 a4 a5 a7 => c_mo_loseN hk hno hM)
    · exact pair_mk (iI _) hM (c_br_loseT hk hno hC) (fun a0 a1 a2 a3 a4 a5 a7 => c_mo_loseT hk hno hM)
  · exact pair_mkE (iI _) hM hC (c_br_loseU hx) (fun a0 a1 a2 a3 a4 a5 a7 => c_mo_loseU hx hM)
theorem pr_put {w : Wd} (hI : LI w) (x y : Int32) (v : Int64) : Pair isI M_br_put M_mo_put [.int x, .int y, .long v] w 0 0 := by
  obtain ⟨n, b, tc, fl, la, zs, cs, mo, hC, hM⟩ := hI
  by_cases hx : vp_in x 4
  · obtain ⟨k, hk, rfl⟩ := vp_any hx
    by_cases hno : la k = -nI 1
    · exact pair_mk (iI _) hM (c_br_putN hk hno hC) (fun a0 a1 a2 a3 a4 a5 a7 => c_mo_putN hk hno hM)
    · by_cases hy : vp_in y (zs k)
      · obtain ⟨i, hi, rfl⟩ := vp_any hy
        exact pair_mk (iI _) hM (c_br_putT hk hno hi hC) (fun a0 a1 a2 a3 a4 a5 a7 => c_mo_putT hk hno hi hM)
      · exact pair_mk (iI _) hM (c_br_putI hk hno hy hC) (fun a0 a1 a2 a3 a4 a5 a7 => c_mo_putI hk hno hy hM)
  · exact pair_mk (iI _) hM (c_br_putU hx hC) (fun a0 a1 a2 a3 a4 a5 a7 => c_mo_putU hx hM)
theorem pr_at {w : Wd} (hI : LI w) (x y z : Int32) : Pair isL M_br_at M_mo_at [.int x, .int y, .int z] w 0 0 := by
  obtain ⟨n, b, tc, fl, la, zs, cs, mo, hC, hM⟩ := hI
  by_cases hx : vp_in x 4
  · by_cases hz : vp_in z 3
    · obtain ⟨k, hk, rfl⟩ := vp_any hx
      obtain ⟨l, hl, rfl⟩ := vp_any hz
      by_cases hno : la k = -nI 1
      · exact pair_mk (iL _) hM (c_br_atN hk hl hno hC) (fun a0 a1 a2 a3 a4 a5 a7 => c_mo_atN hk hl hno hM)
      · by_cases hc : la k = nI l
        · by_cases hy : vp_in y (zs k)
          · obtain ⟨i, hi, rfl⟩ := vp_any hy
            exact pair_mk (iL _) hM (c_br_atT hk hl hc hi hC) (fun a0 a1 a2 a3 a4 a5 a7 => c_mo_atT hk hl hc hi hM)
          · exact pair_mk (iL _) hM (c_br_atI hk hl hc hy hC) (fun a0 a1 a2 a3 a4 a5 a7 => c_mo_atI hk hl hc hy hM)
        · exact pair_mk (iL _) hM (c_br_atC hk hl hno hc hC) (fun a0 a1 a2 a3 a4 a5 a7 => c_mo_atC hk hl hno hc hM)
    · exact pair_mk (iL _) hM (c_br_atU (Or.inr hz) hC) (fun a0 a1 a2 a3 a4 a5 a7 => c_mo_atU (Or.inr hz) hM)
  · exact pair_mk (iL _) hM (c_br_atU (Or.inl hx) hC) (fun a0 a1 a2 a3 a4 a5 a7 => c_mo_atU (Or.inl hx) hM)
theorem pr_out {w : Wd} (hI : LI w) (x y z u : Int32) : Pair isI M_br_out M_mo_out [.int x, .int y, .int z, .int u] w 0 0 := by
  obtain ⟨n, b, tc, fl, la, zs, cs, mo, hC, hM⟩ := hI
  by_cases hy : vp_in y 4
  · by_cases hx : vp_in x (2 ^ n)
    · obtain ⟨k, hk, rfl⟩ := vp_any hy
      obtain ⟨s, hs, rfl⟩ := vp_any hx
      by_cases hno : la k = -nI 1
      · exact pair_mk (iI _) hM (c_br_outN hs hk hno hC) (fun a0 a1 a2 a3 a4 a5 a7 => c_mo_outN hs hk hno hM)
      · by_cases hu : u < 0
        · exact pair_mk (iI _) hM (c_br_outZ hs hk hno hu hC) (fun a0 a1 a2 a3 a4 a5 a7 => c_mo_outZ hs hk hno hu hM)
        · obtain ⟨p, hp, rfl⟩ := nI_of hu
          by_cases hb : ∃ i, i + p ≤ zs k ∧ z = nI i
          · obtain ⟨i, hi, rfl⟩ := hb
            exact pair_mk (iI _) hM (c_br_outT hs hk hno hi hC) (fun a0 a1 a2 a3 a4 a5 a7 => c_mo_outT hs hk hno hi hM)
          · exact pair_mk (iI _) hM (c_br_outI hs hk hno hp hb hC) (fun a0 a1 a2 a3 a4 a5 a7 => c_mo_outI hs hk hno hp hb hM)
    · exact pair_mk (iI _) hM (c_br_outU (Or.inr hx) hC) (fun a0 a1 a2 a3 a4 a5 a7 => c_mo_outU (Or.inr hx) hM)
  · exact pair_mk (iI _) hM (c_br_outU (Or.inl hy) hC) (fun a0 a1 a2 a3 a4 a5 a7 => c_mo_outU (Or.inl hy) hM)
theorem pr_thin {w : Wd} (hI : LI w) (x y z : Int32) : Pair isI M_br_thin M_mo_thin [.int x, .int y, .int z] w 0 0 := by
  obtain ⟨n, b, tc, fl, la, zs, cs, mo, hC, hM⟩ := hI
  by_cases hx : vp_in x 4
  · by_cases hz : vp_in z 4
    · obtain ⟨k, hk, rfl⟩ := vp_any hx
      obtain ⟨p, hp, rfl⟩ := vp_any hz
      by_cases hy : ∃ d, 1 ≤ d ∧ d ≤ 600 ∧ y = nI d
      · obtain ⟨d, h1, h6, rfl⟩ := hy
        by_cases hno : la k = -nI 1
        · exact pair_mk (iI _) hM (c_br_thinN hk hp h1 h6 hno hC) (fun a0 a1 a2 a3 a4 a5 a7 => c_mo_thinN hk hp h1 h6 hno hM)
        · exact pair_mk (iI _) hM (c_br_thinT hk hp h1 h6 hno hC) (fun a0 a1 a2 a3 a4 a5 a7 => c_mo_thinT hk hp h1 h6 hno hM)
      · exact pair_mk (iI _) hM (c_br_thinO hk hp hy hC) (fun a0 a1 a2 a3 a4 a5 a7 => c_mo_thinO hk hp hy hM)
    · exact pair_mk (iI _) hM (c_br_thinU (Or.inr hz) hC) (fun a0 a1 a2 a3 a4 a5 a7 => c_mo_thinU (Or.inr hz) hM)
  · exact pair_mk (iI _) hM (c_br_thinU (Or.inl hx) hC) (fun a0 a1 a2 a3 a4 a5 a7 => c_mo_thinU (Or.inl hx) hM)
theorem pr_mix {w : Wd} (hI : LI w) (x y z : Int32) : Pair isI M_br_mix M_mo_mix [.int x, .int y, .int z] w 0 0 := by
  obtain ⟨n, b, tc, fl, la, zs, cs, mo, hC, hM⟩ := hI
  by_cases hx : vp_in x 4
  · by_cases hy : vp_in y 4
    · obtain ⟨k, hk, rfl⟩ := vp_any hx
      obtain ⟨p, hp, rfl⟩ := vp_any hy
      by_cases hz : vp_in z 2
      · obtain ⟨j, hj, rfl⟩ := vp_any hz
        have hj1 : j ≤ 1 := by omega
        by_cases hno : la k = -nI 1 ∨ la p = -nI 1
        · exact pair_mk (iI _) hM (c_br_mixN hk hp hj1 hno hC) (fun a0 a1 a2 a3 a4 a5 a7 => c_mo_mixN hk hp hj1 hno hM)
        · have n1 : la k ≠ -nI 1 := fun q => hno (Or.inl q)
          have n2 : la p ≠ -nI 1 := fun q => hno (Or.inr q)
          by_cases hc : la k = la p
          · exact pair_mk (iI _) hM (c_br_mixT hk hp hj1 n1 hc hC) (fun a0 a1 a2 a3 a4 a5 a7 => c_mo_mixT hk hp hj1 n1 hc hM)
          · exact pair_mk (iI _) hM (c_br_mixC hk hp hj1 n1 n2 hc hC) (fun a0 a1 a2 a3 a4 a5 a7 => c_mo_mixC hk hp hj1 n1 n2 hc hM)
      · exact pair_mk (iI _) hM (c_br_mixO hk hp hz hC) (fun a0 a1 a2 a3 a4 a5 a7 => c_mo_mixO hk hp hz hM)
    · exact pair_mk (iI _) hM (c_br_mixU (Or.inr hy) hC) (fun a0 a1 a2 a3 a4 a5 a7 => c_mo_mixU (Or.inr hy) hM)
  · exact pair_mk (iI _) hM (c_br_mixU (Or.inl hx) hC) (fun a0 a1 a2 a3 a4 a5 a7 => c_mo_mixU (Or.inl hx) hM)
theorem pr_order {w : Wd} (hI : LI w) (x y : Int32) : Pair isI M_br_order M_mo_order [.int x, .int y] w 0 0 := by
  obtain ⟨n, b, tc, fl, la, zs, cs, mo, hC, hM⟩ := hI
  by_cases hx : vp_in x 4
  · obtain ⟨k, hk, rfl⟩ := vp_any hx
    by_cases hno : la k = -nI 1
    · exact pair_mk (iI _) hM (c_br_orderR (by decide) (c_br_bitsN hk hno hC) hC) (fun a0 a1 a2 a3 a4 a5 a7 => c_mo_orderN hk hno hM)
    · by_cases hy : ∃ p, p ≤ zs k ∧ y = nI p
      · obtain ⟨p, hp, rfl⟩ := hy
        exact pair_mk (iI _) hM (c_br_orderT hk hno hp hC) (fun a0 a1 a2 a3 a4 a5 a7 => c_mo_orderT hk hno hp hM)
      · exact pair_mk (iI _) hM (c_br_orderR (by decide) (c_br_bitsI hk hno hy hC) hC) (fun a0 a1 a2 a3 a4 a5 a7 => c_mo_orderI hk hno hy hM)
  · exact pair_mk (iI _) hM (c_br_orderR (by decide) (c_br_bitsU hx hC) hC) (fun a0 a1 a2 a3 a4 a5 a7 => c_mo_orderU hx hM)
theorem pr_greatest {w : Wd} (hI : LI w) (x y : Int32) : Pair isI M_br_greatest M_mo_greatest [.int x, .int y] w 0 0 := by
  obtain ⟨n, b, tc, fl, la, zs, cs, mo, hC, hM⟩ := hI
  by_cases hx : vp_in x 4
  · obtain ⟨k, hk, rfl⟩ := vp_any hx
    by_cases hno : la k = -nI 1
    · exact pair_mk (iI _) hM (c_br_greatR (by decide) (c_br_bitsN hk hno hC) hC) (fun a0 a1 a2 a3 a4 a5 a7 => c_mo_greatN hk hno hM)
    · by_cases hy : ∃ p, p ≤ zs k ∧ y = nI p
      · obtain ⟨p, hp, rfl⟩ := hy
        refine (c_br_greatT hk hno hp hC).mono ?_
        rintro r w1 ⟨g, h1, h2, h3⟩
        exact ⟨_, iI _, h1, mid hM h3 (fun a0 a1 a2 a3 a4 a5 a7 => c_mo_greatT hk hno hp h2 hM)⟩
      · exact pair_mk (iI _) hM (c_br_greatR (by decide) (c_br_bitsI hk hno hy hC) hC) (fun a0 a1 a2 a3 a4 a5 a7 => c_mo_greatI hk hno hy hM)
  · exact pair_mk (iI _) hM (c_br_greatR (by decide) (c_br_bitsU hx hC) hC) (fun a0 a1 a2 a3 a4 a5 a7 => c_mo_greatU hx hM)
theorem pr_period {w : Wd} (hI : LI w) (x : Int32) : Pair isI M_br_period M_mo_period [.int x] w 0 0 := by
  obtain ⟨n, b, tc, fl, la, zs, cs, mo, hC, hM⟩ := hI
  by_cases hx : vp_in x 4
  · obtain ⟨k, hk, rfl⟩ := vp_any hx
    by_cases hno : la k = -nI 1
    · exact pair_mk (iI _) hM (c_br_periodR (by decide) (c_br_rowN hk hno hC) hC) (fun a0 a1 a2 a3 a4 a5 a7 => c_mo_periodN hk hno hM)
    · rcases Nat.eq_zero_or_pos (zs k) with h0 | h0
      · exact pair_mk (iI _) hM (c_br_periodS hk hno h0 hC) (fun a0 a1 a2 a3 a4 a5 a7 => c_mo_periodS hk hno h0 hM)
      · refine (c_br_periodT hk hno h0 hC).mono ?_
        rintro r w1 ⟨p, h1, h2, h3⟩
        exact ⟨_, iI _, h1, mid hM h3 (fun a0 a1 a2 a3 a4 a5 a7 => c_mo_periodT hk hno h2 hM)⟩
  · exact pair_mk (iI _) hM (c_br_periodR (by decide) (c_br_rowU hx hC) hC) (fun a0 a1 a2 a3 a4 a5 a7 => c_mo_periodU hx hM)
theorem pr_learn {w : Wd} (hI : LI w) (x : Int32) : Pair isI M_br_learn M_mo_learn [.int x] w 0 0 := by
  obtain ⟨n, b, tc, fl, la, zs, cs, mo, hC, hM⟩ := hI
  by_cases hx : vp_in x 4
  · obtain ⟨k, hk, rfl⟩ := vp_any hx
    by_cases hno : la k = -nI 1
    · exact pair_mk (iI _) hM (c_br_learnR (by decide) (c_br_rowN hk hno hC) hC) (fun a0 a1 a2 a3 a4 a5 a7 => c_mo_learnN hk hno hM)
    · obtain ⟨g, hg⟩ := IsGr.ex (fun i => bt (cs k i)) (zs k)
      refine (c_br_learn hk hno hg hC).mono ?_
      rintro r w1 (⟨h9, h1, h3⟩ | ⟨h9, h1, h3⟩)
      · exact ⟨_, iI _, h1, mid hM h3 (fun a0 a1 a2 a3 a4 a5 a7 => c_mo_learnS hk hno hg h9 hM)⟩
      · exact ⟨_, iI _, h1, mid hM h3 (fun a0 a1 a2 a3 a4 a5 a7 => c_mo_learnT hk hno hg h9 hM)⟩
  · exact pair_mk (iI _) hM (c_br_learnR (by decide) (c_br_rowU hx hC) hC) (fun a0 a1 a2 a3 a4 a5 a7 => c_mo_learnU hx hM)
theorem pr_along {w : Wd} (hI : LI w) (x y : Int32) : Pair isI M_br_along M_mo_along [.int x, .int y] w 0 0 := by
  obtain ⟨n, b, tc, fl, la, zs, cs, mo, hC, hM⟩ := hI
  by_cases h : vp_in x (cR n b)
  · obtain ⟨r, hr, rfl⟩ := vp_any h
    by_cases hy : y < 0
    · exact pair_mk (iI _) hM (c_br_alongO hr hy hC) (fun a0 a1 a2 a3 a4 a5 a7 => c_mo_alongO hr hy hM)
    · obtain ⟨d, hd, rfl⟩ := nI_of hy
      exact pair_mk (iI _) hM (c_br_alongT hr hd hC) (fun a0 a1 a2 a3 a4 a5 a7 => c_mo_alongT hr hd hM)
  · exact pair_mk (iI _) hM (c_br_alongU h hC) (fun a0 a1 a2 a3 a4 a5 a7 => c_mo_alongU h hM)
theorem pr_tell {w : Wd} (hI : LI w) (x : Int32) : Pair isI M_br_tell M_mo_tell [.int x] w 0 0 := by
  obtain ⟨n, b, tc, fl, la, zs, cs, mo, hC, hM⟩ := hI
  by_cases h : vp_in x (2 ^ n)
  · obtain ⟨s, hs, rfl⟩ := vp_any h
    have hk3 : cKd n b s = 2 ∨ cKd n b s = 1 ∨ cKd n b s = 0 := by
      unfold cKd
      split
      · exact Or.inl rfl
      · split
        · exact Or.inr (Or.inr rfl)
        · exact Or.inr (Or.inl rfl)
    rcases hk3 with hk | hk | hk
    · exact pair_mk (iI _) hM (c_br_tellB hs hk hC) (fun a0 a1 a2 a3 a4 a5 a7 => c_mo_tellB hs hk hM)
    · exact pair_mk (iI _) hM (c_br_tellL hs hk hC) (fun a0 a1 a2 a3 a4 a5 a7 => c_mo_tellL hs hk hM)
    · exact pair_mk (iI _) hM (c_br_tellA hs hk hC) (fun a0 a1 a2 a3 a4 a5 a7 => c_mo_tellA hs hk hM)
  · exact pair_mkE (iI _) hM hC (c_br_tellU h hC) (fun a0 a1 a2 a3 a4 a5 a7 => c_mo_tellU h hM)
theorem pr_weigh {w : Wd} (hI : LI w) (x : Int32) : Pair isI M_br_weigh M_mo_weigh [.int x] w 0 0 := by
  obtain ⟨n, b, tc, fl, la, zs, cs, mo, hC, hM⟩ := hI
  by_cases h : vp_in x (2 ^ n)
  · obtain ⟨s, hs, rfl⟩ := vp_any h
    by_cases hk : cKd n b s = 2
    · exact pair_mk (iI _) hM (c_br_weighB hs hk hC) (fun a0 a1 a2 a3 a4 a5 a7 => c_mo_weighB hs hk hM)
    · exact pair_mk (iI _) hM (c_br_weighL hs hk hC) (fun a0 a1 a2 a3 a4 a5 a7 => c_mo_weighL hs hk hM)
  · exact pair_mkE (iI _) hM hC (c_br_weighU h hC) (fun a0 a1 a2 a3 a4 a5 a7 => c_mo_weighU h hM)
theorem pr_as {w : Wd} (hI : LI w) (x y : Int32) : Pair isI M_br_as M_mo_as [.int x, .int y] w 0 0 := by
  obtain ⟨n, b, tc, fl, la, zs, cs, mo, hC, hM⟩ := hI
  by_cases h : vp_in x (2 ^ n)
  · obtain ⟨s, hs, rfl⟩ := vp_any h
    by_cases h2 : vp_in y 4
    · obtain ⟨j, hj, rfl⟩ := vp_any h2
      by_cases hfit : j = cKd n b s ∨ j = 3 ∧ cKd n b s < 2
      · exact pair_mk (iI _) hM (c_br_asT hs hj hfit hC) (fun a0 a1 a2 a3 a4 a5 a7 => c_mo_asT hs hj hfit hM)
      · exact pair_mk (iI _) hM (c_br_asF hs hj hfit hC) (fun a0 a1 a2 a3 a4 a5 a7 => c_mo_asF hs hj hfit hM)
    · exact pair_mk (iI _) hM (c_br_asO hs h2 hC) (fun a0 a1 a2 a3 a4 a5 a7 => c_mo_asO hs h2 hM)
  · exact pair_mk (iI _) hM (c_br_asU h hC) (fun a0 a1 a2 a3 a4 a5 a7 => c_mo_asU h hM)
theorem pr_trace {w : Wd} (hI : LI w) : Pair isI M_br_trace M_mo_trace [] w 0 0 := by
  obtain ⟨n, b, tc, fl, la, zs, cs, mo, hC, hM⟩ := hI
  refine pair_mkE (iI _) hM hC (c_br_trace hC) (fun a0 a1 a2 a3 a4 a5 a7 => ?_)
  have hM2 := hM
  obtain ⟨fd, R, le, sz, o, be, pc, wt, qu, lm, sl, ce, tb, mt, ru, bf, kp, rfl, _⟩ := hM
  refine c_mo_trace.mono ?_
  rintro r w2 ⟨rfl, rfl⟩
  exact ⟨rfl, _, rfl, hM2⟩
theorem pr_fault {w : Wd} (hI : LI w) : Pair isI M_br_fault M_mo_fault [] w 0 0 := by
  obtain ⟨n, b, tc, fl, la, zs, cs, mo, hC, hM⟩ := hI
  refine pair_mkE (iI _) hM hC (c_br_fault hC) (fun a0 a1 a2 a3 a4 a5 a7 => ?_)
  have hM2 := hM
  obtain ⟨fd, R, le, sz, o, be, pc, wt, qu, lm, sl, ce, tb, mt, ru, bf, kp, rfl, _⟩ := hM
  refine c_mo_fault.mono ?_
  rintro r w2 ⟨rfl, rfl⟩
  exact ⟨rfl, _, rfl, hM2⟩
end Pairs
