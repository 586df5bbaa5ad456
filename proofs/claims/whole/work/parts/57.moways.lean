/-! ### the reference: ways -/
/-- alike from column c on -/
def Ag (W c : Nat) (f g : Nat → Nat) : Prop := ∀ r j, r < W → c ≤ j → j < W → f (r * W + j) = g (r * W + j)
section Agree
variable {W c : Nat} {f g : Nat → Nat}
theorem pvr_ag (h : Ag W c f g) (hc : c < W) : ∀ k r, r + k ≤ W → pvr f W c k r = pvr g W c k r
  | 0, _, _ => rfl
  | k + 1, r, hr => by
    unfold pvr
    rw [h r c (by omega) (Nat.le_refl _) hc, pvr_ag h hc k (r + 1) (by omega)]
theorem swp_ag (h : Ag W c f g) {r i : Nat} (hr : r < W) (hc : c < W) : Ag W c (swp f W r c i) (swp g W r c i) := by
  intro x j hx hj hjW
  obtain ⟨a1, a2⟩ := idx_row (r := x) hjW
  unfold swp
  rw [a1, a2, h c j hc hj hjW, h r j hr hj hjW, h x j hx hj hjW]
theorem clr_ag (h : Ag W c f g) {iv i : Nat} (hc : c < W) : Ag W (c + 1) (clr f W c iv i) (clr g W c iv i) := by
  intro x j hx hj hjW
  obtain ⟨a1, a2⟩ := idx_row (r := x) hjW
  unfold clr fac
  rw [a1, a2, h c j hc (by omega) hjW, h x c hx (Nat.le_refl _) hc, h x j hx (by omega) hjW]
theorem dts_ag : ∀ k c p (f g : Nat → Nat), c + k = W → Ag W c f g → dts f W k c p = dts g W k c p
  | 0, _, _, _, _, _, _ => rfl
  | k + 1, c, p, f, g, hk, h => by
    have hc : c < W := by omega
    have hp : piv f W c = piv g W c := pvr_ag h hc _ _ (by omega)
    have hpg := pvr_ge g W c (W - c) c
    have hpl : piv g W c ≤ W := by have := hpg.2; show pvr g W c (W - c) c ≤ W; omega
    unfold dts
    dsimp only
    rw [hp]
    by_cases h1 : piv g W c = W
    · rw [if_pos h1, if_pos h1]
    · rw [if_neg h1, if_neg h1]
      by_cases h2 : piv g W c = c
      · rw [if_pos h2, if_pos h2, if_pos h2, h c c hc (Nat.le_refl _) hc]
        exact dts_ag k (c + 1) _ _ _ (by omega) (clr_ag h hc)
      · rw [if_neg h2, if_neg h2, if_neg h2]
        have hA := swp_ag h (r := piv g W c) (i := W) (by omega) hc
        rw [hA c c hc (Nat.le_refl _) hc]
        exact dts_ag k (c + 1) _ _ _ (by omega) (clr_ag hA hc)
end Agree
/-- rows r and c changed for one another, up to column i -/
def msw (m : Nat → Nat) (W r c i : Nat) : Nat → Nat := fun k => if k % W < i ∧ k / W = r then m (c * W + k % W) else if k % W < i ∧ k / W = c then m (r * W + k % W) else m k
theorem msw_at {m : Nat → Nat} {W r c i j : Nat} (hj : j < W) (hij : i ≤ j) (x : Nat) : msw m W r c i (x * W + j) = m (x * W + j) := by
  obtain ⟨a1, a2⟩ := idx_row (r := x) hj
  unfold msw
  rw [a1, a2, if_neg (fun z => by omega), if_neg (fun z => by omega)]
theorem msw_up {m : Nat → Nat} {W r c j : Nat} (hj : j < W) (hrc : r ≠ c) : va_up (va_up (msw m W r c j) (r * W + j) (m (c * W + j))) (c * W + j) (m (r * W + j)) = msw m W r c (j + 1) := by
  have hW : 0 < W := by omega
  funext k
  have hk := Nat.div_add_mod k W
  have hml := Nat.mod_lt k hW
  have hkr : ∀ x, k = x * W + j ↔ k / W = x ∧ k % W = j := by
    intro x
    constructor
    · intro e; rw [e]; exact idx_row hj
    · rintro ⟨e1, e2⟩; rw [← e1, ← e2, Nat.mul_comm]; exact hk.symm
  unfold va_up msw
  by_cases e1 : k = c * W + j
  · obtain ⟨d1, d2⟩ := (hkr c).mp e1
    rw [if_pos e1, if_neg (fun z => hrc (by omega)), if_pos ⟨by omega, d1⟩, d2]
  · rw [if_neg e1]
    by_cases e2 : k = r * W + j
    · obtain ⟨d1, d2⟩ := (hkr r).mp e2
      rw [if_pos e2, if_pos ⟨by omega, d1⟩, d2]
    · rw [if_neg e2]
      have n1 : ¬ (k / W = c ∧ k % W = j) := fun z => e1 ((hkr c).mpr z)
      have n2 : ¬ (k / W = r ∧ k % W = j) := fun z => e2 ((hkr r).mpr z)
      by_cases b1 : k % W < j ∧ k / W = r
      · rw [if_pos b1, if_pos ⟨by omega, b1.2⟩]
      · rw [if_neg b1, if_neg (show ¬ (k % W < j + 1 ∧ k / W = r) from fun z => b1 ⟨by omega, z.2⟩)]
        by_cases b2 : k % W < j ∧ k / W = c
        · rw [if_pos b2, if_pos (show k % W < j + 1 ∧ k / W = c from ⟨by omega, b2.2⟩)]
        · rw [if_neg b2, if_neg (show ¬ (k % W < j + 1 ∧ k / W = c) from fun z => b2 ⟨by omega, z.2⟩)]
theorem msw_lt {m : Nat → Nat} (h : ∀ i, m i < 1000003) (W r c i : Nat) : ∀ k, msw m W r c i k < 1000003 := by
  intro k
  unfold msw
  split
  · exact h _
  · split
    · exact h _
    · exact h _
theorem msw_ag {m : Nat → Nat} {W r c : Nat} : Ag W c (msw m W r c W) (swp m W r c W) := by
  intro x j hx hj hjW
  obtain ⟨a1, a2⟩ := idx_row (r := x) hjW
  unfold msw swp
  rw [a1, a2]
  by_cases e1 : x = r
  · rw [if_pos ⟨hjW, e1⟩, if_pos ⟨hj, hjW, e1⟩]
  · rw [if_neg (show ¬ (j < W ∧ x = r) from fun z => e1 z.2), if_neg (show ¬ (c ≤ j ∧ j < W ∧ x = r) from fun z => e1 z.2.2)]
    by_cases e2 : x = c
    · rw [if_pos (show j < W ∧ x = c from ⟨hjW, e2⟩), if_pos (show c ≤ j ∧ j < W ∧ x = c from ⟨hj, hjW, e2⟩)]
    · rw [if_neg (show ¬ (j < W ∧ x = c) from fun z => e2 z.2), if_neg (show ¬ (c ≤ j ∧ j < W ∧ x = c) from fun z => e2 z.2.2)]
theorem fac_eq {m iv : Nat} (hm : m < 1000003) : (1000003 - m) * iv % 1000003 = (1000003 - m * iv % 1000003) % 1000003 := by
  have h1 : (1000003 - m) * iv + m * iv = 1000003 * iv := by rw [← Nat.add_mul]; congr 1; omega
  generalize (1000003 - m) * iv = a at h1 ⊢
  generalize m * iv = d at h1 ⊢
  omega
section MoWays
variable {a0 a1 a2 a3 a4 a5 a7 m : List va_E} {fl tc : Int32} {n : Nat} {b : Nat → Nat} {la : Nat → Int32} {zs : Nat → Nat} {cs : Nat → Nat → Int64}
theorem c_mo_inverse {w : Wd} {x : Nat} (hx : x < 1000003) : AMet M_mo_inverse [.long (lN x)] w (Ex (some (.long (lN (inv x)))) w) 0 0 := by
  refine AMet.of [(0, .long (lN x))] (by decide +kernel) rfl (Nat.le_of_ble_eq_true rfl) ?_
  have key : ∀ (f res pw left : Nat), left < 2 ^ f → left < 2 ^ 31 → res < 1000003 → pw < 1000003 → AW M_mo_inverse noP (Zp (Ex (some (.long (lN (iv f res pw left)))) w)) 0 0 9 [(0, .long (lN x)), (2, .long (lN res)), (4, .long (lN pw)), (6, .int (nI left))] [] w 0 0 := by
    intro f
    induction f with
    | zero =>
      intro res pw left h1 h31 h2 h3
      have : left = 0 := by omega
      subst this
      refine aw_iload D_mo_inverse_9 rfl ?_
      refine aw_if_leN D_mo_inverse_11 (by omega) (fun h => ?_) (fun h => absurd h (by omega))
      refine aw_lload_n 2 D_mo_inverse_51 rfl rfl ?_
      refine aw_lreturn D_mo_inverse_52 rfl ?_
      exact ⟨rfl, rfl⟩
    | succ f ih =>
      intro res pw left h1 h31 h2 h3
      have e1 := mulP h2 h3
      have e2 := mulP h3 h3
      have hh : left / 2 < 2 ^ f := by rw [Nat.pow_succ] at h1; omega
      refine aw_iload D_mo_inverse_9 rfl ?_
      unfold iv
      refine aw_if_leN D_mo_inverse_11 (by omega) (fun h => ?_) (fun h => ?_)
      · rw [if_pos h]
        refine aw_lload_n 2 D_mo_inverse_51 rfl rfl ?_
        refine aw_lreturn D_mo_inverse_52 rfl ?_
        exact ⟨rfl, rfl⟩
      · rw [if_neg (by omega)]
        refine aw_iload D_mo_inverse_14 rfl ?_
        refine aw_iconst (nI 2) D_mo_inverse_16 rfl ?_
        first | with_reducible refine aw_iremN D_mo_inverse_17 (by omega) (by omega) (by omega) ?_ | refine aw_irem D_mo_inverse_17 (by decide) ?_
        refine aw_iconst (nI 1) D_mo_inverse_18 rfl ?_
        refine aw_icmp_neN D_mo_inverse_19 (by omega) (by omega) (fun h4 => ?_) (fun h4 => ?_)
        · rw [if_neg h4]
          refine aw_lload D_mo_inverse_31 rfl ?_
          refine aw_lload D_mo_inverse_33 rfl ?_
          first | with_reducible refine aw_lmulN D_mo_inverse_35 ?_ | refine aw_lmul D_mo_inverse_35 ?_
          refine aw_ldc2 D_mo_inverse_36 ?_
          first | with_reducible refine aw_lremN D_mo_inverse_39 (by omega) (by omega) (by omega) ?_ | refine aw_lrem D_mo_inverse_39 (by decide) ?_
          refine aw_lstore D_mo_inverse_40 (Nat.le_of_ble_eq_true rfl) rfl ?_
          refine aw_iload D_mo_inverse_42 rfl ?_
          refine aw_iconst (nI 2) D_mo_inverse_44 rfl ?_
          first | with_reducible refine aw_idivN D_mo_inverse_45 (by omega) (by omega) (by omega) ?_ | refine aw_idiv D_mo_inverse_45 (by decide) ?_
          refine aw_istore D_mo_inverse_46 (Nat.le_of_ble_eq_true rfl) rfl ?_
          refine aw_goto D_mo_inverse_48 ?_
          exact ih res _ _ hh (by omega) h2 (Nat.mod_lt _ (by decide))
        · rw [if_pos h4]
          refine aw_lload_n 2 D_mo_inverse_22 rfl rfl ?_
          refine aw_lload D_mo_inverse_23 rfl ?_
          first | with_reducible refine aw_lmulN D_mo_inverse_25 ?_ | refine aw_lmul D_mo_inverse_25 ?_
          refine aw_ldc2 D_mo_inverse_26 ?_
          first | with_reducible refine aw_lremN D_mo_inverse_29 (by omega) (by omega) (by omega) ?_ | refine aw_lrem D_mo_inverse_29 (by decide) ?_
          refine aw_lstore_n 2 D_mo_inverse_30 rfl (Nat.le_of_ble_eq_true rfl) rfl ?_
          refine aw_lload D_mo_inverse_31 rfl ?_
          refine aw_lload D_mo_inverse_33 rfl ?_
          first | with_reducible refine aw_lmulN D_mo_inverse_35 ?_ | refine aw_lmul D_mo_inverse_35 ?_
          refine aw_ldc2 D_mo_inverse_36 ?_
          first | with_reducible refine aw_lremN D_mo_inverse_39 (by omega) (by omega) (by omega) ?_ | refine aw_lrem D_mo_inverse_39 (by decide) ?_
          refine aw_lstore D_mo_inverse_40 (Nat.le_of_ble_eq_true rfl) rfl ?_
          refine aw_iload D_mo_inverse_42 rfl ?_
          refine aw_iconst (nI 2) D_mo_inverse_44 rfl ?_
          first | with_reducible refine aw_idivN D_mo_inverse_45 (by omega) (by omega) (by omega) ?_ | refine aw_idiv D_mo_inverse_45 (by decide) ?_
          refine aw_istore D_mo_inverse_46 (Nat.le_of_ble_eq_true rfl) rfl ?_
          refine aw_goto D_mo_inverse_48 ?_
          exact ih _ _ _ hh (by omega) (Nat.mod_lt _ (by decide)) (Nat.mod_lt _ (by decide))
  refine aw_lconst (lN 1) D_mo_inverse_0 rfl ?_
  refine aw_lstore_n 2 D_mo_inverse_1 rfl (Nat.le_of_ble_eq_true rfl) rfl ?_
  refine aw_lload_n 0 D_mo_inverse_2 rfl rfl ?_
  refine aw_lstore D_mo_inverse_3 (Nat.le_of_ble_eq_true rfl) rfl ?_
  refine aw_ldc D_mo_inverse_5 ?_
  refine aw_istore D_mo_inverse_7 (Nat.le_of_ble_eq_true rfl) rfl ?_
  exact key 20 1 x 1000001 (by decide) (by decide) (by decide) hx
section Det
variable {fd R : Nat} {le sz : Nat → Nat} {o : Nat → Option Nat} {be pc wt qu : Nat → Nat} {sl : Nat → Nat} {ce : Nat → Int64} {tb mt ru bf kp : Nat → Nat} {W : Nat}
theorem c_mo_addTo {a x e : Nat} {v : Int64} (hW : W ≤ 64) (ha : a ≤ 65) (hx : x ≤ 65) (he : e ≤ 1000010) (hv : ∀ y, lN (y + 1000003) + v = lN (y + e)) (ht : ∀ i, tb i < 1000003) : AMet M_mo_addTo [.ref 6, .int (nI a), .int (nI x), .int (nI W), .long v] [a0, a1, a2, a3, a4, a5, MO fl tc n fd R b le sz o be pc wt qu la sl ce tb mt ru bf kp, a7] (Ex none [a0, a1, a2, a3, a4, a5, MO fl tc n fd R b le sz o be pc wt qu la sl ce (if a < W ∧ x < W then ad1 tb (a * W + x) e else tb) mt ru bf kp, a7]) 0 0 := by
  have hWW : W * W ≤ 64 * 64 := Nat.mul_le_mul hW hW
  refine AMet.of [(0, .ref 6), (1, .int (nI a)), (2, .int (nI x)), (3, .int (nI W)), (4, .long v)] (by decide +kernel) rfl (Nat.le_of_ble_eq_true rfl) ?_
  by_cases h1 : a < W
  · by_cases h2 : x < W
    · rw [if_pos ⟨h1, h2⟩]
      have hi := idx_lt h1 h2
      have hti := ht (a * W + x)
      refine aw_iload_n 1 D_mo_addTo_0 rfl rfl ?_
      refine aw_iload_n 3 D_mo_addTo_1 rfl rfl ?_
      refine aw_icmp_geN D_mo_addTo_2 (by omega) (by omega) (fun h => absurd h (by omega)) (fun h => ?_)
      refine aw_iload_n 2 D_mo_addTo_5 rfl rfl ?_
      refine aw_iload_n 3 D_mo_addTo_6 rfl rfl ?_
      refine aw_icmp_geN D_mo_addTo_7 (by omega) (by omega) (fun h => absurd h (by omega)) (fun h => ?_)
      refine aw_aload_n 0 D_mo_addTo_10 rfl rfl ?_
      refine aw_get D_mo_addTo_11 rfl rfl ?_
      refine aw_iload_n 3 D_mo_addTo_14 rfl rfl ?_
      refine aw_iload_n 1 D_mo_addTo_15 rfl rfl ?_
      first | with_reducible refine aw_imulN D_mo_addTo_16 ?_ | refine aw_imul D_mo_addTo_16 ?_
      refine aw_iload_n 2 D_mo_addTo_17 rfl rfl ?_
      rw [Nat.mul_comm W a]
      first | with_reducible refine aw_iaddN D_mo_addTo_18 ?_ | refine aw_iadd D_mo_addTo_18 ?_
      refine aw_aload_n 0 D_mo_addTo_19 rfl rfl ?_
      refine aw_get D_mo_addTo_20 rfl rfl ?_
      refine aw_iload_n 3 D_mo_addTo_23 rfl rfl ?_
      refine aw_iload_n 1 D_mo_addTo_24 rfl rfl ?_
      first | with_reducible refine aw_imulN D_mo_addTo_25 ?_ | refine aw_imul D_mo_addTo_25 ?_
      refine aw_iload_n 2 D_mo_addTo_26 rfl rfl ?_
      rw [Nat.mul_comm W a]
      first | with_reducible refine aw_iaddN D_mo_addTo_27 ?_ | refine aw_iadd D_mo_addTo_27 ?_
      refine aw_laldN D_mo_addTo_28 rfl (by omega) (by omega) ?_
      refine aw_ldc2 D_mo_addTo_29 ?_
      first | with_reducible refine aw_laddN D_mo_addTo_32 ?_ | refine aw_ladd D_mo_addTo_32 ?_
      refine aw_lload D_mo_addTo_33 rfl ?_
      refine aw_ladd D_mo_addTo_35 ?_
      rw [hv]
      refine aw_ldc2 D_mo_addTo_36 ?_
      first | with_reducible refine aw_lremN D_mo_addTo_39 (by omega) (by omega) (by omega) ?_ | refine aw_lrem D_mo_addTo_39 (by decide) ?_
      refine aw_lastN D_mo_addTo_40 rfl (by omega) (by omega) ?_
      refine aw_return D_mo_addTo_41 rfl ?_
      exact ⟨rfl, rfl⟩
    · rw [if_neg (fun z => h2 z.2)]
      refine aw_iload_n 1 D_mo_addTo_0 rfl rfl ?_
      refine aw_iload_n 3 D_mo_addTo_1 rfl rfl ?_
      refine aw_icmp_geN D_mo_addTo_2 (by omega) (by omega) (fun h => absurd h (by omega)) (fun h => ?_)
      refine aw_iload_n 2 D_mo_addTo_5 rfl rfl ?_
      refine aw_iload_n 3 D_mo_addTo_6 rfl rfl ?_
      refine aw_icmp_geN D_mo_addTo_7 (by omega) (by omega) (fun h => ?_) (fun h => absurd h (by omega))
      refine aw_return D_mo_addTo_41 rfl ?_
      exact ⟨rfl, rfl⟩
  · rw [if_neg (fun z => h1 z.1)]
    refine aw_iload_n 1 D_mo_addTo_0 rfl rfl ?_
    refine aw_iload_n 3 D_mo_addTo_1 rfl rfl ?_
    refine aw_icmp_geN D_mo_addTo_2 (by omega) (by omega) (fun h => ?_) (fun h => absurd h (by omega))
    refine aw_return D_mo_addTo_41 rfl ?_
    exact ⟨rfl, rfl⟩
theorem dts_succ (m : Nat → Nat) (W k c p : Nat) : dts m W (k + 1) c p = if piv m W c = W then 0 else dts (clr (if piv m W c = c then m else swp m W (piv m W c) c W) W c (inv ((if piv m W c = c then m else swp m W (piv m W c) c W) (c * W + c))) W) W k (c + 1) ((if piv m W c = c then p else 1000003 - p) * (if piv m W c = c then m else swp m W (piv m W c) c W) (c * W + c) % 1000003) := rfl
theorem c_mo_det (hW : W ≤ 64) (ht : ∀ i, tb i < 1000003) : AMet M_mo_determinant [.ref 6, .int (nI W)] [a0, a1, a2, a3, a4, a5, MO fl tc n fd R b le sz o be pc wt qu la sl ce tb mt ru bf kp, a7] (fun r' w' => r' = some (.int (nI (dts tb W W 0 1))) ∧ ∃ tb' : Nat → Nat, (∀ i, tb' i < 1000003) ∧ w' = [a0, a1, a2, a3, a4, a5, MO fl tc n fd R b le sz o be pc wt qu la sl ce tb' mt ru bf kp, a7]) 0 0 := by
  have hWW : W * W ≤ 64 * 64 := Nat.mul_le_mul hW hW
  refine AMet.of [(0, .ref 6), (1, .int (nI W))] (by decide +kernel) rfl (Nat.le_of_ble_eq_true rfl) ?_
  generalize hA : dts tb W W 0 1 = ans
  generalize hZ : (fun (r' : Option Value) (w' : Wd) => r' = some (.int (nI ans)) ∧ ∃ tb' : Nat → Nat, (∀ i, tb' i < 1000003) ∧ w' = [a0, a1, a2, a3, a4, a5, MO fl tc n fd R b le sz o be pc wt qu la sl ce tb' mt ru bf kp, a7]) = ZZ
  have key : ∀ (k c p : Nat) (f : Nat → Nat), c + k = W → p < 1000003 → (∀ i, f i < 1000003) → dts f W k c p = ans → AW M_mo_determinant noP (Zp ZZ) 0 0 5 [(0, .ref 6), (1, .int (nI W)), (2, .long (lN p)), (4, .int (nI c))] [] [a0, a1, a2, a3, a4, a5, MO fl tc n fd R b le sz o be pc wt qu la sl ce f mt ru bf kp, a7] 0 0 := by
    intro k
    induction k with
    | zero =>
      intro c p f hk hp hf hans
      have hans : p = ans := hans
      subst hans
      refine aw_iload D_mo_determinant_5 rfl ?_
      refine aw_iload_n 1 D_mo_determinant_7 rfl rfl ?_
      refine aw_icmp_geN D_mo_determinant_8 (by omega) (by omega) (fun h => ?_) (fun h => absurd h (by omega))
      refine aw_lload_n 2 D_mo_determinant_284 rfl rfl ?_
      first | with_reducible refine aw_l2iN D_mo_determinant_285 ?_ | refine aw_l2i D_mo_determinant_285 ?_
      refine aw_ireturn D_mo_determinant_286 rfl rfl ?_
      subst hZ; exact ⟨rfl, f, hf, rfl⟩
    | succ k ih =>
      intro c p f hk hp hf hans
      have hc : c < W := by omega
      have icc := idx_lt hc hc
      have hpv := pvr_ge f W c (W - c) c
      have hpv' : c ≤ piv f W c ∧ piv f W c ≤ W := ⟨hpv.1, by have := hpv.2; show pvr f W c (W - c) c ≤ W; omega⟩
      -- behind the change of rows
      have cont : ∀ (g : Nat → Nat) (p1 : Nat) (L5 : List (Nat × Value)), p1 ≤ 1000003 → (∀ i, g i < 1000003) → dts (clr g W c (inv (g (c * W + c))) W) W k (c + 1) (p1 * g (c * W + c) % 1000003) = ans → AW M_mo_determinant noP (Zp ZZ) 0 0 132 ([(0, .ref 6), (1, .int (nI W)), (2, .long (lN p1)), (4, .int (nI c))] ++ L5) [] [a0, a1, a2, a3, a4, a5, MO fl tc n fd R b le sz o be pc wt qu la sl ce g mt ru bf kp, a7] 0 0 := by
        intro g p1 L5 hp1 hg hans
        refine aw_take 4 ?_
        have hgc := hg (c * W + c)
        have hmul : p1 * g (c * W + c) < 1000004 * 1000003 := Nat.mul_lt_mul'' (by omega) hgc
        have hiv := inv_lt (g (c * W + c))
        generalize hI : inv (g (c * W + c)) = I at hans hiv
        show AW M_mo_determinant noP (Zp ZZ) 0 0 132 [(0, .ref 6), (1, .int (nI W)), (2, .long (lN p1)), (4, .int (nI c))] [] _ _ _
        have rows : ∀ (y row : Nat), row + y = W → c < row → AW M_mo_determinant noP (Zp ZZ) 0 0 174 [(0, .ref 6), (1, .int (nI W)), (2, .long (lN (p1 * g (c * W + c) % 1000003))), (4, .int (nI c)), (6, .long (lN I)), (8, .int (nI row))] [] [a0, a1, a2, a3, a4, a5, MO fl tc n fd R b le sz o be pc wt qu la sl ce (clr g W c I row) mt ru bf kp, a7] 0 0 := by
          intro y
          induction y with
          | zero =>
            intro row hr hcr
            have hr : row = W := by omega
            subst hr
            refine aw_iload D_mo_determinant_174 rfl ?_
            refine aw_iload_n 1 D_mo_determinant_176 rfl rfl ?_
            refine aw_icmp_geN D_mo_determinant_177 (by omega) (by omega) (fun h => ?_) (fun h => absurd h (by omega))
            first | refine aw_incN D_mo_determinant_278 rfl (Nat.le_of_ble_eq_true rfl) rfl ?_ | refine aw_inc D_mo_determinant_278 rfl (Nat.le_of_ble_eq_true rfl) rfl ?_
            refine aw_goto D_mo_determinant_281 ?_
            refine aw_take 4 ?_
            exact ih (c + 1) _ _ (by omega) (Nat.mod_lt _ (by decide)) (clr_lt hg _ _ _ _) hans
          | succ y iy =>
            intro row hr hcr
            have i1 := idx_lt (show row < W by omega) hc
            obtain ⟨x1, x2⟩ := idx_row (r := row) hc
            have v1 : clr g W c I row (row * W + c) = g (row * W + c) := by unfold clr; rw [x1, if_neg (fun z => by omega)]
            have hgv := hg (row * W + c)
            have e1 := mulP hgv hiv
            have hcl := clr_lt hg W c I row
            have hfe : fac g W c I row = (1000003 - g (row * W + c) * I % 1000003) % 1000003 := fac_eq hgv
            have htl : g (row * W + c) * I % 1000003 < 1000003 := Nat.mod_lt _ (by decide)
            have hfl : fac g W c I row < 1000003 := Nat.mod_lt _ (by decide)
            generalize hTe : g (row * W + c) * I % 1000003 = T at hfe htl
            have cols : ∀ (z j : Nat), j + z = W → c ≤ j → (T ≠ 0 ∨ j = c) → AW M_mo_determinant noP (Zp ZZ) 0 0 205 [(0, .ref 6), (1, .int (nI W)), (2, .long (lN (p1 * g (c * W + c) % 1000003))), (4, .int (nI c)), (6, .long (lN I)), (8, .int (nI row)), (9, .long (lN T)), (11, .int (nI j))] [] [a0, a1, a2, a3, a4, a5, MO fl tc n fd R b le sz o be pc wt qu la sl ce (cin (clr g W c I row) W c (fac g W c I row) row j) mt ru bf kp, a7] 0 0 := by
              intro z
              induction z with
              | zero =>
                intro j hj hcj hT
                refine aw_iload D_mo_determinant_205 rfl ?_
                refine aw_iload_n 1 D_mo_determinant_207 rfl rfl ?_
                refine aw_icmp_geN D_mo_determinant_208 (by omega) (by omega) (fun h => ?_) (fun h => absurd h (by omega))
                rw [show j = W by omega, clr_next hg hcr (by omega) hc]
                first | refine aw_incN D_mo_determinant_272 rfl (Nat.le_of_ble_eq_true rfl) rfl ?_ | refine aw_inc D_mo_determinant_272 rfl (Nat.le_of_ble_eq_true rfl) rfl ?_
                refine aw_goto D_mo_determinant_275 ?_
                refine aw_take 6 ?_
                exact iy (row + 1) (by omega) (by omega)
              | succ z iz =>
                intro j hj hcj hT
                refine aw_iload D_mo_determinant_205 rfl ?_
                refine aw_iload_n 1 D_mo_determinant_207 rfl rfl ?_
                refine aw_icmp_geN D_mo_determinant_208 (by omega) (by omega) (fun h => absurd h (by omega)) (fun h => ?_)
                refine aw_lload D_mo_determinant_211 rfl ?_
                refine aw_lconst (lN 0) D_mo_determinant_213 rfl ?_
                refine aw_lcmp D_mo_determinant_214 ?_
                refine aw_if_eq D_mo_determinant_215 (fun h2 => ?_) (fun h2 => ?_)
                · rw [lg_cmp_eq, pk_lEQ (by omega) (by omega)] at h2
                  have hjc : j = c := by omega
                  subst hjc
                  have hf0 : fac g W j I row = 0 := by rw [hfe, h2]
                  rw [show cin (clr g W j I row) W j (fac g W j I row) row j = clr g W j I (row + 1) by
                    rw [clr_zero hg hf0]; funext k; unfold cin; rw [if_neg (fun z => by omega)]]
                  first | refine aw_incN D_mo_determinant_272 rfl (Nat.le_of_ble_eq_true rfl) rfl ?_ | refine aw_inc D_mo_determinant_272 rfl (Nat.le_of_ble_eq_true rfl) rfl ?_
                  refine aw_goto D_mo_determinant_275 ?_
                  refine aw_take 6 ?_
                  exact iy (row + 1) (by omega) (by omega)
                · rw [lg_cmp_eq, pk_lEQ (by omega) (by omega)] at h2
                  have hfT : 1000003 - T = fac g W c I row := by rw [hfe]; omega
                  have k1 := idx_lt (show row < W by omega) (show j < W by omega)
                  have k2 := idx_lt hc (show j < W by omega)
                  obtain ⟨b1, b2⟩ := idx_row (r := row) (show j < W by omega)
                  obtain ⟨d1, d2⟩ := idx_row (r := c) (show j < W by omega)
                  have w1 : cin (clr g W c I row) W c (fac g W c I row) row j (row * W + j) = clr g W c I row (row * W + j) := by unfold cin; rw [b2, if_neg (fun z => by omega)]
                  have w2 : cin (clr g W c I row) W c (fac g W c I row) row j (c * W + j) = clr g W c I row (c * W + j) := by unfold cin; rw [d1, if_neg (fun z => by omega)]
                  have m1 := hcl (row * W + j)
                  have m2 := hcl (c * W + j)
                  have m3 := mulP hfl m2
                  refine aw_aload_n 0 D_mo_determinant_218 rfl rfl ?_
                  refine aw_get D_mo_determinant_219 rfl rfl ?_
                  refine aw_iload_n 1 D_mo_determinant_222 rfl rfl ?_
                  refine aw_iload D_mo_determinant_223 rfl ?_
                  first | with_reducible refine aw_imulN D_mo_determinant_225 ?_ | refine aw_imul D_mo_determinant_225 ?_
                  rw [Nat.mul_comm W row]
                  refine aw_iload D_mo_determinant_226 rfl ?_
                  first | with_reducible refine aw_iaddN D_mo_determinant_228 ?_ | refine aw_iadd D_mo_determinant_228 ?_
                  refine aw_aload_n 0 D_mo_determinant_229 rfl rfl ?_
                  refine aw_get D_mo_determinant_230 rfl rfl ?_
                  refine aw_iload_n 1 D_mo_determinant_233 rfl rfl ?_
                  refine aw_iload D_mo_determinant_234 rfl ?_
                  first | with_reducible refine aw_imulN D_mo_determinant_236 ?_ | refine aw_imul D_mo_determinant_236 ?_
                  rw [Nat.mul_comm W row]
                  refine aw_iload D_mo_determinant_237 rfl ?_
                  first | with_reducible refine aw_iaddN D_mo_determinant_239 ?_ | refine aw_iadd D_mo_determinant_239 ?_
                  refine aw_laldN D_mo_determinant_240 rfl (by omega) (by omega) ?_
                  rw [show lF (cin (clr g W c I row) W c (fac g W c I row) row j) (row * W + j) = lN (clr g W c I row (row * W + j)) from congrArg lN w1]
                  refine aw_ldc2 D_mo_determinant_241 ?_
                  refine aw_lload D_mo_determinant_244 rfl ?_
                  first | with_reducible refine aw_lsubN D_mo_determinant_246 (by omega) ?_ | refine aw_lsub D_mo_determinant_246 ?_
                  rw [hfT]
                  refine aw_aload_n 0 D_mo_determinant_247 rfl rfl ?_
                  refine aw_get D_mo_determinant_248 rfl rfl ?_
                  refine aw_iload_n 1 D_mo_determinant_251 rfl rfl ?_
                  refine aw_iload D_mo_determinant_252 rfl ?_
                  first | with_reducible refine aw_imulN D_mo_determinant_254 ?_ | refine aw_imul D_mo_determinant_254 ?_
                  rw [Nat.mul_comm W c]
                  refine aw_iload D_mo_determinant_255 rfl ?_
                  first | with_reducible refine aw_iaddN D_mo_determinant_257 ?_ | refine aw_iadd D_mo_determinant_257 ?_
                  refine aw_laldN D_mo_determinant_258 rfl (by omega) (by omega) ?_
                  rw [show lF (cin (clr g W c I row) W c (fac g W c I row) row j) (c * W + j) = lN (clr g W c I row (c * W + j)) from congrArg lN w2]
                  first | with_reducible refine aw_lmulN D_mo_determinant_259 ?_ | refine aw_lmul D_mo_determinant_259 ?_
                  first | with_reducible refine aw_laddN D_mo_determinant_260 ?_ | refine aw_ladd D_mo_determinant_260 ?_
                  refine aw_ldc2 D_mo_determinant_261 ?_
                  first | with_reducible refine aw_lremN D_mo_determinant_264 (by omega) (by omega) (by omega) ?_ | refine aw_lrem D_mo_determinant_264 (by decide) ?_
                  refine aw_lastN D_mo_determinant_265 rfl (by omega) (by omega) ?_
                  rw [cin_up hcj (by omega)]
                  first | refine aw_incN D_mo_determinant_266 rfl (Nat.le_of_ble_eq_true rfl) rfl ?_ | refine aw_inc D_mo_determinant_266 rfl (Nat.le_of_ble_eq_true rfl) rfl ?_
                  refine aw_goto D_mo_determinant_269 ?_
                  exact iz (j + 1) (by omega) (by omega) (Or.inl h2)
            refine aw_iload D_mo_determinant_174 rfl ?_
            refine aw_iload_n 1 D_mo_determinant_176 rfl rfl ?_
            refine aw_icmp_geN D_mo_determinant_177 (by omega) (by omega) (fun h => absurd h (by omega)) (fun h => ?_)
            refine aw_aload_n 0 D_mo_determinant_180 rfl rfl ?_
            refine aw_get D_mo_determinant_181 rfl rfl ?_
            refine aw_iload_n 1 D_mo_determinant_184 rfl rfl ?_
            refine aw_iload D_mo_determinant_185 rfl ?_
            first | with_reducible refine aw_imulN D_mo_determinant_187 ?_ | refine aw_imul D_mo_determinant_187 ?_
            rw [Nat.mul_comm W row]
            refine aw_iload D_mo_determinant_188 rfl ?_
            first | with_reducible refine aw_iaddN D_mo_determinant_190 ?_ | refine aw_iadd D_mo_determinant_190 ?_
            refine aw_laldN D_mo_determinant_191 rfl (by omega) (by omega) ?_
            rw [show lF (clr g W c I row) (row * W + c) = lN (g (row * W + c)) from congrArg lN v1]
            refine aw_lload D_mo_determinant_192 rfl ?_
            first | with_reducible refine aw_lmulN D_mo_determinant_194 ?_ | refine aw_lmul D_mo_determinant_194 ?_
            refine aw_ldc2 D_mo_determinant_195 ?_
            first | with_reducible refine aw_lremN D_mo_determinant_198 (by omega) (by omega) (by omega) ?_ | refine aw_lrem D_mo_determinant_198 (by decide) ?_
            rw [hTe]
            refine aw_lstore D_mo_determinant_199 (Nat.le_of_ble_eq_true rfl) rfl ?_
            refine aw_iload D_mo_determinant_201 rfl ?_
            refine aw_istore D_mo_determinant_203 (Nat.le_of_ble_eq_true rfl) rfl ?_
            have := cols (W - c) c (by omega) (Nat.le_refl _) (Or.inr rfl)
            rw [show cin (clr g W c I row) W c (fac g W c I row) row c = clr g W c I row from funext fun k => by unfold cin; rw [if_neg (fun z => by omega)]] at this
            exact this
        refine aw_lload_n 2 D_mo_determinant_132 rfl rfl ?_
        refine aw_aload_n 0 D_mo_determinant_133 rfl rfl ?_
        refine aw_get D_mo_determinant_134 rfl rfl ?_
        refine aw_iload_n 1 D_mo_determinant_137 rfl rfl ?_
        refine aw_iload D_mo_determinant_138 rfl ?_
        first | with_reducible refine aw_imulN D_mo_determinant_140 ?_ | refine aw_imul D_mo_determinant_140 ?_
        rw [Nat.mul_comm W c]
        refine aw_iload D_mo_determinant_141 rfl ?_
        first | with_reducible refine aw_iaddN D_mo_determinant_143 ?_ | refine aw_iadd D_mo_determinant_143 ?_
        refine aw_laldN D_mo_determinant_144 rfl (by omega) (by omega) ?_
        first | with_reducible refine aw_lmulN D_mo_determinant_145 ?_ | refine aw_lmul D_mo_determinant_145 ?_
        refine aw_ldc2 D_mo_determinant_146 ?_
        first | with_reducible refine aw_lremN D_mo_determinant_149 (by omega) (by omega) (by omega) ?_ | refine aw_lrem D_mo_determinant_149 (by decide) ?_
        refine aw_lstore_n 2 D_mo_determinant_150 rfl (Nat.le_of_ble_eq_true rfl) rfl ?_
        refine aw_aload_n 0 D_mo_determinant_151 rfl rfl ?_
        refine aw_get D_mo_determinant_152 rfl rfl ?_
        refine aw_iload_n 1 D_mo_determinant_155 rfl rfl ?_
        refine aw_iload D_mo_determinant_156 rfl ?_
        first | with_reducible refine aw_imulN D_mo_determinant_158 ?_ | refine aw_imul D_mo_determinant_158 ?_
        rw [Nat.mul_comm W c]
        refine aw_iload D_mo_determinant_159 rfl ?_
        first | with_reducible refine aw_iaddN D_mo_determinant_161 ?_ | refine aw_iadd D_mo_determinant_161 ?_
        refine aw_laldN D_mo_determinant_162 rfl (by omega) (by omega) ?_
        refine aw_callS1 (As := [_]) D_mo_determinant_163 kv_mo_inverse (c_mo_inverse hgc) rfl rfl (Nat.le_of_ble_eq_true rfl) (Nat.zero_le _) (Nat.zero_le _) ?_
        rw [hI]
        refine aw_lstore D_mo_determinant_166 (Nat.le_of_ble_eq_true rfl) rfl ?_
        refine aw_iload D_mo_determinant_168 rfl ?_
        refine aw_iconst (nI 1) D_mo_determinant_170 rfl ?_
        first | with_reducible refine aw_iaddN D_mo_determinant_171 ?_ | refine aw_iadd D_mo_determinant_171 ?_
        refine aw_istore D_mo_determinant_172 (Nat.le_of_ble_eq_true rfl) rfl ?_
        have := rows (W - (c + 1)) (c + 1) (by omega) (by omega)
        rw [show clr g W c I (c + 1) = g from funext fun k => by unfold clr; rw [if_neg (fun z => by omega)]] at this
        exact this
      -- rows changed
      have swaps : ∀ (y j : Nat), j + y = W → piv f W c ≠ W → piv f W c ≠ c → AW M_mo_determinant noP (Zp ZZ) 0 0 68 [(0, .ref 6), (1, .int (nI W)), (2, .long (lN (1000003 - p))), (4, .int (nI c)), (5, .int (nI (piv f W c))), (6, .int (nI j))] [] [a0, a1, a2, a3, a4, a5, MO fl tc n fd R b le sz o be pc wt qu la sl ce (msw f W (piv f W c) c j) mt ru bf kp, a7] 0 0 := by
        intro y
        induction y with
        | zero =>
          intro j hj hW1 hc1
          have hj : j = W := by omega
          subst hj
          refine aw_iload D_mo_determinant_68 rfl ?_
          refine aw_iload_n 1 D_mo_determinant_70 rfl rfl ?_
          refine aw_icmp_geN D_mo_determinant_71 (by omega) (by omega) (fun h => ?_) (fun h => absurd h (by omega))
          refine cont _ _ [(5, .int (nI (piv f j c))), (6, .int (nI j))] (by omega) (msw_lt hf _ _ _ _) ?_
          rw [← hans, dts_succ, if_neg hW1, if_neg hc1, if_neg hc1]
          have hag := msw_ag (m := f) (W := j) (r := piv f j c) (c := c)
          rw [hag c c hc (Nat.le_refl _) hc]
          exact dts_ag k (c + 1) _ _ _ (by omega) (clr_ag hag hc)
        | succ y iy =>
          intro j hj hW1 hc1
          have hpl : piv f W c < W := by omega
          have i1 := idx_lt hpl (show j < W by omega)
          have i2 := idx_lt hc (show j < W by omega)
          have v1 := msw_at (m := f) (r := piv f W c) (c := c) (show j < W by omega) (Nat.le_refl j) (piv f W c)
          have v2 := msw_at (m := f) (r := piv f W c) (c := c) (show j < W by omega) (Nat.le_refl j) c
          have hup := msw_up (m := f) (W := W) (r := piv f W c) (c := c) (j := j) (by omega) hc1
          generalize piv f W c = r at *
          refine aw_iload D_mo_determinant_68 rfl ?_
          refine aw_iload_n 1 D_mo_determinant_70 rfl rfl ?_
          refine aw_icmp_geN D_mo_determinant_71 (by omega) (by omega) (fun h => absurd h (by omega)) (fun h => ?_)
          refine aw_aload_n 0 D_mo_determinant_74 rfl rfl ?_
          refine aw_get D_mo_determinant_75 rfl rfl ?_
          refine aw_iload_n 1 D_mo_determinant_78 rfl rfl ?_
          refine aw_iload D_mo_determinant_79 rfl ?_
          first | with_reducible refine aw_imulN D_mo_determinant_81 ?_ | refine aw_imul D_mo_determinant_81 ?_
          rw [Nat.mul_comm W r]
          refine aw_iload D_mo_determinant_82 rfl ?_
          first | with_reducible refine aw_iaddN D_mo_determinant_84 ?_ | refine aw_iadd D_mo_determinant_84 ?_
          refine aw_laldN D_mo_determinant_85 rfl (by omega) (by omega) ?_
          rw [show lF (msw f W r c j) (r * W + j) = lN (f (r * W + j)) from congrArg lN v1]
          refine aw_lstore D_mo_determinant_86 (Nat.le_of_ble_eq_true rfl) rfl ?_
          refine aw_aload_n 0 D_mo_determinant_88 rfl rfl ?_
          refine aw_get D_mo_determinant_89 rfl rfl ?_
          refine aw_iload_n 1 D_mo_determinant_92 rfl rfl ?_
          refine aw_iload D_mo_determinant_93 rfl ?_
          first | with_reducible refine aw_imulN D_mo_determinant_95 ?_ | refine aw_imul D_mo_determinant_95 ?_
          rw [Nat.mul_comm W r]
          refine aw_iload D_mo_determinant_96 rfl ?_
          first | with_reducible refine aw_iaddN D_mo_determinant_98 ?_ | refine aw_iadd D_mo_determinant_98 ?_
          refine aw_aload_n 0 D_mo_determinant_99 rfl rfl ?_
          refine aw_get D_mo_determinant_100 rfl rfl ?_
          refine aw_iload_n 1 D_mo_determinant_103 rfl rfl ?_
          refine aw_iload D_mo_determinant_104 rfl ?_
          first | with_reducible refine aw_imulN D_mo_determinant_106 ?_ | refine aw_imul D_mo_determinant_106 ?_
          rw [Nat.mul_comm W c]
          refine aw_iload D_mo_determinant_107 rfl ?_
          first | with_reducible refine aw_iaddN D_mo_determinant_109 ?_ | refine aw_iadd D_mo_determinant_109 ?_
          refine aw_laldN D_mo_determinant_110 rfl (by omega) (by omega) ?_
          rw [show lF (msw f W r c j) (c * W + j) = lN (f (c * W + j)) from congrArg lN v2]
          refine aw_lastN D_mo_determinant_111 rfl (by omega) (by omega) ?_
          refine aw_aload_n 0 D_mo_determinant_112 rfl rfl ?_
          refine aw_get D_mo_determinant_113 rfl rfl ?_
          refine aw_iload_n 1 D_mo_determinant_116 rfl rfl ?_
          refine aw_iload D_mo_determinant_117 rfl ?_
          first | with_reducible refine aw_imulN D_mo_determinant_119 ?_ | refine aw_imul D_mo_determinant_119 ?_
          rw [Nat.mul_comm W c]
          refine aw_iload D_mo_determinant_120 rfl ?_
          first | with_reducible refine aw_iaddN D_mo_determinant_122 ?_ | refine aw_iadd D_mo_determinant_122 ?_
          refine aw_lload D_mo_determinant_123 rfl ?_
          refine aw_lastN D_mo_determinant_125 rfl (by omega) (by omega) ?_
          rw [hup]
          first | refine aw_incN D_mo_determinant_126 rfl (Nat.le_of_ble_eq_true rfl) rfl ?_ | refine aw_inc D_mo_determinant_126 rfl (Nat.le_of_ble_eq_true rfl) rfl ?_
          refine aw_goto D_mo_determinant_129 ?_
          refine aw_take 6 ?_
          exact iy (j + 1) (by omega) hW1 hc1
      have behind : AW M_mo_determinant noP (Zp ZZ) 0 0 44 [(0, .ref 6), (1, .int (nI W)), (2, .long (lN p)), (4, .int (nI c)), (5, .int (nI (piv f W c)))] [] [a0, a1, a2, a3, a4, a5, MO fl tc n fd R b le sz o be pc wt qu la sl ce f mt ru bf kp, a7] 0 0 := by
        refine aw_iload D_mo_determinant_44 rfl ?_
        refine aw_iload_n 1 D_mo_determinant_46 rfl rfl ?_
        refine aw_icmp_neN D_mo_determinant_47 (by omega) (by omega) (fun h => ?_) (fun h => ?_)
        · refine aw_iload D_mo_determinant_52 rfl ?_
          refine aw_iload D_mo_determinant_54 rfl ?_
          refine aw_icmp_eqN D_mo_determinant_56 (by omega) (by omega) (fun h2 => ?_) (fun h2 => ?_)
          · refine cont f p [(5, .int (nI (piv f W c)))] (by omega) hf ?_
            rw [← hans, dts_succ, if_neg h, if_pos h2, if_pos h2]
          · refine aw_ldc2 D_mo_determinant_59 ?_
            refine aw_lload_n 2 D_mo_determinant_62 rfl rfl ?_
            first | with_reducible refine aw_lsubN D_mo_determinant_63 (by omega) ?_ | refine aw_lsub D_mo_determinant_63 ?_
            refine aw_lstore_n 2 D_mo_determinant_64 rfl (Nat.le_of_ble_eq_true rfl) rfl ?_
            refine aw_iconst (nI 0) D_mo_determinant_65 rfl ?_
            refine aw_istore D_mo_determinant_66 (Nat.le_of_ble_eq_true rfl) rfl ?_
            have := swaps W 0 (by omega) h h2
            rw [show msw f W (piv f W c) c 0 = f from funext fun k => by unfold msw; rw [if_neg (fun z => by omega), if_neg (fun z => by omega)]] at this
            exact this
        · have h0 : 0 = ans := by
            rw [← hans, dts_succ, if_pos h]
          refine aw_iconst (nI 0) D_mo_determinant_50 rfl ?_
          refine aw_ireturn D_mo_determinant_51 rfl rfl ?_
          subst hZ; exact ⟨by rw [← h0], f, hf, rfl⟩
      have pvt : ∀ (y r : Nat), r + y = W → c ≤ r → pvr f W c y r = piv f W c → AW M_mo_determinant noP (Zp ZZ) 0 0 15 [(0, .ref 6), (1, .int (nI W)), (2, .long (lN p)), (4, .int (nI c)), (5, .int (nI r))] [] [a0, a1, a2, a3, a4, a5, MO fl tc n fd R b le sz o be pc wt qu la sl ce f mt ru bf kp, a7] 0 0 := by
        intro y
        induction y with
        | zero =>
          intro r hr hcr he
          have he : r = piv f W c := he
          refine aw_iload D_mo_determinant_15 rfl ?_
          refine aw_iload_n 1 D_mo_determinant_17 rfl rfl ?_
          refine aw_icmp_geN D_mo_determinant_18 (by omega) (by omega) (fun h => ?_) (fun h => absurd h (by omega))
          rw [he]
          exact behind
        | succ y iy =>
          intro r hr hcr he
          have hi := idx_lt (show r < W by omega) hc
          have hfi := hf (r * W + c)
          unfold pvr at he
          refine aw_iload D_mo_determinant_15 rfl ?_
          refine aw_iload_n 1 D_mo_determinant_17 rfl rfl ?_
          refine aw_icmp_geN D_mo_determinant_18 (by omega) (by omega) (fun h => absurd h (by omega)) (fun h => ?_)
          refine aw_aload_n 0 D_mo_determinant_21 rfl rfl ?_
          refine aw_get D_mo_determinant_22 rfl rfl ?_
          refine aw_iload_n 1 D_mo_determinant_25 rfl rfl ?_
          refine aw_iload D_mo_determinant_26 rfl ?_
          first | with_reducible refine aw_imulN D_mo_determinant_28 ?_ | refine aw_imul D_mo_determinant_28 ?_
          rw [Nat.mul_comm W r]
          refine aw_iload D_mo_determinant_29 rfl ?_
          first | with_reducible refine aw_iaddN D_mo_determinant_31 ?_ | refine aw_iadd D_mo_determinant_31 ?_
          refine aw_laldN D_mo_determinant_32 rfl (by omega) (by omega) ?_
          refine aw_lconst (lN 0) D_mo_determinant_33 rfl ?_
          refine aw_lcmp D_mo_determinant_34 ?_
          refine aw_if_ne D_mo_determinant_35 (fun h2 => ?_) (fun h2 => ?_)
          · rw [lg_cmp_eq, pk_lEQ (by omega) (by omega)] at h2
            rw [if_pos h2] at he
            rw [he]
            exact behind
          · rw [lg_cmp_eq, pk_lEQ (by omega) (by omega)] at h2
            rw [if_neg (by omega)] at he
            first | refine aw_incN D_mo_determinant_38 rfl (Nat.le_of_ble_eq_true rfl) rfl ?_ | refine aw_inc D_mo_determinant_38 rfl (Nat.le_of_ble_eq_true rfl) rfl ?_
            refine aw_goto D_mo_determinant_41 ?_
            exact iy (r + 1) (by omega) (by omega) he
      refine aw_iload D_mo_determinant_5 rfl ?_
      refine aw_iload_n 1 D_mo_determinant_7 rfl rfl ?_
      refine aw_icmp_geN D_mo_determinant_8 (by omega) (by omega) (fun h => absurd h (by omega)) (fun h => ?_)
      refine aw_iload D_mo_determinant_11 rfl ?_
      refine aw_istore D_mo_determinant_13 (Nat.le_of_ble_eq_true rfl) rfl ?_
      exact pvt (W - c) c (by omega) (Nat.le_refl _) rfl
  refine aw_lconst (lN 1) D_mo_determinant_0 rfl ?_
  refine aw_lstore_n 2 D_mo_determinant_1 rfl (Nat.le_of_ble_eq_true rfl) rfl ?_
  refine aw_iconst (nI 0) D_mo_determinant_2 rfl ?_
  refine aw_istore D_mo_determinant_3 (Nat.le_of_ble_eq_true rfl) rfl ?_
  exact key W 0 1 tb (by omega) (by decide) ht hA
end Det
/-- both have like cells within the table -/
def Aw (W : Nat) (f g : Nat → Nat) : Prop := ∀ j, j < W * W → f j = g j
theorem ad1_aw {W i e : Nat} {f g : Nat → Nat} (h : Aw W f g) : Aw W (ad1 f i e) (ad1 g i e) := by
  intro j hj
  unfold ad1 va_up
  by_cases q : j = i
  · rw [if_pos q, if_pos q, ← q, h j hj]
  · rw [if_neg q, if_neg q, h j hj]
theorem adp_aw {W x y : Nat} {f g : Nat → Nat} (h : Aw W f g) : Aw W (adp f W x y) (adp g W x y) := by
  unfold adp
  have hA : ∀ {f g : Nat → Nat} {x : Nat}, Aw W f g → Aw W (adA f W x) (adA g W x) := by
    intro f g x h
    unfold adA
    by_cases q : x < W
    · rw [if_pos q, if_pos q]; exact ad1_aw h
    · rw [if_neg q, if_neg q]; exact h
  have hB : ∀ {f g : Nat → Nat} {x y : Nat}, Aw W f g → Aw W (adB f W x y) (adB g W x y) := by
    intro f g x y h
    unfold adB
    by_cases q : x < W ∧ y < W
    · rw [if_pos q, if_pos q]; exact ad1_aw (ad1_aw h)
    · rw [if_neg q, if_neg q]; exact h
  exact hB (hA (hA h))
theorem ad1_mod {m : Nat → Nat} {i : Nat} : ad1 m i 1000004 = ad1 m i 1 := by
  unfold ad1
  rw [show (m i + 1000004) % 1000003 = (m i + 1) % 1000003 by omega]
theorem hv_1 (y : Nat) : lN (y + 1000003) + lN 1 = lN (y + 1000004) := by rw [lN_add]
theorem hv_m (y : Nat) : lN (y + 1000003) + -lN 1 = lN (y + 1000002) := by
  rw [← Int64.sub_eq_add_neg, lN_sub (by omega)]
  rfl
theorem c_mo_waysS (hp : ¬ pureTo b (2 ^ n / 2) = true) (h : MS n b tc fl la zs cs m) : AMet M_mo_ways [.ref 6] [a0, a1, a2, a3, a4, a5, m, a7] (fun (r' : Option Value) (w' : Wd) => r' = some (.int (-nI 3)) ∧ ∃ m', w' = [a0, a1, a2, a3, a4, a5, m', a7] ∧ MS n b tc fl la zs cs m') 0 0 := by
  obtain ⟨fd, R, le, sz, o, be, pc, wt, qu, lm, sl, ce, tb, mt, ru, bf, kp, rfl, hn, hn9, hb, hfd, hL, hT⟩ := h
  refine AMet.of [(0, .ref 6)] (by decide +kernel) rfl (Nat.le_of_ble_eq_true rfl) ?_
  refine aw_aload_n 0 D_mo_ways_0 rfl rfl ?_
  refine aw_callV1 (As := []) D_mo_ways_1 kv_mo_isPure (c_mo_pure (by omega) hn9 hb) rfl rfl rfl rfl rfl (Nat.le_of_ble_eq_true rfl) (Nat.zero_le _) (Nat.zero_le _) ?_
  rw [if_neg hp]
  refine aw_if_neN D_mo_ways_4 (by decide) (fun h => absurd h (by decide)) (fun h => ?_)
  refine aw_bipush (-nI 3) D_mo_ways_7 rfl ?_
  refine aw_ireturn D_mo_ways_9 rfl rfl ?_
  exact ⟨rfl, _, rfl, fd, R, le, sz, o, be, pc, wt, qu, lm, sl, ce, tb, mt, ru, bf, kp, rfl, hn, hn9, hb, hfd, hL, hT⟩
theorem c_mo_ways (hp : pureTo b (2 ^ n / 2) = true) (h : MS n b tc fl la zs cs m) : AMet M_mo_ways [.ref 6] [a0, a1, a2, a3, a4, a5, m, a7] (fun (r' : Option Value) (w' : Wd) => r' = some (.int (nI (wys (cRo n b) (cR n b) (2 ^ n / 2)))) ∧ ∃ m', w' = [a0, a1, a2, a3, a4, a5, m', a7] ∧ MS n b tc fl la zs cs m') 0 0 := by
  obtain ⟨fd, R, le, sz, o, be, pc, wt, qu, lm, sl, ce, tb, mt, ru, bf, kp, rfl, hn, hn9, hb, hfd, hL, hT⟩ := h
  have hp9 := pow_le9 hn9
  have hh := pow_half (n := n) (by omega)
  refine AMet.of [(0, .ref 6)] (by decide +kernel) rfl (Nat.le_of_ble_eq_true rfl) ?_
  generalize hZ : (fun (r' : Option Value) (w' : Wd) => r' = some (.int (nI (wys (cRo n b) (cR n b) (2 ^ n / 2)))) ∧ ∃ m', w' = [a0, a1, a2, a3, a4, a5, m', a7] ∧ MS n b tc fl la zs cs m') = ZZ
  refine aw_aload_n 0 D_mo_ways_0 rfl rfl ?_
  refine aw_callV1 (As := []) D_mo_ways_1 kv_mo_isPure (c_mo_pure (by omega) hn9 hb) rfl rfl rfl rfl rfl (Nat.le_of_ble_eq_true rfl) (Nat.zero_le _) (Nat.zero_le _) ?_
  rw [if_pos hp]
  refine aw_if_neN D_mo_ways_4 (by decide) (fun h => ?_) (fun h => absurd h (by decide))
  refine aw_aload_n 0 D_mo_ways_10 rfl rfl ?_
  refine aw_callV (As := []) D_mo_ways_11 kv_mo_find (c_mo_find hn hn9 hb hfd) rfl rfl rfl rfl rfl (Nat.le_of_ble_eq_true rfl) (Nat.zero_le _) (Nat.zero_le _) (fun r w' hp => ?_)
  obtain ⟨rfl, R, le, sz, o, be, pc, wt, qu, rfl, pd, fa, hF⟩ := hp
  have hcan := hF.can (by omega) hb
  have hVc := hF.vt
  have hR65 := cR_few (by omega) hn9 hb hF
  have hR1 : 1 ≤ R := by have := hF.2.1.1 0 (Nat.two_pow_pos n); omega
  have hRc := hcan.1
  rw [← hRc] at hR65 hZ
  have hZw : wys (cRo n b) R (2 ^ n / 2) = dts (bld (cRo n b) (R - 1) (2 ^ n / 2)) (R - 1) (R - 1) 0 1 := by
    unfold wys
    by_cases q : R - 1 < 1
    · rw [if_pos q, show R - 1 = 0 by omega]
      rfl
    · rw [if_neg q]
  rw [hZw] at hZ
  refine aw_aload_n 0 D_mo_ways_14 rfl rfl ?_
  refine aw_get D_mo_ways_15 rfl rfl ?_
  refine aw_iconst (nI 1) D_mo_ways_18 rfl ?_
  first | with_reducible refine aw_isubN D_mo_ways_19 (by omega) ?_ | refine aw_isub D_mo_ways_19 ?_
  refine aw_istore_n 1 D_mo_ways_20 rfl (Nat.le_of_ble_eq_true rfl) rfl ?_
  generalize hWe : R - 1 = W at hZ
  have hW : W ≤ 64 := by omega
  have hWW : W * W ≤ 64 * 64 := Nat.mul_le_mul hW hW
  have roc : ∀ s, s < 2 ^ n → oF (-nI 9) o s = nI (cRo n b s) := fun s hs => by
    rw [show oF (-nI 9) o s = nI ((o s).getD 0) from oI_get (hF.1 s hs), (hcan.2.2.1 s hs).1]
  have rol : ∀ s, s < 2 ^ n → cRo n b s < R := fun s hs => by rw [hRc]; exact hVc.1 s hs
  have pairs : ∀ (d t : Nat) (f : Nat → Nat), t + d = 2 ^ n / 2 → (∀ i, f i < 1000003) → Aw W f (bld (cRo n b) W t) → AW M_mo_ways noP (Zp ZZ) 0 0 45 [(0, .ref 6), (1, .int (nI W)), (2, .int (nI t))] [] [a0, a1, a2, a3, a4, a5, MO fl tc n 1 R b le sz o be pc wt qu lm sl ce f mt ru bf kp, a7] 0 0 := by
    intro d
    induction d with
    | zero =>
      intro t f ht hf hA
      have ht : t = 2 ^ n / 2 := by omega
      subst ht
      have hdt : dts f W W 0 1 = dts (bld (cRo n b) W (2 ^ n / 2)) W W 0 1 := dts_ag W 0 1 _ _ (by omega) (fun r j hr _ hj => hA _ (idx_lt hr hj))
      refine aw_iload_n 2 D_mo_ways_45 rfl rfl ?_
      refine aw_aload_n 0 D_mo_ways_46 rfl rfl ?_
      refine aw_callV1 (As := []) D_mo_ways_47 kv_mo_states (c_mo_states hn9) rfl rfl rfl rfl rfl (Nat.le_of_ble_eq_true rfl) (Nat.zero_le _) (Nat.zero_le _) ?_
      refine aw_iconst (nI 2) D_mo_ways_50 rfl ?_
      first | with_reducible refine aw_idivN D_mo_ways_51 (by omega) (by omega) (by omega) ?_ | refine aw_idiv D_mo_ways_51 (by decide) ?_
      refine aw_icmp_geN D_mo_ways_52 (by omega) (by omega) (fun h => ?_) (fun h => absurd h (by omega))
      refine aw_aload_n 0 D_mo_ways_131 rfl rfl ?_
      refine aw_iload_n 1 D_mo_ways_132 rfl rfl ?_
      refine aw_callV (As := [_]) D_mo_ways_133 kv_mo_determinant (c_mo_det hW hf) rfl rfl rfl rfl rfl (Nat.le_of_ble_eq_true rfl) (Nat.zero_le _) (Nat.zero_le _) (fun r w' hp => ?_)
      obtain ⟨rfl, tb', htb, rfl⟩ := hp
      rw [hdt]
      show AW M_mo_ways noP (Zp ZZ) 0 0 136 _ [.int (nI _)] _ _ _
      refine aw_ireturn D_mo_ways_136 rfl rfl ?_
      subst hZ; exact ⟨rfl, _, rfl, 1, R, le, sz, o, be, pc, wt, qu, lm, sl, ce, tb', mt, ru, bf, kp, rfl, hn, hn9, hb, (Or.inr ⟨rfl, pd, fa, hF⟩), hL, htb⟩
    | succ d ih =>
      intro t f ht hf hA
      have l1 := rol (2 * t) (by omega)
      have l2 := rol (2 * t + 1) (by omega)
      have hb1 : bld (cRo n b) W (t + 1) = if cRo n b (2 * t) = cRo n b (2 * t + 1) then bld (cRo n b) W t else adp (bld (cRo n b) W t) W (cRo n b (2 * t)) (cRo n b (2 * t + 1)) := rfl
      refine aw_iload_n 2 D_mo_ways_45 rfl rfl ?_
      refine aw_aload_n 0 D_mo_ways_46 rfl rfl ?_
      refine aw_callV1 (As := []) D_mo_ways_47 kv_mo_states (c_mo_states hn9) rfl rfl rfl rfl rfl (Nat.le_of_ble_eq_true rfl) (Nat.zero_le _) (Nat.zero_le _) ?_
      refine aw_iconst (nI 2) D_mo_ways_50 rfl ?_
      first | with_reducible refine aw_idivN D_mo_ways_51 (by omega) (by omega) (by omega) ?_ | refine aw_idiv D_mo_ways_51 (by decide) ?_
      refine aw_icmp_geN D_mo_ways_52 (by omega) (by omega) (fun h => absurd h (by omega)) (fun h => ?_)
      refine aw_aload_n 0 D_mo_ways_55 rfl rfl ?_
      refine aw_get D_mo_ways_56 rfl rfl ?_
      refine aw_iconst (nI 2) D_mo_ways_59 rfl ?_
      refine aw_iload_n 2 D_mo_ways_60 rfl rfl ?_
      first | with_reducible refine aw_imulN D_mo_ways_61 ?_ | refine aw_imul D_mo_ways_61 ?_
      refine aw_ialdN D_mo_ways_62 rfl (by omega) (by omega) ?_
      rw [roc _ (by omega)]
      refine aw_istore_n 3 D_mo_ways_63 rfl (Nat.le_of_ble_eq_true rfl) rfl ?_
      refine aw_aload_n 0 D_mo_ways_64 rfl rfl ?_
      refine aw_get D_mo_ways_65 rfl rfl ?_
      refine aw_iconst (nI 2) D_mo_ways_68 rfl ?_
      refine aw_iload_n 2 D_mo_ways_69 rfl rfl ?_
      first | with_reducible refine aw_imulN D_mo_ways_70 ?_ | refine aw_imul D_mo_ways_70 ?_
      refine aw_iconst (nI 1) D_mo_ways_71 rfl ?_
      first | with_reducible refine aw_iaddN D_mo_ways_72 ?_ | refine aw_iadd D_mo_ways_72 ?_
      refine aw_ialdN D_mo_ways_73 rfl (by omega) (by omega) ?_
      rw [roc _ (by omega)]
      refine aw_istore D_mo_ways_74 (Nat.le_of_ble_eq_true rfl) rfl ?_
      refine aw_iload_n 3 D_mo_ways_76 rfl rfl ?_
      refine aw_iload D_mo_ways_77 rfl ?_
      generalize cRo n b (2 * t) = x at l1 hb1 ⊢
      generalize cRo n b (2 * t + 1) = y at l2 hb1 ⊢
      refine aw_icmp_neN D_mo_ways_79 (by omega) (by omega) (fun h2 => ?_) (fun h2 => ?_)
      · rw [if_neg h2] at hb1
        have f1 : ∀ i, (if x < W ∧ x < W then ad1 f (x * W + x) 1000004 else f) i < 1000003 := by split; exact ad1_lt hf _ _; exact hf
        refine aw_aload_n 0 D_mo_ways_85 rfl rfl ?_
        refine aw_iload_n 3 D_mo_ways_86 rfl rfl ?_
        refine aw_iload_n 3 D_mo_ways_87 rfl rfl ?_
        refine aw_iload_n 1 D_mo_ways_88 rfl rfl ?_
        refine aw_lconst (lN 1) D_mo_ways_89 rfl ?_
        refine aw_callVv (As := [_, _, _, _]) D_mo_ways_90 kv_mo_addTo (c_mo_addTo (a := x) (x := x) (e := 1000004) hW (by omega) (by omega) (by omega) hv_1 hf) rfl rfl rfl rfl rfl (Nat.le_of_ble_eq_true rfl) (Nat.zero_le _) (Nat.zero_le _) ?_
        have e1 : (if x < W ∧ x < W then ad1 f (x * W + x) 1000004 else f) = adA f W x := by
          unfold adA
          by_cases q : x < W
          · rw [if_pos ⟨q, q⟩, if_pos q, ad1_mod]
          · rw [if_neg (fun z => q z.1), if_neg q]
        rw [e1] at f1 ⊢
        have e2 : (if y < W ∧ y < W then ad1 (adA f W x) (y * W + y) 1000004 else adA f W x) = adA (adA f W x) W y := by
          conv => rhs; unfold adA
          by_cases q : y < W
          · rw [if_pos ⟨q, q⟩, if_pos q, ad1_mod]; rfl
          · rw [if_neg (fun z => q z.1), if_neg q]; rfl
        have f2 := adA_lt f1 W y
        refine aw_aload_n 0 D_mo_ways_93 rfl rfl ?_
        refine aw_iload D_mo_ways_94 rfl ?_
        refine aw_iload D_mo_ways_96 rfl ?_
        refine aw_iload_n 1 D_mo_ways_98 rfl rfl ?_
        refine aw_lconst (lN 1) D_mo_ways_99 rfl ?_
        refine aw_callVv (As := [_, _, _, _]) D_mo_ways_100 kv_mo_addTo (c_mo_addTo (a := y) (x := y) (e := 1000004) hW (by omega) (by omega) (by omega) hv_1 f1) rfl rfl rfl rfl rfl (Nat.le_of_ble_eq_true rfl) (Nat.zero_le _) (Nat.zero_le _) ?_
        rw [e2]
        refine aw_aload_n 0 D_mo_ways_103 rfl rfl ?_
        refine aw_iload_n 3 D_mo_ways_104 rfl rfl ?_
        refine aw_iload D_mo_ways_105 rfl ?_
        refine aw_iload_n 1 D_mo_ways_107 rfl rfl ?_
        refine aw_ldc2 D_mo_ways_108 ?_
        refine aw_callVv (As := [_, _, _, _]) D_mo_ways_111 kv_mo_addTo (c_mo_addTo (a := x) (x := y) (e := 1000002) hW (by omega) (by omega) (by omega) hv_m f2) rfl rfl rfl rfl rfl (Nat.le_of_ble_eq_true rfl) (Nat.zero_le _) (Nat.zero_le _) ?_
        have f3 : ∀ i, (if x < W ∧ y < W then ad1 (adA (adA f W x) W y) (x * W + y) 1000002 else adA (adA f W x) W y) i < 1000003 := by split; exact ad1_lt f2 _ _; exact f2
        refine aw_aload_n 0 D_mo_ways_114 rfl rfl ?_
        refine aw_iload D_mo_ways_115 rfl ?_
        refine aw_iload_n 3 D_mo_ways_117 rfl rfl ?_
        refine aw_iload_n 1 D_mo_ways_118 rfl rfl ?_
        refine aw_ldc2 D_mo_ways_119 ?_
        refine aw_callVv (As := [_, _, _, _]) D_mo_ways_122 kv_mo_addTo (c_mo_addTo (a := y) (x := x) (e := 1000002) hW (by omega) (by omega) (by omega) hv_m f3) rfl rfl rfl rfl rfl (Nat.le_of_ble_eq_true rfl) (Nat.zero_le _) (Nat.zero_le _) ?_
        have e4 : (if y < W ∧ x < W then ad1 (if x < W ∧ y < W then ad1 (adA (adA f W x) W y) (x * W + y) 1000002 else adA (adA f W x) W y) (y * W + x) 1000002 else (if x < W ∧ y < W then ad1 (adA (adA f W x) W y) (x * W + y) 1000002 else adA (adA f W x) W y)) = adp f W x y := by
          unfold adp adB
          by_cases q : x < W ∧ y < W
          · rw [if_pos q, if_pos ⟨q.2, q.1⟩, if_pos q]
          · rw [if_neg q, if_neg (fun z => q ⟨z.2, z.1⟩), if_neg q]
        rw [e4]
        first | refine aw_incN D_mo_ways_125 rfl (Nat.le_of_ble_eq_true rfl) rfl ?_ | refine aw_inc D_mo_ways_125 rfl (Nat.le_of_ble_eq_true rfl) rfl ?_
        refine aw_goto D_mo_ways_128 ?_
        refine aw_take 3 ?_
        exact ih (t + 1) _ (by omega) (adp_lt hf _ _ _) (by rw [hb1]; exact adp_aw hA)
      · rw [if_pos h2] at hb1
        refine aw_goto D_mo_ways_82 ?_
        first | refine aw_incN D_mo_ways_125 rfl (Nat.le_of_ble_eq_true rfl) rfl ?_ | refine aw_inc D_mo_ways_125 rfl (Nat.le_of_ble_eq_true rfl) rfl ?_
        refine aw_goto D_mo_ways_128 ?_
        refine aw_take 3 ?_
        exact ih (t + 1) f (by omega) hf (by rw [hb1]; exact hA)
  have zeros : ∀ (d i : Nat) (f : Nat → Nat), i + d = W * W → (∀ i, f i < 1000003) → (∀ j, j < i → f j = 0) → AW M_mo_ways noP (Zp ZZ) 0 0 23 [(0, .ref 6), (1, .int (nI W)), (2, .int (nI i))] [] [a0, a1, a2, a3, a4, a5, MO fl tc n 1 R b le sz o be pc wt qu lm sl ce f mt ru bf kp, a7] 0 0 := by
    intro d
    induction d with
    | zero =>
      intro i f hi hf h0
      refine aw_iload_n 2 D_mo_ways_23 rfl rfl ?_
      refine aw_iload_n 1 D_mo_ways_24 rfl rfl ?_
      refine aw_iload_n 1 D_mo_ways_25 rfl rfl ?_
      first | with_reducible refine aw_imulN D_mo_ways_26 ?_ | refine aw_imul D_mo_ways_26 ?_
      refine aw_icmp_geN D_mo_ways_27 (by omega) (by omega) (fun h => ?_) (fun h => absurd h (by omega))
      refine aw_iconst (nI 0) D_mo_ways_43 rfl ?_
      refine aw_istore_n 2 D_mo_ways_44 rfl (Nat.le_of_ble_eq_true rfl) rfl ?_
      exact pairs (2 ^ n / 2) 0 f (by omega) hf (fun j hj => h0 j (by omega))
    | succ d ih =>
      intro i f hi hf h0
      refine aw_iload_n 2 D_mo_ways_23 rfl rfl ?_
      refine aw_iload_n 1 D_mo_ways_24 rfl rfl ?_
      refine aw_iload_n 1 D_mo_ways_25 rfl rfl ?_
      first | with_reducible refine aw_imulN D_mo_ways_26 ?_ | refine aw_imul D_mo_ways_26 ?_
      refine aw_icmp_geN D_mo_ways_27 (by omega) (by omega) (fun h => absurd h (by omega)) (fun h => ?_)
      refine aw_aload_n 0 D_mo_ways_30 rfl rfl ?_
      refine aw_get D_mo_ways_31 rfl rfl ?_
      refine aw_iload_n 2 D_mo_ways_34 rfl rfl ?_
      refine aw_lconst (lN 0) D_mo_ways_35 rfl ?_
      refine aw_lastN D_mo_ways_36 rfl (by omega) (by omega) ?_
      first | refine aw_incN D_mo_ways_37 rfl (Nat.le_of_ble_eq_true rfl) rfl ?_ | refine aw_inc D_mo_ways_37 rfl (Nat.le_of_ble_eq_true rfl) rfl ?_
      refine aw_goto D_mo_ways_40 ?_
      refine ih (i + 1) _ (by omega) (fun j => ?_) (fun j hj => ?_)
      · unfold va_up
        split
        · decide
        · exact hf j
      · by_cases e : j = i
        · rw [e, vu_at]
        · rw [vu_ne e]; exact h0 j (by omega)
  refine aw_iconst (nI 0) D_mo_ways_21 rfl ?_
  refine aw_istore_n 2 D_mo_ways_22 rfl (Nat.le_of_ble_eq_true rfl) rfl ?_
  exact zeros (W * W) 0 tb (by omega) hT (fun j hj => absurd hj (by omega))
end MoWays
