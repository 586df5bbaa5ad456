/-! ### the reference: greatest order and period -/
section Runs
variable {c : Nat → Nat} {n : Nat}
theorem Dv.down {m m' : Nat} (h : Dv c n m) (hm : m' ≤ m) : Dv c n m' := by
  obtain ⟨i, j, h1, h2, h3, h4⟩ := h
  refine ⟨i + (m - m'), j + (m - m'), by omega, by omega, fun t ht => ?_, ?_⟩
  · have := h3 (m - m' + t) (by omega)
    rw [show i + (m - m') + t = i + (m - m' + t) by omega, show j + (m - m') + t = j + (m - m' + t) by omega]
    exact this
  · rw [show i + (m - m') + m' = i + m by omega, show j + (m - m') + m' = j + m by omega]
    exact h4
/-- a run of likes at a shift f, ending ahead of p -/
def Rn (c : Nat → Nat) (f p m : Nat) : Prop := m ≤ p ∧ ∀ t, t < m → c (p - m + t) = c (p - m + t + f)
/-- all pairs ahead of (f, i) are looked at, g is the greatest found, s the run now -/
def GI (c : Nat → Nat) (n f i s g : Nat) : Prop :=
  Rn c f i s ∧ (∀ m, Rn c f i m → m ≤ s) ∧ (g = 0 ∨ Dv c n (g - 1)) ∧ ∀ f' p m, 1 ≤ f' → p + f' < n → (f' < f ∨ f' = f ∧ p < i) → c p ≠ c (p + f') → Rn c f' p m → m + 1 ≤ g
theorem GI.zero : GI c n 1 0 0 0 := ⟨⟨Nat.le_refl _, fun t ht => absurd ht (by omega)⟩, fun m h => h.1, Or.inl rfl, fun f' p m h1 _ h2 => by omega⟩
theorem GI.far {f i s g : Nat} (h : GI c n f i s g) (hi : n ≤ i + f) : GI c n (f + 1) 0 0 g := by
  obtain ⟨h1, h2, h3, h4⟩ := h
  refine ⟨⟨Nat.le_refl _, fun t ht => absurd ht (by omega)⟩, fun m h => h.1, h3, fun f' p m a1 a2 a3 a4 a5 => h4 f' p m a1 a2 (by omega) a4 a5⟩
theorem GI.same {f i s g : Nat} (h : GI c n f i s g) (e : c i = c (i + f)) : GI c n f (i + 1) (s + 1) g := by
  obtain ⟨⟨h0, h1⟩, h2, h3, h4⟩ := h
  refine ⟨⟨by omega, fun t ht => ?_⟩, fun m hm => ?_, h3, fun f' p m a1 a2 a3 a4 a5 => ?_⟩
  · rw [show i + 1 - (s + 1) + t = i - s + t by omega]
    rcases Nat.lt_or_ge t s with q | q
    · exact h1 t q
    · rw [show i - s + t = i by omega]; exact e
  · rcases m with _ | m
    · omega
    · have := h2 m ⟨by have := hm.1; omega, fun t ht => by
        have := hm.2 t (by omega)
        rw [show i + 1 - (m + 1) + t = i - m + t by omega] at this
        exact this⟩
      omega
  · refine h4 f' p m a1 a2 ?_ a4 a5
    rcases a3 with q | ⟨q1, q2⟩
    · exact Or.inl q
    · right
      refine ⟨q1, ?_⟩
      rcases Nat.lt_or_ge p i with z | z
      · exact z
      · have : p = i := by omega
        subst this
        subst q1
        exact absurd e a4
theorem GI.diff {f i s g : Nat} (h : GI c n f i s g) (hf : 1 ≤ f) (hi : i + f < n) (e : c i ≠ c (i + f)) : GI c n f (i + 1) 0 (max g (s + 1)) := by
  obtain ⟨⟨h0, h1⟩, h2, h3, h4⟩ := h
  have hD : Dv c n s := ⟨i - s, i - s + f, by omega, by omega, fun t ht => by rw [h1 t ht]; congr 1; omega, by rw [show i - s + s = i by omega, show i - s + f + s = i + f by omega]; exact e⟩
  refine ⟨⟨by omega, fun t ht => absurd ht (by omega)⟩, fun m hm => ?_, ?_, fun f' p m a1 a2 a3 a4 a5 => ?_⟩
  · rcases m with _ | m
    · omega
    · have := hm.2 m (by omega)
      have h5 := hm.1
      rw [show i + 1 - (m + 1) + m = i by omega] at this
      exact absurd this e
  · right
    rcases Nat.le_total g (s + 1) with q | q
    · rw [Nat.max_eq_right q]; exact hD
    · rw [Nat.max_eq_left q]
      rcases h3 with z | z
      · omega
      · exact z
  · by_cases q : f' < f ∨ f' = f ∧ p < i
    · have := h4 f' p m a1 a2 q a4 a5
      omega
    · have e1 : f' = f := by omega
      have e2 : p = i := by omega
      subst e1
      subst e2
      have := h2 m a5
      omega
theorem GI.done {f i s g : Nat} (h : GI c n f i s g) (hf : n ≤ f) : IsGr c n g := by
  obtain ⟨h1, h2, h3, h4⟩ := h
  refine ⟨fun m hm => ?_, fun hD => ?_⟩
  · rcases h3 with z | z
    · omega
    · exact z.down (by omega)
  · obtain ⟨a, b, b1, b2, b3, b4⟩ := hD
    have := h4 (b - a) (a + g) g (by omega) (by omega) (by omega) (by rw [show a + g + (b - a) = b + g by omega]; exact b4) ⟨by omega, fun t ht => by
      have := b3 t ht
      rw [show a + g - g + t = a + t by omega, show a + t + (b - a) = b + t by omega]
      exact this⟩
    omega
theorem GI.le {f i s g : Nat} (h : GI c n f i s g) : g ≤ n := by
  rcases h.2.2.1 with z | z
  · omega
  · have := z.lt; omega
end Runs
section Mo7
variable {a0 a1 a2 a3 a4 a5 a7 m : List va_E} {fl tc : Int32} {n : Nat} {b : Nat → Nat} {la : Nat → Int32} {zs : Nat → Nat} {cs : Nat → Nat → Int64}
section Great0
variable {fd R : Nat} {le sz : Nat → Nat} {o : Nat → Option Nat} {be pc wt qu : Nat → Nat} {sl : Nat → Nat} {ce : Nat → Int64} {tb mt ru bf kp : Nat → Nat} {k p : Nat}
theorem c_mo_greatestOf {c : Nat → Nat} (hk : k < 4) (hp : p ≤ 600) (hc2 : ∀ i, c i < 2) (hc : ∀ i, i < p → bt (ce (600 * k + i)) = c i) : AMet M_mo_greatestOf [.ref 6, .int (nI k), .int (nI p)] [a0, a1, a2, a3, a4, a5, MO fl tc n fd R b le sz o be pc wt qu la sl ce tb mt ru bf kp, a7] (fun r' w' => ∃ g, r' = some (.int (nI g)) ∧ IsGr c p g ∧ w' = [a0, a1, a2, a3, a4, a5, MO fl tc n fd R b le sz o be pc wt qu la sl ce tb mt ru bf kp, a7]) 0 0 := by
  refine AMet.of [(0, .ref 6), (1, .int (nI k)), (2, .int (nI p))] (by decide +kernel) rfl (Nat.le_of_ble_eq_true rfl) ?_
  generalize hZ : (fun (r' : Option Value) (w' : Wd) => ∃ g, r' = some (.int (nI g)) ∧ IsGr c p g ∧ w' = [a0, a1, a2, a3, a4, a5, MO fl tc n fd R b le sz o be pc wt qu la sl ce tb mt ru bf kp, a7]) = ZZ
  have outer : ∀ (d f g : Nat), p ≤ f + d → GI c p f 0 0 g → 1 ≤ f → f ≤ 600 + 1 → AW M_mo_greatestOf noP (Zp ZZ) 0 0 5 [(0, .ref 6), (1, .int (nI k)), (2, .int (nI p)), (3, .int (nI g)), (4, .int (nI f))] [] [a0, a1, a2, a3, a4, a5, MO fl tc n fd R b le sz o be pc wt qu la sl ce tb mt ru bf kp, a7] 0 0 := by
    intro d
    have stop : ∀ (f g : Nat), p ≤ f → GI c p f 0 0 g → f ≤ 600 + 1 → AW M_mo_greatestOf noP (Zp ZZ) 0 0 5 [(0, .ref 6), (1, .int (nI k)), (2, .int (nI p)), (3, .int (nI g)), (4, .int (nI f))] [] [a0, a1, a2, a3, a4, a5, MO fl tc n fd R b le sz o be pc wt qu la sl ce tb mt ru bf kp, a7] 0 0 := by
      intro f g h1 hG h2
      refine aw_iload D_mo_greatestOf_5 rfl ?_
      refine aw_iload_n 2 D_mo_greatestOf_7 rfl rfl ?_
      refine aw_icmp_geN D_mo_greatestOf_8 (by omega) (by omega) (fun h => ?_) (fun h => absurd h (by omega))
      refine aw_iload_n 3 D_mo_greatestOf_84 rfl rfl ?_
      refine aw_ireturn D_mo_greatestOf_85 rfl rfl ?_
      subst hZ; exact ⟨g, rfl, hG.done h1, rfl⟩
    induction d with
    | zero => exact fun f g h1 hG _ h2 => stop f g (by omega) hG h2
    | succ d ih =>
      intro f g h1 hG hf1 h2
      rcases Nat.lt_or_ge f p with hfp | hfp
      · have inner : ∀ (e i s g : Nat), p ≤ i + f + e → i + f ≤ p → GI c p f i s g → AW M_mo_greatestOf noP (Zp ZZ) 0 0 17 [(0, .ref 6), (1, .int (nI k)), (2, .int (nI p)), (3, .int (nI g)), (4, .int (nI f)), (5, .int (nI s)), (6, .int (nI i))] [] [a0, a1, a2, a3, a4, a5, MO fl tc n fd R b le sz o be pc wt qu la sl ce tb mt ru bf kp, a7] 0 0 := by
          intro e
          induction e with
          | zero =>
            intro i s g he hif hG
            refine aw_iload D_mo_greatestOf_17 rfl ?_
            refine aw_iload D_mo_greatestOf_19 rfl ?_
            first | with_reducible refine aw_iaddN D_mo_greatestOf_21 ?_ | refine aw_iadd D_mo_greatestOf_21 ?_
            refine aw_iload_n 2 D_mo_greatestOf_22 rfl rfl ?_
            refine aw_icmp_geN D_mo_greatestOf_23 (by omega) (by omega) (fun h => ?_) (fun h => absurd h (by omega))
            first | refine aw_incN D_mo_greatestOf_78 rfl (Nat.le_of_ble_eq_true rfl) rfl ?_ | refine aw_inc D_mo_greatestOf_78 rfl (Nat.le_of_ble_eq_true rfl) rfl ?_
            refine aw_goto D_mo_greatestOf_81 ?_
            refine aw_take 5 ?_
            exact ih (f + 1) g (by omega) (hG.far (by omega)) (by omega) (by omega)
          | succ e ie =>
            intro i s g he hif hG
            have hgl := hG.le
            have hsl := hG.1.1
            rcases Nat.lt_or_ge (i + f) p with hlt | hlt
            · have h2i := hc2 i
              have h2f := hc2 (i + f)
              refine aw_iload D_mo_greatestOf_17 rfl ?_
              refine aw_iload D_mo_greatestOf_19 rfl ?_
              first | with_reducible refine aw_iaddN D_mo_greatestOf_21 ?_ | refine aw_iadd D_mo_greatestOf_21 ?_
              refine aw_iload_n 2 D_mo_greatestOf_22 rfl rfl ?_
              refine aw_icmp_geN D_mo_greatestOf_23 (by omega) (by omega) (fun h => absurd h (by omega)) (fun h => ?_)
              refine aw_aload_n 0 D_mo_greatestOf_26 rfl rfl ?_
              refine aw_iload_n 1 D_mo_greatestOf_27 rfl rfl ?_
              refine aw_iload D_mo_greatestOf_28 rfl ?_
              refine aw_callV1 (As := [_, _]) D_mo_greatestOf_30 kv_mo_bit (c_mo_bit hk (show i < 600 by omega)) rfl rfl rfl rfl rfl (Nat.le_of_ble_eq_true rfl) (Nat.zero_le _) (Nat.zero_le _) ?_
              rw [hc i (by omega)]
              refine aw_aload_n 0 D_mo_greatestOf_33 rfl rfl ?_
              refine aw_iload_n 1 D_mo_greatestOf_34 rfl rfl ?_
              refine aw_iload D_mo_greatestOf_35 rfl ?_
              refine aw_iload D_mo_greatestOf_37 rfl ?_
              first | with_reducible refine aw_iaddN D_mo_greatestOf_39 ?_ | refine aw_iadd D_mo_greatestOf_39 ?_
              refine aw_callV1 (As := [_, _]) D_mo_greatestOf_40 kv_mo_bit (c_mo_bit hk (show i + f < 600 by omega)) rfl rfl rfl rfl rfl (Nat.le_of_ble_eq_true rfl) (Nat.zero_le _) (Nat.zero_le _) ?_
              rw [hc (i + f) hlt]
              refine aw_icmp_neN D_mo_greatestOf_43 (by omega) (by omega) (fun h => ?_) (fun h => ?_)
              · have hG2 := hG.diff hf1 hlt h
                refine aw_iload D_mo_greatestOf_52 rfl ?_
                refine aw_iconst (nI 1) D_mo_greatestOf_54 rfl ?_
                first | with_reducible refine aw_iaddN D_mo_greatestOf_55 ?_ | refine aw_iadd D_mo_greatestOf_55 ?_
                refine aw_iload_n 3 D_mo_greatestOf_56 rfl rfl ?_
                refine aw_icmp_leN D_mo_greatestOf_57 (by omega) (by omega) (fun h3 => ?_) (fun h3 => ?_)
                · rw [Nat.max_eq_left h3] at hG2
                  refine aw_iload_n 3 D_mo_greatestOf_67 rfl rfl ?_
                  refine aw_istore_n 3 D_mo_greatestOf_68 rfl (Nat.le_of_ble_eq_true rfl) rfl ?_
                  refine aw_iconst (nI 0) D_mo_greatestOf_69 rfl ?_
                  refine aw_istore D_mo_greatestOf_70 (Nat.le_of_ble_eq_true rfl) rfl ?_
                  first | refine aw_incN D_mo_greatestOf_72 rfl (Nat.le_of_ble_eq_true rfl) rfl ?_ | refine aw_inc D_mo_greatestOf_72 rfl (Nat.le_of_ble_eq_true rfl) rfl ?_
                  refine aw_goto D_mo_greatestOf_75 ?_
                  exact ie (i + 1) 0 g (by omega) (by omega) hG2
                · rw [Nat.max_eq_right (by omega)] at hG2
                  refine aw_iload D_mo_greatestOf_60 rfl ?_
                  refine aw_iconst (nI 1) D_mo_greatestOf_62 rfl ?_
                  first | with_reducible refine aw_iaddN D_mo_greatestOf_63 ?_ | refine aw_iadd D_mo_greatestOf_63 ?_
                  refine aw_goto D_mo_greatestOf_64 ?_
                  refine aw_istore_n 3 D_mo_greatestOf_68 rfl (Nat.le_of_ble_eq_true rfl) rfl ?_
                  refine aw_iconst (nI 0) D_mo_greatestOf_69 rfl ?_
                  refine aw_istore D_mo_greatestOf_70 (Nat.le_of_ble_eq_true rfl) rfl ?_
                  first | refine aw_incN D_mo_greatestOf_72 rfl (Nat.le_of_ble_eq_true rfl) rfl ?_ | refine aw_inc D_mo_greatestOf_72 rfl (Nat.le_of_ble_eq_true rfl) rfl ?_
                  refine aw_goto D_mo_greatestOf_75 ?_
                  exact ie (i + 1) 0 (s + 1) (by omega) (by omega) hG2
              · first | refine aw_incN D_mo_greatestOf_46 rfl (Nat.le_of_ble_eq_true rfl) rfl ?_ | refine aw_inc D_mo_greatestOf_46 rfl (Nat.le_of_ble_eq_true rfl) rfl ?_
                refine aw_goto D_mo_greatestOf_49 ?_
                first | refine aw_incN D_mo_greatestOf_72 rfl (Nat.le_of_ble_eq_true rfl) rfl ?_ | refine aw_inc D_mo_greatestOf_72 rfl (Nat.le_of_ble_eq_true rfl) rfl ?_
                refine aw_goto D_mo_greatestOf_75 ?_
                exact ie (i + 1) (s + 1) g (by omega) (by omega) (hG.same h)
            · refine aw_iload D_mo_greatestOf_17 rfl ?_
              refine aw_iload D_mo_greatestOf_19 rfl ?_
              first | with_reducible refine aw_iaddN D_mo_greatestOf_21 ?_ | refine aw_iadd D_mo_greatestOf_21 ?_
              refine aw_iload_n 2 D_mo_greatestOf_22 rfl rfl ?_
              refine aw_icmp_geN D_mo_greatestOf_23 (by omega) (by omega) (fun h => ?_) (fun h => absurd h (by omega))
              first | refine aw_incN D_mo_greatestOf_78 rfl (Nat.le_of_ble_eq_true rfl) rfl ?_ | refine aw_inc D_mo_greatestOf_78 rfl (Nat.le_of_ble_eq_true rfl) rfl ?_
              refine aw_goto D_mo_greatestOf_81 ?_
              refine aw_take 5 ?_
              exact ih (f + 1) g (by omega) (hG.far (by omega)) (by omega) (by omega)
        refine aw_iload D_mo_greatestOf_5 rfl ?_
        refine aw_iload_n 2 D_mo_greatestOf_7 rfl rfl ?_
        refine aw_icmp_geN D_mo_greatestOf_8 (by omega) (by omega) (fun h => absurd h (by omega)) (fun h => ?_)
        refine aw_iconst (nI 0) D_mo_greatestOf_11 rfl ?_
        refine aw_istore D_mo_greatestOf_12 (Nat.le_of_ble_eq_true rfl) rfl ?_
        refine aw_iconst (nI 0) D_mo_greatestOf_14 rfl ?_
        refine aw_istore D_mo_greatestOf_15 (Nat.le_of_ble_eq_true rfl) rfl ?_
        exact inner p 0 0 g (by omega) (by omega) hG
      · exact stop f g hfp hG h2
  refine aw_iconst (nI 0) D_mo_greatestOf_0 rfl ?_
  refine aw_istore_n 3 D_mo_greatestOf_1 rfl (Nat.le_of_ble_eq_true rfl) rfl ?_
  refine aw_iconst (nI 1) D_mo_greatestOf_2 rfl ?_
  refine aw_istore D_mo_greatestOf_3 (Nat.le_of_ble_eq_true rfl) rfl ?_
  exact outer p 1 0 (by omega) GI.zero (by omega) (by omega)
theorem c_mo_againstN {y : Int32} (hk : k < 4) (h : la k = -nI 9) : AMet M_mo_againstBits [.ref 6, .int (nI k), .int y] [a0, a1, a2, a3, a4, a5, MO fl tc n fd R b le sz o be pc wt qu la sl ce tb mt ru bf kp, a7] (Ex (some (.int (-nI 10 - nI 1))) [a0, a1, a2, a3, a4, a5, MO (nI 1) tc n fd R b le sz o be pc wt qu la sl ce tb mt ru bf kp, a7]) 0 0 := by
  refine AMet.of [(0, .ref 6), (1, .int (nI k)), (2, .int y)] (by decide +kernel) rfl (Nat.le_of_ble_eq_true rfl) ?_
  refine aw_aload_n 0 D_mo_againstBits_0 rfl rfl ?_
  refine aw_get D_mo_againstBits_1 rfl rfl ?_
  refine aw_iload_n 1 D_mo_againstBits_4 rfl rfl ?_
  refine aw_ialdN D_mo_againstBits_5 rfl (by omega) (by omega) ?_
  refine aw_bipush (-nI 9) D_mo_againstBits_6 rfl ?_
  refine aw_icmp_ne D_mo_againstBits_8 (fun h2 => absurd h h2) (fun h => ?_)
  refine aw_aload_n 0 D_mo_againstBits_11 rfl rfl ?_
  refine aw_iconst (nI 1) D_mo_againstBits_12 rfl ?_
  refine aw_callV1 (As := [_]) D_mo_againstBits_13 kv_mo_fails (c_mo_fails) rfl rfl rfl rfl rfl (Nat.le_of_ble_eq_true rfl) (Nat.zero_le _) (Nat.zero_le _) ?_
  refine aw_ireturn D_mo_againstBits_16 rfl rfl ?_
  exact ⟨rfl, rfl⟩
theorem c_mo_againstI {y : Int32} (hk : k < 4) (h : la k ≠ -nI 9) (hs : sl k ≤ 600) (hy : ¬ ∃ m, m ≤ sl k ∧ y = nI m) : AMet M_mo_againstBits [.ref 6, .int (nI k), .int y] [a0, a1, a2, a3, a4, a5, MO fl tc n fd R b le sz o be pc wt qu la sl ce tb mt ru bf kp, a7] (Ex (some (.int (-nI 10 - nI 3))) [a0, a1, a2, a3, a4, a5, MO (nI 3) tc n fd R b le sz o be pc wt qu la sl ce tb mt ru bf kp, a7]) 0 0 := by
  refine AMet.of [(0, .ref 6), (1, .int (nI k)), (2, .int y)] (by decide +kernel) rfl (Nat.le_of_ble_eq_true rfl) ?_
  have hfail : AW M_mo_againstBits noP (Zp (Ex (some (.int (-nI 10 - nI 3))) [a0, a1, a2, a3, a4, a5, MO (nI 3) tc n fd R b le sz o be pc wt qu la sl ce tb mt ru bf kp, a7])) 0 0 31 [(0, .ref 6), (1, .int (nI k)), (2, .int y)] [] [a0, a1, a2, a3, a4, a5, MO fl tc n fd R b le sz o be pc wt qu la sl ce tb mt ru bf kp, a7] 0 0 := by
    refine aw_aload_n 0 D_mo_againstBits_31 rfl rfl ?_
    refine aw_iconst (nI 3) D_mo_againstBits_32 rfl ?_
    refine aw_callV1 (As := [_]) D_mo_againstBits_33 kv_mo_fails (c_mo_fails) rfl rfl rfl rfl rfl (Nat.le_of_ble_eq_true rfl) (Nat.zero_le _) (Nat.zero_le _) ?_
    refine aw_goto D_mo_againstBits_36 ?_
    refine aw_ireturn D_mo_againstBits_40 rfl rfl ?_
    exact ⟨rfl, rfl⟩
  refine aw_aload_n 0 D_mo_againstBits_0 rfl rfl ?_
  refine aw_get D_mo_againstBits_1 rfl rfl ?_
  refine aw_iload_n 1 D_mo_againstBits_4 rfl rfl ?_
  refine aw_ialdN D_mo_againstBits_5 rfl (by omega) (by omega) ?_
  refine aw_bipush (-nI 9) D_mo_againstBits_6 rfl ?_
  refine aw_icmp_ne D_mo_againstBits_8 (fun h => ?_) (fun h2 => absurd h2 h)
  refine aw_iload_n 2 D_mo_againstBits_17 rfl rfl ?_
  refine aw_if_lt D_mo_againstBits_18 (fun h => hfail) (fun h1 => ?_)
  obtain ⟨j, hj, rfl⟩ := nI_of h1
  refine aw_iload_n 2 D_mo_againstBits_21 rfl rfl ?_
  refine aw_aload_n 0 D_mo_againstBits_22 rfl rfl ?_
  refine aw_get D_mo_againstBits_23 rfl rfl ?_
  refine aw_iload_n 1 D_mo_againstBits_26 rfl rfl ?_
  refine aw_ialdN D_mo_againstBits_27 rfl (by omega) (by omega) ?_
  refine aw_icmp_leN D_mo_againstBits_28 (by omega) (by omega) (fun h2 => absurd ⟨j, h2, rfl⟩ hy) (fun h => hfail)
theorem c_mo_againstT {q : Nat} (hk : k < 4) (h : la k ≠ -nI 9) (hs : sl k ≤ 600) (hq : q ≤ sl k) : AMet M_mo_againstBits [.ref 6, .int (nI k), .int (nI q)] [a0, a1, a2, a3, a4, a5, MO fl tc n fd R b le sz o be pc wt qu la sl ce tb mt ru bf kp, a7] (Ex (some (.int (nI 0))) [a0, a1, a2, a3, a4, a5, MO fl tc n fd R b le sz o be pc wt qu la sl ce tb mt ru bf kp, a7]) 0 0 := by
  refine AMet.of [(0, .ref 6), (1, .int (nI k)), (2, .int (nI q))] (by decide +kernel) rfl (Nat.le_of_ble_eq_true rfl) ?_
  refine aw_aload_n 0 D_mo_againstBits_0 rfl rfl ?_
  refine aw_get D_mo_againstBits_1 rfl rfl ?_
  refine aw_iload_n 1 D_mo_againstBits_4 rfl rfl ?_
  refine aw_ialdN D_mo_againstBits_5 rfl (by omega) (by omega) ?_
  refine aw_bipush (-nI 9) D_mo_againstBits_6 rfl ?_
  refine aw_icmp_ne D_mo_againstBits_8 (fun h => ?_) (fun h2 => absurd h2 h)
  refine aw_iload_n 2 D_mo_againstBits_17 rfl rfl ?_
  refine aw_if_ltN D_mo_againstBits_18 (by omega) ?_
  refine aw_iload_n 2 D_mo_againstBits_21 rfl rfl ?_
  refine aw_aload_n 0 D_mo_againstBits_22 rfl rfl ?_
  refine aw_get D_mo_againstBits_23 rfl rfl ?_
  refine aw_iload_n 1 D_mo_againstBits_26 rfl rfl ?_
  refine aw_ialdN D_mo_againstBits_27 rfl (by omega) (by omega) ?_
  refine aw_icmp_leN D_mo_againstBits_28 (by omega) (by omega) (fun h2 => ?_) (fun h => absurd h (by omega))
  refine aw_iconst (nI 0) D_mo_againstBits_39 rfl ?_
  refine aw_ireturn D_mo_againstBits_40 rfl rfl ?_
  exact ⟨rfl, rfl⟩
end Great0
theorem c_mo_greatU {x y : Int32} (hx : ¬ vp_in x 4) (h : MS n b tc fl la zs cs m) : AMet M_mo_greatest [.ref 6, .int x, .int y] [a0, a1, a2, a3, a4, a5, m, a7] (fun (r' : Option Value) (w' : Wd) => r' = some (.int (-nI 1)) ∧ ∃ m', w' = [a0, a1, a2, a3, a4, a5, m', a7] ∧ MS n b tc (nI 0) la zs cs m') 0 0 := by
  obtain ⟨fd, R, le, sz, o, be, pc, wt, qu, lm, sl, ce, tb, mt, ru, bf, kp, rfl, hn, hn9, hb, hfd, hL, hT⟩ := h
  refine AMet.of [(0, .ref 6), (1, .int x), (2, .int y)] (by decide +kernel) rfl (Nat.le_of_ble_eq_true rfl) ?_
  refine aw_aload_n 0 D_mo_greatest_0 rfl rfl ?_
  refine aw_iconst (nI 0) D_mo_greatest_1 rfl ?_
  refine aw_put tc_mo D_mo_greatest_2 rfl (Nat.le_of_ble_eq_true rfl) rfl rfl ?_
  refine aw_iload_n 1 D_mo_greatest_5 rfl rfl ?_
  refine aw_callS1 (As := [_]) D_mo_greatest_6 kv_mo_isSheet (c_mo_isSheetF hx) rfl rfl (Nat.le_of_ble_eq_true rfl) (Nat.zero_le _) (Nat.zero_le _) ?_
  refine aw_if_neN D_mo_greatest_9 (by decide) (fun h => absurd h (by decide)) (fun h => ?_)
  refine aw_iconst (-nI 1) D_mo_greatest_12 rfl ?_
  refine aw_ireturn D_mo_greatest_13 rfl rfl ?_
  exact ⟨rfl, _, rfl, fd, R, le, sz, o, be, pc, wt, qu, lm, sl, ce, tb, mt, ru, bf, kp, rfl, hn, hn9, hb, hfd, hL, hT⟩
theorem c_mo_greatN {k : Nat} {y : Int32} (hk : k < 4) (hno : la k = -nI 1) (h : MS n b tc fl la zs cs m) : AMet M_mo_greatest [.ref 6, .int (nI k), .int y] [a0, a1, a2, a3, a4, a5, m, a7] (fun (r' : Option Value) (w' : Wd) => r' = some (.int (-nI 10 - nI 1)) ∧ ∃ m', w' = [a0, a1, a2, a3, a4, a5, m', a7] ∧ MS n b tc (nI 1) la zs cs m') 0 0 := by
  obtain ⟨fd, R, le, sz, o, be, pc, wt, qu, lm, sl, ce, tb, mt, ru, bf, kp, rfl, hn, hn9, hb, hfd, hL, hT⟩ := h
  refine AMet.of [(0, .ref 6), (1, .int (nI k)), (2, .int y)] (by decide +kernel) rfl (Nat.le_of_ble_eq_true rfl) ?_
  refine aw_aload_n 0 D_mo_greatest_0 rfl rfl ?_
  refine aw_iconst (nI 0) D_mo_greatest_1 rfl ?_
  refine aw_put tc_mo D_mo_greatest_2 rfl (Nat.le_of_ble_eq_true rfl) rfl rfl ?_
  refine aw_iload_n 1 D_mo_greatest_5 rfl rfl ?_
  refine aw_callS1 (As := [_]) D_mo_greatest_6 kv_mo_isSheet (c_mo_isSheetT hk) rfl rfl (Nat.le_of_ble_eq_true rfl) (Nat.zero_le _) (Nat.zero_le _) ?_
  refine aw_if_neN D_mo_greatest_9 (by decide) (fun h => ?_) (fun h => absurd h (by decide))
  refine aw_aload_n 0 D_mo_greatest_14 rfl rfl ?_
  refine aw_iload_n 1 D_mo_greatest_15 rfl rfl ?_
  refine aw_iload_n 2 D_mo_greatest_16 rfl rfl ?_
  refine aw_callV1 (As := [_, _]) D_mo_greatest_17 kv_mo_againstBits (c_mo_againstN hk (hL.none hk hno)) rfl rfl rfl rfl rfl (Nat.le_of_ble_eq_true rfl) (Nat.zero_le _) (Nat.zero_le _) ?_
  refine aw_istore_n 3 D_mo_greatest_20 rfl (Nat.le_of_ble_eq_true rfl) rfl ?_
  refine aw_iload_n 3 D_mo_greatest_21 rfl rfl ?_
  refine aw_if_eq D_mo_greatest_22 (fun h => absurd h (by decide)) (fun h => ?_)
  refine aw_iload_n 3 D_mo_greatest_25 rfl rfl ?_
  refine aw_goto D_mo_greatest_26 ?_
  refine aw_ireturn D_mo_greatest_35 rfl rfl ?_
  exact ⟨rfl, _, rfl, fd, R, le, sz, o, be, pc, wt, qu, lm, sl, ce, tb, mt, ru, bf, kp, rfl, hn, hn9, hb, hfd, hL, hT⟩
theorem c_mo_greatI {k : Nat} {y : Int32} (hk : k < 4) (hne : la k ≠ -nI 1) (hy : ¬ ∃ m, m ≤ zs k ∧ y = nI m) (h : MS n b tc fl la zs cs m) : AMet M_mo_greatest [.ref 6, .int (nI k), .int y] [a0, a1, a2, a3, a4, a5, m, a7] (fun (r' : Option Value) (w' : Wd) => r' = some (.int (-nI 10 - nI 3)) ∧ ∃ m', w' = [a0, a1, a2, a3, a4, a5, m', a7] ∧ MS n b tc (nI 3) la zs cs m') 0 0 := by
  obtain ⟨fd, R, le, sz, o, be, pc, wt, qu, lm, sl, ce, tb, mt, ru, bf, kp, rfl, hn, hn9, hb, hfd, hL, hT⟩ := h
  obtain ⟨l, hl, hl1, hl2, hs1, hs2⟩ := hL.some hk hne
  have hzk := hL.2 k
  refine AMet.of [(0, .ref 6), (1, .int (nI k)), (2, .int y)] (by decide +kernel) rfl (Nat.le_of_ble_eq_true rfl) ?_
  refine aw_aload_n 0 D_mo_greatest_0 rfl rfl ?_
  refine aw_iconst (nI 0) D_mo_greatest_1 rfl ?_
  refine aw_put tc_mo D_mo_greatest_2 rfl (Nat.le_of_ble_eq_true rfl) rfl rfl ?_
  refine aw_iload_n 1 D_mo_greatest_5 rfl rfl ?_
  refine aw_callS1 (As := [_]) D_mo_greatest_6 kv_mo_isSheet (c_mo_isSheetT hk) rfl rfl (Nat.le_of_ble_eq_true rfl) (Nat.zero_le _) (Nat.zero_le _) ?_
  refine aw_if_neN D_mo_greatest_9 (by decide) (fun h => ?_) (fun h => absurd h (by decide))
  refine aw_aload_n 0 D_mo_greatest_14 rfl rfl ?_
  refine aw_iload_n 1 D_mo_greatest_15 rfl rfl ?_
  refine aw_iload_n 2 D_mo_greatest_16 rfl rfl ?_
  refine aw_callV1 (As := [_, _]) D_mo_greatest_17 kv_mo_againstBits (c_mo_againstI hk (hL.ne hk hne) (by omega) (by rw [hs1]; exact hy)) rfl rfl rfl rfl rfl (Nat.le_of_ble_eq_true rfl) (Nat.zero_le _) (Nat.zero_le _) ?_
  refine aw_istore_n 3 D_mo_greatest_20 rfl (Nat.le_of_ble_eq_true rfl) rfl ?_
  refine aw_iload_n 3 D_mo_greatest_21 rfl rfl ?_
  refine aw_if_eq D_mo_greatest_22 (fun h => absurd h (by decide)) (fun h => ?_)
  refine aw_iload_n 3 D_mo_greatest_25 rfl rfl ?_
  refine aw_goto D_mo_greatest_26 ?_
  refine aw_ireturn D_mo_greatest_35 rfl rfl ?_
  exact ⟨rfl, _, rfl, fd, R, le, sz, o, be, pc, wt, qu, lm, sl, ce, tb, mt, ru, bf, kp, rfl, hn, hn9, hb, hfd, hL, hT⟩
theorem c_mo_greatT {k p g : Nat} (hk : k < 4) (hne : la k ≠ -nI 1) (hp : p ≤ zs k) (hg : IsGr (fun i => bt (cs k i)) p g) (h : MS n b tc fl la zs cs m) : AMet M_mo_greatest [.ref 6, .int (nI k), .int (nI p)] [a0, a1, a2, a3, a4, a5, m, a7] (fun (r' : Option Value) (w' : Wd) => r' = some (.int (nI g)) ∧ ∃ m', w' = [a0, a1, a2, a3, a4, a5, m', a7] ∧ MS n b tc (nI 0) la zs cs m') 0 0 := by
  obtain ⟨fd, R, le, sz, o, be, pc, wt, qu, lm, sl, ce, tb, mt, ru, bf, kp, rfl, hn, hn9, hb, hfd, hL, hT⟩ := h
  obtain ⟨l, hl, hl1, hl2, hs1, hs2⟩ := hL.some hk hne
  have hzk := hL.2 k
  refine AMet.of [(0, .ref 6), (1, .int (nI k)), (2, .int (nI p))] (by decide +kernel) rfl (Nat.le_of_ble_eq_true rfl) ?_
  refine aw_aload_n 0 D_mo_greatest_0 rfl rfl ?_
  refine aw_iconst (nI 0) D_mo_greatest_1 rfl ?_
  refine aw_put tc_mo D_mo_greatest_2 rfl (Nat.le_of_ble_eq_true rfl) rfl rfl ?_
  refine aw_iload_n 1 D_mo_greatest_5 rfl rfl ?_
  refine aw_callS1 (As := [_]) D_mo_greatest_6 kv_mo_isSheet (c_mo_isSheetT hk) rfl rfl (Nat.le_of_ble_eq_true rfl) (Nat.zero_le _) (Nat.zero_le _) ?_
  refine aw_if_neN D_mo_greatest_9 (by decide) (fun h => ?_) (fun h => absurd h (by decide))
  refine aw_aload_n 0 D_mo_greatest_14 rfl rfl ?_
  refine aw_iload_n 1 D_mo_greatest_15 rfl rfl ?_
  refine aw_iload_n 2 D_mo_greatest_16 rfl rfl ?_
  refine aw_callV1 (As := [_, _]) D_mo_greatest_17 kv_mo_againstBits (c_mo_againstT hk (hL.ne hk hne) (by omega) (by omega)) rfl rfl rfl rfl rfl (Nat.le_of_ble_eq_true rfl) (Nat.zero_le _) (Nat.zero_le _) ?_
  refine aw_istore_n 3 D_mo_greatest_20 rfl (Nat.le_of_ble_eq_true rfl) rfl ?_
  refine aw_iload_n 3 D_mo_greatest_21 rfl rfl ?_
  refine aw_if_eqN D_mo_greatest_22 (by decide) (fun h => ?_) (fun h => absurd h (by decide))
  refine aw_aload_n 0 D_mo_greatest_29 rfl rfl ?_
  refine aw_iload_n 1 D_mo_greatest_30 rfl rfl ?_
  refine aw_iload_n 2 D_mo_greatest_31 rfl rfl ?_
  refine aw_callV (As := [_, _]) D_mo_greatest_32 kv_mo_greatestOf (c_mo_greatestOf (c := fun i => bt (cs k i)) hk (by omega) (fun i => bt_lt _) (fun i hi => by rw [hs2 i (by omega)])) rfl rfl rfl rfl rfl (Nat.le_of_ble_eq_true rfl) (Nat.zero_le _) (Nat.zero_le _) (fun r w' hp => ?_)
  obtain ⟨g', rfl, hg', rfl⟩ := hp
  have hgg := hg'.one hg
  subst hgg
  show AW M_mo_greatest noP _ 0 0 35 _ [.int (nI g')] _ _ _
  refine aw_ireturn D_mo_greatest_35 rfl rfl ?_
  exact ⟨rfl, _, rfl, fd, R, le, sz, o, be, pc, wt, qu, lm, sl, ce, tb, mt, ru, bf, kp, rfl, hn, hn9, hb, hfd, hL, hT⟩
theorem c_mo_periodU {x : Int32} (hx : ¬ vp_in x 4) (h : MS n b tc fl la zs cs m) : AMet M_mo_period [.ref 6, .int x] [a0, a1, a2, a3, a4, a5, m, a7] (fun (r' : Option Value) (w' : Wd) => r' = some (.int (-nI 1)) ∧ ∃ m', w' = [a0, a1, a2, a3, a4, a5, m', a7] ∧ MS n b tc (nI 0) la zs cs m') 0 0 := by
  obtain ⟨fd, R, le, sz, o, be, pc, wt, qu, lm, sl, ce, tb, mt, ru, bf, kp, rfl, hn, hn9, hb, hfd, hL, hT⟩ := h
  refine AMet.of [(0, .ref 6), (1, .int x)] (by decide +kernel) rfl (Nat.le_of_ble_eq_true rfl) ?_
  refine aw_aload_n 0 D_mo_period_0 rfl rfl ?_
  refine aw_iconst (nI 0) D_mo_period_1 rfl ?_
  refine aw_put tc_mo D_mo_period_2 rfl (Nat.le_of_ble_eq_true rfl) rfl rfl ?_
  refine aw_iload_n 1 D_mo_period_5 rfl rfl ?_
  refine aw_callS1 (As := [_]) D_mo_period_6 kv_mo_isSheet (c_mo_isSheetF hx) rfl rfl (Nat.le_of_ble_eq_true rfl) (Nat.zero_le _) (Nat.zero_le _) ?_
  refine aw_if_neN D_mo_period_9 (by decide) (fun h => absurd h (by decide)) (fun h => ?_)
  refine aw_iconst (-nI 1) D_mo_period_12 rfl ?_
  refine aw_ireturn D_mo_period_13 rfl rfl ?_
  exact ⟨rfl, _, rfl, fd, R, le, sz, o, be, pc, wt, qu, lm, sl, ce, tb, mt, ru, bf, kp, rfl, hn, hn9, hb, hfd, hL, hT⟩
theorem c_mo_periodN {k : Nat} (hk : k < 4) (hno : la k = -nI 1) (h : MS n b tc fl la zs cs m) : AMet M_mo_period [.ref 6, .int (nI k)] [a0, a1, a2, a3, a4, a5, m, a7] (fun (r' : Option Value) (w' : Wd) => r' = some (.int (-nI 10 - nI 1)) ∧ ∃ m', w' = [a0, a1, a2, a3, a4, a5, m', a7] ∧ MS n b tc (nI 1) la zs cs m') 0 0 := by
  obtain ⟨fd, R, le, sz, o, be, pc, wt, qu, lm, sl, ce, tb, mt, ru, bf, kp, rfl, hn, hn9, hb, hfd, hL, hT⟩ := h
  refine AMet.of [(0, .ref 6), (1, .int (nI k))] (by decide +kernel) rfl (Nat.le_of_ble_eq_true rfl) ?_
  refine aw_aload_n 0 D_mo_period_0 rfl rfl ?_
  refine aw_iconst (nI 0) D_mo_period_1 rfl ?_
  refine aw_put tc_mo D_mo_period_2 rfl (Nat.le_of_ble_eq_true rfl) rfl rfl ?_
  refine aw_iload_n 1 D_mo_period_5 rfl rfl ?_
  refine aw_callS1 (As := [_]) D_mo_period_6 kv_mo_isSheet (c_mo_isSheetT hk) rfl rfl (Nat.le_of_ble_eq_true rfl) (Nat.zero_le _) (Nat.zero_le _) ?_
  refine aw_if_neN D_mo_period_9 (by decide) (fun h => ?_) (fun h => absurd h (by decide))
  refine aw_aload_n 0 D_mo_period_14 rfl rfl ?_
  refine aw_get D_mo_period_15 rfl rfl ?_
  refine aw_iload_n 1 D_mo_period_18 rfl rfl ?_
  refine aw_ialdN D_mo_period_19 rfl (by omega) (by omega) ?_
  refine aw_bipush (-nI 9) D_mo_period_20 rfl ?_
  refine aw_icmp_ne D_mo_period_22 (fun h => absurd (hL.none hk hno) h) (fun h => ?_)
  refine aw_aload_n 0 D_mo_period_25 rfl rfl ?_
  refine aw_iconst (nI 1) D_mo_period_26 rfl ?_
  refine aw_callV1 (As := [_]) D_mo_period_27 kv_mo_fails (c_mo_fails) rfl rfl rfl rfl rfl (Nat.le_of_ble_eq_true rfl) (Nat.zero_le _) (Nat.zero_le _) ?_
  refine aw_ireturn D_mo_period_30 rfl rfl ?_
  exact ⟨rfl, _, rfl, fd, R, le, sz, o, be, pc, wt, qu, lm, sl, ce, tb, mt, ru, bf, kp, rfl, hn, hn9, hb, hfd, hL, hT⟩
theorem c_mo_periodS {k : Nat} (hk : k < 4) (hne : la k ≠ -nI 1) (h0 : zs k = 0) (h : MS n b tc fl la zs cs m) : AMet M_mo_period [.ref 6, .int (nI k)] [a0, a1, a2, a3, a4, a5, m, a7] (fun (r' : Option Value) (w' : Wd) => r' = some (.int (-nI 3)) ∧ ∃ m', w' = [a0, a1, a2, a3, a4, a5, m', a7] ∧ MS n b tc (nI 0) la zs cs m') 0 0 := by
  obtain ⟨fd, R, le, sz, o, be, pc, wt, qu, lm, sl, ce, tb, mt, ru, bf, kp, rfl, hn, hn9, hb, hfd, hL, hT⟩ := h
  obtain ⟨l, hl, hl1, hl2, hs1, hs2⟩ := hL.some hk hne
  refine AMet.of [(0, .ref 6), (1, .int (nI k))] (by decide +kernel) rfl (Nat.le_of_ble_eq_true rfl) ?_
  refine aw_aload_n 0 D_mo_period_0 rfl rfl ?_
  refine aw_iconst (nI 0) D_mo_period_1 rfl ?_
  refine aw_put tc_mo D_mo_period_2 rfl (Nat.le_of_ble_eq_true rfl) rfl rfl ?_
  refine aw_iload_n 1 D_mo_period_5 rfl rfl ?_
  refine aw_callS1 (As := [_]) D_mo_period_6 kv_mo_isSheet (c_mo_isSheetT hk) rfl rfl (Nat.le_of_ble_eq_true rfl) (Nat.zero_le _) (Nat.zero_le _) ?_
  refine aw_if_neN D_mo_period_9 (by decide) (fun h => ?_) (fun h => absurd h (by decide))
  refine aw_aload_n 0 D_mo_period_14 rfl rfl ?_
  refine aw_get D_mo_period_15 rfl rfl ?_
  refine aw_iload_n 1 D_mo_period_18 rfl rfl ?_
  refine aw_ialdN D_mo_period_19 rfl (by omega) (by omega) ?_
  refine aw_bipush (-nI 9) D_mo_period_20 rfl ?_
  refine aw_icmp_ne D_mo_period_22 (fun h => ?_) (fun h => absurd h (hL.ne hk hne))
  refine aw_aload_n 0 D_mo_period_31 rfl rfl ?_
  refine aw_get D_mo_period_32 rfl rfl ?_
  refine aw_iload_n 1 D_mo_period_35 rfl rfl ?_
  refine aw_ialdN D_mo_period_36 rfl (by omega) (by omega) ?_
  refine aw_if_neN D_mo_period_37 (by omega) (fun h => absurd h (by omega)) (fun h => ?_)
  refine aw_bipush (-nI 3) D_mo_period_40 rfl ?_
  refine aw_ireturn D_mo_period_42 rfl rfl ?_
  exact ⟨rfl, _, rfl, fd, R, le, sz, o, be, pc, wt, qu, lm, sl, ce, tb, mt, ru, bf, kp, rfl, hn, hn9, hb, hfd, hL, hT⟩
theorem c_mo_periodT {k p : Nat} (hk : k < 4) (hne : la k ≠ -nI 1) (hper : IsPer (fun i => bt (cs k i)) (zs k) p) (h : MS n b tc fl la zs cs m) : AMet M_mo_period [.ref 6, .int (nI k)] [a0, a1, a2, a3, a4, a5, m, a7] (fun (r' : Option Value) (w' : Wd) => r' = some (.int (nI p)) ∧ ∃ m', w' = [a0, a1, a2, a3, a4, a5, m', a7] ∧ MS n b tc (nI 0) la zs cs m') 0 0 := by
  obtain ⟨fd, R, le, sz, o, be, pc, wt, qu, lm, sl, ce, tb, mt, ru, bf, kp, rfl, hn, hn9, hb, hfd, hL, hT⟩ := h
  obtain ⟨l, hl, hl1, hl2, hs1, hs2⟩ := hL.some hk hne
  have hzk := hL.2 k
  have hp1 := hper.1
  have hp2 := hper.2.1
  refine AMet.of [(0, .ref 6), (1, .int (nI k))] (by decide +kernel) rfl (Nat.le_of_ble_eq_true rfl) ?_
  generalize hZ : (fun (r' : Option Value) (w' : Wd) => r' = some (.int (nI p)) ∧ ∃ m', w' = [a0, a1, a2, a3, a4, a5, m', a7] ∧ MS n b tc (nI 0) la zs cs m') = ZZ
  generalize hc : (fun i => bt (cs k i)) = c at hper
  have hci : ∀ i, i < zs k → bt (ce (600 * k + i)) = c i := fun i hi => by rw [hs2 i hi]; exact congrFun hc i
  have hc2 : ∀ i, c i < 2 := fun i => by rw [← hc]; exact bt_lt _
  have outer : ∀ (d q u : Nat) (L5 : List (Nat × Value)), q + d = zs k → 1 ≤ q → (∀ r, 1 ≤ r → r < q → ∃ i, i + r < zs k ∧ c i ≠ c (i + r)) → u = 0 → (L5 = [] ∨ ∃ x, L5 = [(4, Value.int x)]) → AW M_mo_period noP (Zp ZZ) 0 0 47 ([(0, .ref 6), (1, .int (nI k)), (2, .int (nI q)), (3, .int (nI u))] ++ L5) [] [a0, a1, a2, a3, a4, a5, MO (nI 0) tc n fd R b le sz o be pc wt qu lm sl ce tb mt ru bf kp, a7] 0 0 := by
    intro d
    induction d with
    | zero =>
      intro q u L5 hq hq1 hall hu hL5
      subst hu
      have hqz : q = zs k := by omega
      have hfin : AW M_mo_period noP (Zp ZZ) 0 0 47 [(0, .ref 6), (1, .int (nI k)), (2, .int (nI q)), (3, .int (nI 0))] [] [a0, a1, a2, a3, a4, a5, MO (nI 0) tc n fd R b le sz o be pc wt qu lm sl ce tb mt ru bf kp, a7] 0 0 := by
        refine aw_iload_n 3 D_mo_period_47 rfl rfl ?_
        refine aw_if_neN D_mo_period_48 (by decide) (fun h => absurd h (by decide)) (fun h => ?_)
        refine aw_iconst (nI 1) D_mo_period_51 rfl ?_
        refine aw_istore_n 3 D_mo_period_52 rfl (Nat.le_of_ble_eq_true rfl) rfl ?_
        refine aw_iconst (nI 0) D_mo_period_53 rfl ?_
        refine aw_istore D_mo_period_54 (Nat.le_of_ble_eq_true rfl) rfl ?_
        refine aw_iload D_mo_period_56 rfl ?_
        refine aw_iload_n 2 D_mo_period_58 rfl rfl ?_
        first | with_reducible refine aw_iaddN D_mo_period_59 ?_ | refine aw_iadd D_mo_period_59 ?_
        refine aw_aload_n 0 D_mo_period_60 rfl rfl ?_
        refine aw_get D_mo_period_61 rfl rfl ?_
        refine aw_iload_n 1 D_mo_period_64 rfl rfl ?_
        refine aw_ialdN D_mo_period_65 rfl (by omega) (by omega) ?_
        refine aw_icmp_geN D_mo_period_66 (by omega) (by omega) (fun h => ?_) (fun h => absurd h (by omega))
        refine aw_iload_n 2 D_mo_period_104 rfl rfl ?_
        refine aw_iload_n 3 D_mo_period_105 rfl rfl ?_
        refine aw_if_eqN D_mo_period_106 (by decide) (fun h => absurd h (by decide)) (fun h => ?_)
        refine aw_iconst (nI 0) D_mo_period_109 rfl ?_
        refine aw_goto D_mo_period_110 ?_
        first | with_reducible refine aw_iaddN D_mo_period_114 ?_ | refine aw_iadd D_mo_period_114 ?_
        refine aw_istore_n 2 D_mo_period_115 rfl (Nat.le_of_ble_eq_true rfl) rfl ?_
        refine aw_goto D_mo_period_116 ?_
        refine aw_iload_n 3 D_mo_period_47 rfl rfl ?_
        refine aw_if_neN D_mo_period_48 (by decide) (fun h => ?_) (fun h => absurd h (by decide))
        have hpq : q = p := IsPer.one ⟨hq1, by omega, fun i hi => absurd hi (by omega), hall⟩ hper
        refine aw_iload_n 2 D_mo_period_119 rfl rfl ?_
        refine aw_ireturn D_mo_period_120 rfl rfl ?_
        subst hZ; subst hpq; exact ⟨rfl, _, rfl, fd, R, le, sz, o, be, pc, wt, qu, lm, sl, ce, tb, mt, ru, bf, kp, rfl, hn, hn9, hb, hfd, hL, hT⟩
      rcases hL5 with rfl | ⟨x, rfl⟩
      · exact hfin
      · exact aw_take 4 hfin
    | succ d ih =>
      intro q u L5 hq hq1 hall hu hL5
      subst hu
      have hfin : AW M_mo_period noP (Zp ZZ) 0 0 47 [(0, .ref 6), (1, .int (nI k)), (2, .int (nI q)), (3, .int (nI 0))] [] [a0, a1, a2, a3, a4, a5, MO (nI 0) tc n fd R b le sz o be pc wt qu lm sl ce tb mt ru bf kp, a7] 0 0 := by
        have inner : ∀ (e i : Nat), i + q + e = zs k → (∀ j, j < i → c j = c (j + q)) → AW M_mo_period noP (Zp ZZ) 0 0 56 [(0, .ref 6), (1, .int (nI k)), (2, .int (nI q)), (3, .int (nI 1)), (4, .int (nI i))] [] [a0, a1, a2, a3, a4, a5, MO (nI 0) tc n fd R b le sz o be pc wt qu lm sl ce tb mt ru bf kp, a7] 0 0 := by
          intro e
          induction e with
          | zero =>
            intro i hi hj
            have hpq : q = p := IsPer.one ⟨hq1, by omega, fun j hj2 => hj j (by omega), hall⟩ hper
            refine aw_iload D_mo_period_56 rfl ?_
            refine aw_iload_n 2 D_mo_period_58 rfl rfl ?_
            first | with_reducible refine aw_iaddN D_mo_period_59 ?_ | refine aw_iadd D_mo_period_59 ?_
            refine aw_aload_n 0 D_mo_period_60 rfl rfl ?_
            refine aw_get D_mo_period_61 rfl rfl ?_
            refine aw_iload_n 1 D_mo_period_64 rfl rfl ?_
            refine aw_ialdN D_mo_period_65 rfl (by omega) (by omega) ?_
            refine aw_icmp_geN D_mo_period_66 (by omega) (by omega) (fun h => ?_) (fun h => absurd h (by omega))
            refine aw_iload_n 2 D_mo_period_104 rfl rfl ?_
            refine aw_iload_n 3 D_mo_period_105 rfl rfl ?_
            refine aw_if_eqN D_mo_period_106 (by decide) (fun h => absurd h (by decide)) (fun h => ?_)
            refine aw_iconst (nI 0) D_mo_period_109 rfl ?_
            refine aw_goto D_mo_period_110 ?_
            first | with_reducible refine aw_iaddN D_mo_period_114 ?_ | refine aw_iadd D_mo_period_114 ?_
            refine aw_istore_n 2 D_mo_period_115 rfl (Nat.le_of_ble_eq_true rfl) rfl ?_
            refine aw_goto D_mo_period_116 ?_
            refine aw_iload_n 3 D_mo_period_47 rfl rfl ?_
            refine aw_if_neN D_mo_period_48 (by decide) (fun h => ?_) (fun h => absurd h (by decide))
            refine aw_iload_n 2 D_mo_period_119 rfl rfl ?_
            refine aw_ireturn D_mo_period_120 rfl rfl ?_
            subst hZ; subst hpq; exact ⟨rfl, _, rfl, fd, R, le, sz, o, be, pc, wt, qu, lm, sl, ce, tb, mt, ru, bf, kp, rfl, hn, hn9, hb, hfd, hL, hT⟩
          | succ e ie =>
            intro i hi hj
            have h1 := hc2 i
            have h2 := hc2 (i + q)
            refine aw_iload D_mo_period_56 rfl ?_
            refine aw_iload_n 2 D_mo_period_58 rfl rfl ?_
            first | with_reducible refine aw_iaddN D_mo_period_59 ?_ | refine aw_iadd D_mo_period_59 ?_
            refine aw_aload_n 0 D_mo_period_60 rfl rfl ?_
            refine aw_get D_mo_period_61 rfl rfl ?_
            refine aw_iload_n 1 D_mo_period_64 rfl rfl ?_
            refine aw_ialdN D_mo_period_65 rfl (by omega) (by omega) ?_
            refine aw_icmp_geN D_mo_period_66 (by omega) (by omega) (fun h => absurd h (by omega)) (fun h => ?_)
            refine aw_iload_n 3 D_mo_period_69 rfl rfl ?_
            refine aw_if_eqN D_mo_period_70 (by decide) (fun h => absurd h (by decide)) (fun h => ?_)
            refine aw_aload_n 0 D_mo_period_73 rfl rfl ?_
            refine aw_iload_n 1 D_mo_period_74 rfl rfl ?_
            refine aw_iload D_mo_period_75 rfl ?_
            refine aw_callV1 (As := [_, _]) D_mo_period_77 kv_mo_bit (c_mo_bit hk (show i < 600 by omega)) rfl rfl rfl rfl rfl (Nat.le_of_ble_eq_true rfl) (Nat.zero_le _) (Nat.zero_le _) ?_
            rw [hci i (by omega)]
            refine aw_aload_n 0 D_mo_period_80 rfl rfl ?_
            refine aw_iload_n 1 D_mo_period_81 rfl rfl ?_
            refine aw_iload D_mo_period_82 rfl ?_
            refine aw_iload_n 2 D_mo_period_84 rfl rfl ?_
            first | with_reducible refine aw_iaddN D_mo_period_85 ?_ | refine aw_iadd D_mo_period_85 ?_
            refine aw_callV1 (As := [_, _]) D_mo_period_86 kv_mo_bit (c_mo_bit hk (show i + q < 600 by omega)) rfl rfl rfl rfl rfl (Nat.le_of_ble_eq_true rfl) (Nat.zero_le _) (Nat.zero_le _) ?_
            rw [hci (i + q) (by omega)]
            refine aw_icmp_neN D_mo_period_89 (by omega) (by omega) (fun h => ?_) (fun h => ?_)
            · refine aw_iconst (nI 0) D_mo_period_96 rfl ?_
              refine aw_istore_n 3 D_mo_period_97 rfl (Nat.le_of_ble_eq_true rfl) rfl ?_
              first | refine aw_incN D_mo_period_98 rfl (Nat.le_of_ble_eq_true rfl) rfl ?_ | refine aw_inc D_mo_period_98 rfl (Nat.le_of_ble_eq_true rfl) rfl ?_
              refine aw_goto D_mo_period_101 ?_
              refine aw_iload D_mo_period_56 rfl ?_
              refine aw_iload_n 2 D_mo_period_58 rfl rfl ?_
              first | with_reducible refine aw_iaddN D_mo_period_59 ?_ | refine aw_iadd D_mo_period_59 ?_
              refine aw_aload_n 0 D_mo_period_60 rfl rfl ?_
              refine aw_get D_mo_period_61 rfl rfl ?_
              refine aw_iload_n 1 D_mo_period_64 rfl rfl ?_
              refine aw_ialdN D_mo_period_65 rfl (by omega) (by omega) ?_
              have hall2 : ∀ r, 1 ≤ r → r < q + 1 → ∃ i, i + r < zs k ∧ c i ≠ c (i + r) := fun r hr1 hr2 => by
                rcases Nat.lt_or_ge r q with z | z
                · exact hall r hr1 z
                · rw [show r = q by omega]; exact ⟨i, by omega, h⟩
              have hjoin : AW M_mo_period noP (Zp ZZ) 0 0 104 [(0, .ref 6), (1, .int (nI k)), (2, .int (nI q)), (3, .int (nI 0)), (4, .int (nI (i + 1)))] [] [a0, a1, a2, a3, a4, a5, MO (nI 0) tc n fd R b le sz o be pc wt qu lm sl ce tb mt ru bf kp, a7] 0 0 := by
                refine aw_iload_n 2 D_mo_period_104 rfl rfl ?_
                refine aw_iload_n 3 D_mo_period_105 rfl rfl ?_
                refine aw_if_eqN D_mo_period_106 (by decide) (fun h => ?_) (fun h => absurd h (by decide))
                refine aw_iconst (nI 1) D_mo_period_113 rfl ?_
                first | with_reducible refine aw_iaddN D_mo_period_114 ?_ | refine aw_iadd D_mo_period_114 ?_
                refine aw_istore_n 2 D_mo_period_115 rfl (Nat.le_of_ble_eq_true rfl) rfl ?_
                refine aw_goto D_mo_period_116 ?_
                exact ih (q + 1) 0 [(4, .int (nI (i + 1)))] (by omega) (by omega) hall2 rfl (Or.inr ⟨_, rfl⟩)
              refine aw_icmp_geN D_mo_period_66 (by omega) (by omega) (fun h => hjoin) (fun h => ?_)
              refine aw_iload_n 3 D_mo_period_69 rfl rfl ?_
              refine aw_if_eqN D_mo_period_70 (by decide) (fun h => hjoin) (fun h => absurd h (by decide))
            · refine aw_iconst (nI 1) D_mo_period_92 rfl ?_
              refine aw_goto D_mo_period_93 ?_
              refine aw_istore_n 3 D_mo_period_97 rfl (Nat.le_of_ble_eq_true rfl) rfl ?_
              first | refine aw_incN D_mo_period_98 rfl (Nat.le_of_ble_eq_true rfl) rfl ?_ | refine aw_inc D_mo_period_98 rfl (Nat.le_of_ble_eq_true rfl) rfl ?_
              refine aw_goto D_mo_period_101 ?_
              refine ie (i + 1) (by omega) (fun j hj2 => ?_)
              rcases Nat.lt_or_ge j i with z | z
              · exact hj j z
              · rw [show j = i by omega]; exact h
        refine aw_iload_n 3 D_mo_period_47 rfl rfl ?_
        refine aw_if_neN D_mo_period_48 (by decide) (fun h => absurd h (by decide)) (fun h => ?_)
        refine aw_iconst (nI 1) D_mo_period_51 rfl ?_
        refine aw_istore_n 3 D_mo_period_52 rfl (Nat.le_of_ble_eq_true rfl) rfl ?_
        refine aw_iconst (nI 0) D_mo_period_53 rfl ?_
        refine aw_istore D_mo_period_54 (Nat.le_of_ble_eq_true rfl) rfl ?_
        exact inner (zs k - q) 0 (by omega) (fun j hj => absurd hj (by omega))
      rcases hL5 with rfl | ⟨x, rfl⟩
      · exact hfin
      · exact aw_take 4 hfin
  refine aw_aload_n 0 D_mo_period_0 rfl rfl ?_
  refine aw_iconst (nI 0) D_mo_period_1 rfl ?_
  refine aw_put tc_mo D_mo_period_2 rfl (Nat.le_of_ble_eq_true rfl) rfl rfl ?_
  refine aw_iload_n 1 D_mo_period_5 rfl rfl ?_
  refine aw_callS1 (As := [_]) D_mo_period_6 kv_mo_isSheet (c_mo_isSheetT hk) rfl rfl (Nat.le_of_ble_eq_true rfl) (Nat.zero_le _) (Nat.zero_le _) ?_
  refine aw_if_neN D_mo_period_9 (by decide) (fun h => ?_) (fun h => absurd h (by decide))
  refine aw_aload_n 0 D_mo_period_14 rfl rfl ?_
  refine aw_get D_mo_period_15 rfl rfl ?_
  refine aw_iload_n 1 D_mo_period_18 rfl rfl ?_
  refine aw_ialdN D_mo_period_19 rfl (by omega) (by omega) ?_
  refine aw_bipush (-nI 9) D_mo_period_20 rfl ?_
  refine aw_icmp_ne D_mo_period_22 (fun h => ?_) (fun h => absurd h (hL.ne hk hne))
  refine aw_aload_n 0 D_mo_period_31 rfl rfl ?_
  refine aw_get D_mo_period_32 rfl rfl ?_
  refine aw_iload_n 1 D_mo_period_35 rfl rfl ?_
  refine aw_ialdN D_mo_period_36 rfl (by omega) (by omega) ?_
  refine aw_if_neN D_mo_period_37 (by omega) (fun h => ?_) (fun h => absurd h (by omega))
  refine aw_iconst (nI 1) D_mo_period_43 rfl ?_
  refine aw_istore_n 2 D_mo_period_44 rfl (Nat.le_of_ble_eq_true rfl) rfl ?_
  refine aw_iconst (nI 0) D_mo_period_45 rfl ?_
  refine aw_istore_n 3 D_mo_period_46 rfl (Nat.le_of_ble_eq_true rfl) rfl ?_
  exact outer (zs k - 1) 1 0 [] (by omega) (by omega) (fun r h1 h2 => absurd h1 (by omega)) rfl (Or.inl rfl)
end Mo7
