/-! ### the least period of a row -/
def Bo (c : Nat → Nat) (f L : Nat) : Prop := f < L ∧ ∀ t, t < f → c t = c (L - f + t)
def MxB (c : Nat → Nat) (f L : Nat) : Prop := Bo c f L ∧ ∀ g, Bo c g L → g ≤ f
def IsPer (c : Nat → Nat) (sz p : Nat) : Prop := 1 ≤ p ∧ p ≤ sz ∧ (∀ i, i + p < sz → c i = c (i + p)) ∧ ∀ q, 1 ≤ q → q < p → ∃ i, i + q < sz ∧ c i ≠ c (i + q)
theorem IsPer.one {c : Nat → Nat} {sz p q : Nat} (h : IsPer c sz p) (h' : IsPer c sz q) : p = q := by
  obtain ⟨a1, a2, a3, a4⟩ := h
  obtain ⟨b1, b2, b3, b4⟩ := h'
  rcases Nat.lt_trichotomy p q with e | e | e
  · obtain ⟨i, i1, i2⟩ := b4 p a1 e
    exact absurd (a3 i i1) i2
  · exact e
  · obtain ⟨i, i1, i2⟩ := a4 q b1 e
    exact absurd (b3 i i1) i2
section Bord
variable {c : Nat → Nat}
theorem Bo.zero {L : Nat} (h : 0 < L) : Bo c 0 L := ⟨h, fun t ht => absurd ht (by omega)⟩
theorem Bo.trans {f g L : Nat} (h : Bo c f L) (h' : Bo c g f) : Bo c g L := by
  obtain ⟨a1, a2⟩ := h
  obtain ⟨b1, b2⟩ := h'
  refine ⟨by omega, fun t ht => ?_⟩
  rw [b2 t ht, a2 _ (by omega), show L - f + (f - g + t) = L - g + t by omega]
theorem Bo.down {f g L : Nat} (h : Bo c f L) (h' : Bo c g L) (hl : g < f) : Bo c g f := by
  obtain ⟨a1, a2⟩ := h
  obtain ⟨b1, b2⟩ := h'
  refine ⟨hl, fun t ht => ?_⟩
  rw [b2 t ht, a2 (f - g + t) (by omega), show L - f + (f - g + t) = L - g + t by omega]
theorem Bo.ext {f L : Nat} (h : Bo c f L) (e : c f = c L) : Bo c (f + 1) (L + 1) := by
  obtain ⟨a1, a2⟩ := h
  refine ⟨by omega, fun t ht => ?_⟩
  rw [show L + 1 - (f + 1) + t = L - f + t by omega]
  rcases Nat.lt_or_ge t f with q | q
  · exact a2 t q
  · rw [show t = f by omega, show L - f + f = L by omega]
    exact e
theorem Bo.pre {g L : Nat} (h : Bo c (g + 1) (L + 1)) : Bo c g L ∧ c g = c L := by
  obtain ⟨a1, a2⟩ := h
  refine ⟨⟨by omega, fun t ht => ?_⟩, ?_⟩
  · rw [a2 t (by omega), show L + 1 - (g + 1) + t = L - g + t by omega]
  · rw [a2 g (by omega), show L + 1 - (g + 1) + g = L by omega]
theorem MxB.per {f sz : Nat} (h : MxB c f sz) : IsPer c sz (sz - f) := by
  obtain ⟨⟨a1, a2⟩, a3⟩ := h
  refine ⟨by omega, by omega, fun i hi => ?_, fun q h1 h2 => ?_⟩
  · rw [a2 i (by omega), show sz - f + i = i + (sz - f) by omega]
  · apply Classical.byContradiction
    intro hno
    have : Bo c (sz - q) sz := ⟨by omega, fun t ht => Classical.byContradiction fun e => hno ⟨t, by omega, by rw [show t + q = sz - (sz - q) + t by omega]; exact e⟩⟩
    have := a3 _ this
    omega
/-- a longest end is found when the inner walk stops -/
theorem Bo.stop {f i : Nat} (hi : 0 < i) (h : Bo c f i) (hm : ∀ g, Bo c g i → c g = c i → g ≤ f) (hs : f = 0 ∨ c f = c i) : MxB c (if c f = c i then f + 1 else f) (i + 1) := by
  by_cases e : c f = c i
  · rw [if_pos e]
    refine ⟨h.ext e, fun g hg => ?_⟩
    rcases g with _ | g
    · omega
    · have := hm g hg.pre.1 hg.pre.2
      omega
  · rw [if_neg e]
    have h0 : f = 0 := hs.resolve_right e
    subst h0
    refine ⟨Bo.zero (by omega), fun g hg => ?_⟩
    rcases g with _ | g
    · omega
    · have := hm g hg.pre.1 hg.pre.2
      have : g = 0 := by omega
      subst this
      exact absurd hg.pre.2 e
end Bord
section Period
variable {mn rg ri tr mo dy : List va_E} {la : Nat → Int32} {zs : Nat → Nat} {cs : Nat → Nat → Int64} {mk : Nat} {ru ol re ms : Nat → Nat} {sp : Nat → Int32} {k : Nat}
theorem c_rr_period (hk : k < 4) (h1 : 1 ≤ zs k) (hz : zs k ≤ 600) : AMet M_rr_leastPeriod [.ref 5, .ref (4 + 32 * k)] [mn, rg, ri, tr, SH la zs cs, RR mk ru ol re ms sp, mo, dy]
    (fun r w' => ∃ (p : Nat) (ms' : Nat → Nat), r = some (.int (nI p)) ∧ IsPer (fun i => bt (cs k i)) (zs k) p ∧ w' = [mn, rg, ri, tr, SH la zs cs, RR mk ru ol re ms' sp, mo, dy]) 0 0 := by
  refine AMet.of [(0, .ref 5), (1, .ref (4 + 32 * k))] (by decide +kernel) rfl (Nat.le_of_ble_eq_true rfl) ?_
  generalize hZ : (fun (r : Option Value) (w' : Wd) => ∃ (p : Nat) (ms' : Nat → Nat), r = some (.int (nI p)) ∧ IsPer (fun i => bt (cs k i)) (zs k) p ∧ w' = [mn, rg, ri, tr, SH la zs cs, RR mk ru ol re ms' sp, mo, dy]) = ZZ
  generalize hc : (fun i => bt (cs k i)) = c at hZ
  have hci : ∀ i, bt (cs k i) = c i := fun i => congrFun hc i
  have hc2 : ∀ i, c i < 2 := fun i => by rw [← hci]; exact bt_lt _
  have outer : ∀ (d i f : Nat) (m : Nat → Nat) (L5 : List (Nat × Value)), (L5 = [] ∨ ∃ x y, L5 = [(4, Value.int (nI x)), (5, Value.int (nI y))]) → i + d = zs k → 1 ≤ i → MxB c f i → (∀ j, j < i → MxB c (m j) (j + 1)) → AW M_rr_leastPeriod noP (Zp ZZ) 0 0 11 ([(0, .ref 5), (1, .ref (4 + 32 * k)), (2, .int (nI f)), (3, .int (nI i))] ++ L5) [] [mn, rg, ri, tr, SH la zs cs, RR mk ru ol re m sp, mo, dy] 0 0 := by
    intro d
    induction d with
    | zero =>
      intro i f m L5 hL hi h1i hf hm
      have hfl := hf.1.1
      have hfin : AW M_rr_leastPeriod noP (Zp ZZ) 0 0 11 [(0, .ref 5), (1, .ref (4 + 32 * k)), (2, .int (nI f)), (3, .int (nI i))] [] [mn, rg, ri, tr, SH la zs cs, RR mk ru ol re m sp, mo, dy] 0 0 := by
        refine aw_iload_n 3 D_rr_leastPeriod_11 rfl rfl ?_
        refine aw_aload_n 1 D_rr_leastPeriod_12 rfl rfl ?_
        refine aw_get D_rr_leastPeriod_13 (sh_obj hk) rfl ?_
        refine aw_icmp_geN D_rr_leastPeriod_16 (by omega) (by omega) (fun h => ?_) (fun h => absurd h (by omega))
        refine aw_aload_n 1 D_rr_leastPeriod_90 rfl rfl ?_
        refine aw_get D_rr_leastPeriod_91 (sh_obj hk) rfl ?_
        refine aw_iload_n 2 D_rr_leastPeriod_94 rfl rfl ?_
        first | with_reducible refine aw_isubN D_rr_leastPeriod_95 (by omega) ?_ | refine aw_isub D_rr_leastPeriod_95 ?_
        refine aw_ireturn D_rr_leastPeriod_96 rfl rfl ?_
        subst hZ; exact ⟨_, m, rfl, (show i = zs k by omega) ▸ hf.per, rfl⟩
      rcases hL with rfl | ⟨x, y, rfl⟩
      · exact hfin
      · exact aw_take 4 hfin
    | succ d ih =>
      intro i f m L5 hL hi h1i hf hm
      have inner : ∀ (e t g : Nat), t + g < i → g ≤ e → Bo c g i → (∀ q, Bo c q i → c q = c i → q ≤ g) → AW M_rr_leastPeriod noP (Zp ZZ) 0 0 29 [(0, .ref 5), (1, .ref (4 + 32 * k)), (2, .int (nI g)), (3, .int (nI i)), (4, .int (nI (c i))), (5, .int (nI t))] [] [mn, rg, ri, tr, SH la zs cs, RR mk ru ol re m sp, mo, dy] 0 0 := by
        intro e
        have stop : ∀ (t g : Nat), t + g < i → Bo c g i → (∀ q, Bo c q i → c q = c i → q ≤ g) → (g = 0 ∨ c g = c i) → AW M_rr_leastPeriod noP (Zp ZZ) 0 0 64 [(0, .ref 5), (1, .ref (4 + 32 * k)), (2, .int (nI g)), (3, .int (nI i)), (4, .int (nI (c i))), (5, .int (nI t))] [] [mn, rg, ri, tr, SH la zs cs, RR mk ru ol re m sp, mo, dy] 0 0 := by
          intro t g ht hg hq hs
          have hx := hg.stop (by omega) hq hs
          have h2i := hc2 i
          have h2g := hc2 g
          have hnext : ∀ f', MxB c f' (i + 1) → AW M_rr_leastPeriod noP (Zp ZZ) 0 0 77 [(0, .ref 5), (1, .ref (4 + 32 * k)), (2, .int (nI f')), (3, .int (nI i)), (4, .int (nI (c i))), (5, .int (nI t))] [] [mn, rg, ri, tr, SH la zs cs, RR mk ru ol re m sp, mo, dy] 0 0 := by
            intro f' hf'
            refine aw_aload_n 0 D_rr_leastPeriod_77 rfl rfl ?_
            refine aw_get D_rr_leastPeriod_78 rfl rfl ?_
            refine aw_iload_n 3 D_rr_leastPeriod_81 rfl rfl ?_
            refine aw_iload_n 2 D_rr_leastPeriod_82 rfl rfl ?_
            refine aw_iastN D_rr_leastPeriod_83 rfl (by omega) (by omega) ?_
            first | refine aw_incN D_rr_leastPeriod_84 rfl (Nat.le_of_ble_eq_true rfl) rfl ?_ | refine aw_inc D_rr_leastPeriod_84 rfl (Nat.le_of_ble_eq_true rfl) rfl ?_
            refine aw_goto D_rr_leastPeriod_87 ?_
            refine ih (i + 1) f' (va_up m i f') [(4, .int (nI (c i))), (5, .int (nI t))] (Or.inr ⟨_, _, rfl⟩) (by omega) (by omega) hf' (fun j hj => ?_)
            unfold va_up
            by_cases q : j = i
            · rw [if_pos q, q]; exact hf'
            · rw [if_neg q]; exact hm j (by omega)
          refine aw_aload_n 1 D_rr_leastPeriod_64 rfl rfl ?_
          refine aw_iload_n 2 D_rr_leastPeriod_65 rfl rfl ?_
          refine aw_callV1 (As := [_]) D_rr_leastPeriod_66 kv_sh_bitAt (c_sh_bit (i := g) (by omega) (sh_obj hk) (sh_cel hk)) rfl rfl (sh_obj hk) rfl rfl (Nat.le_of_ble_eq_true rfl) (Nat.zero_le _) (Nat.zero_le _) ?_
          rw [hci]
          refine aw_iload D_rr_leastPeriod_69 rfl ?_
          refine aw_icmp_neN D_rr_leastPeriod_71 (by omega) (by omega) (fun h => ?_) (fun h => ?_)
          · rw [if_neg h] at hx
            exact hnext _ hx
          · rw [if_pos h] at hx
            first | refine aw_incN D_rr_leastPeriod_74 rfl (Nat.le_of_ble_eq_true rfl) rfl ?_ | refine aw_inc D_rr_leastPeriod_74 rfl (Nat.le_of_ble_eq_true rfl) rfl ?_
            exact hnext _ hx
        induction e with
        | zero =>
          intro t g ht he hg hq
          refine aw_iload D_rr_leastPeriod_29 rfl ?_
          refine aw_iload_n 3 D_rr_leastPeriod_31 rfl rfl ?_
          refine aw_icmp_geN D_rr_leastPeriod_32 (by omega) (by omega) (fun h => absurd h (by omega)) (fun h => ?_)
          refine aw_iload_n 2 D_rr_leastPeriod_35 rfl rfl ?_
          refine aw_if_leN D_rr_leastPeriod_36 (by omega) (fun h => ?_) (fun h => absurd h (by omega))
          exact stop t g ht hg hq (Or.inl h)
        | succ e ie =>
          intro t g ht he hg hq
          have h2i := hc2 i
          have h2g := hc2 g
          refine aw_iload D_rr_leastPeriod_29 rfl ?_
          refine aw_iload_n 3 D_rr_leastPeriod_31 rfl rfl ?_
          refine aw_icmp_geN D_rr_leastPeriod_32 (by omega) (by omega) (fun h => absurd h (by omega)) (fun h => ?_)
          refine aw_iload_n 2 D_rr_leastPeriod_35 rfl rfl ?_
          refine aw_if_leN D_rr_leastPeriod_36 (by omega) (fun h => ?_) (fun h0 => ?_)
          · exact stop t g ht hg hq (Or.inl h)
          · refine aw_aload_n 1 D_rr_leastPeriod_39 rfl rfl ?_
            refine aw_iload_n 2 D_rr_leastPeriod_40 rfl rfl ?_
            refine aw_callV1 (As := [_]) D_rr_leastPeriod_41 kv_sh_bitAt (c_sh_bit (i := g) (by omega) (sh_obj hk) (sh_cel hk)) rfl rfl (sh_obj hk) rfl rfl (Nat.le_of_ble_eq_true rfl) (Nat.zero_le _) (Nat.zero_le _) ?_
            rw [hci]
            refine aw_iload D_rr_leastPeriod_44 rfl ?_
            refine aw_icmp_eqN D_rr_leastPeriod_46 (by omega) (by omega) (fun h => ?_) (fun h2 => ?_)
            · exact stop t g ht hg hq (Or.inr h)
            · have hmx := hm (g - 1) (by omega)
              rw [show g - 1 + 1 = g by omega] at hmx
              have hml := hmx.1.1
              refine aw_aload_n 0 D_rr_leastPeriod_49 rfl rfl ?_
              refine aw_get D_rr_leastPeriod_50 rfl rfl ?_
              refine aw_iload_n 2 D_rr_leastPeriod_53 rfl rfl ?_
              refine aw_iconst (nI 1) D_rr_leastPeriod_54 rfl ?_
              first | with_reducible refine aw_isubN D_rr_leastPeriod_55 (by omega) ?_ | refine aw_isub D_rr_leastPeriod_55 ?_
              refine aw_ialdN D_rr_leastPeriod_56 rfl (by omega) (by omega) ?_
              refine aw_istore_n 2 D_rr_leastPeriod_57 rfl (Nat.le_of_ble_eq_true rfl) rfl ?_
              first | refine aw_incN D_rr_leastPeriod_58 rfl (Nat.le_of_ble_eq_true rfl) rfl ?_ | refine aw_inc D_rr_leastPeriod_58 rfl (Nat.le_of_ble_eq_true rfl) rfl ?_
              refine aw_goto D_rr_leastPeriod_61 ?_
              refine ie (t + 1) (m (g - 1)) (by omega) (by omega) (hg.trans hmx.1) (fun q q1 q2 => ?_)
              have := hq q q1 q2
              exact hmx.2 q (hg.down q1 (by rcases Nat.lt_or_ge q g with z | z; exact z; exact absurd ((show q = g by omega) ▸ q2) h2))
      have hfl := hf.1.1
      have hgo : ∀ L5 : List (Nat × Value), (L5 = [] ∨ ∃ x y, L5 = [(4, Value.int (nI x)), (5, Value.int (nI y))]) → AW M_rr_leastPeriod noP (Zp ZZ) 0 0 11 ([(0, .ref 5), (1, .ref (4 + 32 * k)), (2, .int (nI f)), (3, .int (nI i))] ++ L5) [] [mn, rg, ri, tr, SH la zs cs, RR mk ru ol re m sp, mo, dy] 0 0 := by
        intro L5 hL
        have hfin : AW M_rr_leastPeriod noP (Zp ZZ) 0 0 11 [(0, .ref 5), (1, .ref (4 + 32 * k)), (2, .int (nI f)), (3, .int (nI i))] [] [mn, rg, ri, tr, SH la zs cs, RR mk ru ol re m sp, mo, dy] 0 0 := by
          refine aw_iload_n 3 D_rr_leastPeriod_11 rfl rfl ?_
          refine aw_aload_n 1 D_rr_leastPeriod_12 rfl rfl ?_
          refine aw_get D_rr_leastPeriod_13 (sh_obj hk) rfl ?_
          refine aw_icmp_geN D_rr_leastPeriod_16 (by omega) (by omega) (fun h => absurd h (by omega)) (fun h => ?_)
          refine aw_aload_n 1 D_rr_leastPeriod_19 rfl rfl ?_
          refine aw_iload_n 3 D_rr_leastPeriod_20 rfl rfl ?_
          refine aw_callV1 (As := [_]) D_rr_leastPeriod_21 kv_sh_bitAt (c_sh_bit (i := i) (by omega) (sh_obj hk) (sh_cel hk)) rfl rfl (sh_obj hk) rfl rfl (Nat.le_of_ble_eq_true rfl) (Nat.zero_le _) (Nat.zero_le _) ?_
          rw [hci]
          refine aw_istore D_rr_leastPeriod_24 (Nat.le_of_ble_eq_true rfl) rfl ?_
          refine aw_iconst (nI 0) D_rr_leastPeriod_26 rfl ?_
          refine aw_istore D_rr_leastPeriod_27 (Nat.le_of_ble_eq_true rfl) rfl ?_
          exact inner f 0 f (by omega) (Nat.le_refl _) hf.1 (fun q q1 _ => hf.2 q q1)
        rcases hL with rfl | ⟨x, y, rfl⟩
        · exact hfin
        · exact aw_take 4 hfin
      exact hgo L5 hL
  have h0 : MxB c 0 1 := ⟨Bo.zero (by omega), fun g hg => by have := hg.1; omega⟩
  refine aw_iconst (nI 0) D_rr_leastPeriod_0 rfl ?_
  refine aw_istore_n 2 D_rr_leastPeriod_1 rfl (Nat.le_of_ble_eq_true rfl) rfl ?_
  refine aw_aload_n 0 D_rr_leastPeriod_2 rfl rfl ?_
  refine aw_get D_rr_leastPeriod_3 rfl rfl ?_
  refine aw_iconst (nI 0) D_rr_leastPeriod_6 rfl ?_
  refine aw_iconst (nI 0) D_rr_leastPeriod_7 rfl ?_
  refine aw_iastN D_rr_leastPeriod_8 rfl (by omega) (by omega) ?_
  refine aw_iconst (nI 1) D_rr_leastPeriod_9 rfl ?_
  refine aw_istore_n 3 D_rr_leastPeriod_10 rfl (Nat.le_of_ble_eq_true rfl) rfl ?_
  exact outer (zs k - 1) 1 0 (va_up ms 0 0) [] (Or.inl rfl) (by omega) (by omega) h0 (fun j hj => by rw [show j = 0 by omega, up_self]; exact h0)
end Period
