/-! ### the greatest order of a row: marks -/
def eqR (c : Nat → Nat) (m i j : Nat) : Prop := ∀ t, t < m → c (i + t) = c (j + t)
def Dv (c : Nat → Nat) (n m : Nat) : Prop := ∃ i j, i < j ∧ j + m < n ∧ eqR c m i j ∧ c (i + m) ≠ c (j + m)
def IsGr (c : Nat → Nat) (n g : Nat) : Prop := (∀ m, m < g → Dv c n m) ∧ ¬ Dv c n g
theorem IsGr.one {c : Nat → Nat} {n g g' : Nat} (h : IsGr c n g) (h' : IsGr c n g') : g = g' := by
  rcases Nat.lt_trichotomy g g' with e | e | e
  · exact absurd (h'.1 g e) h.2
  · exact e
  · exact absurd (h.1 g' e) h'.2
theorem Dv.lt {c : Nat → Nat} {n m : Nat} (h : Dv c n m) : m + 1 < n := by
  obtain ⟨i, j, h1, h2, _⟩ := h
  omega
theorem IsGr.le {c : Nat → Nat} {n g : Nat} (h : IsGr c n g) : g ≤ n := by
  rcases g with _ | g
  · omega
  · have := (h.1 g (by omega)).lt
    omega
theorem eqR_succ {c : Nat → Nat} {m i j : Nat} : eqR c (m + 1) i j ↔ eqR c m i j ∧ c (i + m) = c (j + m) := by
  constructor
  · exact fun h => ⟨fun t ht => h t (by omega), h m (by omega)⟩
  · intro h t ht
    rcases Nat.lt_or_ge t m with q | q
    · exact h.1 t q
    · rw [show t = m by omega]; exact h.2
def MKI (c : Nat → Nat) (n m : Nat) (ms : Nat → Nat) (mk : Nat) : Prop := (∀ i j, i + m < n → j + m < n → (ms i = ms j ↔ eqR c m i j)) ∧ (∀ i, i + m < n → ms i < mk) ∧ mk ≤ 600
theorem xor1 {a x : Nat} (hx : x < 2) : (2 * a + x) ^^^ 1 = 2 * a + (1 - x) := by
  have h1 : ((2 * a + x) ^^^ 1) / 2 = a := by
    rw [Nat.xor_div_two, show (2 * a + x) / 2 = a by omega, show 1 / 2 = 0 from rfl, Nat.xor_zero]
  have h2 : ((2 * a + x) ^^^ 1) % 2 = 1 - x := by
    have := @Nat.xor_mod_two_pow (2 * a + x) 1 1
    rw [show (2 ^ 1 : Nat) = 2 from rfl, show (2 * a + x) % 2 = x by omega] at this
    rw [this]
    rcases (show x = 0 ∨ x = 1 by omega) with rfl | rfl <;> rfl
  omega
def SI (c : Nat → Nat) (m : Nat) (ms : Nat → Nat) (mk i : Nat) (mc : Nat → Nat) (o : Nat → Option Nat) (fr ul : Nat) : Prop :=
  (∀ j, i ≤ j → mc j = ms j) ∧ (∀ q v, q < 2 * mk → o q = some v → v < fr ∧ ∃ j, j < i ∧ 2 * ms j + c (j + m) = q) ∧ (∀ q q' v, q < 2 * mk → q' < 2 * mk → o q = some v → o q' = some v → q = q') ∧ (∀ j, j < i → o (2 * ms j + c (j + m)) = some (mc j)) ∧ fr ≤ i ∧ ul ≤ 1 ∧ (ul = 1 ↔ ∃ j j', j < i ∧ j' < i ∧ ms j = ms j' ∧ c (j + m) ≠ c (j' + m))
section Marks
variable {c ms mc : Nat → Nat} {n m mk i fr ul : Nat} {o : Nat → Option Nat}
theorem SI.zero : SI c m ms mk 0 ms (fun _ => none) 0 0 := ⟨fun _ _ => rfl, (fun q v _ h => by cases h), (fun q q' v _ _ h => by cases h), fun j hj => absurd hj (by omega), by omega, by omega, ⟨fun h => absurd h (by omega), fun ⟨j, j', h, _⟩ => absurd h (by omega)⟩⟩
theorem SI.old (hc : ∀ i, c i < 2) (h : SI c m ms mk i mc o fr ul) {v : Nat} (hm : ms i < mk) (hv : o (2 * ms i + c (i + m)) = some v) : SI c m ms mk (i + 1) (va_up mc i v) o fr ul := by
  obtain ⟨h1, h2, h3, h4, h5, h6, h7⟩ := h
  have hci := hc (i + m)
  refine ⟨fun j hj => by rw [up_ne _ _ (by omega)]; exact h1 j (by omega), fun q v hq hv => ?_, h3, fun j hj => ?_, by omega, h6, ?_⟩
  · obtain ⟨a, j, b1, b2⟩ := h2 q v hq hv
    exact ⟨a, j, by omega, b2⟩
  · by_cases q : j = i
    · rw [q, up_self]; exact hv
    · rw [up_ne _ _ q]; exact h4 j (by omega)
  · rw [h7]
    obtain ⟨_, j0, hj0, e0⟩ := h2 _ v (by omega) hv
    have hc0 := hc (j0 + m)
    have e1 : ms j0 = ms i := by omega
    have e2 : c (j0 + m) = c (i + m) := by omega
    constructor
    · rintro ⟨j, j', a1, a2, a3, a4⟩
      exact ⟨j, j', by omega, by omega, a3, a4⟩
    · rintro ⟨j, j', a1, a2, a3, a4⟩
      by_cases q : j = i
      · by_cases q' : j' = i
        · rw [q, q'] at a4; exact absurd rfl a4
        · exact ⟨j0, j', hj0, by omega, by rw [e1, ← q]; exact a3, by rw [e2, ← q]; exact a4⟩
      · by_cases q' : j' = i
        · exact ⟨j, j0, by omega, hj0, by rw [e1, ← q']; exact a3, by rw [e2, ← q']; exact a4⟩
        · exact ⟨j, j', by omega, by omega, a3, a4⟩
theorem SI.new (hc : ∀ i, c i < 2) (h : SI c m ms mk i mc o fr ul) (hm : ∀ j, j ≤ i → ms j < mk) (hv : o (2 * ms i + c (i + m)) = none) : SI c m ms mk (i + 1) (va_up mc i fr) (va_up o (2 * ms i + c (i + m)) (some fr)) (fr + 1) (if ul = 1 ∨ o (2 * ms i + (1 - c (i + m))) ≠ none then 1 else 0) := by
  obtain ⟨h1, h2, h3, h4, h5, h6, h7⟩ := h
  have hci := hc (i + m)
  have hmi := hm i (Nat.le_refl _)
  have hnk : ∀ j, j < i → 2 * ms j + c (j + m) ≠ 2 * ms i + c (i + m) := fun j hj e => by
    have := h4 j hj
    rw [e, hv] at this
    cases this
  refine ⟨fun j hj => by rw [up_ne _ _ (by omega)]; exact h1 j (by omega), fun q v hq hv => ?_, fun q q' v a1 a2 a3 a4 => ?_, fun j hj => ?_, by omega, by split <;> omega, ?_⟩
  · unfold va_up at hv
    by_cases e : q = 2 * ms i + c (i + m)
    · rw [if_pos e] at hv
      cases hv
      exact ⟨by omega, i, by omega, e.symm⟩
    · rw [if_neg e] at hv
      obtain ⟨a, j, b1, b2⟩ := h2 q v hq hv
      exact ⟨by omega, j, by omega, b2⟩
  · unfold va_up at a3 a4
    by_cases e : q = 2 * ms i + c (i + m)
    · by_cases e' : q' = 2 * ms i + c (i + m)
      · omega
      · rw [if_pos e] at a3
        rw [if_neg e'] at a4
        cases a3
        have := (h2 q' _ a2 a4).1
        omega
    · by_cases e' : q' = 2 * ms i + c (i + m)
      · rw [if_neg e] at a3
        rw [if_pos e'] at a4
        cases a4
        have := (h2 q _ a1 a3).1
        omega
      · rw [if_neg e] at a3
        rw [if_neg e'] at a4
        exact h3 q q' v a1 a2 a3 a4
  · by_cases q : j = i
    · rw [q, up_self, up_self]
    · rw [up_ne _ _ q, up_ne _ _ (hnk j (by omega))]
      exact h4 j (by omega)
  · have key : o (2 * ms i + (1 - c (i + m))) ≠ none ↔ ∃ j, j < i ∧ ms j = ms i ∧ c (j + m) ≠ c (i + m) := by
      constructor
      · intro e
        obtain ⟨v, hv⟩ := Option.ne_none_iff_exists'.mp e
        obtain ⟨_, j, b1, b2⟩ := h2 _ v (by omega) hv
        have := hc (j + m)
        exact ⟨j, b1, by omega, by omega⟩
      · rintro ⟨j, b1, b2, b3⟩ e
        have h9 := h4 j b1
        have := hc (j + m)
        rw [show 2 * ms j + c (j + m) = 2 * ms i + (1 - c (i + m)) by omega, e] at h9
        cases h9
    constructor
    · intro e
      have e2 : ul = 1 ∨ o (2 * ms i + (1 - c (i + m))) ≠ none := by
        apply Classical.byContradiction
        intro z
        rw [if_neg z] at e
        omega
      rcases e2 with z | z
      · obtain ⟨j, j', a1, a2, a3, a4⟩ := h7.mp z
        exact ⟨j, j', by omega, by omega, a3, a4⟩
      · obtain ⟨j, b1, b2, b3⟩ := key.mp z
        exact ⟨j, i, by omega, by omega, b2, b3⟩
    · rintro ⟨j, j', a1, a2, a3, a4⟩
      refine if_pos ?_
      by_cases q : j = i
      · by_cases q' : j' = i
        · rw [q, q'] at a4; exact absurd rfl a4
        · exact Or.inr (key.mpr ⟨j', by omega, by rw [← q]; exact a3.symm, by rw [← q]; exact fun z => a4 z.symm⟩)
      · by_cases q' : j' = i
        · exact Or.inr (key.mpr ⟨j, by omega, by rw [← q']; exact a3, by rw [← q']; exact a4⟩)
        · exact Or.inl (h7.mpr ⟨j, j', by omega, by omega, a3, a4⟩)
theorem SI.last (hc : ∀ i, c i < 2) (hn : n ≤ 600) (hmn : m < n) (hM : MKI c n m ms mk) (h : SI c m ms mk (n - m) mc o fr ul) : MKI c n (m + 1) mc fr ∧ (ul = 1 ↔ Dv c n m) := by
  obtain ⟨h1, h2, h3, h4, h5, h6, h7⟩ := h
  obtain ⟨m1, m2, m3⟩ := hM
  refine ⟨⟨fun i j hi hj => ?_, fun i hi => ?_, by omega⟩, ?_⟩
  · rw [eqR_succ, ← m1 i j (by omega) (by omega)]
    have a := h4 i (by omega)
    have b := h4 j (by omega)
    have hi2 := m2 i (by omega)
    have hj2 := m2 j (by omega)
    have c1 := hc (i + m)
    have c2 := hc (j + m)
    constructor
    · intro e
      rw [e] at a
      have := h3 _ _ _ (by omega) (by omega) a b
      exact ⟨by omega, by omega⟩
    · rintro ⟨e1, e2⟩
      rw [e1, e2, b] at a
      exact (Option.some.inj a).symm
  · have hi2 := m2 i (by omega)
    have c1 := hc (i + m)
    exact (h2 _ _ (by omega) (h4 i (by omega))).1
  · rw [h7]
    clear h7
    constructor
    · rintro ⟨j, j', a1, a2, a3, a4⟩
      rw [m1 j j' (by omega) (by omega)] at a3
      rcases Nat.lt_trichotomy j j' with q | q | q
      · exact ⟨j, j', q, by omega, a3, a4⟩
      · rw [q] at a4; exact absurd rfl a4
      · exact ⟨j', j, q, by omega, fun t ht => (a3 t ht).symm, fun z => a4 z.symm⟩
    · rintro ⟨i, j, a1, a2, a3, a4⟩
      exact ⟨i, j, by omega, by omega, (m1 i j (by omega) (by omega)).mpr a3, a4⟩
end Marks
theorem nar_bit {u : Nat} (h : u ≤ 1) : narrow .boolean (.int (nI u)) = .int (nI u) := by
  rcases (show u = 0 ∨ u = 1 by omega) with q | q <;> rw [q] <;> rfl
section Great
variable {mn rg ri tr mo dy : List va_E} {la : Nat → Int32} {zs : Nat → Nat} {cs : Nat → Nat → Int64} {mk : Nat} {ru ol re ms : Nat → Nat} {sp : Nat → Int32} {k n m : Nat}
theorem c_rr_split (hk : k < 4) (hn : n ≤ 600) (hmn : m < n) (hM : MKI (fun i => bt (cs k i)) n m ms mk) : AMet M_rr_splitMarks [.ref 5, .ref (4 + 32 * k), .int (nI n), .int (nI m)] [mn, rg, ri, tr, SH la zs cs, RR mk ru ol re ms sp, mo, dy]
    (fun r w' => ∃ (ul mk' : Nat) (ms' : Nat → Nat) (sp' : Nat → Int32), r = some (.int (nI ul)) ∧ ul ≤ 1 ∧ (ul = 1 ↔ Dv (fun i => bt (cs k i)) n m) ∧ MKI (fun i => bt (cs k i)) n (m + 1) ms' mk' ∧ w' = [mn, rg, ri, tr, SH la zs cs, RR mk' ru ol re ms' sp', mo, dy]) 0 0 := by
  refine AMet.of [(0, .ref 5), (1, .ref (4 + 32 * k)), (2, .int (nI n)), (3, .int (nI m))] (by decide +kernel) rfl (Nat.le_of_ble_eq_true rfl) ?_
  generalize hZ : (fun (r : Option Value) (w' : Wd) => ∃ (ul mk' : Nat) (ms' : Nat → Nat) (sp' : Nat → Int32), r = some (.int (nI ul)) ∧ ul ≤ 1 ∧ (ul = 1 ↔ Dv (fun i => bt (cs k i)) n m) ∧ MKI (fun i => bt (cs k i)) n (m + 1) ms' mk' ∧ w' = [mn, rg, ri, tr, SH la zs cs, RR mk' ru ol re ms' sp', mo, dy]) = ZZ
  generalize hc : (fun i => bt (cs k i)) = c at hZ hM
  have hci : ∀ i, bt (cs k i) = c i := fun i => congrFun hc i
  have hc2 : ∀ i, c i < 2 := fun i => by rw [← hci]; exact bt_lt _
  have hmk := hM.2.2
  have key : ∀ (d i fr ul : Nat) (mc : Nat → Nat) (o : Nat → Option Nat) (s : Nat → Int32), i + d = n - m → (∀ q, q < 2 * mk → s q = oI (-nI 1) (o q)) → SI c m ms mk i mc o fr ul → AW M_rr_splitMarks noP (Zp ZZ) 0 0 24 [(0, .ref 5), (1, .ref (4 + 32 * k)), (2, .int (nI n)), (3, .int (nI m)), (4, .int (nI ul)), (5, .int (nI fr)), (6, .int (nI i))] [] [mn, rg, ri, tr, SH la zs cs, RR mk ru ol re mc s, mo, dy] 0 0 := by
    intro d
    induction d with
    | zero =>
      intro i fr ul mc o s hi hs hI
      rw [show i = n - m by omega] at hI ⊢
      obtain ⟨hl1, hl2⟩ := hI.last hc2 hn hmn hM
      have hul := hI.2.2.2.2.2.1
      refine aw_iload D_rr_splitMarks_24 rfl ?_
      refine aw_iload_n 3 D_rr_splitMarks_26 rfl rfl ?_
      first | with_reducible refine aw_iaddN D_rr_splitMarks_27 ?_ | refine aw_iadd D_rr_splitMarks_27 ?_
      refine aw_iload_n 2 D_rr_splitMarks_28 rfl rfl ?_
      refine aw_icmp_geN D_rr_splitMarks_29 (by omega) (by omega) (fun h => ?_) (fun h => absurd h (by omega))
      refine aw_aload_n 0 D_rr_splitMarks_120 rfl rfl ?_
      refine aw_iload D_rr_splitMarks_121 rfl ?_
      refine aw_put tc_rr D_rr_splitMarks_123 rfl (Nat.le_of_ble_eq_true rfl) rfl rfl ?_
      refine aw_iload D_rr_splitMarks_126 rfl ?_
      refine aw_ireturn D_rr_splitMarks_128 rfl (nar_bit hul) ?_
      subst hZ; exact ⟨ul, fr, mc, s, rfl, hul, hl2, hl1, rfl⟩
    | succ d ih =>
      intro i fr ul mc o s hi hs hI
      have hmi := hM.2.1 i (by omega)
      have hci2 := hc2 (i + m)
      have hul := hI.2.2.2.2.2.1
      have hmc := hI.1 i (Nat.le_refl _)
      have hfr : ∀ q, q < 2 * mk → ∀ r, o q = some r → r < 2 ^ 31 := fun q hq r hr => by
        have := (hI.2.1 q r hq hr).1
        have := hI.2.2.2.2.1
        omega
      refine aw_iload D_rr_splitMarks_24 rfl ?_
      refine aw_iload_n 3 D_rr_splitMarks_26 rfl rfl ?_
      first | with_reducible refine aw_iaddN D_rr_splitMarks_27 ?_ | refine aw_iadd D_rr_splitMarks_27 ?_
      refine aw_iload_n 2 D_rr_splitMarks_28 rfl rfl ?_
      refine aw_icmp_geN D_rr_splitMarks_29 (by omega) (by omega) (fun h => absurd h (by omega)) (fun h => ?_)
      refine aw_iconst (nI 2) D_rr_splitMarks_32 rfl ?_
      refine aw_aload_n 0 D_rr_splitMarks_33 rfl rfl ?_
      refine aw_get D_rr_splitMarks_34 rfl rfl ?_
      refine aw_iload D_rr_splitMarks_37 rfl ?_
      refine aw_ialdN D_rr_splitMarks_39 rfl (by omega) (by omega) ?_
      first | with_reducible refine aw_imulN D_rr_splitMarks_40 ?_ | refine aw_imul D_rr_splitMarks_40 ?_
      refine aw_aload_n 1 D_rr_splitMarks_41 rfl rfl ?_
      refine aw_iload D_rr_splitMarks_42 rfl ?_
      refine aw_iload_n 3 D_rr_splitMarks_44 rfl rfl ?_
      first | with_reducible refine aw_iaddN D_rr_splitMarks_45 ?_ | refine aw_iadd D_rr_splitMarks_45 ?_
      refine aw_callV1 (As := [_]) D_rr_splitMarks_46 kv_sh_bitAt (c_sh_bit (i := i + m) (by omega) (sh_obj hk) (sh_cel hk)) rfl rfl (sh_obj hk) rfl rfl (Nat.le_of_ble_eq_true rfl) (Nat.zero_le _) (Nat.zero_le _) ?_
      rw [hci, hmc]
      first | with_reducible refine aw_iaddN D_rr_splitMarks_49 ?_ | refine aw_iadd D_rr_splitMarks_49 ?_
      refine aw_istore D_rr_splitMarks_50 (Nat.le_of_ble_eq_true rfl) rfl ?_
      refine aw_aload_n 0 D_rr_splitMarks_52 rfl rfl ?_
      refine aw_get D_rr_splitMarks_53 rfl rfl ?_
      refine aw_iload D_rr_splitMarks_56 rfl ?_
      refine aw_ialdN D_rr_splitMarks_58 rfl (by omega) (by omega) ?_
      refine aw_iconst (-nI 1) D_rr_splitMarks_59 rfl ?_
      have hq : 2 * ms i + c (i + m) < 2 * mk := by omega
      have hfinish : ∀ (fr' ul' v : Nat) (o' : Nat → Option Nat) (s' : Nat → Int32), (∀ q, q < 2 * mk → s' q = oI (-nI 1) (o' q)) → o' (2 * ms i + c (i + m)) = some v → SI c m ms mk (i + 1) (va_up mc i v) o' fr' ul' → AW M_rr_splitMarks noP (Zp ZZ) 0 0 100 [(0, .ref 5), (1, .ref (4 + 32 * k)), (2, .int (nI n)), (3, .int (nI m)), (4, .int (nI ul')), (5, .int (nI fr')), (6, .int (nI i)), (7, .int (nI (2 * ms i + c (i + m))))] [] [mn, rg, ri, tr, SH la zs cs, RR mk ru ol re mc s', mo, dy] 0 0 := by
        intro fr' ul' v o' s' hs' ho' hI'
        refine aw_aload_n 0 D_rr_splitMarks_100 rfl rfl ?_
        refine aw_get D_rr_splitMarks_101 rfl rfl ?_
        refine aw_iload D_rr_splitMarks_104 rfl ?_
        refine aw_aload_n 0 D_rr_splitMarks_106 rfl rfl ?_
        refine aw_get D_rr_splitMarks_107 rfl rfl ?_
        refine aw_iload D_rr_splitMarks_110 rfl ?_
        refine aw_ialdN D_rr_splitMarks_112 rfl (by omega) (by omega) ?_
        rw [hs' _ hq, ho']
        show AW M_rr_splitMarks noP (Zp ZZ) 0 0 113 _ [.int (nI v), .int (nI i), .ref 69] _ _ _
        refine aw_iastN D_rr_splitMarks_113 rfl (by omega) (by omega) ?_
        first | refine aw_incN D_rr_splitMarks_114 rfl (Nat.le_of_ble_eq_true rfl) rfl ?_ | refine aw_inc D_rr_splitMarks_114 rfl (Nat.le_of_ble_eq_true rfl) rfl ?_
        refine aw_goto D_rr_splitMarks_117 ?_
        refine aw_take 7 ?_
        exact ih (i + 1) fr' ul' (va_up mc i v) o' s' (by omega) hs' hI'
      rw [hs _ hq]
      refine aw_icmp_ne D_rr_splitMarks_60 (fun h2 => ?_) (fun h2 => ?_)
      · rw [oI_m1 (hfr _ hq)] at h2
        obtain ⟨v, hv⟩ := Option.ne_none_iff_exists'.mp h2
        exact hfinish fr ul v o s hs hv (hI.old hc2 hmi hv)
      · rw [oI_m1 (hfr _ hq)] at h2
        have hnew := hI.new hc2 (fun j hj => hM.2.1 j (by omega)) h2
        have hs2 : ∀ q, q < 2 * mk → va_up s (2 * ms i + c (i + m)) (nI fr) q = oI (-nI 1) (va_up o (2 * ms i + c (i + m)) (some fr) q) := fun q hq => by
          unfold va_up
          by_cases e : q = 2 * ms i + c (i + m)
          · rw [if_pos e, if_pos e]; rfl
          · rw [if_neg e, if_neg e]; exact hs q hq
        refine aw_aload_n 0 D_rr_splitMarks_63 rfl rfl ?_
        refine aw_get D_rr_splitMarks_64 rfl rfl ?_
        refine aw_iload D_rr_splitMarks_67 rfl ?_
        refine aw_iload D_rr_splitMarks_69 rfl ?_
        refine aw_iastJ D_rr_splitMarks_71 rfl (by omega) (by omega) ?_
        first | refine aw_incN D_rr_splitMarks_72 rfl (Nat.le_of_ble_eq_true rfl) rfl ?_ | refine aw_inc D_rr_splitMarks_72 rfl (Nat.le_of_ble_eq_true rfl) rfl ?_
        refine aw_iload D_rr_splitMarks_75 rfl ?_
        refine aw_if_neN D_rr_splitMarks_77 (by omega) (fun h3 => ?_) (fun h3 => ?_)
        · rw [if_pos (Or.inl (by omega))] at hnew
          refine aw_iconst (nI 1) D_rr_splitMarks_93 rfl ?_
          refine aw_goto D_rr_splitMarks_94 ?_
          refine aw_istore D_rr_splitMarks_98 (Nat.le_of_ble_eq_true rfl) rfl ?_
          exact hfinish (fr + 1) 1 fr _ _ hs2 (up_self _ _ _) hnew
        · refine aw_aload_n 0 D_rr_splitMarks_80 rfl rfl ?_
          refine aw_get D_rr_splitMarks_81 rfl rfl ?_
          refine aw_iload D_rr_splitMarks_84 rfl ?_
          refine aw_iconst (nI 1) D_rr_splitMarks_86 rfl ?_
          first | with_reducible refine aw_ixorN D_rr_splitMarks_87 ?_ | refine aw_ixor D_rr_splitMarks_87 ?_
          rw [xor1 hci2]
          refine aw_ialdN D_rr_splitMarks_88 rfl (by omega) (by omega) ?_
          refine aw_iconst (-nI 1) D_rr_splitMarks_89 rfl ?_
          rw [show upd s (2 * ms i + c (i + m)) (nI fr) (2 * ms i + (1 - c (i + m))) = oI (-nI 1) (o (2 * ms i + (1 - c (i + m)))) by rw [upd_va, up_ne _ _ (by omega)]; exact hs _ (by omega)]
          refine aw_icmp_eq D_rr_splitMarks_90 (fun h4 => ?_) (fun h4 => ?_)
          · rw [oI_m1 (hfr _ (by omega))] at h4
            rw [if_neg (fun z => z.elim (by omega) (fun z => z h4))] at hnew
            refine aw_iconst (nI 0) D_rr_splitMarks_97 rfl ?_
            refine aw_istore D_rr_splitMarks_98 (Nat.le_of_ble_eq_true rfl) rfl ?_
            exact hfinish (fr + 1) 0 fr _ _ hs2 (up_self _ _ _) hnew
          · rw [oI_m1 (hfr _ (by omega))] at h4
            rw [if_pos (Or.inr h4)] at hnew
            refine aw_iconst (nI 1) D_rr_splitMarks_93 rfl ?_
            refine aw_goto D_rr_splitMarks_94 ?_
            refine aw_istore D_rr_splitMarks_98 (Nat.le_of_ble_eq_true rfl) rfl ?_
            exact hfinish (fr + 1) 1 fr _ _ hs2 (up_self _ _ _) hnew
  refine aw_iconst (nI 0) D_rr_splitMarks_0 rfl ?_
  refine aw_istore D_rr_splitMarks_1 (Nat.le_of_ble_eq_true rfl) rfl ?_
  refine aw_iconst (nI 0) D_rr_splitMarks_3 rfl ?_
  refine aw_istore D_rr_splitMarks_4 (Nat.le_of_ble_eq_true rfl) rfl ?_
  refine aw_aload_n 0 D_rr_splitMarks_6 rfl rfl ?_
  refine aw_get D_rr_splitMarks_7 rfl rfl ?_
  refine aw_iconst (nI 0) D_rr_splitMarks_10 rfl ?_
  refine aw_iconst (nI 2) D_rr_splitMarks_11 rfl ?_
  refine aw_aload_n 0 D_rr_splitMarks_12 rfl rfl ?_
  refine aw_get D_rr_splitMarks_13 rfl rfl ?_
  first | with_reducible refine aw_imulN D_rr_splitMarks_16 ?_ | refine aw_imul D_rr_splitMarks_16 ?_
  refine aw_iconst (-nI 1) D_rr_splitMarks_17 rfl ?_
  refine aw_callSv (As := [_, _, _, _]) D_rr_splitMarks_18 kv_ja_fillR (c_fillR (N := 1200) (c := 2 * mk) (f := sp) (x := -nI 1) (by decide) (by omega) rfl) rfl rfl (Nat.le_of_ble_eq_true rfl) (Nat.zero_le _) (Nat.zero_le _) ?_
  refine aw_iconst (nI 0) D_rr_splitMarks_21 rfl ?_
  refine aw_istore D_rr_splitMarks_22 (Nat.le_of_ble_eq_true rfl) rfl ?_
  exact key (n - m) 0 0 0 ms (fun _ => none) _ (by omega) (fun q hq => if_pos hq) SI.zero
theorem c_rr_great (hk : k < 4) (hn : n ≤ 600) : AMet M_rr_greatestOrder [.ref 5, .ref (4 + 32 * k), .int (nI n)] [mn, rg, ri, tr, SH la zs cs, RR mk ru ol re ms sp, mo, dy]
    (fun r w' => ∃ (g mk' : Nat) (ms' : Nat → Nat) (sp' : Nat → Int32), r = some (.int (nI g)) ∧ IsGr (fun i => bt (cs k i)) n g ∧ w' = [mn, rg, ri, tr, SH la zs cs, RR mk' ru ol re ms' sp', mo, dy]) 0 0 := by
  refine AMet.of [(0, .ref 5), (1, .ref (4 + 32 * k)), (2, .int (nI n))] (by decide +kernel) rfl (Nat.le_of_ble_eq_true rfl) ?_
  have key : ∀ (d m mk : Nat) (ms : Nat → Nat) (sp : Nat → Int32), m + d = n → (∀ i, i < m → Dv (fun i => bt (cs k i)) n i) → MKI (fun i => bt (cs k i)) n m ms mk → AW M_rr_greatestOrder noP (Zp (fun (r : Option Value) (w' : Wd) => ∃ (g mk' : Nat) (ms' : Nat → Nat) (sp' : Nat → Int32), r = some (.int (nI g)) ∧ IsGr (fun i => bt (cs k i)) n g ∧ w' = [mn, rg, ri, tr, SH la zs cs, RR mk' ru ol re ms' sp', mo, dy])) 0 0 15 [(0, .ref 5), (1, .ref (4 + 32 * k)), (2, .int (nI n)), (3, .int (nI m))] [] [mn, rg, ri, tr, SH la zs cs, RR mk ru ol re ms sp, mo, dy] 0 0 := by
    intro d
    induction d with
    | zero =>
      intro m mk ms sp hm hD hM
      refine aw_iload_n 3 D_rr_greatestOrder_15 rfl rfl ?_
      refine aw_iload_n 2 D_rr_greatestOrder_16 rfl rfl ?_
      refine aw_icmp_geN D_rr_greatestOrder_17 (by omega) (by omega) (fun h => ?_) (fun h => absurd h (by omega))
      refine aw_iload_n 2 D_rr_greatestOrder_38 rfl rfl ?_
      refine aw_ireturn D_rr_greatestOrder_39 rfl rfl ?_
      exact ⟨n, mk, ms, sp, rfl, ⟨fun i hi => hD i (by omega), fun z => by have := z.lt; omega⟩, rfl⟩
    | succ d ih =>
      intro m mk ms sp hm hD hM
      refine aw_iload_n 3 D_rr_greatestOrder_15 rfl rfl ?_
      refine aw_iload_n 2 D_rr_greatestOrder_16 rfl rfl ?_
      refine aw_icmp_geN D_rr_greatestOrder_17 (by omega) (by omega) (fun h => absurd h (by omega)) (fun h => ?_)
      refine aw_aload_n 0 D_rr_greatestOrder_20 rfl rfl ?_
      refine aw_aload_n 1 D_rr_greatestOrder_21 rfl rfl ?_
      refine aw_iload_n 2 D_rr_greatestOrder_22 rfl rfl ?_
      refine aw_iload_n 3 D_rr_greatestOrder_23 rfl rfl ?_
      refine aw_callV (As := [_, _, _]) D_rr_greatestOrder_24 kv_rr_splitMarks (c_rr_split hk hn (by omega) hM) rfl rfl rfl rfl rfl (Nat.le_of_ble_eq_true rfl) (Nat.zero_le _) (Nat.zero_le _) (fun r w' hp => ?_)
      obtain ⟨ul, mk', ms', sp', rfl, hul, hD2, hM2, rfl⟩ := hp
      show AW M_rr_greatestOrder noP _ 0 0 27 _ [.int (nI ul)] _ _ _
      refine aw_if_neN D_rr_greatestOrder_27 (by omega) (fun h => ?_) (fun h => ?_)
      · first | refine aw_incN D_rr_greatestOrder_32 rfl (Nat.le_of_ble_eq_true rfl) rfl ?_ | refine aw_inc D_rr_greatestOrder_32 rfl (Nat.le_of_ble_eq_true rfl) rfl ?_
        refine aw_goto D_rr_greatestOrder_35 ?_
        exact ih (m + 1) mk' ms' sp' (by omega) (fun i hi => by rcases Nat.lt_or_ge i m with q | q; exact hD i q; rw [show i = m by omega]; exact hD2.mp (by omega)) hM2
      · refine aw_iload_n 3 D_rr_greatestOrder_30 rfl rfl ?_
        refine aw_ireturn D_rr_greatestOrder_31 rfl rfl ?_
        exact ⟨m, mk', ms', sp', rfl, ⟨hD, fun z => by have := hD2.mpr z; omega⟩, rfl⟩
  refine aw_aload_n 0 D_rr_greatestOrder_0 rfl rfl ?_
  refine aw_get D_rr_greatestOrder_1 rfl rfl ?_
  refine aw_iconst (nI 0) D_rr_greatestOrder_4 rfl ?_
  refine aw_callSv (As := [_, _]) D_rr_greatestOrder_5 kv_ja_fillI (c_fillI (N := 600) (f := nF ms) (x := nI 0) (by decide) rfl) rfl rfl (Nat.le_of_ble_eq_true rfl) (Nat.zero_le _) (Nat.zero_le _) ?_
  refine aw_row (q := 69) (t := 0) (N := 600) (f := fun j => if j < 600 then nI 0 else nF ms j) (g := nF (fun _ => 0)) rfl (fun j hj => if_pos hj) ?_
  show AW M_rr_greatestOrder noP _ 0 0 8 _ _ [mn, rg, ri, tr, SH la zs cs, RR mk ru ol re (fun _ => 0) sp, mo, dy] _ _
  refine aw_aload_n 0 D_rr_greatestOrder_8 rfl rfl ?_
  refine aw_iconst (nI 1) D_rr_greatestOrder_9 rfl ?_
  refine aw_put tc_rr D_rr_greatestOrder_10 rfl (Nat.le_of_ble_eq_true rfl) rfl rfl ?_
  refine aw_iconst (nI 0) D_rr_greatestOrder_13 rfl ?_
  refine aw_istore_n 3 D_rr_greatestOrder_14 rfl (Nat.le_of_ble_eq_true rfl) rfl ?_
  exact key n 0 1 (fun _ => 0) sp (by omega) (fun i hi => absurd hi (by omega)) ⟨fun i j _ _ => ⟨fun _ t ht => absurd ht (by omega), fun _ => rfl⟩, fun _ _ => Nat.one_pos, by decide⟩
end Great
