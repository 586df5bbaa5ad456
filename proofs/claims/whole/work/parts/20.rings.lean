/-! ### the rings are found -/
def oI (z : Int32) : Option Nat → Int32
  | none => z
  | some r => nI r
abbrev oF (z : Int32) (o : Nat → Option Nat) : Nat → Int32 := fun k => oI z (o k)
theorem oF_upd (z : Int32) (o : Nat → Option Nat) (k : Nat) (x : Option Nat) : upd (oF z o) k (oI z x) = oF z (va_up o k x) := by
  funext j
  show (if j = k then oI z x else oI z (o j)) = oI z (if j = k then x else o j)
  by_cases h : j = k
  · rw [if_pos h, if_pos h]
  · rw [if_neg h, if_neg h]
theorem oF_upd1 (z : Int32) (o : Nat → Option Nat) (k r : Nat) : upd (oF z o) k (nI r) = oF z (va_up o k (some r)) := oF_upd z o k (some r)
theorem oF_upd0 (z : Int32) (o : Nat → Option Nat) (k : Nat) : upd (oF z o) k z = oF z (va_up o k none) := oF_upd z o k none
theorem nF_at (b : Nat → Nat) (k x : Nat) : nF (va_up b k x) k = nI x := congrArg nI (vu_at b k x)
theorem oI_m1 {x : Option Nat} (h : ∀ r, x = some r → r < 2 ^ 31) : oI (-nI 1) x = -nI 1 ↔ x = none := by
  cases x with
  | none => exact ⟨fun _ => rfl, fun _ => rfl⟩
  | some r =>
    have hr := h r rfl
    refine ⟨fun e => ?_, fun e => by cases e⟩
    have e2 : nI r = -nI 1 := e
    have := nI_toInt hr
    rw [e2, show (-nI 1 : Int32).toInt = -1 by decide] at this
    omega
theorem oI_m9 {x : Option Nat} (h : ∀ r, x = some r → r < 2 ^ 31) : oI (-nI 9) x = -nI 9 ↔ x = none := by
  cases x with
  | none => exact ⟨fun _ => rfl, fun _ => rfl⟩
  | some r =>
    have hr := h r rfl
    refine ⟨fun e => ?_, fun e => by cases e⟩
    have e2 : nI r = -nI 9 := e
    have := nI_toInt hr
    rw [e2, show (-nI 9 : Int32).toInt = -9 by decide] at this
    omega
/-- two at most lead to a state: those that share its other bits -/
theorem ct_two {p : Nat → Bool} {e : Nat} (h : ∀ s, p s = true → s = e ∨ s = e + 1) : ∀ N, e + 1 < N → fb_ct p N = (if p e then 1 else 0) + (if p (e + 1) then 1 else 0) := by
  have lo : ∀ k, k ≤ e → fb_ct p k = 0 := fun k hk => fb_ct_zero.mpr (fun j hj => by
    rw [Bool.eq_false_iff]
    intro z
    rcases h j z with q | q <;> omega)
  have hi : ∀ m, fb_ct p (e + 2 + m) = fb_ct p (e + 2) := by
    intro m
    induction m with
    | zero => rfl
    | succ m ih =>
      rw [show e + 2 + (m + 1) = (e + 2 + m) + 1 by omega, fb_ct_succ, ih, if_neg]
      · rfl
      · intro z
        rcases h _ z with q | q <;> omega
  intro N hN
  rw [show N = e + 2 + (N - (e + 2)) by omega, hi, show e + 2 = (e + 1) + 1 from rfl, fb_ct_succ, fb_ct_succ, lo e (Nat.le_refl e)]
  omega
theorem nx_pre {n : Nat} {b : Nat → Nat} {s t : Nat} (hn : 1 ≤ n) (hs : s < 2 ^ n) (hb : ∀ k, b k ≤ 1) : nx n b s = t ↔ (s = 2 * t % 2 ^ n ∨ s = 2 * t % 2 ^ n + 1) ∧ b s = t / 2 ^ (n - 1) ∧ t < 2 ^ n := by
  have hh := pow_half hn
  have hP := Nat.two_pow_pos (n - 1)
  generalize hPp : 2 ^ (n - 1) = P at hh hP ⊢
  rw [← hh] at hs ⊢
  have hbs := hb s
  unfold nx ld
  rw [hPp]
  have h2 : 2 * t % (2 * P) = 2 * (t % P) := Nat.mul_mod_mul_left 2 t P
  rw [h2]
  have key : b s * P = 0 ∧ b s = 0 ∨ b s * P = P ∧ b s = 1 := by
    rcases (show b s = 0 ∨ b s = 1 by omega) with q | q
    · left; rw [q]; exact ⟨Nat.zero_mul P, rfl⟩
    · right; rw [q]; exact ⟨Nat.one_mul P, rfl⟩
  constructor
  · intro e
    have ht : t < 2 * P := by omega
    rcases key with ⟨q1, q2⟩ | ⟨q1, q2⟩
    · have t1 : t = s / 2 := by omega
      have t2 : t < P := by omega
      rw [Nat.mod_eq_of_lt t2, Nat.div_eq_of_lt t2]
      exact ⟨by omega, q2, ht⟩
    · have t1 : t = s / 2 + P := by omega
      have t2 : s / 2 < P := by omega
      have m1 : t % P = s / 2 := by rw [t1, Nat.add_mod_right, Nat.mod_eq_of_lt t2]
      have m2 : t / P = 1 := by rw [t1, Nat.add_div_right _ hP, Nat.div_eq_of_lt t2]
      rw [m1, m2]
      exact ⟨by omega, q2, ht⟩
  · rintro ⟨e1, e2, e3⟩
    have hd := Nat.div_add_mod t P
    have : s / 2 = t % P := by omega
    rw [this, e2]
    have := Nat.mul_comm P (t / P)
    omega
theorem cb_ct {n : Nat} {b : Nat → Nat} {t : Nat} (hn : 1 ≤ n) (ht : t < 2 ^ n) (hb : ∀ k, b k ≤ 1) : cb n b t = fb_ct (fun s => decide (nx n b s = t)) (2 ^ n) := by
  have he := even_lt (s := t) hn
  have e1 : fb_ct (fun s => decide (nx n b s = t)) (2 ^ n) = fb_ct (fun s => decide (s < 2 ^ n) && decide (nx n b s = t)) (2 ^ n) := fb_ct_cong (fun k hk => by simp [hk])
  rw [e1, ct_two (e := 2 * t % 2 ^ n) (fun s hs => ?_) _ he]
  · unfold cb
    have a1 : (decide (2 * t % 2 ^ n < 2 ^ n) && decide (nx n b (2 * t % 2 ^ n) = t)) = decide (b (2 * t % 2 ^ n) = t / 2 ^ (n - 1)) := by
      rw [Bool.eq_iff_iff]
      simp only [Bool.and_eq_true, decide_eq_true_eq]
      constructor
      · rintro ⟨q1, q2⟩; exact ((nx_pre hn q1 hb).mp q2).2.1
      · intro q; exact ⟨by omega, (nx_pre hn (by omega) hb).mpr ⟨Or.inl rfl, q, ht⟩⟩
    have a2 : (decide (2 * t % 2 ^ n + 1 < 2 ^ n) && decide (nx n b (2 * t % 2 ^ n + 1) = t)) = decide (b (2 * t % 2 ^ n + 1) = t / 2 ^ (n - 1)) := by
      rw [Bool.eq_iff_iff]
      simp only [Bool.and_eq_true, decide_eq_true_eq]
      constructor
      · rintro ⟨q1, q2⟩; exact ((nx_pre hn q1 hb).mp q2).2.1
      · intro q; exact ⟨by omega, (nx_pre hn (by omega) hb).mpr ⟨Or.inr rfl, q, ht⟩⟩
    rw [a1, a2]
    simp only [decide_eq_true_eq]
  · simp only [Bool.and_eq_true, decide_eq_true_eq] at hs
    exact ((nx_pre hn hs.1 hb).mp hs.2).1
theorem cb_le (n : Nat) (b : Nat → Nat) (s : Nat) : cb n b s ≤ 2 := by
  unfold cb
  split <;> split <;> omega
abbrev RI (c pd st fa : Nat) (o : Nat → Option Nat) (be pc le sz wt qu : Nat → Nat) : List va_E := [.inr (1, [.int (nI c), .int (nI pd), .int (nI st), .int (nI fa), .ref 18, .ref 34, .ref 50, .ref 66, .ref 82, .ref 98, .ref 114]), .inl (0, 512, .inl (oF (-nI 1) o)), .inl (0, 512, .inl (nF be)), .inl (0, 512, .inl (nF pc)), .inl (0, 512, .inl (nF le)), .inl (0, 512, .inl (nF sz)), .inl (0, 512, .inl (nF wt)), .inl (0, 512, .inl (nF qu))]
/-- how many states none leads to -/
def strt (n : Nat) (b : Nat → Nat) : Nat := fb_ct (fun t => decide (cb n b t = 0)) (2 ^ n)
section Rings
variable {mn tr sh rr mo dy : List va_E} {n N ch : Nat} {b bn : Nat → Nat} {c pd st fa : Nat} {o : Nat → Option Nat} {be pc le sz wt qu : Nat → Nat}
theorem c_ri_peel (hn : 2 ≤ n) (hn9 : n ≤ 9) (hN : N = 2 ^ n) (hb : ∀ k, b k ≤ 1) : AMet M_ri_peel [.ref 2, .ref 1] [mn, RG n N ch b bn, RI c pd st fa o be pc le sz wt qu, tr, sh, rr, mo, dy]
    (fun r w' => r = none ∧ ∃ (o' : Nat → Option Nat) (wt' qu' : Nat → Nat) (pl : Nat), w' = [mn, RG n N ch b bn, RI c pl (strt n b) fa o' be pc le sz wt' qu', tr, sh, rr, mo, dy] ∧ (∀ t, t < N → o' t = none) ∧ PI (nx n b) N wt' qu' pl pl) 0 0 := by
  have hp9 := pow_le9 hn9
  subst hN
  have hf : ∀ s, s < 2 ^ n → nx n b s < 2 ^ n := fun s hs => nx_lt (by omega) hs hb
  refine AMet.of [(0, .ref 2), (1, .ref 1)] (by decide +kernel) rfl (Nat.le_of_ble_eq_true rfl) ?_
  generalize hZ : (fun (r : Option Value) (w' : Wd) => r = none ∧ ∃ (o' : Nat → Option Nat) (wt' qu' : Nat → Nat) (pl : Nat), w' = [mn, RG n (2 ^ n) ch b bn, RI c pl (strt n b) fa o' be pc le sz wt' qu', tr, sh, rr, mo, dy] ∧ (∀ t, t < 2 ^ n → o' t = none) ∧ PI (nx n b) (2 ^ n) wt' qu' pl pl) = Post
  have loop2 : ∀ (m q : Nat) (wt qu : Nat → Nat) (pl : Nat) (o : Nat → Option Nat), 2 ^ n - q = m → (∀ t, t < 2 ^ n → o t = none) → PI (nx n b) (2 ^ n) wt qu pl q → AW M_ri_peel noP (Zp Post) 0 0 78 [(0, .ref 2), (1, .ref 1), (2, .int (nI q))] [] [mn, RG n (2 ^ n) ch b bn, RI c pl (strt n b) fa o be pc le sz wt qu, tr, sh, rr, mo, dy] 0 0 := by
    intro m
    induction m with
    | zero =>
      intro q wt qu pl o hm ho hI
      have hle := hI.le
      have h0 := hI.1
      refine aw_iload_n 2 D_ri_peel_78 rfl rfl ?_
      refine aw_aload_n 0 D_ri_peel_79 rfl rfl ?_
      refine aw_get D_ri_peel_80 rfl rfl ?_
      refine aw_icmp_geN D_ri_peel_83 (by omega) (by omega) (fun h => ?_) (fun h => absurd h (by omega))
      have : q = pl := by omega
      subst this
      refine aw_return D_ri_peel_161 rfl ?_
      rw [← hZ]; exact ⟨rfl, o, wt, qu, q, rfl, ho, hI⟩
    | succ m ih =>
      intro q wt qu pl o hm ho hI
      have hle := hI.le
      have h0 := hI.1
      refine aw_iload_n 2 D_ri_peel_78 rfl rfl ?_
      refine aw_aload_n 0 D_ri_peel_79 rfl rfl ?_
      refine aw_get D_ri_peel_80 rfl rfl ?_
      refine aw_icmp_geN D_ri_peel_83 (by omega) (by omega) (fun h => ?_) (fun h => ?_)
      · have : q = pl := by omega
        subst this
        refine aw_return D_ri_peel_161 rfl ?_
        rw [← hZ]; exact ⟨rfl, o, wt, qu, q, rfl, ho, hI⟩
      · have hs := hI.2.1 q h
        obtain ⟨s1, s2, s3⟩ := hI.step hf h
        have ht := hf _ hs
        have hwle : wt (nx n b (qu q)) ≤ 2 ^ n := by rw [hI.2.2.2.1 _ ht]; exact fb_ct_le _ _
        refine aw_iload_n 2 D_ri_peel_86 rfl rfl ?_
        refine aw_aload_n 1 D_ri_peel_87 rfl rfl ?_
        refine aw_get D_ri_peel_88 rfl rfl ?_
        refine aw_icmp_geN D_ri_peel_91 (by omega) (by omega) (fun h => absurd h (by omega)) (fun h => ?_)
        refine aw_aload_n 1 D_ri_peel_94 rfl rfl ?_
        refine aw_aload_n 0 D_ri_peel_95 rfl rfl ?_
        refine aw_get D_ri_peel_96 rfl rfl ?_
        refine aw_iload_n 2 D_ri_peel_99 rfl rfl ?_
        refine aw_ialdN D_ri_peel_100 rfl (by omega) (by omega) ?_
        refine aw_callV1 (As := [_]) D_ri_peel_101 kv_rg_next (c_rg_next (s := qu q) (by omega) hn9 hs hb) rfl rfl rfl rfl rfl (Nat.le_of_ble_eq_true rfl) (Nat.zero_le _) (Nat.zero_le _) ?_
        refine aw_istore_n 3 D_ri_peel_104 rfl (Nat.le_of_ble_eq_true rfl) rfl ?_
        refine aw_aload_n 0 D_ri_peel_105 rfl rfl ?_
        refine aw_get D_ri_peel_106 rfl rfl ?_
        refine aw_iload_n 3 D_ri_peel_109 rfl rfl ?_
        refine aw_dup2_11 D_ri_peel_110 rfl rfl ?_
        refine aw_ialdN D_ri_peel_111 rfl (by omega) (by omega) ?_
        refine aw_iconst (nI 1) D_ri_peel_112 rfl ?_
        first | with_reducible refine aw_isubN D_ri_peel_113 (by omega) ?_ | refine aw_isub D_ri_peel_113 ?_
        refine aw_iastN D_ri_peel_114 rfl (by omega) (by omega) ?_
        refine aw_aload_n 0 D_ri_peel_115 rfl rfl ?_
        refine aw_get D_ri_peel_116 rfl rfl ?_
        refine aw_iload_n 3 D_ri_peel_119 rfl rfl ?_
        refine aw_ialdN D_ri_peel_120 rfl (by omega) (by omega) ?_
        rw [nF_at]
        refine aw_if_neN D_ri_peel_121 (by omega) (fun h2 => ?_) (fun h2 => ?_)
        · first | refine aw_incN D_ri_peel_155 rfl (Nat.le_of_ble_eq_true rfl) rfl ?_ | refine aw_inc D_ri_peel_155 rfl (Nat.le_of_ble_eq_true rfl) rfl ?_
          refine aw_goto D_ri_peel_158 ?_
          refine aw_take 3 ?_
          exact ih (q + 1) _ _ _ _ (by omega) ho (s3 (by omega))
        · obtain ⟨s4, s5⟩ := s2 h2
          refine aw_aload_n 0 D_ri_peel_124 rfl rfl ?_
          refine aw_get D_ri_peel_125 rfl rfl ?_
          refine aw_aload_n 1 D_ri_peel_128 rfl rfl ?_
          refine aw_get D_ri_peel_129 rfl rfl ?_
          refine aw_icmp_geN D_ri_peel_132 (by omega) (by omega) (fun h => absurd h (by omega)) (fun h => ?_)
          refine aw_aload_n 0 D_ri_peel_135 rfl rfl ?_
          refine aw_get D_ri_peel_136 rfl rfl ?_
          refine aw_aload_n 0 D_ri_peel_139 rfl rfl ?_
          refine aw_get D_ri_peel_140 rfl rfl ?_
          refine aw_iload_n 3 D_ri_peel_143 rfl rfl ?_
          refine aw_iastN D_ri_peel_144 rfl (by omega) (by omega) ?_
          refine aw_aload_n 0 D_ri_peel_145 rfl rfl ?_
          refine aw_dup D_ri_peel_146 rfl ?_
          refine aw_get D_ri_peel_147 rfl rfl ?_
          refine aw_iconst (nI 1) D_ri_peel_150 rfl ?_
          first | with_reducible refine aw_iaddN D_ri_peel_151 ?_ | refine aw_iadd D_ri_peel_151 ?_
          refine aw_put tc_ri D_ri_peel_152 rfl (Nat.le_of_ble_eq_true rfl) rfl rfl ?_
          first | refine aw_incN D_ri_peel_155 rfl (Nat.le_of_ble_eq_true rfl) rfl ?_ | refine aw_inc D_ri_peel_155 rfl (Nat.le_of_ble_eq_true rfl) rfl ?_
          refine aw_goto D_ri_peel_158 ?_
          refine aw_take 3 ?_
          exact ih (q + 1) _ _ _ _ (by omega) ho s5
  have loop1 : ∀ (m i : Nat) (wt qu : Nat → Nat) (pl : Nat) (o : Nat → Option Nat), i + m = 2 ^ n → (∀ t, t < i → o t = none) → (∀ t, t < i → wt t = cb n b t) → P1 (2 ^ n) (cb n b) qu pl i → AW M_ri_peel noP (Zp Post) 0 0 7 [(0, .ref 2), (1, .ref 1), (2, .int (nI i))] [] [mn, RG n (2 ^ n) ch b bn, RI c pl st fa o be pc le sz wt qu, tr, sh, rr, mo, dy] 0 0 := by
    intro m
    induction m with
    | zero =>
      intro i wt qu pl o hi ho hw hP
      have hi' : i = 2 ^ n := by omega
      rw [hi'] at ho hw hP
      have hpl : pl = strt n b := hP.2.2.2
      refine aw_iload_n 2 D_ri_peel_7 rfl rfl ?_
      refine aw_aload_n 1 D_ri_peel_8 rfl rfl ?_
      refine aw_get D_ri_peel_9 rfl rfl ?_
      refine aw_icmp_geN D_ri_peel_12 (by omega) (by omega) (fun h => ?_) (fun h => absurd h (by omega))
      refine aw_aload_n 0 D_ri_peel_68 rfl rfl ?_
      refine aw_aload_n 0 D_ri_peel_69 rfl rfl ?_
      refine aw_get D_ri_peel_70 rfl rfl ?_
      refine aw_put tc_ri D_ri_peel_73 rfl (Nat.le_of_ble_eq_true rfl) rfl rfl ?_
      refine aw_iconst (nI 0) D_ri_peel_76 rfl ?_
      refine aw_istore_n 2 D_ri_peel_77 rfl (Nat.le_of_ble_eq_true rfl) rfl ?_
      have hI := (hP.congr hw).done (f := nx n b) (fun t ht => by rw [hw t ht]; exact cb_ct (by omega) ht hb)
      have := loop2 (2 ^ n) 0 wt qu pl o (by omega) ho hI
      rw [← hpl] at this
      exact this
    | succ m ih =>
      intro i wt qu pl o hi ho hw hP
      have hple := hP.le
      have hcb := cb_le n b i
      refine aw_iload_n 2 D_ri_peel_7 rfl rfl ?_
      refine aw_aload_n 1 D_ri_peel_8 rfl rfl ?_
      refine aw_get D_ri_peel_9 rfl rfl ?_
      refine aw_icmp_geN D_ri_peel_12 (by omega) (by omega) (fun h => absurd h (by omega)) (fun h => ?_)
      refine aw_aload_n 0 D_ri_peel_15 rfl rfl ?_
      refine aw_get D_ri_peel_16 rfl rfl ?_
      refine aw_iload_n 2 D_ri_peel_19 rfl rfl ?_
      refine aw_iconst (-nI 1) D_ri_peel_20 rfl ?_
      refine aw_iastJ D_ri_peel_21 rfl (by omega) (by omega) ?_
      refine aw_aload_n 0 D_ri_peel_22 rfl rfl ?_
      refine aw_get D_ri_peel_23 rfl rfl ?_
      refine aw_iload_n 2 D_ri_peel_26 rfl rfl ?_
      refine aw_aload_n 1 D_ri_peel_27 rfl rfl ?_
      refine aw_iload_n 2 D_ri_peel_28 rfl rfl ?_
      rw [oF_upd0]
      refine aw_callV1 (As := [_]) D_ri_peel_29 kv_rg_countBefore (c_rg_cb (s := i) (by omega) hn9 (by omega) rfl hb) rfl rfl rfl rfl rfl (Nat.le_of_ble_eq_true rfl) (Nat.zero_le _) (Nat.zero_le _) ?_
      refine aw_iastN D_ri_peel_32 rfl (by omega) (by omega) ?_
      refine aw_aload_n 0 D_ri_peel_33 rfl rfl ?_
      refine aw_get D_ri_peel_34 rfl rfl ?_
      refine aw_iload_n 2 D_ri_peel_37 rfl rfl ?_
      refine aw_ialdN D_ri_peel_38 rfl (by omega) (by omega) ?_
      rw [nF_at]
      have ho' : ∀ t, t < i + 1 → va_up o i none t = none := by
        intro t ht
        by_cases e : t = i
        · rw [e, vu_at]
        · rw [vu_ne e]; exact ho t (by omega)
      have hw' : ∀ t, t < i + 1 → va_up wt i (cb n b i) t = cb n b t := by
        intro t ht
        by_cases e : t = i
        · rw [e, vu_at]
        · rw [vu_ne e]; exact hw t (by omega)
      refine aw_if_neN D_ri_peel_39 (by omega) (fun h2 => ?_) (fun h2 => ?_)
      · first | refine aw_incN D_ri_peel_62 rfl (Nat.le_of_ble_eq_true rfl) rfl ?_ | refine aw_inc D_ri_peel_62 rfl (Nat.le_of_ble_eq_true rfl) rfl ?_
        refine aw_goto D_ri_peel_65 ?_
        exact ih (i + 1) _ _ _ _ (by omega) ho' hw' (hP.no (by omega))
      · refine aw_aload_n 0 D_ri_peel_42 rfl rfl ?_
        refine aw_get D_ri_peel_43 rfl rfl ?_
        refine aw_aload_n 0 D_ri_peel_46 rfl rfl ?_
        refine aw_get D_ri_peel_47 rfl rfl ?_
        refine aw_iload_n 2 D_ri_peel_50 rfl rfl ?_
        refine aw_iastN D_ri_peel_51 rfl (by omega) (by omega) ?_
        refine aw_aload_n 0 D_ri_peel_52 rfl rfl ?_
        refine aw_dup D_ri_peel_53 rfl ?_
        refine aw_get D_ri_peel_54 rfl rfl ?_
        refine aw_iconst (nI 1) D_ri_peel_57 rfl ?_
        first | with_reducible refine aw_iaddN D_ri_peel_58 ?_ | refine aw_iadd D_ri_peel_58 ?_
        refine aw_put tc_ri D_ri_peel_59 rfl (Nat.le_of_ble_eq_true rfl) rfl rfl ?_
        first | refine aw_incN D_ri_peel_62 rfl (Nat.le_of_ble_eq_true rfl) rfl ?_ | refine aw_inc D_ri_peel_62 rfl (Nat.le_of_ble_eq_true rfl) rfl ?_
        refine aw_goto D_ri_peel_65 ?_
        exact ih (i + 1) _ _ _ _ (by omega) ho' hw' (hP.yes h2)
  refine aw_aload_n 0 D_ri_peel_0 rfl rfl ?_
  refine aw_iconst (nI 0) D_ri_peel_1 rfl ?_
  refine aw_put tc_ri D_ri_peel_2 rfl (Nat.le_of_ble_eq_true rfl) rfl rfl ?_
  refine aw_iconst (nI 0) D_ri_peel_5 rfl ?_
  refine aw_istore_n 2 D_ri_peel_6 rfl (Nat.le_of_ble_eq_true rfl) rfl ?_
  exact loop1 (2 ^ n) 0 wt qu 0 o (by omega) (fun t ht => absurd ht (by omega)) (fun t ht => absurd ht (by omega)) (P1.zero _ _ _)
end Rings
