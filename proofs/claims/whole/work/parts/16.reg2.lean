/-! ### the register, filled -/
def pop (m : Nat) : Nat → Nat
  | 0 => 0
  | k + 1 => pop m k + m / 2 ^ k % 2
theorem pop_le (m : Nat) : ∀ k, pop m k ≤ k
  | 0 => Nat.le_refl _
  | k + 1 => by
    have := pop_le m k
    unfold pop
    omega
theorem pcI_pop : ∀ m, m < 512 → pcI (nI m) = nI (pop m 9) := by decide +kernel
def lin (mask one s : Nat) : Nat := (pop (s &&& mask) 9 + one) % 2
theorem look4 {mn rg ri tr sh rr mo dy : List va_E} {q : Nat} (hq : q % 16 = 4) : look [mn, rg, ri, tr, sh, rr, mo, dy] q = sh[q / 16]? := by
  unfold look
  rw [hq]
  rfl
section Reg2
variable {mn ri tr sh rr mo dy : List va_E} {n N ch : Nat} {b bn : Nat → Nat}
def linB (b : Nat → Nat) (mask one i : Nat) : Nat → Nat := fun s => if s < i then lin mask one s else b s
theorem linB_up (b : Nat → Nat) (mask one i : Nat) : va_up (linB b mask one i) i (lin mask one i) = linB b mask one (i + 1) := by
  funext j
  unfold va_up linB
  by_cases e : j = i
  · rw [if_pos e, if_pos (by omega), e]
  · rw [if_neg e]
    by_cases e2 : j < i
    · rw [if_pos e2, if_pos (by omega)]
    · rw [if_neg e2, if_neg (by omega)]
theorem c_rg_linear {mask one : Nat} (hN : N ≤ 512) (hN0 : 0 < N) (hm : mask < 512) (ho : one ≤ 1) : AMet M_rg_fillLinear [.ref 1, .int (nI mask), .int (nI one)] [mn, RG n N ch b bn, ri, tr, sh, rr, mo, dy] (Ex none [mn, RG n N 1 (linB b mask one N) bn, ri, tr, sh, rr, mo, dy]) 0 0 := by
  refine AMet.of [(0, .ref 1), (1, .int (nI mask)), (2, .int (nI one))] (by decide +kernel) rfl (Nat.le_of_ble_eq_true rfl) ?_
  have key : ∀ (m i c : Nat), i + m = N → (i = 0 ∨ c = 1) → AW M_rg_fillLinear noP (Zp (Ex none [mn, RG n N 1 (linB b mask one N) bn, ri, tr, sh, rr, mo, dy])) 0 0 2 [(0, .ref 1), (1, .int (nI mask)), (2, .int (nI one)), (3, .int (nI i))] [] [mn, RG n N c (linB b mask one i) bn, ri, tr, sh, rr, mo, dy] 0 0 := by
    intro m
    induction m with
    | zero =>
      intro i c hi hc
      refine aw_iload_n 3 D_rg_fillLinear_2 rfl rfl ?_
      refine aw_aload_n 0 D_rg_fillLinear_3 rfl rfl ?_
      refine aw_get D_rg_fillLinear_4 rfl rfl ?_
      refine aw_icmp_geN D_rg_fillLinear_7 (by omega) (by omega) (fun h => ?_) (fun h => absurd h (by omega))
      rw [show i = N by omega, show c = 1 by omega]
      refine aw_return D_rg_fillLinear_31 rfl ?_
      exact ⟨rfl, rfl⟩
    | succ m ih =>
      intro i c hi hc
      have hand : i &&& mask < 512 := Nat.lt_of_le_of_lt Nat.and_le_right hm
      have hpl := pop_le (i &&& mask) 9
      refine aw_iload_n 3 D_rg_fillLinear_2 rfl rfl ?_
      refine aw_aload_n 0 D_rg_fillLinear_3 rfl rfl ?_
      refine aw_get D_rg_fillLinear_4 rfl rfl ?_
      refine aw_icmp_geN D_rg_fillLinear_7 (by omega) (by omega) (fun h => absurd h (by omega)) (fun h => ?_)
      refine aw_aload_n 0 D_rg_fillLinear_10 rfl rfl ?_
      refine aw_iload_n 3 D_rg_fillLinear_11 rfl rfl ?_
      refine aw_iload_n 3 D_rg_fillLinear_12 rfl rfl ?_
      refine aw_iload_n 1 D_rg_fillLinear_13 rfl rfl ?_
      first | with_reducible refine aw_iandN D_rg_fillLinear_14 ?_ | refine aw_iand D_rg_fillLinear_14 ?_
      refine aw_callS1 (As := [_]) D_rg_fillLinear_15 kv_ji_bitCount (c_bitI) rfl rfl (Nat.le_of_ble_eq_true rfl) (Nat.zero_le _) (Nat.zero_le _) ?_
      rw [pcI_pop _ hand]
      refine aw_iload_n 2 D_rg_fillLinear_18 rfl rfl ?_
      first | with_reducible refine aw_iaddN D_rg_fillLinear_19 ?_ | refine aw_iadd D_rg_fillLinear_19 ?_
      refine aw_iconst (nI 1) D_rg_fillLinear_20 rfl ?_
      first | with_reducible refine aw_iandN D_rg_fillLinear_21 ?_ | refine aw_iand D_rg_fillLinear_21 ?_
      rw [Nat.and_one_is_mod]
      refine aw_callVv (As := [_, _]) D_rg_fillLinear_22 kv_rg_write (c_rg_write (s := i) (by omega)) rfl rfl rfl rfl rfl (Nat.le_of_ble_eq_true rfl) (Nat.zero_le _) (Nat.zero_le _) ?_
      rw [show (pop (i &&& mask) 9 + one) % 2 = lin mask one i from rfl, linB_up]
      first | refine aw_incN D_rg_fillLinear_25 rfl (Nat.le_of_ble_eq_true rfl) rfl ?_ | refine aw_inc D_rg_fillLinear_25 rfl (Nat.le_of_ble_eq_true rfl) rfl ?_
      refine aw_goto D_rg_fillLinear_28 ?_
      exact ih (i + 1) 1 (by omega) (Or.inr rfl)
  refine aw_iconst (nI 0) D_rg_fillLinear_0 rfl ?_
  refine aw_istore_n 3 D_rg_fillLinear_1 rfl (Nat.le_of_ble_eq_true rfl) rfl ?_
  have := key N 0 ch (by omega) (Or.inl rfl)
  rw [show linB b mask one 0 = b from funext fun j => if_neg (by omega)] at this
  exact this
/-- a step of the one that prefers p: where it is, where it has been, the feedback -/
def pst (n p : Nat) (t : Nat × (Nat → Nat) × (Nat → Nat)) : Nat × (Nat → Nat) × (Nat → Nat) :=
  let bn := va_up t.2.1 t.1 1
  let x := if bn (ld n t.1 p) = 1 then 1 - p else p
  (ld n t.1 x, bn, va_up t.2.2 t.1 x)
def pfr (n p : Nat) (t : Nat × (Nat → Nat) × (Nat → Nat)) : Nat → Nat × (Nat → Nat) × (Nat → Nat)
  | 0 => t
  | k + 1 => pst n p (pfr n p t k)
theorem pfr_lt {n p : Nat} (hn : 1 ≤ n) (hp : p ≤ 1) {t : Nat × (Nat → Nat) × (Nat → Nat)} (ht : t.1 < 2 ^ n) : ∀ k, (pfr n p t k).1 < 2 ^ n
  | 0 => ht
  | k + 1 => by
    have := pfr_lt hn hp ht k
    show ld n _ _ < _
    refine ld_lt hn this ?_
    split <;> omega
theorem pfr_bn {n p : Nat} {t : Nat × (Nat → Nat) × (Nat → Nat)} (ht : ∀ k, t.2.1 k ≤ 1) : ∀ i k, (pfr n p t i).2.1 k ≤ 1
  | 0, k => ht k
  | i + 1, k => by
    show va_up (pfr n p t i).2.1 _ 1 k ≤ 1
    unfold va_up
    split
    · exact Nat.le_refl _
    · exact pfr_bn ht i k
def pf0 (N p : Nat) (b : Nat → Nat) : Nat × (Nat → Nat) × (Nat → Nat) := (if p = 1 then 0 else N - 1, fun _ => 0, b)
theorem c_rg_prefer {p : Nat} (hn : 2 ≤ n) (hn9 : n ≤ 9) (hN : N = 2 ^ n) (hp : p ≤ 1) : AMet M_rg_fillPreferring [.ref 1, .int (nI p)] [mn, RG n N ch b bn, ri, tr, sh, rr, mo, dy] (Ex none [mn, RG n N 1 (pfr n p (pf0 N p b) N).2.2 (pfr n p (pf0 N p b) N).2.1, ri, tr, sh, rr, mo, dy]) 0 0 := by
  have hp9 := pow_le9 hn9
  have h4 : 0 < 2 ^ n := Nat.two_pow_pos n
  subst hN
  refine AMet.of [(0, .ref 1), (1, .int (nI p))] (by decide +kernel) rfl (Nat.le_of_ble_eq_true rfl) ?_
  have h00 : (pf0 (2 ^ n) p b).1 < 2 ^ n := by
    show (if p = 1 then 0 else 2 ^ n - 1) < 2 ^ n
    split <;> omega
  have key : ∀ (m i c : Nat), i + m = 2 ^ n → (i = 0 ∨ c = 1) → AW M_rg_fillPreferring noP (Zp (Ex none [mn, RG n (2 ^ n) 1 (pfr n p (pf0 (2 ^ n) p b) (2 ^ n)).2.2 (pfr n p (pf0 (2 ^ n) p b) (2 ^ n)).2.1, ri, tr, sh, rr, mo, dy])) 0 0 26 [(0, .ref 1), (1, .int (nI p)), (2, .int (nI (pfr n p (pf0 (2 ^ n) p b) i).1)), (3, .int (nI i))] [] [mn, RG n (2 ^ n) c (pfr n p (pf0 (2 ^ n) p b) i).2.2 (pfr n p (pf0 (2 ^ n) p b) i).2.1, ri, tr, sh, rr, mo, dy] 0 0 := by
    intro m
    induction m with
    | zero =>
      intro i c hi hc
      refine aw_iload_n 3 D_rg_fillPreferring_26 rfl rfl ?_
      refine aw_aload_n 0 D_rg_fillPreferring_27 rfl rfl ?_
      refine aw_get D_rg_fillPreferring_28 rfl rfl ?_
      refine aw_icmp_geN D_rg_fillPreferring_31 (by omega) (by omega) (fun h => ?_) (fun h => absurd h (by omega))
      rw [show i = 2 ^ n by omega, show c = 1 by omega]
      refine aw_return D_rg_fillPreferring_86 rfl ?_
      exact ⟨rfl, rfl⟩
    | succ m ih =>
      intro i c hi hc
      have hlt := pfr_lt (by omega) hp h00 i
      have hbn := pfr_bn (n := n) (p := p) (t := pf0 (2 ^ n) p b) (fun _ => Nat.zero_le 1) (i + 1)
      have hs : pfr n p (pf0 (2 ^ n) p b) (i + 1) = pst n p (pfr n p (pf0 (2 ^ n) p b) i) := rfl
      have ih' := ih (i + 1) 1 (by omega) (Or.inr rfl)
      rw [hs] at ih' hbn
      generalize pfr n p (pf0 (2 ^ n) p b) i = t at hlt hbn ih' ⊢
      obtain ⟨h, u, f⟩ := t
      dsimp only at hlt hbn ih' ⊢
      have hbl := hbn (ld n h p)
      change va_up u h 1 (ld n h p) ≤ 1 at hbl
      have hld := ld_lt (n := n) (by omega) hlt hp
      refine aw_iload_n 3 D_rg_fillPreferring_26 rfl rfl ?_
      refine aw_aload_n 0 D_rg_fillPreferring_27 rfl rfl ?_
      refine aw_get D_rg_fillPreferring_28 rfl rfl ?_
      refine aw_icmp_geN D_rg_fillPreferring_31 (by omega) (by omega) (fun h9 => absurd h9 (by omega)) (fun h9 => ?_)
      refine aw_aload_n 0 D_rg_fillPreferring_34 rfl rfl ?_
      refine aw_get D_rg_fillPreferring_35 rfl rfl ?_
      refine aw_iload_n 2 D_rg_fillPreferring_38 rfl rfl ?_
      refine aw_iconst (nI 1) D_rg_fillPreferring_39 rfl ?_
      refine aw_iastN D_rg_fillPreferring_40 rfl (by omega) (by omega) ?_
      refine aw_aload_n 0 D_rg_fillPreferring_41 rfl rfl ?_
      refine aw_get D_rg_fillPreferring_42 rfl rfl ?_
      refine aw_aload_n 0 D_rg_fillPreferring_45 rfl rfl ?_
      refine aw_iload_n 2 D_rg_fillPreferring_46 rfl rfl ?_
      refine aw_iload_n 1 D_rg_fillPreferring_47 rfl rfl ?_
      refine aw_callV1 (As := [_, _]) D_rg_fillPreferring_48 kv_rg_lead (c_rg_lead (s := h) (x := p) (by omega) hn9 hlt hp) rfl rfl rfl rfl rfl (Nat.le_of_ble_eq_true rfl) (Nat.zero_le _) (Nat.zero_le _) ?_
      refine aw_ialdN D_rg_fillPreferring_51 rfl (by omega) (by omega) ?_
      refine aw_iconst (nI 1) D_rg_fillPreferring_52 rfl ?_
      have hend : ∀ z : Nat, z ≤ 1 → z = (if va_up u h 1 (ld n h p) = 1 then 1 - p else p) → AW M_rg_fillPreferring noP (Zp (Ex none [mn, RG n (2 ^ n) 1 (pfr n p (pf0 (2 ^ n) p b) (2 ^ n)).2.2 (pfr n p (pf0 (2 ^ n) p b) (2 ^ n)).2.1, ri, tr, sh, rr, mo, dy])) 0 0 63 [(0, .ref 1), (1, .int (nI p)), (2, .int (nI h)), (3, .int (nI i))] [.int (nI z)] [mn, RG n (2 ^ n) c f (va_up u h 1), ri, tr, sh, rr, mo, dy] 0 0 := by
        intro z hz1 hz
        refine aw_istore D_rg_fillPreferring_63 (Nat.le_of_ble_eq_true rfl) rfl ?_
        refine aw_aload_n 0 D_rg_fillPreferring_65 rfl rfl ?_
        refine aw_iload_n 2 D_rg_fillPreferring_66 rfl rfl ?_
        refine aw_iload D_rg_fillPreferring_67 rfl ?_
        refine aw_callVv (As := [_, _]) D_rg_fillPreferring_69 kv_rg_write (c_rg_write (s := h) (x := z) (by omega)) rfl rfl rfl rfl rfl (Nat.le_of_ble_eq_true rfl) (Nat.zero_le _) (Nat.zero_le _) ?_
        refine aw_aload_n 0 D_rg_fillPreferring_72 rfl rfl ?_
        refine aw_iload_n 2 D_rg_fillPreferring_73 rfl rfl ?_
        refine aw_iload D_rg_fillPreferring_74 rfl ?_
        refine aw_callV1 (As := [_, _]) D_rg_fillPreferring_76 kv_rg_lead (c_rg_lead (s := h) (x := z) (by omega) hn9 hlt hz1) rfl rfl rfl rfl rfl (Nat.le_of_ble_eq_true rfl) (Nat.zero_le _) (Nat.zero_le _) ?_
        refine aw_istore_n 2 D_rg_fillPreferring_79 rfl (Nat.le_of_ble_eq_true rfl) rfl ?_
        first | refine aw_incN D_rg_fillPreferring_80 rfl (Nat.le_of_ble_eq_true rfl) rfl ?_ | refine aw_inc D_rg_fillPreferring_80 rfl (Nat.le_of_ble_eq_true rfl) rfl ?_
        refine aw_goto D_rg_fillPreferring_83 ?_
        refine aw_take 4 ?_
        have e : pst n p (h, u, f) = (ld n h z, va_up u h 1, va_up f h z) := by
          rw [hz]
          rfl
        rw [e] at ih'
        exact ih'
      refine aw_icmp_neN D_rg_fillPreferring_53 (by omega) (by omega) (fun h2 => ?_) (fun h2 => ?_)
      · refine aw_iload_n 1 D_rg_fillPreferring_62 rfl rfl ?_
        exact hend p hp (by rw [if_neg h2])
      · refine aw_iconst (nI 1) D_rg_fillPreferring_56 rfl ?_
        refine aw_iload_n 1 D_rg_fillPreferring_57 rfl rfl ?_
        first | with_reducible refine aw_isubN D_rg_fillPreferring_58 (by omega) ?_ | refine aw_isub D_rg_fillPreferring_58 ?_
        refine aw_goto D_rg_fillPreferring_59 ?_
        exact hend (1 - p) (by omega) (by rw [if_pos h2])
  refine aw_aload_n 0 D_rg_fillPreferring_0 rfl rfl ?_
  refine aw_get D_rg_fillPreferring_1 rfl rfl ?_
  refine aw_iconst (nI 0) D_rg_fillPreferring_4 rfl ?_
  refine aw_callSv (As := [_, _]) D_rg_fillPreferring_5 kv_ja_fillI (c_fillI (q := 33) (N := 512) (by decide) rfl) rfl rfl (Nat.le_of_ble_eq_true rfl) (Nat.zero_le _) (Nat.zero_le _) ?_
  refine aw_row (q := 33) (g := nF (fun _ => 0)) rfl (fun j hj => by rw [if_pos hj]) ?_
  refine aw_iload_n 1 D_rg_fillPreferring_8 rfl rfl ?_
  refine aw_iconst (nI 1) D_rg_fillPreferring_9 rfl ?_
  have k0 := key (2 ^ n) 0 ch (by omega) (Or.inl rfl)
  refine aw_icmp_neN D_rg_fillPreferring_10 (by omega) (by omega) (fun h => ?_) (fun h => ?_)
  · refine aw_aload_n 0 D_rg_fillPreferring_17 rfl rfl ?_
    refine aw_get D_rg_fillPreferring_18 rfl rfl ?_
    refine aw_iconst (nI 1) D_rg_fillPreferring_21 rfl ?_
    first | with_reducible refine aw_isubN D_rg_fillPreferring_22 (by omega) ?_ | refine aw_isub D_rg_fillPreferring_22 ?_
    refine aw_istore_n 2 D_rg_fillPreferring_23 rfl (Nat.le_of_ble_eq_true rfl) rfl ?_
    refine aw_iconst (nI 0) D_rg_fillPreferring_24 rfl ?_
    refine aw_istore_n 3 D_rg_fillPreferring_25 rfl (Nat.le_of_ble_eq_true rfl) rfl ?_
    have e : pfr n p (pf0 (2 ^ n) p b) 0 = (2 ^ n - 1, fun _ => 0, b) := by
      show (if p = 1 then 0 else 2 ^ n - 1, (fun _ => 0), b) = _
      rw [if_neg h]
    rw [e] at k0
    exact k0
  · refine aw_iconst (nI 0) D_rg_fillPreferring_13 rfl ?_
    refine aw_goto D_rg_fillPreferring_14 ?_
    refine aw_istore_n 2 D_rg_fillPreferring_23 rfl (Nat.le_of_ble_eq_true rfl) rfl ?_
    refine aw_iconst (nI 0) D_rg_fillPreferring_24 rfl ?_
    refine aw_istore_n 3 D_rg_fillPreferring_25 rfl (Nat.le_of_ble_eq_true rfl) rfl ?_
    have e : pfr n p (pf0 (2 ^ n) p b) 0 = (0, fun _ => 0, b) := by
      show (if p = 1 then 0 else 2 ^ n - 1, (fun _ => 0), b) = _
      rw [if_pos h]
    rw [e] at k0
    exact k0
def ffw (n : Nat) (c : Nat → Nat) (b : Nat → Nat) : Nat → Nat × (Nat → Nat)
  | 0 => (0, b)
  | i + 1 => (ld n (ffw n c b i).1 (c i), if n ≤ i then va_up (ffw n c b i).2 (ffw n c b i).1 (c i) else (ffw n c b i).2)
theorem ffw_lt {n : Nat} {c b : Nat → Nat} (hn : 1 ≤ n) (hc : ∀ i, c i ≤ 1) : ∀ i, (ffw n c b i).1 < 2 ^ n
  | 0 => Nat.two_pow_pos n
  | i + 1 => ld_lt hn (ffw_lt hn hc i) (hc i)
theorem c_rg_from {q qc sz : Nat} {la : Int32} {cs : Nat → Int64} (hn : 2 ≤ n) (hn9 : n ≤ 9) (hsz : sz ≤ 600) (hq4 : q % 16 = 4) (hc4 : qc % 16 = 4) (hq : sh[q / 16]? = some (.inr (3, [.int la, .int (nI sz), .ref qc]))) (hc : sh[qc / 16]? = some (.inl (1, 600, .inr (.inl cs)))) : AMet M_rg_fillFrom [.ref 1, .ref q] [mn, RG n N 1 b bn, ri, tr, sh, rr, mo, dy] (Ex none [mn, RG n N 1 (ffw n (fun i => bt (cs i)) b sz).2 bn, ri, tr, sh, rr, mo, dy]) 0 0 := by
  have hp9 := pow_le9 hn9
  refine AMet.of [(0, .ref 1), (1, .ref q)] (by decide +kernel) rfl (Nat.le_of_ble_eq_true rfl) ?_
  have key : ∀ (m i : Nat), i + m = sz → AW M_rg_fillFrom noP (Zp (Ex none [mn, RG n N 1 (ffw n (fun i => bt (cs i)) b sz).2 bn, ri, tr, sh, rr, mo, dy])) 0 0 4 [(0, .ref 1), (1, .ref q), (2, .int (nI (ffw n (fun i => bt (cs i)) b i).1)), (3, .int (nI i))] [] [mn, RG n N 1 (ffw n (fun i => bt (cs i)) b i).2 bn, ri, tr, sh, rr, mo, dy] 0 0 := by
    intro m
    induction m with
    | zero =>
      intro i hi
      refine aw_iload_n 3 D_rg_fillFrom_4 rfl rfl ?_
      refine aw_aload_n 1 D_rg_fillFrom_5 rfl rfl ?_
      refine aw_get D_rg_fillFrom_6 ((look4 hq4).trans hq) rfl ?_
      refine aw_icmp_geN D_rg_fillFrom_9 (by omega) (by omega) (fun h => ?_) (fun h => absurd h (by omega))
      rw [show i = sz by omega]
      refine aw_return D_rg_fillFrom_48 rfl ?_
      exact ⟨rfl, rfl⟩
    | succ m ih =>
      intro i hi
      have hlt := ffw_lt (n := n) (c := fun i => bt (cs i)) (b := b) (by omega) (fun i => bt_le _) i
      have hb1 := bt_le (cs i)
      refine aw_iload_n 3 D_rg_fillFrom_4 rfl rfl ?_
      refine aw_aload_n 1 D_rg_fillFrom_5 rfl rfl ?_
      refine aw_get D_rg_fillFrom_6 ((look4 hq4).trans hq) rfl ?_
      refine aw_icmp_geN D_rg_fillFrom_9 (by omega) (by omega) (fun h => absurd h (by omega)) (fun h => ?_)
      refine aw_aload_n 1 D_rg_fillFrom_12 rfl rfl ?_
      refine aw_iload_n 3 D_rg_fillFrom_13 rfl rfl ?_
      refine aw_callV1 (As := [_]) D_rg_fillFrom_14 kv_sh_bitAt (c_sh_bit (i := i) (by omega) ((look4 hq4).trans hq) ((look4 hc4).trans hc)) rfl rfl ((look4 hq4).trans hq) rfl rfl (Nat.le_of_ble_eq_true rfl) (Nat.zero_le _) (Nat.zero_le _) ?_
      refine aw_istore D_rg_fillFrom_17 (Nat.le_of_ble_eq_true rfl) rfl ?_
      refine aw_iload_n 3 D_rg_fillFrom_19 rfl rfl ?_
      refine aw_aload_n 0 D_rg_fillFrom_20 rfl rfl ?_
      refine aw_get D_rg_fillFrom_21 rfl rfl ?_
      have hend : ∀ (f : Nat → Nat), f = (ffw n (fun i => bt (cs i)) b (i + 1)).2 → AW M_rg_fillFrom noP (Zp (Ex none [mn, RG n N 1 (ffw n (fun i => bt (cs i)) b sz).2 bn, ri, tr, sh, rr, mo, dy])) 0 0 34 [(0, .ref 1), (1, .ref q), (2, .int (nI (ffw n (fun i => bt (cs i)) b i).1)), (3, .int (nI i)), (4, .int (nI (bt (cs i))))] [] [mn, RG n N 1 f bn, ri, tr, sh, rr, mo, dy] 0 0 := by
        intro f hf
        refine aw_aload_n 0 D_rg_fillFrom_34 rfl rfl ?_
        refine aw_iload_n 2 D_rg_fillFrom_35 rfl rfl ?_
        refine aw_iload D_rg_fillFrom_36 rfl ?_
        refine aw_callV1 (As := [_, _]) D_rg_fillFrom_38 kv_rg_lead (c_rg_lead (x := bt (cs i)) (by omega) hn9 hlt hb1) rfl rfl rfl rfl rfl (Nat.le_of_ble_eq_true rfl) (Nat.zero_le _) (Nat.zero_le _) ?_
        refine aw_istore_n 2 D_rg_fillFrom_41 rfl (Nat.le_of_ble_eq_true rfl) rfl ?_
        first | refine aw_incN D_rg_fillFrom_42 rfl (Nat.le_of_ble_eq_true rfl) rfl ?_ | refine aw_inc D_rg_fillFrom_42 rfl (Nat.le_of_ble_eq_true rfl) rfl ?_
        refine aw_goto D_rg_fillFrom_45 ?_
        refine aw_take 4 ?_
        rw [hf]
        exact ih (i + 1) (by omega)
      refine aw_icmp_ltN D_rg_fillFrom_24 (by omega) (by omega) (fun h2 => ?_) (fun h2 => ?_)
      · exact hend _ (by show _ = if n ≤ i then _ else _; rw [if_neg (by omega)])
      · refine aw_aload_n 0 D_rg_fillFrom_27 rfl rfl ?_
        refine aw_iload_n 2 D_rg_fillFrom_28 rfl rfl ?_
        refine aw_iload D_rg_fillFrom_29 rfl ?_
        refine aw_callVv (As := [_, _]) D_rg_fillFrom_31 kv_rg_write (c_rg_write (x := bt (cs i)) (by omega)) rfl rfl rfl rfl rfl (Nat.le_of_ble_eq_true rfl) (Nat.zero_le _) (Nat.zero_le _) ?_
        exact hend _ (by show _ = if n ≤ i then _ else _; rw [if_pos h2])
  refine aw_iconst (nI 0) D_rg_fillFrom_0 rfl ?_
  refine aw_istore_n 2 D_rg_fillFrom_1 rfl (Nat.le_of_ble_eq_true rfl) rfl ?_
  refine aw_iconst (nI 0) D_rg_fillFrom_2 rfl ?_
  refine aw_istore_n 3 D_rg_fillFrom_3 rfl (Nat.le_of_ble_eq_true rfl) rfl ?_
  exact key sz 0 (by omega)
end Reg2
