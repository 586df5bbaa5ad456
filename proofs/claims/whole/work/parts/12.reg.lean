/-! ### the register -/
abbrev RG (n N ch : Nat) (b bn : Nat → Nat) : List va_E := [.inr (0, [.int (nI n), .int (nI N), .int (nI ch), .ref 17, .ref 33]), .inl (0, 512, .inl (nF b)), .inl (0, 512, .inl (nF bn))]
def ld (n s x : Nat) : Nat := s / 2 + x * 2 ^ (n - 1)
def nx (n : Nat) (b : Nat → Nat) (s : Nat) : Nat := ld n s (b s)
def itr (f : Nat → Nat) : Nat → Nat → Nat
  | 0, s => s
  | k + 1, s => itr f k (f s)
theorem pow_le9 {n : Nat} (h : n ≤ 9) : 2 ^ n ≤ 512 := Nat.le_trans (Nat.pow_le_pow_right (by decide) h) (by decide)
theorem pow_half {n : Nat} (h : 1 ≤ n) : 2 * 2 ^ (n - 1) = 2 ^ n := by
  rw [← Nat.pow_succ']
  congr 1
  omega
theorem ld_lt {n s x : Nat} (hn : 1 ≤ n) (hs : s < 2 ^ n) (hx : x ≤ 1) : ld n s x < 2 ^ n := by
  unfold ld
  have := pow_half hn
  have h2 : x * 2 ^ (n - 1) ≤ 1 * 2 ^ (n - 1) := Nat.mul_le_mul_right _ hx
  omega
theorem nx_lt {n : Nat} {b : Nat → Nat} {s : Nat} (hn : 1 ≤ n) (hs : s < 2 ^ n) (hb : ∀ k, b k ≤ 1) : nx n b s < 2 ^ n := ld_lt hn hs (hb s)
theorem itr_lt {f : Nat → Nat} {N : Nat} (hf : ∀ s, s < N → f s < N) : ∀ k s, s < N → itr f k s < N
  | 0, _, h => h
  | k + 1, s, h => itr_lt hf k (f s) (hf s h)
theorem or_ld {n s x : Nat} (hn : 1 ≤ n) (hs : s < 2 ^ n) : s / 2 ^ 1 ||| x * 2 ^ (n - 1) = ld n s x := by
  unfold ld
  have := pow_half hn
  rw [Nat.or_comm, Nat.mul_comm x, ← Nat.two_pow_add_eq_or_of_lt (by omega)]
  omega
theorem vp_of {x : Int32} {N : Nat} (h0 : ¬ x < 0) (h1 : ¬ nI N ≤ x) (hN : N < 2 ^ 31) : vp_in x N := by
  rcases pk_ix x hN with h | h | ⟨j, hj, rfl⟩
  · exact absurd h h0
  · exact absurd h h1
  · exact vp_in_nI hj hN
section Reg
variable {mn ri tr sh rr mo dy : List va_E} {n N ch : Nat} {b bn : Nat → Nat}
theorem c_rg_hasT {s : Nat} (hs : s < N) (hN : N ≤ 512) : AMet M_rg_has [.ref 1, .int (nI s)] [mn, RG n N ch b bn, ri, tr, sh, rr, mo, dy] (Ex (some (.int (nI 1))) [mn, RG n N ch b bn, ri, tr, sh, rr, mo, dy]) 0 0 := by
  refine AMet.of [(0, .ref 1), (1, .int (nI s))] (by decide +kernel) rfl (Nat.le_of_ble_eq_true rfl) ?_
  refine aw_iload_n 1 D_rg_has_0 rfl rfl ?_
  refine aw_if_ltN D_rg_has_1 (by omega) ?_
  refine aw_iload_n 1 D_rg_has_4 rfl rfl ?_
  refine aw_aload_n 0 D_rg_has_5 rfl rfl ?_
  refine aw_get D_rg_has_6 rfl rfl ?_
  refine aw_icmp_geN D_rg_has_9 (by omega) (by omega) (fun h => absurd h (by omega)) (fun h => ?_)
  refine aw_iconst (nI 1) D_rg_has_12 rfl ?_
  refine aw_goto D_rg_has_13 ?_
  refine aw_ireturn D_rg_has_17 rfl rfl ?_
  exact ⟨rfl, rfl⟩
theorem c_rg_hasF {x : Int32} (hx : ¬ vp_in x N) (hN : N ≤ 512) : AMet M_rg_has [.ref 1, .int x] [mn, RG n N ch b bn, ri, tr, sh, rr, mo, dy] (Ex (some (.int (nI 0))) [mn, RG n N ch b bn, ri, tr, sh, rr, mo, dy]) 0 0 := by
  refine AMet.of [(0, .ref 1), (1, .int x)] (by decide +kernel) rfl (Nat.le_of_ble_eq_true rfl) ?_
  refine aw_iload_n 1 D_rg_has_0 rfl rfl ?_
  refine aw_if_lt D_rg_has_1 (fun h => ?_) (fun h => ?_)
  · refine aw_iconst (nI 0) D_rg_has_16 rfl ?_
    refine aw_ireturn D_rg_has_17 rfl rfl ?_
    exact ⟨rfl, rfl⟩
  · refine aw_iload_n 1 D_rg_has_4 rfl rfl ?_
    refine aw_aload_n 0 D_rg_has_5 rfl rfl ?_
    refine aw_get D_rg_has_6 rfl rfl ?_
    refine aw_icmp_ge D_rg_has_9 (fun h1 => ?_) (fun h1 => ?_)
    · refine aw_iconst (nI 0) D_rg_has_16 rfl ?_
      refine aw_ireturn D_rg_has_17 rfl rfl ?_
      exact ⟨rfl, rfl⟩
    · exact absurd (vp_of h h1 (by omega)) hx
theorem c_rg_hasRun {s k : Nat} (hs : s < 2 ^ 31) (hk : k < 2 ^ 31) (hN : N ≤ 512) : AMet M_rg_hasRun [.ref 1, .int (nI s), .int (nI k)] [mn, RG n N ch b bn, ri, tr, sh, rr, mo, dy] (Ex (some (.int (nI (if s + k ≤ N then 1 else 0)))) [mn, RG n N ch b bn, ri, tr, sh, rr, mo, dy]) 0 0 := by
  refine AMet.of [(0, .ref 1), (1, .int (nI s)), (2, .int (nI k))] (by decide +kernel) rfl (Nat.le_of_ble_eq_true rfl) ?_
  refine aw_iload_n 1 D_rg_hasRun_0 rfl rfl ?_
  refine aw_if_ltN D_rg_hasRun_1 (by omega) ?_
  refine aw_iload_n 1 D_rg_hasRun_4 rfl rfl ?_
  first | with_reducible refine aw_i2lN D_rg_hasRun_5 (by omega) ?_ | refine aw_i2l D_rg_hasRun_5 ?_
  refine aw_iload_n 2 D_rg_hasRun_6 rfl rfl ?_
  first | with_reducible refine aw_i2lN D_rg_hasRun_7 (by omega) ?_ | refine aw_i2l D_rg_hasRun_7 ?_
  first | with_reducible refine aw_laddN D_rg_hasRun_8 ?_ | refine aw_ladd D_rg_hasRun_8 ?_
  refine aw_aload_n 0 D_rg_hasRun_9 rfl rfl ?_
  refine aw_get D_rg_hasRun_10 rfl rfl ?_
  first | with_reducible refine aw_i2lN D_rg_hasRun_13 (by omega) ?_ | refine aw_i2l D_rg_hasRun_13 ?_
  refine aw_lcmp D_rg_hasRun_14 ?_
  refine aw_if_gt D_rg_hasRun_15 (fun h => ?_) (fun h => ?_)
  · rw [lg_cmp_gt, pk_lLT (by omega) (by omega)] at h
    refine aw_iconst (nI 0) D_rg_hasRun_22 rfl ?_
    rw [if_neg (by omega)]
    refine aw_ireturn D_rg_hasRun_23 rfl rfl ?_
    exact ⟨rfl, rfl⟩
  · rw [lg_cmp_gt, pk_lLT (by omega) (by omega)] at h
    refine aw_iconst (nI 1) D_rg_hasRun_18 rfl ?_
    refine aw_goto D_rg_hasRun_19 ?_
    rw [if_pos (by omega)]
    refine aw_ireturn D_rg_hasRun_23 rfl rfl ?_
    exact ⟨rfl, rfl⟩
theorem c_rg_write {s x : Nat} (hs : s < 512) : AMet M_rg_write [.ref 1, .int (nI s), .int (nI x)] [mn, RG n N ch b bn, ri, tr, sh, rr, mo, dy] (Ex none [mn, RG n N 1 (va_up b s x) bn, ri, tr, sh, rr, mo, dy]) 0 0 := by
  refine AMet.of [(0, .ref 1), (1, .int (nI s)), (2, .int (nI x))] (by decide +kernel) rfl (Nat.le_of_ble_eq_true rfl) ?_
  refine aw_aload_n 0 D_rg_write_0 rfl rfl ?_
  refine aw_get D_rg_write_1 rfl rfl ?_
  refine aw_iload_n 1 D_rg_write_4 rfl rfl ?_
  refine aw_iload_n 2 D_rg_write_5 rfl rfl ?_
  refine aw_iastN D_rg_write_6 rfl (by omega) (by omega) ?_
  refine aw_aload_n 0 D_rg_write_7 rfl rfl ?_
  refine aw_iconst (nI 1) D_rg_write_8 rfl ?_
  refine aw_put tc_rg D_rg_write_9 rfl (Nat.le_of_ble_eq_true rfl) rfl rfl ?_
  refine aw_return D_rg_write_12 rfl ?_
  exact ⟨rfl, rfl⟩
theorem c_rg_restart {k : Nat} (hk : k ≤ 9) : AMet M_rg_restart [.ref 1, .int (nI k)] [mn, RG n N ch b bn, ri, tr, sh, rr, mo, dy] (Ex none [mn, RG k (2 ^ k) 1 (fun _ => 0) bn, ri, tr, sh, rr, mo, dy]) 0 0 := by
  have hp := pow_le9 hk
  refine AMet.of [(0, .ref 1), (1, .int (nI k))] (by decide +kernel) rfl (Nat.le_of_ble_eq_true rfl) ?_
  refine aw_aload_n 0 D_rg_restart_0 rfl rfl ?_
  refine aw_iload_n 1 D_rg_restart_1 rfl rfl ?_
  refine aw_put tc_rg D_rg_restart_2 rfl (Nat.le_of_ble_eq_true rfl) rfl rfl ?_
  refine aw_aload_n 0 D_rg_restart_5 rfl rfl ?_
  refine aw_iconst (nI 1) D_rg_restart_6 rfl ?_
  refine aw_iload_n 1 D_rg_restart_7 rfl rfl ?_
  first | with_reducible refine aw_ishlN D_rg_restart_8 (by omega) (by omega) ?_ | refine aw_ishl D_rg_restart_8 ?_
  refine aw_put tc_rg D_rg_restart_9 rfl (Nat.le_of_ble_eq_true rfl) rfl rfl ?_
  refine aw_aload_n 0 D_rg_restart_12 rfl rfl ?_
  refine aw_get D_rg_restart_13 rfl rfl ?_
  refine aw_iconst (nI 0) D_rg_restart_16 rfl ?_
  refine aw_callSv (As := [_, _]) D_rg_restart_17 kv_ja_fillI (c_fillI (q := 17) (N := 512) (by decide) rfl) rfl rfl (Nat.le_of_ble_eq_true rfl) (Nat.zero_le _) (Nat.zero_le _) ?_
  refine aw_row (q := 17) (g := nF (fun _ => 0)) rfl (fun j hj => by rw [if_pos hj]) ?_
  refine aw_aload_n 0 D_rg_restart_20 rfl rfl ?_
  refine aw_iconst (nI 1) D_rg_restart_21 rfl ?_
  refine aw_put tc_rg D_rg_restart_22 rfl (Nat.le_of_ble_eq_true rfl) rfl rfl ?_
  rw [Nat.one_mul]
  refine aw_return D_rg_restart_25 rfl ?_
  exact ⟨rfl, rfl⟩
theorem c_rg_lead {s x : Nat} (hn : 1 ≤ n) (hn9 : n ≤ 9) (hs : s < 2 ^ n) (hx : x ≤ 1) : AMet M_rg_lead [.ref 1, .int (nI s), .int (nI x)] [mn, RG n N ch b bn, ri, tr, sh, rr, mo, dy] (Ex (some (.int (nI (ld n s x)))) [mn, RG n N ch b bn, ri, tr, sh, rr, mo, dy]) 0 0 := by
  have hp := pow_le9 hn9
  have hh := pow_half hn
  have h1 : x * 2 ^ (n - 1) ≤ 1 * 2 ^ (n - 1) := Nat.mul_le_mul_right _ hx
  refine AMet.of [(0, .ref 1), (1, .int (nI s)), (2, .int (nI x))] (by decide +kernel) rfl (Nat.le_of_ble_eq_true rfl) ?_
  refine aw_iload_n 1 D_rg_lead_0 rfl rfl ?_
  refine aw_iconst (nI 1) D_rg_lead_1 rfl ?_
  first | with_reducible refine aw_ishrN D_rg_lead_2 (by omega) (by omega) ?_ | refine aw_ishr D_rg_lead_2 ?_
  refine aw_iload_n 2 D_rg_lead_3 rfl rfl ?_
  refine aw_aload_n 0 D_rg_lead_4 rfl rfl ?_
  refine aw_get D_rg_lead_5 rfl rfl ?_
  refine aw_iconst (nI 1) D_rg_lead_8 rfl ?_
  first | with_reducible refine aw_isubN D_rg_lead_9 (by omega) ?_ | refine aw_isub D_rg_lead_9 ?_
  first | with_reducible refine aw_ishlN D_rg_lead_10 (by omega) (by omega) ?_ | refine aw_ishl D_rg_lead_10 ?_
  first | with_reducible refine aw_iorN D_rg_lead_11 ?_ | refine aw_ior D_rg_lead_11 ?_
  rw [or_ld hn hs]
  refine aw_ireturn D_rg_lead_12 rfl rfl ?_
  exact ⟨rfl, rfl⟩
theorem c_rg_next {s : Nat} (hn : 1 ≤ n) (hn9 : n ≤ 9) (hs : s < 2 ^ n) (hb : ∀ k, b k ≤ 1) : AMet M_rg_next [.ref 1, .int (nI s)] [mn, RG n N ch b bn, ri, tr, sh, rr, mo, dy] (Ex (some (.int (nI (nx n b s)))) [mn, RG n N ch b bn, ri, tr, sh, rr, mo, dy]) 0 0 := by
  have hp := pow_le9 hn9
  refine AMet.of [(0, .ref 1), (1, .int (nI s))] (by decide +kernel) rfl (Nat.le_of_ble_eq_true rfl) ?_
  refine aw_aload_n 0 D_rg_next_0 rfl rfl ?_
  refine aw_iload_n 1 D_rg_next_1 rfl rfl ?_
  refine aw_aload_n 0 D_rg_next_2 rfl rfl ?_
  refine aw_get D_rg_next_3 rfl rfl ?_
  refine aw_iload_n 1 D_rg_next_6 rfl rfl ?_
  refine aw_ialdN D_rg_next_7 rfl (by omega) (by omega) ?_
  refine aw_callV1 (As := [_, _]) D_rg_next_8 kv_rg_lead (c_rg_lead (x := b s) hn hn9 hs (hb s)) rfl rfl rfl rfl rfl (Nat.le_of_ble_eq_true rfl) (Nat.zero_le _) (Nat.zero_le _) ?_
  refine aw_ireturn D_rg_next_11 rfl rfl ?_
  exact ⟨rfl, rfl⟩
theorem c_rg_walk {s k : Nat} (hn : 1 ≤ n) (hn9 : n ≤ 9) (hs : s < 2 ^ n) (hb : ∀ k, b k ≤ 1) (hk : k < 2 ^ 31) : AMet M_rg_walk [.ref 1, .int (nI s), .int (nI k)] [mn, RG n N ch b bn, ri, tr, sh, rr, mo, dy] (Ex (some (.int (nI (itr (nx n b) k s)))) [mn, RG n N ch b bn, ri, tr, sh, rr, mo, dy]) 0 0 := by
  refine AMet.of [(0, .ref 1), (1, .int (nI s)), (2, .int (nI k))] (by decide +kernel) rfl (Nat.le_of_ble_eq_true rfl) ?_
  have key : ∀ (m i t : Nat), i + m = k → t < 2 ^ n → AW M_rg_walk noP (Zp (Ex (some (.int (nI (itr (nx n b) m t)))) [mn, RG n N ch b bn, ri, tr, sh, rr, mo, dy])) 0 0 5 [(0, .ref 1), (1, .int (nI s)), (2, .int (nI k)), (3, .int (nI t)), (4, .int (nI i))] [] [mn, RG n N ch b bn, ri, tr, sh, rr, mo, dy] 0 0 := by
    intro m
    induction m with
    | zero =>
      intro i t hi ht
      refine aw_iload D_rg_walk_5 rfl ?_
      refine aw_iload_n 2 D_rg_walk_7 rfl rfl ?_
      refine aw_icmp_geN D_rg_walk_8 (by omega) (by omega) (fun h => ?_) (fun h => absurd h (by omega))
      refine aw_iload_n 3 D_rg_walk_23 rfl rfl ?_
      refine aw_ireturn D_rg_walk_24 rfl rfl ?_
      exact ⟨rfl, rfl⟩
    | succ m ih =>
      intro i t hi ht
      refine aw_iload D_rg_walk_5 rfl ?_
      refine aw_iload_n 2 D_rg_walk_7 rfl rfl ?_
      refine aw_icmp_geN D_rg_walk_8 (by omega) (by omega) (fun h => absurd h (by omega)) (fun h => ?_)
      refine aw_aload_n 0 D_rg_walk_11 rfl rfl ?_
      refine aw_iload_n 3 D_rg_walk_12 rfl rfl ?_
      refine aw_callV1 (As := [_]) D_rg_walk_13 kv_rg_next (c_rg_next hn hn9 ht hb) rfl rfl rfl rfl rfl (Nat.le_of_ble_eq_true rfl) (Nat.zero_le _) (Nat.zero_le _) ?_
      refine aw_istore_n 3 D_rg_walk_16 rfl (Nat.le_of_ble_eq_true rfl) rfl ?_
      first | refine aw_incN D_rg_walk_17 rfl (Nat.le_of_ble_eq_true rfl) rfl ?_ | refine aw_inc D_rg_walk_17 rfl (Nat.le_of_ble_eq_true rfl) rfl ?_
      refine aw_goto D_rg_walk_20 ?_
      exact ih (i + 1) (nx n b t) (by omega) (nx_lt hn ht hb)
  refine aw_iload_n 1 D_rg_walk_0 rfl rfl ?_
  refine aw_istore_n 3 D_rg_walk_1 rfl (Nat.le_of_ble_eq_true rfl) rfl ?_
  refine aw_iconst (nI 0) D_rg_walk_2 rfl ?_
  refine aw_istore D_rg_walk_3 (Nat.le_of_ble_eq_true rfl) rfl ?_
  exact key k 0 s (by omega) hs
theorem c_rg_even {s : Nat} (hn9 : n ≤ 9) (hs : s < 2 ^ n) (hN : N = 2 ^ n) : AMet M_rg_evenBefore [.ref 1, .int (nI s)] [mn, RG n N ch b bn, ri, tr, sh, rr, mo, dy] (Ex (some (.int (nI (2 * s % 2 ^ n)))) [mn, RG n N ch b bn, ri, tr, sh, rr, mo, dy]) 0 0 := by
  have hp := pow_le9 hn9
  have h0 : 0 < 2 ^ n := Nat.two_pow_pos n
  subst hN
  refine AMet.of [(0, .ref 1), (1, .int (nI s))] (by decide +kernel) rfl (Nat.le_of_ble_eq_true rfl) ?_
  refine aw_iload_n 1 D_rg_evenBefore_0 rfl rfl ?_
  refine aw_iconst (nI 1) D_rg_evenBefore_1 rfl ?_
  first | with_reducible refine aw_ishlN D_rg_evenBefore_2 (by omega) (by omega) ?_ | refine aw_ishl D_rg_evenBefore_2 ?_
  refine aw_aload_n 0 D_rg_evenBefore_3 rfl rfl ?_
  refine aw_get D_rg_evenBefore_4 rfl rfl ?_
  refine aw_iconst (nI 1) D_rg_evenBefore_7 rfl ?_
  first | with_reducible refine aw_isubN D_rg_evenBefore_8 (by omega) ?_ | refine aw_isub D_rg_evenBefore_8 ?_
  first | with_reducible refine aw_iandN D_rg_evenBefore_9 ?_ | refine aw_iand D_rg_evenBefore_9 ?_
  rw [Nat.and_two_pow_sub_one_eq_mod, show s * 2 ^ 1 = 2 * s by omega]
  refine aw_ireturn D_rg_evenBefore_10 rfl rfl ?_
  exact ⟨rfl, rfl⟩
def cb (n : Nat) (b : Nat → Nat) (s : Nat) : Nat := (if b (2 * s % 2 ^ n) = s / 2 ^ (n - 1) then 1 else 0) + (if b (2 * s % 2 ^ n + 1) = s / 2 ^ (n - 1) then 1 else 0)
theorem even_lt {n s : Nat} (hn : 1 ≤ n) : 2 * s % 2 ^ n + 1 < 2 ^ n := by
  have hh := pow_half hn
  have h1 : 2 * s % 2 ^ n = 2 * (s % 2 ^ (n - 1)) := by rw [← hh, Nat.mul_mod_mul_left]
  have h2 : s % 2 ^ (n - 1) < 2 ^ (n - 1) := Nat.mod_lt _ (Nat.two_pow_pos _)
  omega
theorem c_rg_cb {s : Nat} (hn : 1 ≤ n) (hn9 : n ≤ 9) (hs : s < 2 ^ n) (hN : N = 2 ^ n) (hb : ∀ k, b k ≤ 1) : AMet M_rg_countBefore [.ref 1, .int (nI s)] [mn, RG n N ch b bn, ri, tr, sh, rr, mo, dy] (Ex (some (.int (nI (cb n b s)))) [mn, RG n N ch b bn, ri, tr, sh, rr, mo, dy]) 0 0 := by
  have hp := pow_le9 hn9
  have he := even_lt (s := s) hn
  have hdiv : s / 2 ^ (n - 1) ≤ s := Nat.div_le_self _ _
  have hb1 := hb (2 * s % 2 ^ n)
  have hb2 := hb (2 * s % 2 ^ n + 1)
  refine AMet.of [(0, .ref 1), (1, .int (nI s))] (by decide +kernel) rfl (Nat.le_of_ble_eq_true rfl) ?_
  refine aw_aload_n 0 D_rg_countBefore_0 rfl rfl ?_
  refine aw_iload_n 1 D_rg_countBefore_1 rfl rfl ?_
  refine aw_callV1 (As := [_]) D_rg_countBefore_2 kv_rg_evenBefore (c_rg_even hn9 hs hN) rfl rfl rfl rfl rfl (Nat.le_of_ble_eq_true rfl) (Nat.zero_le _) (Nat.zero_le _) ?_
  refine aw_istore_n 2 D_rg_countBefore_5 rfl (Nat.le_of_ble_eq_true rfl) rfl ?_
  refine aw_iload_n 1 D_rg_countBefore_6 rfl rfl ?_
  refine aw_aload_n 0 D_rg_countBefore_7 rfl rfl ?_
  refine aw_get D_rg_countBefore_8 rfl rfl ?_
  refine aw_iconst (nI 1) D_rg_countBefore_11 rfl ?_
  first | with_reducible refine aw_isubN D_rg_countBefore_12 (by omega) ?_ | refine aw_isub D_rg_countBefore_12 ?_
  first | with_reducible refine aw_ishrN D_rg_countBefore_13 (by omega) (by omega) ?_ | refine aw_ishr D_rg_countBefore_13 ?_
  refine aw_istore_n 3 D_rg_countBefore_14 rfl (Nat.le_of_ble_eq_true rfl) rfl ?_
  refine aw_aload_n 0 D_rg_countBefore_15 rfl rfl ?_
  refine aw_get D_rg_countBefore_16 rfl rfl ?_
  refine aw_iload_n 2 D_rg_countBefore_19 rfl rfl ?_
  refine aw_ialdN D_rg_countBefore_20 rfl (by omega) (by omega) ?_
  refine aw_iload_n 3 D_rg_countBefore_21 rfl rfl ?_
  unfold cb
  refine aw_icmp_neN D_rg_countBefore_22 (by omega) (by omega) (fun h => ?_) (fun h => ?_)
  · rw [if_neg h]
    refine aw_iconst (nI 0) D_rg_countBefore_29 rfl ?_
    refine aw_aload_n 0 D_rg_countBefore_30 rfl rfl ?_
    refine aw_get D_rg_countBefore_31 rfl rfl ?_
    refine aw_iload_n 2 D_rg_countBefore_34 rfl rfl ?_
    refine aw_iconst (nI 1) D_rg_countBefore_35 rfl ?_
    first | with_reducible refine aw_iaddN D_rg_countBefore_36 ?_ | refine aw_iadd D_rg_countBefore_36 ?_
    refine aw_ialdN D_rg_countBefore_37 rfl (by omega) (by omega) ?_
    refine aw_iload_n 3 D_rg_countBefore_38 rfl rfl ?_
    refine aw_icmp_neN D_rg_countBefore_39 (by omega) (by omega) (fun h2 => ?_) (fun h2 => ?_)
    · rw [if_neg h2]
      refine aw_iconst (nI 0) D_rg_countBefore_46 rfl ?_
      first | with_reducible refine aw_iaddN D_rg_countBefore_47 ?_ | refine aw_iadd D_rg_countBefore_47 ?_
      refine aw_ireturn D_rg_countBefore_48 rfl rfl ?_
      exact ⟨rfl, rfl⟩
    · rw [if_pos h2]
      refine aw_iconst (nI 1) D_rg_countBefore_42 rfl ?_
      refine aw_goto D_rg_countBefore_43 ?_
      first | with_reducible refine aw_iaddN D_rg_countBefore_47 ?_ | refine aw_iadd D_rg_countBefore_47 ?_
      refine aw_ireturn D_rg_countBefore_48 rfl rfl ?_
      exact ⟨rfl, rfl⟩
  · rw [if_pos h]
    refine aw_iconst (nI 1) D_rg_countBefore_25 rfl ?_
    refine aw_goto D_rg_countBefore_26 ?_
    refine aw_aload_n 0 D_rg_countBefore_30 rfl rfl ?_
    refine aw_get D_rg_countBefore_31 rfl rfl ?_
    refine aw_iload_n 2 D_rg_countBefore_34 rfl rfl ?_
    refine aw_iconst (nI 1) D_rg_countBefore_35 rfl ?_
    first | with_reducible refine aw_iaddN D_rg_countBefore_36 ?_ | refine aw_iadd D_rg_countBefore_36 ?_
    refine aw_ialdN D_rg_countBefore_37 rfl (by omega) (by omega) ?_
    refine aw_iload_n 3 D_rg_countBefore_38 rfl rfl ?_
    refine aw_icmp_neN D_rg_countBefore_39 (by omega) (by omega) (fun h2 => ?_) (fun h2 => ?_)
    · rw [if_neg h2]
      refine aw_iconst (nI 0) D_rg_countBefore_46 rfl ?_
      first | with_reducible refine aw_iaddN D_rg_countBefore_47 ?_ | refine aw_iadd D_rg_countBefore_47 ?_
      refine aw_ireturn D_rg_countBefore_48 rfl rfl ?_
      exact ⟨rfl, rfl⟩
    · rw [if_pos h2]
      refine aw_iconst (nI 1) D_rg_countBefore_42 rfl ?_
      refine aw_goto D_rg_countBefore_43 ?_
      first | with_reducible refine aw_iaddN D_rg_countBefore_47 ?_ | refine aw_iadd D_rg_countBefore_47 ?_
      refine aw_ireturn D_rg_countBefore_48 rfl rfl ?_
      exact ⟨rfl, rfl⟩
theorem c_rg_ones (hN : N ≤ 512) (hb : ∀ k, b k ≤ 1) : AMet M_rg_countOnes [.ref 1] [mn, RG n N ch b bn, ri, tr, sh, rr, mo, dy] (Ex (some (.int (nI (fb_sm b N)))) [mn, RG n N ch b bn, ri, tr, sh, rr, mo, dy]) 0 0 := by
  refine AMet.of [(0, .ref 1)] (by decide +kernel) rfl (Nat.le_of_ble_eq_true rfl) ?_
  have key : ∀ (m i : Nat), i + m = N → AW M_rg_countOnes noP (Zp (Ex (some (.int (nI (fb_sm b N)))) [mn, RG n N ch b bn, ri, tr, sh, rr, mo, dy])) 0 0 4 [(0, .ref 1), (1, .int (nI (fb_sm b i))), (2, .int (nI i))] [] [mn, RG n N ch b bn, ri, tr, sh, rr, mo, dy] 0 0 := by
    intro m
    induction m with
    | zero =>
      intro i hi
      refine aw_iload_n 2 D_rg_countOnes_4 rfl rfl ?_
      refine aw_aload_n 0 D_rg_countOnes_5 rfl rfl ?_
      refine aw_get D_rg_countOnes_6 rfl rfl ?_
      refine aw_icmp_geN D_rg_countOnes_9 (by omega) (by omega) (fun h => ?_) (fun h => absurd h (by omega))
      refine aw_iload_n 1 D_rg_countOnes_27 rfl rfl ?_
      refine aw_ireturn D_rg_countOnes_28 rfl rfl ?_
      exact ⟨by rw [show i = N by omega], rfl⟩
    | succ m ih =>
      intro i hi
      refine aw_iload_n 2 D_rg_countOnes_4 rfl rfl ?_
      refine aw_aload_n 0 D_rg_countOnes_5 rfl rfl ?_
      refine aw_get D_rg_countOnes_6 rfl rfl ?_
      refine aw_icmp_geN D_rg_countOnes_9 (by omega) (by omega) (fun h => absurd h (by omega)) (fun h => ?_)
      refine aw_iload_n 1 D_rg_countOnes_12 rfl rfl ?_
      refine aw_aload_n 0 D_rg_countOnes_13 rfl rfl ?_
      refine aw_get D_rg_countOnes_14 rfl rfl ?_
      refine aw_iload_n 2 D_rg_countOnes_17 rfl rfl ?_
      refine aw_ialdN D_rg_countOnes_18 rfl (by omega) (by omega) ?_
      first | with_reducible refine aw_iaddN D_rg_countOnes_19 ?_ | refine aw_iadd D_rg_countOnes_19 ?_
      refine aw_istore_n 1 D_rg_countOnes_20 rfl (Nat.le_of_ble_eq_true rfl) rfl ?_
      first | refine aw_incN D_rg_countOnes_21 rfl (Nat.le_of_ble_eq_true rfl) rfl ?_ | refine aw_inc D_rg_countOnes_21 rfl (Nat.le_of_ble_eq_true rfl) rfl ?_
      refine aw_goto D_rg_countOnes_24 ?_
      exact ih (i + 1) (by omega)
  refine aw_iconst (nI 0) D_rg_countOnes_0 rfl ?_
  refine aw_istore_n 1 D_rg_countOnes_1 rfl (Nat.le_of_ble_eq_true rfl) rfl ?_
  refine aw_iconst (nI 0) D_rg_countOnes_2 rfl ?_
  refine aw_istore_n 2 D_rg_countOnes_3 rfl (Nat.le_of_ble_eq_true rfl) rfl ?_
  exact key N 0 (by omega)
def pureTo (b : Nat → Nat) : Nat → Bool
  | 0 => true
  | k + 1 => pureTo b k && b (2 * k) != b (2 * k + 1)
theorem pureTo_iff (b : Nat → Nat) : ∀ k, pureTo b k = true ↔ ∀ t, t < k → b (2 * t) ≠ b (2 * t + 1)
  | 0 => ⟨fun _ t ht => absurd ht (by omega), fun _ => rfl⟩
  | k + 1 => by
    unfold pureTo
    rw [Bool.and_eq_true, pureTo_iff b k, bne_iff_ne]
    constructor
    · intro h t ht
      rcases Nat.lt_or_ge t k with q | q
      · exact h.1 t q
      · rw [show t = k by omega]; exact h.2
    · exact fun h => ⟨fun t ht => h t (by omega), h k (by omega)⟩
theorem c_rg_pure (hN : N ≤ 512) (h2 : N % 2 = 0) (hb : ∀ k, b k ≤ 1) : AMet M_rg_isPure [.ref 1] [mn, RG n N ch b bn, ri, tr, sh, rr, mo, dy] (Ex (some (.int (nI (if pureTo b (N / 2) then 1 else 0)))) [mn, RG n N ch b bn, ri, tr, sh, rr, mo, dy]) 0 0 := by
  refine AMet.of [(0, .ref 1)] (by decide +kernel) rfl (Nat.le_of_ble_eq_true rfl) ?_
  have key : ∀ (m i : Nat), i + m = N / 2 → pureTo b i = true → AW M_rg_isPure noP (Zp (Ex (some (.int (nI (if pureTo b (N / 2) then 1 else 0)))) [mn, RG n N ch b bn, ri, tr, sh, rr, mo, dy])) 0 0 2 [(0, .ref 1), (1, .int (nI (2 * i)))] [] [mn, RG n N ch b bn, ri, tr, sh, rr, mo, dy] 0 0 := by
    intro m
    induction m with
    | zero =>
      intro i hi hpu
      refine aw_iload_n 1 D_rg_isPure_2 rfl rfl ?_
      refine aw_aload_n 0 D_rg_isPure_3 rfl rfl ?_
      refine aw_get D_rg_isPure_4 rfl rfl ?_
      refine aw_icmp_geN D_rg_isPure_7 (by omega) (by omega) (fun h => ?_) (fun h => absurd h (by omega))
      refine aw_iconst (nI 1) D_rg_isPure_35 rfl ?_
      refine aw_ireturn D_rg_isPure_36 rfl rfl ?_
      exact ⟨by rw [show N / 2 = i by omega, hpu]; rfl, rfl⟩
    | succ m ih =>
      intro i hi hpu
      have hb1 := hb (2 * i)
      have hb2 := hb (2 * i + 1)
      refine aw_iload_n 1 D_rg_isPure_2 rfl rfl ?_
      refine aw_aload_n 0 D_rg_isPure_3 rfl rfl ?_
      refine aw_get D_rg_isPure_4 rfl rfl ?_
      refine aw_icmp_geN D_rg_isPure_7 (by omega) (by omega) (fun h => absurd h (by omega)) (fun h => ?_)
      refine aw_aload_n 0 D_rg_isPure_10 rfl rfl ?_
      refine aw_get D_rg_isPure_11 rfl rfl ?_
      refine aw_iload_n 1 D_rg_isPure_14 rfl rfl ?_
      refine aw_ialdN D_rg_isPure_15 rfl (by omega) (by omega) ?_
      refine aw_aload_n 0 D_rg_isPure_16 rfl rfl ?_
      refine aw_get D_rg_isPure_17 rfl rfl ?_
      refine aw_iload_n 1 D_rg_isPure_20 rfl rfl ?_
      refine aw_iconst (nI 1) D_rg_isPure_21 rfl ?_
      first | with_reducible refine aw_iaddN D_rg_isPure_22 ?_ | refine aw_iadd D_rg_isPure_22 ?_
      refine aw_ialdN D_rg_isPure_23 rfl (by omega) (by omega) ?_
      refine aw_icmp_neN D_rg_isPure_24 (by omega) (by omega) (fun h => ?_) (fun h => ?_)
      · refine aw_inc2N D_rg_isPure_29 rfl (Nat.le_of_ble_eq_true rfl) rfl ?_
        refine aw_goto D_rg_isPure_32 ?_
        exact ih (i + 1) (by omega) (by unfold pureTo; rw [hpu, Bool.true_and, bne_iff_ne]; exact h)
      · refine aw_iconst (nI 0) D_rg_isPure_27 rfl ?_
        have hf : ¬ pureTo b (N / 2) = true := fun e => (pureTo_iff b _).mp e i (by omega) h
        refine aw_ireturn D_rg_isPure_28 rfl rfl ?_
        exact ⟨by rw [if_neg hf], rfl⟩
  refine aw_iconst (nI 0) D_rg_isPure_0 rfl ?_
  refine aw_istore_n 1 D_rg_isPure_1 rfl (Nat.le_of_ble_eq_true rfl) rfl ?_
  exact key (N / 2) 0 (by omega) rfl
theorem c_rg_turn {t : Nat} (ht : 2 * t + 1 < 512) (hb : ∀ k, b k ≤ 1) : AMet M_rg_turnPair [.ref 1, .int (nI t)] [mn, RG n N ch b bn, ri, tr, sh, rr, mo, dy] (Ex none [mn, RG n N 1 (va_up (va_up b (2 * t) (1 - b (2 * t))) (2 * t + 1) (1 - b (2 * t + 1))) bn, ri, tr, sh, rr, mo, dy]) 0 0 := by
  have hb1 := hb (2 * t)
  have hb2 := hb (2 * t + 1)
  refine AMet.of [(0, .ref 1), (1, .int (nI t))] (by decide +kernel) rfl (Nat.le_of_ble_eq_true rfl) ?_
  refine aw_aload_n 0 D_rg_turnPair_0 rfl rfl ?_
  refine aw_iconst (nI 2) D_rg_turnPair_1 rfl ?_
  refine aw_iload_n 1 D_rg_turnPair_2 rfl rfl ?_
  first | with_reducible refine aw_imulN D_rg_turnPair_3 ?_ | refine aw_imul D_rg_turnPair_3 ?_
  refine aw_iconst (nI 1) D_rg_turnPair_4 rfl ?_
  refine aw_aload_n 0 D_rg_turnPair_5 rfl rfl ?_
  refine aw_get D_rg_turnPair_6 rfl rfl ?_
  refine aw_iconst (nI 2) D_rg_turnPair_9 rfl ?_
  refine aw_iload_n 1 D_rg_turnPair_10 rfl rfl ?_
  first | with_reducible refine aw_imulN D_rg_turnPair_11 ?_ | refine aw_imul D_rg_turnPair_11 ?_
  refine aw_ialdN D_rg_turnPair_12 rfl (by omega) (by omega) ?_
  first | with_reducible refine aw_isubN D_rg_turnPair_13 (by omega) ?_ | refine aw_isub D_rg_turnPair_13 ?_
  refine aw_callVv (As := [_, _]) D_rg_turnPair_14 kv_rg_write (c_rg_write (by omega)) rfl rfl rfl rfl rfl (Nat.le_of_ble_eq_true rfl) (Nat.zero_le _) (Nat.zero_le _) ?_
  refine aw_aload_n 0 D_rg_turnPair_17 rfl rfl ?_
  refine aw_iconst (nI 2) D_rg_turnPair_18 rfl ?_
  refine aw_iload_n 1 D_rg_turnPair_19 rfl rfl ?_
  first | with_reducible refine aw_imulN D_rg_turnPair_20 ?_ | refine aw_imul D_rg_turnPair_20 ?_
  refine aw_iconst (nI 1) D_rg_turnPair_21 rfl ?_
  first | with_reducible refine aw_iaddN D_rg_turnPair_22 ?_ | refine aw_iadd D_rg_turnPair_22 ?_
  refine aw_iconst (nI 1) D_rg_turnPair_23 rfl ?_
  refine aw_aload_n 0 D_rg_turnPair_24 rfl rfl ?_
  refine aw_get D_rg_turnPair_25 rfl rfl ?_
  refine aw_iconst (nI 2) D_rg_turnPair_28 rfl ?_
  refine aw_iload_n 1 D_rg_turnPair_29 rfl rfl ?_
  first | with_reducible refine aw_imulN D_rg_turnPair_30 ?_ | refine aw_imul D_rg_turnPair_30 ?_
  refine aw_iconst (nI 1) D_rg_turnPair_31 rfl ?_
  first | with_reducible refine aw_iaddN D_rg_turnPair_32 ?_ | refine aw_iadd D_rg_turnPair_32 ?_
  refine aw_ialdN D_rg_turnPair_33 rfl (by omega) (by omega) ?_
  rw [show nF (va_up b (2 * t) (1 - b (2 * t))) (2 * t + 1) = nI (b (2 * t + 1)) by show nI _ = nI _; rw [vu_ne (by omega)]]
  first | with_reducible refine aw_isubN D_rg_turnPair_34 (by omega) ?_ | refine aw_isub D_rg_turnPair_34 ?_
  refine aw_callVv (As := [_, _]) D_rg_turnPair_35 kv_rg_write (c_rg_write (by omega)) rfl rfl rfl rfl rfl (Nat.le_of_ble_eq_true rfl) (Nat.zero_le _) (Nat.zero_le _) ?_
  refine aw_return D_rg_turnPair_38 rfl ?_
  exact ⟨rfl, rfl⟩
end Reg
