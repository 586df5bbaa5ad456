/-! ### rows of bits in words; the linear order -/
def wd (f : Nat → Nat) : Nat → Nat → Nat
  | 0, _ => 0
  | n + 1, a => f a + 2 * wd f n (a + 1)
def pkd (f : Nat → Nat) (w : Nat) : Nat := wd f 64 (64 * w)
def shq (c : Nat) (f : Nat → Nat) : Nat → Nat := fun j => if j = 0 then c else f (j - 1)
def xr (f g : Nat → Nat) : Nat → Nat := fun j => (f j + g j) % 2
theorem shq_lt {c : Nat} {f : Nat → Nat} (hc : c < 2) (hf : ∀ j, f j < 2) : ∀ j, shq c f j < 2 := fun j => by
  unfold shq
  split
  · exact hc
  · exact hf _
theorem xr_lt (f g : Nat → Nat) : ∀ j, xr f g j < 2 := fun j => by unfold xr; omega
section Words
variable {f g : Nat → Nat}
theorem wd_lt (hf : ∀ j, f j < 2) : ∀ n a, wd f n a < 2 ^ n
  | 0, _ => Nat.one_pos
  | n + 1, a => by
    have h1 := wd_lt hf n (a + 1)
    have h2 := hf a
    show f a + 2 * wd f n (a + 1) < 2 ^ (n + 1)
    rw [Nat.pow_succ]
    omega
theorem wd_xor (hf : ∀ j, f j < 2) (hg : ∀ j, g j < 2) : ∀ n a, wd f n a ^^^ wd g n a = wd (xr f g) n a
  | 0, _ => by show 0 ^^^ 0 = 0; rfl
  | n + 1, a => by
    have h1 := wd_xor hf hg n (a + 1)
    have h2 := hf a
    have h3 := hg a
    show (f a + 2 * wd f n (a + 1)) ^^^ (g a + 2 * wd g n (a + 1)) = (f a + g a) % 2 + 2 * wd (xr f g) n (a + 1)
    have e1 := xor_m2 (f a + 2 * wd f n (a + 1)) (g a + 2 * wd g n (a + 1))
    have e2 := @Nat.xor_div_two (f a + 2 * wd f n (a + 1)) (g a + 2 * wd g n (a + 1))
    rw [show (f a + 2 * wd f n (a + 1)) / 2 = wd f n (a + 1) by omega, show (g a + 2 * wd g n (a + 1)) / 2 = wd g n (a + 1) by omega, h1] at e2
    omega
theorem wd_and (hf : ∀ j, f j < 2) (hg : ∀ j, g j < 2) : ∀ n a, wd f n a &&& wd g n a = wd (fun j => f j * g j) n a
  | 0, _ => by show 0 &&& 0 = 0; rfl
  | n + 1, a => by
    have h1 := wd_and hf hg n (a + 1)
    have h2 := hf a
    have h3 := hg a
    show (f a + 2 * wd f n (a + 1)) &&& (g a + 2 * wd g n (a + 1)) = f a * g a + 2 * wd (fun j => f j * g j) n (a + 1)
    have e1 := bit_and (f a + 2 * wd f n (a + 1)) (g a + 2 * wd g n (a + 1)) 0
    have e2 := @Nat.and_div_two_pow (f a + 2 * wd f n (a + 1)) (g a + 2 * wd g n (a + 1)) 1
    rw [Nat.pow_zero, Nat.div_one, Nat.div_one, Nat.div_one, show (f a + 2 * wd f n (a + 1)) % 2 = f a by omega, show (g a + 2 * wd g n (a + 1)) % 2 = g a by omega] at e1
    rw [Nat.pow_one, show (f a + 2 * wd f n (a + 1)) / 2 = wd f n (a + 1) by omega, show (g a + 2 * wd g n (a + 1)) / 2 = wd g n (a + 1) by omega, h1] at e2
    omega
theorem bs_wd (hf : ∀ j, f j < 2) : ∀ n a, bs (wd f n a) n = fb_sm (fun t => f (a + t)) n
  | 0, _ => rfl
  | n + 1, a => by
    have h2 := hf a
    have := fb_sm_split (fun t => f (a + t)) 1 n
    rw [Nat.add_comm n 1, this, Nat.add_comm 1 n]
    show (f a + 2 * wd f n (a + 1)) % 2 + bs ((f a + 2 * wd f n (a + 1)) / 2) n = (0 + f (a + 0)) + _
    rw [show (f a + 2 * wd f n (a + 1)) / 2 = wd f n (a + 1) by omega, show (f a + 2 * wd f n (a + 1)) % 2 = f a by omega, bs_wd hf n (a + 1), Nat.zero_add, Nat.add_zero]
    congr 1
    exact fb_sm_cong (fun t _ => by rw [Nat.add_assoc])
theorem wd_shq (c : Nat) (f : Nat → Nat) : ∀ n a, wd (shq c f) n (a + 1) = wd f n a
  | 0, _ => rfl
  | n + 1, a => by
    show shq c f (a + 1) + 2 * wd (shq c f) n (a + 1 + 1) = f a + 2 * wd f n (a + 1)
    rw [wd_shq c f n (a + 1)]
    rfl
theorem wd_snoc (f : Nat → Nat) : ∀ n a, wd f (n + 1) a = wd f n a + 2 ^ n * f (a + n)
  | 0, a => by
    show f a + 2 * 0 = 0 + 1 * f (a + 0)
    rw [Nat.add_zero a]
    omega
  | n + 1, a => by
    show f a + 2 * wd f (n + 1) (a + 1) = f a + 2 * wd f n (a + 1) + 2 ^ (n + 1) * f (a + (n + 1))
    rw [wd_snoc f n (a + 1), Nat.pow_succ, show a + 1 + n = a + (n + 1) by omega, Nat.mul_add, Nat.mul_comm (2 ^ n) 2, Nat.mul_assoc]
    omega
theorem wd_shift (hf : ∀ j, f j < 2) {c : Nat} (hc : c < 2) (a : Nat) : 2 * wd f 64 a % 2 ^ 64 ||| shq c f a = wd (shq c f) 64 a := by
  have h1 := wd_snoc f 63 a
  have h2 := wd_lt hf 63 a
  have h3 := hf (a + 63)
  have h4 := shq_lt hc hf a
  rw [shl_or h4]
  show _ = shq c f a + 2 * wd (shq c f) 63 (a + 1)
  rw [wd_shq]
  have h1' : wd f 64 a = wd f 63 a + 2 ^ 63 * f (a + 63) := h1
  rw [h1']
  rcases (show f (a + 63) = 0 ∨ f (a + 63) = 1 by omega) with q | q <;> rw [q] <;> omega
theorem wd_top (hf : ∀ j, f j < 2) (a : Nat) : wd f 64 a / 2 ^ 63 = f (a + 63) := by
  have h1 := wd_snoc f 63 a
  have h2 := wd_lt hf 63 a
  have h1' : wd f 64 a = wd f 63 a + 2 ^ 63 * f (a + 63) := h1
  rw [h1', Nat.add_mul_div_left _ _ (by decide), Nat.div_eq_of_lt h2, Nat.zero_add]
/-- the words' sum of products -/
def wsm (f g : Nat → Nat) : Nat → Nat
  | 0 => 0
  | i + 1 => wsm f g i ^^^ (pkd f i &&& pkd g i)
theorem wsm_lt (hf : ∀ j, f j < 2) (hg : ∀ j, g j < 2) : ∀ i, wsm f g i < 2 ^ 64
  | 0 => by show 0 < 2 ^ 64; decide
  | i + 1 => Nat.xor_lt_two_pow (wsm_lt hf hg i) (Nat.and_lt_two_pow _ (wd_lt hg 64 (64 * i)))
theorem wsm_bs (hf : ∀ j, f j < 2) (hg : ∀ j, g j < 2) : ∀ i, bs (wsm f g i) 64 % 2 = fb_sm (fun j => f j * g j) (64 * i) % 2
  | 0 => by show bs 0 64 % 2 = 0 % 2; decide
  | i + 1 => by
    have h1 := wsm_bs hf hg i
    have h2 := bs_xor (wsm f g i) (pkd f i &&& pkd g i) 64
    have hfg : ∀ j, f j * g j < 2 := fun j => by
      have h2 := hf j
      have h3 := hg j
      rcases (show f j = 0 ∨ f j = 1 by omega) with q | q <;> rw [q] <;> omega
    have h3 : bs (pkd f i &&& pkd g i) 64 = fb_sm (fun t => f (64 * i + t) * g (64 * i + t)) 64 := by
      unfold pkd
      rw [wd_and hf hg]
      exact bs_wd (f := fun j => f j * g j) hfg 64 (64 * i)
    show bs (wsm f g i ^^^ (pkd f i &&& pkd g i)) 64 % 2 = _
    have h4 := fb_sm_split (fun j => f j * g j) (64 * i) 64
    rw [h2, h3, show 64 * (i + 1) = 64 * i + 64 by omega, h4]
    omega
end Words
/-- the bits behind, the latest first -/
def rct (c : Nat → Nat) : Nat → Nat → Nat
  | 0 => fun _ => 0
  | i + 1 => shq (c i) (rct c i)
def bm0 : Nat → Nat := fun j => if j = 0 then 1 else 0
/-- Berlekamp and Massey's state behind i bits: order, rule, the older rule (moved by one less than will be used) -/
def bms (c : Nat → Nat) : Nat → Nat × (Nat → Nat) × (Nat → Nat)
  | 0 => (0, bm0, bm0)
  | i + 1 =>
    let q := bms c i
    let o1 := shq 0 q.2.2
    if fb_sm (fun j => q.2.1 j * rct c (i + 1) j) 640 % 2 = 1 then
      (if 2 * q.1 ≤ i then (i + 1 - q.1, xr q.2.1 o1, q.2.1) else (q.1, xr q.2.1 o1, o1))
    else (q.1, q.2.1, o1)
theorem bm0_lt : ∀ j, bm0 j < 2 := fun j => by unfold bm0; split <;> decide
theorem bms_le (c : Nat → Nat) : ∀ i, (bms c i).1 ≤ i
  | 0 => Nat.le_refl _
  | i + 1 => by
    have := bms_le c i
    unfold bms
    dsimp only
    split
    · split <;> dsimp only <;> omega
    · dsimp only; omega
theorem bms_lt (c : Nat → Nat) : ∀ i, (∀ j, (bms c i).2.1 j < 2) ∧ ∀ j, (bms c i).2.2 j < 2
  | 0 => ⟨bm0_lt, bm0_lt⟩
  | i + 1 => by
    obtain ⟨h1, h2⟩ := bms_lt c i
    have h3 : ∀ j, shq 0 (bms c i).2.2 j < 2 := shq_lt (by decide) h2
    unfold bms
    dsimp only
    split
    · split
      · exact ⟨xr_lt _ _, h1⟩
      · exact ⟨xr_lt _ _, h3⟩
    · exact ⟨h1, h3⟩
theorem rct_lt {c : Nat → Nat} (hc : ∀ i, c i < 2) : ∀ i j, rct c i j < 2
  | 0, _ => by show 0 < 2; decide
  | i + 1, j => shq_lt (hc i) (rct_lt hc i) j
theorem pkd_lt {f : Nat → Nat} (hf : ∀ j, f j < 2) (i : Nat) : pkd f i < 2 ^ 64 := wd_lt hf _ _
section Order
variable {w : Wd} {mn rg ri tr mo dy : List va_E} {la : Nat → Int32} {zs : Nat → Nat} {cs : Nat → Nat → Int64} {mk : Nat} {ru ol re ms : Nat → Nat} {sp : Nat → Int32} {k n m : Nat}
theorem c_rr_shift {q c : Nat} {f : Nat → Nat} (hf : ∀ j, f j < 2) (hc : c < 2) (hq : look w q = some (.inl (1, 10, .inr (.inl (lF (pkd f)))))) : AMet M_rr_shiftIn [.ref q, .long (lN c)] w (Ex none (updw w q (.inl (1, 10, .inr (.inl (lF (pkd (shq c f)))))))) 0 0 := by
  refine AMet.of [(0, .ref q), (1, .long (lN c))] (by decide +kernel) rfl (Nat.le_of_ble_eq_true rfl) ?_
  have key : ∀ (d i : Nat) (L5 : List (Nat × Value)) (w1 : Wd), i + d = 10 → (L5 = [] ∨ ∃ x, L5 = [(6, Value.long x)]) → w1 = updw w q (.inl (1, 10, .inr (.inl (lF (fun j => if j < i then pkd (shq c f) j else pkd f j))))) → AW M_rr_shiftIn noP (Zp (Ex none (updw w q (.inl (1, 10, .inr (.inl (lF (pkd (shq c f))))))))) 0 0 5 ([(0, .ref q), (1, .long (lN c)), (3, .long (lN (shq c f (64 * i)))), (5, .int (nI i))] ++ L5) [] w1 0 0 := by
    intro d
    induction d with
    | zero =>
      intro i L5 w1 hi hL hw
      have hi : i = 10 := by omega
      subst hi
      have hl : look w1 q = some (.inl (1, 10, .inr (.inl (lF (fun j => if j < 10 then pkd (shq c f) j else pkd f j))))) := by rw [hw, look_updw hq, if_pos rfl]
      have hfin : AW M_rr_shiftIn noP (Zp (Ex none (updw w q (.inl (1, 10, .inr (.inl (lF (pkd (shq c f))))))))) 0 0 5 [(0, .ref q), (1, .long (lN c)), (3, .long (lN (shq c f (64 * 10)))), (5, .int (nI 10))] [] w1 0 0 := by
        refine aw_rowL (g := lF (pkd (shq c f))) hl (fun j hj => by show lN (if j < 10 then pkd (shq c f) j else pkd f j) = _; rw [if_pos hj]) ?_
        rw [hw, updw_twice hq]
        refine aw_iload D_rr_shiftIn_5 rfl ?_
        refine aw_aload_n 0 D_rr_shiftIn_7 rfl rfl ?_
        refine aw_alen D_rr_shiftIn_8 (by rw [look_updw hq, if_pos rfl]) (by decide) ?_
        refine aw_icmp_geN D_rr_shiftIn_9 (by decide) (by show 10 < 2 ^ 31; decide) (fun h => ?_) (fun h => absurd h (by show ¬ 10 < 10; decide))
        refine aw_return D_rr_shiftIn_42 rfl ?_
        exact ⟨rfl, rfl⟩
      rcases hL with rfl | ⟨x, rfl⟩
      · exact hfin
      · exact aw_take 4 hfin
    | succ d ih =>
      intro i L5 w1 hi hL hw
      have hl : look w1 q = some (.inl (1, 10, .inr (.inl (lF (fun j => if j < i then pkd (shq c f) j else pkd f j))))) := by rw [hw, look_updw hq, if_pos rfl]
      have hpk : (if i < i then pkd (shq c f) i else pkd f i) = pkd f i := if_neg (by omega)
      have hbd := pkd_lt hf i
      have hfin : AW M_rr_shiftIn noP (Zp (Ex none (updw w q (.inl (1, 10, .inr (.inl (lF (pkd (shq c f))))))))) 0 0 5 [(0, .ref q), (1, .long (lN c)), (3, .long (lN (shq c f (64 * i)))), (5, .int (nI i))] [] w1 0 0 := by
        refine aw_iload D_rr_shiftIn_5 rfl ?_
        refine aw_aload_n 0 D_rr_shiftIn_7 rfl rfl ?_
        refine aw_alen D_rr_shiftIn_8 (hl) (by decide) ?_
        refine aw_icmp_geN D_rr_shiftIn_9 (by omega) (by show 10 < 2 ^ 31; decide) (fun h => absurd h (by show ¬ 10 ≤ i; omega)) (fun h => ?_)
        refine aw_aload_n 0 D_rr_shiftIn_12 rfl rfl ?_
        refine aw_iload D_rr_shiftIn_13 rfl ?_
        refine aw_laldN D_rr_shiftIn_15 (hl) (by omega) (by omega) ?_
        refine aw_bipush (nI 63) D_rr_shiftIn_16 rfl ?_
        rw [show lF (fun j => if j < i then pkd (shq c f) j else pkd f j) i = lN (pkd f i) from congrArg lN hpk]
        refine aw_lushr D_rr_shiftIn_18 ?_
        rw [lN_ushr hbd (by decide)]
        refine aw_lstore D_rr_shiftIn_19 (Nat.le_of_ble_eq_true rfl) rfl ?_
        refine aw_aload_n 0 D_rr_shiftIn_21 rfl rfl ?_
        refine aw_iload D_rr_shiftIn_22 rfl ?_
        refine aw_aload_n 0 D_rr_shiftIn_24 rfl rfl ?_
        refine aw_iload D_rr_shiftIn_25 rfl ?_
        refine aw_laldN D_rr_shiftIn_27 (hl) (by omega) (by omega) ?_
        refine aw_iconst (nI 1) D_rr_shiftIn_28 rfl ?_
        rw [show lF (fun j => if j < i then pkd (shq c f) j else pkd f j) i = lN (pkd f i) from congrArg lN hpk]
        refine aw_lshl D_rr_shiftIn_29 ?_
        rw [lN_shl1]
        refine aw_lload_n 3 D_rr_shiftIn_30 rfl rfl ?_
        refine aw_lor D_rr_shiftIn_31 ?_
        rw [← lN_mod (2 * pkd f i), fb_orL, show 2 * pkd f i % 2 ^ 64 ||| shq c f (64 * i) = pkd (shq c f) i from wd_shift hf hc (64 * i), show pkd f i / 2 ^ 63 = shq c f (64 * (i + 1)) from wd_top hf (64 * i)]
        refine aw_lastN D_rr_shiftIn_32 (hl) (by omega) (by omega) ?_
        refine aw_lload D_rr_shiftIn_33 rfl ?_
        refine aw_lstore_n 3 D_rr_shiftIn_35 rfl (Nat.le_of_ble_eq_true rfl) rfl ?_
        first | refine aw_incN D_rr_shiftIn_36 rfl (Nat.le_of_ble_eq_true rfl) rfl ?_ | refine aw_inc D_rr_shiftIn_36 rfl (Nat.le_of_ble_eq_true rfl) rfl ?_
        refine aw_goto D_rr_shiftIn_39 ?_
        refine ih (i + 1) [(6, .long (lN (shq c f (64 * (i + 1)))))] _ (by omega) (Or.inr ⟨_, rfl⟩) ?_
        rw [hw, updw_twice hq]
        congr 6
        funext j
        refine congrArg lN ?_
        show (if j = i then pkd (shq c f) i else (if j < i then pkd (shq c f) j else pkd f j)) = (if j < i + 1 then pkd (shq c f) j else pkd f j)
        by_cases e : j = i
        · rw [if_pos e, if_pos (by omega), e]
        · rw [if_neg e]
          by_cases e2 : j < i
          · rw [if_pos e2, if_pos (by omega)]
          · rw [if_neg e2, if_neg (by omega)]
      rcases hL with rfl | ⟨x, rfl⟩
      · exact hfin
      · exact aw_take 4 hfin
  refine aw_lload_n 1 D_rr_shiftIn_0 rfl rfl ?_
  refine aw_lstore_n 3 D_rr_shiftIn_1 rfl (Nat.le_of_ble_eq_true rfl) rfl ?_
  refine aw_iconst (nI 0) D_rr_shiftIn_2 rfl ?_
  refine aw_istore D_rr_shiftIn_3 (Nat.le_of_ble_eq_true rfl) rfl ?_
  refine key 10 0 [] w (by omega) (Or.inl rfl) ?_
  exact (updw_same hq).symm
theorem c_rr_fails {f g : Nat → Nat} (hf : ∀ j, f j < 2) (hg : ∀ j, g j < 2) : AMet M_rr_ruleFails [.ref 5] [mn, rg, ri, tr, SH la zs cs, RR mk (pkd f) ol (pkd g) ms sp, mo, dy] (Ex (some (.int (nI (if fb_sm (fun j => f j * g j) 640 % 2 = 1 then 1 else 0)))) [mn, rg, ri, tr, SH la zs cs, RR mk (pkd f) ol (pkd g) ms sp, mo, dy]) 0 0 := by
  refine AMet.of [(0, .ref 5)] (by decide +kernel) rfl (Nat.le_of_ble_eq_true rfl) ?_
  have key : ∀ (d i : Nat), i + d = 10 → AW M_rr_ruleFails noP (Zp (Ex (some (.int (nI (if fb_sm (fun j => f j * g j) 640 % 2 = 1 then 1 else 0)))) [mn, rg, ri, tr, SH la zs cs, RR mk (pkd f) ol (pkd g) ms sp, mo, dy])) 0 0 4 [(0, .ref 5), (1, .long (lN (wsm f g i))), (3, .int (nI i))] [] [mn, rg, ri, tr, SH la zs cs, RR mk (pkd f) ol (pkd g) ms sp, mo, dy] 0 0 := by
    intro d
    induction d with
    | zero =>
      intro i hi
      have hi : i = 10 := by omega
      subst hi
      have hb := wsm_bs hf hg 10
      rw [show 64 * 10 = 640 from rfl] at hb
      refine aw_iload_n 3 D_rr_ruleFails_4 rfl rfl ?_
      refine aw_bipush (nI 10) D_rr_ruleFails_5 rfl ?_
      refine aw_icmp_geN D_rr_ruleFails_7 (by decide) (by decide) (fun h => ?_) (fun h => absurd h (by decide))
      refine aw_lload_n 1 D_rr_ruleFails_32 rfl rfl ?_
      refine aw_callS1 (As := [_]) D_rr_ruleFails_33 kv_jl_bitCount (c_bitL (x := lN (wsm f g 10))) rfl rfl (Nat.le_of_ble_eq_true rfl) (Nat.zero_le _) (Nat.zero_le _) ?_
      rw [pcL_bs (wsm_lt hf hg 10)]
      refine aw_iconst (nI 1) D_rr_ruleFails_36 rfl ?_
      first | with_reducible refine aw_iandN D_rr_ruleFails_37 ?_ | refine aw_iand D_rr_ruleFails_37 ?_
      refine aw_iconst (nI 1) D_rr_ruleFails_38 rfl ?_
      rw [Nat.and_one_is_mod, hb]
      have hm := Nat.mod_lt (fb_sm (fun j => f j * g j) 640) (show 0 < 2 by decide)
      refine aw_icmp_neN D_rr_ruleFails_39 (by omega) (by decide) (fun h => ?_) (fun h => ?_)
      · rw [if_neg h]
        refine aw_iconst (nI 0) D_rr_ruleFails_46 rfl ?_
        refine aw_ireturn D_rr_ruleFails_47 rfl rfl ?_
        exact ⟨rfl, rfl⟩
      · rw [if_pos h]
        refine aw_iconst (nI 1) D_rr_ruleFails_42 rfl ?_
        refine aw_goto D_rr_ruleFails_43 ?_
        refine aw_ireturn D_rr_ruleFails_47 rfl rfl ?_
        exact ⟨rfl, rfl⟩
    | succ d ih =>
      intro i hi
      refine aw_iload_n 3 D_rr_ruleFails_4 rfl rfl ?_
      refine aw_bipush (nI 10) D_rr_ruleFails_5 rfl ?_
      refine aw_icmp_geN D_rr_ruleFails_7 (by omega) (by decide) (fun h => absurd h (by omega)) (fun h => ?_)
      refine aw_lload_n 1 D_rr_ruleFails_10 rfl rfl ?_
      refine aw_aload_n 0 D_rr_ruleFails_11 rfl rfl ?_
      refine aw_get D_rr_ruleFails_12 rfl rfl ?_
      refine aw_iload_n 3 D_rr_ruleFails_15 rfl rfl ?_
      refine aw_laldN D_rr_ruleFails_16 rfl (by omega) (by omega) ?_
      refine aw_aload_n 0 D_rr_ruleFails_17 rfl rfl ?_
      refine aw_get D_rr_ruleFails_18 rfl rfl ?_
      refine aw_iload_n 3 D_rr_ruleFails_21 rfl rfl ?_
      refine aw_laldN D_rr_ruleFails_22 rfl (by omega) (by omega) ?_
      refine aw_land D_rr_ruleFails_23 ?_
      dsimp only [lF]
      rw [fb_andL]
      refine aw_lxor D_rr_ruleFails_24 ?_
      rw [fb_xorL]
      refine aw_lstore_n 1 D_rr_ruleFails_25 rfl (Nat.le_of_ble_eq_true rfl) rfl ?_
      first | refine aw_incN D_rr_ruleFails_26 rfl (Nat.le_of_ble_eq_true rfl) rfl ?_ | refine aw_inc D_rr_ruleFails_26 rfl (Nat.le_of_ble_eq_true rfl) rfl ?_
      refine aw_goto D_rr_ruleFails_29 ?_
      exact ih (i + 1) (by omega)
  refine aw_lconst (lN 0) D_rr_ruleFails_0 rfl ?_
  refine aw_lstore_n 1 D_rr_ruleFails_1 rfl (Nat.le_of_ble_eq_true rfl) rfl ?_
  refine aw_iconst (nI 0) D_rr_ruleFails_2 rfl ?_
  refine aw_istore_n 3 D_rr_ruleFails_3 rfl (Nat.le_of_ble_eq_true rfl) rfl ?_
  exact key 10 0 (by omega)
theorem c_rr_correct {f g : Nat → Nat} {e : Nat} (he : e ≤ 1) (hf : ∀ j, f j < 2) (hg : ∀ j, g j < 2) : AMet M_rr_correctRule [.ref 5, .int (nI e)] [mn, rg, ri, tr, SH la zs cs, RR mk (pkd f) (pkd g) re ms sp, mo, dy] (Ex none [mn, rg, ri, tr, SH la zs cs, RR mk (pkd (xr f g)) (pkd (if e = 1 then f else g)) re ms sp, mo, dy]) 0 0 := by
  refine AMet.of [(0, .ref 5), (1, .int (nI e))] (by decide +kernel) rfl (Nat.le_of_ble_eq_true rfl) ?_
  have key : ∀ (d i : Nat) (L5 : List (Nat × Value)) (ru ol : Nat → Nat), i + d = 10 → (L5 = [] ∨ ∃ x, L5 = [(3, Value.long x)]) → (∀ j, j < 10 → ru j = if j < i then pkd (xr f g) j else pkd f j) → (∀ j, j < 10 → ol j = if j < i then pkd (if e = 1 then f else g) j else pkd g j) → AW M_rr_correctRule noP (Zp (Ex none [mn, rg, ri, tr, SH la zs cs, RR mk (pkd (xr f g)) (pkd (if e = 1 then f else g)) re ms sp, mo, dy])) 0 0 2 ([(0, .ref 5), (1, .int (nI e)), (2, .int (nI i))] ++ L5) [] [mn, rg, ri, tr, SH la zs cs, RR mk ru ol re ms sp, mo, dy] 0 0 := by
    intro d
    induction d with
    | zero =>
      intro i L5 ru ol hi hL h1 h2
      have hi : i = 10 := by omega
      subst hi
      have hfin : AW M_rr_correctRule noP (Zp (Ex none [mn, rg, ri, tr, SH la zs cs, RR mk (pkd (xr f g)) (pkd (if e = 1 then f else g)) re ms sp, mo, dy])) 0 0 2 [(0, .ref 5), (1, .int (nI e)), (2, .int (nI 10))] [] [mn, rg, ri, tr, SH la zs cs, RR mk ru ol re ms sp, mo, dy] 0 0 := by
        refine aw_rowL (q := 21) (t := 1) (N := 10) (f := lF ru) (g := lF (pkd (xr f g))) rfl (fun j hj => by show lN (ru j) = _; rw [h1 j hj, if_pos hj]) ?_
        refine aw_rowL (q := 37) (t := 1) (N := 10) (f := lF ol) (g := lF (pkd (if e = 1 then f else g))) rfl (fun j hj => by show lN (ol j) = _; rw [h2 j hj, if_pos hj]) ?_
        show AW _ noP _ 0 0 2 _ _ [mn, rg, ri, tr, SH la zs cs, RR mk (pkd (xr f g)) (pkd (if e = 1 then f else g)) re ms sp, mo, dy] _ _
        refine aw_iload_n 2 D_rr_correctRule_2 rfl rfl ?_
        refine aw_bipush (nI 10) D_rr_correctRule_3 rfl ?_
        refine aw_icmp_geN D_rr_correctRule_5 (by decide) (by decide) (fun h => ?_) (fun h => absurd h (by decide))
        refine aw_return D_rr_correctRule_46 rfl ?_
        exact ⟨rfl, rfl⟩
      rcases hL with rfl | ⟨x, rfl⟩
      · exact hfin
      · exact aw_take 3 hfin
    | succ d ih =>
      intro i L5 ru ol hi hL h1 h2
      have hi1 : ru i = pkd f i := by rw [h1 i (by omega), if_neg (by omega)]
      have hi2 : ol i = pkd g i := by rw [h2 i (by omega), if_neg (by omega)]
      have hfin : AW M_rr_correctRule noP (Zp (Ex none [mn, rg, ri, tr, SH la zs cs, RR mk (pkd (xr f g)) (pkd (if e = 1 then f else g)) re ms sp, mo, dy])) 0 0 2 [(0, .ref 5), (1, .int (nI e)), (2, .int (nI i))] [] [mn, rg, ri, tr, SH la zs cs, RR mk ru ol re ms sp, mo, dy] 0 0 := by
        refine aw_iload_n 2 D_rr_correctRule_2 rfl rfl ?_
        refine aw_bipush (nI 10) D_rr_correctRule_3 rfl ?_
        refine aw_icmp_geN D_rr_correctRule_5 (by omega) (by decide) (fun h => absurd h (by omega)) (fun h => ?_)
        refine aw_aload_n 0 D_rr_correctRule_8 rfl rfl ?_
        refine aw_get D_rr_correctRule_9 rfl rfl ?_
        refine aw_iload_n 2 D_rr_correctRule_12 rfl rfl ?_
        refine aw_laldN D_rr_correctRule_13 rfl (by omega) (by omega) ?_
        refine aw_lstore_n 3 D_rr_correctRule_14 rfl (Nat.le_of_ble_eq_true rfl) rfl ?_
        refine aw_aload_n 0 D_rr_correctRule_15 rfl rfl ?_
        refine aw_get D_rr_correctRule_16 rfl rfl ?_
        refine aw_iload_n 2 D_rr_correctRule_19 rfl rfl ?_
        refine aw_lload_n 3 D_rr_correctRule_20 rfl rfl ?_
        refine aw_aload_n 0 D_rr_correctRule_21 rfl rfl ?_
        refine aw_get D_rr_correctRule_22 rfl rfl ?_
        refine aw_iload_n 2 D_rr_correctRule_25 rfl rfl ?_
        refine aw_laldN D_rr_correctRule_26 rfl (by omega) (by omega) ?_
        refine aw_lxor D_rr_correctRule_27 ?_
        dsimp only [lF]
        rw [hi1, hi2, fb_xorL, show pkd f i ^^^ pkd g i = pkd (xr f g) i from wd_xor hf hg 64 (64 * i)]
        refine aw_lastN D_rr_correctRule_28 rfl (by omega) (by omega) ?_
        refine aw_iload_n 1 D_rr_correctRule_29 rfl rfl ?_
        have hu1 : ∀ j, j < 10 → va_up ru i (pkd (xr f g) i) j = if j < i + 1 then pkd (xr f g) j else pkd f j := fun j hj => by
          unfold va_up
          by_cases q : j = i
          · rw [if_pos q, if_pos (by omega), q]
          · rw [if_neg q, h1 j hj]
            by_cases q2 : j < i
            · rw [if_pos q2, if_pos (by omega)]
            · rw [if_neg q2, if_neg (by omega)]
        refine aw_if_eqN D_rr_correctRule_30 (by omega) (fun h => ?_) (fun h => ?_)
        · first | refine aw_incN D_rr_correctRule_40 rfl (Nat.le_of_ble_eq_true rfl) rfl ?_ | refine aw_inc D_rr_correctRule_40 rfl (Nat.le_of_ble_eq_true rfl) rfl ?_
          refine aw_goto D_rr_correctRule_43 ?_
          refine ih (i + 1) [(3, .long (lN (pkd f i)))] (va_up ru i (pkd (xr f g) i)) ol (by omega) (Or.inr ⟨_, rfl⟩) hu1 (fun j hj => ?_)
          rw [h2 j hj, if_neg (show ¬ e = 1 by omega)]
          split <;> split <;> rfl
        · refine aw_aload_n 0 D_rr_correctRule_33 rfl rfl ?_
          refine aw_get D_rr_correctRule_34 rfl rfl ?_
          refine aw_iload_n 2 D_rr_correctRule_37 rfl rfl ?_
          refine aw_lload_n 3 D_rr_correctRule_38 rfl rfl ?_
          refine aw_lastN D_rr_correctRule_39 rfl (by omega) (by omega) ?_
          first | refine aw_incN D_rr_correctRule_40 rfl (Nat.le_of_ble_eq_true rfl) rfl ?_ | refine aw_inc D_rr_correctRule_40 rfl (Nat.le_of_ble_eq_true rfl) rfl ?_
          refine aw_goto D_rr_correctRule_43 ?_
          refine ih (i + 1) [(3, .long (lN (pkd f i)))] (va_up ru i (pkd (xr f g) i)) (va_up ol i (pkd f i)) (by omega) (Or.inr ⟨_, rfl⟩) hu1 (fun j hj => ?_)
          unfold va_up
          rw [if_pos (show e = 1 by omega)] at h2 ⊢
          by_cases q : j = i
          · rw [if_pos q, if_pos (by omega), q]
          · rw [if_neg q, h2 j hj]
            by_cases q2 : j < i
            · rw [if_pos q2, if_pos (by omega)]
            · rw [if_neg q2, if_neg (by omega)]
      rcases hL with rfl | ⟨x, rfl⟩
      · exact hfin
      · exact aw_take 3 hfin
  refine aw_iconst (nI 0) D_rr_correctRule_0 rfl ?_
  refine aw_istore_n 2 D_rr_correctRule_1 rfl (Nat.le_of_ble_eq_true rfl) rfl ?_
  exact key 10 0 [] (pkd f) (pkd g) (by omega) (Or.inl rfl) (fun j _ => (if_neg (by omega)).symm) (fun j _ => (if_neg (by omega)).symm)
theorem pkd_bm0 : ∀ j, j < 10 → va_up (fun _ => 0) 0 1 j = pkd bm0 j := by decide +kernel
theorem pkd_0 : ∀ j, j < 10 → (0 : Nat) = pkd (fun _ => 0) j := by decide +kernel
theorem c_rr_order (hk : k < 4) (hn : n ≤ 600) : AMet M_rr_linearOrder [.ref 5, .ref (4 + 32 * k), .int (nI n)] [mn, rg, ri, tr, SH la zs cs, RR mk ru ol re ms sp, mo, dy]
    (fun r w' => ∃ (ru' ol' re' : Nat → Nat), r = some (.int (nI (bms (fun i => bt (cs k i)) n).1)) ∧ w' = [mn, rg, ri, tr, SH la zs cs, RR mk ru' ol' re' ms sp, mo, dy]) 0 0 := by
  refine AMet.of [(0, .ref 5), (1, .ref (4 + 32 * k)), (2, .int (nI n))] (by decide +kernel) rfl (Nat.le_of_ble_eq_true rfl) ?_
  generalize hZ : (fun (r : Option Value) (w' : Wd) => ∃ (ru' ol' re' : Nat → Nat), r = some (.int (nI (bms (fun i => bt (cs k i)) n).1)) ∧ w' = [mn, rg, ri, tr, SH la zs cs, RR mk ru' ol' re' ms sp, mo, dy]) = ZZ
  generalize hc : (fun i => bt (cs k i)) = c at hZ
  have hci : ∀ i, bt (cs k i) = c i := fun i => congrFun hc i
  have hc2 : ∀ i, c i < 2 := fun i => by rw [← hci]; exact bt_lt _
  have key : ∀ (d i L : Nat) (r o : Nat → Nat) (L5 : List (Nat × Value)), i + d = n → bms c i = (L, r, o) → (L5 = [] ∨ ∃ x, L5 = [(5, Value.int x)]) → AW M_rr_linearOrder noP (Zp ZZ) 0 0 43 ([(0, .ref 5), (1, .ref (4 + 32 * k)), (2, .int (nI n)), (3, .int (nI L)), (4, .int (nI i))] ++ L5) [] [mn, rg, ri, tr, SH la zs cs, RR mk (pkd r) (pkd o) (pkd (rct c i)) ms sp, mo, dy] 0 0 := by
    intro d
    induction d with
    | zero =>
      intro i L r o L5 hi hs hL
      have hfin : AW M_rr_linearOrder noP (Zp ZZ) 0 0 43 [(0, .ref 5), (1, .ref (4 + 32 * k)), (2, .int (nI n)), (3, .int (nI L)), (4, .int (nI i))] [] [mn, rg, ri, tr, SH la zs cs, RR mk (pkd r) (pkd o) (pkd (rct c i)) ms sp, mo, dy] 0 0 := by
        refine aw_iload D_rr_linearOrder_43 rfl ?_
        refine aw_iload_n 2 D_rr_linearOrder_45 rfl rfl ?_
        refine aw_icmp_geN D_rr_linearOrder_46 (by omega) (by omega) (fun h => ?_) (fun h => absurd h (by omega))
        refine aw_iload_n 3 D_rr_linearOrder_121 rfl rfl ?_
        refine aw_ireturn D_rr_linearOrder_122 rfl rfl ?_
        subst hZ; exact ⟨_, _, _, by rw [show n = i by omega, hs], rfl⟩
      rcases hL with rfl | ⟨x, rfl⟩
      · exact hfin
      · exact aw_take 5 hfin
    | succ d ih =>
      intro i L r o L5 hi hs hL
      have hLi := bms_le c i
      have hlt := bms_lt c i
      rw [hs] at hLi hlt
      obtain ⟨hr, ho⟩ := hlt
      dsimp only at hLi hr ho
      have hr1 := rct_lt hc2 i
      have hr2 := rct_lt hc2 (i + 1)
      have ho1 : ∀ j, shq 0 o j < 2 := shq_lt (by decide) ho
      have hnx : bms c (i + 1) = if fb_sm (fun j => r j * rct c (i + 1) j) 640 % 2 = 1 then (if 2 * L ≤ i then (i + 1 - L, xr r (shq 0 o), r) else (L, xr r (shq 0 o), shq 0 o)) else (L, r, shq 0 o) := by
        show (if _ then _ else _) = _
        rw [hs]
      have hfin : AW M_rr_linearOrder noP (Zp ZZ) 0 0 43 [(0, .ref 5), (1, .ref (4 + 32 * k)), (2, .int (nI n)), (3, .int (nI L)), (4, .int (nI i))] [] [mn, rg, ri, tr, SH la zs cs, RR mk (pkd r) (pkd o) (pkd (rct c i)) ms sp, mo, dy] 0 0 := by
        refine aw_iload D_rr_linearOrder_43 rfl ?_
        refine aw_iload_n 2 D_rr_linearOrder_45 rfl rfl ?_
        refine aw_icmp_geN D_rr_linearOrder_46 (by omega) (by omega) (fun h => absurd h (by omega)) (fun h => ?_)
        refine aw_aload_n 0 D_rr_linearOrder_49 rfl rfl ?_
        refine aw_get D_rr_linearOrder_50 rfl rfl ?_
        refine aw_lconst (lN 0) D_rr_linearOrder_53 rfl ?_
        refine aw_callSv (As := [_, _]) D_rr_linearOrder_54 kv_rr_shiftIn (c_rr_shift (q := 37) (c := 0) (f := o) ho (by decide) rfl) rfl rfl (Nat.le_of_ble_eq_true rfl) (Nat.zero_le _) (Nat.zero_le _) ?_
        show AW _ noP _ 0 0 57 _ _ [mn, rg, ri, tr, SH la zs cs, RR mk (pkd r) (pkd (shq 0 o)) (pkd (rct c i)) ms sp, mo, dy] _ _
        refine aw_aload_n 0 D_rr_linearOrder_57 rfl rfl ?_
        refine aw_get D_rr_linearOrder_58 rfl rfl ?_
        refine aw_aload_n 1 D_rr_linearOrder_61 rfl rfl ?_
        refine aw_iload D_rr_linearOrder_62 rfl ?_
        refine aw_callV1 (As := [_]) D_rr_linearOrder_64 kv_sh_bitAt (c_sh_bit (i := i) (by omega) (sh_obj hk) (sh_cel hk)) rfl rfl (sh_obj hk) rfl rfl (Nat.le_of_ble_eq_true rfl) (Nat.zero_le _) (Nat.zero_le _) ?_
        rw [hci]
        have hci2 := hc2 i
        first | with_reducible refine aw_i2lN D_rr_linearOrder_67 (by omega) ?_ | refine aw_i2l D_rr_linearOrder_67 ?_
        refine aw_callSv (As := [_, _]) D_rr_linearOrder_68 kv_rr_shiftIn (c_rr_shift (q := 53) (c := c i) (f := rct c i) hr1 (hc2 i) rfl) rfl rfl (Nat.le_of_ble_eq_true rfl) (Nat.zero_le _) (Nat.zero_le _) ?_
        show AW _ noP _ 0 0 71 _ _ [mn, rg, ri, tr, SH la zs cs, RR mk (pkd r) (pkd (shq 0 o)) (pkd (rct c (i + 1))) ms sp, mo, dy] _ _
        refine aw_aload_n 0 D_rr_linearOrder_71 rfl rfl ?_
        refine aw_callV1 (As := []) D_rr_linearOrder_72 kv_rr_ruleFails (c_rr_fails hr hr2) rfl rfl rfl rfl rfl (Nat.le_of_ble_eq_true rfl) (Nat.zero_le _) (Nat.zero_le _) ?_
        by_cases hoff : fb_sm (fun j => r j * rct c (i + 1) j) 640 % 2 = 1
        · rw [if_pos hoff] at hnx ⊢
          refine aw_if_eqN D_rr_linearOrder_75 (by decide) (fun h => absurd h (by decide)) (fun h => ?_)
          refine aw_iconst (nI 2) D_rr_linearOrder_78 rfl ?_
          refine aw_iload_n 3 D_rr_linearOrder_79 rfl rfl ?_
          first | with_reducible refine aw_imulN D_rr_linearOrder_80 ?_ | refine aw_imul D_rr_linearOrder_80 ?_
          refine aw_iload D_rr_linearOrder_81 rfl ?_
          by_cases hgr : 2 * L ≤ i
          · rw [if_pos hgr] at hnx
            refine aw_icmp_gtN D_rr_linearOrder_83 (by omega) (by omega) (fun h => absurd h (by omega)) (fun h => ?_)
            refine aw_iconst (nI 1) D_rr_linearOrder_86 rfl ?_
            refine aw_goto D_rr_linearOrder_87 ?_
            refine aw_istore D_rr_linearOrder_91 (Nat.le_of_ble_eq_true rfl) rfl ?_
            refine aw_aload_n 0 D_rr_linearOrder_93 rfl rfl ?_
            refine aw_iload D_rr_linearOrder_94 rfl ?_
            refine aw_callVv (As := [_]) D_rr_linearOrder_96 kv_rr_correctRule (c_rr_correct (e := 1) (f := r) (g := shq 0 o) (by decide) hr ho1) rfl rfl rfl rfl rfl (Nat.le_of_ble_eq_true rfl) (Nat.zero_le _) (Nat.zero_le _) ?_
            rw [if_pos rfl]
            refine aw_iload D_rr_linearOrder_99 rfl ?_
            refine aw_if_eqN D_rr_linearOrder_101 (by decide) (fun h => absurd h (by decide)) (fun h => ?_)
            refine aw_iload D_rr_linearOrder_104 rfl ?_
            refine aw_iconst (nI 1) D_rr_linearOrder_106 rfl ?_
            first | with_reducible refine aw_iaddN D_rr_linearOrder_107 ?_ | refine aw_iadd D_rr_linearOrder_107 ?_
            refine aw_iload_n 3 D_rr_linearOrder_108 rfl rfl ?_
            first | with_reducible refine aw_isubN D_rr_linearOrder_109 (by omega) ?_ | refine aw_isub D_rr_linearOrder_109 ?_
            refine aw_goto D_rr_linearOrder_110 ?_
            refine aw_istore_n 3 D_rr_linearOrder_114 rfl (Nat.le_of_ble_eq_true rfl) rfl ?_
            first | refine aw_incN D_rr_linearOrder_115 rfl (Nat.le_of_ble_eq_true rfl) rfl ?_ | refine aw_inc D_rr_linearOrder_115 rfl (Nat.le_of_ble_eq_true rfl) rfl ?_
            refine aw_goto D_rr_linearOrder_118 ?_
            exact ih (i + 1) _ _ _ [(5, .int (nI 1))] (by omega) hnx (Or.inr ⟨_, rfl⟩)
          · rw [if_neg hgr] at hnx
            refine aw_icmp_gtN D_rr_linearOrder_83 (by omega) (by omega) (fun h => ?_) (fun h => absurd h (by omega))
            refine aw_iconst (nI 0) D_rr_linearOrder_90 rfl ?_
            refine aw_istore D_rr_linearOrder_91 (Nat.le_of_ble_eq_true rfl) rfl ?_
            refine aw_aload_n 0 D_rr_linearOrder_93 rfl rfl ?_
            refine aw_iload D_rr_linearOrder_94 rfl ?_
            refine aw_callVv (As := [_]) D_rr_linearOrder_96 kv_rr_correctRule (c_rr_correct (e := 0) (f := r) (g := shq 0 o) (by decide) hr ho1) rfl rfl rfl rfl rfl (Nat.le_of_ble_eq_true rfl) (Nat.zero_le _) (Nat.zero_le _) ?_
            rw [if_neg (by decide)]
            refine aw_iload D_rr_linearOrder_99 rfl ?_
            refine aw_if_eqN D_rr_linearOrder_101 (by decide) (fun h => ?_) (fun h => absurd h (by decide))
            refine aw_iload_n 3 D_rr_linearOrder_113 rfl rfl ?_
            refine aw_istore_n 3 D_rr_linearOrder_114 rfl (Nat.le_of_ble_eq_true rfl) rfl ?_
            first | refine aw_incN D_rr_linearOrder_115 rfl (Nat.le_of_ble_eq_true rfl) rfl ?_ | refine aw_inc D_rr_linearOrder_115 rfl (Nat.le_of_ble_eq_true rfl) rfl ?_
            refine aw_goto D_rr_linearOrder_118 ?_
            exact ih (i + 1) _ _ _ [(5, .int (nI 0))] (by omega) hnx (Or.inr ⟨_, rfl⟩)
        · rw [if_neg hoff] at hnx ⊢
          refine aw_if_eqN D_rr_linearOrder_75 (by decide) (fun h => ?_) (fun h => absurd h (by decide))
          first | refine aw_incN D_rr_linearOrder_115 rfl (Nat.le_of_ble_eq_true rfl) rfl ?_ | refine aw_inc D_rr_linearOrder_115 rfl (Nat.le_of_ble_eq_true rfl) rfl ?_
          refine aw_goto D_rr_linearOrder_118 ?_
          exact ih (i + 1) _ _ _ [] (by omega) hnx (Or.inl rfl)
      rcases hL with rfl | ⟨x, rfl⟩
      · exact hfin
      · exact aw_take 5 hfin
  refine aw_aload_n 0 D_rr_linearOrder_0 rfl rfl ?_
  refine aw_get D_rr_linearOrder_1 rfl rfl ?_
  refine aw_lconst (lN 0) D_rr_linearOrder_4 rfl ?_
  refine aw_callSv (As := [_, _]) D_rr_linearOrder_5 kv_ja_fillJ (c_fillJ (q := 21) (N := 10) (f := lF ru) (x := lN 0) (by decide) rfl) rfl rfl (Nat.le_of_ble_eq_true rfl) (Nat.zero_le _) (Nat.zero_le _) ?_
  refine aw_rowL (q := 21) (t := 1) (N := 10) (f := fun j => if j < 10 then lN 0 else lF ru j) (g := lF (fun _ => 0)) rfl (fun j hj => if_pos hj) ?_
  show AW _ noP _ 0 0 8 _ _ [mn, rg, ri, tr, SH la zs cs, RR mk (fun _ => 0) ol re ms sp, mo, dy] _ _
  refine aw_aload_n 0 D_rr_linearOrder_8 rfl rfl ?_
  refine aw_get D_rr_linearOrder_9 rfl rfl ?_
  refine aw_lconst (lN 0) D_rr_linearOrder_12 rfl ?_
  refine aw_callSv (As := [_, _]) D_rr_linearOrder_13 kv_ja_fillJ (c_fillJ (q := 37) (N := 10) (f := lF ol) (x := lN 0) (by decide) rfl) rfl rfl (Nat.le_of_ble_eq_true rfl) (Nat.zero_le _) (Nat.zero_le _) ?_
  refine aw_rowL (q := 37) (t := 1) (N := 10) (f := fun j => if j < 10 then lN 0 else lF ol j) (g := lF (fun _ => 0)) rfl (fun j hj => if_pos hj) ?_
  show AW _ noP _ 0 0 16 _ _ [mn, rg, ri, tr, SH la zs cs, RR mk (fun _ => 0) (fun _ => 0) re ms sp, mo, dy] _ _
  refine aw_aload_n 0 D_rr_linearOrder_16 rfl rfl ?_
  refine aw_get D_rr_linearOrder_17 rfl rfl ?_
  refine aw_lconst (lN 0) D_rr_linearOrder_20 rfl ?_
  refine aw_callSv (As := [_, _]) D_rr_linearOrder_21 kv_ja_fillJ (c_fillJ (q := 53) (N := 10) (f := lF re) (x := lN 0) (by decide) rfl) rfl rfl (Nat.le_of_ble_eq_true rfl) (Nat.zero_le _) (Nat.zero_le _) ?_
  refine aw_rowL (q := 53) (t := 1) (N := 10) (f := fun j => if j < 10 then lN 0 else lF re j) (g := lF (pkd (fun _ => 0))) rfl (fun j hj => by rw [if_pos hj]; exact congrArg lN (pkd_0 j hj)) ?_
  show AW _ noP _ 0 0 24 _ _ [mn, rg, ri, tr, SH la zs cs, RR mk (fun _ => 0) (fun _ => 0) (pkd (fun _ => 0)) ms sp, mo, dy] _ _
  refine aw_aload_n 0 D_rr_linearOrder_24 rfl rfl ?_
  refine aw_get D_rr_linearOrder_25 rfl rfl ?_
  refine aw_iconst (nI 0) D_rr_linearOrder_28 rfl ?_
  refine aw_lconst (lN 1) D_rr_linearOrder_29 rfl ?_
  refine aw_lastN D_rr_linearOrder_30 rfl (by omega) (by omega) ?_
  refine aw_aload_n 0 D_rr_linearOrder_31 rfl rfl ?_
  refine aw_get D_rr_linearOrder_32 rfl rfl ?_
  refine aw_iconst (nI 0) D_rr_linearOrder_35 rfl ?_
  refine aw_lconst (lN 1) D_rr_linearOrder_36 rfl ?_
  refine aw_lastN D_rr_linearOrder_37 rfl (by omega) (by omega) ?_
  refine aw_iconst (nI 0) D_rr_linearOrder_38 rfl ?_
  refine aw_istore_n 3 D_rr_linearOrder_39 rfl (Nat.le_of_ble_eq_true rfl) rfl ?_
  refine aw_iconst (nI 0) D_rr_linearOrder_40 rfl ?_
  refine aw_istore D_rr_linearOrder_41 (Nat.le_of_ble_eq_true rfl) rfl ?_
  refine aw_rowL (q := 21) (t := 1) (N := 10) (f := lF (va_up (fun _ => 0) 0 1)) (g := lF (pkd bm0)) rfl (fun j hj => congrArg lN (pkd_bm0 j hj)) ?_
  refine aw_rowL (q := 37) (t := 1) (N := 10) (f := lF (va_up (fun _ => 0) 0 1)) (g := lF (pkd bm0)) rfl (fun j hj => congrArg lN (pkd_bm0 j hj)) ?_
  exact key n 0 0 bm0 bm0 [] (by omega) rfl (Or.inl rfl)
end Order
