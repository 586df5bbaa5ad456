/-! ### how many bits are 1, in a long -/
theorem uu63 : ∀ n, n < 64 → (((nI n).toInt64.toUInt64 &&& Int64.toUInt64 63).toBitVec % 64).toNat = n := by decide +kernel
theorem lN_bv (x : Nat) : (lN x).toBitVec = BitVec.ofNat 64 x := rfl
theorem lN_ushr {x k : Nat} (hx : x < 2 ^ 64) (hk : k < 64) : ((lN x).toUInt64 >>> ((nI k).toInt64.toUInt64 &&& Int64.toUInt64 63)).toInt64 = lN (x / 2 ^ k) := by
  apply Int64.toBitVec_inj.mp
  show ((lN x).toUInt64 >>> ((nI k).toInt64.toUInt64 &&& Int64.toUInt64 63)).toBitVec = _
  rw [UInt64.toBitVec_shiftRight]
  apply BitVec.eq_of_toNat_eq
  rw [BitVec.ushiftRight_eq', BitVec.toNat_ushiftRight, uu63 k hk]
  show (BitVec.ofNat 64 x).toNat >>> k = (BitVec.ofNat 64 (x / 2 ^ k)).toNat
  rw [BitVec.toNat_ofNat, BitVec.toNat_ofNat, Nat.mod_eq_of_lt hx, Nat.shiftRight_eq_div_pow, Nat.mod_eq_of_lt (Nat.lt_of_le_of_lt (Nat.div_le_self _ _) hx)]
theorem lN_mod (x : Nat) : lN (x % 2 ^ 64) = lN x := by
  apply Int64.toBitVec_inj.mp
  rw [lN_bv, lN_bv]
  apply BitVec.eq_of_toNat_eq
  rw [BitVec.toNat_ofNat, BitVec.toNat_ofNat, Nat.mod_mod]
theorem lN_shl1 (x : Nat) : lN x <<< ((nI 1).toInt64 &&& 63) = lN (2 * x) := by
  have h : (nI 1).toInt64 &&& 63 = 1 := by decide
  rw [h]
  apply Int64.toBitVec_inj.mp
  rw [Int64.toBitVec_shiftLeft, lN_bv, lN_bv]
  show BitVec.ofNat 64 x <<< ((1#64).smod 64) = _
  rw [show (1#64).smod 64 = 1#64 by decide]
  apply BitVec.eq_of_toNat_eq
  rw [BitVec.shiftLeft_eq', BitVec.toNat_shiftLeft]
  show (BitVec.ofNat 64 x).toNat <<< 1 % 2 ^ 64 = (BitVec.ofNat 64 (2 * x)).toNat
  rw [BitVec.toNat_ofNat, BitVec.toNat_ofNat, Nat.shiftLeft_eq]
  omega
/-- bits one by one -/
def bs : Nat → Nat → Nat
  | _, 0 => 0
  | x, n + 1 => x % 2 + bs (x / 2) n
def gb (b : Nat) : Nat := bs b 8
def s1 (b : Nat) : Nat := b - ((b / 2) &&& 85)
def s2 (b : Nat) : Nat := (b &&& 51) + ((b / 4) &&& 51)
def s3 (b : Nat) : Nat := (b + b / 16) &&& 15
theorem byte1 : ∀ b, b < 256 → (((b / 2) &&& 85) = ((b / 2 + 128) &&& 85)) ∧ ((b / 2) &&& 85) ≤ b ∧ s1 b < 256 := by decide +kernel
theorem byte2 : ∀ b, b < 256 → ((b / 4) &&& 51) = ((b / 4 + 64) &&& 51) ∧ ((b / 4) &&& 51) = ((b / 4 + 128) &&& 51) ∧ ((b / 4) &&& 51) = ((b / 4 + 192) &&& 51) ∧ s2 b < 256 := by decide +kernel
theorem byte3 : ∀ b, b < 256 → s2 (s1 b) ≤ 68 ∧ s2 (s1 b) % 16 ≤ 4 ∧ s3 (s2 (s1 b)) = gb b ∧ gb b ≤ 8 := by decide +kernel
theorem byte4 : ∀ b, b < 69 → ∀ t, t < 5 → ((b + b / 16 + 16 * t) &&& 15) = s3 b := by decide +kernel
def M (m : Nat) : Nat → Nat
  | 0 => 0
  | k + 1 => m + 256 * M m k
theorem and_hor {a c p q : Nat} (ha : a < 256) (hp : p < 256) : (a + 256 * c) &&& (p + 256 * q) = (a &&& p) + 256 * (c &&& q) := by
  have h1 := @Nat.and_mod_two_pow (a + 256 * c) (p + 256 * q) 8
  have h2 := @Nat.and_div_two_pow (a + 256 * c) (p + 256 * q) 8
  rw [show (2 ^ 8 : Nat) = 256 from rfl] at h1 h2
  rw [show (a + 256 * c) % 256 = a by omega, show (p + 256 * q) % 256 = p by omega] at h1
  rw [show (a + 256 * c) / 256 = c by omega, show (p + 256 * q) / 256 = q by omega] at h2
  omega
def st1 (k x : Nat) : Nat := x - ((x / 2) &&& M 85 k)
def st2 (k x : Nat) : Nat := (x &&& M 51 k) + ((x / 4) &&& M 51 k)
def st3 (k x : Nat) : Nat := (x + x / 16) &&& M 15 k
theorem st1_hor {k b y : Nat} (hb : b < 256) : st1 (k + 1) (b + 256 * y) = s1 b + 256 * st1 k y := by
  unfold st1 s1
  have h := byte1 b hb
  show b + 256 * y - ((b + 256 * y) / 2 &&& (85 + 256 * M 85 k)) = _
  have e : (b + 256 * y) / 2 = (b / 2 + 128 * (y % 2)) + 256 * (y / 2) := by omega
  rw [e, and_hor (by omega) (by omega)]
  have e2 : (b / 2 + 128 * (y % 2)) &&& 85 = (b / 2) &&& 85 := by
    rcases (show y % 2 = 0 ∨ y % 2 = 1 by omega) with q | q <;> rw [q]
    · rfl
    · exact h.1.symm
  rw [e2]
  have h3 : (y / 2 &&& M 85 k) ≤ y / 2 := Nat.and_le_left
  omega
theorem st2_hor {k b y : Nat} (hb : b < 256) : st2 (k + 1) (b + 256 * y) = s2 b + 256 * st2 k y := by
  unfold st2 s2
  have h := byte2 b hb
  show (b + 256 * y &&& (51 + 256 * M 51 k)) + ((b + 256 * y) / 4 &&& (51 + 256 * M 51 k)) = _
  have e : (b + 256 * y) / 4 = (b / 4 + 64 * (y % 4)) + 256 * (y / 4) := by omega
  rw [e, and_hor (by omega) (by omega), and_hor (by omega) (by omega)]
  have e2 : (b / 4 + 64 * (y % 4)) &&& 51 = (b / 4) &&& 51 := by
    rcases (show y % 4 = 0 ∨ y % 4 = 1 ∨ y % 4 = 2 ∨ y % 4 = 3 by omega) with q | q | q | q <;> rw [q]
    · rfl
    · exact h.1.symm
    · exact h.2.1.symm
    · exact h.2.2.1.symm
  rw [e2]
  omega
theorem st3_hor {k b y : Nat} (hb : b < 69) (hy : y % 16 < 5) : st3 (k + 1) (b + 256 * y) = s3 b + 256 * st3 k y := by
  unfold st3
  show (b + 256 * y + (b + 256 * y) / 16) &&& (15 + 256 * M 15 k) = _
  have e : b + 256 * y + (b + 256 * y) / 16 = (b + b / 16 + 16 * (y % 16)) + 256 * (y + y / 16) := by omega
  rw [e, and_hor (by omega) (by omega), byte4 b hb _ hy]
theorem low4 (k y : Nat) : st2 k (st1 k y) % 16 < 5 := by
  rcases k with _ | k
  · unfold st2
    show ((_ &&& 0) + (_ &&& 0)) % 16 < 5
    rw [Nat.and_zero, Nat.and_zero]
    decide
  · have e : y = y % 256 + 256 * (y / 256) := by omega
    have hb : y % 256 < 256 := by omega
    rw [e, st1_hor hb, st2_hor (byte1 _ hb).2.2]
    have := (byte3 _ hb).2.1
    omega
def stT (k x : Nat) : Nat := st3 k (st2 k (st1 k x))
theorem stT_hor {k b y : Nat} (hb : b < 256) : stT (k + 1) (b + 256 * y) = gb b + 256 * stT k y := by
  unfold stT
  have h3 := byte3 b hb
  rw [st1_hor hb, st2_hor (byte1 b hb).2.2, st3_hor (by omega) (low4 k y), h3.2.2.1]
theorem stT_step (k x : Nat) : stT (k + 1) x = gb (x % 256) + 256 * stT k (x / 256) := by
  have := stT_hor (k := k) (b := x % 256) (y := x / 256) (by omega)
  rw [show x % 256 + 256 * (x / 256) = x by omega] at this
  exact this
theorem bs_byte (x n : Nat) : bs x (n + 8) = gb (x % 256) + bs (x / 256) n := by
  show x % 2 + (x / 2 % 2 + (x / 2 / 2 % 2 + (x / 2 / 2 / 2 % 2 + (x / 2 / 2 / 2 / 2 % 2 + (x / 2 / 2 / 2 / 2 / 2 % 2 + (x / 2 / 2 / 2 / 2 / 2 / 2 % 2 + (x / 2 / 2 / 2 / 2 / 2 / 2 / 2 % 2 + bs (x / 2 / 2 / 2 / 2 / 2 / 2 / 2 / 2) n))))))) = _
  rw [show x / 2 / 2 / 2 / 2 / 2 / 2 / 2 / 2 = x / 256 by omega]
  generalize bs (x / 256) n = r
  show _ = x % 256 % 2 + (x % 256 / 2 % 2 + (x % 256 / 2 / 2 % 2 + (x % 256 / 2 / 2 / 2 % 2 + (x % 256 / 2 / 2 / 2 / 2 % 2 + (x % 256 / 2 / 2 / 2 / 2 / 2 % 2 + (x % 256 / 2 / 2 / 2 / 2 / 2 / 2 % 2 + (x % 256 / 2 / 2 / 2 / 2 / 2 / 2 / 2 % 2 + 0))))))) + r
  omega
theorem gb_le (x : Nat) : gb (x % 256) ≤ 8 := (byte3 (x % 256) (by omega)).2.2.2
theorem fold8 {d0 d1 d2 d3 d4 d5 d6 d7 x3 x4 x5 x6 : Nat} (h0 : d0 ≤ 8) (h1 : d1 ≤ 8) (h2 : d2 ≤ 8) (h3 : d3 ≤ 8) (h4 : d4 ≤ 8) (h5 : d5 ≤ 8) (h6 : d6 ≤ 8) (h7 : d7 ≤ 8)
    (e3 : x3 = d0 + 256 * (d1 + 256 * (d2 + 256 * (d3 + 256 * (d4 + 256 * (d5 + 256 * (d6 + 256 * (d7 + 256 * 0)))))))) (e4 : x4 = x3 + x3 / 2 ^ 8) (e5 : x5 = x4 + x4 / 2 ^ 16) (e6 : x6 = x5 + x5 / 2 ^ 32) : x6 % 128 = d0 + (d1 + (d2 + (d3 + (d4 + (d5 + (d6 + (d7 + 0))))))) ∧ x3 < 2 ^ 64 ∧ x4 < 2 ^ 64 ∧ x5 < 2 ^ 64 := by
  have a3 : x3 / 2 ^ 8 = d1 + 256 * (d2 + 256 * (d3 + 256 * (d4 + 256 * (d5 + 256 * (d6 + 256 * (d7 + 256 * 0)))))) := by rw [e3]; clear e3 e4 e5 e6; omega
  have b3 : x3 < 2 ^ 60 := by rw [e3]; clear e3 e4 e5 e6 a3; omega
  rw [a3] at e4
  have b4 : x4 < 2 ^ 61 := by rw [e4]; clear e4 e5 e6 a3 ; omega
  have a4 : x4 / 2 ^ 16 = (d2 + d3) + 256 * ((d3 + d4) + 256 * ((d4 + d5) + 256 * ((d5 + d6) + 256 * ((d6 + d7) + 256 * d7)))) := by rw [e4, e3]; clear e4 e5 e6 a3 e3 b3 b4; omega
  rw [a4] at e5
  have b5 : x5 < 2 ^ 62 := by clear e6 a3 e3 a4 e4; omega
  have a5 : x5 / 2 ^ 32 = (d4 + d5 + (d6 + d7)) + 256 * ((d5 + d6 + d7) + 256 * (d6 + d7 + 256 * d7)) := by rw [e5, e4, e3]; clear e4 e5 e6 a3 e3 a4 b3 b4 b5; omega
  rw [a5] at e6
  refine ⟨?_, Nat.lt_trans b3 (by decide), Nat.lt_trans b4 (by decide), Nat.lt_trans b5 (by decide)⟩
  rw [e6, e5, e4, e3]
  clear e6 e5 e4 e3 a3 a4 a5 b3 b4 b5
  omega
theorem pcL_bs {x : Nat} (hx : x < 2 ^ 64) : pcL (lN x) = nI (bs x 64) := by
  have m1 : (6148914691236517205 : Nat) = M 85 8 := by decide
  have m2 : (3689348814741910323 : Nat) = M 51 8 := by decide
  have m3 : (1085102592571150095 : Nat) = M 15 8 := by decide
  have t0 : ∀ y, stT 0 y = 0 := fun y => by unfold stT st3; exact Nat.and_zero _
  have hbs : bs x 64 = gb (x % 256) + (gb (x / 256 % 256) + (gb (x / 256 / 256 % 256) + (gb (x / 256 / 256 / 256 % 256) + (gb (x / 256 / 256 / 256 / 256 % 256) + (gb (x / 256 / 256 / 256 / 256 / 256 % 256) + (gb (x / 256 / 256 / 256 / 256 / 256 / 256 % 256) + (gb (x / 256 / 256 / 256 / 256 / 256 / 256 / 256 % 256) + 0))))))) := by
    rw [show (64 : Nat) = 56 + 8 from rfl, bs_byte, show (56 : Nat) = 48 + 8 from rfl, bs_byte, show (48 : Nat) = 40 + 8 from rfl, bs_byte, show (40 : Nat) = 32 + 8 from rfl, bs_byte, show (32 : Nat) = 24 + 8 from rfl, bs_byte, show (24 : Nat) = 16 + 8 from rfl, bs_byte, show (16 : Nat) = 8 + 8 from rfl, bs_byte, show bs (x / 256 / 256 / 256 / 256 / 256 / 256 / 256) 8 = bs (x / 256 / 256 / 256 / 256 / 256 / 256 / 256) (0 + 8) from rfl, bs_byte]
    rfl
  have hst := stT_step 7 x
  rw [stT_step 6, stT_step 5, stT_step 4, stT_step 3, stT_step 2, stT_step 1, stT_step 0, t0] at hst
  have F := fold8 (gb_le x) (gb_le (x / 256)) (gb_le (x / 256 / 256)) (gb_le (x / 256 / 256 / 256)) (gb_le (x / 256 / 256 / 256 / 256)) (gb_le (x / 256 / 256 / 256 / 256 / 256)) (gb_le (x / 256 / 256 / 256 / 256 / 256 / 256)) (gb_le (x / 256 / 256 / 256 / 256 / 256 / 256 / 256)) hst rfl rfl rfl
  rw [← hbs] at F
  obtain ⟨f1, f2, f3, f4⟩ := F
  have hle1 : st1 8 x ≤ x := Nat.sub_le _ _
  have hle2 : st2 8 (st1 8 x) < 2 ^ 64 := by
    unfold st2
    have h1 : (st1 8 x &&& M 51 8) ≤ M 51 8 := Nat.and_le_right
    have h2 : (st1 8 x / 4 &&& M 51 8) ≤ M 51 8 := Nat.and_le_right
    rw [← m2] at h1 h2 ⊢
    omega
  unfold pcL
  dsimp only
  have E1 : lN x - (((lN x).toUInt64 >>> ((nI 1).toInt64.toUInt64 &&& Int64.toUInt64 63)).toInt64 &&& lN 6148914691236517205) = lN (st1 8 x) := by
    rw [lN_ushr hx (by decide), fb_andL, lN_sub (Nat.le_trans Nat.and_le_left (Nat.div_le_self _ _)), m1]
    rfl
  rw [E1]
  have E2 : (lN (st1 8 x) &&& lN 3689348814741910323) + (((lN (st1 8 x)).toUInt64 >>> ((nI 2).toInt64.toUInt64 &&& Int64.toUInt64 63)).toInt64 &&& lN 3689348814741910323) = lN (st2 8 (st1 8 x)) := by
    rw [lN_ushr (by omega) (by decide), fb_andL, fb_andL, lN_add, m2]
    rfl
  rw [E2]
  have E3 : (lN (st2 8 (st1 8 x)) + ((lN (st2 8 (st1 8 x))).toUInt64 >>> ((nI 4).toInt64.toUInt64 &&& Int64.toUInt64 63)).toInt64) &&& lN 1085102592571150095 = lN (stT 8 x) := by
    rw [lN_ushr hle2 (by decide), lN_add, fb_andL, m3]
    rfl
  rw [E3]
  rw [lN_ushr f2 (by decide), lN_add, lN_ushr f3 (by decide), lN_add, lN_ushr f4 (by decide), lN_add, lN_i, fa_and]
  rw [show (127 : Nat) = 2 ^ 7 - 1 from rfl, Nat.and_two_pow_sub_one_eq_mod]
  rw [show (2 ^ 7 : Nat) = 128 from rfl, f1]
/-! bits, xor, and -/
theorem bs_sm (x : Nat) : ∀ n, bs x n = fb_sm (fun t => x / 2 ^ t % 2) n := by
  intro n
  induction n generalizing x with
  | zero => rfl
  | succ n ih =>
    have := fb_sm_split (fun t => x / 2 ^ t % 2) 1 n
    rw [Nat.add_comm 1 n] at this
    rw [this]
    show x % 2 + bs (x / 2) n = (0 + x / 2 ^ 0 % 2) + _
    rw [ih, Nat.pow_zero, Nat.div_one, Nat.zero_add]
    congr 1
    exact fb_sm_cong (fun t ht => by rw [Nat.pow_add, Nat.pow_one, Nat.div_div_eq_div_mul])
theorem xor_m2 (a b : Nat) : (a ^^^ b) % 2 = (a % 2 + b % 2) % 2 := by
  have := @Nat.xor_mod_two_pow a b 1
  rw [show (2 ^ 1 : Nat) = 2 from rfl] at this
  rw [this]
  rcases (show a % 2 = 0 ∨ a % 2 = 1 by omega) with q | q <;> rcases (show b % 2 = 0 ∨ b % 2 = 1 by omega) with q' | q' <;> rw [q, q'] <;> rfl
theorem bs_xor (a b : Nat) : ∀ n, bs (a ^^^ b) n % 2 = (bs a n + bs b n) % 2 := by
  intro n
  induction n generalizing a b with
  | zero => rfl
  | succ n ih =>
    show ((a ^^^ b) % 2 + bs ((a ^^^ b) / 2) n) % 2 = (a % 2 + bs (a / 2) n + (b % 2 + bs (b / 2) n)) % 2
    rw [Nat.xor_div_two, xor_m2]
    have := ih (a / 2) (b / 2)
    omega
theorem bit_xor (a b t : Nat) : (a ^^^ b) / 2 ^ t % 2 = (a / 2 ^ t % 2 + b / 2 ^ t % 2) % 2 := by
  rw [Nat.xor_div_two_pow, xor_m2]
theorem bit_and (a b t : Nat) : (a &&& b) / 2 ^ t % 2 = a / 2 ^ t % 2 * (b / 2 ^ t % 2) := by
  rw [Nat.and_div_two_pow]
  generalize a / 2 ^ t = x
  generalize b / 2 ^ t = y
  have := @Nat.and_mod_two_pow x y 1
  rw [show (2 ^ 1 : Nat) = 2 from rfl] at this
  rw [this]
  rcases (show x % 2 = 0 ∨ x % 2 = 1 by omega) with q | q <;> rcases (show y % 2 = 0 ∨ y % 2 = 1 by omega) with q' | q' <;> rw [q, q'] <;> rfl
theorem bit_shl {x c : Nat} (hx : x < 2 ^ 64) (hc : c < 2) (t : Nat) (ht : t < 64) : (2 * x % 2 ^ 64 + c) / 2 ^ t % 2 = if t = 0 then c else x / 2 ^ (t - 1) % 2 := by
  rcases t with _ | t
  · rw [if_pos rfl, Nat.pow_zero, Nat.div_one]
    omega
  · have e : (2 * x % 2 ^ 64 + c) / 2 ^ (t + 1) = (2 * x % 2 ^ 64 + c) / 2 / 2 ^ t := by rw [show (2 : Nat) ^ (t + 1) = 2 * 2 ^ t by rw [Nat.pow_succ, Nat.mul_comm], Nat.div_div_eq_div_mul]
    rw [if_neg (by omega), Nat.add_sub_cancel, e, show (2 * x % 2 ^ 64 + c) / 2 = x % 2 ^ 63 by omega]
    have e2 : (2 ^ 63 : Nat) = 2 ^ t * 2 ^ (63 - t) := by rw [← Nat.pow_add, show t + (63 - t) = 63 by omega]
    rw [e2, Nat.mod_mul_right_div_self, Nat.mod_mod_of_dvd]
    rw [show 63 - t = (62 - t) + 1 by omega, Nat.pow_succ]
    exact Nat.dvd_mul_left _ _
theorem shl_or {x c : Nat} (hc : c < 2) : 2 * x % 2 ^ 64 ||| c = 2 * x % 2 ^ 64 + c := by
  rw [show 2 * x % 2 ^ 64 = 2 ^ 1 * (x % 2 ^ 63) by omega]
  exact (Nat.two_pow_add_eq_or_of_lt (i := 1) hc _).symm
