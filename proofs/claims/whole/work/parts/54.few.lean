/-! ### a register has 65 rings at most: each meets a set of states -/
/-- the states' ranks, six bits each: 63 those of the set; a step leads down, or to the set -/
def rkT (n : Nat) : Nat := match n with
  | 7 => 0xfcb30c34d34dfce38e38e38e2083cffd2492ffffd2fff492249249fd0410145fd3fd5555145145000fd7000000ffffda28a28a28a28a1c7451451451186186104514104fd6fff6591861861861860c30c30c3618082082082082041041000fff
  | 8 => 0xfd04514924924d34d34d34d3fd4514618618fd861861861834d555fd5555fff659fd9659000fd9fff659ffffddfff75d38e38efd65962cb596596596249249fff69a000fdcfdc71c186186186fda186186fff79e041041000fff000000ffffe13cf3cf3cf3cf2085d75d75d730c30c5d75d7fd75d771c71c28a28a28a28a208208fdb6db14514514575d000fe0fff8201c71c71c71c71c71c71046db1c71c71c71c7104104fdf7df0c30c30c30c30c30c30c30c3082082082082041041000fff
  | 9 => 0xfd969a6db6db71c71c71c71cfdd75d75d75d75d75d75d75d55579e79e79efe28a28a28a2ffffe2fe28a2fff8a28a28a2596596fdf7dffdf7df8a28a2410fe3fe38e3fff8e3fe38e32cb2cb000a28000fecfecb2c000000ffffecfffffffffb2c5d75d75d75d74d38208208203cffe0fe0820fe69a69a69a645145134d9242cbfe4fe69a62cb2cbfffa28000ff0ff0c3034d34d34d34d34d34dfe9a691c71c71c7fed000ffffffb6d1c71c71c71c71c71c7000ff2041041000000000000fffff66186186186186186186186185145148618618618618618614104103cf8613cf86186186128afe7febaebfffaebaebaeb49249249249238e38e96596530c30c28a96528a9e7fefbef30c30c30c30c186186fe9a69186186186ff1000ffffffd7538e38e38e38e38e38e38e38e38e38e38e38e249aaaaaaaaa249249249249249249249bae145145145145145145ff4d34208208208208208208208208208208208208104104104cf30c30c30c30c30c30c30c30c3082082082082041041000fff
  | _ => 0
def rk (n s : Nat) : Nat := rkT n / 64 ^ s % 64
theorem rk_ok7 : ∀ s, s < 2 ^ 7 → rk 7 s = 63 ∨ ∀ x, x < 2 → rk 7 (ld 7 s x) = 63 ∨ rk 7 (ld 7 s x) < rk 7 s := by decide +kernel
theorem rk_ct7 : fb_ct (fun s => decide (rk 7 s = 63)) (2 ^ 7) ≤ 65 := by decide +kernel
theorem rk_ok8 : ∀ s, s < 2 ^ 8 → rk 8 s = 63 ∨ ∀ x, x < 2 → rk 8 (ld 8 s x) = 63 ∨ rk 8 (ld 8 s x) < rk 8 s := by decide +kernel
theorem rk_ct8 : fb_ct (fun s => decide (rk 8 s = 63)) (2 ^ 8) ≤ 65 := by decide +kernel
theorem rk_ok9 : ∀ s, s < 2 ^ 9 → rk 9 s = 63 ∨ ∀ x, x < 2 → rk 9 (ld 9 s x) = 63 ∨ rk 9 (ld 9 s x) < rk 9 s := by decide +kernel
theorem rk_ct9 : fb_ct (fun s => decide (rk 9 s = 63)) (2 ^ 9) ≤ 65 := by decide +kernel
theorem rk_lt (n s : Nat) : rk n s < 64 := Nat.mod_lt _ (by decide)
theorem rk_ok {n s x : Nat} (h7 : 7 ≤ n) (h9 : n ≤ 9) (hs : s < 2 ^ n) (hx : x < 2) (h : rk n s ≠ 63) : rk n (ld n s x) = 63 ∨ rk n (ld n s x) < rk n s := by
  rcases (show n = 7 ∨ n = 8 ∨ n = 9 by omega) with rfl | rfl | rfl
  · exact (rk_ok7 s hs).resolve_left h x hx
  · exact (rk_ok8 s hs).resolve_left h x hx
  · exact (rk_ok9 s hs).resolve_left h x hx
theorem rk_ct {n : Nat} (h7 : 7 ≤ n) (h9 : n ≤ 9) : fb_ct (fun s => decide (rk n s = 63)) (2 ^ n) ≤ 65 := by
  rcases (show n = 7 ∨ n = 8 ∨ n = 9 by omega) with rfl | rfl | rfl
  · exact rk_ct7
  · exact rk_ct8
  · exact rk_ct9
/-- from any state the set is met -/
theorem rk_meet {n : Nat} {b : Nat → Nat} (h7 : 7 ≤ n) (h9 : n ≤ 9) (hb : ∀ k, b k ≤ 1) : ∀ k s, s < 2 ^ n → rk n s < 63 → rk n s < k → ∃ j, rk n (itr (nx n b) j s) = 63
  | 0, _, _, _, h => absurd h (by omega)
  | k + 1, s, hs, h63, hk => by
    have hbs := hb s
    rcases rk_ok h7 h9 hs (show b s < 2 by omega) (by omega) with q | q
    · exact ⟨1, q⟩
    · have hx := nx_lt (n := n) (b := b) (s := s) (by omega) hs hb
      obtain ⟨j, hj⟩ := rk_meet (b := b) h7 h9 hb k (nx n b s) hx (by have : rk n (nx n b s) < rk n s := q; omega) (by have : rk n (nx n b s) < rk n s := q; omega)
      exact ⟨j + 1, hj⟩
theorem VT.few {n R : Nat} {b ro be pc le sz : Nat → Nat} (hn : 1 ≤ n) (h9 : n ≤ 9) (hb : ∀ k, b k ≤ 1) (h : VT (nx n b) (2 ^ n) ro be pc le sz R) : R ≤ 65 := by
  have hf : ∀ s, s < 2 ^ n → nx n b s < 2 ^ n := fun s hs => nx_lt hn hs hb
  rcases Nat.lt_or_ge n 7 with h6 | h7
  · have h1 := h.R_le
    have h2 : 2 ^ n ≤ 2 ^ 6 := Nat.pow_le_pow_right (by decide) (by omega)
    omega
  · have key : ∀ r, r < R → ∃ s, s < 2 ^ n ∧ rk n s = 63 ∧ ro s = r := by
      intro r hr
      obtain ⟨a1, a2, a3, a4⟩ := h.2.2.2.1 r hr
      have hro : ro (le r) = r := (a4 0 (by omega)).2.1
      rcases Nat.lt_or_ge (rk n (le r)) 63 with q | q
      · obtain ⟨j, hj⟩ := rk_meet (b := b) h7 h9 hb 64 (le r) a1 q (by omega)
        exact ⟨itr (nx n b) j (le r), itr_lt hf j _ a1, hj, by rw [(h.be_itr hf a1 j).2, hro]⟩
      · have := rk_lt n (le r)
        exact ⟨le r, a1, by omega, hro⟩
    have ex : ∀ r, ∃ s, r < R → s < 2 ^ n ∧ rk n s = 63 ∧ ro s = r := fun r => by
      by_cases hr : r < R
      · obtain ⟨s, hs⟩ := key r hr
        exact ⟨s, fun _ => hs⟩
      · exact ⟨0, fun z => absurd z hr⟩
    have ch := Classical.axiomOfChoice ex
    obtain ⟨g, hg⟩ := ch
    have hc := ct_inQ (qu := g) (N := 2 ^ n) R (fun j hj => (hg j hj).1) (fun i j hij hj e => by
      have h1 := (hg i (by omega)).2.2
      have h2 := (hg j hj).2.2
      rw [e, h2] at h1
      omega)
    have hle : fb_ct (fun s => inQ g R s) (2 ^ n) ≤ fb_ct (fun s => decide (rk n s = 63)) (2 ^ n) := fb_ct_sub (fun s _ hs => by
      obtain ⟨j, hj, e⟩ := (inQ_iff g s R).mp hs
      rw [← e]
      exact decide_eq_true (hg j hj).2.1)
    have := rk_ct h7 h9
    omega
theorem cR_few {n : Nat} {b : Nat → Nat} {c pd st fa : Nat} {o : Nat → Option Nat} {be pc le sz : Nat → Nat} (hn : 1 ≤ n) (h9 : n ≤ 9) (hb : ∀ k, b k ≤ 1) (h : FT n b c pd st fa o be pc le sz) : cR n b ≤ 65 := h.vt.few hn h9 hb
/-! ### the ring that prefers a bit -/
/-- all states are met once, ending where both that follow were: the states met as a mask -/
def pck (n p : Nat) : Nat → Nat → Nat → Bool
  | 0, h, m => (m ||| 2 ^ h).testBit (ld n h p) && (m ||| 2 ^ h).testBit (ld n h (1 - p))
  | k + 1, h, m => bif (m ||| 2 ^ h).testBit (ld n h p) then (!(m ||| 2 ^ h).testBit (ld n h (1 - p)) && pck n p k (ld n h (1 - p)) (m ||| 2 ^ h)) else pck n p k (ld n h p) (m ||| 2 ^ h)
theorem pck_ok : ∀ n, n < 10 → 2 ≤ n → pck n 1 (2 ^ n - 1) 0 0 = true ∧ pck n 0 (2 ^ n - 1) (2 ^ n - 1) 0 = true := by decide +kernel
theorem pfr_front {n p : Nat} {t : Nat × (Nat → Nat) × (Nat → Nat)} : ∀ k, pfr n p t (k + 1) = pfr n p (pst n p t) k
  | 0 => rfl
  | k + 1 => by
    show pst n p (pfr n p t (k + 1)) = pst n p (pfr n p (pst n p t) k)
    rw [pfr_front k]
theorem up_le1 {f : Nat → Nat} {a x : Nat} (hx : x ≤ 1) (hf : ∀ k, f k ≤ 1) (k : Nat) : va_up f a x k ≤ 1 := by
  unfold va_up
  split
  · exact hx
  · exact hf k
theorem ite_le1 {c : Prop} [Decidable c] {p : Nat} (hp : p ≤ 1) : (if c then 1 - p else p) ≤ 1 := by split <;> omega
theorem pfr_le {n p : Nat} (hp : p ≤ 1) {t : Nat × (Nat → Nat) × (Nat → Nat)} (ht : ∀ k, t.2.2 k ≤ 1) : ∀ i k, (pfr n p t i).2.2 k ≤ 1
  | 0, k => ht k
  | i + 1, k => by
    exact up_le1 (ite_le1 hp) (pfr_le (n := n) hp ht i) k
theorem bit_or (m h j : Nat) : (m ||| 2 ^ h).testBit j = (m.testBit j || decide (h = j)) := by
  rw [Nat.testBit_or, Nat.testBit_two_pow]
