/-! ### the tables of a register, as such -/
abbrev TBt : Type := Nat × Nat × Nat × Nat × (Nat → Option Nat) × (Nat → Nat) × (Nat → Nat) × (Nat → Nat) × (Nat → Nat)
def isT (n : Nat) (b : Nat → Nat) (T : TBt) : Prop := FT n b T.1 T.2.1 T.2.2.1 T.2.2.2.1 T.2.2.2.2.1 T.2.2.2.2.2.1 T.2.2.2.2.2.2.1 T.2.2.2.2.2.2.2.1 T.2.2.2.2.2.2.2.2
noncomputable def tbl (n : Nat) (b : Nat → Nat) : TBt := Classical.epsilon (isT n b)
noncomputable def cR (n : Nat) (b : Nat → Nat) : Nat := (tbl n b).1
noncomputable def cPd (n : Nat) (b : Nat → Nat) : Nat := (tbl n b).2.1
noncomputable def cFa (n : Nat) (b : Nat → Nat) : Nat := (tbl n b).2.2.2.1
noncomputable def cRo (n : Nat) (b : Nat → Nat) (s : Nat) : Nat := ((tbl n b).2.2.2.2.1 s).getD 0
noncomputable def cBe (n : Nat) (b : Nat → Nat) : Nat → Nat := (tbl n b).2.2.2.2.2.1
noncomputable def cPc (n : Nat) (b : Nat → Nat) : Nat → Nat := (tbl n b).2.2.2.2.2.2.1
noncomputable def cLe (n : Nat) (b : Nat → Nat) : Nat → Nat := (tbl n b).2.2.2.2.2.2.2.1
noncomputable def cSz (n : Nat) (b : Nat → Nat) : Nat → Nat := (tbl n b).2.2.2.2.2.2.2.2
section Canon
variable {n : Nat} {b : Nat → Nat} {c pd st fa : Nat} {o : Nat → Option Nat} {be pc le sz : Nat → Nat}
theorem FT.tabs (h : FT n b c pd st fa o be pc le sz) : isT n b (tbl n b) := Classical.epsilon_spec (p := isT n b) ⟨(c, pd, st, fa, o, be, pc, le, sz), h⟩
theorem FT.vt (h : FT n b c pd st fa o be pc le sz) : VT (nx n b) (2 ^ n) (cRo n b) (cBe n b) (cPc n b) (cLe n b) (cSz n b) (cR n b) := h.tabs.2.1
theorem FT.can (hn : 1 ≤ n) (hb : ∀ k, b k ≤ 1) (h : FT n b c pd st fa o be pc le sz) : c = cR n b ∧ (∀ r, r < c → le r = cLe n b r ∧ sz r = cSz n b r) ∧ (∀ s, s < 2 ^ n → (o s).getD 0 = cRo n b s ∧ be s = cBe n b s ∧ pc s = cPc n b s) ∧ pd = cPd n b ∧ st = strt n b ∧ fa = cFa n b := by
  have hf : ∀ s, s < 2 ^ n → nx n b s < 2 ^ n := fun s hs => nx_lt hn hs hb
  obtain ⟨h1, h2, h3⟩ := h.2.1.one hf h.vt
  have T := h.tabs
  refine ⟨h1, h2, h3, ?_, h.2.2.2.1, ?_⟩
  · rw [h.2.2.1]
    show _ = (tbl n b).2.1
    rw [T.2.2.1]
    exact fb_ct_cong (fun s hs => by rw [(h3 s hs).2.1]; rfl)
  · have a1 := h.2.2.2.2.1
    have a2 := h.2.2.2.2.2.1
    have b1 : ∀ s, s < 2 ^ n → cBe n b s ≤ cFa n b := T.2.2.2.2.1
    have b2 : cFa n b = 0 ∨ ∃ s, s < 2 ^ n ∧ cBe n b s = cFa n b := T.2.2.2.2.2.1
    have le1 : fa ≤ cFa n b := by
      rcases a2 with q | ⟨s, hs, q⟩
      · omega
      · have := b1 s hs
        rw [← (h3 s hs).2.1] at this
        omega
    have le2 : cFa n b ≤ fa := by
      rcases b2 with q | ⟨s, hs, q⟩
      · omega
      · have := a1 s hs
        rw [(h3 s hs).2.1] at this
        omega
    omega
theorem jfr_congr {ro ro' : Nat → Nat} {C H : Nat} {q : (Nat → Nat) × (Nat → Nat) × Nat} (h : ∀ s, s < 2 * H → ro s = ro' s) : ∀ t, t ≤ H → jfr ro C q t = jfr ro' C q t
  | 0, _ => rfl
  | t + 1, ht => by
    unfold jfr
    rw [jfr_congr h t (by omega)]
    unfold jst
    rw [h (2 * t) (by omega), h (2 * t + 1) (by omega)]
theorem bld_congr {ro ro' : Nat → Nat} {W H : Nat} (h : ∀ s, s < 2 * H → ro s = ro' s) : ∀ t, t ≤ H → bld ro W t = bld ro' W t
  | 0, _ => rfl
  | t + 1, ht => by
    unfold bld
    rw [bld_congr h t (by omega), h (2 * t) (by omega), h (2 * t + 1) (by omega)]
theorem wys_congr {ro ro' : Nat → Nat} {c H : Nat} (h : ∀ s, s < 2 * H → ro s = ro' s) : wys ro c H = wys ro' c H := by
  unfold wys
  rw [bld_congr h H (Nat.le_refl _)]
end Canon
