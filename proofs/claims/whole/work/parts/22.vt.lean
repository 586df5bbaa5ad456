/-! ### plain numbers: what the tables of the rings say -/
section Vt
variable {f : Nat → Nat} {N : Nat} {ro be pc le sz ro' be' pc' le' sz' : Nat → Nat} {R R' : Nat}
theorem VT.be_itr (hf : ∀ s, s < N → f s < N) (h : VT f N ro be pc le sz R) {s : Nat} (hs : s < N) : ∀ j, be (itr f j s) = be s - j ∧ ro (itr f j s) = ro s
  | 0 => ⟨rfl, rfl⟩
  | j + 1 => by
    obtain ⟨h1, h2⟩ := h.be_itr hf hs j
    have hx := itr_lt hf j s hs
    rw [itr_succ]
    rcases Nat.eq_zero_or_pos (be (itr f j s)) with q | q
    · obtain ⟨a, c⟩ := h.2.1 _ hx q
      exact ⟨by omega, by omega⟩
    · obtain ⟨a, c, -⟩ := h.2.2.1 _ hx q
      exact ⟨by omega, by omega⟩
theorem VT.pc_itr (hf : ∀ s, s < N → f s < N) (h : VT f N ro be pc le sz R) {s : Nat} (hs : s < N) : ∀ j, j ≤ be s → pc (itr f j s) = pc s
  | 0, _ => rfl
  | j + 1, hj => by
    have h1 := h.pc_itr hf hs j (by omega)
    have h2 := (h.be_itr hf hs j).1
    rw [itr_succ, (h.2.2.1 _ (itr_lt hf j s hs) (by omega)).2.2, h1]
theorem VT.period (h : VT f N ro be pc le sz R) {s : Nat} (hs : s < N) (hb : be s = 0) : itr f (sz (ro s)) s = s := by
  obtain ⟨-, h2, -⟩ := h.2.2.2.2.1 s hs hb
  have h3 := (h.2.2.2.1 _ (h.1 s hs)).2.2.1
  have : itr f (sz (ro s)) (itr f (pc s) (le (ro s))) = itr f (pc s) (itr f (sz (ro s)) (le (ro s))) := by
    rw [← itr_add, ← itr_add, Nat.add_comm]
  rw [h3, h2] at this
  exact this
theorem itr_mul {f : Nat → Nat} {p s : Nat} (h : itr f p s = s) : ∀ k, itr f (k * p) s = s
  | 0 => by rw [Nat.zero_mul]; rfl
  | k + 1 => by rw [Nat.succ_mul, itr_add, itr_mul h k, h]
theorem itr_mod {f : Nat → Nat} {p s : Nat} (h : itr f p s = s) (k : Nat) : itr f (k % p) s = itr f k s := by
  have e : k = k / p * p + k % p := by rw [Nat.mul_comm]; exact (Nat.div_add_mod k p).symm
  rw [show itr f k s = itr f (k / p * p + k % p) s from congrArg (fun z => itr f z s) e, itr_add, itr_mul h]
theorem VT.sz_pos (h : VT f N ro be pc le sz R) {s : Nat} (hs : s < N) : 1 ≤ sz (ro s) := (h.2.2.2.1 _ (h.1 s hs)).2.1
theorem VT.sz_le (hf : ∀ s, s < N → f s < N) (h : VT f N ro be pc le sz R) {r : Nat} (hr : r < R) : sz r ≤ N := by
  obtain ⟨h1, h2, h3, h4⟩ := h.2.2.2.1 r hr
  refine fb_holes N (sz r) (fun j => itr f j (le r)) (fun j _ => itr_lt hf j _ h1) (fun i j hij hj e => ?_)
  have a1 := (h4 i (by omega)).2.2
  have a2 := (h4 j hj).2.2
  have e : itr f i (le r) = itr f j (le r) := e
  rw [e] at a1
  omega
theorem VT.be_le (hf : ∀ s, s < N → f s < N) (h : VT f N ro be pc le sz R) {s : Nat} (hs : s < N) : be s ≤ N := by
  refine fb_holes N (be s) (fun j => itr f j s) (fun j _ => itr_lt hf j _ hs) (fun i j hij hj e => ?_)
  have a1 := (h.be_itr hf hs i).1
  have a2 := (h.be_itr hf hs j).1
  have e : itr f i s = itr f j s := e
  rw [e] at a1
  omega
theorem VT.R_le (h : VT f N ro be pc le sz R) : R ≤ N := fb_holes N R le (fun r hr => (h.2.2.2.1 r hr).1) (fun r r' a b => Nat.ne_of_lt (h.2.2.2.2.2 r r' a b))
/-- k steps, with whole rounds left out -/
theorem VT.steps (hf : ∀ s, s < N → f s < N) (h : VT f N ro be pc le sz R) {s k : Nat} (hs : s < N) (hk : be s ≤ k) : itr f (be s + (k - be s) % sz (ro s)) s = itr f k s := by
  have h1 := h.be_itr hf hs (be s)
  have hx := itr_lt hf (be s) s hs
  have h2 := h.period hx (by omega)
  rw [h1.2] at h2
  rw [itr_add, itr_mod h2, ← itr_add]
  congr 1
  omega
theorem VT.per (hf : ∀ s, s < N → f s < N) (h : VT f N ro be pc le sz R) {s : Nat} (hs : s < N) : be s = 0 ↔ ∃ k, 1 ≤ k ∧ itr f k s = s := by
  constructor
  · intro hb
    exact ⟨sz (ro s), h.sz_pos hs, h.period hs hb⟩
  · rintro ⟨k, hk, e⟩
    have := (h.be_itr hf hs k).1
    rw [e] at this
    omega
theorem VT.be_one (hf : ∀ s, s < N → f s < N) (h : VT f N ro be pc le sz R) (h' : VT f N ro' be' pc' le' sz' R') {s : Nat} (hs : s < N) : be s = be' s := by
  have key : ∀ j, be s - j = 0 ↔ be' s - j = 0 := by
    intro j
    rw [← (h.be_itr hf hs j).1, ← (h'.be_itr hf hs j).1, h.per hf (itr_lt hf j s hs), h'.per hf (itr_lt hf j s hs)]
  have k1 := key (be s)
  have k2 := key (be' s)
  omega
/-- the least state of a ring is met on it -/
theorem VT.least_met (h : VT f N ro be pc le sz R) {s : Nat} (hs : s < N) (hb : be s = 0) : ∃ j, itr f j s = le (ro s) := by
  obtain ⟨h1, h2, -⟩ := h.2.2.2.2.1 s hs hb
  have h3 := (h.2.2.2.1 _ (h.1 s hs)).2.2.1
  refine ⟨sz (ro s) - pc s, ?_⟩
  have : itr f (sz (ro s) - pc s) (itr f (pc s) (le (ro s))) = itr f (sz (ro s)) (le (ro s)) := by
    rw [← itr_add]; congr 1; omega
  rw [h2, h3] at this
  exact this
theorem VT.least_le (hf : ∀ s, s < N → f s < N) (h : VT f N ro be pc le sz R) {s : Nat} (hs : s < N) (hb : be s = 0) (j : Nat) : le (ro s) ≤ itr f j s := by
  obtain ⟨h1, h2⟩ := h.be_itr hf hs j
  have := (h.2.2.2.2.1 _ (itr_lt hf j s hs) (by omega)).2.2
  rw [h2] at this
  exact this
theorem VT.least_one (hf : ∀ s, s < N → f s < N) (h : VT f N ro be pc le sz R) (h' : VT f N ro' be' pc' le' sz' R') {s : Nat} (hs : s < N) (hb : be s = 0) : le (ro s) = le' (ro' s) := by
  have hb' : be' s = 0 := by rw [← h.be_one hf h' hs]; exact hb
  obtain ⟨j, e⟩ := h.least_met hs hb
  obtain ⟨j', e'⟩ := h'.least_met hs hb'
  have a1 := h'.least_le hf hs hb' j
  have a2 := h.least_le hf hs hb j'
  omega
theorem inc_rank {le : Nat → Nat} {R : Nat} (hi : ∀ r r', r < r' → r' < R → le r < le r') {r : Nat} (hr : r < R) : fb_ct (fun x => inQ le R x) (le r) = r := by
  have e : fb_ct (fun x => inQ le R x) (le r) = fb_ct (fun x => inQ le r x) (le r) := fb_ct_cong (fun x hx => by
    rw [Bool.eq_iff_iff, inQ_iff, inQ_iff]
    constructor
    · rintro ⟨j, hj, z⟩
      refine ⟨j, ?_, z⟩
      rcases Nat.lt_or_ge j r with q | q
      · exact q
      · rcases Nat.eq_or_lt_of_le q with q | q
        · rw [← q] at z; omega
        · have := hi r j q hj; omega
    · rintro ⟨j, hj, z⟩
      exact ⟨j, by omega, z⟩)
  rw [e]
  exact ct_inQ r (fun j hj => hi j r hj hr) (fun i j a b => Nat.ne_of_lt (hi i j a (by omega)))
/-- the tables are as they must be: two of them are one -/
theorem VT.one (hf : ∀ s, s < N → f s < N) (h : VT f N ro be pc le sz R) (h' : VT f N ro' be' pc' le' sz' R') : R = R' ∧ (∀ r, r < R → le r = le' r ∧ sz r = sz' r) ∧ ∀ s, s < N → ro s = ro' s ∧ be s = be' s ∧ pc s = pc' s := by
  have img : ∀ x, inQ le R x = inQ le' R' x := by
    intro x
    rw [Bool.eq_iff_iff, inQ_iff, inQ_iff]
    constructor
    · rintro ⟨r, hr, e⟩
      obtain ⟨l1, l2, l3, l4⟩ := h.2.2.2.1 r hr
      have l5 := l4 0 (by omega)
      rw [show itr f 0 (le r) = le r from rfl] at l5
      have := h.least_one hf h' l1 l5.1
      rw [l5.2.1] at this
      exact ⟨ro' (le r), h'.1 _ l1, by rw [← this]; exact e⟩
    · rintro ⟨r, hr, e⟩
      obtain ⟨l1, l2, l3, l4⟩ := h'.2.2.2.1 r hr
      have l5 := l4 0 (by omega)
      rw [show itr f 0 (le' r) = le' r from rfl] at l5
      have := h'.least_one hf h l1 l5.1
      rw [l5.2.1] at this
      exact ⟨ro (le' r), h.1 _ l1, by rw [← this]; exact e⟩
  have hR : R = R' := by
    have a1 := ct_inQ (qu := le) (N := N) R (fun r hr => (h.2.2.2.1 r hr).1) (fun r r' a b => Nat.ne_of_lt (h.2.2.2.2.2 r r' a b))
    have a2 := ct_inQ (qu := le') (N := N) R' (fun r hr => (h'.2.2.2.1 r hr).1) (fun r r' a b => Nat.ne_of_lt (h'.2.2.2.2.2 r r' a b))
    rw [fb_ct_cong (fun k _ => img k), a2] at a1
    exact a1.symm
  have hro0 : ∀ s, s < N → be s = 0 → ro s = ro' s := by
    intro s hs hb
    have e := h.least_one hf h' hs hb
    have a1 := inc_rank h.2.2.2.2.2 (h.1 s hs)
    have a2 := inc_rank h'.2.2.2.2.2 (h'.1 s hs)
    rw [e, fb_ct_cong (fun k _ => img k), a2] at a1
    exact a1.symm
  have hle : ∀ r, r < R → le r = le' r := by
    intro r hr
    obtain ⟨l1, l2, l3, l4⟩ := h.2.2.2.1 r hr
    have l5 := l4 0 (by omega)
    rw [show itr f 0 (le r) = le r from rfl] at l5
    have e := h.least_one hf h' l1 l5.1
    rw [← hro0 _ l1 l5.1, l5.2.1] at e
    exact e
  have hsz : ∀ r, r < R → sz r = sz' r := by
    intro r hr
    obtain ⟨l1, l2, l3, l4⟩ := h.2.2.2.1 r hr
    obtain ⟨m1, m2, m3, m4⟩ := h'.2.2.2.1 r (by omega)
    have e := hle r hr
    rw [← e] at m3 m4
    rcases Nat.lt_trichotomy (sz r) (sz' r) with q | q | q
    · have a1 := (m4 (sz r) q).2.2
      have a2 := (m4 0 (by omega)).2.2
      rw [l3] at a1
      rw [show itr f 0 (le r) = le r from rfl] at a2
      omega
    · exact q
    · have a1 := (l4 (sz' r) q).2.2
      have a2 := (l4 0 (by omega)).2.2
      rw [m3] at a1
      rw [show itr f 0 (le r) = le r from rfl] at a2
      omega
  have hpc0 : ∀ s, s < N → be s = 0 → pc s = pc' s := by
    intro s hs hb
    have hb' : be' s = 0 := by rw [← h.be_one hf h' hs]; exact hb
    obtain ⟨p1, p2, -⟩ := h.2.2.2.2.1 s hs hb
    have e := hro0 s hs hb
    have a := ((h'.2.2.2.1 _ (h'.1 s hs)).2.2.2 (pc s) (by rw [← e, ← hsz _ (h.1 s hs)]; exact p1)).2.2
    rw [← e, ← hle _ (h.1 s hs), p2] at a
    exact a.symm
  refine ⟨hR, fun r hr => ⟨hle r hr, hsz r hr⟩, fun s hs => ?_⟩
  have hb := h.be_one hf h' hs
  have hx := itr_lt hf (be s) s hs
  have h0 : be (itr f (be s) s) = 0 := by rw [(h.be_itr hf hs (be s)).1]; omega
  refine ⟨?_, hb, ?_⟩
  · rw [← (h.be_itr hf hs (be s)).2, ← (h'.be_itr hf hs (be s)).2]
    exact hro0 _ hx h0
  · rw [← h.pc_itr hf hs (be s) (Nat.le_refl _), ← h'.pc_itr hf hs (be s) (by omega)]
    exact hpc0 _ hx h0
/-- a sum along different places is a sum over what they meet -/
theorem sm_inQ {g : Nat → Nat} {N : Nat} (v : Nat → Nat) : ∀ m, (∀ j, j < m → g j < N) → (∀ i j, i < j → j < m → g i ≠ g j) → fb_sm (fun j => v (g j)) m = fb_sm (fun s => if inQ g m s then v s else 0) N
  | 0, _, _ => by
    symm
    have : ∀ k, fb_sm (fun s => if inQ g 0 s = true then v s else 0) k = 0 := by
      intro k
      induction k with
      | zero => rfl
      | succ k ih => rw [fb_sm_succ, ih]; rfl
    exact this N
  | m + 1, h1, h2 => by
    rw [fb_sm_succ, sm_inQ v m (fun j hj => h1 j (by omega)) (fun i j a b => h2 i j a (by omega))]
    have hn : inQ g m (g m) = false := by
      rw [Bool.eq_false_iff]
      intro e
      obtain ⟨j, hj, e⟩ := (inQ_iff g _ m).mp e
      exact h2 j m hj (by omega) e
    have e : (fun s => if inQ g (m + 1) s = true then v s else 0) = (fun k => if k = g m then v (g m) else (fun s => if inQ g m s = true then v s else 0) k) := by
      funext s
      by_cases q : s = g m
      · rw [if_pos q, if_pos ((inQ_iff g s (m + 1)).mpr ⟨m, by omega, q.symm⟩), q]
      · rw [if_neg q]
        have : inQ g (m + 1) s = inQ g m s := by
          show (inQ g m s || decide (g m = s)) = _
          rw [show decide (g m = s) = false from decide_eq_false (fun z => q z.symm), Bool.or_false]
        rw [this]
    have := fb_sm_upd (fun s => if inQ g m s = true then v s else 0) (v (g m)) (i := g m) (h1 m (by omega))
    rw [e]
    have e0 : (if inQ g m (g m) = true then v (g m) else 0) = 0 := by rw [hn]; rfl
    dsimp only at this ⊢
    rw [e0] at this
    omega
theorem VT.on_ring (hf : ∀ s, s < N → f s < N) (h : VT f N ro be pc le sz R) {r : Nat} (hr : r < R) {s : Nat} (hs : s < N) : inQ (fun j => itr f j (le r)) (sz r) s = true ↔ ro s = r ∧ be s = 0 := by
  obtain ⟨l1, l2, l3, l4⟩ := h.2.2.2.1 r hr
  rw [inQ_iff]
  constructor
  · rintro ⟨j, hj, rfl⟩
    exact ⟨(l4 j hj).2.1, (l4 j hj).1⟩
  · rintro ⟨rfl, hb⟩
    obtain ⟨p1, p2, -⟩ := h.2.2.2.2.1 s hs hb
    exact ⟨pc s, p1, p2⟩
/-- along a ring once -/
theorem VT.sum_ring (hf : ∀ s, s < N → f s < N) (h : VT f N ro be pc le sz R) {r : Nat} (hr : r < R) (v : Nat → Nat) : fb_sm (fun j => v (itr f j (le r))) (sz r) = fb_sm (fun s => if ro s = r ∧ be s = 0 then v s else 0) N := by
  obtain ⟨l1, l2, l3, l4⟩ := h.2.2.2.1 r hr
  rw [sm_inQ (g := fun j => itr f j (le r)) (N := N) v (sz r) (fun j _ => itr_lt hf j _ l1) (fun i j hij hj e => ?_)]
  · refine fb_sm_cong (fun s hs => ?_)
    by_cases q : ro s = r ∧ be s = 0
    · rw [if_pos q, if_pos ((h.on_ring hf hr hs).mpr q)]
    · rw [if_neg q, if_neg (fun z => q ((h.on_ring hf hr hs).mp z))]
  · have a1 := (l4 i (by omega)).2.2
    have a2 := (l4 j hj).2.2
    have e : itr f i (le r) = itr f j (le r) := e
    rw [e] at a1
    omega
theorem VT.sum_sz (hf : ∀ s, s < N → f s < N) (h : VT f N ro be pc le sz R) : fb_sm sz R + fb_ct (fun s => decide (0 < be s)) N = N := by
  have key : ∀ m, m ≤ R → fb_sm sz m = fb_ct (fun s => decide (ro s < m ∧ be s = 0)) N := by
    intro m
    induction m with
    | zero => intro _; symm; exact fb_ct_zero.mpr (fun k _ => by simp)
    | succ m ih =>
      intro hm
      have h1 := h.sum_ring hf (r := m) (by omega) (fun _ => 1)
      have h2 : ∀ k, fb_sm (fun s => if ro s = m ∧ be s = 0 then 1 else 0) k = fb_ct (fun s => decide (ro s = m ∧ be s = 0)) k := by
        intro k
        induction k with
        | zero => rfl
        | succ k ih2 =>
          rw [fb_sm_succ, fb_ct_succ, ih2]
          by_cases q : ro k = m ∧ be k = 0
          · rw [if_pos q, if_pos (decide_eq_true q)]
          · rw [if_neg q, if_neg (by simpa using q)]
      rw [h2, fb_sm_const, Nat.mul_one] at h1
      rw [fb_sm_succ, ih (by omega), h1, ← fb_ct_or (fun k _ => by simp; omega)]
      exact fb_ct_cong (fun s _ => by
        rw [Bool.eq_iff_iff]
        simp only [Bool.or_eq_true, decide_eq_true_eq]
        omega)
  rw [key R (Nat.le_refl _)]
  have := fb_ct_not (fun s => decide (0 < be s)) N
  have e : fb_ct (fun s => decide (ro s < R ∧ be s = 0)) N = fb_ct (fun k => !decide (0 < be k)) N := fb_ct_cong (fun s hs => by
    rw [Bool.eq_iff_iff]
    have := h.1 s hs
    simp only [decide_eq_true_eq, Bool.not_eq_true', decide_eq_false_iff_not]
    omega)
  rw [e]
  omega
end Vt
