/-! ### plain numbers: states of a map f below N, peeled -/
theorem itr_succ (f : Nat → Nat) : ∀ k s, itr f (k + 1) s = f (itr f k s)
  | 0, _ => rfl
  | k + 1, s => itr_succ f k (f s)
theorem itr_add (f : Nat → Nat) : ∀ a b s, itr f (a + b) s = itr f b (itr f a s)
  | 0, b, s => by rw [Nat.zero_add]; rfl
  | a + 1, b, s => by
    rw [show a + 1 + b = (a + b) + 1 by omega]
    exact itr_add f a b (f s)
def inQ (qu : Nat → Nat) : Nat → Nat → Bool
  | 0, _ => false
  | k + 1, s => inQ qu k s || decide (qu k = s)
theorem inQ_iff (qu : Nat → Nat) (s : Nat) : ∀ k, inQ qu k s = true ↔ ∃ j, j < k ∧ qu j = s
  | 0 => ⟨fun h => (by cases h), fun ⟨j, hj, _⟩ => absurd hj (by omega)⟩
  | k + 1 => by
    unfold inQ
    rw [Bool.or_eq_true, inQ_iff qu s k, decide_eq_true_iff]
    constructor
    · rintro (⟨j, h1, h2⟩ | h)
      · exact ⟨j, by omega, h2⟩
      · exact ⟨k, by omega, h⟩
    · rintro ⟨j, h1, h2⟩
      rcases Nat.lt_or_ge j k with q | q
      · exact Or.inl ⟨j, q, h2⟩
      · exact Or.inr (by rw [← h2, show j = k by omega])
/-- how many states lead to t that aren't among the first q of the queue -/
def ctQ (f : Nat → Nat) (N : Nat) (qu : Nat → Nat) (q t : Nat) : Nat := fb_ct (fun s => decide (f s = t) && !inQ qu q s) N
def PI (f : Nat → Nat) (N : Nat) (wt qu : Nat → Nat) (pl q : Nat) : Prop :=
  q ≤ pl ∧ (∀ j, j < pl → qu j < N) ∧ (∀ i j, i < j → j < pl → qu i ≠ qu j) ∧ (∀ t, t < N → wt t = ctQ f N qu q t) ∧ (∀ t, t < N → (wt t = 0 ↔ ∃ j, j < pl ∧ qu j = t)) ∧ (∀ j, j < q → ∀ i, i < pl → f (qu j) = qu i → j < i)
theorem PI.le {f : Nat → Nat} {N : Nat} {wt qu : Nat → Nat} {pl q : Nat} (h : PI f N wt qu pl q) : pl ≤ N := fb_holes N pl qu h.2.1 h.2.2.1
theorem inQ_congr {qu qu' : Nat → Nat} {k : Nat} (h : ∀ j, j < k → qu j = qu' j) (s : Nat) : inQ qu k s = inQ qu' k s := by
  rw [Bool.eq_iff_iff, inQ_iff, inQ_iff]
  constructor <;> rintro ⟨j, h1, h2⟩
  · exact ⟨j, h1, by rw [← h j h1]; exact h2⟩
  · exact ⟨j, h1, by rw [h j h1]; exact h2⟩
/-- one more of the queue is done: its successor waits for one less -/
theorem ctQ_succ {f : Nat → Nat} {N : Nat} {qu : Nat → Nat} {q t : Nat} (hs : qu q < N) (hn : inQ qu q (qu q) = false) : ctQ f N qu (q + 1) t + (if f (qu q) = t then 1 else 0) = ctQ f N qu q t := by
  unfold ctQ
  have e : (fun s => decide (f s = t) && !inQ qu (q + 1) s) = (fun k => if k = qu q then false else (fun s => decide (f s = t) && !inQ qu q s) k) := by
    funext s
    by_cases h : s = qu q
    · rw [if_pos h]
      have : inQ qu (q + 1) s = true := (inQ_iff qu s (q + 1)).mpr ⟨q, by omega, h.symm⟩
      rw [this]; simp
    · rw [if_neg h]
      have : inQ qu (q + 1) s = inQ qu q s := by
        show (inQ qu q s || decide (qu q = s)) = _
        rw [show decide (qu q = s) = false from decide_eq_false (fun e => h e.symm), Bool.or_false]
      rw [this]
  rw [e]
  have := fb_ct_upd (fun s => decide (f s = t) && !inQ qu q s) false (i := qu q) hs
  have e2 : (decide (f (qu q) = t) && !inQ qu q (qu q)) = decide (f (qu q) = t) := by rw [hn]; simp
  rw [e2] at this
  by_cases h : f (qu q) = t
  · rw [if_pos h]; simp [h] at this ⊢; omega
  · rw [if_neg h]; simp [h] at this ⊢; omega
theorem PI.step {f : Nat → Nat} {N : Nat} {wt qu : Nat → Nat} {pl q : Nat} (hf : ∀ s, s < N → f s < N) (h : PI f N wt qu pl q) (hq : q < pl) :
    0 < wt (f (qu q)) ∧ (wt (f (qu q)) - 1 = 0 → pl < N ∧ PI f N (va_up wt (f (qu q)) (wt (f (qu q)) - 1)) (va_up qu pl (f (qu q))) (pl + 1) (q + 1)) ∧ (wt (f (qu q)) - 1 ≠ 0 → PI f N (va_up wt (f (qu q)) (wt (f (qu q)) - 1)) qu pl (q + 1)) := by
  obtain ⟨h1, h2, h3, h4, h5, h6⟩ := h
  have hs := h2 q hq
  have ht := hf _ hs
  have hn : inQ qu q (qu q) = false := by
    rw [Bool.eq_false_iff]
    intro e
    obtain ⟨j, hj, e⟩ := (inQ_iff qu _ q).mp e
    exact h3 j q hj hq e
  have hc := fun t => ctQ_succ (f := f) (t := t) hs hn
  have hpos : 0 < wt (f (qu q)) := by
    have := hc (f (qu q))
    rw [if_pos rfl] at this
    rw [h4 _ ht]; omega
  have hnq : ¬ ∃ j, j < pl ∧ qu j = f (qu q) := fun e => by
    have := (h5 _ ht).mpr e
    omega
  have hw : ∀ t, t < N → va_up wt (f (qu q)) (wt (f (qu q)) - 1) t = ctQ f N qu (q + 1) t := by
    intro t htN
    have := hc t
    by_cases e : t = f (qu q)
    · subst e
      rw [vu_at, h4 _ ht]
      rw [if_pos rfl] at this
      omega
    · rw [vu_ne e, h4 _ htN]
      rw [if_neg (fun z => e z.symm)] at this
      omega
  have hord : ∀ j, j < q + 1 → ∀ i, i < pl → f (qu j) = qu i → j < i := by
    intro j hj i hi e
    rcases Nat.lt_or_ge j q with z | z
    · exact h6 j z i hi e
    · have : j = q := by omega
      subst this
      exact absurd ⟨i, hi, e.symm⟩ hnq
  refine ⟨hpos, fun h0 => ?_, fun h0 => ?_⟩
  · have d1 : ∀ j, j < pl + 1 → va_up qu pl (f (qu q)) j < N := by
      intro j hj
      by_cases e : j = pl
      · rw [e, vu_at]; exact ht
      · rw [vu_ne e]; exact h2 j (by omega)
    have d2 : ∀ i j, i < j → j < pl + 1 → va_up qu pl (f (qu q)) i ≠ va_up qu pl (f (qu q)) j := by
      intro i j hij hj
      rw [vu_ne (show i ≠ pl by omega)]
      by_cases e : j = pl
      · rw [e, vu_at]
        exact fun z => hnq ⟨i, by omega, z⟩
      · rw [vu_ne e]; exact h3 i j hij (by omega)
    have hle := fb_holes N (pl + 1) _ d1 d2
    refine ⟨by omega, by omega, d1, d2, fun t htN => ?_, fun t htN => ?_, fun j hj i hi e => ?_⟩
    · rw [hw t htN]
      unfold ctQ
      have : ∀ s, inQ qu (q + 1) s = inQ (va_up qu pl (f (qu q))) (q + 1) s := fun s => inQ_congr (fun j hj => (vu_ne (by omega)).symm) s
      exact fb_ct_cong (fun s _ => by rw [this])
    · by_cases e : t = f (qu q)
      · subst e
        rw [vu_at]
        exact ⟨fun _ => ⟨pl, by omega, vu_at _ _ _⟩, fun _ => h0⟩
      · rw [vu_ne e, h5 t htN]
        constructor
        · rintro ⟨j, hj, z⟩
          exact ⟨j, by omega, by rw [vu_ne (by omega)]; exact z⟩
        · rintro ⟨j, hj, z⟩
          by_cases e2 : j = pl
          · rw [e2, vu_at] at z; exact absurd z.symm e
          · rw [vu_ne e2] at z; exact ⟨j, by omega, z⟩
    · rw [vu_ne (show j ≠ pl by omega)] at e
      by_cases e2 : i = pl
      · omega
      · rw [vu_ne e2] at e; exact hord j hj i (by omega) e
  · refine ⟨by omega, h2, h3, hw, fun t htN => ?_, hord⟩
    by_cases e : t = f (qu q)
    · subst e
      rw [vu_at]
      exact ⟨fun z => absurd z h0, fun z => absurd z hnq⟩
    · rw [vu_ne e]; exact h5 t htN
/-- the first walk: what none leads to -/
def P1 (N : Nat) (wt qu : Nat → Nat) (pl i : Nat) : Prop := (∀ j, j < pl → qu j < i ∧ wt (qu j) = 0) ∧ (∀ i j, i < j → j < pl → qu i ≠ qu j) ∧ (∀ t, t < i → wt t = 0 → ∃ j, j < pl ∧ qu j = t) ∧ pl = fb_ct (fun t => decide (wt t = 0)) i
theorem P1.zero (N : Nat) (wt qu : Nat → Nat) : P1 N wt qu 0 0 := ⟨fun j hj => absurd hj (by omega), fun i j _ hj => absurd hj (by omega), fun t ht => absurd ht (by omega), rfl⟩
theorem P1.le {N : Nat} {wt qu : Nat → Nat} {pl i : Nat} (h : P1 N wt qu pl i) : pl ≤ i := by
  rw [h.2.2.2]; exact fb_ct_le _ _
theorem P1.yes {N : Nat} {wt qu : Nat → Nat} {pl i : Nat} (h : P1 N wt qu pl i) (h0 : wt i = 0) : P1 N wt (va_up qu pl i) (pl + 1) (i + 1) := by
  obtain ⟨h1, h2, h3, h4⟩ := h
  refine ⟨fun j hj => ?_, fun a j haj hj => ?_, fun t ht hw => ?_, ?_⟩
  · by_cases e : j = pl
    · rw [e, vu_at]; exact ⟨by omega, h0⟩
    · rw [vu_ne e]
      obtain ⟨a, b⟩ := h1 j (by omega)
      exact ⟨by omega, b⟩
  · rw [vu_ne (show a ≠ pl by omega)]
    by_cases e : j = pl
    · rw [e, vu_at]
      have := (h1 a (by omega)).1
      omega
    · rw [vu_ne e]; exact h2 a j haj (by omega)
  · by_cases e : t = i
    · exact ⟨pl, by omega, by rw [vu_at, e]⟩
    · obtain ⟨j, hj, z⟩ := h3 t (by omega) hw
      exact ⟨j, by omega, by rw [vu_ne (by omega)]; exact z⟩
  · rw [fb_ct_succ, ← h4, if_pos (decide_eq_true h0)]
theorem P1.no {N : Nat} {wt qu : Nat → Nat} {pl i : Nat} (h : P1 N wt qu pl i) (h0 : wt i ≠ 0) : P1 N wt qu pl (i + 1) := by
  obtain ⟨h1, h2, h3, h4⟩ := h
  refine ⟨fun j hj => ⟨by have := (h1 j hj).1; omega, (h1 j hj).2⟩, h2, fun t ht hw => ?_, ?_⟩
  · by_cases e : t = i
    · rw [e] at hw; exact absurd hw h0
    · exact h3 t (by omega) hw
  · rw [fb_ct_succ, ← h4, if_neg (by simp [h0])]; rfl
theorem P1.done {f : Nat → Nat} {N : Nat} {wt qu : Nat → Nat} {pl : Nat} (h : P1 N wt qu pl N) (hw : ∀ t, t < N → wt t = fb_ct (fun s => decide (f s = t)) N) : PI f N wt qu pl 0 := by
  obtain ⟨h1, h2, h3, h4⟩ := h
  refine ⟨Nat.zero_le _, fun j hj => (h1 j hj).1, h2, fun t ht => ?_, fun t ht => ⟨h3 t ht, ?_⟩, fun j hj => absurd hj (by omega)⟩
  · rw [hw t ht]
    unfold ctQ
    exact fb_ct_cong (fun s _ => by simp [inQ])
  · rintro ⟨j, hj, e⟩
    rw [← e]; exact (h1 j hj).2
theorem P1.congr {N : Nat} {wt wt' qu : Nat → Nat} {pl i : Nat} (h : P1 N wt qu pl i) (he : ∀ t, t < i → wt' t = wt t) : P1 N wt' qu pl i := by
  obtain ⟨h1, h2, h3, h4⟩ := h
  refine ⟨fun j hj => ⟨(h1 j hj).1, by rw [he _ (h1 j hj).1]; exact (h1 j hj).2⟩, h2, fun t ht hw => h3 t ht (by rw [← he t ht]; exact hw), ?_⟩
  rw [h4]
  exact fb_ct_cong (fun t ht => by rw [he t ht])
/-- what is left when all is peeled: f goes round on it -/
theorem PI.stay {f : Nat → Nat} {N : Nat} {wt qu : Nat → Nat} {pl : Nat} (hf : ∀ s, s < N → f s < N) (h : PI f N wt qu pl pl) :
    (∀ t, t < N → wt t ≠ 0 → wt (f t) ≠ 0) ∧ (∀ s t, s < N → t < N → wt s ≠ 0 → wt t ≠ 0 → f s = f t → s = t) := by
  obtain ⟨h1, h2, h3, h4, h5, h6⟩ := h
  have hout : ∀ t, t < N → (wt t ≠ 0 ↔ inQ qu pl t = false) := by
    intro t ht
    rw [Ne, h5 t ht, ← inQ_iff, Bool.not_eq_true]
  have a1 : ∀ t, t < N → wt t ≠ 0 → wt (f t) ≠ 0 := by
    intro t ht hw
    rw [h4 _ (hf t ht)]
    have : 0 < ctQ f N qu pl (f t) := fb_ct_pos.mpr ⟨t, ht, by rw [(hout t ht).mp hw]; simp⟩
    omega
  have a2 : ∀ t, t < N → wt t ≠ 0 → ∃ s, s < N ∧ wt s ≠ 0 ∧ f s = t := by
    intro t ht hw
    rw [h4 t ht] at hw
    obtain ⟨s, hs, z⟩ := fb_ct_pos.mp (Nat.pos_of_ne_zero hw)
    simp only [Bool.and_eq_true, decide_eq_true_eq, Bool.not_eq_true'] at z
    exact ⟨s, hs, (hout s hs).mpr z.2, z.1⟩
  refine ⟨a1, ?_⟩
  have hg : ∀ t, ∃ s, (t < N → s < N) ∧ (t < N → wt t ≠ 0 → wt s ≠ 0 ∧ f s = t) ∧ (wt t = 0 → s = t) := by
    intro t
    by_cases hw : wt t = 0
    · exact ⟨t, fun h => h, fun _ z => absurd hw z, fun _ => rfl⟩
    · by_cases ht : t < N
      · obtain ⟨s, b1, b2, b3⟩ := a2 t ht hw
        exact ⟨s, fun _ => b1, fun _ _ => ⟨b2, b3⟩, fun z => absurd z hw⟩
      · exact ⟨t, fun h => h, fun z => absurd z ht, fun _ => rfl⟩
  have hex : ∃ g : Nat → Nat, ∀ t, (t < N → g t < N) ∧ (t < N → wt t ≠ 0 → wt (g t) ≠ 0 ∧ f (g t) = t) ∧ (wt t = 0 → g t = t) := ⟨fun t => Classical.choose (hg t), fun t => Classical.choose_spec (hg t)⟩
  obtain ⟨g, hg⟩ := hex
  have ginj : ∀ i j, i < j → j < N → g i ≠ g j := by
    intro i j hij hj e
    by_cases wi : wt i = 0 <;> by_cases wj : wt j = 0
    · rw [(hg i).2.2 wi, (hg j).2.2 wj] at e; omega
    · have := ((hg j).2.1 hj wj).1
      rw [← e, (hg i).2.2 wi] at this
      exact this wi
    · have := ((hg i).2.1 (by omega) wi).1
      rw [e, (hg j).2.2 wj] at this
      exact this wj
    · have z1 := ((hg i).2.1 (by omega) wi).2
      have z2 := ((hg j).2.1 hj wj).2
      rw [e] at z1
      omega
  have gon : ∀ s, s < N → wt s ≠ 0 → s = g (f s) := by
    intro s hs hw
    obtain ⟨t, ht, e⟩ := fb_onto (fun i hi => (hg i).1 hi) ginj hs
    by_cases wt0 : wt t = 0
    · rw [(hg t).2.2 wt0] at e
      rw [e] at wt0
      exact absurd wt0 hw
    · have := ((hg t).2.1 ht wt0).2
      rw [e] at this
      rw [this]; exact e.symm
  intro s t hs ht ws wt' e
  rw [gon s hs ws, gon t ht wt', e]
