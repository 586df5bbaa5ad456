/-! ### plain numbers: rings named -/
/-- the tables of all rings: which ring, how far behind, which place; the rings' least states and lengths; how many -/
def VT (f : Nat → Nat) (N : Nat) (ro be pc le sz : Nat → Nat) (R : Nat) : Prop :=
  (∀ s, s < N → ro s < R) ∧ (∀ s, s < N → be s = 0 → be (f s) = 0 ∧ ro (f s) = ro s) ∧ (∀ s, s < N → 0 < be s → be (f s) + 1 = be s ∧ ro (f s) = ro s ∧ pc (f s) = pc s) ∧
  (∀ r, r < R → le r < N ∧ 1 ≤ sz r ∧ itr f (sz r) (le r) = le r ∧ ∀ j, j < sz r → be (itr f j (le r)) = 0 ∧ ro (itr f j (le r)) = r ∧ pc (itr f j (le r)) = j) ∧
  (∀ s, s < N → be s = 0 → pc s < sz (ro s) ∧ itr f (pc s) (le (ro s)) = s ∧ le (ro s) ≤ s) ∧ (∀ r r', r < r' → r' < R → le r < le r')
/-- the rings below i are named -/
def NI (f : Nat → Nat) (N : Nat) (wt : Nat → Nat) (o : Nat → Option Nat) (be pc le sz : Nat → Nat) (c i : Nat) : Prop :=
  (∀ t, t < N → wt t = 0 → o t = none) ∧ (∀ t r, t < N → o t = some r → r < c ∧ wt t ≠ 0 ∧ be t = 0 ∧ pc t < sz r ∧ itr f (pc t) (le r) = t ∧ o (f t) = some r ∧ le r ≤ t) ∧
  (∀ r, r < c → le r < i ∧ le r < N ∧ 1 ≤ sz r ∧ itr f (sz r) (le r) = le r ∧ ∀ j, j < sz r → o (itr f j (le r)) = some r ∧ pc (itr f j (le r)) = j) ∧
  (∀ r r', r < r' → r' < c → le r < le r') ∧ (∀ t, t < i → t < N → wt t ≠ 0 → o t ≠ none)
theorem NI.zero {f : Nat → Nat} {N : Nat} {wt : Nat → Nat} {o : Nat → Option Nat} {be pc le sz : Nat → Nat} (h : ∀ t, t < N → o t = none) : NI f N wt o be pc le sz 0 0 :=
  ⟨fun t ht _ => h t ht, fun t r ht e => (by rw [h t ht] at e; cases e), fun r hr => absurd hr (by omega), fun r r' _ hr => absurd hr (by omega), fun t ht => absurd ht (by omega)⟩
theorem NI.skip {f : Nat → Nat} {N : Nat} {wt : Nat → Nat} {o : Nat → Option Nat} {be pc le sz : Nat → Nat} {c i : Nat} (h : NI f N wt o be pc le sz c i) (hi : wt i = 0 ∨ o i ≠ none) : NI f N wt o be pc le sz c (i + 1) := by
  obtain ⟨h1, h2, h3, h4, h5⟩ := h
  refine ⟨h1, h2, fun r hr => ⟨by have := (h3 r hr).1; omega, (h3 r hr).2⟩, h4, fun t ht htN hw => ?_⟩
  by_cases e : t = i
  · subst e
    exact hi.elim (fun z => absurd z hw) (fun z => z)
  · exact h5 t (by omega) htN hw
/-- a walk from s, j steps done: what it met had no name -/
def WI (f : Nat → Nat) (N : Nat) (o : Nat → Option Nat) (be pc : Nat → Nat) (c s j : Nat) (o' : Nat → Option Nat) (be' pc' : Nat → Nat) : Prop :=
  (∀ a, a < j → o (itr f a s) = none) ∧ (∀ a b, a < b → b < j → itr f a s ≠ itr f b s) ∧
  (∀ a, a < j → o' (itr f a s) = some c ∧ be' (itr f a s) = 0 ∧ pc' (itr f a s) = a) ∧ (∀ t, (∀ a, a < j → itr f a s ≠ t) → o' t = o t ∧ be' t = be t ∧ pc' t = pc t)
theorem WI.zero (f : Nat → Nat) (N : Nat) (o : Nat → Option Nat) (be pc : Nat → Nat) (c s : Nat) : WI f N o be pc c s 0 o be pc :=
  ⟨fun a ha => absurd ha (by omega), fun a b _ hb => absurd hb (by omega), fun a ha => absurd ha (by omega), fun _ _ => ⟨rfl, rfl, rfl⟩⟩
theorem WI.un {f : Nat → Nat} {N : Nat} {o o' : Nat → Option Nat} {be pc be' pc' : Nat → Nat} {c s j t : Nat} (h : WI f N o be pc c s j o' be' pc') (e : o' t = none) : o t = none ∧ ∀ a, a < j → itr f a s ≠ t := by
  have h2 : ∀ a, a < j → itr f a s ≠ t := fun a ha z => by
    have := (h.2.2.1 a ha).1
    rw [z, e] at this; cases this
  exact ⟨by rw [← (h.2.2.2 t h2).1]; exact e, h2⟩
theorem WI.step {f : Nat → Nat} {N : Nat} {o o' : Nat → Option Nat} {be pc be' pc' : Nat → Nat} {c s j : Nat} (h : WI f N o be pc c s j o' be' pc') (e : o' (itr f j s) = none) :
    WI f N o be pc c s (j + 1) (va_up o' (itr f j s) (some c)) (va_up be' (itr f j s) 0) (va_up pc' (itr f j s) j) := by
  obtain ⟨e1, e2⟩ := h.un e
  obtain ⟨h1, h2, h3, h4⟩ := h
  refine ⟨fun a ha => ?_, fun a b hab hb => ?_, fun a ha => ?_, fun t ht => ?_⟩
  · rcases Nat.lt_or_ge a j with q | q
    · exact h1 a q
    · rw [show a = j by omega]; exact e1
  · rcases Nat.lt_or_ge b j with q | q
    · exact h2 a b hab q
    · rw [show b = j by omega]; exact e2 a (by omega)
  · rcases Nat.lt_or_ge a j with q | q
    · rw [vu_ne (e2 a q), vu_ne (e2 a q), vu_ne (e2 a q)]; exact h3 a q
    · rw [show a = j by omega, vu_at, vu_at, vu_at]; exact ⟨rfl, rfl, rfl⟩
  · have hne : t ≠ itr f j s := fun z => ht j (by omega) z.symm
    rw [vu_ne hne, vu_ne hne, vu_ne hne]
    exact h4 t (fun a ha => ht a (by omega))
theorem WI.le {f : Nat → Nat} {N : Nat} {o o' : Nat → Option Nat} {be pc be' pc' : Nat → Nat} {c s j : Nat} (hf : ∀ s, s < N → f s < N) (hs : s < N) (h : WI f N o be pc c s j o' be' pc') : j ≤ N :=
  fb_holes N j (fun a => itr f a s) (fun a _ => itr_lt hf a s hs) h.2.1
/-- with all N states met, the walk is at its end -/
theorem WI.full {f : Nat → Nat} {N : Nat} {o o' : Nat → Option Nat} {be pc be' pc' : Nat → Nat} {c s j : Nat} (hf : ∀ s, s < N → f s < N) (hs : s < N) (h : WI f N o be pc c s j o' be' pc') (e : o' (itr f j s) = none) : j < N := by
  have := (h.step e).le hf hs
  omega
/-- the walk's end: it has come back to s -/
theorem WI.back {f : Nat → Nat} {N : Nat} {wt : Nat → Nat} {o o' : Nat → Option Nat} {be pc le sz be' pc' : Nat → Nat} {c s j : Nat} (hf : ∀ s, s < N → f s < N) (hst : ∀ t, t < N → wt t ≠ 0 → wt (f t) ≠ 0) (hinj : ∀ s t, s < N → t < N → wt s ≠ 0 → wt t ≠ 0 → f s = f t → s = t)
    (hN : NI f N wt o be pc le sz c s) (hs : s < N) (hw : wt s ≠ 0) (hos : o s = none) (h : WI f N o be pc c s j o' be' pc') (e : o' (itr f j s) ≠ none) : 1 ≤ j ∧ itr f j s = s ∧ ∀ a, wt (itr f a s) ≠ 0 := by
  have hU : ∀ a, wt (itr f a s) ≠ 0 := by
    intro a
    induction a with
    | zero => exact hw
    | succ a ih => rw [itr_succ]; exact hst _ (itr_lt hf a s hs) ih
  obtain ⟨h1, h2, h3, h4⟩ := h
  have hj : 1 ≤ j := by
    rcases Nat.eq_zero_or_pos j with z | z
    · subst z
      have := (h4 s (fun a ha => absurd ha (by omega))).1
      rw [show itr f 0 s = s from rfl, this] at e
      exact absurd hos e
    · exact z
  refine ⟨hj, ?_, hU⟩
  have hpre : itr f j s = f (itr f (j - 1) s) := by
    rw [← itr_succ f, show j - 1 + 1 = j by omega]
  by_cases hm : ∃ a, a < j ∧ itr f a s = itr f j s
  · obtain ⟨a, ha, z⟩ := hm
    rcases Nat.eq_zero_or_pos a with q | q
    · rw [q] at z; exact z.symm
    · exfalso
      have e1 : itr f a s = f (itr f (a - 1) s) := by rw [← itr_succ f, show a - 1 + 1 = a by omega]
      rw [e1, hpre] at z
      have := hinj _ _ (itr_lt hf _ s hs) (itr_lt hf _ s hs) (hU _) (hU _) z
      exact h2 (a - 1) (j - 1) (by omega) (by omega) this
  · exfalso
    have z := (h4 (itr f j s) (fun a ha q => hm ⟨a, ha, q⟩)).1
    rw [z] at e
    cases hr : o (itr f j s) with
    | none => exact e hr
    | some r =>
      have hjN := itr_lt hf j s hs
      obtain ⟨r1, r2, r3, r4, r5, r6, r7⟩ := hN.2.1 _ r hjN hr
      obtain ⟨l1, l2, l3, l4, l5⟩ := hN.2.2.1 r r1
      -- the one ahead of it on its ring
      have hp : ∃ y, y < N ∧ o y = some r ∧ f y = itr f j s := by
        rcases Nat.eq_zero_or_pos (pc (itr f j s)) with q | q
        · refine ⟨itr f (sz r - 1) (le r), itr_lt hf _ _ l2, (l5 _ (by omega)).1, ?_⟩
          rw [← itr_succ f, show sz r - 1 + 1 = sz r by omega, l4, ← r5, q]
          rfl
        · refine ⟨itr f (pc (itr f j s) - 1) (le r), itr_lt hf _ _ l2, (l5 _ (by omega)).1, ?_⟩
          rw [← itr_succ f, show pc (itr f j s) - 1 + 1 = pc (itr f j s) by omega, r5]
      obtain ⟨y, y1, y2, y3⟩ := hp
      rw [hpre] at y3
      have := hinj y _ y1 (itr_lt hf _ s hs) (hN.2.1 y r y1 y2).2.1 (hU _) y3
      rw [this, h1 (j - 1) (by omega)] at y2
      cases y2
theorem NI.ring {f : Nat → Nat} {N : Nat} {wt : Nat → Nat} {o o' : Nat → Option Nat} {be pc le sz be' pc' : Nat → Nat} {c s j : Nat} (hf : ∀ s, s < N → f s < N) (hst : ∀ t, t < N → wt t ≠ 0 → wt (f t) ≠ 0) (hinj : ∀ s t, s < N → t < N → wt s ≠ 0 → wt t ≠ 0 → f s = f t → s = t)
    (hN : NI f N wt o be pc le sz c s) (hs : s < N) (hw : wt s ≠ 0) (hos : o s = none) (h : WI f N o be pc c s j o' be' pc') (e : o' (itr f j s) ≠ none) : NI f N wt o' be' pc' (va_up le c s) (va_up sz c j) (c + 1) (s + 1) := by
  obtain ⟨hj, hback, hU⟩ := h.back hf hst hinj hN hs hw hos e
  obtain ⟨h1, h2, h3, h4⟩ := h
  obtain ⟨n1, n2, n3, n4, n5⟩ := hN
  have hle : ∀ a, a < j → s ≤ itr f a s := by
    intro a ha
    rcases Nat.lt_or_ge (itr f a s) s with q | q
    · exact absurd (h1 a ha) (n5 _ q (itr_lt hf a s hs) (hU a))
    · exact q
  have hsame : ∀ t, (o t ≠ none) → o' t = o t ∧ be' t = be t ∧ pc' t = pc t := fun t ht => h4 t (fun a ha z => ht (by rw [← z]; exact h1 a ha))
  have hold : ∀ t r, t < N → o' t = some r → (∃ a, a < j ∧ itr f a s = t ∧ r = c) ∨ (o t = some r ∧ be' t = be t ∧ pc' t = pc t) := by
    intro t r ht q
    by_cases hm : ∃ a, a < j ∧ itr f a s = t
    · obtain ⟨a, ha, z⟩ := hm
      have := (h3 a ha).1
      rw [z, q] at this
      exact Or.inl ⟨a, ha, z, Option.some.inj this⟩
    · have := h4 t (fun a ha z => hm ⟨a, ha, z⟩)
      exact Or.inr ⟨by rw [← this.1]; exact q, this.2⟩
  refine ⟨fun t ht q => ?_, fun t r ht q => ?_, fun r hr => ?_, fun r r' hrr hr => ?_, fun t ht htN q => ?_⟩
  · have hz : ∀ a, a < j → itr f a s ≠ t := fun a ha z => by have := hU a; rw [z] at this; exact this q
    rw [(h4 t hz).1]; exact n1 t ht q
  · rcases hold t r ht q with ⟨a, ha, z, rfl⟩ | ⟨z1, z2, z3⟩
    · rw [vu_at, vu_at]
      have := h3 a ha
      rw [z] at this
      refine ⟨by omega, by rw [← z]; exact hU a, this.2.1, by rw [this.2.2]; exact ha, by rw [this.2.2]; exact z, ?_, by rw [← z]; exact hle a ha⟩
      rcases Nat.lt_or_ge (a + 1) j with y | y
      · have := (h3 (a + 1) y).1
        rw [itr_succ, z] at this; exact this
      · have e1 : f t = s := by
          rw [← z, ← itr_succ f, show a + 1 = j by omega]; exact hback
        rw [e1]; exact (h3 0 (by omega)).1
    · obtain ⟨r1, r2, r3, r4, r5, r6, r7⟩ := n2 t r ht z1
      rw [vu_ne (by omega), vu_ne (by omega), z2, z3]
      exact ⟨by omega, r2, r3, r4, r5, by rw [(hsame (f t) (by rw [r6]; exact fun y => by cases y)).1]; exact r6, r7⟩
  · by_cases q : r = c
    · subst q
      rw [vu_at, vu_at]
      exact ⟨by omega, hs, hj, hback, fun a ha => ⟨(h3 a ha).1, (h3 a ha).2.2⟩⟩
    · rw [vu_ne q, vu_ne q]
      obtain ⟨l1, l2, l3, l4, l5⟩ := n3 r (by omega)
      refine ⟨by omega, l2, l3, l4, fun a ha => ?_⟩
      obtain ⟨m1, m2⟩ := l5 a ha
      have := hsame (itr f a (le r)) (by rw [m1]; exact fun y => by cases y)
      rw [this.1, this.2.2]; exact ⟨m1, m2⟩
  · rw [vu_ne (show r ≠ c by omega)]
    by_cases q : r' = c
    · rw [q, vu_at]; exact (n3 r (by omega)).1
    · rw [vu_ne q]; exact n4 r r' hrr (by omega)
  · by_cases q2 : t = s
    · subst q2
      rw [show o' t = some c from (h3 0 (by omega)).1]
      exact fun y => by cases y
    · have := n5 t (by omega) htN q
      rw [(hsame t this).1]; exact this
/-- those behind, from the queue's end on: k of them are still to come -/
def BI (f : Nat → Nat) (N : Nat) (wt qu : Nat → Nat) (pl k : Nat) (o : Nat → Option Nat) (be pc : Nat → Nat) (o' : Nat → Option Nat) (be' pc' : Nat → Nat) : Prop :=
  (∀ t, t < N → (∀ j, k ≤ j → j < pl → qu j ≠ t) → o' t = o t ∧ be' t = be t ∧ pc' t = pc t) ∧ (∀ j, k ≤ j → j < pl → o' (qu j) = o' (f (qu j)) ∧ be' (qu j) = be' (f (qu j)) + 1 ∧ pc' (qu j) = pc' (f (qu j)) ∧ o' (qu j) ≠ none)
theorem BI.start (f : Nat → Nat) (N : Nat) (wt qu : Nat → Nat) (pl : Nat) (o : Nat → Option Nat) (be pc : Nat → Nat) : BI f N wt qu pl pl o be pc o be pc := ⟨fun _ _ _ => ⟨rfl, rfl, rfl⟩, fun j h1 h2 => absurd h1 (by omega)⟩
/-- the successor of the one that comes next has its name -/
theorem BI.named {f : Nat → Nat} {N : Nat} {wt qu : Nat → Nat} {pl k : Nat} {o o' : Nat → Option Nat} {be pc le sz be' pc' : Nat → Nat} {c : Nat} (hf : ∀ s, s < N → f s < N) (hPI : PI f N wt qu pl pl) (hN : NI f N wt o be pc le sz c N) (h : BI f N wt qu pl (k + 1) o be pc o' be' pc') (hk : k < pl) : o' (f (qu k)) ≠ none := by
  have hs := hPI.2.1 k hk
  have ht := hf _ hs
  by_cases hw : wt (f (qu k)) = 0
  · obtain ⟨i, hi, z⟩ := (hPI.2.2.2.2.1 _ ht).mp hw
    have := hPI.2.2.2.2.2 k hk i hi z.symm
    rw [← z]
    exact (h.2 i (by omega) hi).2.2.2
  · have h1 := hN.2.2.2.2 _ ht ht hw
    have : ∀ j, k + 1 ≤ j → j < pl → qu j ≠ f (qu k) := fun j _ hj z => hw ((hPI.2.2.2.2.1 _ ht).mpr ⟨j, hj, z⟩)
    rw [(h.1 _ ht this).1]; exact h1
theorem BI.step {f : Nat → Nat} {N : Nat} {wt qu : Nat → Nat} {pl k : Nat} {o o' : Nat → Option Nat} {be pc le sz be' pc' : Nat → Nat} {c : Nat} (hf : ∀ s, s < N → f s < N) (hPI : PI f N wt qu pl pl) (hN : NI f N wt o be pc le sz c N) (h : BI f N wt qu pl (k + 1) o be pc o' be' pc') (hk : k < pl) :
    BI f N wt qu pl k o be pc (va_up o' (qu k) (o' (f (qu k)))) (va_up be' (qu k) (be' (f (qu k)) + 1)) (va_up pc' (qu k) (pc' (f (qu k)))) := by
  have hnm := h.named hf hPI hN hk
  obtain ⟨h1, h2⟩ := h
  have hs := hPI.2.1 k hk
  have hne : f (qu k) ≠ qu k := fun z => by
    have := hPI.2.2.2.2.2 k hk k hk z
    omega
  refine ⟨fun t ht hj => ?_, fun j hj hjp => ?_⟩
  · have e : t ≠ qu k := fun z => hj k (Nat.le_refl _) hk z.symm
    rw [vu_ne e, vu_ne e, vu_ne e]
    exact h1 t ht (fun j a b => hj j (by omega) b)
  · by_cases e : j = k
    · subst e
      rw [vu_at, vu_at, vu_at, vu_ne hne, vu_ne hne, vu_ne hne]
      exact ⟨rfl, rfl, rfl, hnm⟩
    · have d : qu j ≠ qu k := fun z => hPI.2.2.1 k j (by omega) hjp z.symm
      have d2 : f (qu j) ≠ qu k := fun z => by
        have := hPI.2.2.2.2.2 j hjp k hk z
        omega
      rw [vu_ne d, vu_ne d, vu_ne d, vu_ne d2, vu_ne d2, vu_ne d2]
      exact h2 j (by omega) hjp
theorem BI.done {f : Nat → Nat} {N : Nat} {wt qu : Nat → Nat} {pl : Nat} {o o' : Nat → Option Nat} {be pc le sz be' pc' : Nat → Nat} {c : Nat} (hf : ∀ s, s < N → f s < N) (hPI : PI f N wt qu pl pl) (hN : NI f N wt o be pc le sz c N) (h : BI f N wt qu pl 0 o be pc o' be' pc') :
    (∀ s, s < N → o' s ≠ none) ∧ VT f N (fun s => (o' s).getD 0) be' pc' le sz c ∧ ∀ s, s < N → (be' s = 0 ↔ wt s ≠ 0) := by
  obtain ⟨h1, h2⟩ := h
  have hst := (hPI.stay hf).1
  obtain ⟨n1, n2, n3, n4, n5⟩ := hN
  have hU : ∀ t, t < N → wt t ≠ 0 → o' t = o t ∧ be' t = be t ∧ pc' t = pc t := fun t ht hw => h1 t ht (fun j _ hj z => hw ((hPI.2.2.2.2.1 t ht).mpr ⟨j, hj, z⟩))
  have hUn : ∀ t, t < N → wt t ≠ 0 → ∃ r, o' t = some r ∧ o t = some r := by
    intro t ht hw
    have := n5 t ht ht hw
    cases hr : o t with
    | none => exact absurd hr this
    | some r => exact ⟨r, (hU t ht hw).1.trans hr, rfl⟩
  have hQ : ∀ t, t < N → wt t = 0 → o' t = o' (f t) ∧ be' t = be' (f t) + 1 ∧ pc' t = pc' (f t) ∧ o' t ≠ none := by
    intro t ht hw
    obtain ⟨j, hj, z⟩ := (hPI.2.2.2.2.1 t ht).mp hw
    rw [← z]; exact h2 j (Nat.zero_le _) hj
  have hnn : ∀ s, s < N → o' s ≠ none := by
    intro s hs
    by_cases hw : wt s = 0
    · exact (hQ s hs hw).2.2.2
    · obtain ⟨r, e, -⟩ := hUn s hs hw
      rw [e]; exact fun z => by cases z
  have hb : ∀ s, s < N → (be' s = 0 ↔ wt s ≠ 0) := by
    intro s hs
    by_cases hw : wt s = 0
    · have := (hQ s hs hw).2.1
      exact ⟨fun z => absurd z (by omega), fun z => absurd hw z⟩
    · obtain ⟨r, e1, e2⟩ := hUn s hs hw
      exact ⟨fun _ => hw, fun _ => by rw [(hU s hs hw).2.1]; exact (n2 s r hs e2).2.2.1⟩
  -- every ring's number is below c
  have hlt : ∀ m, ∀ s, s < N → be' s = m → ∀ r, o' s = some r → r < c := by
    intro m
    induction m with
    | zero =>
      intro s hs hm r hr
      obtain ⟨r2, e1, e2⟩ := hUn s hs ((hb s hs).mp hm)
      rw [e1] at hr
      cases hr
      exact (n2 s r hs e2).1
    | succ m ih =>
      intro s hs hm r hr
      have hw : wt s = 0 := by
        by_cases hw : wt s = 0
        · exact hw
        · have := (hb s hs).mpr hw
          omega
      obtain ⟨q1, q2, q3, q4⟩ := hQ s hs hw
      exact ih (f s) (hf s hs) (by omega) r (by rw [← q1]; exact hr)
  refine ⟨hnn, ⟨fun s hs => ?_, fun s hs hz => ?_, fun s hs hz => ?_, fun r hr => ?_, fun s hs hz => ?_, n4⟩, hb⟩
  · cases hr : o' s with
    | none => exact absurd hr (hnn s hs)
    | some r =>
      show (o' s).getD 0 < c
      rw [hr]; exact hlt _ s hs rfl r hr
  · have hw := (hb s hs).mp hz
    have hw2 := hst s hs hw
    obtain ⟨r, e1, e2⟩ := hUn s hs hw
    refine ⟨(hb _ (hf s hs)).mpr hw2, ?_⟩
    show (o' (f s)).getD 0 = (o' s).getD 0
    rw [(hU _ (hf s hs) hw2).1, (n2 s r hs e2).2.2.2.2.2.1, e1]
  · have hw : wt s = 0 := by
      by_cases hw : wt s = 0
      · exact hw
      · have := (hb s hs).mpr hw
        omega
    obtain ⟨q1, q2, q3, q4⟩ := hQ s hs hw
    exact ⟨q2.symm, by show (o' (f s)).getD 0 = (o' s).getD 0; rw [q1], q3.symm⟩
  · obtain ⟨l1, l2, l3, l4, l5⟩ := n3 r hr
    refine ⟨l2, l3, l4, fun j hj => ?_⟩
    have hx := itr_lt hf j _ l2
    obtain ⟨m1, m2⟩ := l5 j hj
    have m := n2 _ r hx m1
    have := hU _ hx m.2.1
    refine ⟨by rw [this.2.1]; exact m.2.2.1, ?_, by rw [this.2.2]; exact m2⟩
    show (o' _).getD 0 = r
    rw [this.1, m1]; rfl
  · have hw := (hb s hs).mp hz
    obtain ⟨r, e1, e2⟩ := hUn s hs hw
    have m := n2 s r hs e2
    have er : (o' s).getD 0 = r := by rw [e1]; rfl
    show pc' s < sz ((o' s).getD 0) ∧ itr f (pc' s) (le ((o' s).getD 0)) = s ∧ le ((o' s).getD 0) ≤ s
    rw [er, (hU s hs hw).2.2]
    exact ⟨m.2.2.2.1, m.2.2.2.2.1, m.2.2.2.2.2.2⟩
