/-! ### a turned pair joins two rings -/
section Joins
variable {n : Nat} {b : Nat → Nat}
theorem nx_inj (hn : 1 ≤ n) (hb : ∀ k, b k ≤ 1) (hp : pureTo b (2 ^ n / 2) = true) {s t : Nat} (hs : s < 2 ^ n) (ht : t < 2 ^ n) (e : nx n b s = nx n b t) : s = t := by
  have hh := pow_half hn
  have h1 := (nx_pre hn hs hb (t := nx n b t)).mp e
  have h2 := (nx_pre hn ht hb (t := nx n b t)).mp rfl
  clear e
  generalize nx n b t = u at h1 h2
  obtain ⟨x, hx⟩ : ∃ x, 2 * u % 2 ^ n = 2 * x := by
    rw [← hh, Nat.mul_mod_mul_left]
    exact ⟨_, rfl⟩
  rw [hx] at h1 h2
  have hpu := (pureTo_iff b (2 ^ n / 2)).mp hp x (by omega)
  rcases h1.1 with q | q <;> rcases h2.1 with q' | q'
  · omega
  · have a1 := h1.2.1
    have a2 := h2.2.1
    rw [q] at a1
    rw [q'] at a2
    exact absurd (a1.trans a2.symm) hpu
  · have a1 := h1.2.1
    have a2 := h2.2.1
    rw [q] at a1
    rw [q'] at a2
    exact absurd (a2.trans a1.symm) hpu
  · omega
theorem VT.pure0 {N R : Nat} {f ro be pc le sz : Nat → Nat} (hf : ∀ s, s < N → f s < N) (hi : ∀ s t, s < N → t < N → f s = f t → s = t) (h : VT f N ro be pc le sz R) {s : Nat} (hs : s < N) : be s = 0 := by
  rcases Nat.eq_zero_or_pos (be s) with q | q
  · exact q
  · exfalso
    have hb1 := h.be_itr hf hs (be s - 1)
    have hl1 := itr_lt hf (be s - 1) s hs
    generalize itr f (be s - 1) s = t at hb1 hl1
    have ht1 : be t = 1 := by omega
    have hu := hf t hl1
    have hu0 : be (f t) = 0 := by have := (h.2.2.1 t hl1 (by omega)).1; omega
    have hper := h.period hu hu0
    have hsz := h.sz_pos hu
    have hv := itr_lt hf (sz (ro (f t)) - 1) (f t) hu
    have hbv := (h.be_itr hf hu (sz (ro (f t)) - 1)).1
    have hfv : f (itr f (sz (ro (f t)) - 1) (f t)) = f t := by
      rw [← itr_succ f, show sz (ro (f t)) - 1 + 1 = sz (ro (f t)) by omega]
      exact hper
    have := hi _ _ hv hl1 hfv
    rw [this] at hbv
    omega
/-- from one state the steps lead to another -/
def Cn (f : Nat → Nat) (s t : Nat) : Prop := ∃ j, itr f j s = t
theorem Cn.trans {f : Nat → Nat} {s t u : Nat} (h1 : Cn f s t) (h2 : Cn f t u) : Cn f s u := by
  obtain ⟨j, rfl⟩ := h1
  obtain ⟨k, rfl⟩ := h2
  exact ⟨j + k, itr_add f j k s⟩
theorem VT.conn {N R : Nat} {f ro be pc le sz : Nat → Nat} (hf : ∀ s, s < N → f s < N) (h : VT f N ro be pc le sz R) (h0 : ∀ s, s < N → be s = 0) {s t : Nat} (hs : s < N) (ht : t < N) : Cn f s t ↔ ro s = ro t := by
  constructor
  · rintro ⟨j, rfl⟩
    exact (h.be_itr hf hs j).2.symm
  · intro e
    obtain ⟨j, hj⟩ := h.least_met hs (h0 s hs)
    have h2 := (h.2.2.2.2.1 t ht (h0 t ht)).2.1
    rw [← e] at h2
    exact Cn.trans ⟨j, hj⟩ ⟨_, h2⟩
theorem VT.back {N R : Nat} {f ro be pc le sz : Nat → Nat} (hf : ∀ s, s < N → f s < N) (h : VT f N ro be pc le sz R) (h0 : ∀ s, s < N → be s = 0) {s t : Nat} (hs : s < N) (ht : t < N) (hc : Cn f s t) : Cn f t s := (h.conn hf h0 ht hs).mpr ((h.conn hf h0 hs ht).mp hc).symm
theorem turn_at (b : Nat → Nat) (t s : Nat) : turnB b t s = if s = 2 * t + 1 then 1 - b (2 * t + 1) else if s = 2 * t then 1 - b (2 * t) else b s := rfl
theorem turn_pure (hb : ∀ k, b k ≤ 1) {H t : Nat} (ht : t < H) (hp : pureTo b H = true) : pureTo (turnB b t) H = true := by
  rw [pureTo_iff] at hp ⊢
  intro u hu
  have h1 := hp u hu
  have h2 := hb (2 * u)
  have h3 := hb (2 * u + 1)
  rw [turn_at, turn_at]
  by_cases e : u = t
  · subst e
    rw [if_neg (by omega), if_pos rfl, if_pos rfl]
    omega
  · rw [if_neg (by omega), if_neg (by omega), if_neg (by omega), if_neg (by omega)]
    exact h1
theorem nx_turn (hn : 1 ≤ n) (hb : ∀ k, b k ≤ 1) (hp : pureTo b (2 ^ n / 2) = true) {t : Nat} (ht : t < 2 ^ n / 2) : nx n (turnB b t) (2 * t) = nx n b (2 * t + 1) ∧ nx n (turnB b t) (2 * t + 1) = nx n b (2 * t) ∧ ∀ s, s ≠ 2 * t → s ≠ 2 * t + 1 → nx n (turnB b t) s = nx n b s := by
  have h1 := (pureTo_iff b (2 ^ n / 2)).mp hp t ht
  have h2 := hb (2 * t)
  have h3 := hb (2 * t + 1)
  refine ⟨?_, ?_, fun s a1 a2 => ?_⟩
  · unfold nx ld
    rw [turn_at, if_neg (by omega), if_pos rfl, show 1 - b (2 * t) = b (2 * t + 1) by omega]
    congr 1
    omega
  · unfold nx ld
    rw [turn_at, if_pos rfl, show 1 - b (2 * t + 1) = b (2 * t) by omega]
    congr 1
    omega
  · unfold nx
    rw [turn_at, if_neg a2, if_neg a1]
/-- two rings become one: who is with whom then -/
theorem join_two {N R R' : Nat} {f f' ro be pc le sz ro' be' pc' le' sz' : Nat → Nat} {P Q : Nat} (hf : ∀ s, s < N → f s < N) (hf' : ∀ s, s < N → f' s < N) (h : VT f N ro be pc le sz R) (h' : VT f' N ro' be' pc' le' sz' R') (h0 : ∀ s, s < N → be s = 0) (h0' : ∀ s, s < N → be' s = 0)
    (hP : P < N) (hQ : Q < N) (e1 : f' P = f Q) (e2 : f' Q = f P) (e3 : ∀ s, s ≠ P → s ≠ Q → f' s = f s) (hne : ro P ≠ ro Q) {s t : Nat} (hs : s < N) (ht : t < N) :
    ro' s = ro' t ↔ (if ro s = ro Q then ro P else ro s) = (if ro t = ro Q then ro P else ro t) := by
  have roN : ∀ s, s < N → ro (f s) = ro s := fun s hs => (h.2.1 s hs (h0 s hs)).2
  have hPQ : P ≠ Q := fun z => hne (by rw [z])
  -- a walk that meets neither is the same
  have same : ∀ s, s < N → ro s ≠ ro P → ro s ≠ ro Q → ∀ j, itr f' j s = itr f j s := by
    intro s hs n1 n2 j
    induction j with
    | zero => rfl
    | succ j ih =>
      rw [itr_succ, itr_succ, ih]
      have hr := (h.be_itr hf hs j).2
      exact e3 _ (fun z => n1 (by rw [← hr, z])) (fun z => n2 (by rw [← hr, z]))
  -- from one the ring of the other is walked
  have walk : ∀ A B, A < N → B < N → ro A ≠ ro B → f' A = f B → (∀ s, s ≠ A → s ≠ B → f' s = f s) → ∀ i, 1 ≤ i → i ≤ sz (ro B) → itr f' i A = itr f i B := by
    intro A B hA hB hAB ea eo i
    induction i with
    | zero => intro z; omega
    | succ i ih =>
      intro _ hi
      rcases Nat.eq_zero_or_pos i with q | q
      · subst q
        show f' A = f B
        exact ea
      · rw [itr_succ, itr_succ, ih q (by omega)]
        have hr := (h.be_itr hf hB i).2
        refine eo _ (fun z => hAB (by rw [← hr, z])) (fun z => ?_)
        -- i steps from B back to B, i below the ring's size
        obtain ⟨p1, p2, p3⟩ := h.2.2.2.2.1 B hB (h0 B hB)
        obtain ⟨q1, q2, q3, q4⟩ := h.2.2.2.1 (ro B) (h.1 B hB)
        have k1 : itr f (pc B + i) (le (ro B)) = B := by rw [itr_add, p2, z]
        rcases Nat.lt_or_ge (pc B + i) (sz (ro B)) with c1 | c1
        · have := (q4 (pc B + i) c1).2.2
          rw [k1] at this
          omega
        · have k2 : itr f (pc B + i - sz (ro B)) (le (ro B)) = B := by
            have := itr_add f (sz (ro B)) (pc B + i - sz (ro B)) (le (ro B))
            rw [q3, show sz (ro B) + (pc B + i - sz (ro B)) = pc B + i by omega, k1] at this
            exact this.symm
          have := (q4 (pc B + i - sz (ro B)) (by omega)).2.2
          rw [k2] at this
          omega
  have reach : ∀ A B, A < N → B < N → ro A ≠ ro B → f' A = f B → (∀ s, s ≠ A → s ≠ B → f' s = f s) → ∀ s, s < N → ro s = ro B → Cn f' A s := by
    intro A B hA hB hAB ea eo s hs hr
    obtain ⟨j, hj⟩ := (h.conn hf h0 hB hs).mpr hr.symm
    have hsz := h.sz_pos hB
    have hper := h.period hB (h0 B hB)
    -- j taken within the ring, at least one step
    have hm : itr f (j % sz (ro B)) B = s := (itr_mod hper j).trans hj
    have hml := Nat.mod_lt j (show 0 < sz (ro B) by omega)
    rcases Nat.eq_zero_or_pos (j % sz (ro B)) with q | q
    · rw [q] at hm
      have hm : B = s := hm
      exact ⟨sz (ro B), by rw [walk A B hA hB hAB ea eo _ hsz (Nat.le_refl _), hper, hm]⟩
    · exact ⟨j % sz (ro B), by rw [walk A B hA hB hAB ea eo _ q (by omega), hm]⟩
  have fromP : ∀ s, s < N → (ro s = ro P ∨ ro s = ro Q) → Cn f' P s := by
    intro s hs hr
    have toQ : Cn f' P Q := reach P Q hP hQ hne e1 e3 Q hQ rfl
    rcases hr with q | q
    · exact toQ.trans (reach Q P hQ hP (fun z => hne z.symm) e2 (fun s a b => e3 s b a) s hs q)
    · exact reach P Q hP hQ hne e1 e3 s hs q
  have inv : ∀ s, s < N → (if ro (f' s) = ro Q then ro P else ro (f' s)) = (if ro s = ro Q then ro P else ro s) := by
    intro s hs
    by_cases c1 : s = P
    · rw [c1, e1, roN Q hQ, if_pos rfl, if_neg hne]
    · by_cases c2 : s = Q
      · rw [c2, e2, roN P hP, if_neg hne, if_pos rfl]
      · rw [e3 s c1 c2, roN s hs]
  have inv2 : ∀ j s, s < N → (if ro (itr f' j s) = ro Q then ro P else ro (itr f' j s)) = (if ro s = ro Q then ro P else ro s) := by
    intro j
    induction j with
    | zero => exact fun s _ => rfl
    | succ j ih => exact fun s hs => (ih (f' s) (hf' s hs)).trans (inv s hs)
  rw [← h'.conn hf' h0' hs ht]
  constructor
  · rintro ⟨j, rfl⟩
    exact (inv2 j s hs).symm
  · intro e
    by_cases c1 : ro s = ro P ∨ ro s = ro Q
    · have c2 : ro t = ro P ∨ ro t = ro Q := by
        rcases c1 with q | q
        · rw [if_neg (by rw [q]; exact hne), q] at e
          by_cases z : ro t = ro Q
          · exact Or.inr z
          · rw [if_neg z] at e; exact Or.inl e.symm
        · rw [if_pos q] at e
          by_cases z : ro t = ro Q
          · exact Or.inr z
          · rw [if_neg z] at e; exact Or.inl e.symm
      exact (h'.back hf' h0' hP hs (fromP s hs c1)).trans (fromP t ht c2)
    · have n1 : ro s ≠ ro P := fun z => c1 (Or.inl z)
      have n2 : ro s ≠ ro Q := fun z => c1 (Or.inr z)
      rw [if_neg n2] at e
      have est : ro s = ro t := by
        by_cases z : ro t = ro Q
        · rw [if_pos z] at e; exact absurd e n1
        · rw [if_neg z] at e; exact e
      obtain ⟨j, hj⟩ := (h.conn hf h0 hs ht).mpr est
      exact ⟨j, by rw [same s hs n1 n2 j, hj]⟩
/-- groups of the rings of old stand for the rings now -/
def JR (N : Nat) (ro g ro' : Nat → Nat) : Prop := ∀ s t, s < N → t < N → (ro' s = ro' t ↔ g (ro s) = g (ro t))
theorem rgp_eq {g : Nat → Nat} {a x C r r' : Nat} (hr : r < C) (hr' : r' < C) : rgp g a x C r = rgp g a x C r' ↔ (if g r = a then x else g r) = (if g r' = a then x else g r') := by
  unfold rgp
  have e1 : (r < C ∧ g r = a) ↔ g r = a := ⟨fun z => z.2, fun z => ⟨hr, z⟩⟩
  have e2 : (r' < C ∧ g r' = a) ↔ g r' = a := ⟨fun z => z.2, fun z => ⟨hr', z⟩⟩
  simp only [e1, e2]
theorem JR.step {N C R R' P Q : Nat} {f f' ro0 g ro be pc le sz ro' be' pc' le' sz' : Nat → Nat} (hJ : JR N ro0 g ro) (hC : ∀ s, s < N → ro0 s < C) (hf : ∀ s, s < N → f s < N) (hf' : ∀ s, s < N → f' s < N) (h : VT f N ro be pc le sz R) (h' : VT f' N ro' be' pc' le' sz' R') (h0 : ∀ s, s < N → be s = 0) (h0' : ∀ s, s < N → be' s = 0)
    (hP : P < N) (hQ : Q < N) (e1 : f' P = f Q) (e2 : f' Q = f P) (e3 : ∀ s, s ≠ P → s ≠ Q → f' s = f s) (hne : ro P ≠ ro Q) : JR N ro0 (rgp g (g (ro0 Q)) (g (ro0 P)) C) ro' := by
  intro s t hs ht
  rw [join_two hf hf' h h' h0 h0' hP hQ e1 e2 e3 hne hs ht, rgp_eq (hC s hs) (hC t ht)]
  have sQ := hJ s Q hs hQ
  have tQ := hJ t Q ht hQ
  have st := hJ s t hs ht
  have Pt := hJ P t hP ht
  have sP := hJ s P hs hP
  by_cases c1 : ro s = ro Q <;> by_cases c2 : ro t = ro Q
  · rw [if_pos c1, if_pos c2, if_pos (sQ.mp c1), if_pos (tQ.mp c2)]
    exact ⟨fun _ => rfl, fun _ => rfl⟩
  · rw [if_pos c1, if_neg c2, if_pos (sQ.mp c1), if_neg (fun z => c2 (tQ.mpr z))]
    exact Pt
  · rw [if_neg c1, if_pos c2, if_neg (fun z => c1 (sQ.mpr z)), if_pos (tQ.mp c2)]
    exact sP
  · rw [if_neg c1, if_neg c2, if_neg (fun z => c1 (sQ.mpr z)), if_neg (fun z => c2 (tQ.mpr z))]
    exact st
theorem jfr_end {ro : Nat → Nat} {C : Nat} {q : (Nat → Nat) × (Nat → Nat) × Nat} {H : Nat} : ∀ d t, t + d ≤ H → (∀ s u, s < 2 * H → u < 2 * H → (jfr ro C q t).1 (ro s) = (jfr ro C q t).1 (ro u)) → jfr ro C q (t + d) = jfr ro C q t
  | 0, _, _, _ => rfl
  | d + 1, t, h, hall => by
    show jst ro C (jfr ro C q (t + d)) (t + d) = jfr ro C q t
    rw [jfr_end d t (by omega) hall]
    unfold jst
    rw [if_pos (hall _ _ (by omega) (by omega))]
end Joins
section MoJoin
variable {a0 a1 a2 a3 a4 a5 a7 m : List va_E} {fl tc : Int32} {n : Nat} {b : Nat → Nat} {la : Nat → Int32} {zs : Nat → Nat} {cs : Nat → Nat → Int64}
theorem c_mo_joinS (hp : ¬ pureTo b (2 ^ n / 2) = true) (h : MS n b tc fl la zs cs m) : AMet M_mo_join [.ref 6] [a0, a1, a2, a3, a4, a5, m, a7] (fun (r' : Option Value) (w' : Wd) => r' = some (.int (-nI 3)) ∧ ∃ m', w' = [a0, a1, a2, a3, a4, a5, m', a7] ∧ MS n b tc fl la zs cs m') 0 0 := by
  obtain ⟨fd, R, le, sz, o, be, pc, wt, qu, lm, sl, ce, tb, mt, ru, bf, kp, rfl, hn, hn9, hb, hfd, hL, hT⟩ := h
  refine AMet.of [(0, .ref 6)] (by decide +kernel) rfl (Nat.le_of_ble_eq_true rfl) ?_
  refine aw_aload_n 0 D_mo_join_0 rfl rfl ?_
  refine aw_callV1 (As := []) D_mo_join_1 kv_mo_isPure (c_mo_pure (by omega) hn9 hb) rfl rfl rfl rfl rfl (Nat.le_of_ble_eq_true rfl) (Nat.zero_le _) (Nat.zero_le _) ?_
  rw [if_neg hp]
  refine aw_if_neN D_mo_join_4 (by decide) (fun h => absurd h (by decide)) (fun h => ?_)
  refine aw_bipush (-nI 3) D_mo_join_7 rfl ?_
  refine aw_ireturn D_mo_join_9 rfl rfl ?_
  exact ⟨rfl, _, rfl, fd, R, le, sz, o, be, pc, wt, qu, lm, sl, ce, tb, mt, ru, bf, kp, rfl, hn, hn9, hb, hfd, hL, hT⟩
theorem c_mo_join (hp : pureTo b (2 ^ n / 2) = true) (h : MS n b tc fl la zs cs m) : AMet M_mo_join [.ref 6] [a0, a1, a2, a3, a4, a5, m, a7] (fun (r' : Option Value) (w' : Wd) => r' = some (.int (nI (jfr (cRo n b) (cR n b) (id, b, 0) (2 ^ n / 2)).2.2)) ∧ ∃ m', w' = [a0, a1, a2, a3, a4, a5, m', a7] ∧ MS n ((jfr (cRo n b) (cR n b) (id, b, 0) (2 ^ n / 2)).2.1) tc fl la zs cs m') 0 0 := by
  obtain ⟨fd, R, le, sz, o, be, pc, wt, qu, lm, sl, ce, tb, mt, ru, bf, kp, rfl, hn, hn9, hb, hfd, hL, hT⟩ := h
  have hp9 := pow_le9 hn9
  have hh := pow_half (n := n) (by omega)
  refine AMet.of [(0, .ref 6)] (by decide +kernel) rfl (Nat.le_of_ble_eq_true rfl) ?_
  generalize hZ : (fun (r' : Option Value) (w' : Wd) => r' = some (.int (nI (jfr (cRo n b) (cR n b) (id, b, 0) (2 ^ n / 2)).2.2)) ∧ ∃ m', w' = [a0, a1, a2, a3, a4, a5, m', a7] ∧ MS n ((jfr (cRo n b) (cR n b) (id, b, 0) (2 ^ n / 2)).2.1) tc fl la zs cs m') = ZZ
  refine aw_aload_n 0 D_mo_join_0 rfl rfl ?_
  refine aw_callV1 (As := []) D_mo_join_1 kv_mo_isPure (c_mo_pure (by omega) hn9 hb) rfl rfl rfl rfl rfl (Nat.le_of_ble_eq_true rfl) (Nat.zero_le _) (Nat.zero_le _) ?_
  rw [if_pos hp]
  refine aw_if_neN D_mo_join_4 (by decide) (fun h => ?_) (fun h => absurd h (by decide))
  refine aw_aload_n 0 D_mo_join_10 rfl rfl ?_
  refine aw_callV (As := []) D_mo_join_11 kv_mo_find (c_mo_find hn hn9 hb hfd) rfl rfl rfl rfl rfl (Nat.le_of_ble_eq_true rfl) (Nat.zero_le _) (Nat.zero_le _) (fun r w' hp => ?_)
  obtain ⟨rfl, R, le, sz, o, be, pc, wt, qu, rfl, pd, fa, hF⟩ := hp
  have hcan := hF.can (by omega) hb
  have hVc := hF.vt
  have key : ∀ (d t : Nat) (g bt' : Nat → Nat) (cnt R : Nat) (le sz : Nat → Nat) (o : Nat → Option Nat) (be pc wt qu : Nat → Nat), t + d = 2 ^ n / 2 → jfr (cRo n b) (cR n b) (id, b, 0) t = (g, bt', cnt) → (∀ k, bt' k ≤ 1) → pureTo bt' (2 ^ n / 2) = true → MF n bt' R o be pc le sz → JR (2 ^ n) (cRo n b) g (fun s => (o s).getD 0) → AW M_mo_join noP (Zp ZZ) 0 0 18 [(0, .ref 6), (1, .int (nI cnt)), (2, .int (nI t))] [] [a0, a1, a2, a3, a4, a5, MO fl tc n 1 R bt' le sz o be pc wt qu lm sl ce tb mt ru bf kp, a7] 0 0 := by
    intro d
    induction d with
    | zero =>
      intro t g bt' cnt R le sz o be pc wt qu ht hj hb1 hpu hM hJ
      have ht : t = 2 ^ n / 2 := by omega
      subst ht
      rw [hj] at hZ
      refine aw_iload_n 2 D_mo_join_18 rfl rfl ?_
      refine aw_aload_n 0 D_mo_join_19 rfl rfl ?_
      refine aw_callV1 (As := []) D_mo_join_20 kv_mo_states (c_mo_states hn9) rfl rfl rfl rfl rfl (Nat.le_of_ble_eq_true rfl) (Nat.zero_le _) (Nat.zero_le _) ?_
      refine aw_iconst (nI 2) D_mo_join_23 rfl ?_
      first | with_reducible refine aw_idivN D_mo_join_24 (by omega) (by omega) (by omega) ?_ | refine aw_idiv D_mo_join_24 (by decide) ?_
      refine aw_icmp_geN D_mo_join_25 (by omega) (by omega) (fun h => ?_) (fun h => absurd h (by omega))
      refine aw_iload_n 1 D_mo_join_71 rfl rfl ?_
      refine aw_ireturn D_mo_join_72 rfl rfl ?_
      subst hZ; exact ⟨rfl, _, rfl, 1, R, le, sz, o, be, pc, wt, qu, lm, sl, ce, tb, mt, ru, bf, kp, rfl, hn, hn9, hb1, (Or.inr ⟨rfl, hM⟩), hL, hT⟩
    | succ d ih =>
      intro t g bt' cnt R le sz o be pc wt qu ht hj hb1 hpu hM hJ
      obtain ⟨pd, fa, hF⟩ := hM
      have hf := FT.hf (n := n) (b := bt') (by omega) hb1
      have hV := hF.2.1
      have hR := hV.R_le
      have h0 : ∀ s, s < 2 ^ n → be s = 0 := fun s hs => hV.pure0 hf (fun s t hs ht e => nx_inj (by omega) hb1 hpu hs ht e) hs
      have r1 := hV.1 (2 * t) (by omega)
      have r2 := hV.1 (2 * t + 1) (by omega)
      dsimp only at r1 r2
      have hnext : jfr (cRo n b) (cR n b) (id, b, 0) (t + 1) = if g (cRo n b (2 * t)) = g (cRo n b (2 * t + 1)) then (g, bt', cnt) else (rgp g (g (cRo n b (2 * t + 1))) (g (cRo n b (2 * t))) (cR n b), turnB bt' t, cnt + 1) := by
        show jst _ _ (jfr _ _ _ t) t = _
        rw [hj]
        rfl
      refine aw_iload_n 2 D_mo_join_18 rfl rfl ?_
      refine aw_aload_n 0 D_mo_join_19 rfl rfl ?_
      refine aw_callV1 (As := []) D_mo_join_20 kv_mo_states (c_mo_states hn9) rfl rfl rfl rfl rfl (Nat.le_of_ble_eq_true rfl) (Nat.zero_le _) (Nat.zero_le _) ?_
      refine aw_iconst (nI 2) D_mo_join_23 rfl ?_
      first | with_reducible refine aw_idivN D_mo_join_24 (by omega) (by omega) (by omega) ?_ | refine aw_idiv D_mo_join_24 (by decide) ?_
      refine aw_icmp_geN D_mo_join_25 (by omega) (by omega) (fun h => absurd h (by omega)) (fun h => ?_)
      refine aw_aload_n 0 D_mo_join_28 rfl rfl ?_
      refine aw_get D_mo_join_29 rfl rfl ?_
      refine aw_iconst (nI 1) D_mo_join_32 rfl ?_
      refine aw_icmp_leN D_mo_join_33 (by omega) (by decide) (fun h1 => ?_) (fun h1 => ?_)
      · have hall : ∀ s u, s < 2 * (2 ^ n / 2) → u < 2 * (2 ^ n / 2) → (jfr (cRo n b) (cR n b) (id, b, 0) t).1 (cRo n b s) = (jfr (cRo n b) (cR n b) (id, b, 0) t).1 (cRo n b u) := by
          intro s u hs hu
          rw [hj]
          refine (hJ s u (by omega) (by omega)).mp ?_
          have q1 := hV.1 s (by omega)
          have q2 := hV.1 u (by omega)
          dsimp only at q1 q2 ⊢
          omega
        have hend := jfr_end (ro := cRo n b) (C := cR n b) (q := (id, b, 0)) (H := 2 ^ n / 2) (d + 1) t (by omega) hall
        rw [show t + (d + 1) = 2 ^ n / 2 from ht, hj] at hend
        rw [hend] at hZ
        refine aw_iload_n 1 D_mo_join_71 rfl rfl ?_
        refine aw_ireturn D_mo_join_72 rfl rfl ?_
        subst hZ; exact ⟨rfl, _, rfl, 1, R, le, sz, o, be, pc, wt, qu, lm, sl, ce, tb, mt, ru, bf, kp, rfl, hn, hn9, hb1, (Or.inr ⟨rfl, pd, fa, hF⟩), hL, hT⟩
      · refine aw_aload_n 0 D_mo_join_36 rfl rfl ?_
        refine aw_get D_mo_join_37 rfl rfl ?_
        refine aw_iconst (nI 2) D_mo_join_40 rfl ?_
        refine aw_iload_n 2 D_mo_join_41 rfl rfl ?_
        first | with_reducible refine aw_imulN D_mo_join_42 ?_ | refine aw_imul D_mo_join_42 ?_
        refine aw_ialdN D_mo_join_43 rfl (by omega) (by omega) ?_
        rw [show oF (-nI 9) o (2 * t) = nI ((o (2 * t)).getD 0) from oI_get (hF.1 _ (by omega))]
        refine aw_aload_n 0 D_mo_join_44 rfl rfl ?_
        refine aw_get D_mo_join_45 rfl rfl ?_
        refine aw_iconst (nI 2) D_mo_join_48 rfl ?_
        refine aw_iload_n 2 D_mo_join_49 rfl rfl ?_
        first | with_reducible refine aw_imulN D_mo_join_50 ?_ | refine aw_imul D_mo_join_50 ?_
        refine aw_iconst (nI 1) D_mo_join_51 rfl ?_
        first | with_reducible refine aw_iaddN D_mo_join_52 ?_ | refine aw_iadd D_mo_join_52 ?_
        refine aw_ialdN D_mo_join_53 rfl (by omega) (by omega) ?_
        rw [show oF (-nI 9) o (2 * t + 1) = nI ((o (2 * t + 1)).getD 0) from oI_get (hF.1 _ (by omega))]
        have hrel := hJ (2 * t) (2 * t + 1) (by omega) (by omega)
        dsimp only at hrel
        refine aw_icmp_eqN D_mo_join_54 (by omega) (by omega) (fun h2 => ?_) (fun h2 => ?_)
        · rw [if_pos (hrel.mp h2)] at hnext
          first | refine aw_incN D_mo_join_65 rfl (Nat.le_of_ble_eq_true rfl) rfl ?_ | refine aw_inc D_mo_join_65 rfl (Nat.le_of_ble_eq_true rfl) rfl ?_
          refine aw_goto D_mo_join_68 ?_
          exact ih (t + 1) g bt' cnt R le sz o be pc wt qu (by omega) hnext hb1 hpu ⟨pd, fa, hF⟩ hJ
        · rw [if_neg (fun z => h2 (hrel.mpr z))] at hnext
          refine aw_aload_n 0 D_mo_join_57 rfl rfl ?_
          refine aw_iload_n 2 D_mo_join_58 rfl rfl ?_
          refine aw_callV (As := [_]) D_mo_join_59 kv_mo_turnPair (c_mo_turnPair0 (t := t) hn hn9 hb1 (by omega)) rfl rfl rfl rfl rfl (Nat.le_of_ble_eq_true rfl) (Nat.zero_le _) (Nat.zero_le _) (fun r w' hp => ?_)
          obtain ⟨rfl, R2, le2, sz2, o2, be2, pc2, wt2, qu2, rfl, hM2⟩ := hp
          have hM3 := hM2
          obtain ⟨pd2, fa2, hF2⟩ := hM2
          have hb3 := turnB_le hb1 t
          have hpu2 := turn_pure hb1 (show t < 2 ^ n / 2 by omega) hpu
          have hf2 := FT.hf (n := n) (b := turnB bt' t) (by omega) hb3
          have h02 : ∀ s, s < 2 ^ n → be2 s = 0 := fun s hs => hF2.2.1.pure0 hf2 (fun s t hs ht e => nx_inj (by omega) hb3 hpu2 hs ht e) hs
          obtain ⟨t1, t2, t3⟩ := nx_turn (n := n) (by omega) hb1 hpu (show t < 2 ^ n / 2 by omega)
          have hJ2 := JR.step (C := cR n b) hJ (fun s hs => hVc.1 s hs) hf hf2 hV hF2.2.1 h0 h02 (show 2 * t < 2 ^ n by omega) (show 2 * t + 1 < 2 ^ n by omega) t1 t2 t3 h2
          first | refine aw_incN D_mo_join_62 rfl (Nat.le_of_ble_eq_true rfl) rfl ?_ | refine aw_inc D_mo_join_62 rfl (Nat.le_of_ble_eq_true rfl) rfl ?_
          first | refine aw_incN D_mo_join_65 rfl (Nat.le_of_ble_eq_true rfl) rfl ?_ | refine aw_inc D_mo_join_65 rfl (Nat.le_of_ble_eq_true rfl) rfl ?_
          refine aw_goto D_mo_join_68 ?_
          exact ih (t + 1) _ _ (cnt + 1) R2 le2 sz2 o2 be2 pc2 wt2 qu2 (by omega) hnext hb3 hpu2 hM3 hJ2
  refine aw_iconst (nI 0) D_mo_join_14 rfl ?_
  refine aw_istore_n 1 D_mo_join_15 rfl (Nat.le_of_ble_eq_true rfl) rfl ?_
  refine aw_iconst (nI 0) D_mo_join_16 rfl ?_
  refine aw_istore_n 2 D_mo_join_17 rfl (Nat.le_of_ble_eq_true rfl) rfl ?_
  refine key (2 ^ n / 2) 0 id b 0 R le sz o be pc wt qu (by omega) rfl hb ?_ ⟨pd, fa, hF⟩ (fun s t hs ht => ?_)
  · assumption
  · dsimp only
    rw [(hcan.2.2.1 s hs).1, (hcan.2.2.1 t ht).1]
    rfl
end MoJoin
