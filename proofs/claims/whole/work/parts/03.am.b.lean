/-! ### locals -/
def lk : List (Nat × Value) → Nat → Option Value
  | [], _ => none
  | q :: l, i => bif Nat.beq q.1 i then some q.2 else lk l i
def lset : List (Nat × Value) → Nat → Value → List (Nat × Value)
  | [], i, v => [(i, v)]
  | q :: l, i, v => bif Nat.beq q.1 i then (i, v) :: l else q :: lset l i v
/-- nothing that a store into i (and i + 1) would spoil, but i itself once -/
def lbad (q : Nat × Value) (i : Nat) (two : Bool) : Bool := (Nat.beq (q.1 + 1) i && Nat.beq q.2.category 2) || (two && Nat.beq q.1 (i + 1))
def lsok : List (Nat × Value) → Nat → Bool → Bool
  | [], _, _ => true
  | q :: l, i, two => bif Nat.beq q.1 i then l.all (fun q => !Nat.beq q.1 i && !lbad q i two) else (!lbad q i two && lsok l i two)
def lc (ad : Nat → Nat) (q : Nat × Value) : Nat × Value := (q.1, cv ad q.2)
theorem lk_mem {L : List (Nat × Value)} {i : Nat} {v : Value} (h : lk L i = some v) : (i, v) ∈ L := by
  induction L with
  | nil => cases h
  | cons q l ih =>
    unfold lk at h
    cases hb : Nat.beq q.1 i with
    | true =>
      rw [hb] at h
      have e := Nat.eq_of_beq_eq_true hb
      cases h
      subst e
      exact List.mem_cons_self
    | false =>
      rw [hb] at h
      exact List.mem_cons_of_mem _ (ih h)
theorem lset_mem {L : List (Nat × Value)} {i : Nat} {v : Value} {two : Bool} (hok : lsok L i two = true) {q : Nat × Value} (h : q ∈ lset L i v) : q = (i, v) ∨ (q ∈ L ∧ q.1 ≠ i ∧ lbad q i two = false) := by
  induction L with
  | nil => exact Or.inl (List.mem_singleton.mp h)
  | cons a l ih =>
    unfold lset at h
    unfold lsok at hok
    cases hb : Nat.beq a.1 i with
    | true =>
      rw [hb] at h hok
      rcases List.mem_cons.mp h with h | h
      · exact Or.inl h
      · have h2 := List.all_eq_true.mp hok q h
        simp only [Bool.and_eq_true, Bool.not_eq_true'] at h2
        exact Or.inr ⟨List.mem_cons_of_mem _ h, Nat.ne_of_beq_eq_false h2.1, h2.2⟩
    | false =>
      rw [hb] at h hok
      simp only [cond_false, Bool.and_eq_true, Bool.not_eq_true'] at hok
      rcases List.mem_cons.mp h with h | h
      · subst h
        exact Or.inr ⟨List.mem_cons_self, Nat.ne_of_beq_eq_false hb, hok.1⟩
      · rcases ih hok.2 h with h | ⟨h1, h2⟩
        · exact Or.inl h
        · exact Or.inr ⟨List.mem_cons_of_mem _ h1, h2⟩
theorem beqq (a b : Nat) : Nat.beq a b = (a == b) := by
  cases h : Nat.beq a b with
  | true => have := Nat.eq_of_beq_eq_true h; simp [this]
  | false => have := Nat.ne_of_beq_eq_false h; simp [this]
theorem lv_put {ls : Array Slot} {n : Nat} {ad : Nat → Nat} {L : List (Nat × Value)} {i : Nat} {v : Value} (hok : lsok L i false = true)
    (h : lv_has ls n ((i, cv ad v) :: (L.map (lc ad)).filter (fun q => !(q.1 == i) && !(q.1 + 1 == i && q.2.category == 2)))) : lv_has ls n ((lset L i v).map (lc ad)) := by
  refine ⟨h.1, h.2.1, fun q hq => ?_⟩
  obtain ⟨q', hq', rfl⟩ := List.mem_map.mp hq
  rcases lset_mem hok hq' with rfl | ⟨h1, h2, h3⟩
  · exact h.2.2 _ List.mem_cons_self
  · refine h.2.2 _ (List.mem_cons_of_mem _ (List.mem_filter.mpr ⟨List.mem_map.mpr ⟨q', h1, rfl⟩, ?_⟩))
    have e2 : (cv ad q'.2).category = q'.2.category := cv_cat ad q'.2
    unfold lbad at h3
    simp only [Bool.false_and, Bool.or_false] at h3
    show (!((lc ad q').1 == i) && !((lc ad q').1 + 1 == i && (lc ad q').2.category == 2)) = true
    show (!(q'.1 == i) && !(q'.1 + 1 == i && (cv ad q'.2).category == 2)) = true
    rw [e2]
    simp only [Bool.and_eq_true, Bool.not_eq_true', beq_eq_false_iff_ne, ne_eq]
    rw [beqq, beqq] at h3
    exact ⟨h2, h3⟩
theorem lv_put2 {ls : Array Slot} {n : Nat} {ad : Nat → Nat} {L : List (Nat × Value)} {i : Nat} {v : Value} (hok : lsok L i true = true)
    (h : lv_has ls n ((i, cv ad v) :: (L.map (lc ad)).filter (fun q => !(q.1 == i) && (!(q.1 == i + 1) && !(q.1 + 1 == i && q.2.category == 2))))) : lv_has ls n ((lset L i v).map (lc ad)) := by
  refine ⟨h.1, h.2.1, fun q hq => ?_⟩
  obtain ⟨q', hq', rfl⟩ := List.mem_map.mp hq
  rcases lset_mem hok hq' with rfl | ⟨h1, h2, h3⟩
  · exact h.2.2 _ List.mem_cons_self
  · refine h.2.2 _ (List.mem_cons_of_mem _ (List.mem_filter.mpr ⟨List.mem_map.mpr ⟨q', h1, rfl⟩, ?_⟩))
    have e2 : (cv ad q'.2).category = q'.2.category := cv_cat ad q'.2
    unfold lbad at h3
    simp only [Bool.true_and, Bool.or_eq_false_iff] at h3
    show (!(q'.1 == i) && (!(q'.1 == i + 1) && !(q'.1 + 1 == i && (cv ad q'.2).category == 2))) = true
    rw [e2]
    simp only [Bool.and_eq_true, Bool.not_eq_true', beq_eq_false_iff_ne, ne_eq]
    obtain ⟨h4, h5⟩ := h3
    rw [beqq, beqq] at h4
    exact ⟨h2, Nat.ne_of_beq_eq_false h5, h4⟩
/-! ### the judgement -/
abbrev Cx (mi : MI) (p : Program) (s : State) (m : MethodId) (args : Array Value) (meth : Method) (c : Code) (D : va_G) (dA : Nat → ClassId) (A : Nat → Prop) : Prop :=
  p.tables.exec = Jvm.exec ∧ c.code = mi.2.1 ∧ meth.sig.returnType = mi.2.2.2.1 ∧ c.maxLocals = mi.2.2.1 ∧ s.vm.findClass mi.1.cls = some m.cls ∧ (∀ w ∈ gtb, w.before args s = true) ∧ meth.locks = false ∧ meth.name = mi.1.name ∧ AK D dA s ∧ (∀ q, s.heap.size ≤ q → A q)
def rtOK (ret : Option FieldType) (r : Option Value) (i : Instr) : Prop :=
  (ret = none ∧ r = none ∧ i = .return_) ∨ (∃ ty v, ret = some ty ∧ r = some (.int v) ∧ i = .ireturn ∧ narrow ty (.int v) = .int v) ∨ (∃ v, ret = some .long ∧ r = some (.long v) ∧ i = .lreturn) ∨ (∃ n k, ret = some (.object n) ∧ r = some (.ref k) ∧ i = .areturn)
abbrev rmOf (mi : MI) (MC MS : Nat) : Room := { frames := mi.2.2.2.2.1, cells := MC, slots := MS, locals := mi.2.2.2.2.2 }
abbrev Zt : Type := Option Value → Wd → Nat → Nat → Prop
abbrev Pst : Type := State → (Nat → Prop) → Nat → Prop
def Rx (mi : MI) (Z : Zt) (MC MS : Nat) (l : Launch) (p : Program) (e : Env) (s : State) (m : MethodId) (args : Array Value) (below : List Frame) (meth : Method) (c : Code) (Q : State → Prop) (D : va_G) (dA : Nat → ClassId) (A : Nat → Prop) (w0 : Wd) (ad0 : Nat → Nat) : Prop :=
  ∀ (r : Option Value) (w' : Wd) (ad' : Nat → Nat) (H' : Heap) (locs' : List Loc) (nc' ns' pc' : Nat) (ls' : Array Slot) (i : Instr), Z r w' nc' ns' → AP D dA ad' w' H' → AD A ad' w' → va_S A s.heap H' locs' → AE w0 ad0 w' ad' → (∀ v, r = some v → okv w' v) → rtOK mi.2.2.2.1 r i → decode mi.2.1 pc' = .ok (i, 1) → nc' ≤ MC → ns' ≤ MS →
    W p l e (rmOf mi MC MS) s m args below meth c H' locs' nc' ns' Q (F0 m pc' ls' (r.toList.map (cv ad')))
abbrev SR (mi : MI) (Ψ : Pst) (MC MS : Nat) (s : State) (D : va_G) (dA : Nat → ClassId) (A : Nat → Prop) (w0 : Wd) (ad0 ad : Nat → Nat) (H : Heap) (locs : List Loc) (ls : Array Slot) (L : List (Nat × Value)) (st : List Value) (w : Wd) (nc ns : Nat) : Prop :=
  Ψ s A (ad 8) ∧ AE w0 ad0 w ad ∧ AP D dA ad w H ∧ AD A ad w ∧ va_S A s.heap H locs ∧ lv_has ls mi.2.2.1 (L.map (lc ad)) ∧ (∀ q ∈ L, okv w q.2) ∧ (∀ v ∈ st, okv w v) ∧ nc ≤ MC ∧ ns ≤ MS
/-- from the abstract state the method comes to an end that Z allows -/
def AW (mi : MI) (Ψ : Pst) (Z : Zt) (MC MS : Nat) (pc : Nat) (L : List (Nat × Value)) (st : List Value) (w : Wd) (nc ns : Nat) : Prop :=
  ∀ (l : Launch) (p : Program) (e : Env) (s : State) (m : MethodId) (args : Array Value) (below : List Frame) (meth : Method) (c : Code) (Q : State → Prop) (D : va_G) (dA : Nat → ClassId) (A : Nat → Prop) (w0 : Wd) (ad0 : Nat → Nat),
    Cx mi p s m args meth c D dA A → Rx mi Z MC MS l p e s m args below meth c Q D dA A w0 ad0 → ∀ (ad : Nat → Nat) (H : Heap) (locs : List Loc) (ls : Array Slot), SR mi Ψ MC MS s D dA A w0 ad0 ad H locs ls L st w nc ns →
      W p l e (rmOf mi MC MS) s m args below meth c H locs nc ns Q (F0 m pc ls (st.map (cv ad)))
/-! ### rows: decoded instructions -/
abbrev Dc (mi : MI) (pc : Nat) (i : Instr) (n pc' : Nat) : Prop := decode mi.2.1 pc = .ok (i, n) ∧ pc + n = pc'
abbrev Dj (mi : MI) (pc : Nat) (i : Int → Instr) (pc' tgt : Nat) : Prop := ∃ off : Int, decode mi.2.1 pc = .ok (i off, 3) ∧ pc + 3 = pc' ∧ (pc : Int) + off = (tgt : Int)
abbrev Dg (mi : MI) (pc pc' ci k : Nat) (C : String) (T : u_T) (N : Nat) : Prop := ∃ idx : Nat, decode mi.2.1 pc = .ok (.getfield idx, 3) ∧ pc + 3 = pc' ∧ classes[ci]? = some (C, T, N) ∧ k < N ∧ Cond.fieldLink mi.1.cls idx (T k).1 (T k).2.1 (T k).2.2.1 ∈ gtb ∧ (∀ w ∈ u_ws C T N, w ∈ gtb)
abbrev Dp (mi : MI) (pc pc' ci k : Nat) (C : String) (T : u_T) (N : Nat) : Prop := ∃ idx : Nat, decode mi.2.1 pc = .ok (.putfield idx, 3) ∧ pc + 3 = pc' ∧ classes[ci]? = some (C, T, N) ∧ k < N ∧ Cond.fieldLink mi.1.cls idx (T k).1 (T k).2.1 (T k).2.2.1 ∈ gtb ∧ (∀ w ∈ u_ws C T N, w ∈ gtb) ∧ (T k).2.2.2 = false
abbrev Df (mi : MI) (pc pc' ci k : Nat) (C : String) (T : u_T) (N : Nat) : Prop := ∃ idx : Nat, decode mi.2.1 pc = .ok (.putfield idx, 3) ∧ pc + 3 = pc' ∧ classes[ci]? = some (C, T, N) ∧ k < N ∧ Cond.fieldLink mi.1.cls idx (T k).1 (T k).2.1 (T k).2.2.1 ∈ gtb ∧ (∀ w ∈ u_ws C T N, w ∈ gtb) ∧ (T k).2.2.2 = true
abbrev Do (mi : MI) (pc pc' : Nat) : Prop := ∃ idx : Nat, decode mi.2.1 pc = .ok (.invokespecial idx, 3) ∧ pc + 3 = pc' ∧ Cond.methodLink mi.1.cls idx objectInit ∈ gtb ∧ Cond.instanceMethod objectInit ∈ gtb ∧ Cond.code objectInit ⟨#[0xb1]⟩ 1 none ∈ gtb ∧ 1 ≤ mi.2.2.2.2.1 ∧ 12 ≤ mi.2.2.2.2.2
abbrev Dn (mi : MI) (pc pc' ci : Nat) (C : String) (T : u_T) (N : Nat) : Prop := ∃ idx : Nat, decode mi.2.1 pc = .ok (.new idx, 3) ∧ pc + 3 = pc' ∧ classes[ci]? = some (C, T, N) ∧ Cond.classLink mi.1.cls idx C ∈ gtb ∧ Cond.instantiable C N ∈ gtb ∧ Cond.initialized C ∈ gtb ∧ (∀ w ∈ u_ws C T N, w ∈ gtb)
abbrev Da (mi : MI) (pc pc' : Nat) (C : String) : Prop := ∃ idx : Nat, decode mi.2.1 pc = .ok (.anewarray idx, 3) ∧ pc + 3 = pc' ∧ Cond.classLink mi.1.cls idx C ∈ gtb
abbrev Dk (mi : MI) (pc pc' : Nat) (v : Int32) : Prop := ∃ idx : Nat, (decode mi.2.1 pc = .ok (.ldc idx, 2) ∧ pc + 2 = pc' ∨ decode mi.2.1 pc = .ok (.ldc_w idx, 3) ∧ pc + 3 = pc') ∧ Cond.constant mi.1.cls idx v ∈ gtb
abbrev Dl (mi : MI) (pc pc' : Nat) (v : Int64) : Prop := ∃ idx : Nat, decode mi.2.1 pc = .ok (.ldc2_w idx, 3) ∧ pc + 3 = pc' ∧ Cond.constantLong mi.1.cls idx v ∈ gtb
abbrev rmFit (mi mi' : MI) : Prop := mi'.2.2.2.2.1 + 1 ≤ mi.2.2.2.2.1 ∧ 8 + (mi'.2.2.1 + 11) + mi'.2.2.2.2.2 ≤ mi.2.2.2.2.2
abbrev DcV (mi mi' : MI) (pc pc' : Nat) : Prop := ∃ idx : Nat, decode mi.2.1 pc = .ok (.invokevirtual idx, 3) ∧ pc + 3 = pc' ∧ Cond.methodLink mi.1.cls idx mi'.1 ∈ gtb ∧ rmFit mi mi'
abbrev DcS (mi mi' : MI) (pc pc' : Nat) : Prop := ∃ idx : Nat, decode mi.2.1 pc = .ok (.invokestatic idx, 3) ∧ pc + 3 = pc' ∧ Cond.methodLink mi.1.cls idx mi'.1 ∈ gtb ∧ rmFit mi mi'
abbrev DcI (mi mi' : MI) (pc pc' : Nat) : Prop := ∃ idx : Nat, decode mi.2.1 pc = .ok (.invokespecial idx, 3) ∧ pc + 3 = pc' ∧ Cond.methodLink mi.1.cls idx mi'.1 ∈ gtb ∧ rmFit mi mi'
abbrev DcN (mi mi' : MI) (pc pc' : Nat) : Prop := ∃ idx : Nat, decode mi.2.1 pc = .ok (.invokespecial idx, 3) ∧ pc + 3 = pc' ∧ Cond.methodLinkNest mi.1.cls idx mi'.1 R_br ∈ nests ∧ rmFit mi mi'
abbrev Kb (mi : MI) (n : Nat) : Prop := Cond.initialized mi.1.cls ∈ gtb ∧ Cond.code mi.1 mi.2.1 mi.2.2.1 mi.2.2.2.1 ∈ gtb ∧ mi.1.cls ≠ "java/lang/invoke/MethodHandle" ∧ mi.1.cls ≠ "java/lang/invoke/VarHandle" ∧ (parseMethodDescriptor mi.1.desc).map (fun d => d.parameters.length) = some n
abbrev KV (mi : MI) (n : Nat) : Prop := Cond.instanceMethod mi.1 ∈ gtb ∧ Cond.selects mi.1.cls mi.1 mi.1 ∈ gtb ∧ Kb mi n
abbrev KS (mi : MI) (n : Nat) : Prop := Cond.static mi.1 ∈ gtb ∧ Kb mi n
abbrev KI (mi : MI) (n : Nat) : Prop := Cond.instanceMethod mi.1 ∈ gtb ∧ mi.1.name = "<init>" ∧ mi.2.2.2.1 = none ∧ Kb mi n
theorem good_gtb {w : Cond} (h : w ∈ gtb) : (w.onTables && w.keeps) = true ∨ ∃ ty, w = .arrayClass ty := good_of_word (List.mem_filter.mp h).2
/-- the words of a method: its own code, and those that all have -/
def mws (mi : MI) : List Cond := Cond.code mi.1 mi.2.1 mi.2.2.1 mi.2.2.2.1 :: gtb
theorem mws_good {mi : MI} (h : Cond.code mi.1 mi.2.1 mi.2.2.1 mi.2.2.2.1 ∈ gtb) : GoodIn gtb (mws mi) := fun w hw => by
  rcases List.mem_cons.mp hw with rfl | hw
  · exact ⟨h, good_gtb h⟩
  · exact ⟨hw, good_gtb hw⟩
