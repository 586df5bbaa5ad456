/-! ### new cells, calls, ends -/
section Make
variable {mi : MI} {Ψ : Pst} {Z : Zt} {MC MS : Nat} {pc pc' : Nat} {L : List (Nat × Value)} {st : List Value} {w : Wd} {nc ns : Nat}
theorem okv_new {r : Nat} (hr : r < 16) (hl : r < w.length) {e : va_E} : okv (pushw w r e) (.ref (keyw w r)) := Or.inl ⟨e, by rw [look_pushw hr hl, if_pos rfl]⟩
theorem sr_push {s : State} {D : va_G} {dA : Nat → ClassId} {A : Nat → Prop} {w0 : Wd} {ad0 ad : Nat → Nat} {H H1 : Heap} {locs : List Loc} {ls : Array Slot} {r n1 n2 : Nat} {e : va_E} (h : SR mi Ψ MC MS s D dA A w0 ad0 ad H locs ls L st w nc ns) (hA : ∀ q, s.heap.size ≤ q → A q)
    (hr : r < 16) (h8 : r ≠ 8) (hl : r < w.length) (he : va_at D classes (H.size, ce dA ad e) H1) (ho : oke w e) (hz : H1.size = H.size + 1) (oq : ∀ q : Nat, q < H.size → H1[q]? = H[q]?) (h1 : nc + n1 ≤ MC) (h2 : ns + n2 ≤ MS) :
    SR mi Ψ MC MS s D dA A w0 ad0 (adn ad (keyw w r) H.size) H1 locs ls L (.ref (keyw w r) :: st) (pushw w r e) (nc + n1) (ns + n2) ∧ (st.map (cv (adn ad (keyw w r) H.size)) = st.map (cv ad)) := by
  obtain ⟨g1, g2, hP, hD, hS, hlv, hwl, hws, g9, g10⟩ := h
  have hx : ∀ j, domw w j → adn ad (keyw w r) H.size j = ad j := fun j => adn_dom hr h8
  have hmv : ∀ j, domw w j → domw (pushw w r e) j := fun j => domw_pushw hr hl
  have hL : L.map (lc (adn ad (keyw w r) H.size)) = L.map (lc ad) := List.map_congr_left (fun q hq => by unfold lc; rw [cv_ext hx (hwl q hq)])
  refine ⟨⟨?_, g2.trans (AE.push hr h8 hl), hP.push hr h8 hl he ho oq, hD.push hP hr h8 hl (hA _ hS.1), ⟨by rw [hz]; exact Nat.le_succ_of_le hS.1, fun q q1 q2 => (oq q (Nat.lt_of_lt_of_le q1 hS.1)).trans (hS.2.1 q q1 q2), hS.2.2⟩, by rw [hL]; exact hlv, fun q hq => okv_mono hmv (hwl q hq), ok01 (okv_new hr hl) (fun v hv => okv_mono hmv (hws v hv)), h1, h2⟩, map_ext hx hws⟩
  rw [hx 8 (Or.inr rfl)]
  exact g1
theorem aw_new (r : Nat) {ci : Nat} {C : String} {T : u_T} {N : Nat} {ty : Nat → FieldType} (fs : List Value) (tc : Tc T N ty) (d : Dn mi pc pc' ci C T N) (hfs : ∀ j, j < N → defaultValue (ty j) = vp_V (fs.map (cv fun x => x)) j) (hfo : ∀ v ∈ fs, ∀ k, v ≠ .ref k) (hr : r < 16 ∧ r ≠ 8 ∧ r < w.length) (h1 : nc + 1 ≤ MC) (h2 : ns + N ≤ MS)
    (kk : AW mi Ψ Z MC MS pc' L (.ref (keyw w r) :: st) (pushw w r (.inr (ci, fs))) (nc + 1) (ns + N)) : AW mi Ψ Z MC MS pc L st w nc ns := by
  obtain ⟨idx, d, rfl, hc, hcl, hins, hini, hin⟩ := d
  intro l p e s m args below meth c Q D dA A w0 ad0 C0 R ad H locs ls h
  have C1 := C0
  obtain ⟨hx, hb, hrt, hml, hown, hts, hlocks, hnm, hK, hA⟩ := C0
  have hKn := hK.1.1 ci _ hc
  have hcv : ∀ ad1 ad2 : Nat → Nat, fs.map (cv ad1) = fs.map (cv ad2) := fun ad1 ad2 => List.map_congr_left (fun v hv => by
    cases v <;> first | rfl | exact absurd rfl (hfo _ hv _))
  refine W.newcK hx hb hown (hts _ hcl) (hts _ hins) (hts _ hini) rfl d h1 h2 hKn.2.1 rfl fun H1 kC hkC e1 z1 o1 => ?_
  have hob : va_at D classes (H.size, ce dA ad (.inr (ci, fs))) H1 := ⟨_, hc, (u_born ty hts hin hKn hkC e1 tc.1).to (fun j hj => by rw [hfs j hj, hcv (fun x => x) ad])⟩
  have hok : oke w (.inr (ci, fs)) := fun v hv => by
    cases v <;> first | exact True.intro | exact absurd rfl (hfo _ hv _)
  obtain ⟨hs, hm⟩ := sr_push h hA hr.1 hr.2.1 hr.2.2 hob hok z1 o1 h1 h2
  have := kk l p e s m args below meth c Q D dA A w0 ad0 C1 R _ H1 locs ls hs
  rw [List.map_cons, hm] at this
  have e3 : cv (adn ad (keyw w r) H.size) (.ref (keyw w r)) = .ref H.size := by show Value.ref _ = _; rw [adn_self]
  rw [e3] at this
  exact this
theorem dA_find {D : va_G} {dA : Nat → ClassId} {s : State} (hK : AK D dA s) {t : Nat} {ty : FieldType} (ht : (tysA dA)[t]? = some (dA t, ty)) (hty : ty = .int ∨ ty = .long ∨ ty = .boolean) : s.vm.findClass ("[" ++ ty.toString) = some (dA t) := by
  have h := (hK.1.2 t _ ht).2
  rcases hty with rfl | rfl | rfl <;> exact h
theorem aw_newa (r : Nat) {t N' : Nat} {at' : ArrayType} {n : Int32} {ty : FieldType} (a0 : vp_A) (d : Dc mi pc (.newarray at') 2 pc') (hty : newarray.typeOf at' = ty) (ht3 : ty = .int ∨ ty = .long ∨ ty = .boolean) (hword : Cond.arrayClass ty ∈ gtb) (htt : ∀ dA : Nat → ClassId, (tysA dA)[t]? = some (dA t, ty)) (ha : ∀ cA : ClassId, vp_cell cA a0 = arrV cA N' (fun _ => defaultValue ty)) (hca : ∀ ad : Nat → Nat, ca ad a0 = a0) (hoa : ∀ w : Wd, oke w (.inl (t, a0))) (hn : ¬ n < 0) (hN : n.toNatClampNeg = N') (hbytes : N' * componentBytes ty ≤ 536870912) (hr : r < 16 ∧ r ≠ 8 ∧ r < w.length) (h1 : nc + 1 ≤ MC) (h2 : ns + N' ≤ MS)
    (kk : AW mi Ψ Z MC MS pc' L (.ref (keyw w r) :: st) (pushw w r (.inl (t, a0))) (nc + 1) (ns + N')) : AW mi Ψ Z MC MS pc L (.int n :: st) w nc ns := by
  obtain ⟨d, rfl⟩ := d
  subst hty
  intro l p e s m args below meth c Q D dA A w0 ad0 C0 R ad H locs ls h
  have C1 := C0
  obtain ⟨hx, hb, hrt, hml, hown, hts, hlocks, hnm, hK, hA⟩ := C0
  refine va_newaK hx hb (hts _ hword) rfl d rfl hn hN hbytes h1 h2 rfl fun H1 cA e1 z1 o1 hAr hNm => ?_
  have hcA : cA = dA t := Option.some.inj (hNm.symm.trans (dA_find hK (htt dA) ht3))
  subst hcA
  have hob : va_at D classes (H.size, ce dA ad (.inl (t, a0))) H1 := by
    show H1[H.size]? = some (vp_cell (dA t) (ca ad a0))
    rw [hca, ha]
    exact e1
  have h' : SR mi Ψ MC MS s D dA A w0 ad0 ad H locs ls L st w nc ns := ⟨h.1, h.2.1, h.2.2.1, h.2.2.2.1, h.2.2.2.2.1, h.2.2.2.2.2.1, h.2.2.2.2.2.2.1, ok1 h.2.2.2.2.2.2.2.1, h.2.2.2.2.2.2.2.2⟩
  obtain ⟨hs, hm⟩ := sr_push h' hA hr.1 hr.2.1 hr.2.2 hob (hoa w) z1 o1 h1 h2
  have := kk l p e s m args below meth c Q D dA A w0 ad0 C1 R _ H1 locs ls hs
  rw [List.map_cons, hm] at this
  have e3 : cv (adn ad (keyw w r) H.size) (.ref (keyw w r)) = .ref H.size := by show Value.ref _ = _; rw [adn_self]
  rw [e3] at this
  exact this
theorem w_int : Cond.arrayClass .int ∈ gtb := by decide +kernel
theorem w_long : Cond.arrayClass .long ∈ gtb := by decide +kernel
theorem w_bool : Cond.arrayClass .boolean ∈ gtb := by decide +kernel
/-- a new row of n ints, longs, booleans: all 0 -/
theorem aw_newI (r N : Nat) {n : Int32} (d : Dc mi pc (.newarray .int) 2 pc') (hn : n = nI N) (hN : N ≤ 65536) (hr : r < 16 ∧ r ≠ 8 ∧ r < w.length) (h1 : nc + 1 ≤ MC) (h2 : ns + N ≤ MS) (kk : AW mi Ψ Z MC MS pc' L (.ref (keyw w r) :: st) (pushw w r (.inl (0, N, .inl (fun _ => 0)))) (nc + 1) (ns + N)) : AW mi Ψ Z MC MS pc L (.int n :: st) w nc ns :=
  aw_newa r (t := 0) (N' := N) (ty := .int) (N, .inl (fun _ => 0)) d rfl (Or.inl rfl) w_int (fun _ => rfl) (fun _ => rfl) (fun _ => rfl) (fun _ => True.intro) (by rw [hn]; exact nI_pos (by omega)) (by rw [hn]; exact nI_clamp (by omega)) (by show N * 4 ≤ _; omega) hr h1 h2 kk
theorem aw_newL (r N : Nat) {n : Int32} (d : Dc mi pc (.newarray .long) 2 pc') (hn : n = nI N) (hN : N ≤ 65536) (hr : r < 16 ∧ r ≠ 8 ∧ r < w.length) (h1 : nc + 1 ≤ MC) (h2 : ns + N ≤ MS) (kk : AW mi Ψ Z MC MS pc' L (.ref (keyw w r) :: st) (pushw w r (.inl (1, N, .inr (.inl (fun _ => 0))))) (nc + 1) (ns + N)) : AW mi Ψ Z MC MS pc L (.int n :: st) w nc ns :=
  aw_newa r (t := 1) (N' := N) (ty := .long) (N, .inr (.inl (fun _ => 0))) d rfl (Or.inr (Or.inl rfl)) w_long (fun _ => rfl) (fun _ => rfl) (fun _ => rfl) (fun _ => True.intro) (by rw [hn]; exact nI_pos (by omega)) (by rw [hn]; exact nI_clamp (by omega)) (by show N * 8 ≤ _; omega) hr h1 h2 kk
theorem aw_newZ (r N : Nat) {n : Int32} (d : Dc mi pc (.newarray .boolean) 2 pc') (hn : n = nI N) (hN : N ≤ 65536) (hr : r < 16 ∧ r ≠ 8 ∧ r < w.length) (h1 : nc + 1 ≤ MC) (h2 : ns + N ≤ MS) (kk : AW mi Ψ Z MC MS pc' L (.ref (keyw w r) :: st) (pushw w r (.inl (2, N, .inl (fun _ => 0)))) (nc + 1) (ns + N)) : AW mi Ψ Z MC MS pc L (.int n :: st) w nc ns :=
  aw_newa r (t := 2) (N' := N) (ty := .boolean) (N, .inl (fun _ => 0)) d rfl (Or.inr (Or.inr rfl)) w_bool (fun _ => rfl) (fun _ => rfl) (fun _ => rfl) (fun _ => True.intro) (by rw [hn]; exact nI_pos (by omega)) (by rw [hn]; exact nI_clamp (by omega)) (by show N * 1 ≤ _; omega) hr h1 h2 kk
theorem aw_newq (r N : Nat) {n : Int32} (d : Da mi pc pc' "BitRings$Sheet") (hn : n = nI N) (hN : N ≤ 65536) (hr : r < 16 ∧ r ≠ 8 ∧ r < w.length) (h1 : nc + 1 ≤ MC) (h2 : ns + N ≤ MS) (kk : AW mi Ψ Z MC MS pc' L (.ref (keyw w r) :: st) (pushw w r (.inl (3, N, .inr (.inr (.inr (.inr (fun _ => none))))))) (nc + 1) (ns + N)) : AW mi Ψ Z MC MS pc L (.int n :: st) w nc ns := by
  obtain ⟨idx, d, rfl, hcl⟩ := d
  intro l p e s m args below meth c Q D dA A w0 ad0 C0 R ad H locs ls h
  have C1 := C0
  obtain ⟨hx, hb, hrt, hml, hown, hts, hlocks, hnm, hK, hA⟩ := C0
  have hcl' : n.toNatClampNeg = N := by rw [hn]; exact nI_clamp (by omega)
  refine W.anew hx hb hown (hts _ hcl) (va_AO.use hK.2.1) rfl d rfl (by rw [hn]; exact nI_pos (by omega)) (by rw [hcl']; omega) h1 (by rw [hcl']; exact h2) fun cA kA comp f1 f2 f3 f4 => ?_
  obtain ⟨kA', comp', -, -, -, hNm⟩ := (hK.1.2 3 _ rfl).2
  have hcA : cA = dA 3 := Option.some.inj (f1.symm.trans hNm)
  subst hcA
  rw [hcl']
  generalize hH1 : H.push ({ cls := dA 3, slots := Array.replicate N .null, vm := .none } : Cell) = H1
  have z1 : H1.size = H.size + 1 := by rw [← hH1, Array.size_push]
  have e1 : H1[H.size]? = some (arrV (dA 3) N (fun _ => .null)) := by rw [← hH1, Array.getElem?_push_size, ← arrV_new]
  have o1 : ∀ q : Nat, q < H.size → H1[q]? = H[q]? := fun q hq => by rw [← hH1, Array.getElem?_push, if_neg (Nat.ne_of_lt hq)]
  have hob : va_at D classes (H.size, ce dA ad (.inl (3, N, .inr (.inr (.inr (.inr (fun _ => none))))))) H1 := e1
  have h' : SR mi Ψ MC MS s D dA A w0 ad0 ad H locs ls L st w nc ns := ⟨h.1, h.2.1, h.2.2.1, h.2.2.2.1, h.2.2.2.2.1, h.2.2.2.2.2.1, h.2.2.2.2.2.2.1, ok1 h.2.2.2.2.2.2.2.1, h.2.2.2.2.2.2.2.2⟩
  obtain ⟨hs, hm⟩ := sr_push h' hA hr.1 hr.2.1 hr.2.2 hob (fun i k hk => by cases hk) z1 o1 h1 h2
  have := kk l p e s m args below meth c Q D dA A w0 ad0 C1 R _ H1 locs ls hs
  rw [List.map_cons, hm] at this
  have e3 : cv (adn ad (keyw w r) H.size) (.ref (keyw w r)) = .ref H.size := by show Value.ref _ = _; rw [adn_self]
  rw [e3] at this
  exact this
end Make
