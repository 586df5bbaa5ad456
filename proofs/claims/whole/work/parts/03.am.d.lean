/-! ### the heap's rules -/
abbrev Tc (T : u_T) (N : Nat) (ty : Nat → FieldType) : Prop := (∀ k, k < N → parseFieldDescriptor (T k).2.2.1 = some (ty k)) ∧ (∀ a, a < N → ∀ b, b < N → a ≠ b → (T a).2.1 ≠ (T b).2.1)
theorem tc_rg : Tc T_rg 5 ty_rg := ⟨ty_rg_ok, nm_rg⟩
theorem tc_ri : Tc T_ri 11 ty_ri := ⟨ty_ri_ok, nm_ri⟩
theorem tc_rr : Tc T_rr 6 ty_rr := ⟨ty_rr_ok, nm_rr⟩
theorem tc_sh : Tc T_sh 3 ty_sh := ⟨ty_sh_ok, nm_sh⟩
theorem tc_tr : Tc T_tr 2 ty_tr := ⟨ty_tr_ok, nm_tr⟩
theorem tc_br : Tc T_br 7 ty_br := ⟨ty_br_ok, nm_br⟩
theorem tc_mo : Tc T_mo 21 ty_mo := ⟨ty_mo_ok, nm_mo⟩
theorem narrow_cv {ty : FieldType} {v : Value} (ad : Nat → Nat) (h : narrow ty v = v) : narrow ty (cv ad v) = cv ad v := by
  cases v <;> first | exact h | (cases ty <;> rfl)
theorem fits_cv {ty : FieldType} {v : Value} (ad : Nat → Nat) (h : fits ty v = true) : fits ty (cv ad v) = true := by
  cases v <;> first | exact h | (cases ty <;> first | rfl | cases h)
theorem ce_arr {dA : Nat → ClassId} {ad : Nat → Nat} {t n : Nat} {f : Nat → Int32} : ce dA ad (.inl (t, n, .inl f)) = .inl (dA t, n, .inl f) := rfl
section Heap
variable {mi : MI} {Ψ : Pst} {Z : Zt} {MC MS : Nat} {pc pc' : Nat} {L : List (Nat × Value)} {st : List Value} {w : Wd} {nc ns : Nat}
theorem aw_get {q ci k : Nat} {C : String} {T : u_T} {N : Nat} {fs : List Value} {v : Value} (d : Dg mi pc pc' ci k C T N) (hq : look w q = some (.inr (ci, fs))) (hv : fs[k]? = some v) (kk : AW mi Ψ Z MC MS pc' L (v :: st) w nc ns) : AW mi Ψ Z MC MS pc L (.ref q :: st) w nc ns := by
  obtain ⟨idx, d, rfl, hc, hk, hlink, hin⟩ := d
  intro l p e s m args below meth c Q D dA A w0 ad0 C0 R ad H locs ls h
  obtain ⟨hx, hb, hr, hml, hown, hts, hlocks, hnm, hK, hA⟩ := C0
  obtain ⟨g1, g2, hP, hD, hS, hl, hwl, hws, g9, g10⟩ := h
  obtain ⟨a1, a2⟩ := hP q _ hq
  have hP' : va_P D classes [(ad q, .inr (ci, fs.map (cv ad)))] H := by
    intro j x hj
    match j, hj with
    | 0, hj => cases hj; exact a1
    | j + 1, hj => simp at hj
  have hv' : (fs.map (cv ad))[k]? = some (cv ad v) := by rw [List.getElem?_map, hv]; rfl
  exact va_get (D := D) (ci := ci) (C := C) (T := T) (N := N) hx hb hts hin hown hK.1 hP' 0 rfl hc k hk (hts _ hlink) (fun _ h => h) hv' d
    (kk l p e s m args below meth c Q D dA A w0 ad0 ⟨hx, hb, hr, hml, hown, hts, hlocks, hnm, hK, hA⟩ R ad H locs ls ⟨g1, g2, hP, hD, hS, hl, hwl, ok01 (a2 v (List.mem_of_getElem? hv)) (ok1 hws), g9, g10⟩)
theorem aw_put {q ci k : Nat} {C : String} {T : u_T} {N : Nat} {ty : Nat → FieldType} {fs : List Value} {v : Value} (tc : Tc T N ty) (d : Dp mi pc pc' ci k C T N) (hq : look w q = some (.inr (ci, fs))) (hl0 : k < fs.length) (hn : narrow (ty k) v = v) (hf : fits (ty k) v = true) (kk : AW mi Ψ Z MC MS pc' L st (updw w q (.inr (ci, fs.set k v))) nc ns) : AW mi Ψ Z MC MS pc L (v :: .ref q :: st) w nc ns := by
  obtain ⟨idx, d, rfl, hc, hk, hlink, hin, hfin⟩ := d
  intro l p e s m args below meth c Q D dA A w0 ad0 C0 R ad H locs ls h
  obtain ⟨hx, hb, hr, hml, hown, hts, hlocks, hnm, hK, hA⟩ := C0
  obtain ⟨g1, g2, hP, hD, hS, hl, hwl, hws, g9, g10⟩ := h
  have hq0 := hP q _ hq
  have hap := va_apart (own := mi.1.cls) hts hin ty tc.1 tc.2 hK.1 hc
  obtain ⟨⟨r, h1, cell, q1, q2, q3, q4⟩, hok⟩ := hq0
  have hr' : r = (C, T, N) := Option.some.inj (h1.symm.trans hc)
  subst hr'
  obtain ⟨hSl, hfc, kC, hkC, hkind⟩ := hK.1.1 ci _ hc
  obtain ⟨cf, kf, fi, f, hi, hsl⟩ := hSl k hk
  have hlay := hts _ (hin _ (u_in_lay hk))
  unfold u_lay at hlay
  rw [if_neg (by rw [hfin]; decide)] at hlay
  have hst := (u_facts hfc hkC (u_lays hts hin hk) hi).1
  have h6 := u_store hfc hkC hkind hlay hi (tc.1 k hk) (narrow_cv ad hn) (fits_cv ad hf)
  have hmv : ∀ j, domw w j → domw (updw w q (.inr (ci, fs.set k v))) j := fun j => domw_updw hq
  refine W.putK hx hb (f := f) ⟨hown, hts _ hlink, ⟨_, _, _, hi⟩, hst⟩ (by rw [q2]; exact h6) q1 q3 (by rw [hsl]; exact k2_hasslot (q4 k hk)) rfl rfl d fun H' e1 e2 e3 => ?_
  rw [hsl] at e1 ⊢
  have hset : (fs.set k v).map (cv ad) = (fs.map (cv ad)).set k (cv ad v) := List.map_set
  have hoke : oke w (.inr (ci, fs.set k v)) := by
    intro u hu
    rcases List.mem_or_eq_of_mem_set hu with hu | hu
    · exact hok u hu
    · rw [hu]; exact ok1a hws
  have hP' := hP.upd hD hq (e := .inr (ci, fs.set k v)) (H1 := H') ⟨_, hc, t_OB.to (V := updV (vp_V (fs.map (cv ad))) k (cv ad v)) ⟨_, e1, q2, q3, t_set q4 hap hk (cv ad v)⟩ (fun j _ => by rw [vp_updV_set (by rw [List.length_map]; exact hl0)]; show _ = vp_V ((fs.set k v).map (cv ad)) j; rw [hset])⟩ hoke e3
  exact kk l p e s m args below meth c Q D dA A w0 ad0 ⟨hx, hb, hr, hml, hown, hts, hlocks, hnm, hK, hA⟩ R ad H' _ ls ⟨g1, g2.trans (AE.upd hq), hP', hD.upd hq, hS.put e2 e3 (hD.2 q _ hq), hl, fun x hx => okv_mono hmv (hwl x hx), fun x hx => okv_mono hmv (ok1 (ok1 hws) x hx), g9, g10⟩
theorem aw_putF {q ci k : Nat} {C : String} {T : u_T} {N : Nat} {ty : Nat → FieldType} {fs : List Value} {v : Value} (tc : Tc T N ty) (d : Df mi pc pc' ci k C T N) (hi0 : mi.1.name = "<init>") (ho0 : (T k).1 = mi.1.cls) (hq : look w q = some (.inr (ci, fs))) (hl0 : k < fs.length) (hn : narrow (ty k) v = v) (hf : fits (ty k) v = true) (kk : AW mi Ψ Z MC MS pc' L st (updw w q (.inr (ci, fs.set k v))) nc ns) : AW mi Ψ Z MC MS pc L (v :: .ref q :: st) w nc ns := by
  obtain ⟨idx, d, rfl, hc, hk, hlink, hin, hfin⟩ := d
  intro l p e s m args below meth c Q D dA A w0 ad0 C0 R ad H locs ls h
  obtain ⟨hx, hb, hr, hml, hown, hts, hlocks, hnm, hK, hA⟩ := C0
  obtain ⟨g1, g2, hP, hD, hS, hl, hwl, hws, g9, g10⟩ := h
  have hq0 := hP q _ hq
  have hap := va_apart (own := mi.1.cls) hts hin ty tc.1 tc.2 hK.1 hc
  obtain ⟨⟨r, h1, cell, q1, q2, q3, q4⟩, hok⟩ := hq0
  have hr' : r = (C, T, N) := Option.some.inj (h1.symm.trans hc)
  subst hr'
  obtain ⟨hSl, hfc, kC, hkC, hkind⟩ := hK.1.1 ci _ hc
  obtain ⟨cf, kf, fi, f, hi, hsl⟩ := hSl k hk
  have hlay := hts _ (hin _ (u_in_lay hk))
  unfold u_lay at hlay
  rw [if_pos hfin] at hlay
  have hst := (u_facts hfc hkC (u_lays hts hin hk) hi).1
  have hcf : m.cls = cf := by
    obtain ⟨_, _, c', _, _, _, -, -, hf', -, -, -, hown2, -⟩ := Cond.laysFinal_spec hlay
    have e1 : c' = cf := by have := hi.symm.trans hf'; simp at this; exact this.1.symm
    rw [ho0] at hown2
    rw [← e1]; exact Option.some.inj (hown.symm.trans hown2)
  have h6 := u_fits hfc hkC hkind (Or.inr hlay) hi (tc.1 k hk) (narrow_cv ad hn) (fits_cv ad hf)
  have hmv : ∀ j, domw w j → domw (updw w q (.inr (ci, fs.set k v))) j := fun j => domw_updw hq
  refine W.putFinK hx hb hown (hts _ hlink) hi hst hcf (hnm.trans hi0) (by rw [q2]; exact h6) q1 q3 (by rw [hsl]; exact k2_hasslot (q4 k hk)) rfl rfl d fun H' e1 e2 e3 => ?_
  rw [hsl] at e1 ⊢
  have hset : (fs.set k v).map (cv ad) = (fs.map (cv ad)).set k (cv ad v) := List.map_set
  have hoke : oke w (.inr (ci, fs.set k v)) := by
    intro u hu
    rcases List.mem_or_eq_of_mem_set hu with hu | hu
    · exact hok u hu
    · rw [hu]; exact ok1a hws
  have hP' := hP.upd hD hq (e := .inr (ci, fs.set k v)) (H1 := H') ⟨_, hc, t_OB.to (V := updV (vp_V (fs.map (cv ad))) k (cv ad v)) ⟨_, e1, q2, q3, t_set q4 hap hk (cv ad v)⟩ (fun j _ => by rw [vp_updV_set (by rw [List.length_map]; exact hl0)]; show _ = vp_V ((fs.set k v).map (cv ad)) j; rw [hset])⟩ hoke e3
  exact kk l p e s m args below meth c Q D dA A w0 ad0 ⟨hx, hb, hr, hml, hown, hts, hlocks, hnm, hK, hA⟩ R ad H' _ ls ⟨g1, g2.trans (AE.upd hq), hP', hD.upd hq, hS.put e2 e3 (hD.2 q _ hq), hl, fun x hx => okv_mono hmv (hwl x hx), fun x hx => okv_mono hmv (ok1 (ok1 hws) x hx), g9, g10⟩
theorem aw_iald {q n : Nat} {i : Int32} {f : Nat → Int32} (d : Dc mi pc .iaload 1 pc') (hq : look w q = some (.inl (0, n, .inl f))) (hin : vp_in i n) (kk : AW mi Ψ Z MC MS pc' L (.int (f i.toNatClampNeg) :: st) w nc ns) : AW mi Ψ Z MC MS pc L (.int i :: .ref q :: st) w nc ns := by
  obtain ⟨d, rfl⟩ := d
  intro l p e s m args below meth c Q D dA A w0 ad0 C0 R ad H locs ls h
  have a1 : H[ad q]? = some (vp_cell (dA 0) (n, .inl f)) := (h.2.2.1 q _ hq).1
  have hlt : i.toNatClampNeg < n := Nat.not_le.mp fun q => hin (Or.inr q)
  exact W.iald (v := .int (f i.toNatClampNeg)) C0.1 C0.2.1 a1 ((C0.2.2.2.2.2.2.2.2.1.1.2 0 _ rfl).1 n (fun j => .int (f j))) (fun q => by cases q) (by show ¬ (i < 0 ∨ (arrV _ _ _).slots.size ≤ _); rw [arrV_size]; exact hin) (by show (arrV _ _ _).slots[_]? = _; rw [arrV_read _ _ hlt]) rfl rfl d
    (kk l p e s m args below meth c Q D dA A w0 ad0 C0 R ad H locs ls ⟨h.1, h.2.1, h.2.2.1, h.2.2.2.1, h.2.2.2.2.1, h.2.2.2.2.2.1, h.2.2.2.2.2.2.1, ok01 okI (ok1 (ok1 h.2.2.2.2.2.2.2.1)), h.2.2.2.2.2.2.2.2⟩)
theorem aw_zald {q n : Nat} {i : Int32} {f : Nat → Int32} (d : Dc mi pc .baload 1 pc') (hq : look w q = some (.inl (2, n, .inl f))) (hin : vp_in i n) (kk : AW mi Ψ Z MC MS pc' L (.int (f i.toNatClampNeg) :: st) w nc ns) : AW mi Ψ Z MC MS pc L (.int i :: .ref q :: st) w nc ns := by
  obtain ⟨d, rfl⟩ := d
  intro l p e s m args below meth c Q D dA A w0 ad0 C0 R ad H locs ls h
  have a1 : H[ad q]? = some (vp_cell (dA 2) (n, .inl f)) := (h.2.2.1 q _ hq).1
  have hlt : i.toNatClampNeg < n := Nat.not_le.mp fun q => hin (Or.inr q)
  exact W.zald (v := .int (f i.toNatClampNeg)) C0.1 C0.2.1 a1 ((C0.2.2.2.2.2.2.2.2.1.1.2 2 _ rfl).1 n (fun j => .int (f j))) (fun q => by cases q) (by show ¬ (i < 0 ∨ (arrV _ _ _).slots.size ≤ _); rw [arrV_size]; exact hin) (by show (arrV _ _ _).slots[_]? = _; rw [arrV_read _ _ hlt]) rfl rfl d
    (kk l p e s m args below meth c Q D dA A w0 ad0 C0 R ad H locs ls ⟨h.1, h.2.1, h.2.2.1, h.2.2.2.1, h.2.2.2.2.1, h.2.2.2.2.2.1, h.2.2.2.2.2.2.1, ok01 okI (ok1 (ok1 h.2.2.2.2.2.2.2.1)), h.2.2.2.2.2.2.2.2⟩)
theorem aw_lald {q n : Nat} {i : Int32} {f : Nat → Int64} (d : Dc mi pc .laload 1 pc') (hq : look w q = some (.inl (1, n, .inr (.inl f)))) (hin : vp_in i n) (kk : AW mi Ψ Z MC MS pc' L (.long (f i.toNatClampNeg) :: st) w nc ns) : AW mi Ψ Z MC MS pc L (.int i :: .ref q :: st) w nc ns := by
  obtain ⟨d, rfl⟩ := d
  intro l p e s m args below meth c Q D dA A w0 ad0 C0 R ad H locs ls h
  have a1 : H[ad q]? = some (vp_cell (dA 1) (n, .inr (.inl f))) := (h.2.2.1 q _ hq).1
  have hlt : i.toNatClampNeg < n := Nat.not_le.mp fun q => hin (Or.inr q)
  exact W.lald (v := .long (f i.toNatClampNeg)) C0.1 C0.2.1 a1 ((C0.2.2.2.2.2.2.2.2.1.1.2 1 _ rfl).1 n (fun j => .long (f j))) (fun q => by cases q) (by show ¬ (i < 0 ∨ (arrV _ _ _).slots.size ≤ _); rw [arrV_size]; exact hin) (by show (arrV _ _ _).slots[_]? = _; rw [arrV_read _ _ hlt]) rfl rfl d
    (kk l p e s m args below meth c Q D dA A w0 ad0 C0 R ad H locs ls ⟨h.1, h.2.1, h.2.2.1, h.2.2.2.1, h.2.2.2.2.1, h.2.2.2.2.2.1, h.2.2.2.2.2.2.1, ok01 okL (ok1 (ok1 h.2.2.2.2.2.2.2.1)), h.2.2.2.2.2.2.2.2⟩)
theorem aw_aald {q n k : Nat} {i : Int32} {f : Nat → Option Nat} (d : Dc mi pc .aaload 1 pc') (hq : look w q = some (.inl (3, n, .inr (.inr (.inr (.inr f)))))) (hin : vp_in i n) (hk : f i.toNatClampNeg = some k) (kk : AW mi Ψ Z MC MS pc' L (.ref k :: st) w nc ns) : AW mi Ψ Z MC MS pc L (.int i :: .ref q :: st) w nc ns := by
  obtain ⟨d, rfl⟩ := d
  intro l p e s m args below meth c Q D dA A w0 ad0 C0 R ad H locs ls h
  obtain ⟨a1, a2⟩ := h.2.2.1 q _ hq
  have a1 : H[ad q]? = some (vp_cell (dA 3) (n, .inr (.inr (.inr (.inr (fun j => (f j).map ad)))))) := a1
  have hlt : i.toNatClampNeg < n := Nat.not_le.mp fun q => hin (Or.inr q)
  exact W.aald (v := .ref (ad k)) (ty := .object "BitRings$Sheet") C0.1 C0.2.1 a1 ((C0.2.2.2.2.2.2.2.2.1.1.2 3 _ rfl).1 n (fun j => va_rf ((f j).map ad))) rfl (fun q => by cases q) (by show ¬ (i < 0 ∨ (arrV _ _ _).slots.size ≤ _); rw [arrV_size]; exact hin) (by show (arrV _ _ _).slots[_]? = _; rw [arrV_read _ _ hlt]; show some (va_rf ((f i.toNatClampNeg).map ad)) = _; rw [hk]; rfl) rfl rfl d
    (kk l p e s m args below meth c Q D dA A w0 ad0 C0 R ad H locs ls ⟨h.1, h.2.1, h.2.2.1, h.2.2.2.1, h.2.2.2.2.1, h.2.2.2.2.2.1, h.2.2.2.2.2.2.1, ok01 (a := .ref k) (a2 _ _ hk) (ok1 (ok1 h.2.2.2.2.2.2.2.1)), h.2.2.2.2.2.2.2.2⟩)
theorem aw_alen {q t : Nat} {x : vp_A} (d : Dc mi pc .arraylength 1 pc') (hq : look w q = some (.inl (t, x))) (ht : t < 4) (kk : AW mi Ψ Z MC MS pc' L (.int (nI x.1) :: st) w nc ns) : AW mi Ψ Z MC MS pc L (.ref q :: st) w nc ns := by
  obtain ⟨d, rfl⟩ := d
  intro l p e s m args below meth c Q D dA A w0 ad0 C0 R ad H locs ls h
  obtain ⟨a1, a2⟩ := h.2.2.1 q _ hq
  have hP' : va_P D classes [(ad q, .inl (dA t, ca ad x))] H := by
    intro j y hj
    match j, hj with
    | 0, hj => cases hj; exact a1
    | j + 1, hj => simp at hj
  obtain ⟨ty, hty⟩ : ∃ ty, (tysA dA)[t]? = some (dA t, ty) := by
    match t, ht with
    | 0, _ => exact ⟨_, rfl⟩
    | 1, _ => exact ⟨_, rfl⟩
    | 2, _ => exact ⟨_, rfl⟩
    | 3, _ => exact ⟨_, rfl⟩
  have hx1 : (ca ad x).1 = x.1 := by
    rcases x with ⟨n, f | f | f | f | f⟩ <;> rfl
  exact va_alen (D := D) (cl := classes) C0.1 C0.2.1 C0.2.2.2.2.2.2.2.2.1.1 hP' 0 t rfl hty (v := nI x.1) (by rw [hx1]; rfl) d
    (kk l p e s m args below meth c Q D dA A w0 ad0 C0 R ad H locs ls ⟨h.1, h.2.1, h.2.2.1, h.2.2.2.1, h.2.2.2.2.1, h.2.2.2.2.2.1, h.2.2.2.2.2.2.1, ok01 okI (ok1 h.2.2.2.2.2.2.2.1), h.2.2.2.2.2.2.2.2⟩)
theorem aw_iast {q n : Nat} {i x : Int32} {f : Nat → Int32} (d : Dc mi pc .iastore 1 pc') (hq : look w q = some (.inl (0, n, .inl f))) (hin : vp_in i n) (kk : AW mi Ψ Z MC MS pc' L st (updw w q (.inl (0, n, .inl (upd f i.toNatClampNeg x)))) nc ns) : AW mi Ψ Z MC MS pc L (.int x :: .int i :: .ref q :: st) w nc ns := by
  obtain ⟨d, rfl⟩ := d
  intro l p e s m args below meth c Q D dA A w0 ad0 C0 R ad H locs ls h
  obtain ⟨g1, g2, hP, hD, hS, hl, hwl, hws, g9, g10⟩ := h
  have a1 : H[ad q]? = some (vp_cell (dA 0) (n, .inl f)) := (hP q _ hq).1
  have hmv : ∀ j, domw w j → domw (updw w q (.inl (0, n, .inl (upd f i.toNatClampNeg x)))) j := fun j => domw_updw hq
  refine W.iast C0.1 C0.2.1 a1 ((C0.2.2.2.2.2.2.2.2.1.1.2 0 _ rfl).1 n (fun j => .int (f j))) (fun q => by cases q) (by show ¬ (i < 0 ∨ (arrV _ _ _).slots.size ≤ _); rw [arrV_size]; exact hin) rfl rfl d fun H1 e1 e2 e3 => ?_
  have hP' := hP.upd hD hq (e := .inl (0, n, .inl (upd f i.toNatClampNeg x))) (H1 := H1) (by
    show H1[ad q]? = some (vp_cell _ _)
    rw [e1]
    show some ((vp_cell (dA 0) (n, .inl f)).setSlot _ _) = some (vp_cell (dA 0) (n, .inl (upd f i.toNatClampNeg x)))
    rw [vp_cell_i, vp_cell_i, arrV_store]
    congr 2
    funext z
    unfold updV upd
    by_cases hz : z = i.toNatClampNeg
    · rw [if_pos hz, if_pos hz]
    · rw [if_neg hz, if_neg hz]) True.intro e3
  exact kk l p e s m args below meth c Q D dA A w0 ad0 C0 R ad H1 _ ls ⟨g1, g2.trans (AE.upd hq), hP', hD.upd hq, hS.put e2 e3 (hD.2 q _ hq), hl, fun x hx => okv_mono hmv (hwl x hx), fun x hx => okv_mono hmv (ok1 (ok1 (ok1 hws)) x hx), g9, g10⟩
theorem aw_zast {q n : Nat} {i x : Int32} {f : Nat → Int32} (d : Dc mi pc .bastore 1 pc') (hq : look w q = some (.inl (2, n, .inl f))) (hin : vp_in i n) (hx : vp_nar .boolean x = x) (kk : AW mi Ψ Z MC MS pc' L st (updw w q (.inl (2, n, .inl (upd f i.toNatClampNeg x)))) nc ns) : AW mi Ψ Z MC MS pc L (.int x :: .int i :: .ref q :: st) w nc ns := by
  obtain ⟨d, rfl⟩ := d
  intro l p e s m args below meth c Q D dA A w0 ad0 C0 R ad H locs ls h
  obtain ⟨g1, g2, hP, hD, hS, hl, hwl, hws, g9, g10⟩ := h
  have a1 : H[ad q]? = some (vp_cell (dA 2) (n, .inl f)) := (hP q _ hq).1
  have hmv : ∀ j, domw w j → domw (updw w q (.inl (2, n, .inl (upd f i.toNatClampNeg x)))) j := fun j => domw_updw hq
  refine W.zast C0.1 C0.2.1 a1 ((C0.2.2.2.2.2.2.2.2.1.1.2 2 _ rfl).1 n (fun j => .int (f j))) (fun q => by cases q) (by show ¬ (i < 0 ∨ (arrV _ _ _).slots.size ≤ _); rw [arrV_size]; exact hin) rfl rfl d fun H1 e1 e2 e3 => ?_
  have hP' := hP.upd hD hq (e := .inl (2, n, .inl (upd f i.toNatClampNeg x))) (H1 := H1) (by
    show H1[ad q]? = some (vp_cell _ _)
    rw [e1]
    show some ((vp_cell (dA 2) (n, .inl f)).setSlot _ _) = some (vp_cell (dA 2) (n, .inl (upd f i.toNatClampNeg x)))
    rw [vp_cell_i, vp_cell_i, arrV_store]
    congr 2
    funext z
    unfold updV upd
    by_cases hz : z = i.toNatClampNeg
    · rw [if_pos hz, if_pos hz]
      have : Value.int (vp_nar .boolean x) = .int x := by rw [hx]
      exact this
    · rw [if_neg hz, if_neg hz]) True.intro e3
  exact kk l p e s m args below meth c Q D dA A w0 ad0 C0 R ad H1 _ ls ⟨g1, g2.trans (AE.upd hq), hP', hD.upd hq, hS.put e2 e3 (hD.2 q _ hq), hl, fun x hx => okv_mono hmv (hwl x hx), fun x hx => okv_mono hmv (ok1 (ok1 (ok1 hws)) x hx), g9, g10⟩
theorem aw_last {q n : Nat} {i : Int32} {x : Int64} {f : Nat → Int64} (d : Dc mi pc .lastore 1 pc') (hq : look w q = some (.inl (1, n, .inr (.inl f)))) (hin : vp_in i n) (kk : AW mi Ψ Z MC MS pc' L st (updw w q (.inl (1, n, .inr (.inl (vp_updL f i.toNatClampNeg x))))) nc ns) : AW mi Ψ Z MC MS pc L (.long x :: .int i :: .ref q :: st) w nc ns := by
  obtain ⟨d, rfl⟩ := d
  intro l p e s m args below meth c Q D dA A w0 ad0 C0 R ad H locs ls h
  obtain ⟨g1, g2, hP, hD, hS, hl, hwl, hws, g9, g10⟩ := h
  have a1 : H[ad q]? = some (vp_cell (dA 1) (n, .inr (.inl f))) := (hP q _ hq).1
  have hmv : ∀ j, domw w j → domw (updw w q (.inl (1, n, .inr (.inl (vp_updL f i.toNatClampNeg x))))) j := fun j => domw_updw hq
  refine W.last C0.1 C0.2.1 a1 ((C0.2.2.2.2.2.2.2.2.1.1.2 1 _ rfl).1 n (fun j => .long (f j))) (fun q => by cases q) (by show ¬ (i < 0 ∨ (arrV _ _ _).slots.size ≤ _); rw [arrV_size]; exact hin) rfl rfl d fun H1 e1 e2 e3 => ?_
  have hP' := hP.upd hD hq (e := .inl (1, n, .inr (.inl (vp_updL f i.toNatClampNeg x)))) (H1 := H1) (by
    show H1[ad q]? = some (vp_cell _ _)
    rw [e1]
    show some ((vp_cell (dA 1) (n, .inr (.inl f))).setSlot _ _) = some (vp_cell (dA 1) (n, .inr (.inl (vp_updL f i.toNatClampNeg x))))
    rw [vp_cell_l, vp_cell_l, arrV_store]
    congr 2
    funext z
    unfold updV vp_updL
    by_cases hz : z = i.toNatClampNeg
    · rw [if_pos hz, if_pos hz]
    · rw [if_neg hz, if_neg hz]) True.intro e3
  exact kk l p e s m args below meth c Q D dA A w0 ad0 C0 R ad H1 _ ls ⟨g1, g2.trans (AE.upd hq), hP', hD.upd hq, hS.put e2 e3 (hD.2 q _ hq), hl, fun x hx => okv_mono hmv (hwl x hx), fun x hx => okv_mono hmv (ok1 (ok1 (ok1 hws)) x hx), g9, g10⟩
theorem aw_aast {q n k : Nat} {i : Int32} {f : Nat → Option Nat} {fs : List Value} (d : Dc mi pc .aastore 1 pc') (hq : look w q = some (.inl (3, n, .inr (.inr (.inr (.inr f)))))) (hk : look w k = some (.inr (3, fs))) (hin : vp_in i n) (kk : AW mi Ψ Z MC MS pc' L st (updw w q (.inl (3, n, .inr (.inr (.inr (.inr (va_up f i.toNatClampNeg (some k)))))))) nc ns) : AW mi Ψ Z MC MS pc L (.ref k :: .int i :: .ref q :: st) w nc ns := by
  obtain ⟨d, rfl⟩ := d
  intro l p e s m args below meth c Q D dA A w0 ad0 C0 R ad H locs ls h
  obtain ⟨g1, g2, hP, hD, hS, hl, hwl, hws, g9, g10⟩ := h
  obtain ⟨a1, a2⟩ := hP q _ hq
  have a1 : H[ad q]? = some (vp_cell (dA 3) (n, .inr (.inr (.inr (.inr (fun j => (f j).map ad)))))) := a1
  have hK := C0.2.2.2.2.2.2.2.2.1.1
  have hmv : ∀ j, domw w j → domw (updw w q (.inl (3, n, .inr (.inr (.inr (.inr (va_up f i.toNatClampNeg (some k)))))))) j := fun j => domw_updw hq
  have hlt : i.toNatClampNeg < n := Nat.not_le.mp fun q => hin (Or.inr q)
  have h0 : ¬ i < 0 := fun q => hin (Or.inl q)
  obtain ⟨⟨r', hr', cellV, v1, v2, v3, -⟩, -⟩ := hP k _ hk
  cases hr'
  have hcls := (hK.1 3 (R_sh, T_sh, 3) rfl).2
  obtain ⟨kA, comp, k1, k2, k3, -⟩ := (hK.2 3 _ rfl).2
  have hcomp : comp = D.1 3 := Option.some.inj (k3.symm.trans hcls.1)
  subst hcomp
  obtain ⟨kC, hkC, -⟩ := hcls.2
  refine W.aast C0.1 C0.2.1 a1 (fun q h => by cases h) (fun h => by cases h) k1 k2 rfl hkC ⟨h0, by show _ < (arrV _ _ _).slots.size; rw [arrV_size]; exact hlt⟩ v1 (fun q h => by rw [v3] at h; cases h) (by rw [v2]; exact hkC) (by rw [v2]; exact va_assign hcls) rfl rfl d fun H1 e1 e2 e3 => ?_
  have hP' := hP.upd hD hq (e := .inl (3, n, .inr (.inr (.inr (.inr (va_up f i.toNatClampNeg (some k))))))) (H1 := H1) (by
    show H1[ad q]? = some (vp_cell _ _)
    rw [e1]
    show some ((vp_cell (dA 3) (n, .inr (.inr (.inr (.inr (fun j => (f j).map ad)))))).setSlot _ _) = some (vp_cell (dA 3) (n, .inr (.inr (.inr (.inr (fun j => (va_up f i.toNatClampNeg (some k) j).map ad))))))
    rw [vp_cell_q, vp_cell_q, arrV_store]
    congr 2
    funext z
    unfold updV va_up
    by_cases hz : z = i.toNatClampNeg
    · rw [if_pos hz, if_pos hz]; rfl
    · rw [if_neg hz, if_neg hz]) (by
    intro j k' hj
    unfold va_up at hj
    by_cases hz : j = i.toNatClampNeg
    · rw [if_pos hz] at hj; cases hj; exact Or.inl ⟨_, hk⟩
    · rw [if_neg hz] at hj; exact a2 j k' hj) e3
  exact kk l p e s m args below meth c Q D dA A w0 ad0 C0 R ad H1 _ ls ⟨g1, g2.trans (AE.upd hq), hP', hD.upd hq, hS.put e2 e3 (hD.2 q _ hq), hl, fun x hx => okv_mono hmv (hwl x hx), fun x hx => okv_mono hmv (ok1 (ok1 (ok1 hws)) x hx), g9, g10⟩
end Heap
