/-! ### contracts -/
abbrev Pq : Type := Option Value → Wd → Prop
def APc (D : va_G) (dA : Nat → ClassId) (ad : Nat → Nat) (as : List Value) (w : Wd) (sz : Nat) : Array Value → State → Prop := va_Pc (as.map (cv ad)) (fun U => U.heap.size = sz ∧ AP D dA ad w U.heap ∧ AK D dA U ∧ AD (fun _ => True) ad w ∧ ∀ v ∈ as, okv w v)
def AQc (D : va_G) (dA : Nat → ClassId) (ad : Nat → Nat) (w : Wd) (sz : Nat) (Post : Pq) : Array Value → State → Outcome → State → Prop := fun _ st oc t =>
  (∃ (r : Option Value) (w' : Wd) (ad' : Nat → Nat), Post r w' ∧ AE w ad w' ad' ∧ (∀ v, r = some v → okv w' v) ∧ oc = .returned (r.map (cv ad')) ∧ AP D dA ad' w' t.heap ∧ AD (AA ad w sz) ad' w') ∧ va_F (AA ad w sz) st t
/-- from the world w, with the arguments as, the method comes to an end that Post allows; at most mc cells of ms slots are new -/
def AMet (mi : MI) (as : List Value) (w : Wd) (Post : Pq) (mc ms : Nat) : Prop :=
  ∀ (l : Launch) (D : va_G) (dA : Nat → ClassId) (ad : Nat → Nat) (sz : Nat), Met l mi.1 (mws mi) (rmOf mi mc ms) (APc D dA ad as w sz) (AQc D dA ad w sz Post) mc ms (AA ad w sz)
abbrev Zp (Post : Pq) : Zt := fun r w' _ _ => Post r w'
abbrev Ex (r : Option Value) (w : Wd) : Pq := fun r' w' => r' = r ∧ w' = w
abbrev noP : Pst := fun _ _ _ => True
theorem lg_sl_len (ad : Nat → Nat) (as : List Value) : (lg_sl (as.map (cv ad))).length = (lg_sl as).length := by
  induction as with
  | nil => rfl
  | cons v t ih =>
    have e : ∀ u (x : List Value), lg_sl (u :: x) = (if u.category = 2 then [.val u, .second] else [.val u]) ++ lg_sl x := fun u x => rfl
    rw [List.map_cons, e, e, List.length_append, List.length_append, ih, cv_cat]
    by_cases h : v.category = 2
    · rw [if_pos h, if_pos h]; rfl
    · rw [if_neg h, if_neg h]; rfl
theorem lv_args_cv (ad : Nat → Nat) (as : List Value) : ∀ i, lv_args i (as.map (cv ad)) = (lv_args i as).map (lc ad) := by
  induction as with
  | nil => intro i; rfl
  | cons v t ih =>
    intro i
    show (i, cv ad v) :: lv_args (if (cv ad v).category = 2 then i + 2 else i + 1) (t.map (cv ad)) = lc ad (i, v) :: (lv_args (if v.category = 2 then i + 2 else i + 1) t).map (lc ad)
    rw [cv_cat, ih]
    rfl
theorem lv_args_mem (as : List Value) : ∀ i, ∀ q ∈ lv_args i as, q.2 ∈ as := by
  induction as with
  | nil => intro i q hq; cases hq
  | cons v t ih =>
    intro i q hq
    rcases List.mem_cons.mp hq with rfl | hq
    · exact List.mem_cons_self
    · exact List.mem_cons_of_mem _ (ih _ q hq)
theorem AMet.of {mi : MI} {as : List Value} {w : Wd} {Post : Pq} {mc ms : Nat} (L : List (Nat × Value)) (hp : plainName mi.1.cls = true) (hL : lv_args 0 as = L) (hfit : (lg_sl as).length ≤ mi.2.2.1) (k : AW mi noP (Zp Post) mc ms 0 L [] w 0 0) : AMet mi as w Post mc ms := by
  subst hL
  intro l D dA ad sz
  refine Met.ofW (cc := mi.2.1) (maxL := mi.2.2.1) (ret := mi.2.2.2.1) hp rfl ?_
  intro p e s m args below meth c s₁ B hml hv
  obtain ⟨rfl, hsz, hP, hK, hD0, hwf⟩ := hv
  have hx := B.exec
  have hb := B.bytes
  have hr := B.returns
  have hts := atoms_spec (ws := mws mi) B.pre
  have hown : s.vm.findClass mi.1.cls = some m.cls := findClass_of_methodNamed B.named
  have hlocks := B.notSynchronized
  have hin : meth.name = mi.1.name := (name_of_methodNamed B.named B.method).1
  subst hsz
  have hlv := lv_entry (as.map (cv ad)) (n := mi.2.2.1) (by rw [lg_sl_len]; exact hfit)
  rw [lg_entry_eq]
  rw [lv_args_cv] at hlv
  refine k l p e s m _ below meth c (MQ below (AQc D dA ad w s.heap.size Post) _ s mc ms (AA ad w s.heap.size)) D dA (AA ad w s.heap.size) w ad
    ⟨hx, hb, hr, hml, hown, fun x h => hts x (List.mem_cons_of_mem _ h), hlocks, hin, hK, fun q h => Or.inr h⟩ ?_ ad s.heap [] _
    ⟨True.intro, AE.rf w ad, hP, ⟨hD0.1, fun k e h => Or.inl ⟨k, e, h, rfl⟩⟩, va_S.rf, hlv, fun q hq => hwf _ (lv_args_mem as 0 q hq), fun v hv => absurd hv List.not_mem_nil, Nat.zero_le _, Nat.zero_le _⟩
  intro r w' ad' H' locs' nc' ns' pc' ls' i hz hP' hD' hS' hE' hok' hrt hdec hc hs
  refine W.widen (k := mc) (n := ms) hc hs ?_
  have hq : ∀ t : State, t.heap = H' → s.WarmedH t.vm → AQc D dA ad w s.heap.size Post (List.map (cv ad) as).toArray s (.returned (r.map (cv ad'))) t := fun t ht _ => ⟨⟨r, w', ad', hz, hE', hok', rfl, by rw [ht]; exact hP', hD'⟩, hS'.F ht⟩
  rcases hrt with ⟨h1, rfl, rfl⟩ | ⟨ty, v, h1, rfl, rfl, hn⟩ | ⟨v, h1, rfl, rfl⟩ | ⟨n, k, h1, rfl, rfl⟩
  · exact W.vret hx hb (hr.trans h1) hq hS'.2.2 hdec
  · exact W.zret (v := v) hx hb (hr.trans h1) hn hq hS'.2.2 hdec
  · exact W.lret (v := v) hx hb (hr.trans h1) hq hS'.2.2 hdec
  · exact W.aret (v := .ref (ad' k)) hx hb (hr.trans h1) (Or.inl ⟨n, rfl⟩) (Or.inr ⟨_, rfl⟩) hq hS'.2.2 hdec
theorem AMet.mono {mi : MI} {as : List Value} {w : Wd} {P P' : Pq} {mc ms : Nat} (h : AMet mi as w P mc ms) (hp : ∀ r w', P r w' → P' r w') : AMet mi as w P' mc ms := by
  intro l D dA ad sz
  refine MetFree.mono (h l D dA ad sz) (fun _ _ h => h) (fun _ _ _ _ _ _ => True.intro) ?_
  intro a s o t _ h
  obtain ⟨⟨⟨r, w', ad', h1, h2⟩, h3⟩, h4⟩ := h
  exact ⟨⟨⟨r, w', ad', hp _ _ h1, h2⟩, h3⟩, h4⟩
section Ends
variable {mi : MI} {Ψ : Pst} {Z : Zt} {MC MS : Nat} {pc pc' : Nat} {L : List (Nat × Value)} {st : List Value} {w : Wd} {nc ns : Nat}
theorem aw_ireturn {ty : FieldType} {v : Int32} (d : Dc mi pc .ireturn 1 pc') (hr : mi.2.2.2.1 = some ty) (hn : narrow ty (.int v) = .int v) (hz : Z (some (.int v)) w nc ns) : AW mi Ψ Z MC MS pc L [.int v] w nc ns := by
  intro l p e s m args below meth c Q D dA A w0 ad0 C R ad H locs ls h
  exact R (some (.int v)) w ad H locs nc ns pc ls .ireturn hz h.2.2.1 h.2.2.2.1 h.2.2.2.2.1 h.2.1 (fun v hv => by cases hv; exact True.intro) (Or.inr (Or.inl ⟨ty, v, hr, rfl, rfl, hn⟩)) d.1 h.2.2.2.2.2.2.2.2.1 h.2.2.2.2.2.2.2.2.2
theorem aw_lreturn {v : Int64} (d : Dc mi pc .lreturn 1 pc') (hr : mi.2.2.2.1 = some .long) (hz : Z (some (.long v)) w nc ns) : AW mi Ψ Z MC MS pc L [.long v] w nc ns := by
  intro l p e s m args below meth c Q D dA A w0 ad0 C R ad H locs ls h
  exact R (some (.long v)) w ad H locs nc ns pc ls .lreturn hz h.2.2.1 h.2.2.2.1 h.2.2.2.2.1 h.2.1 (fun v hv => by cases hv; exact True.intro) (Or.inr (Or.inr (Or.inl ⟨v, hr, rfl, rfl⟩))) d.1 h.2.2.2.2.2.2.2.2.1 h.2.2.2.2.2.2.2.2.2
theorem aw_areturn {n : String} {k : Nat} (d : Dc mi pc .areturn 1 pc') (hr : mi.2.2.2.1 = some (.object n)) (hz : Z (some (.ref k)) w nc ns) : AW mi Ψ Z MC MS pc L [.ref k] w nc ns := by
  intro l p e s m args below meth c Q D dA A w0 ad0 C R ad H locs ls h
  exact R (some (.ref k)) w ad H locs nc ns pc ls .areturn hz h.2.2.1 h.2.2.2.1 h.2.2.2.2.1 h.2.1 (fun v hv => by cases hv; exact ok1a h.2.2.2.2.2.2.2.1) (Or.inr (Or.inr (Or.inr ⟨n, k, hr, rfl, rfl⟩))) d.1 h.2.2.2.2.2.2.2.2.1 h.2.2.2.2.2.2.2.2.2
theorem aw_return (d : Dc mi pc .return_ 1 pc') (hr : mi.2.2.2.1 = none) (hz : Z none w nc ns) : AW mi Ψ Z MC MS pc L [] w nc ns := by
  intro l p e s m args below meth c Q D dA A w0 ad0 C R ad H locs ls h
  exact R none w ad H locs nc ns pc ls .return_ hz h.2.2.1 h.2.2.2.1 h.2.2.2.2.1 h.2.1 (fun v hv => by cases hv) (Or.inl ⟨hr, rfl, rfl⟩) d.1 h.2.2.2.2.2.2.2.2.1 h.2.2.2.2.2.2.2.2.2
theorem aw_obj {q : Nat} (d : Do mi pc pc') (k : AW mi Ψ Z MC MS pc' L [] w nc ns) : AW mi Ψ Z MC MS pc L [.ref q] w nc ns := by
  obtain ⟨idx, d, rfl, w1, w2, w3, h1, h2⟩ := d
  intro l p e s m args below meth c Q D dA A w0 ad0 C R ad H locs ls h
  refine W.objInit C.1 C.2.1 C.2.2.2.2.1 (C.2.2.2.2.2.1 _ w1) (C.2.2.2.2.2.1 _ w2) (C.2.2.2.2.2.1 _ w3) rfl (h.2.2.2.2.2.1.1.trans C.2.2.2.1.symm) rfl d h1 (Nat.le_trans (by show 2 * 0 + 0 + 12 ≤ 12; decide) h2) ?_
  exact k l p e s m args below meth c Q D dA A w0 ad0 C R ad H locs ls ⟨h.1, h.2.1, h.2.2.1, h.2.2.2.1, h.2.2.2.2.1, h.2.2.2.2.2.1, h.2.2.2.2.2.2.1, ok1 h.2.2.2.2.2.2.2.1, h.2.2.2.2.2.2.2.2⟩
end Ends
section Calls
variable {mi mi' : MI} {Ψ : Pst} {Z : Zt} {MC MS : Nat} {pc pc' n mc ms : Nat} {L : List (Nat × Value)} {st rest : List Value} {w : Wd} {nc ns : Nat} {Post : Pq}
theorem blindA {D : va_G} {dA : Nat → ClassId} {ad : Nat → Nat} {as : List Value} {sz : Nat} : FrameBlind (APc D dA ad as w sz) := fun a U g mk h => by
  obtain ⟨h0, h1, h2, h3, h4, h5⟩ := h
  exact ⟨h0, h1, h2, AK.same (s := U) (U := U.calling g mk a) rfl h3, h4, h5⟩
theorem preA {D : va_G} {dA : Nat → ClassId} {ad : Nat → Nat} {as : List Value} {s : State} {H : Heap} {A : Nat → Prop} (hP : AP D dA ad w H) (hK : AK D dA s) (hD : AD A ad w) (ho : ∀ v ∈ as, okv w v) : ∀ U : State, U.heap = H → s.WarmedH U.vm → APc D dA ad as w H.size (as.map (cv ad)).toArray U := fun U hU hW =>
  ⟨rfl, by rw [hU], by rw [hU]; exact hP, hK.warm hW, ⟨hD.1, fun _ _ _ => True.intro⟩, ho⟩
theorem cat_rest (ad : Nat → Nat) (rest : List Value) : ((rest.map (cv ad)).map fun v => v.category).sum = (rest.map fun v => v.category).sum := by
  rw [List.map_map]
  congr 1
  exact List.map_congr_left (fun v _ => cv_cat ad v)
/-- behind a call -/
theorem aw_back {l : Launch} {p : Program} {e : Env} {s : State} {m : MethodId} {args : Array Value} {below : List Frame} {meth : Method} {c : Code} {Q : State → Prop} {D : va_G} {dA : Nat → ClassId} {A : Nat → Prop} {w0 : Wd} {ad0 ad : Nat → Nat} {H : Heap} {locs : List Loc} {ls : Array Slot} {a : Array Value} {st0 : List Value}
    (C : Cx mi p s m args meth c D dA A) (R : Rx mi Z MC MS l p e s m args below meth c Q D dA A w0 ad0) (h : SR mi Ψ MC MS s D dA A w0 ad0 ad H locs ls L rest w nc ns) (h1 : nc + mc ≤ MC) (h2 : ns + ms ≤ MS)
    (hr : va_Run p l e (rmOf mi MC MS) s m args below meth c H locs nc ns mc ms (F0 m pc ls st0) (rest.map (cv ad)) (AQc D dA ad w H.size Post a) (AA ad w H.size))
    (kk : ∀ r w', Post r w' → AW mi Ψ Z MC MS (pc + 3) L (r.toList ++ rest) w' (nc + mc) (ns + ms)) : W p l e (rmOf mi MC MS) s m args below meth c H locs nc ns Q (F0 m pc ls st0) := by
  obtain ⟨g1, g2, hP, hD, hS, hlv, hwl, hws, g9, g10⟩ := h
  have hA := C.2.2.2.2.2.2.2.2.2
  intro T hT X
  obtain ⟨v, st₀, t, T', Lc, q0, X', hLc, e1, e2, ⟨⟨r, w', ad', hpost, hE, hok, hv, hP', hD'⟩, hz, hk⟩, stp⟩ := hr T hT X
  cases hv
  have hx : ∀ j, domw w j → ad' j = ad j := fun j hj => (hE j hj).1
  have hmv : ∀ j, domw w j → domw w' j := fun j hj => (hE j hj).2
  have hAA : ∀ q, AA ad w H.size q → A q := fun q hq => by
    rcases hq with ⟨k, e, h, rfl⟩ | h
    · exact hD.2 k e h
    · exact hA q (Nat.le_trans hS.1 h)
  rw [q0] at hz hk
  rw [← e1] at hz hk hP'
  have hL2 : L.map (lc ad') = L.map (lc ad) := List.map_congr_left (fun q hq => by unfold lc; rw [cv_ext hx (hwl q hq)])
  have hs : SR mi Ψ MC MS s D dA A w0 ad0 ad' T'.heap (locs ++ Lc) ls L (r.toList ++ rest) w' (nc + mc) (ns + ms) := by
    refine ⟨by rw [hx 8 (Or.inr rfl)]; exact g1, g2.trans hE, hP', ⟨hD'.1, fun k e h => hAA _ (hD'.2 k e h)⟩, ⟨Nat.le_trans hS.1 hz, fun q q1 q2 => (hk q (Nat.lt_of_lt_of_le q1 hS.1) (fun z => q2 (hAA q z))).trans (hS.2.1 q q1 q2), fun q hq => ?_⟩, by rw [hL2]; exact hlv, fun q hq => okv_mono hmv (hwl q hq), fun u hu => ?_, h1, h2⟩
    · rcases List.mem_append.mp hq with h | h
      · exact hS.2.2 q h
      · exact hAA _ (hLc q h)
    · rcases List.mem_append.mp hu with h | h
      · cases r with
        | none => cases h
        | some x => cases List.mem_singleton.mp h; exact hok _ rfl
      · exact okv_mono hmv (hws u h)
  obtain ⟨t2, a1, b1⟩ := kk r w' hpost l p e s m args below meth c Q D dA A w0 ad0 C R ad' T'.heap (locs ++ Lc) ls hs T' rfl X'
  refine ⟨t2, stp t2 ?_, b1⟩
  have e5 : (r.toList ++ rest).map (cv ad') = (r.map (cv ad')).toList ++ rest.map (cv ad) := by
    rw [List.map_append, map_ext hx hws]
    cases r <;> rfl
  rw [e5] at a1
  exact a1
theorem aw_callV {As : List Value} {b ci : Nat} {fs : List Value} {q : vw_C} (d : DcV mi mi' pc pc') (kv : KV mi' n) (hM : AMet mi' (.ref b :: As) w Post mc ms) (hst : st = As.reverse ++ .ref b :: rest) (hn : As.length = n) (hb : look w b = some (.inr (ci, fs))) (hc : classes[ci]? = some q) (hq : q.1 = mi'.1.cls) (hcat : (rest.map fun v => v.category).sum ≤ 8) (h1 : nc + mc ≤ MC) (h2 : ns + ms ≤ MS)
    (kk : ∀ r w', Post r w' → AW mi Ψ Z MC MS pc' L (r.toList ++ rest) w' (nc + mc) (ns + ms)) : AW mi Ψ Z MC MS pc L st w nc ns := by
  obtain ⟨idx, d, rfl, hlink, hfit⟩ := d
  obtain ⟨k1, k2, k3, k4, k5⟩ := kv
  subst hst
  intro l p e s m args below meth c Q D dA A w0 ad0 C R ad H locs ls h
  have hokA : ∀ v ∈ (Value.ref b :: As), okv w v := fun v hv => h.2.2.2.2.2.2.2.1 v (by
    rcases List.mem_cons.mp hv with rfl | hv
    · exact List.mem_append_right _ List.mem_cons_self
    · exact List.mem_append_left _ (List.mem_reverse.mpr hv))
  have hr : SR mi Ψ MC MS s D dA A w0 ad0 ad H locs ls L rest w nc ns := ⟨h.1, h.2.1, h.2.2.1, h.2.2.2.1, h.2.2.2.2.1, h.2.2.2.2.2.1, h.2.2.2.2.2.2.1, fun v hv => h.2.2.2.2.2.2.2.1 v (List.mem_append_right _ (List.mem_cons_of_mem _ hv)), h.2.2.2.2.2.2.2.2⟩
  have hK := C.2.2.2.2.2.2.2.2.1
  have hts := C.2.2.2.2.2.1
  obtain ⟨⟨r', e1, cell, e2, e3, e4, -⟩, -⟩ := h.2.2.1 b _ hb
  have hr' : r' = q := Option.some.inj (e1.symm.trans hc)
  subst hr'
  have hrecv : ∃ cellB : Cell, H[ad b]? = some cellB ∧ cellB.vm.isStatics = false ∧ s.vm.findClass mi'.1.cls = some cellB.cls := ⟨cell, e2, by rw [e4]; rfl, by rw [e3, ← hq]; exact (hK.1.1 ci r' hc).2.1⟩
  have hG : GoodIn gtb (wsV mi.1.cls idx mi'.1.cls mi'.1 (mws mi')) := by
    intro x hx
    rcases List.mem_append.mp hx with hx | hx
    · simp only [List.mem_cons, List.not_mem_nil, or_false] at hx
      rcases hx with rfl | rfl | rfl | rfl
      · exact ⟨hlink, good_gtb hlink⟩
      · exact ⟨k1, good_gtb k1⟩
      · exact ⟨k2, good_gtb k2⟩
      · exact ⟨k3, good_gtb k3⟩
    · exact mws_good k4 x hx
  refine aw_back C R hr h1 h2 (va_runV (As := As.map (cv ad)) (rest := rest.map (cv ad)) (Ts := gtb) ⟨C.1, C.2.1, C.2.2.2.1, C.2.2.2.2.1, hts⟩ (hM l D dA ad H.size) (cwV n hts hG rfl rfl rfl ⟨rfl, k5⟩ hfit) ⟨blindA, hrecv, preA h.2.2.1 hK h.2.2.2.1 hokA⟩ rfl (by rw [List.length_map]; exact hn) h.2.2.2.2.2.1.1 ?_ (lv_room (by rw [cat_rest]; exact hcat)) d ⟨h1, h2⟩) kk
  show (As.reverse ++ .ref b :: rest).map (cv ad) = _
  rw [List.map_append, List.map_reverse]
  rfl
theorem aw_callS {As : List Value} (d : DcS mi mi' pc pc') (kv : KS mi' n) (hM : AMet mi' As w Post mc ms) (hst : st = As.reverse ++ rest) (hn : As.length = n) (hcat : (rest.map fun v => v.category).sum ≤ 8) (h1 : nc + mc ≤ MC) (h2 : ns + ms ≤ MS)
    (kk : ∀ r w', Post r w' → AW mi Ψ Z MC MS pc' L (r.toList ++ rest) w' (nc + mc) (ns + ms)) : AW mi Ψ Z MC MS pc L st w nc ns := by
  obtain ⟨idx, d, rfl, hlink, hfit⟩ := d
  obtain ⟨k1, k3, k4, k5⟩ := kv
  subst hst
  intro l p e s m args below meth c Q D dA A w0 ad0 C R ad H locs ls h
  have hokA : ∀ v ∈ As, okv w v := fun v hv => h.2.2.2.2.2.2.2.1 v (List.mem_append_left _ (List.mem_reverse.mpr hv))
  have hr : SR mi Ψ MC MS s D dA A w0 ad0 ad H locs ls L rest w nc ns := ⟨h.1, h.2.1, h.2.2.1, h.2.2.2.1, h.2.2.2.2.1, h.2.2.2.2.2.1, h.2.2.2.2.2.2.1, fun v hv => h.2.2.2.2.2.2.2.1 v (List.mem_append_right _ hv), h.2.2.2.2.2.2.2.2⟩
  have hK := C.2.2.2.2.2.2.2.2.1
  have hts := C.2.2.2.2.2.1
  refine aw_back C R hr h1 h2 (va_runS (As := As.map (cv ad)) (rest := rest.map (cv ad)) (Ts := gtb) ⟨C.1, C.2.1, C.2.2.2.1, C.2.2.2.2.1, hts⟩ (hM l D dA ad H.size) ⟨callB_of n hts (mws_good k4) rfl rfl rfl (hts _ k3) (hts _ hlink) k5 hfit, hts _ k1⟩ ⟨blindA, preA h.2.2.1 hK h.2.2.2.1 hokA⟩ rfl (by rw [List.length_map]; exact hn) h.2.2.2.2.2.1.1 ?_ (lv_room (by rw [cat_rest]; exact hcat)) d ⟨h1, h2⟩) kk
  show (As.reverse ++ rest).map (cv ad) = _
  rw [List.map_append, List.map_reverse]
theorem mi_none (h : mi'.2.2.2.1 = none) : mi' = (mi'.1, mi'.2.1, mi'.2.2.1, none, mi'.2.2.2.2) := by rw [← h]
theorem aw_callI {As : List Value} {b : Nat} (d : DcI mi mi' pc pc') (kv : KI mi' n) (hM : AMet mi' (.ref b :: As) w Post mc ms) (hst : st = As.reverse ++ .ref b :: rest) (hn : As.length = n) (hcat : (rest.map fun v => v.category).sum ≤ 8) (h1 : nc + mc ≤ MC) (h2 : ns + ms ≤ MS)
    (kk : ∀ r w', Post r w' → AW mi Ψ Z MC MS pc' L (r.toList ++ rest) w' (nc + mc) (ns + ms)) : AW mi Ψ Z MC MS pc L st w nc ns := by
  obtain ⟨idx, d, rfl, hlink, hfit⟩ := d
  obtain ⟨k1, k2, k6, k3, k4, k5⟩ := kv
  subst hst
  intro l p e s m args below meth c Q D dA A w0 ad0 C R ad H locs ls h
  have hokA : ∀ v ∈ (Value.ref b :: As), okv w v := fun v hv => h.2.2.2.2.2.2.2.1 v (by
    rcases List.mem_cons.mp hv with rfl | hv
    · exact List.mem_append_right _ List.mem_cons_self
    · exact List.mem_append_left _ (List.mem_reverse.mpr hv))
  have hr : SR mi Ψ MC MS s D dA A w0 ad0 ad H locs ls L rest w nc ns := ⟨h.1, h.2.1, h.2.2.1, h.2.2.2.1, h.2.2.2.2.1, h.2.2.2.2.2.1, h.2.2.2.2.2.2.1, fun v hv => h.2.2.2.2.2.2.2.1 v (List.mem_append_right _ (List.mem_cons_of_mem _ hv)), h.2.2.2.2.2.2.2.2⟩
  have hK := C.2.2.2.2.2.2.2.2.1
  have hts := C.2.2.2.2.2.1
  have cb := callB_of (own := mi.1.cls) (index := idx) (R := rmOf mi MC MS) (rm := rmOf mi' mc ms) n hts (mws_good k4) rfl rfl rfl (hts _ k3) (hts _ hlink) k5 hfit
  rw [k6] at cb
  refine aw_back C R hr h1 h2 (va_runI (As := As.map (cv ad)) (rest := rest.map (cv ad)) (Ts := gtb) (b := ad b) ⟨C.1, C.2.1, C.2.2.2.1, C.2.2.2.2.1, hts⟩ (hM l D dA ad H.size) ⟨cb, k2, hts _ k1⟩ ⟨blindA, preA h.2.2.1 hK h.2.2.2.1 hokA⟩ rfl (by rw [List.length_map]; exact hn) h.2.2.2.2.2.1.1 ?_ (lv_room (by rw [cat_rest]; exact hcat)) d ⟨h1, h2⟩) kk
  show (As.reverse ++ .ref b :: rest).map (cv ad) = _
  rw [List.map_append, List.map_reverse]
  rfl
theorem aw_callN {As : List Value} {b : Nat} (d : DcN mi mi' pc pc') (kv : KI mi' n) (hM : AMet mi' (.ref b :: As) w Post mc ms) (hst : st = As.reverse ++ .ref b :: rest) (hn : As.length = n) (hcat : (rest.map fun v => v.category).sum ≤ 8) (h1 : nc + mc ≤ MC) (h2 : ns + ms ≤ MS)
    (kk : ∀ r w', Post r w' → AW mi Ψ Z MC MS pc' L (r.toList ++ rest) w' (nc + mc) (ns + ms)) : AW mi Ψ Z MC MS pc L st w nc ns := by
  obtain ⟨idx, d, rfl, hlink, hfit⟩ := d
  obtain ⟨k1, k2, k6, k3, k4, k5⟩ := kv
  subst hst
  intro l p e s m args below meth c Q D dA A w0 ad0 C R ad H locs ls h
  have hokA : ∀ v ∈ (Value.ref b :: As), okv w v := fun v hv => h.2.2.2.2.2.2.2.1 v (by
    rcases List.mem_cons.mp hv with rfl | hv
    · exact List.mem_append_right _ List.mem_cons_self
    · exact List.mem_append_left _ (List.mem_reverse.mpr hv))
  have hr : SR mi Ψ MC MS s D dA A w0 ad0 ad H locs ls L rest w nc ns := ⟨h.1, h.2.1, h.2.2.1, h.2.2.2.1, h.2.2.2.2.1, h.2.2.2.2.2.1, h.2.2.2.2.2.2.1, fun v hv => h.2.2.2.2.2.2.2.1 v (List.mem_append_right _ (List.mem_cons_of_mem _ hv)), h.2.2.2.2.2.2.2.2⟩
  have hK := C.2.2.2.2.2.2.2.2.1
  have hts := C.2.2.2.2.2.1
  have cb := va_cnB (args := args) (R := rmOf mi MC MS) (rm := rmOf mi' mc ms) n hts (mws_good k4) rfl rfl rfl (hK.2.2 _ hlink) (hts _ k3) k5 hfit
  rw [k6] at cb
  refine aw_back C R hr h1 h2 (va_runIN (As := As.map (cv ad)) (rest := rest.map (cv ad)) (Ts := gtb) (b := ad b) ⟨C.1, C.2.1, C.2.2.2.1, C.2.2.2.2.1, hts⟩ (hM l D dA ad H.size) ⟨cb, k2, hts _ k1⟩ ⟨blindA, preA h.2.2.1 hK h.2.2.2.1 hokA⟩ rfl (by rw [List.length_map]; exact hn) h.2.2.2.2.2.1.1 ?_ (lv_room (by rw [cat_rest]; exact hcat)) d ⟨h1, h2⟩) kk
  show (As.reverse ++ .ref b :: rest).map (cv ad) = _
  rw [List.map_append, List.map_reverse]
  rfl
end Calls
