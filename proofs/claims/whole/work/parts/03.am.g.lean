/-! ### calls whose end is one value and one world; small steps -/
section Exact
variable {mi mi' : MI} {Ψ : Pst} {Z : Zt} {MC MS : Nat} {pc pc' n mc ms : Nat} {L : List (Nat × Value)} {st rest : List Value} {w w1 : Wd} {nc ns : Nat} {v : Value}
theorem aw_callV1 {As : List Value} {b ci : Nat} {fs : List Value} {q : vw_C} (d : DcV mi mi' pc pc') (kv : KV mi' n) (hM : AMet mi' (.ref b :: As) w (Ex (some v) w1) mc ms) (hst : st = As.reverse ++ .ref b :: rest) (hn : As.length = n) (hb : look w b = some (.inr (ci, fs))) (hc : classes[ci]? = some q) (hq : q.1 = mi'.1.cls) (hcat : (rest.map fun v => v.category).sum ≤ 8) (h1 : nc + mc ≤ MC) (h2 : ns + ms ≤ MS) (kk : AW mi Ψ Z MC MS pc' L (v :: rest) w1 (nc + mc) (ns + ms)) : AW mi Ψ Z MC MS pc L st w nc ns :=
  aw_callV d kv hM hst hn hb hc hq hcat h1 h2 (fun r w' h => by obtain ⟨rfl, rfl⟩ := h; exact kk)
theorem aw_callVv {As : List Value} {b ci : Nat} {fs : List Value} {q : vw_C} (d : DcV mi mi' pc pc') (kv : KV mi' n) (hM : AMet mi' (.ref b :: As) w (Ex none w1) mc ms) (hst : st = As.reverse ++ .ref b :: rest) (hn : As.length = n) (hb : look w b = some (.inr (ci, fs))) (hc : classes[ci]? = some q) (hq : q.1 = mi'.1.cls) (hcat : (rest.map fun v => v.category).sum ≤ 8) (h1 : nc + mc ≤ MC) (h2 : ns + ms ≤ MS) (kk : AW mi Ψ Z MC MS pc' L rest w1 (nc + mc) (ns + ms)) : AW mi Ψ Z MC MS pc L st w nc ns :=
  aw_callV d kv hM hst hn hb hc hq hcat h1 h2 (fun r w' h => by obtain ⟨rfl, rfl⟩ := h; exact kk)
theorem aw_callS1 {As : List Value} (d : DcS mi mi' pc pc') (kv : KS mi' n) (hM : AMet mi' As w (Ex (some v) w1) mc ms) (hst : st = As.reverse ++ rest) (hn : As.length = n) (hcat : (rest.map fun v => v.category).sum ≤ 8) (h1 : nc + mc ≤ MC) (h2 : ns + ms ≤ MS) (kk : AW mi Ψ Z MC MS pc' L (v :: rest) w1 (nc + mc) (ns + ms)) : AW mi Ψ Z MC MS pc L st w nc ns :=
  aw_callS d kv hM hst hn hcat h1 h2 (fun r w' h => by obtain ⟨rfl, rfl⟩ := h; exact kk)
theorem aw_callSv {As : List Value} (d : DcS mi mi' pc pc') (kv : KS mi' n) (hM : AMet mi' As w (Ex none w1) mc ms) (hst : st = As.reverse ++ rest) (hn : As.length = n) (hcat : (rest.map fun v => v.category).sum ≤ 8) (h1 : nc + mc ≤ MC) (h2 : ns + ms ≤ MS) (kk : AW mi Ψ Z MC MS pc' L rest w1 (nc + mc) (ns + ms)) : AW mi Ψ Z MC MS pc L st w nc ns :=
  aw_callS d kv hM hst hn hcat h1 h2 (fun r w' h => by obtain ⟨rfl, rfl⟩ := h; exact kk)
theorem aw_callIv {As : List Value} {b : Nat} (d : DcI mi mi' pc pc') (kv : KI mi' n) (hM : AMet mi' (.ref b :: As) w (Ex none w1) mc ms) (hst : st = As.reverse ++ .ref b :: rest) (hn : As.length = n) (hcat : (rest.map fun v => v.category).sum ≤ 8) (h1 : nc + mc ≤ MC) (h2 : ns + ms ≤ MS) (kk : AW mi Ψ Z MC MS pc' L rest w1 (nc + mc) (ns + ms)) : AW mi Ψ Z MC MS pc L st w nc ns :=
  aw_callI d kv hM hst hn hcat h1 h2 (fun r w' h => by obtain ⟨rfl, rfl⟩ := h; exact kk)
theorem aw_callNv {As : List Value} {b : Nat} (d : DcN mi mi' pc pc') (kv : KI mi' n) (hM : AMet mi' (.ref b :: As) w (Ex none w1) mc ms) (hst : st = As.reverse ++ .ref b :: rest) (hn : As.length = n) (hcat : (rest.map fun v => v.category).sum ≤ 8) (h1 : nc + mc ≤ MC) (h2 : ns + ms ≤ MS) (kk : AW mi Ψ Z MC MS pc' L rest w1 (nc + mc) (ns + ms)) : AW mi Ψ Z MC MS pc L st w nc ns :=
  aw_callN d kv hM hst hn hcat h1 h2 (fun r w' h => by obtain ⟨rfl, rfl⟩ := h; exact kk)
theorem ofInt_1 : Int32.ofInt 1 = nI 1 := by decide
theorem ofInt_m1 : Int32.ofInt (-1) = -nI 1 := by decide
theorem aw_inc {i : Nat} {x : Int32} (d : Dc mi pc (.iinc i 1) 3 pc') (hl : lk L i = some (.int x)) (hn : i < mi.2.2.1) (hok : lsok L i false = true) (k : AW mi Ψ Z MC MS pc' (lset L i (.int (x + nI 1))) st w nc ns) : AW mi Ψ Z MC MS pc L st w nc ns := aw_iinc _ d hl (by rw [ofInt_1]) hn hok k
theorem aw_dec {i : Nat} {x : Int32} (d : Dc mi pc (.iinc i (-1)) 3 pc') (hl : lk L i = some (.int x)) (hn : i < mi.2.2.1) (hok : lsok L i false = true) (k : AW mi Ψ Z MC MS pc' (lset L i (.int (x - nI 1))) st w nc ns) : AW mi Ψ Z MC MS pc L st w nc ns := aw_iinc _ d hl (by rw [ofInt_m1, Int32.sub_eq_add_neg]) hn hok k
/-- a row of a world is told otherwise, where it counts -/
theorem arrV_congr {cA : ClassId} {n : Nat} {f g : Nat → Value} (h : ∀ j, j < n → f j = g j) : arrV cA n f = arrV cA n g := by
  have e1 := arrV_size cA n f
  have e2 := arrV_size cA n g
  have hs : (arrV cA n f).slots = (arrV cA n g).slots := by
    apply Array.ext_getElem?
    intro i
    rcases Nat.lt_or_ge i n with q | q
    · rw [arrV_read _ _ q, arrV_read _ _ q, h i q]
    · rw [Array.getElem?_eq_none (by omega), Array.getElem?_eq_none (by omega)]
  unfold arrV at hs ⊢
  dsimp only at hs
  rw [hs]
theorem aw_row {q t N : Nat} {f g : Nat → Int32} (hq : look w q = some (.inl (t, N, .inl f))) (h : ∀ j, j < N → f j = g j) (k : AW mi Ψ Z MC MS pc L st (updw w q (.inl (t, N, .inl g))) nc ns) : AW mi Ψ Z MC MS pc L st w nc ns := by
  intro l p e s m args below meth c Q D dA A w0 ad0 C R ad H locs ls hh
  obtain ⟨g1, g2, hP, hD, hS, hl, hwl, hws, g9, g10⟩ := hh
  have hmv : ∀ j, domw w j → domw (updw w q (.inl (t, N, .inl g))) j := fun j => domw_updw hq
  have a1 : H[ad q]? = some (vp_cell (dA t) (N, .inl f)) := (hP q _ hq).1
  have hP' := hP.upd hD hq (e := .inl (t, N, .inl g)) (H1 := H) (by
    show H[ad q]? = some (vp_cell (dA t) (N, .inl g))
    rw [a1, vp_cell_i, vp_cell_i, arrV_congr (fun j hj => by rw [h j hj])]) True.intro (fun _ _ => rfl)
  exact k l p e s m args below meth c Q D dA A w0 ad0 C R ad H locs ls ⟨g1, g2.trans (AE.upd hq), hP', hD.upd hq, hS, hl, fun x hx => okv_mono hmv (hwl x hx), fun x hx => okv_mono hmv (hws x hx), g9, g10⟩
theorem aw_rowL {q t N : Nat} {f g : Nat → Int64} (hq : look w q = some (.inl (t, N, .inr (.inl f)))) (h : ∀ j, j < N → f j = g j) (k : AW mi Ψ Z MC MS pc L st (updw w q (.inl (t, N, .inr (.inl g)))) nc ns) : AW mi Ψ Z MC MS pc L st w nc ns := by
  intro l p e s m args below meth c Q D dA A w0 ad0 C R ad H locs ls hh
  obtain ⟨g1, g2, hP, hD, hS, hl, hwl, hws, g9, g10⟩ := hh
  have hmv : ∀ j, domw w j → domw (updw w q (.inl (t, N, .inr (.inl g)))) j := fun j => domw_updw hq
  have a1 : H[ad q]? = some (vp_cell (dA t) (N, .inr (.inl f))) := (hP q _ hq).1
  have hP' := hP.upd hD hq (e := .inl (t, N, .inr (.inl g))) (H1 := H) (by
    show H[ad q]? = some (vp_cell (dA t) (N, .inr (.inl g)))
    rw [a1, vp_cell_l, vp_cell_l, arrV_congr (fun j hj => by rw [h j hj])]) True.intro (fun _ _ => rfl)
  exact k l p e s m args below meth c Q D dA A w0 ad0 C R ad H locs ls ⟨g1, g2.trans (AE.upd hq), hP', hD.upd hq, hS, hl, fun x hx => okv_mono hmv (hwl x hx), fun x hx => okv_mono hmv (hws x hx), g9, g10⟩
end Exact
