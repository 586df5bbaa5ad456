/-! THE ABSTRACT MACHINE: worlds are lists of regions of cells; a reference is 16 * place + region; 'ad' says where it lies -/
abbrev Wd : Type := List (List va_E)
def look (w : Wd) (k : Nat) : Option va_E := (w.getD (k % 16) [])[k / 16]?
def updw (w : Wd) (k : Nat) (e : va_E) : Wd := w.set (k % 16) ((w.getD (k % 16) []).set (k / 16) e)
def pushw (w : Wd) (r : Nat) (e : va_E) : Wd := w.set r (w.getD r [] ++ [e])
def keyw (w : Wd) (r : Nat) : Nat := 16 * (w.getD r []).length + r
def domw (w : Wd) (k : Nat) : Prop := (∃ e, look w k = some e) ∨ k = 8
def cv (ad : Nat → Nat) : Value → Value
  | .ref k => .ref (ad k)
  | v => v
def ca (ad : Nat → Nat) (x : vp_A) : vp_A := match x with
  | (n, .inr (.inr (.inr (.inr f)))) => (n, .inr (.inr (.inr (.inr (fun i => (f i).map ad)))))
  | x => x
def ce (dA : Nat → ClassId) (ad : Nat → Nat) : va_E → va_E
  | .inl (t, x) => .inl (dA t, ca ad x)
  | .inr (ci, fs) => .inr (ci, fs.map (cv ad))
def okv (w : Wd) : Value → Prop
  | .ref k => domw w k
  | _ => True
def oke (w : Wd) : va_E → Prop
  | .inl (_, (_, .inr (.inr (.inr (.inr f))))) => ∀ i k, f i = some k → domw w k
  | .inl _ => True
  | .inr (_, fs) => ∀ v ∈ fs, okv w v
/-- the heap holds the world -/
def AP (D : va_G) (dA : Nat → ClassId) (ad : Nat → Nat) (w : Wd) (H : Heap) : Prop := ∀ k e, look w k = some e → va_at D classes (ad k, ce dA ad e) H ∧ oke w e
/-- its cells are apart, and of a kind -/
def AD (A : Nat → Prop) (ad : Nat → Nat) (w : Wd) : Prop := (∀ i j e f, look w i = some e → look w j = some f → ad i = ad j → i = j) ∧ ∀ k e, look w k = some e → A (ad k)
def AE (w : Wd) (ad : Nat → Nat) (w' : Wd) (ad' : Nat → Nat) : Prop := ∀ k, domw w k → ad' k = ad k ∧ domw w' k
def AA (ad : Nat → Nat) (w : Wd) (sz : Nat) : Nat → Prop := fun q => (∃ k e, look w k = some e ∧ q = ad k) ∨ sz ≤ q
def tysA (dA : Nat → ClassId) : List (ClassId × FieldType) := [(dA 0, .int), (dA 1, .long), (dA 2, .boolean), (dA 3, .object "BitRings$Sheet")]
def nests : List Cond := [.methodLinkNest R_br 11 M_rg_init.1 R_br, .methodLinkNest R_br 20 M_ri_init.1 R_br, .methodLinkNest R_br 27 M_tr_init.1 R_br, .methodLinkNest R_br 38 M_sh_init.1 R_br, .methodLinkNest R_br 41 M_rr_init.1 R_br]
/-- what is known of the tables -/
def AK (D : va_G) (dA : Nat → ClassId) (s : State) : Prop := va_K D classes (tysA dA) s ∧ va_AO "BitRings$Sheet" s ∧ ∀ w ∈ nests, va_Nw w s
theorem nests_form : ∀ w ∈ nests, ∃ a i x h, w = .methodLinkNest a i x h := by
  intro w hw
  simp only [nests, List.mem_cons, List.not_mem_nil, or_false] at hw
  rcases hw with rfl | rfl | rfl | rfl | rfl <;> exact ⟨_, _, _, _, rfl⟩
theorem AK.warm {D : va_G} {dA : Nat → ClassId} {s U : State} (hW : s.WarmedH U.vm) (h : AK D dA s) : AK D dA U := by
  refine ⟨va_K.moved hW.alike h.1, va_AO.moved hW.alike h.2.1, fun w hw => ?_⟩
  have h3 := h.2.2 w hw
  obtain ⟨a, i, x, hh, rfl⟩ := nests_form w hw
  exact va_Nw.warmM hW h3
theorem AK.same {D : va_G} {dA : Nat → ClassId} {s U : State} (hv : s.vm = U.vm) (h : AK D dA s) : AK D dA U := by
  have ha : s.vm.Alike U.vm := by rw [hv]; exact Vm.Alike.refl _
  refine ⟨va_K.moved ha h.1, va_AO.moved ha h.2.1, fun w hw => ?_⟩
  have h3 := h.2.2 w hw
  obtain ⟨a, i, x, hh, rfl⟩ := nests_form w hw
  exact va_Nw.same rfl hv h3
/-! ### plain facts of worlds -/
theorem getD_set {α : Type} (l : List (List α)) (i j : Nat) (x : List α) (h : i < l.length) : (l.set i x).getD j [] = if i = j then x else l.getD j [] := by
  by_cases e : i = j
  · subst e
    simp [List.getD_eq_getElem?_getD, h]
  · simp [List.getD_eq_getElem?_getD, e, List.getElem?_set_ne]
theorem getD_lt {α : Type} {l : List (List α)} {i j : Nat} {e : α} (h : (l.getD i [])[j]? = some e) : i < l.length := by
  rcases Nat.lt_or_ge i l.length with q | q
  · exact q
  · rw [List.getD_eq_getElem?_getD, List.getElem?_eq_none q] at h
    simp at h
theorem look_updw {w : Wd} {k : Nat} {e0 : va_E} (h : look w k = some e0) (e : va_E) (j : Nat) : look (updw w k e) j = if j = k then some e else look w j := by
  unfold look updw
  have hl : k % 16 < w.length := getD_lt h
  have hl2 : k / 16 < (w.getD (k % 16) []).length := (List.getElem?_eq_some_iff.mp h).1
  rw [getD_set _ _ _ _ hl]
  by_cases hj : j = k
  · subst hj
    rw [if_pos rfl, if_pos rfl, List.getElem?_set_self hl2]
  · rw [if_neg hj]
    by_cases hr : k % 16 = j % 16
    · rw [if_pos hr, List.getElem?_set_ne (by omega), hr]
    · rw [if_neg hr]
theorem look_pushw {w : Wd} {r : Nat} (hr : r < 16) (hl : r < w.length) (e : va_E) (j : Nat) : look (pushw w r e) j = if j = keyw w r then some e else look w j := by
  unfold look pushw keyw
  rw [getD_set _ _ _ _ hl]
  by_cases hj : j = 16 * (w.getD r []).length + r
  · have h1 : j % 16 = r := by omega
    have h2 : j / 16 = (w.getD r []).length := by omega
    rw [if_pos hj, h1, if_pos rfl, h2, List.getElem?_append_right (Nat.le_refl _)]
    simp
  · rw [if_neg hj]
    by_cases hq : r = j % 16
    · rw [if_pos hq]
      have h3 : j / 16 ≠ (w.getD r []).length := by omega
      rcases Nat.lt_or_ge (j / 16) (w.getD r []).length with q | q
      · rw [List.getElem?_append_left q, hq]
      · rw [List.getElem?_append_right q, ← hq, List.getElem?_eq_none (l := w.getD r []) q]
        rw [List.getElem?_eq_none]
        show 1 ≤ _
        omega
    · rw [if_neg hq]
theorem look_key {w : Wd} {r : Nat} (hr : r < 16) : look w (keyw w r) = none := by
  unfold look keyw
  rw [show (16 * (w.getD r []).length + r) % 16 = r by omega, show (16 * (w.getD r []).length + r) / 16 = (w.getD r []).length by omega]
  simp
theorem domw_updw {w : Wd} {k : Nat} {e0 e : va_E} (h : look w k = some e0) {j : Nat} (hj : domw w j) : domw (updw w k e) j := by
  rcases hj with ⟨f, hf⟩ | hj
  · refine Or.inl ?_
    rw [look_updw h]
    by_cases q : j = k
    · rw [if_pos q]; exact ⟨_, rfl⟩
    · rw [if_neg q]; exact ⟨f, hf⟩
  · exact Or.inr hj
theorem domw_pushw {w : Wd} {r : Nat} (hr : r < 16) (hl : r < w.length) {e : va_E} {j : Nat} (hj : domw w j) : domw (pushw w r e) j := by
  rcases hj with ⟨f, hf⟩ | hj
  · refine Or.inl ?_
    rw [look_pushw hr hl]
    by_cases q : j = keyw w r
    · rw [if_pos q]; exact ⟨_, rfl⟩
    · rw [if_neg q]; exact ⟨f, hf⟩
  · exact Or.inr hj
theorem okv_mono {w w' : Wd} (h : ∀ k, domw w k → domw w' k) {v : Value} (hv : okv w v) : okv w' v := by
  cases v <;> first | exact h _ hv | exact True.intro
theorem oke_mono {w w' : Wd} (h : ∀ k, domw w k → domw w' k) {e : va_E} (he : oke w e) : oke w' e := by
  rcases e with ⟨t, n, f | f | f | f | f⟩ | ⟨ci, fs⟩
  · exact True.intro
  · exact True.intro
  · exact True.intro
  · exact True.intro
  · exact fun i k hk => h k (he i k hk)
  · exact fun v hv => okv_mono h (he v hv)
theorem cv_ext {ad ad' : Nat → Nat} {w : Wd} (h : ∀ k, domw w k → ad' k = ad k) {v : Value} (hv : okv w v) : cv ad' v = cv ad v := by
  cases v <;> first | rfl | (show Value.ref _ = Value.ref _; rw [h _ hv])
theorem cv_cat (ad : Nat → Nat) (v : Value) : (cv ad v).category = v.category := by cases v <;> rfl
theorem ce_ext {dA : Nat → ClassId} {ad ad' : Nat → Nat} {w : Wd} (h : ∀ k, domw w k → ad' k = ad k) {e : va_E} (he : oke w e) : ce dA ad' e = ce dA ad e := by
  rcases e with ⟨t, n, f | f | f | f | f⟩ | ⟨ci, fs⟩
  · rfl
  · rfl
  · rfl
  · rfl
  · show Sum.inl (dA t, (n, _)) = Sum.inl (dA t, (n, _))
    have : (fun i => (f i).map ad') = (fun i => (f i).map ad) := by
      funext i
      cases hf : f i with
      | none => rfl
      | some k => show some (ad' k) = some (ad k); rw [h k (he i k hf)]
    rw [this]
  · show Sum.inr (ci, fs.map (cv ad')) = Sum.inr (ci, fs.map (cv ad))
    rw [List.map_congr_left (fun v hv => cv_ext h (he v hv))]
theorem map_ext {ad ad' : Nat → Nat} {w : Wd} (h : ∀ k, domw w k → ad' k = ad k) {st : List Value} (hs : ∀ v ∈ st, okv w v) : st.map (cv ad') = st.map (cv ad) := List.map_congr_left (fun v hv => cv_ext h (hs v hv))
theorem AP.upd {D : va_G} {dA : Nat → ClassId} {ad : Nat → Nat} {w : Wd} {H H1 : Heap} {A : Nat → Prop} (hP : AP D dA ad w H) (hD : AD A ad w) {k : Nat} {e0 e : va_E} (h : look w k = some e0) (he : va_at D classes (ad k, ce dA ad e) H1) (ho : oke w e) (oq : ∀ q : Nat, q ≠ ad k → H1[q]? = H[q]?) : AP D dA ad (updw w k e) H1 := by
  intro j f hf
  rw [look_updw h] at hf
  have hm : ∀ j, domw w j → domw (updw w k e) j := fun j => domw_updw h
  by_cases q : j = k
  · rw [if_pos q] at hf
    cases hf
    subst q
    exact ⟨he, oke_mono hm ho⟩
  · rw [if_neg q] at hf
    obtain ⟨h1, h2⟩ := hP j f hf
    exact ⟨h1.kept (oq _ (fun z => q (hD.1 j k f e0 hf h z))), oke_mono hm h2⟩
theorem AD.upd {ad : Nat → Nat} {w : Wd} {A : Nat → Prop} (hD : AD A ad w) {k : Nat} {e0 e : va_E} (h : look w k = some e0) : AD A ad (updw w k e) := by
  have key : ∀ j f, look (updw w k e) j = some f → ∃ g, look w j = some g := by
    intro j f hf
    rw [look_updw h] at hf
    by_cases q : j = k
    · subst q; exact ⟨e0, h⟩
    · rw [if_neg q] at hf; exact ⟨f, hf⟩
  refine ⟨fun i j a b hi hj hij => ?_, fun j a hj => ?_⟩
  · obtain ⟨a', ha⟩ := key i a hi
    obtain ⟨b', hb⟩ := key j b hj
    exact hD.1 i j a' b' ha hb hij
  · obtain ⟨a', ha⟩ := key j a hj
    exact hD.2 j a' ha
theorem AP.lt {D : va_G} {dA : Nat → ClassId} {ad : Nat → Nat} {w : Wd} {H : Heap} (hP : AP D dA ad w H) {k : Nat} {e : va_E} (h : look w k = some e) : ad k < H.size := (hP k e h).1.lt
/-- a new cell at the heap's end -/
def adn (ad : Nat → Nat) (k q : Nat) : Nat → Nat := fun j => if j = k then q else ad j
theorem adn_dom {ad : Nat → Nat} {w : Wd} {r q : Nat} (hr : r < 16) (h8 : r ≠ 8) {j : Nat} (hj : domw w j) : adn ad (keyw w r) q j = ad j := by
  unfold adn
  rw [if_neg]
  rintro rfl
  rcases hj with ⟨e, he⟩ | hj
  · rw [look_key hr] at he; cases he
  · unfold keyw at hj; omega
theorem adn_self {ad : Nat → Nat} {k q : Nat} : adn ad k q k = q := if_pos rfl
theorem AP.push {D : va_G} {dA : Nat → ClassId} {ad : Nat → Nat} {w : Wd} {H H1 : Heap} (hP : AP D dA ad w H) {r : Nat} (hr : r < 16) (h8 : r ≠ 8) (hl : r < w.length) {e : va_E} (he : va_at D classes (H.size, ce dA ad e) H1) (ho : oke w e) (oq : ∀ q : Nat, q < H.size → H1[q]? = H[q]?) : AP D dA (adn ad (keyw w r) H.size) (pushw w r e) H1 := by
  have hm : ∀ j, domw w j → domw (pushw w r e) j := fun j => domw_pushw hr hl
  have hx : ∀ j, domw w j → adn ad (keyw w r) H.size j = ad j := fun j => adn_dom hr h8
  intro j f hf
  rw [look_pushw hr hl] at hf
  by_cases q : j = keyw w r
  · rw [if_pos q] at hf
    cases hf
    subst q
    rw [adn_self, ce_ext hx ho]
    exact ⟨he, oke_mono hm ho⟩
  · rw [if_neg q] at hf
    obtain ⟨h1, h2⟩ := hP j f hf
    rw [hx j (Or.inl ⟨f, hf⟩), ce_ext hx h2]
    exact ⟨h1.kept (oq _ h1.lt), oke_mono hm h2⟩
theorem AD.push {D : va_G} {dA : Nat → ClassId} {ad : Nat → Nat} {w : Wd} {H : Heap} {A : Nat → Prop} (hD : AD A ad w) (hP : AP D dA ad w H) {r : Nat} (hr : r < 16) (h8 : r ≠ 8) (hl : r < w.length) {e : va_E} (hA : A H.size) : AD A (adn ad (keyw w r) H.size) (pushw w r e) := by
  have hx : ∀ j, domw w j → adn ad (keyw w r) H.size j = ad j := fun j => adn_dom hr h8
  have key : ∀ j f, look (pushw w r e) j = some f → (j = keyw w r ∧ adn ad (keyw w r) H.size j = H.size) ∨ (∃ g, look w j = some g ∧ adn ad (keyw w r) H.size j = ad j ∧ ad j < H.size) := by
    intro j f hf
    rw [look_pushw hr hl] at hf
    by_cases q : j = keyw w r
    · exact Or.inl ⟨q, by rw [q, adn_self]⟩
    · rw [if_neg q] at hf
      exact Or.inr ⟨f, hf, hx j (Or.inl ⟨f, hf⟩), hP.lt hf⟩
  refine ⟨fun i j a b hi hj hij => ?_, fun j a hj => ?_⟩
  · rcases key i a hi with ⟨i1, i2⟩ | ⟨g, i1, i2, i3⟩ <;> rcases key j b hj with ⟨j1, j2⟩ | ⟨g', j1, j2, j3⟩
    · rw [i1, j1]
    · omega
    · omega
    · exact hD.1 i j g g' i1 j1 (by rw [← i2, ← j2]; exact hij)
  · rcases key j a hj with ⟨i1, i2⟩ | ⟨g, i1, i2, i3⟩
    · rw [i2]; exact hA
    · rw [i2]; exact hD.2 j g i1
theorem AE.rf (w : Wd) (ad : Nat → Nat) : AE w ad w ad := fun _ h => ⟨rfl, h⟩
theorem AE.trans {w0 w w' : Wd} {ad0 ad ad' : Nat → Nat} (h1 : AE w0 ad0 w ad) (h2 : AE w ad w' ad') : AE w0 ad0 w' ad' := fun k hk => by
  obtain ⟨a1, a2⟩ := h1 k hk
  obtain ⟨b1, b2⟩ := h2 k a2
  exact ⟨b1.trans a1, b2⟩
theorem AE.upd {w : Wd} {ad : Nat → Nat} {k : Nat} {e0 e : va_E} (h : look w k = some e0) : AE w ad (updw w k e) ad := fun _ hj => ⟨rfl, domw_updw h hj⟩
theorem AE.push {w : Wd} {ad : Nat → Nat} {r q : Nat} {e : va_E} (hr : r < 16) (h8 : r ≠ 8) (hl : r < w.length) : AE w ad (pushw w r e) (adn ad (keyw w r) q) := fun _ hj => ⟨adn_dom hr h8 hj, domw_pushw hr hl hj⟩
