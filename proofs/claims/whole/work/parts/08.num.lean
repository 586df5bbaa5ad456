/-! ### rules in plain numbers -/
abbrev nF (b : Nat → Nat) : Nat → Int32 := fun k => nI (b k)
abbrev lF (b : Nat → Nat) : Nat → Int64 := fun k => lN (b k)
theorem nF_upd (b : Nat → Nat) (k x : Nat) : upd (nF b) k (nI x) = nF (va_up b k x) := by
  funext j
  unfold upd nF va_up
  by_cases h : j = k
  · rw [if_pos h, if_pos h]
  · rw [if_neg h, if_neg h]
theorem lF_upd (b : Nat → Nat) (k x : Nat) : vp_updL (lF b) k (lN x) = lF (va_up b k x) := by
  funext j
  unfold vp_updL lF va_up
  by_cases h : j = k
  · rw [if_pos h, if_pos h]
  · rw [if_neg h, if_neg h]
theorem vu_at {α : Type} (f : Nat → α) (k : Nat) (v : α) : va_up f k v k = v := if_pos rfl
theorem vu_ne {α : Type} {f : Nat → α} {k j : Nat} {v : α} (h : j ≠ k) : va_up f k v j = f j := if_neg h
theorem sm31 : ∀ n, n < 32 → ((nI n &&& 31).toBitVec.smod 32).toNat = n := by decide
theorem nI_shl {x k : Nat} (hk : k < 32) (h : x * 2 ^ k < 2 ^ 32) : nI x <<< (nI k &&& 31) = nI (x * 2 ^ k) := pk_shlN _ k (sm31 k hk) h
theorem nI_shr {x k : Nat} (hx : x < 2 ^ 31) (hk : k < 32) : nI x >>> (nI k &&& 31) = nI (x / 2 ^ k) := pk_shrN hx _ k (sm31 k hk)
theorem uu31 : ∀ n, n < 32 → (((nI n).toUInt32 &&& Int32.toUInt32 31).toBitVec % 32).toNat = n := by decide
theorem nI_ushr {x k : Nat} (hx : x < 2 ^ 32) (hk : k < 32) : ((nI x).toUInt32 >>> ((nI k).toUInt32 &&& Int32.toUInt32 31)).toInt32 = nI (x / 2 ^ k) := pk_ushrN hx _ k (uu31 k hk)
theorem nI_lt0 {x : Nat} (h : x < 2 ^ 31) : ¬ nI x < 0 := nI_pos h
section Num
variable {mi : MI} {Ψ : Pst} {Z : Zt} {MC MS : Nat} {pc pc' tgt : Nat} {L : List (Nat × Value)} {st : List Value} {w : Wd} {nc ns : Nat} {x y : Nat}
theorem aw_iaddN (d : Dc mi pc .iadd 1 pc') (k : AW mi Ψ Z MC MS pc' L (.int (nI (x + y)) :: st) w nc ns) : AW mi Ψ Z MC MS pc L (.int (nI y) :: .int (nI x) :: st) w nc ns := aw_iadd d (by rw [nI_add]; exact k)
theorem aw_isubN (d : Dc mi pc .isub 1 pc') (h : y ≤ x) (k : AW mi Ψ Z MC MS pc' L (.int (nI (x - y)) :: st) w nc ns) : AW mi Ψ Z MC MS pc L (.int (nI y) :: .int (nI x) :: st) w nc ns := aw_isub d (by rw [pk_sub h]; exact k)
theorem aw_imulN (d : Dc mi pc .imul 1 pc') (k : AW mi Ψ Z MC MS pc' L (.int (nI (x * y)) :: st) w nc ns) : AW mi Ψ Z MC MS pc L (.int (nI y) :: .int (nI x) :: st) w nc ns := aw_imul d (by rw [pk_mul]; exact k)
theorem aw_idivN (d : Dc mi pc .idiv 1 pc') (h0 : 0 < y) (h1 : x < 2 ^ 31) (h2 : y < 2 ^ 31) (k : AW mi Ψ Z MC MS pc' L (.int (nI (x / y)) :: st) w nc ns) : AW mi Ψ Z MC MS pc L (.int (nI y) :: .int (nI x) :: st) w nc ns := aw_idiv d (nI_ne0 h0 h2) (by rw [pk_div h1 h0 h2]; exact k)
theorem aw_iremN (d : Dc mi pc .irem 1 pc') (h0 : 0 < y) (h1 : x < 2 ^ 31) (h2 : y < 2 ^ 31) (k : AW mi Ψ Z MC MS pc' L (.int (nI (x % y)) :: st) w nc ns) : AW mi Ψ Z MC MS pc L (.int (nI y) :: .int (nI x) :: st) w nc ns := aw_irem d (nI_ne0 h0 h2) (by rw [pk_rem h1 h0 h2]; exact k)
theorem aw_iandN (d : Dc mi pc .iand 1 pc') (k : AW mi Ψ Z MC MS pc' L (.int (nI (x &&& y)) :: st) w nc ns) : AW mi Ψ Z MC MS pc L (.int (nI y) :: .int (nI x) :: st) w nc ns := aw_iand d (by rw [fa_and]; exact k)
theorem aw_iorN (d : Dc mi pc .ior 1 pc') (k : AW mi Ψ Z MC MS pc' L (.int (nI (x ||| y)) :: st) w nc ns) : AW mi Ψ Z MC MS pc L (.int (nI y) :: .int (nI x) :: st) w nc ns := aw_ior d (by rw [fa_or]; exact k)
theorem aw_ixorN (d : Dc mi pc .ixor 1 pc') (k : AW mi Ψ Z MC MS pc' L (.int (nI (x ^^^ y)) :: st) w nc ns) : AW mi Ψ Z MC MS pc L (.int (nI y) :: .int (nI x) :: st) w nc ns := aw_ixor d (by rw [fb_xorI]; exact k)
theorem aw_ishlN (d : Dc mi pc .ishl 1 pc') (hk : y < 32) (h : x * 2 ^ y < 2 ^ 32) (k : AW mi Ψ Z MC MS pc' L (.int (nI (x * 2 ^ y)) :: st) w nc ns) : AW mi Ψ Z MC MS pc L (.int (nI y) :: .int (nI x) :: st) w nc ns := aw_ishl d (by rw [nI_shl hk h]; exact k)
theorem aw_ishrN (d : Dc mi pc .ishr 1 pc') (hk : y < 32) (h : x < 2 ^ 31) (k : AW mi Ψ Z MC MS pc' L (.int (nI (x / 2 ^ y)) :: st) w nc ns) : AW mi Ψ Z MC MS pc L (.int (nI y) :: .int (nI x) :: st) w nc ns := aw_ishr d (by rw [nI_shr h hk]; exact k)
theorem aw_i2lN (d : Dc mi pc .i2l 1 pc') (h : x < 2 ^ 31) (k : AW mi Ψ Z MC MS pc' L (.long (lN x) :: st) w nc ns) : AW mi Ψ Z MC MS pc L (.int (nI x) :: st) w nc ns := aw_i2l d (by rw [nI_l h]; exact k)
theorem aw_l2iN (d : Dc mi pc .l2i 1 pc') (k : AW mi Ψ Z MC MS pc' L (.int (nI x) :: st) w nc ns) : AW mi Ψ Z MC MS pc L (.long (lN x) :: st) w nc ns := aw_l2i d (by rw [lN_i]; exact k)
theorem aw_laddN (d : Dc mi pc .ladd 1 pc') (k : AW mi Ψ Z MC MS pc' L (.long (lN (x + y)) :: st) w nc ns) : AW mi Ψ Z MC MS pc L (.long (lN y) :: .long (lN x) :: st) w nc ns := aw_ladd d (by rw [lN_add]; exact k)
theorem aw_lsubN (d : Dc mi pc .lsub 1 pc') (h : y ≤ x) (k : AW mi Ψ Z MC MS pc' L (.long (lN (x - y)) :: st) w nc ns) : AW mi Ψ Z MC MS pc L (.long (lN y) :: .long (lN x) :: st) w nc ns := aw_lsub d (by rw [lN_sub h]; exact k)
theorem aw_lmulN (d : Dc mi pc .lmul 1 pc') (k : AW mi Ψ Z MC MS pc' L (.long (lN (x * y)) :: st) w nc ns) : AW mi Ψ Z MC MS pc L (.long (lN y) :: .long (lN x) :: st) w nc ns := aw_lmul d (by rw [lN_mul]; exact k)
theorem lN_ne0 {n : Nat} (h0 : 0 < n) (h : n < 2 ^ 63) : ¬ lN n = 0 := fun e => by
  have := (pk_lEQ h (by omega : 0 < 2 ^ 63)).mp (e.trans (show (0 : Int64) = lN 0 by decide))
  omega
theorem aw_lremN (d : Dc mi pc .lrem 1 pc') (h0 : 0 < y) (h1 : x < 2 ^ 63) (h2 : y < 2 ^ 63) (k : AW mi Ψ Z MC MS pc' L (.long (lN (x % y)) :: st) w nc ns) : AW mi Ψ Z MC MS pc L (.long (lN y) :: .long (lN x) :: st) w nc ns := aw_lrem d (lN_ne0 h0 h2) (by rw [pk_lRem h1 h0 h2]; exact k)
theorem aw_incN {i : Nat} (d : Dc mi pc (.iinc i 1) 3 pc') (hl : lk L i = some (.int (nI x))) (hn : i < mi.2.2.1) (hok : lsok L i false = true) (k : AW mi Ψ Z MC MS pc' (lset L i (.int (nI (x + 1)))) st w nc ns) : AW mi Ψ Z MC MS pc L st w nc ns := aw_inc d hl hn hok (by rw [nI_add]; exact k)
theorem aw_decN {i : Nat} (d : Dc mi pc (.iinc i (-1)) 3 pc') (hl : lk L i = some (.int (nI x))) (h : 0 < x) (hn : i < mi.2.2.1) (hok : lsok L i false = true) (k : AW mi Ψ Z MC MS pc' (lset L i (.int (nI (x - 1)))) st w nc ns) : AW mi Ψ Z MC MS pc L st w nc ns := aw_dec d hl hn hok (by rw [pk_sub h]; exact k)
theorem aw_inc2N {i : Nat} (d : Dc mi pc (.iinc i 2) 3 pc') (hl : lk L i = some (.int (nI x))) (hn : i < mi.2.2.1) (hok : lsok L i false = true) (k : AW mi Ψ Z MC MS pc' (lset L i (.int (nI (x + 2)))) st w nc ns) : AW mi Ψ Z MC MS pc L st w nc ns := aw_iinc _ d hl (show nI x + Int32.ofInt 2 = nI (x + 2) by rw [show Int32.ofInt 2 = nI 2 by decide, nI_add]) hn hok k
theorem aw_inc6N {i : Nat} (d : Dc mi pc (.iinc i 6) 3 pc') (hl : lk L i = some (.int (nI x))) (hn : i < mi.2.2.1) (hok : lsok L i false = true) (k : AW mi Ψ Z MC MS pc' (lset L i (.int (nI (x + 6)))) st w nc ns) : AW mi Ψ Z MC MS pc L st w nc ns := aw_iinc _ d hl (show nI x + Int32.ofInt 6 = nI (x + 6) by rw [show Int32.ofInt 6 = nI 6 by decide, nI_add]) hn hok k
theorem aw_if_eqN (d : Dj mi pc (.ifCond .eq) pc' tgt) (h : x < 2 ^ 31) (kt : x = 0 → AW mi Ψ Z MC MS tgt L st w nc ns) (kf : 0 < x → AW mi Ψ Z MC MS pc' L st w nc ns) : AW mi Ψ Z MC MS pc L (.int (nI x) :: st) w nc ns := aw_if_eq d (fun c => kt ((nI_eq h (by omega)).mp (c.trans nI_0.symm))) (fun c => kf (Nat.pos_of_ne_zero fun e => c (by rw [e]; exact nI_0)))
theorem aw_if_neN (d : Dj mi pc (.ifCond .ne) pc' tgt) (h : x < 2 ^ 31) (kt : 0 < x → AW mi Ψ Z MC MS tgt L st w nc ns) (kf : x = 0 → AW mi Ψ Z MC MS pc' L st w nc ns) : AW mi Ψ Z MC MS pc L (.int (nI x) :: st) w nc ns := aw_if_ne d (fun c => kt (Nat.pos_of_ne_zero fun e => c (by rw [e]; exact nI_0))) (fun c => kf ((nI_eq h (by omega)).mp (c.trans nI_0.symm)))
theorem aw_if_ltN (d : Dj mi pc (.ifCond .lt) pc' tgt) (h : x < 2 ^ 31) (kf : AW mi Ψ Z MC MS pc' L st w nc ns) : AW mi Ψ Z MC MS pc L (.int (nI x) :: st) w nc ns := aw_if_lt d (fun c => absurd c (nI_pos h)) (fun _ => kf)
theorem aw_if_geN (d : Dj mi pc (.ifCond .ge) pc' tgt) (h : x < 2 ^ 31) (kt : AW mi Ψ Z MC MS tgt L st w nc ns) : AW mi Ψ Z MC MS pc L (.int (nI x) :: st) w nc ns := aw_if_ge d (fun _ => kt) (fun c => absurd (nI_pos' h) c)
theorem aw_if_gtN (d : Dj mi pc (.ifCond .gt) pc' tgt) (h : x < 2 ^ 31) (kt : 0 < x → AW mi Ψ Z MC MS tgt L st w nc ns) (kf : x = 0 → AW mi Ψ Z MC MS pc' L st w nc ns) : AW mi Ψ Z MC MS pc L (.int (nI x) :: st) w nc ns := aw_if_gt d (fun c => kt ((nI_ltI (by omega) h).mp (by rw [nI_0]; exact c))) (fun c => kf (Nat.eq_zero_of_not_pos fun e => c (by rw [← nI_0]; exact (nI_ltI (by omega) h).mpr e)))
theorem aw_if_leN (d : Dj mi pc (.ifCond .le) pc' tgt) (h : x < 2 ^ 31) (kt : x = 0 → AW mi Ψ Z MC MS tgt L st w nc ns) (kf : 0 < x → AW mi Ψ Z MC MS pc' L st w nc ns) : AW mi Ψ Z MC MS pc L (.int (nI x) :: st) w nc ns := aw_if_le d (fun c => kt (Nat.eq_zero_of_not_pos fun e => nI_nle e h c)) (fun c => kf (Nat.pos_of_ne_zero fun e => c (by rw [e, nI_0]; exact Int32.le_refl 0)))
theorem aw_icmp_eqN (d : Dj mi pc (.if_icmp .eq) pc' tgt) (hx : x < 2 ^ 31) (hy : y < 2 ^ 31) (kt : x = y → AW mi Ψ Z MC MS tgt L st w nc ns) (kf : x ≠ y → AW mi Ψ Z MC MS pc' L st w nc ns) : AW mi Ψ Z MC MS pc L (.int (nI y) :: .int (nI x) :: st) w nc ns := aw_icmp_eq d (fun c => kt ((nI_eq hx hy).mp c)) (fun c => kf (fun e => c ((nI_eq hx hy).mpr e)))
theorem aw_icmp_neN (d : Dj mi pc (.if_icmp .ne) pc' tgt) (hx : x < 2 ^ 31) (hy : y < 2 ^ 31) (kt : x ≠ y → AW mi Ψ Z MC MS tgt L st w nc ns) (kf : x = y → AW mi Ψ Z MC MS pc' L st w nc ns) : AW mi Ψ Z MC MS pc L (.int (nI y) :: .int (nI x) :: st) w nc ns := aw_icmp_ne d (fun c => kt (fun e => c ((nI_eq hx hy).mpr e))) (fun c => kf ((nI_eq hx hy).mp c))
theorem aw_icmp_ltN (d : Dj mi pc (.if_icmp .lt) pc' tgt) (hx : x < 2 ^ 31) (hy : y < 2 ^ 31) (kt : x < y → AW mi Ψ Z MC MS tgt L st w nc ns) (kf : y ≤ x → AW mi Ψ Z MC MS pc' L st w nc ns) : AW mi Ψ Z MC MS pc L (.int (nI y) :: .int (nI x) :: st) w nc ns := aw_icmp_lt d (fun c => kt ((nI_ltI hx hy).mp c)) (fun c => kf (Nat.le_of_not_lt fun e => c ((nI_ltI hx hy).mpr e)))
theorem aw_icmp_geN (d : Dj mi pc (.if_icmp .ge) pc' tgt) (hx : x < 2 ^ 31) (hy : y < 2 ^ 31) (kt : y ≤ x → AW mi Ψ Z MC MS tgt L st w nc ns) (kf : x < y → AW mi Ψ Z MC MS pc' L st w nc ns) : AW mi Ψ Z MC MS pc L (.int (nI y) :: .int (nI x) :: st) w nc ns := aw_icmp_ge d (fun c => kt ((nI_leI hy hx).mp c)) (fun c => kf (Nat.lt_of_not_le fun e => c ((nI_leI hy hx).mpr e)))
theorem aw_icmp_gtN (d : Dj mi pc (.if_icmp .gt) pc' tgt) (hx : x < 2 ^ 31) (hy : y < 2 ^ 31) (kt : y < x → AW mi Ψ Z MC MS tgt L st w nc ns) (kf : x ≤ y → AW mi Ψ Z MC MS pc' L st w nc ns) : AW mi Ψ Z MC MS pc L (.int (nI y) :: .int (nI x) :: st) w nc ns := aw_icmp_gt d (fun c => kt ((nI_ltI hy hx).mp c)) (fun c => kf (Nat.le_of_not_lt fun e => c ((nI_ltI hy hx).mpr e)))
theorem aw_icmp_leN (d : Dj mi pc (.if_icmp .le) pc' tgt) (hx : x < 2 ^ 31) (hy : y < 2 ^ 31) (kt : x ≤ y → AW mi Ψ Z MC MS tgt L st w nc ns) (kf : y < x → AW mi Ψ Z MC MS pc' L st w nc ns) : AW mi Ψ Z MC MS pc L (.int (nI y) :: .int (nI x) :: st) w nc ns := aw_icmp_le d (fun c => kt ((nI_leI hx hy).mp c)) (fun c => kf (Nat.lt_of_not_le fun e => c ((nI_leI hx hy).mpr e)))
theorem aw_ialdN {q n j : Nat} {f : Nat → Int32} (d : Dc mi pc .iaload 1 pc') (hq : look w q = some (.inl (0, n, .inl f))) (hj : j < n) (hn : n < 2 ^ 31) (kk : AW mi Ψ Z MC MS pc' L (.int (f j) :: st) w nc ns) : AW mi Ψ Z MC MS pc L (.int (nI j) :: .ref q :: st) w nc ns := aw_iald d hq (vp_in_nI hj hn) (by rw [nI_clamp (by omega)]; exact kk)
theorem aw_zaldN {q n j : Nat} {f : Nat → Int32} (d : Dc mi pc .baload 1 pc') (hq : look w q = some (.inl (2, n, .inl f))) (hj : j < n) (hn : n < 2 ^ 31) (kk : AW mi Ψ Z MC MS pc' L (.int (f j) :: st) w nc ns) : AW mi Ψ Z MC MS pc L (.int (nI j) :: .ref q :: st) w nc ns := aw_zald d hq (vp_in_nI hj hn) (by rw [nI_clamp (by omega)]; exact kk)
theorem aw_laldN {q n j : Nat} {f : Nat → Int64} (d : Dc mi pc .laload 1 pc') (hq : look w q = some (.inl (1, n, .inr (.inl f)))) (hj : j < n) (hn : n < 2 ^ 31) (kk : AW mi Ψ Z MC MS pc' L (.long (f j) :: st) w nc ns) : AW mi Ψ Z MC MS pc L (.int (nI j) :: .ref q :: st) w nc ns := aw_lald d hq (vp_in_nI hj hn) (by rw [nI_clamp (by omega)]; exact kk)
theorem aw_aaldN {q n j k : Nat} {f : Nat → Option Nat} (d : Dc mi pc .aaload 1 pc') (hq : look w q = some (.inl (3, n, .inr (.inr (.inr (.inr f)))))) (hj : j < n) (hn : n < 2 ^ 31) (hk : f j = some k) (kk : AW mi Ψ Z MC MS pc' L (.ref k :: st) w nc ns) : AW mi Ψ Z MC MS pc L (.int (nI j) :: .ref q :: st) w nc ns := aw_aald d hq (vp_in_nI hj hn) (by rw [nI_clamp (by omega)]; exact hk) kk
theorem aw_iastN {q n j v : Nat} {b : Nat → Nat} (d : Dc mi pc .iastore 1 pc') (hq : look w q = some (.inl (0, n, .inl (nF b)))) (hj : j < n) (hn : n < 2 ^ 31) (kk : AW mi Ψ Z MC MS pc' L st (updw w q (.inl (0, n, .inl (nF (va_up b j v))))) nc ns) : AW mi Ψ Z MC MS pc L (.int (nI v) :: .int (nI j) :: .ref q :: st) w nc ns := aw_iast d hq (vp_in_nI hj hn) (by rw [nI_clamp (by omega), nF_upd]; exact kk)
theorem aw_iastJ {q n j : Nat} {v : Int32} {f : Nat → Int32} (d : Dc mi pc .iastore 1 pc') (hq : look w q = some (.inl (0, n, .inl f))) (hj : j < n) (hn : n < 2 ^ 31) (kk : AW mi Ψ Z MC MS pc' L st (updw w q (.inl (0, n, .inl (upd f j v)))) nc ns) : AW mi Ψ Z MC MS pc L (.int v :: .int (nI j) :: .ref q :: st) w nc ns := aw_iast d hq (vp_in_nI hj hn) (by rw [nI_clamp (by omega)]; exact kk)
theorem aw_zastN {q n j v : Nat} {b : Nat → Nat} (d : Dc mi pc .bastore 1 pc') (hq : look w q = some (.inl (2, n, .inl (nF b)))) (hj : j < n) (hn : n < 2 ^ 31) (hv : vp_nar .boolean (nI v) = nI v) (kk : AW mi Ψ Z MC MS pc' L st (updw w q (.inl (2, n, .inl (nF (va_up b j v))))) nc ns) : AW mi Ψ Z MC MS pc L (.int (nI v) :: .int (nI j) :: .ref q :: st) w nc ns := aw_zast d hq (vp_in_nI hj hn) hv (by rw [nI_clamp (by omega), nF_upd]; exact kk)
theorem aw_lastN {q n j v : Nat} {b : Nat → Nat} (d : Dc mi pc .lastore 1 pc') (hq : look w q = some (.inl (1, n, .inr (.inl (lF b))))) (hj : j < n) (hn : n < 2 ^ 31) (kk : AW mi Ψ Z MC MS pc' L st (updw w q (.inl (1, n, .inr (.inl (lF (va_up b j v)))))) nc ns) : AW mi Ψ Z MC MS pc L (.long (lN v) :: .int (nI j) :: .ref q :: st) w nc ns := aw_last d hq (vp_in_nI hj hn) (by rw [nI_clamp (by omega), lF_upd]; exact kk)
theorem aw_lastJ {q n j : Nat} {v : Int64} {f : Nat → Int64} (d : Dc mi pc .lastore 1 pc') (hq : look w q = some (.inl (1, n, .inr (.inl f)))) (hj : j < n) (hn : n < 2 ^ 31) (kk : AW mi Ψ Z MC MS pc' L st (updw w q (.inl (1, n, .inr (.inl (vp_updL f j v))))) nc ns) : AW mi Ψ Z MC MS pc L (.long v :: .int (nI j) :: .ref q :: st) w nc ns := aw_last d hq (vp_in_nI hj hn) (by rw [nI_clamp (by omega)]; exact kk)
end Num
theorem updw_same {w : Wd} {q : Nat} {e : va_E} (hq : look w q = some e) : updw w q e = w := by
  unfold updw
  have : (w.getD (q % 16) []).set (q / 16) e = w.getD (q % 16) [] := by
    apply List.ext_getElem?
    intro j
    by_cases e : q / 16 = j
    · subst e
      rw [List.getElem?_set_self (List.getElem?_eq_some_iff.mp hq).1]
      exact hq.symm
    · rw [List.getElem?_set_ne e]
  rw [this]
  apply List.ext_getElem?
  intro j
  by_cases e : q % 16 = j
  · subst e
    have hl := getD_lt hq
    rw [List.getElem?_set_self hl, List.getD_eq_getElem?_getD, List.getElem?_eq_getElem hl]
    rfl
  · rw [List.getElem?_set_ne e]
theorem updw_twice {w : Wd} {q : Nat} {e0 e e' : va_E} (hq : look w q = some e0) : updw (updw w q e) q e' = updw w q e' := by
  unfold updw
  rw [getD_set _ _ _ _ (getD_lt hq), if_pos rfl, List.set_set, List.set_set]
theorem fill_up {α : Type} (x : α) (f : Nat → α) (i : Nat) : va_up (fun j => if j < i then x else f j) i x = fun j => if j < i + 1 then x else f j := by
  funext j
  unfold va_up
  by_cases e : j = i
  · rw [if_pos e, if_pos (by omega)]
  · rw [if_neg e]
    show (if j < i then x else f j) = _
    by_cases e2 : j < i
    · rw [if_pos e2, if_pos (by omega)]
    · rw [if_neg e2, if_neg (by omega)]
theorem upd_va (f : Nat → Int32) (k : Nat) (x : Int32) : upd f k x = va_up f k x := rfl
theorem updL_va (f : Nat → Int64) (k : Nat) (x : Int64) : vp_updL f k x = va_up f k x := rfl
section MaxMin
variable {mi : MI} {Ψ : Pst} {Z : Zt} {MC MS : Nat} {pc pc' : Nat} {L : List (Nat × Value)} {rest : List Value} {w : Wd} {nc ns : Nat}
theorem w_max1 : Cond.static Lib.Math.max.name ∈ gtb := by decide +kernel
theorem w_max2 : Cond.code Lib.Math.max.name Lib.Math.max.code 2 (some .int) ∈ gtb := by decide +kernel
theorem w_min1 : Cond.static Lib.Math.min.name ∈ gtb := by decide +kernel
theorem w_min2 : Cond.code Lib.Math.min.name Lib.Math.min.code 2 (some .int) ∈ gtb := by decide +kernel
theorem w_math : Cond.initialized "java/lang/Math" ∈ gtb := by decide +kernel
theorem aw_max {x y : Int32} (d : DcS mi M_jm_max pc pc') (hcat : (rest.map fun v => v.category).sum ≤ 8) (kk : AW mi Ψ Z MC MS pc' L (.int (if x < y then y else x) :: rest) w nc ns) : AW mi Ψ Z MC MS pc L (.int y :: .int x :: rest) w nc ns := by
  obtain ⟨idx, d, rfl, hlink, hf1, hf2⟩ := d
  intro l p e s m args below meth c Q D dA A w0 ad0 C R ad H locs ls h
  have hts := C.2.2.2.2.2.1
  refine va_mmax C.1 C.2.1 (C.2.2.2.1.trans h.2.2.2.2.2.1.1.symm) C.2.2.2.2.1 (hts _ hlink) (hts _ w_max1) (hts _ w_math) (hts _ w_max2) (Nat.le_trans (by show 1 ≤ 0 + 1; omega) hf1) ?_ h.2.2.2.2.2.2.2.2.1 h.2.2.2.2.2.2.2.2.2 d ?_
  · rw [show (rest.map (cv ad)).map (fun v => v.category) = rest.map (fun v => v.category) by rw [List.map_map]; exact List.map_congr_left (fun v _ => cv_cat ad v)]
    have h2 : 8 + (2 + 11) + 0 ≤ mi.2.2.2.2.2 := hf2
    show _ ≤ mi.2.2.2.2.2
    omega
  · exact kk l p e s m args below meth c Q D dA A w0 ad0 C R ad H locs ls ⟨h.1, h.2.1, h.2.2.1, h.2.2.2.1, h.2.2.2.2.1, h.2.2.2.2.2.1, h.2.2.2.2.2.2.1, ok01 okI (ok1 (ok1 h.2.2.2.2.2.2.2.1)), h.2.2.2.2.2.2.2.2⟩
theorem aw_min {x y : Int32} (d : DcS mi M_jm_min pc pc') (hcat : (rest.map fun v => v.category).sum ≤ 8) (kk : AW mi Ψ Z MC MS pc' L (.int (if y < x then y else x) :: rest) w nc ns) : AW mi Ψ Z MC MS pc L (.int y :: .int x :: rest) w nc ns := by
  obtain ⟨idx, d, rfl, hlink, hf1, hf2⟩ := d
  intro l p e s m args below meth c Q D dA A w0 ad0 C R ad H locs ls h
  have hts := C.2.2.2.2.2.1
  refine va_mmin C.1 C.2.1 (C.2.2.2.1.trans h.2.2.2.2.2.1.1.symm) C.2.2.2.2.1 (hts _ hlink) (hts _ w_min1) (hts _ w_math) (hts _ w_min2) (Nat.le_trans (by show 1 ≤ 0 + 1; omega) hf1) ?_ h.2.2.2.2.2.2.2.2.1 h.2.2.2.2.2.2.2.2.2 d ?_
  · rw [show (rest.map (cv ad)).map (fun v => v.category) = rest.map (fun v => v.category) by rw [List.map_map]; exact List.map_congr_left (fun v _ => cv_cat ad v)]
    have h2 : 8 + (2 + 11) + 0 ≤ mi.2.2.2.2.2 := hf2
    show _ ≤ mi.2.2.2.2.2
    omega
  · exact kk l p e s m args below meth c Q D dA A w0 ad0 C R ad H locs ls ⟨h.1, h.2.1, h.2.2.1, h.2.2.2.1, h.2.2.2.2.1, h.2.2.2.2.2.1, h.2.2.2.2.2.2.1, ok01 okI (ok1 (ok1 h.2.2.2.2.2.2.2.1)), h.2.2.2.2.2.2.2.2⟩
theorem aw_maxN {x y : Nat} (d : DcS mi M_jm_max pc pc') (hx : x < 2 ^ 31) (hy : y < 2 ^ 31) (hcat : (rest.map fun v => v.category).sum ≤ 8) (kk : AW mi Ψ Z MC MS pc' L (.int (nI (max x y)) :: rest) w nc ns) : AW mi Ψ Z MC MS pc L (.int (nI y) :: .int (nI x) :: rest) w nc ns := aw_max d hcat (by
  rw [show (if nI x < nI y then nI y else nI x) = nI (max x y) by
    by_cases h : x < y
    · rw [if_pos ((nI_ltI hx hy).mpr h), Nat.max_eq_right (Nat.le_of_lt h)]
    · rw [if_neg (fun e => h ((nI_ltI hx hy).mp e)), Nat.max_eq_left (by omega)]]
  exact kk)
theorem aw_minN {x y : Nat} (d : DcS mi M_jm_min pc pc') (hx : x < 2 ^ 31) (hy : y < 2 ^ 31) (hcat : (rest.map fun v => v.category).sum ≤ 8) (kk : AW mi Ψ Z MC MS pc' L (.int (nI (min x y)) :: rest) w nc ns) : AW mi Ψ Z MC MS pc L (.int (nI y) :: .int (nI x) :: rest) w nc ns := aw_min d hcat (by
  rw [show (if nI y < nI x then nI y else nI x) = nI (min x y) by
    by_cases h : y < x
    · rw [if_pos ((nI_ltI hy hx).mpr h), Nat.min_eq_right (Nat.le_of_lt h)]
    · rw [if_neg (fun e => h ((nI_ltI hy hx).mp e)), Nat.min_eq_left (by omega)]]
  exact kk)
end MaxMin
