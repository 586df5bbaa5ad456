/-! ### a rule for each instruction (by program: wip/whole/genrules.py) -/
section Rules
variable {mi : MI} {Ψ : Pst} {Z : Zt} {MC MS : Nat} {pc pc' tgt : Nat} {L : List (Nat × Value)} {st st' : List Value} {w : Wd} {nc ns : Nat}
theorem aw_st (hst : (∀ v ∈ st, okv w v) → ∀ v ∈ st', okv w v)
    (hw : ∀ (l : Launch) (p : Program) (e : Env) (s : State) (m : MethodId) (args : Array Value) (below : List Frame) (meth : Method) (c : Code) (H : Heap) (locs : List Loc) (Q : State → Prop) (ls : Array Slot) (ad : Nat → Nat), p.tables.exec = Jvm.exec → c.code = mi.2.1 →
      W p l e (rmOf mi MC MS) s m args below meth c H locs nc ns Q (F0 m pc' ls (st'.map (cv ad))) → W p l e (rmOf mi MC MS) s m args below meth c H locs nc ns Q (F0 m pc ls (st.map (cv ad))))
    (k : AW mi Ψ Z MC MS pc' L st' w nc ns) : AW mi Ψ Z MC MS pc L st w nc ns := by
  intro l p e s m args below meth c Q D dA A w0 ad0 C R ad H locs ls h
  obtain ⟨h1, h2, h3, h4, h5, h6, h7, h8, h9, h10⟩ := h
  exact hw l p e s m args below meth c H locs Q ls ad C.1 C.2.1 (k l p e s m args below meth c Q D dA A w0 ad0 C R ad H locs ls ⟨h1, h2, h3, h4, h5, h6, h7, hst h8, h9, h10⟩)
theorem ok01 {a : Value} (ha : okv w a) (h : ∀ v ∈ st, okv w v) : ∀ v ∈ a :: st, okv w v := List.forall_mem_cons.mpr ⟨ha, h⟩
theorem okI {x : Int32} : okv w (.int x) := True.intro
theorem okL {x : Int64} : okv w (.long x) := True.intro
theorem ok1 {a : Value} (h : ∀ v ∈ a :: st, okv w v) : ∀ v ∈ st, okv w v := (List.forall_mem_cons.mp h).2
theorem ok1a {a : Value} (h : ∀ v ∈ a :: st, okv w v) : okv w a := (List.forall_mem_cons.mp h).1
theorem aw_iadd {x y : Int32} (d : Dc mi pc .iadd 1 pc') (k : AW mi Ψ Z MC MS pc' L (.int (x + y) :: st) w nc ns) : AW mi Ψ Z MC MS pc L (.int y :: .int x :: st) w nc ns := by
  obtain ⟨d, rfl⟩ := d
  exact aw_st (fun h => ok01 okI (ok1 (ok1 h))) (fun _ _ _ _ _ _ _ _ _ _ _ _ _ _ hx hb kk => lv_iadd hx hb d kk) k
theorem aw_isub {x y : Int32} (d : Dc mi pc .isub 1 pc') (k : AW mi Ψ Z MC MS pc' L (.int (x - y) :: st) w nc ns) : AW mi Ψ Z MC MS pc L (.int y :: .int x :: st) w nc ns := by
  obtain ⟨d, rfl⟩ := d
  exact aw_st (fun h => ok01 okI (ok1 (ok1 h))) (fun _ _ _ _ _ _ _ _ _ _ _ _ _ _ hx hb kk => lv_isub hx hb d kk) k
theorem aw_imul {x y : Int32} (d : Dc mi pc .imul 1 pc') (k : AW mi Ψ Z MC MS pc' L (.int (x * y) :: st) w nc ns) : AW mi Ψ Z MC MS pc L (.int y :: .int x :: st) w nc ns := by
  obtain ⟨d, rfl⟩ := d
  exact aw_st (fun h => ok01 okI (ok1 (ok1 h))) (fun _ _ _ _ _ _ _ _ _ _ _ _ _ _ hx hb kk => lv_imul hx hb d kk) k
theorem aw_iand {x y : Int32} (d : Dc mi pc .iand 1 pc') (k : AW mi Ψ Z MC MS pc' L (.int (x &&& y) :: st) w nc ns) : AW mi Ψ Z MC MS pc L (.int y :: .int x :: st) w nc ns := by
  obtain ⟨d, rfl⟩ := d
  exact aw_st (fun h => ok01 okI (ok1 (ok1 h))) (fun _ _ _ _ _ _ _ _ _ _ _ _ _ _ hx hb kk => lv_iand hx hb d kk) k
theorem aw_ior {x y : Int32} (d : Dc mi pc .ior 1 pc') (k : AW mi Ψ Z MC MS pc' L (.int (x ||| y) :: st) w nc ns) : AW mi Ψ Z MC MS pc L (.int y :: .int x :: st) w nc ns := by
  obtain ⟨d, rfl⟩ := d
  exact aw_st (fun h => ok01 okI (ok1 (ok1 h))) (fun _ _ _ _ _ _ _ _ _ _ _ _ _ _ hx hb kk => lv_ior hx hb d kk) k
theorem aw_ixor {x y : Int32} (d : Dc mi pc .ixor 1 pc') (k : AW mi Ψ Z MC MS pc' L (.int (x ^^^ y) :: st) w nc ns) : AW mi Ψ Z MC MS pc L (.int y :: .int x :: st) w nc ns := by
  obtain ⟨d, rfl⟩ := d
  exact aw_st (fun h => ok01 okI (ok1 (ok1 h))) (fun _ _ _ _ _ _ _ _ _ _ _ _ _ _ hx hb kk => lv_ixor hx hb d kk) k
theorem aw_ishl {x y : Int32} (d : Dc mi pc .ishl 1 pc') (k : AW mi Ψ Z MC MS pc' L (.int (x <<< (y &&& 31)) :: st) w nc ns) : AW mi Ψ Z MC MS pc L (.int y :: .int x :: st) w nc ns := by
  obtain ⟨d, rfl⟩ := d
  exact aw_st (fun h => ok01 okI (ok1 (ok1 h))) (fun _ _ _ _ _ _ _ _ _ _ _ _ _ _ hx hb kk => lv_ishl hx hb d kk) k
theorem aw_ishr {x y : Int32} (d : Dc mi pc .ishr 1 pc') (k : AW mi Ψ Z MC MS pc' L (.int (x >>> (y &&& 31)) :: st) w nc ns) : AW mi Ψ Z MC MS pc L (.int y :: .int x :: st) w nc ns := by
  obtain ⟨d, rfl⟩ := d
  exact aw_st (fun h => ok01 okI (ok1 (ok1 h))) (fun _ _ _ _ _ _ _ _ _ _ _ _ _ _ hx hb kk => lv_ishr hx hb d kk) k
theorem aw_idiv {x y : Int32} (d : Dc mi pc .idiv 1 pc') (hne : ¬ y = 0) (k : AW mi Ψ Z MC MS pc' L (.int (x / y) :: st) w nc ns) : AW mi Ψ Z MC MS pc L (.int y :: .int x :: st) w nc ns := by
  obtain ⟨d, rfl⟩ := d
  exact aw_st (fun h => ok01 okI (ok1 (ok1 h))) (fun _ _ _ _ _ _ _ _ _ _ _ _ _ _ hx hb kk => lv_idiv hx hb d hne kk) k
theorem aw_irem {x y : Int32} (d : Dc mi pc .irem 1 pc') (hne : ¬ y = 0) (k : AW mi Ψ Z MC MS pc' L (.int (x - x / y * y) :: st) w nc ns) : AW mi Ψ Z MC MS pc L (.int y :: .int x :: st) w nc ns := by
  obtain ⟨d, rfl⟩ := d
  exact aw_st (fun h => ok01 okI (ok1 (ok1 h))) (fun _ _ _ _ _ _ _ _ _ _ _ _ _ _ hx hb kk => lv_irem hx hb d hne kk) k
theorem aw_iushr {x y : Int32} (d : Dc mi pc .iushr 1 pc') (k : AW mi Ψ Z MC MS pc' L (.int ((x.toUInt32 >>> (y.toUInt32 &&& Int32.toUInt32 31)).toInt32) :: st) w nc ns) : AW mi Ψ Z MC MS pc L (.int y :: .int x :: st) w nc ns := by
  obtain ⟨d, rfl⟩ := d
  exact aw_st (fun h => ok01 okI (ok1 (ok1 h))) (fun _ _ _ _ _ _ _ _ _ _ _ _ _ _ hx hb kk => lv_iushr hx hb d rfl kk) k
theorem aw_ladd {x y : Int64} (d : Dc mi pc .ladd 1 pc') (k : AW mi Ψ Z MC MS pc' L (.long (x + y) :: st) w nc ns) : AW mi Ψ Z MC MS pc L (.long y :: .long x :: st) w nc ns := by
  obtain ⟨d, rfl⟩ := d
  exact aw_st (fun h => ok01 okL (ok1 (ok1 h))) (fun _ _ _ _ _ _ _ _ _ _ _ _ _ _ hx hb kk => lv_ladd hx hb d kk) k
theorem aw_lsub {x y : Int64} (d : Dc mi pc .lsub 1 pc') (k : AW mi Ψ Z MC MS pc' L (.long (x - y) :: st) w nc ns) : AW mi Ψ Z MC MS pc L (.long y :: .long x :: st) w nc ns := by
  obtain ⟨d, rfl⟩ := d
  exact aw_st (fun h => ok01 okL (ok1 (ok1 h))) (fun _ _ _ _ _ _ _ _ _ _ _ _ _ _ hx hb kk => lv_lsub hx hb d kk) k
theorem aw_lmul {x y : Int64} (d : Dc mi pc .lmul 1 pc') (k : AW mi Ψ Z MC MS pc' L (.long (x * y) :: st) w nc ns) : AW mi Ψ Z MC MS pc L (.long y :: .long x :: st) w nc ns := by
  obtain ⟨d, rfl⟩ := d
  exact aw_st (fun h => ok01 okL (ok1 (ok1 h))) (fun _ _ _ _ _ _ _ _ _ _ _ _ _ _ hx hb kk => lv_lmul hx hb d kk) k
theorem aw_land {x y : Int64} (d : Dc mi pc .land 1 pc') (k : AW mi Ψ Z MC MS pc' L (.long (x &&& y) :: st) w nc ns) : AW mi Ψ Z MC MS pc L (.long y :: .long x :: st) w nc ns := by
  obtain ⟨d, rfl⟩ := d
  exact aw_st (fun h => ok01 okL (ok1 (ok1 h))) (fun _ _ _ _ _ _ _ _ _ _ _ _ _ _ hx hb kk => lv_land hx hb d kk) k
theorem aw_lor {x y : Int64} (d : Dc mi pc .lor 1 pc') (k : AW mi Ψ Z MC MS pc' L (.long (x ||| y) :: st) w nc ns) : AW mi Ψ Z MC MS pc L (.long y :: .long x :: st) w nc ns := by
  obtain ⟨d, rfl⟩ := d
  exact aw_st (fun h => ok01 okL (ok1 (ok1 h))) (fun _ _ _ _ _ _ _ _ _ _ _ _ _ _ hx hb kk => lv_lor hx hb d kk) k
theorem aw_lxor {x y : Int64} (d : Dc mi pc .lxor 1 pc') (k : AW mi Ψ Z MC MS pc' L (.long (x ^^^ y) :: st) w nc ns) : AW mi Ψ Z MC MS pc L (.long y :: .long x :: st) w nc ns := by
  obtain ⟨d, rfl⟩ := d
  exact aw_st (fun h => ok01 okL (ok1 (ok1 h))) (fun _ _ _ _ _ _ _ _ _ _ _ _ _ _ hx hb kk => lv_lxor hx hb d kk) k
theorem aw_lrem {x y : Int64} (d : Dc mi pc .lrem 1 pc') (hne : ¬ y = 0) (k : AW mi Ψ Z MC MS pc' L (.long (x - x / y * y) :: st) w nc ns) : AW mi Ψ Z MC MS pc L (.long y :: .long x :: st) w nc ns := by
  obtain ⟨d, rfl⟩ := d
  exact aw_st (fun h => ok01 okL (ok1 (ok1 h))) (fun _ _ _ _ _ _ _ _ _ _ _ _ _ _ hx hb kk => lv_lrem hx hb d hne kk) k
theorem aw_ldiv {x y : Int64} (d : Dc mi pc .ldiv 1 pc') (hne : ¬ y = 0) (k : AW mi Ψ Z MC MS pc' L (.long (x / y) :: st) w nc ns) : AW mi Ψ Z MC MS pc L (.long y :: .long x :: st) w nc ns := by
  obtain ⟨d, rfl⟩ := d
  exact aw_st (fun h => ok01 okL (ok1 (ok1 h))) (fun _ _ _ _ _ _ _ _ _ _ _ _ _ _ hx hb kk => lv_ldiv hx hb d hne kk) k
theorem aw_lshl {x : Int64} {y : Int32} (d : Dc mi pc .lshl 1 pc') (k : AW mi Ψ Z MC MS pc' L (.long (x <<< (y.toInt64 &&& 63)) :: st) w nc ns) : AW mi Ψ Z MC MS pc L (.int y :: .long x :: st) w nc ns := by
  obtain ⟨d, rfl⟩ := d
  exact aw_st (fun h => ok01 okL (ok1 (ok1 h))) (fun _ _ _ _ _ _ _ _ _ _ _ _ _ _ hx hb kk => lv_lshl hx hb d rfl kk) k
theorem aw_lushr {x : Int64} {y : Int32} (d : Dc mi pc .lushr 1 pc') (k : AW mi Ψ Z MC MS pc' L (.long ((x.toUInt64 >>> (y.toInt64.toUInt64 &&& Int64.toUInt64 63)).toInt64) :: st) w nc ns) : AW mi Ψ Z MC MS pc L (.int y :: .long x :: st) w nc ns := by
  obtain ⟨d, rfl⟩ := d
  exact aw_st (fun h => ok01 okL (ok1 (ok1 h))) (fun _ _ _ _ _ _ _ _ _ _ _ _ _ _ hx hb kk => lv_lushr hx hb d rfl kk) k
theorem aw_i2l {x : Int32} (d : Dc mi pc .i2l 1 pc') (k : AW mi Ψ Z MC MS pc' L (.long (x.toInt64) :: st) w nc ns) : AW mi Ψ Z MC MS pc L (.int x :: st) w nc ns := by
  obtain ⟨d, rfl⟩ := d
  exact aw_st (fun h => ok01 okL (ok1 h)) (fun _ _ _ _ _ _ _ _ _ _ _ _ _ _ hx hb kk => lv_i2l hx hb d rfl kk) k
theorem aw_l2i {x : Int64} (d : Dc mi pc .l2i 1 pc') (k : AW mi Ψ Z MC MS pc' L (.int (x.toInt32) :: st) w nc ns) : AW mi Ψ Z MC MS pc L (.long x :: st) w nc ns := by
  obtain ⟨d, rfl⟩ := d
  exact aw_st (fun h => ok01 okI (ok1 h)) (fun _ _ _ _ _ _ _ _ _ _ _ _ _ _ hx hb kk => lv_l2i hx hb d rfl kk) k
theorem aw_i2b {x : Int32} (d : Dc mi pc .i2b 1 pc') (k : AW mi Ψ Z MC MS pc' L (.int (x.toInt8.toInt32) :: st) w nc ns) : AW mi Ψ Z MC MS pc L (.int x :: st) w nc ns := by
  obtain ⟨d, rfl⟩ := d
  exact aw_st (fun h => ok01 okI (ok1 h)) (fun _ _ _ _ _ _ _ _ _ _ _ _ _ _ hx hb kk => lv_i2b hx hb d rfl kk) k
theorem aw_lcmp {x y : Int64} (d : Dc mi pc .lcmp 1 pc') (k : AW mi Ψ Z MC MS pc' L (.int (lg_cmp x y) :: st) w nc ns) : AW mi Ψ Z MC MS pc L (.long y :: .long x :: st) w nc ns := by
  obtain ⟨d, rfl⟩ := d
  exact aw_st (fun h => ok01 okI (ok1 (ok1 h))) (fun _ _ _ _ _ _ _ _ _ _ _ _ _ _ hx hb kk => W.lcmp hx hb d kk) k
theorem aw_iconst (v : Int32) {n : Int} (d : Dc mi pc (.iconst n) 1 pc') (hv : Int32.ofInt n = v) (k : AW mi Ψ Z MC MS pc' L (.int v :: st) w nc ns) : AW mi Ψ Z MC MS pc L st w nc ns := by
  obtain ⟨d, rfl⟩ := d
  exact aw_st (fun h => ok01 okI h) (fun _ _ _ _ _ _ _ _ _ _ _ _ _ _ hx hb kk => lv_iconst hx hb d hv kk) k
theorem aw_bipush (v : Int32) {n : Int} (d : Dc mi pc (.bipush n) 2 pc') (hv : (Int8.ofInt n).toInt32 = v) (k : AW mi Ψ Z MC MS pc' L (.int v :: st) w nc ns) : AW mi Ψ Z MC MS pc L st w nc ns := by
  obtain ⟨d, rfl⟩ := d
  exact aw_st (fun h => ok01 okI h) (fun _ _ _ _ _ _ _ _ _ _ _ _ _ _ hx hb kk => lv_bipush hx hb d hv kk) k
theorem aw_sipush (v : Int32) {n : Int} (d : Dc mi pc (.sipush n) 3 pc') (hv : (Int16.ofInt n).toInt32 = v) (k : AW mi Ψ Z MC MS pc' L (.int v :: st) w nc ns) : AW mi Ψ Z MC MS pc L st w nc ns := by
  obtain ⟨d, rfl⟩ := d
  exact aw_st (fun h => ok01 okI h) (fun _ _ _ _ _ _ _ _ _ _ _ _ _ _ hx hb kk => lv_sipush hx hb d hv kk) k
theorem aw_lconst (v : Int64) {n : Fin 2} (d : Dc mi pc (.lconst n) 1 pc') (hv : Int64.ofNat (n : Nat) = v) (k : AW mi Ψ Z MC MS pc' L (.long v :: st) w nc ns) : AW mi Ψ Z MC MS pc L st w nc ns := by
  obtain ⟨d, rfl⟩ := d
  exact aw_st (fun h => ok01 okL h) (fun _ _ _ _ _ _ _ _ _ _ _ _ _ _ hx hb kk => lv_lconst hx hb d hv kk) k
theorem aw_dup {a : Value} (d : Dc mi pc .dup 1 pc') (ha : a.category = 1) (k : AW mi Ψ Z MC MS pc' L (a :: a :: st) w nc ns) : AW mi Ψ Z MC MS pc L (a :: st) w nc ns := by
  obtain ⟨d, rfl⟩ := d
  exact aw_st (fun h => ok01 (ok1a h) h) (fun _ _ _ _ _ _ _ _ _ _ _ _ _ ad hx hb kk => lv_dup hx hb d (by rw [cv_cat]; exact ha) kk) k
theorem aw_pop {a : Value} (d : Dc mi pc .pop 1 pc') (ha : a.category = 1) (k : AW mi Ψ Z MC MS pc' L st w nc ns) : AW mi Ψ Z MC MS pc L (a :: st) w nc ns := by
  obtain ⟨d, rfl⟩ := d
  exact aw_st (fun h => ok1 h) (fun _ _ _ _ _ _ _ _ _ _ _ _ _ ad hx hb kk => lv_pop hx hb d (by rw [cv_cat]; exact ha) kk) k
theorem aw_dup2_11 {a b : Value} (d : Dc mi pc .dup2 1 pc') (ha : a.category = 1) (hb' : b.category = 1) (k : AW mi Ψ Z MC MS pc' L (a :: b :: a :: b :: st) w nc ns) : AW mi Ψ Z MC MS pc L (a :: b :: st) w nc ns := by
  obtain ⟨d, rfl⟩ := d
  exact aw_st (fun h => ok01 (ok1a h) (ok01 (ok1a (ok1 h)) h)) (fun _ _ _ _ _ _ _ _ _ _ _ _ _ ad hx hb kk => lv_dup2_11 hx hb d (by rw [cv_cat]; exact ha) (by rw [cv_cat]; exact hb') kk) k
theorem aw_ldc {v : Int32} (d : Dk mi pc pc' v) (k : AW mi Ψ Z MC MS pc' L (.int v :: st) w nc ns) : AW mi Ψ Z MC MS pc L st w nc ns := by
  obtain ⟨idx, d, hk⟩ := d
  intro l p e s m args below meth c Q D dA A w0 ad0 C R ad H locs ls h
  have kk := k l p e s m args below meth c Q D dA A w0 ad0 C R ad H locs ls ⟨h.1, h.2.1, h.2.2.1, h.2.2.2.1, h.2.2.2.2.1, h.2.2.2.2.2.1, h.2.2.2.2.2.2.1, ok01 True.intro h.2.2.2.2.2.2.2.1, h.2.2.2.2.2.2.2.2⟩
  rcases d with ⟨d, rfl⟩ | ⟨d, rfl⟩
  · exact lv_ldc C.1 C.2.1 C.2.2.2.2.1 (C.2.2.2.2.2.1 _ hk) d kk
  · exact lv_ldcw C.1 C.2.1 C.2.2.2.2.1 (C.2.2.2.2.2.1 _ hk) d kk
theorem aw_ldc2 {v : Int64} (d : Dl mi pc pc' v) (k : AW mi Ψ Z MC MS pc' L (.long v :: st) w nc ns) : AW mi Ψ Z MC MS pc L st w nc ns := by
  obtain ⟨idx, d, rfl, hk⟩ := d
  intro l p e s m args below meth c Q D dA A w0 ad0 C R ad H locs ls h
  exact lv_ldc2 C.1 C.2.1 C.2.2.2.2.1 (C.2.2.2.2.2.1 _ hk) d (k l p e s m args below meth c Q D dA A w0 ad0 C R ad H locs ls ⟨h.1, h.2.1, h.2.2.1, h.2.2.2.1, h.2.2.2.2.1, h.2.2.2.2.2.1, h.2.2.2.2.2.2.1, ok01 True.intro h.2.2.2.2.2.2.2.1, h.2.2.2.2.2.2.2.2⟩)
theorem aw_if_eq {x : Int32} (d : Dj mi pc (.ifCond .eq) pc' tgt) (kt : x = 0 → AW mi Ψ Z MC MS tgt L st w nc ns) (kf : ¬ x = 0 → AW mi Ψ Z MC MS pc' L st w nc ns) : AW mi Ψ Z MC MS pc L (.int x :: st) w nc ns := by
  obtain ⟨off, d, rfl, ht⟩ := d
  intro l p e s m args below meth c Q D dA A w0 ad0 C R ad H locs ls h
  have h' : SR mi Ψ MC MS s D dA A w0 ad0 ad H locs ls L st w nc ns := ⟨h.1, h.2.1, h.2.2.1, h.2.2.2.1, h.2.2.2.2.1, h.2.2.2.2.2.1, h.2.2.2.2.2.2.1, ok1 h.2.2.2.2.2.2.2.1, h.2.2.2.2.2.2.2.2⟩
  exact lv_if_eq C.1 C.2.1 d ht (fun q => kt q l p e s m args below meth c Q D dA A w0 ad0 C R ad H locs ls h') (fun q => kf q l p e s m args below meth c Q D dA A w0 ad0 C R ad H locs ls h')
theorem aw_icmp_eq {x y : Int32} (d : Dj mi pc (.if_icmp .eq) pc' tgt) (kt : x = y → AW mi Ψ Z MC MS tgt L st w nc ns) (kf : ¬ x = y → AW mi Ψ Z MC MS pc' L st w nc ns) : AW mi Ψ Z MC MS pc L (.int y :: .int x :: st) w nc ns := by
  obtain ⟨off, d, rfl, ht⟩ := d
  intro l p e s m args below meth c Q D dA A w0 ad0 C R ad H locs ls h
  have h' : SR mi Ψ MC MS s D dA A w0 ad0 ad H locs ls L st w nc ns := ⟨h.1, h.2.1, h.2.2.1, h.2.2.2.1, h.2.2.2.2.1, h.2.2.2.2.2.1, h.2.2.2.2.2.2.1, ok1 (ok1 h.2.2.2.2.2.2.2.1), h.2.2.2.2.2.2.2.2⟩
  exact lv_icmp_eq C.1 C.2.1 d ht (fun q => kt q l p e s m args below meth c Q D dA A w0 ad0 C R ad H locs ls h') (fun q => kf q l p e s m args below meth c Q D dA A w0 ad0 C R ad H locs ls h')
theorem aw_if_ne {x : Int32} (d : Dj mi pc (.ifCond .ne) pc' tgt) (kt : ¬ x = 0 → AW mi Ψ Z MC MS tgt L st w nc ns) (kf : x = 0 → AW mi Ψ Z MC MS pc' L st w nc ns) : AW mi Ψ Z MC MS pc L (.int x :: st) w nc ns := by
  obtain ⟨off, d, rfl, ht⟩ := d
  intro l p e s m args below meth c Q D dA A w0 ad0 C R ad H locs ls h
  have h' : SR mi Ψ MC MS s D dA A w0 ad0 ad H locs ls L st w nc ns := ⟨h.1, h.2.1, h.2.2.1, h.2.2.2.1, h.2.2.2.2.1, h.2.2.2.2.2.1, h.2.2.2.2.2.2.1, ok1 h.2.2.2.2.2.2.2.1, h.2.2.2.2.2.2.2.2⟩
  exact lv_if_ne C.1 C.2.1 d ht (fun q => kt q l p e s m args below meth c Q D dA A w0 ad0 C R ad H locs ls h') (fun q => kf q l p e s m args below meth c Q D dA A w0 ad0 C R ad H locs ls h')
theorem aw_icmp_ne {x y : Int32} (d : Dj mi pc (.if_icmp .ne) pc' tgt) (kt : ¬ x = y → AW mi Ψ Z MC MS tgt L st w nc ns) (kf : x = y → AW mi Ψ Z MC MS pc' L st w nc ns) : AW mi Ψ Z MC MS pc L (.int y :: .int x :: st) w nc ns := by
  obtain ⟨off, d, rfl, ht⟩ := d
  intro l p e s m args below meth c Q D dA A w0 ad0 C R ad H locs ls h
  have h' : SR mi Ψ MC MS s D dA A w0 ad0 ad H locs ls L st w nc ns := ⟨h.1, h.2.1, h.2.2.1, h.2.2.2.1, h.2.2.2.2.1, h.2.2.2.2.2.1, h.2.2.2.2.2.2.1, ok1 (ok1 h.2.2.2.2.2.2.2.1), h.2.2.2.2.2.2.2.2⟩
  exact lv_icmp_ne C.1 C.2.1 d ht (fun q => kt q l p e s m args below meth c Q D dA A w0 ad0 C R ad H locs ls h') (fun q => kf q l p e s m args below meth c Q D dA A w0 ad0 C R ad H locs ls h')
theorem aw_if_lt {x : Int32} (d : Dj mi pc (.ifCond .lt) pc' tgt) (kt : x < 0 → AW mi Ψ Z MC MS tgt L st w nc ns) (kf : ¬ x < 0 → AW mi Ψ Z MC MS pc' L st w nc ns) : AW mi Ψ Z MC MS pc L (.int x :: st) w nc ns := by
  obtain ⟨off, d, rfl, ht⟩ := d
  intro l p e s m args below meth c Q D dA A w0 ad0 C R ad H locs ls h
  have h' : SR mi Ψ MC MS s D dA A w0 ad0 ad H locs ls L st w nc ns := ⟨h.1, h.2.1, h.2.2.1, h.2.2.2.1, h.2.2.2.2.1, h.2.2.2.2.2.1, h.2.2.2.2.2.2.1, ok1 h.2.2.2.2.2.2.2.1, h.2.2.2.2.2.2.2.2⟩
  exact lv_if_lt C.1 C.2.1 d ht (fun q => kt q l p e s m args below meth c Q D dA A w0 ad0 C R ad H locs ls h') (fun q => kf q l p e s m args below meth c Q D dA A w0 ad0 C R ad H locs ls h')
theorem aw_icmp_lt {x y : Int32} (d : Dj mi pc (.if_icmp .lt) pc' tgt) (kt : x < y → AW mi Ψ Z MC MS tgt L st w nc ns) (kf : ¬ x < y → AW mi Ψ Z MC MS pc' L st w nc ns) : AW mi Ψ Z MC MS pc L (.int y :: .int x :: st) w nc ns := by
  obtain ⟨off, d, rfl, ht⟩ := d
  intro l p e s m args below meth c Q D dA A w0 ad0 C R ad H locs ls h
  have h' : SR mi Ψ MC MS s D dA A w0 ad0 ad H locs ls L st w nc ns := ⟨h.1, h.2.1, h.2.2.1, h.2.2.2.1, h.2.2.2.2.1, h.2.2.2.2.2.1, h.2.2.2.2.2.2.1, ok1 (ok1 h.2.2.2.2.2.2.2.1), h.2.2.2.2.2.2.2.2⟩
  exact lv_icmp_lt C.1 C.2.1 d ht (fun q => kt q l p e s m args below meth c Q D dA A w0 ad0 C R ad H locs ls h') (fun q => kf q l p e s m args below meth c Q D dA A w0 ad0 C R ad H locs ls h')
theorem aw_if_ge {x : Int32} (d : Dj mi pc (.ifCond .ge) pc' tgt) (kt : 0 ≤ x → AW mi Ψ Z MC MS tgt L st w nc ns) (kf : ¬ 0 ≤ x → AW mi Ψ Z MC MS pc' L st w nc ns) : AW mi Ψ Z MC MS pc L (.int x :: st) w nc ns := by
  obtain ⟨off, d, rfl, ht⟩ := d
  intro l p e s m args below meth c Q D dA A w0 ad0 C R ad H locs ls h
  have h' : SR mi Ψ MC MS s D dA A w0 ad0 ad H locs ls L st w nc ns := ⟨h.1, h.2.1, h.2.2.1, h.2.2.2.1, h.2.2.2.2.1, h.2.2.2.2.2.1, h.2.2.2.2.2.2.1, ok1 h.2.2.2.2.2.2.2.1, h.2.2.2.2.2.2.2.2⟩
  exact lv_if_ge C.1 C.2.1 d ht (fun q => kt q l p e s m args below meth c Q D dA A w0 ad0 C R ad H locs ls h') (fun q => kf q l p e s m args below meth c Q D dA A w0 ad0 C R ad H locs ls h')
theorem aw_icmp_ge {x y : Int32} (d : Dj mi pc (.if_icmp .ge) pc' tgt) (kt : y ≤ x → AW mi Ψ Z MC MS tgt L st w nc ns) (kf : ¬ y ≤ x → AW mi Ψ Z MC MS pc' L st w nc ns) : AW mi Ψ Z MC MS pc L (.int y :: .int x :: st) w nc ns := by
  obtain ⟨off, d, rfl, ht⟩ := d
  intro l p e s m args below meth c Q D dA A w0 ad0 C R ad H locs ls h
  have h' : SR mi Ψ MC MS s D dA A w0 ad0 ad H locs ls L st w nc ns := ⟨h.1, h.2.1, h.2.2.1, h.2.2.2.1, h.2.2.2.2.1, h.2.2.2.2.2.1, h.2.2.2.2.2.2.1, ok1 (ok1 h.2.2.2.2.2.2.2.1), h.2.2.2.2.2.2.2.2⟩
  exact lv_icmp_ge C.1 C.2.1 d ht (fun q => kt q l p e s m args below meth c Q D dA A w0 ad0 C R ad H locs ls h') (fun q => kf q l p e s m args below meth c Q D dA A w0 ad0 C R ad H locs ls h')
theorem aw_if_gt {x : Int32} (d : Dj mi pc (.ifCond .gt) pc' tgt) (kt : 0 < x → AW mi Ψ Z MC MS tgt L st w nc ns) (kf : ¬ 0 < x → AW mi Ψ Z MC MS pc' L st w nc ns) : AW mi Ψ Z MC MS pc L (.int x :: st) w nc ns := by
  obtain ⟨off, d, rfl, ht⟩ := d
  intro l p e s m args below meth c Q D dA A w0 ad0 C R ad H locs ls h
  have h' : SR mi Ψ MC MS s D dA A w0 ad0 ad H locs ls L st w nc ns := ⟨h.1, h.2.1, h.2.2.1, h.2.2.2.1, h.2.2.2.2.1, h.2.2.2.2.2.1, h.2.2.2.2.2.2.1, ok1 h.2.2.2.2.2.2.2.1, h.2.2.2.2.2.2.2.2⟩
  exact lv_if_gt C.1 C.2.1 d ht (fun q => kt q l p e s m args below meth c Q D dA A w0 ad0 C R ad H locs ls h') (fun q => kf q l p e s m args below meth c Q D dA A w0 ad0 C R ad H locs ls h')
theorem aw_icmp_gt {x y : Int32} (d : Dj mi pc (.if_icmp .gt) pc' tgt) (kt : y < x → AW mi Ψ Z MC MS tgt L st w nc ns) (kf : ¬ y < x → AW mi Ψ Z MC MS pc' L st w nc ns) : AW mi Ψ Z MC MS pc L (.int y :: .int x :: st) w nc ns := by
  obtain ⟨off, d, rfl, ht⟩ := d
  intro l p e s m args below meth c Q D dA A w0 ad0 C R ad H locs ls h
  have h' : SR mi Ψ MC MS s D dA A w0 ad0 ad H locs ls L st w nc ns := ⟨h.1, h.2.1, h.2.2.1, h.2.2.2.1, h.2.2.2.2.1, h.2.2.2.2.2.1, h.2.2.2.2.2.2.1, ok1 (ok1 h.2.2.2.2.2.2.2.1), h.2.2.2.2.2.2.2.2⟩
  exact lv_icmp_gt C.1 C.2.1 d ht (fun q => kt q l p e s m args below meth c Q D dA A w0 ad0 C R ad H locs ls h') (fun q => kf q l p e s m args below meth c Q D dA A w0 ad0 C R ad H locs ls h')
theorem aw_if_le {x : Int32} (d : Dj mi pc (.ifCond .le) pc' tgt) (kt : x ≤ 0 → AW mi Ψ Z MC MS tgt L st w nc ns) (kf : ¬ x ≤ 0 → AW mi Ψ Z MC MS pc' L st w nc ns) : AW mi Ψ Z MC MS pc L (.int x :: st) w nc ns := by
  obtain ⟨off, d, rfl, ht⟩ := d
  intro l p e s m args below meth c Q D dA A w0 ad0 C R ad H locs ls h
  have h' : SR mi Ψ MC MS s D dA A w0 ad0 ad H locs ls L st w nc ns := ⟨h.1, h.2.1, h.2.2.1, h.2.2.2.1, h.2.2.2.2.1, h.2.2.2.2.2.1, h.2.2.2.2.2.2.1, ok1 h.2.2.2.2.2.2.2.1, h.2.2.2.2.2.2.2.2⟩
  exact lv_if_le C.1 C.2.1 d ht (fun q => kt q l p e s m args below meth c Q D dA A w0 ad0 C R ad H locs ls h') (fun q => kf q l p e s m args below meth c Q D dA A w0 ad0 C R ad H locs ls h')
theorem aw_icmp_le {x y : Int32} (d : Dj mi pc (.if_icmp .le) pc' tgt) (kt : x ≤ y → AW mi Ψ Z MC MS tgt L st w nc ns) (kf : ¬ x ≤ y → AW mi Ψ Z MC MS pc' L st w nc ns) : AW mi Ψ Z MC MS pc L (.int y :: .int x :: st) w nc ns := by
  obtain ⟨off, d, rfl, ht⟩ := d
  intro l p e s m args below meth c Q D dA A w0 ad0 C R ad H locs ls h
  have h' : SR mi Ψ MC MS s D dA A w0 ad0 ad H locs ls L st w nc ns := ⟨h.1, h.2.1, h.2.2.1, h.2.2.2.1, h.2.2.2.2.1, h.2.2.2.2.2.1, h.2.2.2.2.2.2.1, ok1 (ok1 h.2.2.2.2.2.2.2.1), h.2.2.2.2.2.2.2.2⟩
  exact lv_icmp_le C.1 C.2.1 d ht (fun q => kt q l p e s m args below meth c Q D dA A w0 ad0 C R ad H locs ls h') (fun q => kf q l p e s m args below meth c Q D dA A w0 ad0 C R ad H locs ls h')
theorem aw_goto (d : Dj mi pc .goto pc' tgt) (k : AW mi Ψ Z MC MS tgt L st w nc ns) : AW mi Ψ Z MC MS pc L st w nc ns := by
  obtain ⟨off, d, rfl, ht⟩ := d
  intro l p e s m args below meth c Q D dA A w0 ad0 C R ad H locs ls h
  exact lv_goto C.1 C.2.1 d ht (k l p e s m args below meth c Q D dA A w0 ad0 C R ad H locs ls h)
theorem aw_tableOut {dflt lo hi : Int} {offs : Array Int} {n : Nat} {x : Int32} (d : Dc mi pc (.tableswitch dflt lo hi offs) n pc') (h : x.toInt < lo ∨ hi < x.toInt) (ht : (pc : Int) + dflt = (tgt : Int)) (k : AW mi Ψ Z MC MS tgt L st w nc ns) : AW mi Ψ Z MC MS pc L (.int x :: st) w nc ns := by
  obtain ⟨d, -⟩ := d
  exact aw_st (fun h => ok1 h) (fun _ _ _ _ _ _ _ _ _ _ _ _ _ _ hx hb kk => lv_tableOut hx hb d h ht kk) k
theorem aw_tableIn {dflt lo hi : Int} {offs : Array Int} {n : Nat} {x : Int32} {off : Int} (d : Dc mi pc (.tableswitch dflt lo hi offs) n pc') (h1 : ¬ x.toInt < lo) (h2 : ¬ hi < x.toInt) (ho : offs[(x.toInt - lo).toNat]? = some off) (ht : (pc : Int) + off = (tgt : Int)) (k : AW mi Ψ Z MC MS tgt L st w nc ns) : AW mi Ψ Z MC MS pc L (.int x :: st) w nc ns := by
  obtain ⟨d, -⟩ := d
  exact aw_st (fun h => ok1 h) (fun _ _ _ _ _ _ _ _ _ _ _ _ _ _ hx hb kk => lv_tableIn hx hb d h1 h2 ho ht kk) k
theorem aw_lookup {dflt : Int} {ps : Array (Int × Int)} {n : Nat} {x : Int32} {off : Int} (d : Dc mi pc (.lookupswitch dflt ps) n pc') (hp : (ps.toList.zip (ps.toList.drop 1)).all (fun (a, next) => a.1 < next.1) = true) (ho : Op.lookupswitch.offset ps.toList dflt x.toInt = off) (ht : (pc : Int) + off = (tgt : Int)) (k : AW mi Ψ Z MC MS tgt L st w nc ns) : AW mi Ψ Z MC MS pc L (.int x :: st) w nc ns := by
  obtain ⟨d, -⟩ := d
  exact aw_st (fun h => ok1 h) (fun _ _ _ _ _ _ _ _ _ _ _ _ _ _ hx hb kk => lv_lookup hx hb d hp ho ht kk) k
theorem aw_iload_n (i : Nat) {j : Fin 4} {x : Int32} (d : Dc mi pc (.iload_n j) 1 pc') (hi : (j : Nat) = i) (hl : lk L i = some (.int x)) (k : AW mi Ψ Z MC MS pc' L (.int x :: st) w nc ns) : AW mi Ψ Z MC MS pc L st w nc ns := by
  obtain ⟨d, rfl⟩ := d
  intro l p e s m args below meth c Q D dA A w0 ad0 C R ad H locs ls h
  have hm := lk_mem hl
  exact lv_iload_n C.1 C.2.1 d hi (h.2.2.2.2.2.1.2.2 _ (List.mem_map.mpr ⟨_, hm, rfl⟩)) (k l p e s m args below meth c Q D dA A w0 ad0 C R ad H locs ls ⟨h.1, h.2.1, h.2.2.1, h.2.2.2.1, h.2.2.2.2.1, h.2.2.2.2.2.1, h.2.2.2.2.2.2.1, ok01 (h.2.2.2.2.2.2.1 _ hm) h.2.2.2.2.2.2.2.1, h.2.2.2.2.2.2.2.2⟩)
theorem aw_iload {i : Nat} {x : Int32} (d : Dc mi pc (.iload i) 2 pc') (hl : lk L i = some (.int x)) (k : AW mi Ψ Z MC MS pc' L (.int x :: st) w nc ns) : AW mi Ψ Z MC MS pc L st w nc ns := by
  obtain ⟨d, rfl⟩ := d
  intro l p e s m args below meth c Q D dA A w0 ad0 C R ad H locs ls h
  have hm := lk_mem hl
  exact lv_iload C.1 C.2.1 d (h.2.2.2.2.2.1.2.2 _ (List.mem_map.mpr ⟨_, hm, rfl⟩)) (k l p e s m args below meth c Q D dA A w0 ad0 C R ad H locs ls ⟨h.1, h.2.1, h.2.2.1, h.2.2.2.1, h.2.2.2.2.1, h.2.2.2.2.2.1, h.2.2.2.2.2.2.1, ok01 (h.2.2.2.2.2.2.1 _ hm) h.2.2.2.2.2.2.2.1, h.2.2.2.2.2.2.2.2⟩)
theorem aw_istore_n (i : Nat) {j : Fin 4} {x : Int32} (d : Dc mi pc (.istore_n j) 1 pc') (hi : (j : Nat) = i) (hn : i < mi.2.2.1) (hok : lsok L i false = true) (k : AW mi Ψ Z MC MS pc' (lset L i (.int x)) st w nc ns) : AW mi Ψ Z MC MS pc L (.int x :: st) w nc ns := by
  obtain ⟨d, rfl⟩ := d
  intro l p e s m args below meth c Q D dA A w0 ad0 C R ad H locs ls h
  exact lv_istore_n C.1 C.2.1 d hi h.2.2.2.2.2.1 hn rfl (fun ls' hl' => k l p e s m args below meth c Q D dA A w0 ad0 C R ad H locs ls' ⟨h.1, h.2.1, h.2.2.1, h.2.2.2.1, h.2.2.2.2.1, lv_put (v := .int x) hok hl', (fun q hq => (lset_mem hok hq).elim (fun e => by rw [e]; exact ok1a h.2.2.2.2.2.2.2.1) (fun e => h.2.2.2.2.2.2.1 q e.1)), ok1 h.2.2.2.2.2.2.2.1, h.2.2.2.2.2.2.2.2⟩)
theorem aw_istore {i : Nat} {x : Int32} (d : Dc mi pc (.istore i) 2 pc') (hn : i < mi.2.2.1) (hok : lsok L i false = true) (k : AW mi Ψ Z MC MS pc' (lset L i (.int x)) st w nc ns) : AW mi Ψ Z MC MS pc L (.int x :: st) w nc ns := by
  obtain ⟨d, rfl⟩ := d
  intro l p e s m args below meth c Q D dA A w0 ad0 C R ad H locs ls h
  exact lv_istore C.1 C.2.1 d h.2.2.2.2.2.1 hn rfl (fun ls' hl' => k l p e s m args below meth c Q D dA A w0 ad0 C R ad H locs ls' ⟨h.1, h.2.1, h.2.2.1, h.2.2.2.1, h.2.2.2.2.1, lv_put (v := .int x) hok hl', (fun q hq => (lset_mem hok hq).elim (fun e => by rw [e]; exact ok1a h.2.2.2.2.2.2.2.1) (fun e => h.2.2.2.2.2.2.1 q e.1)), ok1 h.2.2.2.2.2.2.2.1, h.2.2.2.2.2.2.2.2⟩)
theorem aw_lload_n (i : Nat) {j : Fin 4} {x : Int64} (d : Dc mi pc (.lload_n j) 1 pc') (hi : (j : Nat) = i) (hl : lk L i = some (.long x)) (k : AW mi Ψ Z MC MS pc' L (.long x :: st) w nc ns) : AW mi Ψ Z MC MS pc L st w nc ns := by
  obtain ⟨d, rfl⟩ := d
  intro l p e s m args below meth c Q D dA A w0 ad0 C R ad H locs ls h
  have hm := lk_mem hl
  exact lv_lload_n C.1 C.2.1 d hi (h.2.2.2.2.2.1.2.2 _ (List.mem_map.mpr ⟨_, hm, rfl⟩)) (k l p e s m args below meth c Q D dA A w0 ad0 C R ad H locs ls ⟨h.1, h.2.1, h.2.2.1, h.2.2.2.1, h.2.2.2.2.1, h.2.2.2.2.2.1, h.2.2.2.2.2.2.1, ok01 (h.2.2.2.2.2.2.1 _ hm) h.2.2.2.2.2.2.2.1, h.2.2.2.2.2.2.2.2⟩)
theorem aw_lload {i : Nat} {x : Int64} (d : Dc mi pc (.lload i) 2 pc') (hl : lk L i = some (.long x)) (k : AW mi Ψ Z MC MS pc' L (.long x :: st) w nc ns) : AW mi Ψ Z MC MS pc L st w nc ns := by
  obtain ⟨d, rfl⟩ := d
  intro l p e s m args below meth c Q D dA A w0 ad0 C R ad H locs ls h
  have hm := lk_mem hl
  exact lv_lload C.1 C.2.1 d (h.2.2.2.2.2.1.2.2 _ (List.mem_map.mpr ⟨_, hm, rfl⟩)) (k l p e s m args below meth c Q D dA A w0 ad0 C R ad H locs ls ⟨h.1, h.2.1, h.2.2.1, h.2.2.2.1, h.2.2.2.2.1, h.2.2.2.2.2.1, h.2.2.2.2.2.2.1, ok01 (h.2.2.2.2.2.2.1 _ hm) h.2.2.2.2.2.2.2.1, h.2.2.2.2.2.2.2.2⟩)
theorem aw_lstore_n (i : Nat) {j : Fin 4} {x : Int64} (d : Dc mi pc (.lstore_n j) 1 pc') (hi : (j : Nat) = i) (hn : i + 1 < mi.2.2.1) (hok : lsok L i true = true) (k : AW mi Ψ Z MC MS pc' (lset L i (.long x)) st w nc ns) : AW mi Ψ Z MC MS pc L (.long x :: st) w nc ns := by
  obtain ⟨d, rfl⟩ := d
  intro l p e s m args below meth c Q D dA A w0 ad0 C R ad H locs ls h
  exact lv_lstore_n C.1 C.2.1 d hi h.2.2.2.2.2.1 hn rfl (fun ls' hl' => k l p e s m args below meth c Q D dA A w0 ad0 C R ad H locs ls' ⟨h.1, h.2.1, h.2.2.1, h.2.2.2.1, h.2.2.2.2.1, lv_put2 (v := .long x) hok hl', (fun q hq => (lset_mem hok hq).elim (fun e => by rw [e]; exact ok1a h.2.2.2.2.2.2.2.1) (fun e => h.2.2.2.2.2.2.1 q e.1)), ok1 h.2.2.2.2.2.2.2.1, h.2.2.2.2.2.2.2.2⟩)
theorem aw_lstore {i : Nat} {x : Int64} (d : Dc mi pc (.lstore i) 2 pc') (hn : i + 1 < mi.2.2.1) (hok : lsok L i true = true) (k : AW mi Ψ Z MC MS pc' (lset L i (.long x)) st w nc ns) : AW mi Ψ Z MC MS pc L (.long x :: st) w nc ns := by
  obtain ⟨d, rfl⟩ := d
  intro l p e s m args below meth c Q D dA A w0 ad0 C R ad H locs ls h
  exact lv_lstore C.1 C.2.1 d h.2.2.2.2.2.1 hn rfl (fun ls' hl' => k l p e s m args below meth c Q D dA A w0 ad0 C R ad H locs ls' ⟨h.1, h.2.1, h.2.2.1, h.2.2.2.1, h.2.2.2.2.1, lv_put2 (v := .long x) hok hl', (fun q hq => (lset_mem hok hq).elim (fun e => by rw [e]; exact ok1a h.2.2.2.2.2.2.2.1) (fun e => h.2.2.2.2.2.2.1 q e.1)), ok1 h.2.2.2.2.2.2.2.1, h.2.2.2.2.2.2.2.2⟩)
theorem aw_aload_n (i : Nat) {j : Fin 4} {x : Nat} (d : Dc mi pc (.aload_n j) 1 pc') (hi : (j : Nat) = i) (hl : lk L i = some (.ref x)) (k : AW mi Ψ Z MC MS pc' L (.ref x :: st) w nc ns) : AW mi Ψ Z MC MS pc L st w nc ns := by
  obtain ⟨d, rfl⟩ := d
  intro l p e s m args below meth c Q D dA A w0 ad0 C R ad H locs ls h
  have hm := lk_mem hl
  exact lv_aload_n C.1 C.2.1 d hi (h.2.2.2.2.2.1.2.2 _ (List.mem_map.mpr ⟨_, hm, rfl⟩)) (k l p e s m args below meth c Q D dA A w0 ad0 C R ad H locs ls ⟨h.1, h.2.1, h.2.2.1, h.2.2.2.1, h.2.2.2.2.1, h.2.2.2.2.2.1, h.2.2.2.2.2.2.1, ok01 (h.2.2.2.2.2.2.1 _ hm) h.2.2.2.2.2.2.2.1, h.2.2.2.2.2.2.2.2⟩)
theorem aw_aload {i : Nat} {x : Nat} (d : Dc mi pc (.aload i) 2 pc') (hl : lk L i = some (.ref x)) (k : AW mi Ψ Z MC MS pc' L (.ref x :: st) w nc ns) : AW mi Ψ Z MC MS pc L st w nc ns := by
  obtain ⟨d, rfl⟩ := d
  intro l p e s m args below meth c Q D dA A w0 ad0 C R ad H locs ls h
  have hm := lk_mem hl
  exact lv_aload C.1 C.2.1 d (h.2.2.2.2.2.1.2.2 _ (List.mem_map.mpr ⟨_, hm, rfl⟩)) (k l p e s m args below meth c Q D dA A w0 ad0 C R ad H locs ls ⟨h.1, h.2.1, h.2.2.1, h.2.2.2.1, h.2.2.2.2.1, h.2.2.2.2.2.1, h.2.2.2.2.2.2.1, ok01 (h.2.2.2.2.2.2.1 _ hm) h.2.2.2.2.2.2.2.1, h.2.2.2.2.2.2.2.2⟩)
theorem aw_astore_n (i : Nat) {j : Fin 4} {x : Nat} (d : Dc mi pc (.astore_n j) 1 pc') (hi : (j : Nat) = i) (hn : i < mi.2.2.1) (hok : lsok L i false = true) (k : AW mi Ψ Z MC MS pc' (lset L i (.ref x)) st w nc ns) : AW mi Ψ Z MC MS pc L (.ref x :: st) w nc ns := by
  obtain ⟨d, rfl⟩ := d
  intro l p e s m args below meth c Q D dA A w0 ad0 C R ad H locs ls h
  exact lv_astore_n C.1 C.2.1 d hi h.2.2.2.2.2.1 hn rfl (fun ls' hl' => k l p e s m args below meth c Q D dA A w0 ad0 C R ad H locs ls' ⟨h.1, h.2.1, h.2.2.1, h.2.2.2.1, h.2.2.2.2.1, lv_put (v := .ref x) hok hl', (fun q hq => (lset_mem hok hq).elim (fun e => by rw [e]; exact ok1a h.2.2.2.2.2.2.2.1) (fun e => h.2.2.2.2.2.2.1 q e.1)), ok1 h.2.2.2.2.2.2.2.1, h.2.2.2.2.2.2.2.2⟩)
theorem aw_astore {i : Nat} {x : Nat} (d : Dc mi pc (.astore i) 2 pc') (hn : i < mi.2.2.1) (hok : lsok L i false = true) (k : AW mi Ψ Z MC MS pc' (lset L i (.ref x)) st w nc ns) : AW mi Ψ Z MC MS pc L (.ref x :: st) w nc ns := by
  obtain ⟨d, rfl⟩ := d
  intro l p e s m args below meth c Q D dA A w0 ad0 C R ad H locs ls h
  exact lv_astore C.1 C.2.1 d h.2.2.2.2.2.1 hn rfl (fun ls' hl' => k l p e s m args below meth c Q D dA A w0 ad0 C R ad H locs ls' ⟨h.1, h.2.1, h.2.2.1, h.2.2.2.1, h.2.2.2.2.1, lv_put (v := .ref x) hok hl', (fun q hq => (lset_mem hok hq).elim (fun e => by rw [e]; exact ok1a h.2.2.2.2.2.2.2.1) (fun e => h.2.2.2.2.2.2.1 q e.1)), ok1 h.2.2.2.2.2.2.2.1, h.2.2.2.2.2.2.2.2⟩)
theorem aw_iinc {i : Nat} {n : Int} {x : Int32} (v : Int32) (d : Dc mi pc (.iinc i n) 3 pc') (hl : lk L i = some (.int x)) (hv : x + Int32.ofInt n = v) (hn : i < mi.2.2.1) (hok : lsok L i false = true) (k : AW mi Ψ Z MC MS pc' (lset L i (.int v)) st w nc ns) : AW mi Ψ Z MC MS pc L st w nc ns := by
  obtain ⟨d, rfl⟩ := d
  intro l p e s m args below meth c Q D dA A w0 ad0 C R ad H locs ls h
  have hm : (i, Value.int x) ∈ L.map (lc ad) := List.mem_map.mpr ⟨_, lk_mem hl, rfl⟩
  obtain ⟨kx, hkx⟩ := List.getElem?_of_mem hm
  exact lv_iinc C.1 C.2.1 d h.2.2.2.2.2.1 hkx hv hn rfl (fun ls' hl' => k l p e s m args below meth c Q D dA A w0 ad0 C R ad H locs ls' ⟨h.1, h.2.1, h.2.2.1, h.2.2.2.1, h.2.2.2.2.1, lv_put (v := .int v) hok hl', (fun q hq => (lset_mem hok hq).elim (fun e => by rw [e]; exact True.intro) (fun e => h.2.2.2.2.2.2.1 q e.1)), h.2.2.2.2.2.2.2.1, h.2.2.2.2.2.2.2.2⟩)
/-- fewer locals -/
theorem aw_locs {L' : List (Nat × Value)} (hs : ∀ q ∈ L', q ∈ L) (k : AW mi Ψ Z MC MS pc L' st w nc ns) : AW mi Ψ Z MC MS pc L st w nc ns := by
  intro l p e s m args below meth c Q D dA A w0 ad0 C R ad H locs ls h
  refine k l p e s m args below meth c Q D dA A w0 ad0 C R ad H locs ls ⟨h.1, h.2.1, h.2.2.1, h.2.2.2.1, h.2.2.2.2.1, ⟨h.2.2.2.2.2.1.1, h.2.2.2.2.2.1.2.1, fun q hq => ?_⟩, fun q hq => h.2.2.2.2.2.2.1 q (hs q hq), h.2.2.2.2.2.2.2⟩
  obtain ⟨q', hq', rfl⟩ := List.mem_map.mp hq
  exact h.2.2.2.2.2.1.2.2 _ (List.mem_map.mpr ⟨q', hs q' hq', rfl⟩)
theorem aw_take (n : Nat) (k : AW mi Ψ Z MC MS pc (L.take n) st w nc ns) : AW mi Ψ Z MC MS pc L st w nc ns := aw_locs (fun _ hq => List.mem_of_mem_take hq) k
/-- room that isn't used -/
theorem aw_widen {nc' ns' : Nat} (h1 : nc ≤ nc') (h2 : ns ≤ ns') (h3 : nc' ≤ MC) (h4 : ns' ≤ MS) (k : AW mi Ψ Z MC MS pc L st w nc' ns') : AW mi Ψ Z MC MS pc L st w nc ns := by
  intro l p e s m args below meth c Q D dA A w0 ad0 C R ad H locs ls h
  exact W.widen h1 h2 (k l p e s m args below meth c Q D dA A w0 ad0 C R ad H locs ls ⟨h.1, h.2.1, h.2.2.1, h.2.2.2.1, h.2.2.2.2.1, h.2.2.2.2.2.1, h.2.2.2.2.2.2.1, h.2.2.2.2.2.2.2.1, h3, h4⟩)
end Rules
