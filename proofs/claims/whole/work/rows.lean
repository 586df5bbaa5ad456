section
-- ===== PART A: goes FIRST, ahead of the names: the tables' words, and 'selects' of the private methods out of them =====
/-- a private method of a class that the tables say can be made, by its rows of tables_1 -/
def lw_okq (q : MethodName × Nat) : Prop := (q.1.cls ≠ "java/lang/invoke/MethodHandle" ∧ q.1.cls ≠ "java/lang/invoke/VarHandle") ∧ Cond.instantiable q.1.cls q.2 ∈ tables_1 ∧ Cond.privateMethod q.1 ∈ tables_1 ∧ Cond.instanceMethod q.1 ∈ tables_1
theorem lw_p0 : lw_okq (⟨"BitRings", "faulted", "(I)I"⟩, 7) := ⟨⟨by decide +kernel, by decide +kernel⟩, List.mem_of_getElem? (i := 13) (by decide +kernel), List.mem_of_getElem? (i := 243) (by decide +kernel), List.mem_of_getElem? (i := 244) (by decide +kernel)⟩
theorem lw_p1 : lw_okq (⟨"BitRings", "foundRings", "()LBitRings$Rings;"⟩, 7) := ⟨⟨by decide +kernel, by decide +kernel⟩, List.mem_of_getElem? (i := 13) (by decide +kernel), List.mem_of_getElem? (i := 271) (by decide +kernel), List.mem_of_getElem? (i := 272) (by decide +kernel)⟩
theorem lw_p2 : lw_okq (⟨"BitRings$Rings", "peel", "(LBitRings$Register;)V"⟩, 11) := ⟨⟨by decide +kernel, by decide +kernel⟩, List.mem_of_getElem? (i := 50) (by decide +kernel), List.mem_of_getElem? (i := 279) (by decide +kernel), List.mem_of_getElem? (i := 280) (by decide +kernel)⟩
theorem lw_p3 : lw_okq (⟨"BitRings$Rings", "nameRings", "(LBitRings$Register;)V"⟩, 11) := ⟨⟨by decide +kernel, by decide +kernel⟩, List.mem_of_getElem? (i := 50) (by decide +kernel), List.mem_of_getElem? (i := 299) (by decide +kernel), List.mem_of_getElem? (i := 300) (by decide +kernel)⟩
theorem lw_p4 : lw_okq (⟨"BitRings$Rings", "nameRing", "(LBitRings$Register;I)V"⟩, 11) := ⟨⟨by decide +kernel, by decide +kernel⟩, List.mem_of_getElem? (i := 50) (by decide +kernel), List.mem_of_getElem? (i := 303) (by decide +kernel), List.mem_of_getElem? (i := 304) (by decide +kernel)⟩
theorem lw_p5 : lw_okq (⟨"BitRings$Rings", "nameBehind", "(LBitRings$Register;)V"⟩, 11) := ⟨⟨by decide +kernel, by decide +kernel⟩, List.mem_of_getElem? (i := 50) (by decide +kernel), List.mem_of_getElem? (i := 307) (by decide +kernel), List.mem_of_getElem? (i := 308) (by decide +kernel)⟩
theorem lw_p6 : lw_okq (⟨"BitRings$Trees", "clear", "()V"⟩, 2) := ⟨⟨by decide +kernel, by decide +kernel⟩, List.mem_of_getElem? (i := 101) (by decide +kernel), List.mem_of_getElem? (i := 391) (by decide +kernel), List.mem_of_getElem? (i := 392) (by decide +kernel)⟩
theorem lw_p7 : lw_okq (⟨"BitRings$Trees", "addPair", "(II)V"⟩, 2) := ⟨⟨by decide +kernel, by decide +kernel⟩, List.mem_of_getElem? (i := 101) (by decide +kernel), List.mem_of_getElem? (i := 398) (by decide +kernel), List.mem_of_getElem? (i := 399) (by decide +kernel)⟩
theorem lw_p8 : lw_okq (⟨"BitRings$Trees", "add", "(IIJ)V"⟩, 2) := ⟨⟨by decide +kernel, by decide +kernel⟩, List.mem_of_getElem? (i := 101) (by decide +kernel), List.mem_of_getElem? (i := 402) (by decide +kernel), List.mem_of_getElem? (i := 403) (by decide +kernel)⟩
theorem lw_p9 : lw_okq (⟨"BitRings$Trees", "determinant", "()J"⟩, 2) := ⟨⟨by decide +kernel, by decide +kernel⟩, List.mem_of_getElem? (i := 101) (by decide +kernel), List.mem_of_getElem? (i := 408) (by decide +kernel), List.mem_of_getElem? (i := 409) (by decide +kernel)⟩
theorem lw_p10 : lw_okq (⟨"BitRings$Trees", "pivotRow", "(I)I"⟩, 2) := ⟨⟨by decide +kernel, by decide +kernel⟩, List.mem_of_getElem? (i := 101) (by decide +kernel), List.mem_of_getElem? (i := 412) (by decide +kernel), List.mem_of_getElem? (i := 413) (by decide +kernel)⟩
theorem lw_p11 : lw_okq (⟨"BitRings$Trees", "swapRows", "(II)V"⟩, 2) := ⟨⟨by decide +kernel, by decide +kernel⟩, List.mem_of_getElem? (i := 101) (by decide +kernel), List.mem_of_getElem? (i := 416) (by decide +kernel), List.mem_of_getElem? (i := 417) (by decide +kernel)⟩
theorem lw_p12 : lw_okq (⟨"BitRings$Trees", "clearBelow", "(IJ)V"⟩, 2) := ⟨⟨by decide +kernel, by decide +kernel⟩, List.mem_of_getElem? (i := 101) (by decide +kernel), List.mem_of_getElem? (i := 424) (by decide +kernel), List.mem_of_getElem? (i := 425) (by decide +kernel)⟩
theorem lw_p13 : lw_okq (⟨"BitRings", "refusedBits", "(II)I"⟩, 7) := ⟨⟨by decide +kernel, by decide +kernel⟩, List.mem_of_getElem? (i := 13) (by decide +kernel), List.mem_of_getElem? (i := 495) (by decide +kernel), List.mem_of_getElem? (i := 496) (by decide +kernel)⟩
theorem lw_p14 : lw_okq (⟨"BitRings", "refusedRow", "(I)I"⟩, 7) := ⟨⟨by decide +kernel, by decide +kernel⟩, List.mem_of_getElem? (i := 13) (by decide +kernel), List.mem_of_getElem? (i := 499) (by decide +kernel), List.mem_of_getElem? (i := 500) (by decide +kernel)⟩
theorem lw_p15 : lw_okq (⟨"BitRings$RowReader", "ruleFails", "()Z"⟩, 6) := ⟨⟨by decide +kernel, by decide +kernel⟩, List.mem_of_getElem? (i := 137) (by decide +kernel), List.mem_of_getElem? (i := 512) (by decide +kernel), List.mem_of_getElem? (i := 513) (by decide +kernel)⟩
def lw_privs_1 : List (MethodName × Nat) := [(⟨"BitRings", "faulted", "(I)I"⟩, 7), (⟨"BitRings", "foundRings", "()LBitRings$Rings;"⟩, 7), (⟨"BitRings$Rings", "peel", "(LBitRings$Register;)V"⟩, 11), (⟨"BitRings$Rings", "nameRings", "(LBitRings$Register;)V"⟩, 11), (⟨"BitRings$Rings", "nameRing", "(LBitRings$Register;I)V"⟩, 11), (⟨"BitRings$Rings", "nameBehind", "(LBitRings$Register;)V"⟩, 11), (⟨"BitRings$Trees", "clear", "()V"⟩, 2), (⟨"BitRings$Trees", "addPair", "(II)V"⟩, 2), (⟨"BitRings$Trees", "add", "(IIJ)V"⟩, 2), (⟨"BitRings$Trees", "determinant", "()J"⟩, 2), (⟨"BitRings$Trees", "pivotRow", "(I)I"⟩, 2), (⟨"BitRings$Trees", "swapRows", "(II)V"⟩, 2), (⟨"BitRings$Trees", "clearBelow", "(IJ)V"⟩, 2), (⟨"BitRings", "refusedBits", "(II)I"⟩, 7), (⟨"BitRings", "refusedRow", "(I)I"⟩, 7), (⟨"BitRings$RowReader", "ruleFails", "()Z"⟩, 6)]
theorem lw_r1 : ∀ q ∈ lw_privs_1, lw_okq q := List.forall_mem_cons.mpr ⟨lw_p0, List.forall_mem_cons.mpr ⟨lw_p1, List.forall_mem_cons.mpr ⟨lw_p2, List.forall_mem_cons.mpr ⟨lw_p3, List.forall_mem_cons.mpr ⟨lw_p4, List.forall_mem_cons.mpr ⟨lw_p5, List.forall_mem_cons.mpr ⟨lw_p6, List.forall_mem_cons.mpr ⟨lw_p7, List.forall_mem_cons.mpr ⟨lw_p8, List.forall_mem_cons.mpr ⟨lw_p9, List.forall_mem_cons.mpr ⟨lw_p10, List.forall_mem_cons.mpr ⟨lw_p11, List.forall_mem_cons.mpr ⟨lw_p12, List.forall_mem_cons.mpr ⟨lw_p13, List.forall_mem_cons.mpr ⟨lw_p14, List.forall_mem_cons.mpr ⟨lw_p15, fun _ h => absurd h List.not_mem_nil⟩⟩⟩⟩⟩⟩⟩⟩⟩⟩⟩⟩⟩⟩⟩⟩
theorem lw_p16 : lw_okq (⟨"BitRings$RowReader", "correctRule", "(Z)V"⟩, 6) := ⟨⟨by decide +kernel, by decide +kernel⟩, List.mem_of_getElem? (i := 137) (by decide +kernel), List.mem_of_getElem? (i := 522) (by decide +kernel), List.mem_of_getElem? (i := 523) (by decide +kernel)⟩
theorem lw_p17 : lw_okq (⟨"BitRings$RowReader", "splitMarks", "(LBitRings$Sheet;II)Z"⟩, 6) := ⟨⟨by decide +kernel, by decide +kernel⟩, List.mem_of_getElem? (i := 137) (by decide +kernel), List.mem_of_getElem? (i := 535) (by decide +kernel), List.mem_of_getElem? (i := 536) (by decide +kernel)⟩
theorem lw_p18 : lw_okq (⟨"BitRings", "tellBehind", "(I)I"⟩, 7) := ⟨⟨by decide +kernel, by decide +kernel⟩, List.mem_of_getElem? (i := 13) (by decide +kernel), List.mem_of_getElem? (i := 580) (by decide +kernel), List.mem_of_getElem? (i := 581) (by decide +kernel)⟩
theorem lw_p19 : lw_okq (⟨"BitRings", "leave", "(I)V"⟩, 7) := ⟨⟨by decide +kernel, by decide +kernel⟩, List.mem_of_getElem? (i := 13) (by decide +kernel), List.mem_of_getElem? (i := 584) (by decide +kernel), List.mem_of_getElem? (i := 585) (by decide +kernel)⟩
theorem lw_p20 : lw_okq (⟨"BitRings", "tellAlone", "()I"⟩, 7) := ⟨⟨by decide +kernel, by decide +kernel⟩, List.mem_of_getElem? (i := 13) (by decide +kernel), List.mem_of_getElem? (i := 588) (by decide +kernel), List.mem_of_getElem? (i := 589) (by decide +kernel)⟩
theorem lw_p21 : lw_okq (⟨"BitRings", "tellLonger", "(I)I"⟩, 7) := ⟨⟨by decide +kernel, by decide +kernel⟩, List.mem_of_getElem? (i := 13) (by decide +kernel), List.mem_of_getElem? (i := 593) (by decide +kernel), List.mem_of_getElem? (i := 594) (by decide +kernel)⟩
theorem lw_p22 : lw_okq (⟨"BitRings", "weighBehind", "()I"⟩, 7) := ⟨⟨by decide +kernel, by decide +kernel⟩, List.mem_of_getElem? (i := 13) (by decide +kernel), List.mem_of_getElem? (i := 601) (by decide +kernel), List.mem_of_getElem? (i := 602) (by decide +kernel)⟩
theorem lw_p23 : lw_okq (⟨"BitRings", "weighLent", "(I)I"⟩, 7) := ⟨⟨by decide +kernel, by decide +kernel⟩, List.mem_of_getElem? (i := 13) (by decide +kernel), List.mem_of_getElem? (i := 605) (by decide +kernel), List.mem_of_getElem? (i := 606) (by decide +kernel)⟩
theorem lw_p24 : lw_okq (⟨"BitRingsModel", "isState", "(I)Z"⟩, 21) := ⟨⟨by decide +kernel, by decide +kernel⟩, List.mem_of_getElem? (i := 621) (by decide +kernel), List.mem_of_getElem? (i := 705) (by decide +kernel), List.mem_of_getElem? (i := 706) (by decide +kernel)⟩
theorem lw_p25 : lw_okq (⟨"BitRingsModel", "states", "()I"⟩, 21) := ⟨⟨by decide +kernel, by decide +kernel⟩, List.mem_of_getElem? (i := 621) (by decide +kernel), List.mem_of_getElem? (i := 709) (by decide +kernel), List.mem_of_getElem? (i := 710) (by decide +kernel)⟩
theorem lw_p26 : lw_okq (⟨"BitRingsModel", "ones", "()I"⟩, 21) := ⟨⟨by decide +kernel, by decide +kernel⟩, List.mem_of_getElem? (i := 621) (by decide +kernel), List.mem_of_getElem? (i := 717) (by decide +kernel), List.mem_of_getElem? (i := 718) (by decide +kernel)⟩
theorem lw_p27 : lw_okq (⟨"BitRingsModel", "fails", "(I)I"⟩, 21) := ⟨⟨by decide +kernel, by decide +kernel⟩, List.mem_of_getElem? (i := 621) (by decide +kernel), List.mem_of_getElem? (i := 728) (by decide +kernel), List.mem_of_getElem? (i := 729) (by decide +kernel)⟩
theorem lw_p28 : lw_okq (⟨"BitRingsModel", "bit", "(II)I"⟩, 21) := ⟨⟨by decide +kernel, by decide +kernel⟩, List.mem_of_getElem? (i := 621) (by decide +kernel), List.mem_of_getElem? (i := 732) (by decide +kernel), List.mem_of_getElem? (i := 733) (by decide +kernel)⟩
theorem lw_p29 : lw_okq (⟨"BitRingsModel", "find", "()V"⟩, 21) := ⟨⟨by decide +kernel, by decide +kernel⟩, List.mem_of_getElem? (i := 621) (by decide +kernel), List.mem_of_getElem? (i := 744) (by decide +kernel), List.mem_of_getElem? (i := 745) (by decide +kernel)⟩
theorem lw_p30 : lw_okq (⟨"BitRingsModel", "next", "(I)I"⟩, 21) := ⟨⟨by decide +kernel, by decide +kernel⟩, List.mem_of_getElem? (i := 621) (by decide +kernel), List.mem_of_getElem? (i := 748) (by decide +kernel), List.mem_of_getElem? (i := 749) (by decide +kernel)⟩
theorem lw_p31 : lw_okq (⟨"BitRingsModel", "isPure", "()Z"⟩, 21) := ⟨⟨by decide +kernel, by decide +kernel⟩, List.mem_of_getElem? (i := 621) (by decide +kernel), List.mem_of_getElem? (i := 769) (by decide +kernel), List.mem_of_getElem? (i := 770) (by decide +kernel)⟩
def lw_privs_2 : List (MethodName × Nat) := [(⟨"BitRings$RowReader", "correctRule", "(Z)V"⟩, 6), (⟨"BitRings$RowReader", "splitMarks", "(LBitRings$Sheet;II)Z"⟩, 6), (⟨"BitRings", "tellBehind", "(I)I"⟩, 7), (⟨"BitRings", "leave", "(I)V"⟩, 7), (⟨"BitRings", "tellAlone", "()I"⟩, 7), (⟨"BitRings", "tellLonger", "(I)I"⟩, 7), (⟨"BitRings", "weighBehind", "()I"⟩, 7), (⟨"BitRings", "weighLent", "(I)I"⟩, 7), (⟨"BitRingsModel", "isState", "(I)Z"⟩, 21), (⟨"BitRingsModel", "states", "()I"⟩, 21), (⟨"BitRingsModel", "ones", "()I"⟩, 21), (⟨"BitRingsModel", "fails", "(I)I"⟩, 21), (⟨"BitRingsModel", "bit", "(II)I"⟩, 21), (⟨"BitRingsModel", "find", "()V"⟩, 21), (⟨"BitRingsModel", "next", "(I)I"⟩, 21), (⟨"BitRingsModel", "isPure", "()Z"⟩, 21)]
theorem lw_r2 : ∀ q ∈ lw_privs_2, lw_okq q := List.forall_mem_cons.mpr ⟨lw_p16, List.forall_mem_cons.mpr ⟨lw_p17, List.forall_mem_cons.mpr ⟨lw_p18, List.forall_mem_cons.mpr ⟨lw_p19, List.forall_mem_cons.mpr ⟨lw_p20, List.forall_mem_cons.mpr ⟨lw_p21, List.forall_mem_cons.mpr ⟨lw_p22, List.forall_mem_cons.mpr ⟨lw_p23, List.forall_mem_cons.mpr ⟨lw_p24, List.forall_mem_cons.mpr ⟨lw_p25, List.forall_mem_cons.mpr ⟨lw_p26, List.forall_mem_cons.mpr ⟨lw_p27, List.forall_mem_cons.mpr ⟨lw_p28, List.forall_mem_cons.mpr ⟨lw_p29, List.forall_mem_cons.mpr ⟨lw_p30, List.forall_mem_cons.mpr ⟨lw_p31, fun _ h => absurd h List.not_mem_nil⟩⟩⟩⟩⟩⟩⟩⟩⟩⟩⟩⟩⟩⟩⟩⟩
theorem lw_p32 : lw_okq (⟨"BitRingsModel", "turnPair", "(I)V"⟩, 21) := ⟨⟨by decide +kernel, by decide +kernel⟩, List.mem_of_getElem? (i := 621) (by decide +kernel), List.mem_of_getElem? (i := 778) (by decide +kernel), List.mem_of_getElem? (i := 779) (by decide +kernel)⟩
theorem lw_p33 : lw_okq (⟨"BitRingsModel", "addTo", "(IIIJ)V"⟩, 21) := ⟨⟨by decide +kernel, by decide +kernel⟩, List.mem_of_getElem? (i := 621) (by decide +kernel), List.mem_of_getElem? (i := 790) (by decide +kernel), List.mem_of_getElem? (i := 791) (by decide +kernel)⟩
theorem lw_p34 : lw_okq (⟨"BitRingsModel", "determinant", "(I)I"⟩, 21) := ⟨⟨by decide +kernel, by decide +kernel⟩, List.mem_of_getElem? (i := 621) (by decide +kernel), List.mem_of_getElem? (i := 795) (by decide +kernel), List.mem_of_getElem? (i := 796) (by decide +kernel)⟩
theorem lw_p35 : lw_okq (⟨"BitRingsModel", "lost", "(I)J"⟩, 21) := ⟨⟨by decide +kernel, by decide +kernel⟩, List.mem_of_getElem? (i := 621) (by decide +kernel), List.mem_of_getElem? (i := 824) (by decide +kernel), List.mem_of_getElem? (i := 825) (by decide +kernel)⟩
theorem lw_p36 : lw_okq (⟨"BitRingsModel", "againstBits", "(II)I"⟩, 21) := ⟨⟨by decide +kernel, by decide +kernel⟩, List.mem_of_getElem? (i := 621) (by decide +kernel), List.mem_of_getElem? (i := 845) (by decide +kernel), List.mem_of_getElem? (i := 846) (by decide +kernel)⟩
theorem lw_p37 : lw_okq (⟨"BitRingsModel", "greatestOf", "(II)I"⟩, 21) := ⟨⟨by decide +kernel, by decide +kernel⟩, List.mem_of_getElem? (i := 621) (by decide +kernel), List.mem_of_getElem? (i := 853) (by decide +kernel), List.mem_of_getElem? (i := 854) (by decide +kernel)⟩
theorem lw_p38 : lw_okq (⟨"BitRingsModel", "begins", "(I)V"⟩, 21) := ⟨⟨by decide +kernel, by decide +kernel⟩, List.mem_of_getElem? (i := 621) (by decide +kernel), List.mem_of_getElem? (i := 875) (by decide +kernel), List.mem_of_getElem? (i := 876) (by decide +kernel)⟩
def lw_privs_3 : List (MethodName × Nat) := [(⟨"BitRingsModel", "turnPair", "(I)V"⟩, 21), (⟨"BitRingsModel", "addTo", "(IIIJ)V"⟩, 21), (⟨"BitRingsModel", "determinant", "(I)I"⟩, 21), (⟨"BitRingsModel", "lost", "(I)J"⟩, 21), (⟨"BitRingsModel", "againstBits", "(II)I"⟩, 21), (⟨"BitRingsModel", "greatestOf", "(II)I"⟩, 21), (⟨"BitRingsModel", "begins", "(I)V"⟩, 21)]
theorem lw_r3 : ∀ q ∈ lw_privs_3, lw_okq q := List.forall_mem_cons.mpr ⟨lw_p32, List.forall_mem_cons.mpr ⟨lw_p33, List.forall_mem_cons.mpr ⟨lw_p34, List.forall_mem_cons.mpr ⟨lw_p35, List.forall_mem_cons.mpr ⟨lw_p36, List.forall_mem_cons.mpr ⟨lw_p37, List.forall_mem_cons.mpr ⟨lw_p38, fun _ h => absurd h List.not_mem_nil⟩⟩⟩⟩⟩⟩⟩
def lw_privs : List (MethodName × Nat) := lw_privs_1 ++ (lw_privs_2 ++ (lw_privs_3))
def lw_tbl : List Cond := k2_sels lw_privs ++ tables_1
theorem lw_privs_ok : ∀ q ∈ lw_privs, lw_okq q := by
  show ∀ q ∈ lw_privs_1 ++ (lw_privs_2 ++ (lw_privs_3)), lw_okq q
  exact List.forall_mem_append.mpr ⟨lw_r1, List.forall_mem_append.mpr ⟨lw_r2, lw_r3⟩⟩
end
section
/-! names, tables and methods, by program (wip/whole/gennames.py) out of claim/NAMES.whole.lean.txt -/
abbrev R_rg : String := "BitRings$Register"
def T_rg : u_T := fun k => match k with
  | 0 => ("BitRings$Register", "bitCount", "I", false)
  | 1 => ("BitRings$Register", "states", "I", false)
  | 2 => ("BitRings$Register", "changed", "Z", false)
  | 3 => ("BitRings$Register", "bits", "[I", true)
  | _ => ("BitRings$Register", "been", "[I", true)
def ty_rg : Nat → FieldType := fun k => match k with
  | 0 => .int
  | 1 => .int
  | 2 => .boolean
  | 3 => .array .int
  | _ => .array .int
theorem nm_rg : ∀ a, a < 5 → ∀ b, b < 5 → a ≠ b → (T_rg a).2.1 ≠ (T_rg b).2.1 := by decide +kernel
theorem ty_rg_ok : ∀ k, k < 5 → parseFieldDescriptor (T_rg k).2.2.1 = some (ty_rg k) := by decide +kernel
abbrev R_ri : String := "BitRings$Rings"
def T_ri : u_T := fun k => match k with
  | 0 => ("BitRings$Rings", "count", "I", false)
  | 1 => ("BitRings$Rings", "peeled", "I", false)
  | 2 => ("BitRings$Rings", "starts", "I", false)
  | 3 => ("BitRings$Rings", "farthest", "I", false)
  | 4 => ("BitRings$Rings", "ringOf", "[I", true)
  | 5 => ("BitRings$Rings", "behind", "[I", true)
  | 6 => ("BitRings$Rings", "place", "[I", true)
  | 7 => ("BitRings$Rings", "least", "[I", true)
  | 8 => ("BitRings$Rings", "size", "[I", true)
  | 9 => ("BitRings$Rings", "waits", "[I", true)
  | _ => ("BitRings$Rings", "queue", "[I", true)
def ty_ri : Nat → FieldType := fun k => match k with
  | 0 => .int
  | 1 => .int
  | 2 => .int
  | 3 => .int
  | 4 => .array .int
  | 5 => .array .int
  | 6 => .array .int
  | 7 => .array .int
  | 8 => .array .int
  | 9 => .array .int
  | _ => .array .int
theorem nm_ri : ∀ a, a < 11 → ∀ b, b < 11 → a ≠ b → (T_ri a).2.1 ≠ (T_ri b).2.1 := by decide +kernel
theorem ty_ri_ok : ∀ k, k < 11 → parseFieldDescriptor (T_ri k).2.2.1 = some (ty_ri k) := by decide +kernel
abbrev R_rr : String := "BitRings$RowReader"
def T_rr : u_T := fun k => match k with
  | 0 => ("BitRings$RowReader", "rule", "[J", true)
  | 1 => ("BitRings$RowReader", "olderRule", "[J", true)
  | 2 => ("BitRings$RowReader", "recent", "[J", true)
  | 3 => ("BitRings$RowReader", "marks", "[I", true)
  | 4 => ("BitRings$RowReader", "split", "[I", true)
  | _ => ("BitRings$RowReader", "markCount", "I", false)
def ty_rr : Nat → FieldType := fun k => match k with
  | 0 => .array .long
  | 1 => .array .long
  | 2 => .array .long
  | 3 => .array .int
  | 4 => .array .int
  | _ => .int
theorem nm_rr : ∀ a, a < 6 → ∀ b, b < 6 → a ≠ b → (T_rr a).2.1 ≠ (T_rr b).2.1 := by decide +kernel
theorem ty_rr_ok : ∀ k, k < 6 → parseFieldDescriptor (T_rr k).2.2.1 = some (ty_rr k) := by decide +kernel
abbrev R_sh : String := "BitRings$Sheet"
def T_sh : u_T := fun k => match k with
  | 0 => ("BitRings$Sheet", "lane", "I", false)
  | 1 => ("BitRings$Sheet", "size", "I", false)
  | _ => ("BitRings$Sheet", "cells", "[J", true)
def ty_sh : Nat → FieldType := fun k => match k with
  | 0 => .int
  | 1 => .int
  | _ => .array .long
theorem nm_sh : ∀ a, a < 3 → ∀ b, b < 3 → a ≠ b → (T_sh a).2.1 ≠ (T_sh b).2.1 := by decide +kernel
theorem ty_sh_ok : ∀ k, k < 3 → parseFieldDescriptor (T_sh k).2.2.1 = some (ty_sh k) := by decide +kernel
abbrev R_tr : String := "BitRings$Trees"
def T_tr : u_T := fun k => match k with
  | 0 => ("BitRings$Trees", "cells", "[J", false)
  | _ => ("BitRings$Trees", "width", "I", false)
def ty_tr : Nat → FieldType := fun k => match k with
  | 0 => .array .long
  | _ => .int
theorem nm_tr : ∀ a, a < 2 → ∀ b, b < 2 → a ≠ b → (T_tr a).2.1 ≠ (T_tr b).2.1 := by decide +kernel
theorem ty_tr_ok : ∀ k, k < 2 → parseFieldDescriptor (T_tr k).2.2.1 = some (ty_tr k) := by decide +kernel
abbrev R_br : String := "BitRings"
def T_br : u_T := fun k => match k with
  | 0 => ("BitRings", "register", "LBitRings$Register;", true)
  | 1 => ("BitRings", "rings", "LBitRings$Rings;", true)
  | 2 => ("BitRings", "trees", "LBitRings$Trees;", true)
  | 3 => ("BitRings", "sheets", "[LBitRings$Sheet;", true)
  | 4 => ("BitRings", "reader", "LBitRings$RowReader;", true)
  | 5 => ("BitRings", "traceLeft", "I", false)
  | _ => ("BitRings", "latestFault", "I", false)
def ty_br : Nat → FieldType := fun k => match k with
  | 0 => .object "BitRings$Register"
  | 1 => .object "BitRings$Rings"
  | 2 => .object "BitRings$Trees"
  | 3 => .array (.object "BitRings$Sheet")
  | 4 => .object "BitRings$RowReader"
  | 5 => .int
  | _ => .int
theorem nm_br : ∀ a, a < 7 → ∀ b, b < 7 → a ≠ b → (T_br a).2.1 ≠ (T_br b).2.1 := by decide +kernel
theorem ty_br_ok : ∀ k, k < 7 → parseFieldDescriptor (T_br k).2.2.1 = some (ty_br k) := by decide +kernel
abbrev R_mo : String := "BitRingsModel"
def T_mo : u_T := fun k => match k with
  | 0 => ("BitRingsModel", "fault", "I", false)
  | 1 => ("BitRingsModel", "trace", "I", false)
  | 2 => ("BitRingsModel", "n", "I", false)
  | 3 => ("BitRingsModel", "feedback", "[I", true)
  | 4 => ("BitRingsModel", "isFound", "Z", false)
  | 5 => ("BitRingsModel", "rings", "I", false)
  | 6 => ("BitRingsModel", "ringLeast", "[I", true)
  | 7 => ("BitRingsModel", "ringLong", "[I", true)
  | 8 => ("BitRingsModel", "ringOf", "[I", true)
  | 9 => ("BitRingsModel", "behind", "[I", true)
  | 10 => ("BitRingsModel", "placeOf", "[I", true)
  | 11 => ("BitRingsModel", "ledTo", "[I", true)
  | 12 => ("BitRingsModel", "queue", "[I", true)
  | 13 => ("BitRingsModel", "lanes", "[I", true)
  | 14 => ("BitRingsModel", "sheetLong", "[I", true)
  | 15 => ("BitRingsModel", "cells", "[J", true)
  | 16 => ("BitRingsModel", "table", "[J", true)
  | 17 => ("BitRingsModel", "met", "[Z", true)
  | 18 => ("BitRingsModel", "rule", "[I", true)
  | 19 => ("BitRingsModel", "before", "[I", true)
  | _ => ("BitRingsModel", "kept", "[I", true)
def ty_mo : Nat → FieldType := fun k => match k with
  | 0 => .int
  | 1 => .int
  | 2 => .int
  | 3 => .array .int
  | 4 => .boolean
  | 5 => .int
  | 6 => .array .int
  | 7 => .array .int
  | 8 => .array .int
  | 9 => .array .int
  | 10 => .array .int
  | 11 => .array .int
  | 12 => .array .int
  | 13 => .array .int
  | 14 => .array .int
  | 15 => .array .long
  | 16 => .array .long
  | 17 => .array .boolean
  | 18 => .array .int
  | 19 => .array .int
  | _ => .array .int
theorem nm_mo : ∀ a, a < 21 → ∀ b, b < 21 → a ≠ b → (T_mo a).2.1 ≠ (T_mo b).2.1 := by decide +kernel
theorem ty_mo_ok : ∀ k, k < 21 → parseFieldDescriptor (T_mo k).2.2.1 = some (ty_mo k) := by decide +kernel
abbrev R_ji : String := "java/lang/Integer"
abbrev R_jl : String := "java/lang/Long"
abbrev R_jm : String := "java/lang/Math"
abbrev R_ja : String := "java/util/Arrays"
abbrev R_law : String := "BitRingsLaw"
abbrev classes : List vw_C := [(R_rg, T_rg, 5), (R_ri, T_ri, 11), (R_rr, T_rr, 6), (R_sh, T_sh, 3), (R_tr, T_tr, 2), (R_br, T_br, 7), (R_mo, T_mo, 21)]
/-- the words that go over every call -/
def gtb : List Cond := lw_tbl.filter goodWord
theorem mem_g {w : Cond} (i : Nat) (h : lw_tbl[i]? = some w) (hg : goodWord w = true) : w ∈ gtb := List.mem_filter.mpr ⟨List.mem_of_getElem? h, hg⟩
theorem in_rg : ∀ w ∈ u_ws R_rg T_rg 5, w ∈ gtb := by decide +kernel
theorem in_ri : ∀ w ∈ u_ws R_ri T_ri 11, w ∈ gtb := by decide +kernel
theorem in_rr : ∀ w ∈ u_ws R_rr T_rr 6, w ∈ gtb := by decide +kernel
theorem in_sh : ∀ w ∈ u_ws R_sh T_sh 3, w ∈ gtb := by decide +kernel
theorem in_tr : ∀ w ∈ u_ws R_tr T_tr 2, w ∈ gtb := by decide +kernel
theorem in_br : ∀ w ∈ u_ws R_br T_br 7, w ∈ gtb := by decide +kernel
theorem in_mo : ∀ w ∈ u_ws R_mo T_mo 21, w ∈ gtb := by decide +kernel
/-- a method: its name, code, locals, answer; the frames and locals that its calls need -/
abbrev MI : Type := MethodName × ByteArray × Nat × Option FieldType × Nat × Nat
def M_rg_init : MI := (⟨R_rg, "<init>", "()V"⟩, prog_2_method_1_code, 1, none, 1, 12)
def M_rg_has : MI := (⟨R_rg, "has", "(I)Z"⟩, prog_2_method_2_code, 2, (some .boolean), 0, 0)
def M_rg_hasRun : MI := (⟨R_rg, "hasRun", "(II)Z"⟩, prog_2_method_3_code, 3, (some .boolean), 0, 0)
def M_rg_restart : MI := (⟨R_rg, "restart", "(I)V"⟩, prog_2_method_4_code, 2, none, 1, 23)
def M_rg_write : MI := (⟨R_rg, "write", "(II)V"⟩, prog_2_method_5_code, 3, none, 0, 0)
def M_rg_lead : MI := (⟨R_rg, "lead", "(II)I"⟩, prog_2_method_6_code, 3, (some .int), 0, 0)
def M_rg_next : MI := (⟨R_rg, "next", "(I)I"⟩, prog_2_method_7_code, 2, (some .int), 1, 22)
def M_rg_walk : MI := (⟨R_rg, "walk", "(II)I"⟩, prog_2_method_8_code, 5, (some .int), 2, 43)
def M_rg_evenBefore : MI := (⟨R_rg, "evenBefore", "(I)I"⟩, prog_2_method_9_code, 2, (some .int), 0, 0)
def M_rg_countBefore : MI := (⟨R_rg, "countBefore", "(I)I"⟩, prog_2_method_10_code, 4, (some .int), 1, 21)
def M_rg_isPure : MI := (⟨R_rg, "isPure", "()Z"⟩, prog_2_method_11_code, 2, (some .boolean), 0, 0)
def M_rg_countOnes : MI := (⟨R_rg, "countOnes", "()I"⟩, prog_2_method_12_code, 3, (some .int), 0, 0)
def M_rg_turnPair : MI := (⟨R_rg, "turnPair", "(I)V"⟩, prog_2_method_13_code, 2, none, 1, 22)
def M_rg_fillLinear : MI := (⟨R_rg, "fillLinear", "(II)V"⟩, prog_2_method_14_code, 4, none, 1, 22)
def M_rg_fillPreferring : MI := (⟨R_rg, "fillPreferring", "(I)V"⟩, prog_2_method_15_code, 5, none, 1, 23)
def M_rg_fillFrom : MI := (⟨R_rg, "fillFrom", "(LBitRings$Sheet;)V"⟩, prog_2_method_16_code, 5, none, 1, 22)
def M_ri_init : MI := (⟨R_ri, "<init>", "()V"⟩, prog_3_method_1_code, 1, none, 1, 12)
def M_ri_has : MI := (⟨R_ri, "has", "(I)Z"⟩, prog_3_method_2_code, 2, (some .boolean), 0, 0)
def M_ri_find : MI := (⟨R_ri, "find", "(LBitRings$Register;)V"⟩, prog_3_method_3_code, 2, none, 4, 89)
def M_ri_peel : MI := (⟨R_ri, "peel", "(LBitRings$Register;)V"⟩, prog_3_method_4_code, 4, none, 2, 44)
def M_ri_nameRings : MI := (⟨R_ri, "nameRings", "(LBitRings$Register;)V"⟩, prog_3_method_5_code, 3, none, 3, 67)
def M_ri_nameRing : MI := (⟨R_ri, "nameRing", "(LBitRings$Register;I)V"⟩, prog_3_method_6_code, 5, none, 2, 43)
def M_ri_nameBehind : MI := (⟨R_ri, "nameBehind", "(LBitRings$Register;)V"⟩, prog_3_method_7_code, 5, none, 2, 43)
def M_ri_sizeAround : MI := (⟨R_ri, "sizeAround", "(I)I"⟩, prog_3_method_8_code, 3, (some .int), 1, 21)
def M_ri_kindOf : MI := (⟨R_ri, "kindOf", "(I)I"⟩, prog_3_method_9_code, 2, (some .int), 2, 43)
def M_ri_stepsThatMatter : MI := (⟨R_ri, "stepsThatMatter", "(IJ)I"⟩, prog_3_method_10_code, 4, (some .int), 2, 43)
def M_ri_countOnesOut : MI := (⟨R_ri, "countOnesOut", "(LBitRings$Register;I)I"⟩, prog_3_method_11_code, 6, (some .int), 2, 43)
def M_ri_countBehind : MI := (⟨R_ri, "countBehind", "(LBitRings$Register;I)I"⟩, prog_3_method_12_code, 5, (some .int), 0, 0)
def M_ri_likeness : MI := (⟨R_ri, "likeness", "(LBitRings$Register;II)I"⟩, prog_3_method_13_code, 8, (some .int), 3, 67)
def M_ri_joinAll : MI := (⟨R_ri, "joinAll", "(LBitRings$Register;)I"⟩, prog_3_method_14_code, 7, (some .int), 2, 43)
def M_ri_regroup : MI := (⟨R_ri, "regroup", "([III)V"⟩, prog_3_method_15_code, 4, none, 0, 0)
def M_rr_init : MI := (⟨R_rr, "<init>", "()V"⟩, prog_4_method_1_code, 1, none, 1, 12)
def M_rr_linearOrder : MI := (⟨R_rr, "linearOrder", "(LBitRings$Sheet;I)I"⟩, prog_4_method_2_code, 6, (some .int), 2, 44)
def M_rr_shiftIn : MI := (⟨R_rr, "shiftIn", "([JJ)V"⟩, prog_4_method_3_code, 8, none, 0, 0)
def M_rr_ruleFails : MI := (⟨R_rr, "ruleFails", "()Z"⟩, prog_4_method_4_code, 4, (some .boolean), 1, 21)
def M_rr_correctRule : MI := (⟨R_rr, "correctRule", "(Z)V"⟩, prog_4_method_5_code, 5, none, 0, 0)
def M_rr_greatestOrder : MI := (⟨R_rr, "greatestOrder", "(LBitRings$Sheet;I)I"⟩, prog_4_method_6_code, 4, (some .int), 3, 73)
def M_rr_splitMarks : MI := (⟨R_rr, "splitMarks", "(LBitRings$Sheet;II)Z"⟩, prog_4_method_7_code, 8, (some .boolean), 2, 46)
def M_rr_leastPeriod : MI := (⟨R_rr, "leastPeriod", "(LBitRings$Sheet;)I"⟩, prog_4_method_8_code, 6, (some .int), 1, 21)
def M_sh_init : MI := (⟨R_sh, "<init>", "()V"⟩, prog_5_method_1_code, 1, none, 1, 12)
def M_sh_isNothing : MI := (⟨R_sh, "isNothing", "()Z"⟩, prog_5_method_2_code, 1, (some .boolean), 0, 0)
def M_sh_isOfOtherLane : MI := (⟨R_sh, "isOfOtherLane", "(I)Z"⟩, prog_5_method_3_code, 2, (some .boolean), 0, 0)
def M_sh_hasCells : MI := (⟨R_sh, "hasCells", "(II)Z"⟩, prog_5_method_4_code, 3, (some .boolean), 0, 0)
def M_sh_renew : MI := (⟨R_sh, "renew", "(II)V"⟩, prog_5_method_5_code, 3, none, 1, 24)
def M_sh_drop : MI := (⟨R_sh, "drop", "()V"⟩, prog_5_method_6_code, 1, none, 0, 0)
def M_sh_write : MI := (⟨R_sh, "write", "(IJ)V"⟩, prog_5_method_7_code, 4, none, 0, 0)
def M_sh_bitAt : MI := (⟨R_sh, "bitAt", "(I)I"⟩, prog_5_method_8_code, 2, (some .int), 0, 0)
def M_sh_becomeThinned : MI := (⟨R_sh, "becomeThinned", "(LBitRings$Sheet;I)V"⟩, prog_5_method_9_code, 5, none, 0, 0)
def M_sh_mixWith : MI := (⟨R_sh, "mixWith", "(LBitRings$Sheet;I)I"⟩, prog_5_method_10_code, 7, (some .int), 1, 23)
def M_tr_init : MI := (⟨R_tr, "<init>", "()V"⟩, prog_6_method_1_code, 1, none, 1, 12)
def M_tr_count : MI := (⟨R_tr, "count", "(LBitRings$Register;LBitRings$Rings;)I"⟩, prog_6_method_2_code, 6, (some .int), 2, 54)
def M_tr_clear : MI := (⟨R_tr, "clear", "()V"⟩, prog_6_method_3_code, 1, none, 1, 24)
def M_tr_addPair : MI := (⟨R_tr, "addPair", "(II)V"⟩, prog_6_method_4_code, 3, none, 1, 25)
def M_tr_add : MI := (⟨R_tr, "add", "(IIJ)V"⟩, prog_6_method_5_code, 6, none, 0, 0)
def M_tr_determinant : MI := (⟨R_tr, "determinant", "()J"⟩, prog_6_method_6_code, 7, (some .long), 1, 28)
def M_tr_pivotRow : MI := (⟨R_tr, "pivotRow", "(I)I"⟩, prog_6_method_7_code, 3, (some .int), 0, 0)
def M_tr_swapRows : MI := (⟨R_tr, "swapRows", "(II)V"⟩, prog_6_method_8_code, 6, none, 0, 0)
def M_tr_clearBelow : MI := (⟨R_tr, "clearBelow", "(IJ)V"⟩, prog_6_method_9_code, 9, none, 0, 0)
def M_tr_inverse : MI := (⟨R_tr, "inverse", "(J)J"⟩, prog_6_method_10_code, 7, (some .long), 0, 0)
def M_br_init : MI := (⟨R_br, "<init>", "()V"⟩, prog_1_method_1_code, 2, none, 2, 32)
def M_br_length : MI := (⟨R_br, "length", "(I)I"⟩, prog_1_method_2_code, 3, (some .int), 2, 44)
def M_br_set : MI := (⟨R_br, "set", "(II)I"⟩, prog_1_method_3_code, 4, (some .int), 1, 22)
def M_br_linear : MI := (⟨R_br, "linear", "(II)I"⟩, prog_1_method_4_code, 3, (some .int), 2, 45)
def M_br_take : MI := (⟨R_br, "take", "(IIIII)I"⟩, prog_1_method_5_code, 8, (some .int), 1, 22)
def M_br_feedback : MI := (⟨R_br, "feedback", "(I)I"⟩, prog_1_method_6_code, 2, (some .int), 1, 21)
def M_br_step : MI := (⟨R_br, "step", "(IJ)I"⟩, prog_1_method_7_code, 4, (some .int), 6, 130)
def M_br_back : MI := (⟨R_br, "back", "(II)I"⟩, prog_1_method_8_code, 6, (some .int), 2, 44)
def M_br_about : MI := (⟨R_br, "about", "(II)I"⟩, prog_1_method_9_code, 3, (some .int), 6, 130)
def M_br_ring : MI := (⟨R_br, "ring", "(II)I"⟩, prog_1_method_10_code, 4, (some .int), 6, 130)
def M_br_told : MI := (⟨R_br, "told", "(I)I"⟩, prog_1_method_11_code, 2, (some .int), 6, 130)
def M_br_turn : MI := (⟨R_br, "turn", "(I)I"⟩, prog_1_method_12_code, 2, (some .int), 6, 130)
def M_br_join : MI := (⟨R_br, "join", "()I"⟩, prog_1_method_13_code, 1, (some .int), 6, 130)
def M_br_ways : MI := (⟨R_br, "ways", "()I"⟩, prog_1_method_14_code, 1, (some .int), 6, 130)
def M_br_prefer : MI := (⟨R_br, "prefer", "(I)I"⟩, prog_1_method_15_code, 2, (some .int), 2, 47)
def M_br_sheet : MI := (⟨R_br, "sheet", "(III)I"⟩, prog_1_method_16_code, 4, (some .int), 2, 46)
def M_br_lose : MI := (⟨R_br, "lose", "(I)I"⟩, prog_1_method_17_code, 3, (some .int), 1, 20)
def M_br_put : MI := (⟨R_br, "put", "(IIJ)I"⟩, prog_1_method_18_code, 6, (some .int), 1, 23)
def M_br_at : MI := (⟨R_br, "at", "(III)J"⟩, prog_1_method_19_code, 5, (some .long), 1, 22)
def M_br_out : MI := (⟨R_br, "out", "(IIII)I"⟩, prog_1_method_20_code, 8, (some .int), 2, 43)
def M_br_thin : MI := (⟨R_br, "thin", "(III)I"⟩, prog_1_method_21_code, 4, (some .int), 1, 24)
def M_br_mix : MI := (⟨R_br, "mix", "(III)I"⟩, prog_1_method_22_code, 6, (some .int), 2, 49)
def M_br_order : MI := (⟨R_br, "order", "(II)I"⟩, prog_1_method_23_code, 4, (some .int), 3, 69)
def M_br_greatest : MI := (⟨R_br, "greatest", "(II)I"⟩, prog_1_method_24_code, 4, (some .int), 4, 96)
def M_br_period : MI := (⟨R_br, "period", "(I)I"⟩, prog_1_method_25_code, 3, (some .int), 2, 46)
def M_br_learn : MI := (⟨R_br, "learn", "(I)I"⟩, prog_1_method_26_code, 5, (some .int), 4, 96)
def M_br_along : MI := (⟨R_br, "along", "(II)I"⟩, prog_1_method_27_code, 4, (some .int), 6, 130)
def M_br_tell : MI := (⟨R_br, "tell", "(I)I"⟩, prog_1_method_28_code, 3, (some .int), 6, 130)
def M_br_weigh : MI := (⟨R_br, "weigh", "(I)I"⟩, prog_1_method_29_code, 2, (some .int), 6, 130)
def M_br_as : MI := (⟨R_br, "as", "(II)I"⟩, prog_1_method_30_code, 5, (some .int), 6, 130)
def M_br_trace : MI := (⟨R_br, "trace", "()I"⟩, prog_1_method_31_code, 1, (some .int), 0, 0)
def M_br_fault : MI := (⟨R_br, "fault", "()I"⟩, prog_1_method_32_code, 1, (some .int), 0, 0)
def M_br_isBit : MI := (⟨R_br, "isBit", "(I)Z"⟩, prog_1_method_33_code, 1, (some .boolean), 0, 0)
def M_br_isSheet : MI := (⟨R_br, "isSheet", "(I)Z"⟩, prog_1_method_34_code, 1, (some .boolean), 0, 0)
def M_br_isLane : MI := (⟨R_br, "isLane", "(I)Z"⟩, prog_1_method_35_code, 1, (some .boolean), 0, 0)
def M_br_faulted : MI := (⟨R_br, "faulted", "(I)I"⟩, prog_1_method_36_code, 2, (some .int), 0, 0)
def M_br_foundRings : MI := (⟨R_br, "foundRings", "()LBitRings$Rings;"⟩, prog_1_method_37_code, 1, (some (.object "BitRings$Rings")), 5, 110)
def M_br_refusedRow : MI := (⟨R_br, "refusedRow", "(I)I"⟩, prog_1_method_38_code, 2, (some .int), 1, 21)
def M_br_refusedBits : MI := (⟨R_br, "refusedBits", "(II)I"⟩, prog_1_method_39_code, 4, (some .int), 2, 42)
def M_br_leave : MI := (⟨R_br, "leave", "(I)V"⟩, prog_1_method_40_code, 2, none, 0, 0)
def M_br_tellAlone : MI := (⟨R_br, "tellAlone", "()I"⟩, prog_1_method_41_code, 1, (some .int), 1, 21)
def M_br_tellLonger : MI := (⟨R_br, "tellLonger", "(I)I"⟩, prog_1_method_42_code, 2, (some .int), 2, 41)
def M_br_tellBehind : MI := (⟨R_br, "tellBehind", "(I)I"⟩, prog_1_method_43_code, 2, (some .int), 2, 41)
def M_br_weighLent : MI := (⟨R_br, "weighLent", "(I)I"⟩, prog_1_method_44_code, 2, (some .int), 1, 21)
def M_br_weighBehind : MI := (⟨R_br, "weighBehind", "()I"⟩, prog_1_method_45_code, 1, (some .int), 1, 21)
def M_mo_init : MI := (⟨R_mo, "<init>", "()V"⟩, prog_8_method_1_code, 1, none, 1, 12)
def M_mo_fails : MI := (⟨R_mo, "fails", "(I)I"⟩, prog_8_method_3_code, 2, (some .int), 0, 0)
def M_mo_lost : MI := (⟨R_mo, "lost", "(I)J"⟩, prog_8_method_4_code, 2, (some .long), 0, 0)
def M_mo_within : MI := (⟨R_mo, "within", "(JJJ)Z"⟩, prog_8_method_5_code, 6, (some .boolean), 0, 0)
def M_mo_states : MI := (⟨R_mo, "states", "()I"⟩, prog_8_method_6_code, 1, (some .int), 0, 0)
def M_mo_isState : MI := (⟨R_mo, "isState", "(I)Z"⟩, prog_8_method_7_code, 2, (some .boolean), 1, 20)
def M_mo_next : MI := (⟨R_mo, "next", "(I)I"⟩, prog_8_method_8_code, 2, (some .int), 1, 20)
def M_mo_find : MI := (⟨R_mo, "find", "()V"⟩, prog_8_method_9_code, 6, none, 2, 41)
def M_mo_length : MI := (⟨R_mo, "length", "(I)I"⟩, prog_8_method_10_code, 4, (some .int), 1, 25)
def M_mo_set : MI := (⟨R_mo, "set", "(II)I"⟩, prog_8_method_11_code, 4, (some .int), 2, 41)
def M_mo_ones : MI := (⟨R_mo, "ones", "()I"⟩, prog_8_method_12_code, 3, (some .int), 1, 20)
def M_mo_linear : MI := (⟨R_mo, "linear", "(II)I"⟩, prog_8_method_13_code, 6, (some .int), 2, 42)
def M_mo_bit : MI := (⟨R_mo, "bit", "(II)I"⟩, prog_8_method_14_code, 3, (some .int), 0, 0)
def M_mo_isSheet : MI := (⟨R_mo, "isSheet", "(I)Z"⟩, prog_8_method_15_code, 1, (some .boolean), 0, 0)
def M_mo_take : MI := (⟨R_mo, "take", "(IIIII)I"⟩, prog_8_method_16_code, 7, (some .int), 2, 41)
def M_mo_feedback : MI := (⟨R_mo, "feedback", "(I)I"⟩, prog_8_method_17_code, 2, (some .int), 2, 41)
def M_mo_step : MI := (⟨R_mo, "step", "(IJ)I"⟩, prog_8_method_18_code, 7, (some .int), 3, 66)
def M_mo_back : MI := (⟨R_mo, "back", "(II)I"⟩, prog_8_method_19_code, 6, (some .int), 2, 41)
def M_mo_about : MI := (⟨R_mo, "about", "(II)I"⟩, prog_8_method_20_code, 3, (some .int), 3, 66)
def M_mo_ring : MI := (⟨R_mo, "ring", "(II)I"⟩, prog_8_method_21_code, 5, (some .int), 3, 66)
def M_mo_isPure : MI := (⟨R_mo, "isPure", "()Z"⟩, prog_8_method_22_code, 3, (some .boolean), 1, 20)
def M_mo_told : MI := (⟨R_mo, "told", "(I)I"⟩, prog_8_method_23_code, 4, (some .int), 3, 66)
def M_mo_turnPair : MI := (⟨R_mo, "turnPair", "(I)V"⟩, prog_8_method_24_code, 2, none, 3, 66)
def M_mo_turn : MI := (⟨R_mo, "turn", "(I)I"⟩, prog_8_method_25_code, 2, (some .int), 4, 87)
def M_mo_join : MI := (⟨R_mo, "join", "()I"⟩, prog_8_method_26_code, 3, (some .int), 4, 87)
def M_mo_inverse : MI := (⟨R_mo, "inverse", "(J)J"⟩, prog_8_method_27_code, 7, (some .long), 0, 0)
def M_mo_addTo : MI := (⟨R_mo, "addTo", "(IIIJ)V"⟩, prog_8_method_28_code, 6, none, 0, 0)
def M_mo_determinant : MI := (⟨R_mo, "determinant", "(I)I"⟩, prog_8_method_29_code, 12, (some .int), 1, 26)
def M_mo_ways : MI := (⟨R_mo, "ways", "()I"⟩, prog_8_method_30_code, 5, (some .int), 3, 66)
def M_mo_prefer : MI := (⟨R_mo, "prefer", "(I)I"⟩, prog_8_method_31_code, 8, (some .int), 2, 42)
def M_mo_sheet : MI := (⟨R_mo, "sheet", "(III)I"⟩, prog_8_method_32_code, 5, (some .int), 1, 25)
def M_mo_lose : MI := (⟨R_mo, "lose", "(I)I"⟩, prog_8_method_33_code, 3, (some .int), 1, 20)
def M_mo_put : MI := (⟨R_mo, "put", "(IIJ)I"⟩, prog_8_method_34_code, 5, (some .int), 1, 21)
def M_mo_at : MI := (⟨R_mo, "at", "(III)J"⟩, prog_8_method_35_code, 4, (some .long), 1, 25)
def M_mo_out : MI := (⟨R_mo, "out", "(IIII)I"⟩, prog_8_method_36_code, 7, (some .int), 2, 41)
def M_mo_thin : MI := (⟨R_mo, "thin", "(III)I"⟩, prog_8_method_37_code, 6, (some .int), 1, 25)
def M_mo_mix : MI := (⟨R_mo, "mix", "(III)I"⟩, prog_8_method_38_code, 8, (some .int), 1, 25)
def M_mo_againstBits : MI := (⟨R_mo, "againstBits", "(II)I"⟩, prog_8_method_39_code, 3, (some .int), 1, 21)
def M_mo_order : MI := (⟨R_mo, "order", "(II)I"⟩, prog_8_method_40_code, 10, (some .int), 2, 43)
def M_mo_greatestOf : MI := (⟨R_mo, "greatestOf", "(II)I"⟩, prog_8_method_41_code, 7, (some .int), 1, 22)
def M_mo_greatest : MI := (⟨R_mo, "greatest", "(II)I"⟩, prog_8_method_42_code, 4, (some .int), 2, 48)
def M_mo_period : MI := (⟨R_mo, "period", "(I)I"⟩, prog_8_method_43_code, 5, (some .int), 1, 22)
def M_mo_learn : MI := (⟨R_mo, "learn", "(I)I"⟩, prog_8_method_44_code, 6, (some .int), 2, 48)
def M_mo_along : MI := (⟨R_mo, "along", "(II)I"⟩, prog_8_method_45_code, 7, (some .int), 4, 92)
def M_mo_begins : MI := (⟨R_mo, "begins", "(I)V"⟩, prog_8_method_46_code, 2, none, 0, 0)
def M_mo_tell : MI := (⟨R_mo, "tell", "(I)I"⟩, prog_8_method_47_code, 3, (some .int), 3, 66)
def M_mo_weigh : MI := (⟨R_mo, "weigh", "(I)I"⟩, prog_8_method_48_code, 2, (some .int), 3, 66)
def M_mo_as : MI := (⟨R_mo, "as", "(II)I"⟩, prog_8_method_49_code, 4, (some .int), 3, 66)
def M_mo_trace : MI := (⟨R_mo, "trace", "()I"⟩, prog_8_method_50_code, 1, (some .int), 0, 0)
def M_mo_fault : MI := (⟨R_mo, "fault", "()I"⟩, prog_8_method_51_code, 1, (some .int), 0, 0)
def M_ji_bitCount : MI := (⟨R_ji, "bitCount", "(I)I"⟩, prog_9_method_49_code, 1, (some .int), 0, 0)
def M_jl_bitCount : MI := (⟨R_jl, "bitCount", "(J)I"⟩, prog_10_method_50_code, 2, (some .int), 0, 0)
def M_jm_max : MI := (⟨R_jm, "max", "(II)I"⟩, prog_11_method_65_code, 2, (some .int), 0, 0)
def M_jm_min : MI := (⟨R_jm, "min", "(II)I"⟩, prog_11_method_69_code, 2, (some .int), 0, 0)
def M_ja_rangeCheck : MI := (⟨R_ja, "rangeCheck", "(III)V"⟩, prog_12_method_30_code, 3, none, 0, 0)
def M_ja_fillJ : MI := (⟨R_ja, "fill", "([JJ)V"⟩, prog_12_method_101_code, 5, none, 0, 0)
def M_ja_fillI : MI := (⟨R_ja, "fill", "([II)V"⟩, prog_12_method_103_code, 4, none, 0, 0)
def M_ja_fillR : MI := (⟨R_ja, "fill", "([IIII)V"⟩, prog_12_method_104_code, 5, none, 1, 22)
def M_law_law : MI := (⟨R_law, "law", "([I)Z"⟩, code, 4, (some .boolean), 9, 312)
end
section
/-! THE ABSTRACT MACHINE: worlds are lists of regions of cells; a reference is 16 * place + region; 'ad' says where it lies -/
abbrev Wd : Type := List (List va_E)
def look (w : Wd) (k : Nat) : Option va_E := (w.getD (k % 16) [])[k / 16]?
def updw (w : Wd) (k : Nat) (e : va_E) : Wd := w.set (k % 16) ((w.getD (k % 16) []).set (k / 16) e)
def pushw (w : Wd) (r : Nat) (e : va_E) : Wd := w.set r (w.getD r [] ++ [e])
def keyw (w : Wd) (r : Nat) : Nat := 16 * (w.getD r []).length + r
def domw (w : Wd) (k : Nat) : Prop := (∃ e, look w k = some e) ∨ k = 8
def cv (ad : Nat → Nat) : Value → Value
  | .ref k => .ref (ad k)
  | v => v
def ca (ad : Nat → Nat) (x : vp_A) : vp_A := match x with
  | (n, .inr (.inr (.inr (.inr f)))) => (n, .inr (.inr (.inr (.inr (fun i => (f i).map ad)))))
  | x => x
def ce (dA : Nat → ClassId) (ad : Nat → Nat) : va_E → va_E
  | .inl (t, x) => .inl (dA t, ca ad x)
  | .inr (ci, fs) => .inr (ci, fs.map (cv ad))
def okv (w : Wd) : Value → Prop
  | .ref k => domw w k
  | _ => True
def oke (w : Wd) : va_E → Prop
  | .inl (_, (_, .inr (.inr (.inr (.inr f))))) => ∀ i k, f i = some k → domw w k
  | .inl _ => True
  | .inr (_, fs) => ∀ v ∈ fs, okv w v
/-- the heap holds the world -/
def AP (D : va_G) (dA : Nat → ClassId) (ad : Nat → Nat) (w : Wd) (H : Heap) : Prop := ∀ k e, look w k = some e → va_at D classes (ad k, ce dA ad e) H ∧ oke w e
/-- its cells are apart, and of a kind -/
def AD (A : Nat → Prop) (ad : Nat → Nat) (w : Wd) : Prop := (∀ i j e f, look w i = some e → look w j = some f → ad i = ad j → i = j) ∧ ∀ k e, look w k = some e → A (ad k)
def AE (w : Wd) (ad : Nat → Nat) (w' : Wd) (ad' : Nat → Nat) : Prop := ∀ k, domw w k → ad' k = ad k ∧ domw w' k
def AA (ad : Nat → Nat) (w : Wd) (sz : Nat) : Nat → Prop := fun q => (∃ k e, look w k = some e ∧ q = ad k) ∨ sz ≤ q
def tysA (dA : Nat → ClassId) : List (ClassId × FieldType) := [(dA 0, .int), (dA 1, .long), (dA 2, .boolean), (dA 3, .object "BitRings$Sheet")]
def nests : List Cond := [.methodLinkNest R_br 11 M_rg_init.1 R_br, .methodLinkNest R_br 20 M_ri_init.1 R_br, .methodLinkNest R_br 27 M_tr_init.1 R_br, .methodLinkNest R_br 38 M_sh_init.1 R_br, .methodLinkNest R_br 41 M_rr_init.1 R_br]
/-- what is known of the tables -/
def AK (D : va_G) (dA : Nat → ClassId) (s : State) : Prop := va_K D classes (tysA dA) s ∧ va_AO "BitRings$Sheet" s ∧ ∀ w ∈ nests, va_Nw w s
theorem nests_form : ∀ w ∈ nests, ∃ a i x h, w = .methodLinkNest a i x h := by
  intro w hw
  simp only [nests, List.mem_cons, List.not_mem_nil, or_false] at hw
  rcases hw with rfl | rfl | rfl | rfl | rfl <;> exact ⟨_, _, _, _, rfl⟩
theorem AK.warm {D : va_G} {dA : Nat → ClassId} {s U : State} (hW : s.WarmedH U.vm) (h : AK D dA s) : AK D dA U := by
  refine ⟨va_K.moved hW.alike h.1, va_AO.moved hW.alike h.2.1, fun w hw => ?_⟩
  have h3 := h.2.2 w hw
  obtain ⟨a, i, x, hh, rfl⟩ := nests_form w hw
  exact va_Nw.warmM hW h3
theorem AK.same {D : va_G} {dA : Nat → ClassId} {s U : State} (hv : s.vm = U.vm) (h : AK D dA s) : AK D dA U := by
  have ha : s.vm.Alike U.vm := by rw [hv]; exact Vm.Alike.refl _
  refine ⟨va_K.moved ha h.1, va_AO.moved ha h.2.1, fun w hw => ?_⟩
  have h3 := h.2.2 w hw
  obtain ⟨a, i, x, hh, rfl⟩ := nests_form w hw
  exact va_Nw.same rfl hv h3
/-! ### plain facts of worlds -/
theorem getD_set {α : Type} (l : List (List α)) (i j : Nat) (x : List α) (h : i < l.length) : (l.set i x).getD j [] = if i = j then x else l.getD j [] := by
  by_cases e : i = j
  · subst e
    simp [List.getD_eq_getElem?_getD, h]
  · simp [List.getD_eq_getElem?_getD, e, List.getElem?_set_ne]
theorem getD_lt {α : Type} {l : List (List α)} {i j : Nat} {e : α} (h : (l.getD i [])[j]? = some e) : i < l.length := by
  rcases Nat.lt_or_ge i l.length with q | q
  · exact q
  · rw [List.getD_eq_getElem?_getD, List.getElem?_eq_none q] at h
    simp at h
theorem look_updw {w : Wd} {k : Nat} {e0 : va_E} (h : look w k = some e0) (e : va_E) (j : Nat) : look (updw w k e) j = if j = k then some e else look w j := by
  unfold look updw
  have hl : k % 16 < w.length := getD_lt h
  have hl2 : k / 16 < (w.getD (k % 16) []).length := (List.getElem?_eq_some_iff.mp h).1
  rw [getD_set _ _ _ _ hl]
  by_cases hj : j = k
  · subst hj
    rw [if_pos rfl, if_pos rfl, List.getElem?_set_self hl2]
  · rw [if_neg hj]
    by_cases hr : k % 16 = j % 16
    · rw [if_pos hr, List.getElem?_set_ne (by omega), hr]
    · rw [if_neg hr]
theorem look_pushw {w : Wd} {r : Nat} (hr : r < 16) (hl : r < w.length) (e : va_E) (j : Nat) : look (pushw w r e) j = if j = keyw w r then some e else look w j := by
  unfold look pushw keyw
  rw [getD_set _ _ _ _ hl]
  by_cases hj : j = 16 * (w.getD r []).length + r
  · have h1 : j % 16 = r := by omega
    have h2 : j / 16 = (w.getD r []).length := by omega
    rw [if_pos hj, h1, if_pos rfl, h2, List.getElem?_append_right (Nat.le_refl _)]
    simp
  · rw [if_neg hj]
    by_cases hq : r = j % 16
    · rw [if_pos hq]
      have h3 : j / 16 ≠ (w.getD r []).length := by omega
      rcases Nat.lt_or_ge (j / 16) (w.getD r []).length with q | q
      · rw [List.getElem?_append_left q, hq]
      · rw [List.getElem?_append_right q, ← hq, List.getElem?_eq_none (l := w.getD r []) q]
        rw [List.getElem?_eq_none]
        show 1 ≤ _
        omega
    · rw [if_neg hq]
theorem look_key {w : Wd} {r : Nat} (hr : r < 16) : look w (keyw w r) = none := by
  unfold look keyw
  rw [show (16 * (w.getD r []).length + r) % 16 = r by omega, show (16 * (w.getD r []).length + r) / 16 = (w.getD r []).length by omega]
  simp
theorem domw_updw {w : Wd} {k : Nat} {e0 e : va_E} (h : look w k = some e0) {j : Nat} (hj : domw w j) : domw (updw w k e) j := by
  rcases hj with ⟨f, hf⟩ | hj
  · refine Or.inl ?_
    rw [look_updw h]
    by_cases q : j = k
    · rw [if_pos q]; exact ⟨_, rfl⟩
    · rw [if_neg q]; exact ⟨f, hf⟩
  · exact Or.inr hj
theorem domw_pushw {w : Wd} {r : Nat} (hr : r < 16) (hl : r < w.length) {e : va_E} {j : Nat} (hj : domw w j) : domw (pushw w r e) j := by
  rcases hj with ⟨f, hf⟩ | hj
  · refine Or.inl ?_
    rw [look_pushw hr hl]
    by_cases q : j = keyw w r
    · rw [if_pos q]; exact ⟨_, rfl⟩
    · rw [if_neg q]; exact ⟨f, hf⟩
  · exact Or.inr hj
theorem okv_mono {w w' : Wd} (h : ∀ k, domw w k → domw w' k) {v : Value} (hv : okv w v) : okv w' v := by
  cases v <;> first | exact h _ hv | exact True.intro
theorem oke_mono {w w' : Wd} (h : ∀ k, domw w k → domw w' k) {e : va_E} (he : oke w e) : oke w' e := by
  rcases e with ⟨t, n, f | f | f | f | f⟩ | ⟨ci, fs⟩
  · exact True.intro
  · exact True.intro
  · exact True.intro
  · exact True.intro
  · exact fun i k hk => h k (he i k hk)
  · exact fun v hv => okv_mono h (he v hv)
theorem cv_ext {ad ad' : Nat → Nat} {w : Wd} (h : ∀ k, domw w k → ad' k = ad k) {v : Value} (hv : okv w v) : cv ad' v = cv ad v := by
  cases v <;> first | rfl | (show Value.ref _ = Value.ref _; rw [h _ hv])
theorem cv_cat (ad : Nat → Nat) (v : Value) : (cv ad v).category = v.category := by cases v <;> rfl
theorem ce_ext {dA : Nat → ClassId} {ad ad' : Nat → Nat} {w : Wd} (h : ∀ k, domw w k → ad' k = ad k) {e : va_E} (he : oke w e) : ce dA ad' e = ce dA ad e := by
  rcases e with ⟨t, n, f | f | f | f | f⟩ | ⟨ci, fs⟩
  · rfl
  · rfl
  · rfl
  · rfl
  · show Sum.inl (dA t, (n, _)) = Sum.inl (dA t, (n, _))
    have : (fun i => (f i).map ad') = (fun i => (f i).map ad) := by
      funext i
      cases hf : f i with
      | none => rfl
      | some k => show some (ad' k) = some (ad k); rw [h k (he i k hf)]
    rw [this]
  · show Sum.inr (ci, fs.map (cv ad')) = Sum.inr (ci, fs.map (cv ad))
    rw [List.map_congr_left (fun v hv => cv_ext h (he v hv))]
theorem map_ext {ad ad' : Nat → Nat} {w : Wd} (h : ∀ k, domw w k → ad' k = ad k) {st : List Value} (hs : ∀ v ∈ st, okv w v) : st.map (cv ad') = st.map (cv ad) := List.map_congr_left (fun v hv => cv_ext h (hs v hv))
theorem AP.upd {D : va_G} {dA : Nat → ClassId} {ad : Nat → Nat} {w : Wd} {H H1 : Heap} {A : Nat → Prop} (hP : AP D dA ad w H) (hD : AD A ad w) {k : Nat} {e0 e : va_E} (h : look w k = some e0) (he : va_at D classes (ad k, ce dA ad e) H1) (ho : oke w e) (oq : ∀ q : Nat, q ≠ ad k → H1[q]? = H[q]?) : AP D dA ad (updw w k e) H1 := by
  intro j f hf
  rw [look_updw h] at hf
  have hm : ∀ j, domw w j → domw (updw w k e) j := fun j => domw_updw h
  by_cases q : j = k
  · rw [if_pos q] at hf
    cases hf
    subst q
    exact ⟨he, oke_mono hm ho⟩
  · rw [if_neg q] at hf
    obtain ⟨h1, h2⟩ := hP j f hf
    exact ⟨h1.kept (oq _ (fun z => q (hD.1 j k f e0 hf h z))), oke_mono hm h2⟩
theorem AD.upd {ad : Nat → Nat} {w : Wd} {A : Nat → Prop} (hD : AD A ad w) {k : Nat} {e0 e : va_E} (h : look w k = some e0) : AD A ad (updw w k e) := by
  have key : ∀ j f, look (updw w k e) j = some f → ∃ g, look w j = some g := by
    intro j f hf
    rw [look_updw h] at hf
    by_cases q : j = k
    · subst q; exact ⟨e0, h⟩
    · rw [if_neg q] at hf; exact ⟨f, hf⟩
  refine ⟨fun i j a b hi hj hij => ?_, fun j a hj => ?_⟩
  · obtain ⟨a', ha⟩ := key i a hi
    obtain ⟨b', hb⟩ := key j b hj
    exact hD.1 i j a' b' ha hb hij
  · obtain ⟨a', ha⟩ := key j a hj
    exact hD.2 j a' ha
theorem AP.lt {D : va_G} {dA : Nat → ClassId} {ad : Nat → Nat} {w : Wd} {H : Heap} (hP : AP D dA ad w H) {k : Nat} {e : va_E} (h : look w k = some e) : ad k < H.size := (hP k e h).1.lt
/-- a new cell at the heap's end -/
def adn (ad : Nat → Nat) (k q : Nat) : Nat → Nat := fun j => if j = k then q else ad j
theorem adn_dom {ad : Nat → Nat} {w : Wd} {r q : Nat} (hr : r < 16) (h8 : r ≠ 8) {j : Nat} (hj : domw w j) : adn ad (keyw w r) q j = ad j := by
  unfold adn
  rw [if_neg]
  rintro rfl
  rcases hj with ⟨e, he⟩ | hj
  · rw [look_key hr] at he; cases he
  · unfold keyw at hj; omega
theorem adn_self {ad : Nat → Nat} {k q : Nat} : adn ad k q k = q := if_pos rfl
theorem AP.push {D : va_G} {dA : Nat → ClassId} {ad : Nat → Nat} {w : Wd} {H H1 : Heap} (hP : AP D dA ad w H) {r : Nat} (hr : r < 16) (h8 : r ≠ 8) (hl : r < w.length) {e : va_E} (he : va_at D classes (H.size, ce dA ad e) H1) (ho : oke w e) (oq : ∀ q : Nat, q < H.size → H1[q]? = H[q]?) : AP D dA (adn ad (keyw w r) H.size) (pushw w r e) H1 := by
  have hm : ∀ j, domw w j → domw (pushw w r e) j := fun j => domw_pushw hr hl
  have hx : ∀ j, domw w j → adn ad (keyw w r) H.size j = ad j := fun j => adn_dom hr h8
  intro j f hf
  rw [look_pushw hr hl] at hf
  by_cases q : j = keyw w r
  · rw [if_pos q] at hf
    cases hf
    subst q
    rw [adn_self, ce_ext hx ho]
    exact ⟨he, oke_mono hm ho⟩
  · rw [if_neg q] at hf
    obtain ⟨h1, h2⟩ := hP j f hf
    rw [hx j (Or.inl ⟨f, hf⟩), ce_ext hx h2]
    exact ⟨h1.kept (oq _ h1.lt), oke_mono hm h2⟩
theorem AD.push {D : va_G} {dA : Nat → ClassId} {ad : Nat → Nat} {w : Wd} {H : Heap} {A : Nat → Prop} (hD : AD A ad w) (hP : AP D dA ad w H) {r : Nat} (hr : r < 16) (h8 : r ≠ 8) (hl : r < w.length) {e : va_E} (hA : A H.size) : AD A (adn ad (keyw w r) H.size) (pushw w r e) := by
  have hx : ∀ j, domw w j → adn ad (keyw w r) H.size j = ad j := fun j => adn_dom hr h8
  have key : ∀ j f, look (pushw w r e) j = some f → (j = keyw w r ∧ adn ad (keyw w r) H.size j = H.size) ∨ (∃ g, look w j = some g ∧ adn ad (keyw w r) H.size j = ad j ∧ ad j < H.size) := by
    intro j f hf
    rw [look_pushw hr hl] at hf
    by_cases q : j = keyw w r
    · exact Or.inl ⟨q, by rw [q, adn_self]⟩
    · rw [if_neg q] at hf
      exact Or.inr ⟨f, hf, hx j (Or.inl ⟨f, hf⟩), hP.lt hf⟩
  refine ⟨fun i j a b hi hj hij => ?_, fun j a hj => ?_⟩
  · rcases key i a hi with ⟨i1, i2⟩ | ⟨g, i1, i2, i3⟩ <;> rcases key j b hj with ⟨j1, j2⟩ | ⟨g', j1, j2, j3⟩
    · rw [i1, j1]
    · omega
    · omega
    · exact hD.1 i j g g' i1 j1 (by rw [← i2, ← j2]; exact hij)
  · rcases key j a hj with ⟨i1, i2⟩ | ⟨g, i1, i2, i3⟩
    · rw [i2]; exact hA
    · rw [i2]; exact hD.2 j g i1
theorem AE.rf (w : Wd) (ad : Nat → Nat) : AE w ad w ad := fun _ h => ⟨rfl, h⟩
theorem AE.trans {w0 w w' : Wd} {ad0 ad ad' : Nat → Nat} (h1 : AE w0 ad0 w ad) (h2 : AE w ad w' ad') : AE w0 ad0 w' ad' := fun k hk => by
  obtain ⟨a1, a2⟩ := h1 k hk
  obtain ⟨b1, b2⟩ := h2 k a2
  exact ⟨b1.trans a1, b2⟩
theorem AE.upd {w : Wd} {ad : Nat → Nat} {k : Nat} {e0 e : va_E} (h : look w k = some e0) : AE w ad (updw w k e) ad := fun _ hj => ⟨rfl, domw_updw h hj⟩
theorem AE.push {w : Wd} {ad : Nat → Nat} {r q : Nat} {e : va_E} (hr : r < 16) (h8 : r ≠ 8) (hl : r < w.length) : AE w ad (pushw w r e) (adn ad (keyw w r) q) := fun _ hj => ⟨adn_dom hr h8 hj, domw_pushw hr hl hj⟩
end
section
/-! ### locals -/
def lk : List (Nat × Value) → Nat → Option Value
  | [], _ => none
  | q :: l, i => bif Nat.beq q.1 i then some q.2 else lk l i
def lset : List (Nat × Value) → Nat → Value → List (Nat × Value)
  | [], i, v => [(i, v)]
  | q :: l, i, v => bif Nat.beq q.1 i then (i, v) :: l else q :: lset l i v
/-- nothing that a store into i (and i + 1) would spoil, but i itself once -/
def lbad (q : Nat × Value) (i : Nat) (two : Bool) : Bool := (Nat.beq (q.1 + 1) i && Nat.beq q.2.category 2) || (two && Nat.beq q.1 (i + 1))
def lsok : List (Nat × Value) → Nat → Bool → Bool
  | [], _, _ => true
  | q :: l, i, two => bif Nat.beq q.1 i then l.all (fun q => !Nat.beq q.1 i && !lbad q i two) else (!lbad q i two && lsok l i two)
def lc (ad : Nat → Nat) (q : Nat × Value) : Nat × Value := (q.1, cv ad q.2)
theorem lk_mem {L : List (Nat × Value)} {i : Nat} {v : Value} (h : lk L i = some v) : (i, v) ∈ L := by
  induction L with
  | nil => cases h
  | cons q l ih =>
    unfold lk at h
    cases hb : Nat.beq q.1 i with
    | true =>
      rw [hb] at h
      have e := Nat.eq_of_beq_eq_true hb
      cases h
      subst e
      exact List.mem_cons_self
    | false =>
      rw [hb] at h
      exact List.mem_cons_of_mem _ (ih h)
theorem lset_mem {L : List (Nat × Value)} {i : Nat} {v : Value} {two : Bool} (hok : lsok L i two = true) {q : Nat × Value} (h : q ∈ lset L i v) : q = (i, v) ∨ (q ∈ L ∧ q.1 ≠ i ∧ lbad q i two = false) := by
  induction L with
  | nil => exact Or.inl (List.mem_singleton.mp h)
  | cons a l ih =>
    unfold lset at h
    unfold lsok at hok
    cases hb : Nat.beq a.1 i with
    | true =>
      rw [hb] at h hok
      rcases List.mem_cons.mp h with h | h
      · exact Or.inl h
      · have h2 := List.all_eq_true.mp hok q h
        simp only [Bool.and_eq_true, Bool.not_eq_true'] at h2
        exact Or.inr ⟨List.mem_cons_of_mem _ h, Nat.ne_of_beq_eq_false h2.1, h2.2⟩
    | false =>
      rw [hb] at h hok
      simp only [cond_false, Bool.and_eq_true, Bool.not_eq_true'] at hok
      rcases List.mem_cons.mp h with h | h
      · subst h
        exact Or.inr ⟨List.mem_cons_self, Nat.ne_of_beq_eq_false hb, hok.1⟩
      · rcases ih hok.2 h with h | ⟨h1, h2⟩
        · exact Or.inl h
        · exact Or.inr ⟨List.mem_cons_of_mem _ h1, h2⟩
theorem beqq (a b : Nat) : Nat.beq a b = (a == b) := by
  cases h : Nat.beq a b with
  | true => have := Nat.eq_of_beq_eq_true h; simp [this]
  | false => have := Nat.ne_of_beq_eq_false h; simp [this]
theorem lv_put {ls : Array Slot} {n : Nat} {ad : Nat → Nat} {L : List (Nat × Value)} {i : Nat} {v : Value} (hok : lsok L i false = true)
    (h : lv_has ls n ((i, cv ad v) :: (L.map (lc ad)).filter (fun q => !(q.1 == i) && !(q.1 + 1 == i && q.2.category == 2)))) : lv_has ls n ((lset L i v).map (lc ad)) := by
  refine ⟨h.1, h.2.1, fun q hq => ?_⟩
  obtain ⟨q', hq', rfl⟩ := List.mem_map.mp hq
  rcases lset_mem hok hq' with rfl | ⟨h1, h2, h3⟩
  · exact h.2.2 _ List.mem_cons_self
  · refine h.2.2 _ (List.mem_cons_of_mem _ (List.mem_filter.mpr ⟨List.mem_map.mpr ⟨q', h1, rfl⟩, ?_⟩))
    have e2 : (cv ad q'.2).category = q'.2.category := cv_cat ad q'.2
    unfold lbad at h3
    simp only [Bool.false_and, Bool.or_false] at h3
    show (!((lc ad q').1 == i) && !((lc ad q').1 + 1 == i && (lc ad q').2.category == 2)) = true
    show (!(q'.1 == i) && !(q'.1 + 1 == i && (cv ad q'.2).category == 2)) = true
    rw [e2]
    simp only [Bool.and_eq_true, Bool.not_eq_true', beq_eq_false_iff_ne, ne_eq]
    rw [beqq, beqq] at h3
    exact ⟨h2, h3⟩
theorem lv_put2 {ls : Array Slot} {n : Nat} {ad : Nat → Nat} {L : List (Nat × Value)} {i : Nat} {v : Value} (hok : lsok L i true = true)
    (h : lv_has ls n ((i, cv ad v) :: (L.map (lc ad)).filter (fun q => !(q.1 == i) && (!(q.1 == i + 1) && !(q.1 + 1 == i && q.2.category == 2))))) : lv_has ls n ((lset L i v).map (lc ad)) := by
  refine ⟨h.1, h.2.1, fun q hq => ?_⟩
  obtain ⟨q', hq', rfl⟩ := List.mem_map.mp hq
  rcases lset_mem hok hq' with rfl | ⟨h1, h2, h3⟩
  · exact h.2.2 _ List.mem_cons_self
  · refine h.2.2 _ (List.mem_cons_of_mem _ (List.mem_filter.mpr ⟨List.mem_map.mpr ⟨q', h1, rfl⟩, ?_⟩))
    have e2 : (cv ad q'.2).category = q'.2.category := cv_cat ad q'.2
    unfold lbad at h3
    simp only [Bool.true_and, Bool.or_eq_false_iff] at h3
    show (!(q'.1 == i) && (!(q'.1 == i + 1) && !(q'.1 + 1 == i && (cv ad q'.2).category == 2))) = true
    rw [e2]
    simp only [Bool.and_eq_true, Bool.not_eq_true', beq_eq_false_iff_ne, ne_eq]
    obtain ⟨h4, h5⟩ := h3
    rw [beqq, beqq] at h4
    exact ⟨h2, Nat.ne_of_beq_eq_false h5, h4⟩
/-! ### the judgement -/
abbrev Cx (mi : MI) (p : Program) (s : State) (m : MethodId) (args : Array Value) (meth : Method) (c : Code) (D : va_G) (dA : Nat → ClassId) (A : Nat → Prop) : Prop :=
  p.tables.exec = Jvm.exec ∧ c.code = mi.2.1 ∧ meth.sig.returnType = mi.2.2.2.1 ∧ c.maxLocals = mi.2.2.1 ∧ s.vm.findClass mi.1.cls = some m.cls ∧ (∀ w ∈ gtb, w.before args s = true) ∧ meth.locks = false ∧ meth.name = mi.1.name ∧ AK D dA s ∧ (∀ q, s.heap.size ≤ q → A q)
def rtOK (ret : Option FieldType) (r : Option Value) (i : Instr) : Prop :=
  (ret = none ∧ r = none ∧ i = .return_) ∨ (∃ ty v, ret = some ty ∧ r = some (.int v) ∧ i = .ireturn ∧ narrow ty (.int v) = .int v) ∨ (∃ v, ret = some .long ∧ r = some (.long v) ∧ i = .lreturn) ∨ (∃ n k, ret = some (.object n) ∧ r = some (.ref k) ∧ i = .areturn)
abbrev rmOf (mi : MI) (MC MS : Nat) : Room := { frames := mi.2.2.2.2.1, cells := MC, slots := MS, locals := mi.2.2.2.2.2 }
abbrev Zt : Type := Option Value → Wd → Nat → Nat → Prop
abbrev Pst : Type := State → (Nat → Prop) → Nat → Prop
def Rx (mi : MI) (Z : Zt) (MC MS : Nat) (l : Launch) (p : Program) (e : Env) (s : State) (m : MethodId) (args : Array Value) (below : List Frame) (meth : Method) (c : Code) (Q : State → Prop) (D : va_G) (dA : Nat → ClassId) (A : Nat → Prop) (w0 : Wd) (ad0 : Nat → Nat) : Prop :=
  ∀ (r : Option Value) (w' : Wd) (ad' : Nat → Nat) (H' : Heap) (locs' : List Loc) (nc' ns' pc' : Nat) (ls' : Array Slot) (i : Instr), Z r w' nc' ns' → AP D dA ad' w' H' → AD A ad' w' → va_S A s.heap H' locs' → AE w0 ad0 w' ad' → (∀ v, r = some v → okv w' v) → rtOK mi.2.2.2.1 r i → decode mi.2.1 pc' = .ok (i, 1) → nc' ≤ MC → ns' ≤ MS →
    W p l e (rmOf mi MC MS) s m args below meth c H' locs' nc' ns' Q (F0 m pc' ls' (r.toList.map (cv ad')))
abbrev SR (mi : MI) (Ψ : Pst) (MC MS : Nat) (s : State) (D : va_G) (dA : Nat → ClassId) (A : Nat → Prop) (w0 : Wd) (ad0 ad : Nat → Nat) (H : Heap) (locs : List Loc) (ls : Array Slot) (L : List (Nat × Value)) (st : List Value) (w : Wd) (nc ns : Nat) : Prop :=
  Ψ s A (ad 8) ∧ AE w0 ad0 w ad ∧ AP D dA ad w H ∧ AD A ad w ∧ va_S A s.heap H locs ∧ lv_has ls mi.2.2.1 (L.map (lc ad)) ∧ (∀ q ∈ L, okv w q.2) ∧ (∀ v ∈ st, okv w v) ∧ nc ≤ MC ∧ ns ≤ MS
/-- from the abstract state the method comes to an end that Z allows -/
def AW (mi : MI) (Ψ : Pst) (Z : Zt) (MC MS : Nat) (pc : Nat) (L : List (Nat × Value)) (st : List Value) (w : Wd) (nc ns : Nat) : Prop :=
  ∀ (l : Launch) (p : Program) (e : Env) (s : State) (m : MethodId) (args : Array Value) (below : List Frame) (meth : Method) (c : Code) (Q : State → Prop) (D : va_G) (dA : Nat → ClassId) (A : Nat → Prop) (w0 : Wd) (ad0 : Nat → Nat),
    Cx mi p s m args meth c D dA A → Rx mi Z MC MS l p e s m args below meth c Q D dA A w0 ad0 → ∀ (ad : Nat → Nat) (H : Heap) (locs : List Loc) (ls : Array Slot), SR mi Ψ MC MS s D dA A w0 ad0 ad H locs ls L st w nc ns →
      W p l e (rmOf mi MC MS) s m args below meth c H locs nc ns Q (F0 m pc ls (st.map (cv ad)))
/-! ### rows: decoded instructions -/
abbrev Dc (mi : MI) (pc : Nat) (i : Instr) (n pc' : Nat) : Prop := decode mi.2.1 pc = .ok (i, n) ∧ pc + n = pc'
abbrev Dj (mi : MI) (pc : Nat) (i : Int → Instr) (pc' tgt : Nat) : Prop := ∃ off : Int, decode mi.2.1 pc = .ok (i off, 3) ∧ pc + 3 = pc' ∧ (pc : Int) + off = (tgt : Int)
abbrev Dg (mi : MI) (pc pc' ci k : Nat) (C : String) (T : u_T) (N : Nat) : Prop := ∃ idx : Nat, decode mi.2.1 pc = .ok (.getfield idx, 3) ∧ pc + 3 = pc' ∧ classes[ci]? = some (C, T, N) ∧ k < N ∧ Cond.fieldLink mi.1.cls idx (T k).1 (T k).2.1 (T k).2.2.1 ∈ gtb ∧ (∀ w ∈ u_ws C T N, w ∈ gtb)
abbrev Dp (mi : MI) (pc pc' ci k : Nat) (C : String) (T : u_T) (N : Nat) : Prop := ∃ idx : Nat, decode mi.2.1 pc = .ok (.putfield idx, 3) ∧ pc + 3 = pc' ∧ classes[ci]? = some (C, T, N) ∧ k < N ∧ Cond.fieldLink mi.1.cls idx (T k).1 (T k).2.1 (T k).2.2.1 ∈ gtb ∧ (∀ w ∈ u_ws C T N, w ∈ gtb) ∧ (T k).2.2.2 = false
abbrev Df (mi : MI) (pc pc' ci k : Nat) (C : String) (T : u_T) (N : Nat) : Prop := ∃ idx : Nat, decode mi.2.1 pc = .ok (.putfield idx, 3) ∧ pc + 3 = pc' ∧ classes[ci]? = some (C, T, N) ∧ k < N ∧ Cond.fieldLink mi.1.cls idx (T k).1 (T k).2.1 (T k).2.2.1 ∈ gtb ∧ (∀ w ∈ u_ws C T N, w ∈ gtb) ∧ (T k).2.2.2 = true
abbrev Do (mi : MI) (pc pc' : Nat) : Prop := ∃ idx : Nat, decode mi.2.1 pc = .ok (.invokespecial idx, 3) ∧ pc + 3 = pc' ∧ Cond.methodLink mi.1.cls idx objectInit ∈ gtb ∧ Cond.instanceMethod objectInit ∈ gtb ∧ Cond.code objectInit ⟨#[0xb1]⟩ 1 none ∈ gtb ∧ 1 ≤ mi.2.2.2.2.1 ∧ 12 ≤ mi.2.2.2.2.2
abbrev Dn (mi : MI) (pc pc' ci : Nat) (C : String) (T : u_T) (N : Nat) : Prop := ∃ idx : Nat, decode mi.2.1 pc = .ok (.new idx, 3) ∧ pc + 3 = pc' ∧ classes[ci]? = some (C, T, N) ∧ Cond.classLink mi.1.cls idx C ∈ gtb ∧ Cond.instantiable C N ∈ gtb ∧ Cond.initialized C ∈ gtb ∧ (∀ w ∈ u_ws C T N, w ∈ gtb)
abbrev Da (mi : MI) (pc pc' : Nat) (C : String) : Prop := ∃ idx : Nat, decode mi.2.1 pc = .ok (.anewarray idx, 3) ∧ pc + 3 = pc' ∧ Cond.classLink mi.1.cls idx C ∈ gtb
abbrev Dk (mi : MI) (pc pc' : Nat) (v : Int32) : Prop := ∃ idx : Nat, (decode mi.2.1 pc = .ok (.ldc idx, 2) ∧ pc + 2 = pc' ∨ decode mi.2.1 pc = .ok (.ldc_w idx, 3) ∧ pc + 3 = pc') ∧ Cond.constant mi.1.cls idx v ∈ gtb
abbrev Dl (mi : MI) (pc pc' : Nat) (v : Int64) : Prop := ∃ idx : Nat, decode mi.2.1 pc = .ok (.ldc2_w idx, 3) ∧ pc + 3 = pc' ∧ Cond.constantLong mi.1.cls idx v ∈ gtb
abbrev rmFit (mi mi' : MI) : Prop := mi'.2.2.2.2.1 + 1 ≤ mi.2.2.2.2.1 ∧ 8 + (mi'.2.2.1 + 11) + mi'.2.2.2.2.2 ≤ mi.2.2.2.2.2
abbrev DcV (mi mi' : MI) (pc pc' : Nat) : Prop := ∃ idx : Nat, decode mi.2.1 pc = .ok (.invokevirtual idx, 3) ∧ pc + 3 = pc' ∧ Cond.methodLink mi.1.cls idx mi'.1 ∈ gtb ∧ rmFit mi mi'
abbrev DcS (mi mi' : MI) (pc pc' : Nat) : Prop := ∃ idx : Nat, decode mi.2.1 pc = .ok (.invokestatic idx, 3) ∧ pc + 3 = pc' ∧ Cond.methodLink mi.1.cls idx mi'.1 ∈ gtb ∧ rmFit mi mi'
abbrev DcI (mi mi' : MI) (pc pc' : Nat) : Prop := ∃ idx : Nat, decode mi.2.1 pc = .ok (.invokespecial idx, 3) ∧ pc + 3 = pc' ∧ Cond.methodLink mi.1.cls idx mi'.1 ∈ gtb ∧ rmFit mi mi'
abbrev DcN (mi mi' : MI) (pc pc' : Nat) : Prop := ∃ idx : Nat, decode mi.2.1 pc = .ok (.invokespecial idx, 3) ∧ pc + 3 = pc' ∧ Cond.methodLinkNest mi.1.cls idx mi'.1 R_br ∈ nests ∧ rmFit mi mi'
abbrev Kb (mi : MI) (n : Nat) : Prop := Cond.initialized mi.1.cls ∈ gtb ∧ Cond.code mi.1 mi.2.1 mi.2.2.1 mi.2.2.2.1 ∈ gtb ∧ mi.1.cls ≠ "java/lang/invoke/MethodHandle" ∧ mi.1.cls ≠ "java/lang/invoke/VarHandle" ∧ (parseMethodDescriptor mi.1.desc).map (fun d => d.parameters.length) = some n
abbrev KV (mi : MI) (n : Nat) : Prop := Cond.instanceMethod mi.1 ∈ gtb ∧ Cond.selects mi.1.cls mi.1 mi.1 ∈ gtb ∧ Kb mi n
abbrev KS (mi : MI) (n : Nat) : Prop := Cond.static mi.1 ∈ gtb ∧ Kb mi n
abbrev KI (mi : MI) (n : Nat) : Prop := Cond.instanceMethod mi.1 ∈ gtb ∧ mi.1.name = "<init>" ∧ mi.2.2.2.1 = none ∧ Kb mi n
theorem good_gtb {w : Cond} (h : w ∈ gtb) : (w.onTables && w.keeps) = true ∨ ∃ ty, w = .arrayClass ty := good_of_word (List.mem_filter.mp h).2
/-- the words of a method: its own code, and those that all have -/
def mws (mi : MI) : List Cond := Cond.code mi.1 mi.2.1 mi.2.2.1 mi.2.2.2.1 :: gtb
theorem mws_good {mi : MI} (h : Cond.code mi.1 mi.2.1 mi.2.2.1 mi.2.2.2.1 ∈ gtb) : GoodIn gtb (mws mi) := fun w hw => by
  rcases List.mem_cons.mp hw with rfl | hw
  · exact ⟨h, good_gtb h⟩
  · exact ⟨hw, good_gtb hw⟩
end
section
/-! ### a rule for each instruction (by program: wip/whole/genrules.py) -/
section Rules
variable {mi : MI} {Ψ : Pst} {Z : Zt} {MC MS : Nat} {pc pc' tgt : Nat} {L : List (Nat × Value)} {st st' : List Value} {w : Wd} {nc ns : Nat}
theorem aw_st (hst : (∀ v ∈ st, okv w v) → ∀ v ∈ st', okv w v)
    (hw : ∀ (l : Launch) (p : Program) (e : Env) (s : State) (m : MethodId) (args : Array Value) (below : List Frame) (meth : Method) (c : Code) (H : Heap) (locs : List Loc) (Q : State → Prop) (ls : Array Slot) (ad : Nat → Nat), p.tables.exec = Jvm.exec → c.code = mi.2.1 →
      W p l e (rmOf mi MC MS) s m args below meth c H locs nc ns Q (F0 m pc' ls (st'.map (cv ad))) → W p l e (rmOf mi MC MS) s m args below meth c H locs nc ns Q (F0 m pc ls (st.map (cv ad))))
    (k : AW mi Ψ Z MC MS pc' L st' w nc ns) : AW mi Ψ Z MC MS pc L st w nc ns := by
  intro l p e s m args below meth c Q D dA A w0 ad0 C R ad H locs ls h
  obtain ⟨h1, h2, h3, h4, h5, h6, h7, h8, h9, h10⟩ := h
  exact hw l p e s m args below meth c H locs Q ls ad C.1 C.2.1 (k l p e s m args below meth c Q D dA A w0 ad0 C R ad H locs ls ⟨h1, h2, h3, h4, h5, h6, h7, hst h8, h9, h10⟩)
theorem ok01 {a : Value} (ha : okv w a) (h : ∀ v ∈ st, okv w v) : ∀ v ∈ a :: st, okv w v := List.forall_mem_cons.mpr ⟨ha, h⟩
theorem okI {x : Int32} : okv w (.int x) := True.intro
theorem okL {x : Int64} : okv w (.long x) := True.intro
theorem ok1 {a : Value} (h : ∀ v ∈ a :: st, okv w v) : ∀ v ∈ st, okv w v := (List.forall_mem_cons.mp h).2
theorem ok1a {a : Value} (h : ∀ v ∈ a :: st, okv w v) : okv w a := (List.forall_mem_cons.mp h).1
theorem aw_iadd {x y : Int32} (d : Dc mi pc .iadd 1 pc') (k : AW mi Ψ Z MC MS pc' L (.int (x + y) :: st) w nc ns) : AW mi Ψ Z MC MS pc L (.int y :: .int x :: st) w nc ns := by
  obtain ⟨d, rfl⟩ := d
  exact aw_st (fun h => ok01 okI (ok1 (ok1 h))) (fun _ _ _ _ _ _ _ _ _ _ _ _ _ _ hx hb kk => lv_iadd hx hb d kk) k
theorem aw_isub {x y : Int32} (d : Dc mi pc .isub 1 pc') (k : AW mi Ψ Z MC MS pc' L (.int (x - y) :: st) w nc ns) : AW mi Ψ Z MC MS pc L (.int y :: .int x :: st) w nc ns := by
  obtain ⟨d, rfl⟩ := d
  exact aw_st (fun h => ok01 okI (ok1 (ok1 h))) (fun _ _ _ _ _ _ _ _ _ _ _ _ _ _ hx hb kk => lv_isub hx hb d kk) k
theorem aw_imul {x y : Int32} (d : Dc mi pc .imul 1 pc') (k : AW mi Ψ Z MC MS pc' L (.int (x * y) :: st) w nc ns) : AW mi Ψ Z MC MS pc L (.int y :: .int x :: st) w nc ns := by
  obtain ⟨d, rfl⟩ := d
  exact aw_st (fun h => ok01 okI (ok1 (ok1 h))) (fun _ _ _ _ _ _ _ _ _ _ _ _ _ _ hx hb kk => lv_imul hx hb d kk) k
theorem aw_iand {x y : Int32} (d : Dc mi pc .iand 1 pc') (k : AW mi Ψ Z MC MS pc' L (.int (x &&& y) :: st) w nc ns) : AW mi Ψ Z MC MS pc L (.int y :: .int x :: st) w nc ns := by
  obtain ⟨d, rfl⟩ := d
  exact aw_st (fun h => ok01 okI (ok1 (ok1 h))) (fun _ _ _ _ _ _ _ _ _ _ _ _ _ _ hx hb kk => lv_iand hx hb d kk) k
theorem aw_ior {x y : Int32} (d : Dc mi pc .ior 1 pc') (k : AW mi Ψ Z MC MS pc' L (.int (x ||| y) :: st) w nc ns) : AW mi Ψ Z MC MS pc L (.int y :: .int x :: st) w nc ns := by
  obtain ⟨d, rfl⟩ := d
  exact aw_st (fun h => ok01 okI (ok1 (ok1 h))) (fun _ _ _ _ _ _ _ _ _ _ _ _ _ _ hx hb kk => lv_ior hx hb d kk) k
theorem aw_ixor {x y : Int32} (d : Dc mi pc .ixor 1 pc') (k : AW mi Ψ Z MC MS pc' L (.int (x ^^^ y) :: st) w nc ns) : AW mi Ψ Z MC MS pc L (.int y :: .int x :: st) w nc ns := by
  obtain ⟨d, rfl⟩ := d
  exact aw_st (fun h => ok01 okI (ok1 (ok1 h))) (fun _ _ _ _ _ _ _ _ _ _ _ _ _ _ hx hb kk => lv_ixor hx hb d kk) k
theorem aw_ishl {x y : Int32} (d : Dc mi pc .ishl 1 pc') (k : AW mi Ψ Z MC MS pc' L (.int (x <<< (y &&& 31)) :: st) w nc ns) : AW mi Ψ Z MC MS pc L (.int y :: .int x :: st) w nc ns := by
  obtain ⟨d, rfl⟩ := d
  exact aw_st (fun h => ok01 okI (ok1 (ok1 h))) (fun _ _ _ _ _ _ _ _ _ _ _ _ _ _ hx hb kk => lv_ishl hx hb d kk) k
theorem aw_ishr {x y : Int32} (d : Dc mi pc .ishr 1 pc') (k : AW mi Ψ Z MC MS pc' L (.int (x >>> (y &&& 31)) :: st) w nc ns) : AW mi Ψ Z MC MS pc L (.int y :: .int x :: st) w nc ns := by
  obtain ⟨d, rfl⟩ := d
  exact aw_st (fun h => ok01 okI (ok1 (ok1 h))) (fun _ _ _ _ _ _ _ _ _ _ _ _ _ _ hx hb kk => lv_ishr hx hb d kk) k
theorem aw_idiv {x y : Int32} (d : Dc mi pc .idiv 1 pc') (hne : ¬ y = 0) (k : AW mi Ψ Z MC MS pc' L (.int (x / y) :: st) w nc ns) : AW mi Ψ Z MC MS pc L (.int y :: .int x :: st) w nc ns := by
  obtain ⟨d, rfl⟩ := d
  exact aw_st (fun h => ok01 okI (ok1 (ok1 h))) (fun _ _ _ _ _ _ _ _ _ _ _ _ _ _ hx hb kk => lv_idiv hx hb d hne kk) k
theorem aw_irem {x y : Int32} (d : Dc mi pc .irem 1 pc') (hne : ¬ y = 0) (k : AW mi Ψ Z MC MS pc' L (.int (x - x / y * y) :: st) w nc ns) : AW mi Ψ Z MC MS pc L (.int y :: .int x :: st) w nc ns := by
  obtain ⟨d, rfl⟩ := d
  exact aw_st (fun h => ok01 okI (ok1 (ok1 h))) (fun _ _ _ _ _ _ _ _ _ _ _ _ _ _ hx hb kk => lv_irem hx hb d hne kk) k
theorem aw_iushr {x y : Int32} (d : Dc mi pc .iushr 1 pc') (k : AW mi Ψ Z MC MS pc' L (.int ((x.toUInt32 >>> (y.toUInt32 &&& Int32.toUInt32 31)).toInt32) :: st) w nc ns) : AW mi Ψ Z MC MS pc L (.int y :: .int x :: st) w nc ns := by
  obtain ⟨d, rfl⟩ := d
  exact aw_st (fun h => ok01 okI (ok1 (ok1 h))) (fun _ _ _ _ _ _ _ _ _ _ _ _ _ _ hx hb kk => lv_iushr hx hb d rfl kk) k
theorem aw_ladd {x y : Int64} (d : Dc mi pc .ladd 1 pc') (k : AW mi Ψ Z MC MS pc' L (.long (x + y) :: st) w nc ns) : AW mi Ψ Z MC MS pc L (.long y :: .long x :: st) w nc ns := by
  obtain ⟨d, rfl⟩ := d
  exact aw_st (fun h => ok01 okL (ok1 (ok1 h))) (fun _ _ _ _ _ _ _ _ _ _ _ _ _ _ hx hb kk => lv_ladd hx hb d kk) k
theorem aw_lsub {x y : Int64} (d : Dc mi pc .lsub 1 pc') (k : AW mi Ψ Z MC MS pc' L (.long (x - y) :: st) w nc ns) : AW mi Ψ Z MC MS pc L (.long y :: .long x :: st) w nc ns := by
  obtain ⟨d, rfl⟩ := d
  exact aw_st (fun h => ok01 okL (ok1 (ok1 h))) (fun _ _ _ _ _ _ _ _ _ _ _ _ _ _ hx hb kk => lv_lsub hx hb d kk) k
theorem aw_lmul {x y : Int64} (d : Dc mi pc .lmul 1 pc') (k : AW mi Ψ Z MC MS pc' L (.long (x * y) :: st) w nc ns) : AW mi Ψ Z MC MS pc L (.long y :: .long x :: st) w nc ns := by
  obtain ⟨d, rfl⟩ := d
  exact aw_st (fun h => ok01 okL (ok1 (ok1 h))) (fun _ _ _ _ _ _ _ _ _ _ _ _ _ _ hx hb kk => lv_lmul hx hb d kk) k
theorem aw_land {x y : Int64} (d : Dc mi pc .land 1 pc') (k : AW mi Ψ Z MC MS pc' L (.long (x &&& y) :: st) w nc ns) : AW mi Ψ Z MC MS pc L (.long y :: .long x :: st) w nc ns := by
  obtain ⟨d, rfl⟩ := d
  exact aw_st (fun h => ok01 okL (ok1 (ok1 h))) (fun _ _ _ _ _ _ _ _ _ _ _ _ _ _ hx hb kk => lv_land hx hb d kk) k
theorem aw_lor {x y : Int64} (d : Dc mi pc .lor 1 pc') (k : AW mi Ψ Z MC MS pc' L (.long (x ||| y) :: st) w nc ns) : AW mi Ψ Z MC MS pc L (.long y :: .long x :: st) w nc ns := by
  obtain ⟨d, rfl⟩ := d
  exact aw_st (fun h => ok01 okL (ok1 (ok1 h))) (fun _ _ _ _ _ _ _ _ _ _ _ _ _ _ hx hb kk => lv_lor hx hb d kk) k
theorem aw_lxor {x y : Int64} (d : Dc mi pc .lxor 1 pc') (k : AW mi Ψ Z MC MS pc' L (.long (x ^^^ y) :: st) w nc ns) : AW mi Ψ Z MC MS pc L (.long y :: .long x :: st) w nc ns := by
  obtain ⟨d, rfl⟩ := d
  exact aw_st (fun h => ok01 okL (ok1 (ok1 h))) (fun _ _ _ _ _ _ _ _ _ _ _ _ _ _ hx hb kk => lv_lxor hx hb d kk) k
theorem aw_lrem {x y : Int64} (d : Dc mi pc .lrem 1 pc') (hne : ¬ y = 0) (k : AW mi Ψ Z MC MS pc' L (.long (x - x / y * y) :: st) w nc ns) : AW mi Ψ Z MC MS pc L (.long y :: .long x :: st) w nc ns := by
  obtain ⟨d, rfl⟩ := d
  exact aw_st (fun h => ok01 okL (ok1 (ok1 h))) (fun _ _ _ _ _ _ _ _ _ _ _ _ _ _ hx hb kk => lv_lrem hx hb d hne kk) k
theorem aw_ldiv {x y : Int64} (d : Dc mi pc .ldiv 1 pc') (hne : ¬ y = 0) (k : AW mi Ψ Z MC MS pc' L (.long (x / y) :: st) w nc ns) : AW mi Ψ Z MC MS pc L (.long y :: .long x :: st) w nc ns := by
  obtain ⟨d, rfl⟩ := d
  exact aw_st (fun h => ok01 okL (ok1 (ok1 h))) (fun _ _ _ _ _ _ _ _ _ _ _ _ _ _ hx hb kk => lv_ldiv hx hb d hne kk) k
theorem aw_lshl {x : Int64} {y : Int32} (d : Dc mi pc .lshl 1 pc') (k : AW mi Ψ Z MC MS pc' L (.long (x <<< (y.toInt64 &&& 63)) :: st) w nc ns) : AW mi Ψ Z MC MS pc L (.int y :: .long x :: st) w nc ns := by
  obtain ⟨d, rfl⟩ := d
  exact aw_st (fun h => ok01 okL (ok1 (ok1 h))) (fun _ _ _ _ _ _ _ _ _ _ _ _ _ _ hx hb kk => lv_lshl hx hb d rfl kk) k
theorem aw_lushr {x : Int64} {y : Int32} (d : Dc mi pc .lushr 1 pc') (k : AW mi Ψ Z MC MS pc' L (.long ((x.toUInt64 >>> (y.toInt64.toUInt64 &&& Int64.toUInt64 63)).toInt64) :: st) w nc ns) : AW mi Ψ Z MC MS pc L (.int y :: .long x :: st) w nc ns := by
  obtain ⟨d, rfl⟩ := d
  exact aw_st (fun h => ok01 okL (ok1 (ok1 h))) (fun _ _ _ _ _ _ _ _ _ _ _ _ _ _ hx hb kk => lv_lushr hx hb d rfl kk) k
theorem aw_i2l {x : Int32} (d : Dc mi pc .i2l 1 pc') (k : AW mi Ψ Z MC MS pc' L (.long (x.toInt64) :: st) w nc ns) : AW mi Ψ Z MC MS pc L (.int x :: st) w nc ns := by
  obtain ⟨d, rfl⟩ := d
  exact aw_st (fun h => ok01 okL (ok1 h)) (fun _ _ _ _ _ _ _ _ _ _ _ _ _ _ hx hb kk => lv_i2l hx hb d rfl kk) k
theorem aw_l2i {x : Int64} (d : Dc mi pc .l2i 1 pc') (k : AW mi Ψ Z MC MS pc' L (.int (x.toInt32) :: st) w nc ns) : AW mi Ψ Z MC MS pc L (.long x :: st) w nc ns := by
  obtain ⟨d, rfl⟩ := d
  exact aw_st (fun h => ok01 okI (ok1 h)) (fun _ _ _ _ _ _ _ _ _ _ _ _ _ _ hx hb kk => lv_l2i hx hb d rfl kk) k
theorem aw_i2b {x : Int32} (d : Dc mi pc .i2b 1 pc') (k : AW mi Ψ Z MC MS pc' L (.int (x.toInt8.toInt32) :: st) w nc ns) : AW mi Ψ Z MC MS pc L (.int x :: st) w nc ns := by
  obtain ⟨d, rfl⟩ := d
  exact aw_st (fun h => ok01 okI (ok1 h)) (fun _ _ _ _ _ _ _ _ _ _ _ _ _ _ hx hb kk => lv_i2b hx hb d rfl kk) k
theorem aw_lcmp {x y : Int64} (d : Dc mi pc .lcmp 1 pc') (k : AW mi Ψ Z MC MS pc' L (.int (lg_cmp x y) :: st) w nc ns) : AW mi Ψ Z MC MS pc L (.long y :: .long x :: st) w nc ns := by
  obtain ⟨d, rfl⟩ := d
  exact aw_st (fun h => ok01 okI (ok1 (ok1 h))) (fun _ _ _ _ _ _ _ _ _ _ _ _ _ _ hx hb kk => W.lcmp hx hb d kk) k
theorem aw_iconst (v : Int32) {n : Int} (d : Dc mi pc (.iconst n) 1 pc') (hv : Int32.ofInt n = v) (k : AW mi Ψ Z MC MS pc' L (.int v :: st) w nc ns) : AW mi Ψ Z MC MS pc L st w nc ns := by
  obtain ⟨d, rfl⟩ := d
  exact aw_st (fun h => ok01 okI h) (fun _ _ _ _ _ _ _ _ _ _ _ _ _ _ hx hb kk => lv_iconst hx hb d hv kk) k
theorem aw_bipush (v : Int32) {n : Int} (d : Dc mi pc (.bipush n) 2 pc') (hv : (Int8.ofInt n).toInt32 = v) (k : AW mi Ψ Z MC MS pc' L (.int v :: st) w nc ns) : AW mi Ψ Z MC MS pc L st w nc ns := by
  obtain ⟨d, rfl⟩ := d
  exact aw_st (fun h => ok01 okI h) (fun _ _ _ _ _ _ _ _ _ _ _ _ _ _ hx hb kk => lv_bipush hx hb d hv kk) k
theorem aw_sipush (v : Int32) {n : Int} (d : Dc mi pc (.sipush n) 3 pc') (hv : (Int16.ofInt n).toInt32 = v) (k : AW mi Ψ Z MC MS pc' L (.int v :: st) w nc ns) : AW mi Ψ Z MC MS pc L st w nc ns := by
  obtain ⟨d, rfl⟩ := d
  exact aw_st (fun h => ok01 okI h) (fun _ _ _ _ _ _ _ _ _ _ _ _ _ _ hx hb kk => lv_sipush hx hb d hv kk) k
theorem aw_lconst (v : Int64) {n : Fin 2} (d : Dc mi pc (.lconst n) 1 pc') (hv : Int64.ofNat (n : Nat) = v) (k : AW mi Ψ Z MC MS pc' L (.long v :: st) w nc ns) : AW mi Ψ Z MC MS pc L st w nc ns := by
  obtain ⟨d, rfl⟩ := d
  exact aw_st (fun h => ok01 okL h) (fun _ _ _ _ _ _ _ _ _ _ _ _ _ _ hx hb kk => lv_lconst hx hb d hv kk) k
theorem aw_dup {a : Value} (d : Dc mi pc .dup 1 pc') (ha : a.category = 1) (k : AW mi Ψ Z MC MS pc' L (a :: a :: st) w nc ns) : AW mi Ψ Z MC MS pc L (a :: st) w nc ns := by
  obtain ⟨d, rfl⟩ := d
  exact aw_st (fun h => ok01 (ok1a h) h) (fun _ _ _ _ _ _ _ _ _ _ _ _ _ ad hx hb kk => lv_dup hx hb d (by rw [cv_cat]; exact ha) kk) k
theorem aw_pop {a : Value} (d : Dc mi pc .pop 1 pc') (ha : a.category = 1) (k : AW mi Ψ Z MC MS pc' L st w nc ns) : AW mi Ψ Z MC MS pc L (a :: st) w nc ns := by
  obtain ⟨d, rfl⟩ := d
  exact aw_st (fun h => ok1 h) (fun _ _ _ _ _ _ _ _ _ _ _ _ _ ad hx hb kk => lv_pop hx hb d (by rw [cv_cat]; exact ha) kk) k
theorem aw_dup2_11 {a b : Value} (d : Dc mi pc .dup2 1 pc') (ha : a.category = 1) (hb' : b.category = 1) (k : AW mi Ψ Z MC MS pc' L (a :: b :: a :: b :: st) w nc ns) : AW mi Ψ Z MC MS pc L (a :: b :: st) w nc ns := by
  obtain ⟨d, rfl⟩ := d
  exact aw_st (fun h => ok01 (ok1a h) (ok01 (ok1a (ok1 h)) h)) (fun _ _ _ _ _ _ _ _ _ _ _ _ _ ad hx hb kk => lv_dup2_11 hx hb d (by rw [cv_cat]; exact ha) (by rw [cv_cat]; exact hb') kk) k
theorem aw_ldc {v : Int32} (d : Dk mi pc pc' v) (k : AW mi Ψ Z MC MS pc' L (.int v :: st) w nc ns) : AW mi Ψ Z MC MS pc L st w nc ns := by
  obtain ⟨idx, d, hk⟩ := d
  intro l p e s m args below meth c Q D dA A w0 ad0 C R ad H locs ls h
  have kk := k l p e s m args below meth c Q D dA A w0 ad0 C R ad H locs ls ⟨h.1, h.2.1, h.2.2.1, h.2.2.2.1, h.2.2.2.2.1, h.2.2.2.2.2.1, h.2.2.2.2.2.2.1, ok01 True.intro h.2.2.2.2.2.2.2.1, h.2.2.2.2.2.2.2.2⟩
  rcases d with ⟨d, rfl⟩ | ⟨d, rfl⟩
  · exact lv_ldc C.1 C.2.1 C.2.2.2.2.1 (C.2.2.2.2.2.1 _ hk) d kk
  · exact lv_ldcw C.1 C.2.1 C.2.2.2.2.1 (C.2.2.2.2.2.1 _ hk) d kk
theorem aw_ldc2 {v : Int64} (d : Dl mi pc pc' v) (k : AW mi Ψ Z MC MS pc' L (.long v :: st) w nc ns) : AW mi Ψ Z MC MS pc L st w nc ns := by
  obtain ⟨idx, d, rfl, hk⟩ := d
  intro l p e s m args below meth c Q D dA A w0 ad0 C R ad H locs ls h
  exact lv_ldc2 C.1 C.2.1 C.2.2.2.2.1 (C.2.2.2.2.2.1 _ hk) d (k l p e s m args below meth c Q D dA A w0 ad0 C R ad H locs ls ⟨h.1, h.2.1, h.2.2.1, h.2.2.2.1, h.2.2.2.2.1, h.2.2.2.2.2.1, h.2.2.2.2.2.2.1, ok01 True.intro h.2.2.2.2.2.2.2.1, h.2.2.2.2.2.2.2.2⟩)
theorem aw_if_eq {x : Int32} (d : Dj mi pc (.ifCond .eq) pc' tgt) (kt : x = 0 → AW mi Ψ Z MC MS tgt L st w nc ns) (kf : ¬ x = 0 → AW mi Ψ Z MC MS pc' L st w nc ns) : AW mi Ψ Z MC MS pc L (.int x :: st) w nc ns := by
  obtain ⟨off, d, rfl, ht⟩ := d
  intro l p e s m args below meth c Q D dA A w0 ad0 C R ad H locs ls h
  have h' : SR mi Ψ MC MS s D dA A w0 ad0 ad H locs ls L st w nc ns := ⟨h.1, h.2.1, h.2.2.1, h.2.2.2.1, h.2.2.2.2.1, h.2.2.2.2.2.1, h.2.2.2.2.2.2.1, ok1 h.2.2.2.2.2.2.2.1, h.2.2.2.2.2.2.2.2⟩
  exact lv_if_eq C.1 C.2.1 d ht (fun q => kt q l p e s m args below meth c Q D dA A w0 ad0 C R ad H locs ls h') (fun q => kf q l p e s m args below meth c Q D dA A w0 ad0 C R ad H locs ls h')
theorem aw_icmp_eq {x y : Int32} (d : Dj mi pc (.if_icmp .eq) pc' tgt) (kt : x = y → AW mi Ψ Z MC MS tgt L st w nc ns) (kf : ¬ x = y → AW mi Ψ Z MC MS pc' L st w nc ns) : AW mi Ψ Z MC MS pc L (.int y :: .int x :: st) w nc ns := by
  obtain ⟨off, d, rfl, ht⟩ := d
  intro l p e s m args below meth c Q D dA A w0 ad0 C R ad H locs ls h
  have h' : SR mi Ψ MC MS s D dA A w0 ad0 ad H locs ls L st w nc ns := ⟨h.1, h.2.1, h.2.2.1, h.2.2.2.1, h.2.2.2.2.1, h.2.2.2.2.2.1, h.2.2.2.2.2.2.1, ok1 (ok1 h.2.2.2.2.2.2.2.1), h.2.2.2.2.2.2.2.2⟩
  exact lv_icmp_eq C.1 C.2.1 d ht (fun q => kt q l p e s m args below meth c Q D dA A w0 ad0 C R ad H locs ls h') (fun q => kf q l p e s m args below meth c Q D dA A w0 ad0 C R ad H locs ls h')
theorem aw_if_ne {x : Int32} (d : Dj mi pc (.ifCond .ne) pc' tgt) (kt : ¬ x = 0 → AW mi Ψ Z MC MS tgt L st w nc ns) (kf : x = 0 → AW mi Ψ Z MC MS pc' L st w nc ns) : AW mi Ψ Z MC MS pc L (.int x :: st) w nc ns := by
  obtain ⟨off, d, rfl, ht⟩ := d
  intro l p e s m args below meth c Q D dA A w0 ad0 C R ad H locs ls h
  have h' : SR mi Ψ MC MS s D dA A w0 ad0 ad H locs ls L st w nc ns := ⟨h.1, h.2.1, h.2.2.1, h.2.2.2.1, h.2.2.2.2.1, h.2.2.2.2.2.1, h.2.2.2.2.2.2.1, ok1 h.2.2.2.2.2.2.2.1, h.2.2.2.2.2.2.2.2⟩
  exact lv_if_ne C.1 C.2.1 d ht (fun q => kt q l p e s m args below meth c Q D dA A w0 ad0 C R ad H locs ls h') (fun q => kf q l p e s m args below meth c Q D dA A w0 ad0 C R ad H locs ls h')
theorem aw_icmp_ne {x y : Int32} (d : Dj mi pc (.if_icmp .ne) pc' tgt) (kt : ¬ x = y → AW mi Ψ Z MC MS tgt L st w nc ns) (kf : x = y → AW mi Ψ Z MC MS pc' L st w nc ns) : AW mi Ψ Z MC MS pc L (.int y :: .int x :: st) w nc ns := by
  obtain ⟨off, d, rfl, ht⟩ := d
  intro l p e s m args below meth c Q D dA A w0 ad0 C R ad H locs ls h
  have h' : SR mi Ψ MC MS s D dA A w0 ad0 ad H locs ls L st w nc ns := ⟨h.1, h.2.1, h.2.2.1, h.2.2.2.1, h.2.2.2.2.1, h.2.2.2.2.2.1, h.2.2.2.2.2.2.1, ok1 (ok1 h.2.2.2.2.2.2.2.1), h.2.2.2.2.2.2.2.2⟩
  exact lv_icmp_ne C.1 C.2.1 d ht (fun q => kt q l p e s m args below meth c Q D dA A w0 ad0 C R ad H locs ls h') (fun q => kf q l p e s m args below meth c Q D dA A w0 ad0 C R ad H locs ls h')
theorem aw_if_lt {x : Int32} (d : Dj mi pc (.ifCond .lt) pc' tgt) (kt : x < 0 → AW mi Ψ Z MC MS tgt L st w nc ns) (kf : ¬ x < 0 → AW mi Ψ Z MC MS pc' L st w nc ns) : AW mi Ψ Z MC MS pc L (.int x :: st) w nc ns := by
  obtain ⟨off, d, rfl, ht⟩ := d
  intro l p e s m args below meth c Q D dA A w0 ad0 C R ad H locs ls h
  have h' : SR mi Ψ MC MS s D dA A w0 ad0 ad H locs ls L st w nc ns := ⟨h.1, h.2.1, h.2.2.1, h.2.2.2.1, h.2.2.2.2.1, h.2.2.2.2.2.1, h.2.2.2.2.2.2.1, ok1 h.2.2.2.2.2.2.2.1, h.2.2.2.2.2.2.2.2⟩
  exact lv_if_lt C.1 C.2.1 d ht (fun q => kt q l p e s m args below meth c Q D dA A w0 ad0 C R ad H locs ls h') (fun q => kf q l p e s m args below meth c Q D dA A w0 ad0 C R ad H locs ls h')
theorem aw_icmp_lt {x y : Int32} (d : Dj mi pc (.if_icmp .lt) pc' tgt) (kt : x < y → AW mi Ψ Z MC MS tgt L st w nc ns) (kf : ¬ x < y → AW mi Ψ Z MC MS pc' L st w nc ns) : AW mi Ψ Z MC MS pc L (.int y :: .int x :: st) w nc ns := by
  obtain ⟨off, d, rfl, ht⟩ := d
  intro l p e s m args below meth c Q D dA A w0 ad0 C R ad H locs ls h
  have h' : SR mi Ψ MC MS s D dA A w0 ad0 ad H locs ls L st w nc ns := ⟨h.1, h.2.1, h.2.2.1, h.2.2.2.1, h.2.2.2.2.1, h.2.2.2.2.2.1, h.2.2.2.2.2.2.1, ok1 (ok1 h.2.2.2.2.2.2.2.1), h.2.2.2.2.2.2.2.2⟩
  exact lv_icmp_lt C.1 C.2.1 d ht (fun q => kt q l p e s m args below meth c Q D dA A w0 ad0 C R ad H locs ls h') (fun q => kf q l p e s m args below meth c Q D dA A w0 ad0 C R ad H locs ls h')
theorem aw_if_ge {x : Int32} (d : Dj mi pc (.ifCond .ge) pc' tgt) (kt : 0 ≤ x → AW mi Ψ Z MC MS tgt L st w nc ns) (kf : ¬ 0 ≤ x → AW mi Ψ Z MC MS pc' L st w nc ns) : AW mi Ψ Z MC MS pc L (.int x :: st) w nc ns := by
  obtain ⟨off, d, rfl, ht⟩ := d
  intro l p e s m args below meth c Q D dA A w0 ad0 C R ad H locs ls h
  have h' : SR mi Ψ MC MS s D dA A w0 ad0 ad H locs ls L st w nc ns := ⟨h.1, h.2.1, h.2.2.1, h.2.2.2.1, h.2.2.2.2.1, h.2.2.2.2.2.1, h.2.2.2.2.2.2.1, ok1 h.2.2.2.2.2.2.2.1, h.2.2.2.2.2.2.2.2⟩
  exact lv_if_ge C.1 C.2.1 d ht (fun q => kt q l p e s m args below meth c Q D dA A w0 ad0 C R ad H locs ls h') (fun q => kf q l p e s m args below meth c Q D dA A w0 ad0 C R ad H locs ls h')
theorem aw_icmp_ge {x y : Int32} (d : Dj mi pc (.if_icmp .ge) pc' tgt) (kt : y ≤ x → AW mi Ψ Z MC MS tgt L st w nc ns) (kf : ¬ y ≤ x → AW mi Ψ Z MC MS pc' L st w nc ns) : AW mi Ψ Z MC MS pc L (.int y :: .int x :: st) w nc ns := by
  obtain ⟨off, d, rfl, ht⟩ := d
  intro l p e s m args below meth c Q D dA A w0 ad0 C R ad H locs ls h
  have h' : SR mi Ψ MC MS s D dA A w0 ad0 ad H locs ls L st w nc ns := ⟨h.1, h.2.1, h.2.2.1, h.2.2.2.1, h.2.2.2.2.1, h.2.2.2.2.2.1, h.2.2.2.2.2.2.1, ok1 (ok1 h.2.2.2.2.2.2.2.1), h.2.2.2.2.2.2.2.2⟩
  exact lv_icmp_ge C.1 C.2.1 d ht (fun q => kt q l p e s m args below meth c Q D dA A w0 ad0 C R ad H locs ls h') (fun q => kf q l p e s m args below meth c Q D dA A w0 ad0 C R ad H locs ls h')
theorem aw_if_gt {x : Int32} (d : Dj mi pc (.ifCond .gt) pc' tgt) (kt : 0 < x → AW mi Ψ Z MC MS tgt L st w nc ns) (kf : ¬ 0 < x → AW mi Ψ Z MC MS pc' L st w nc ns) : AW mi Ψ Z MC MS pc L (.int x :: st) w nc ns := by
  obtain ⟨off, d, rfl, ht⟩ := d
  intro l p e s m args below meth c Q D dA A w0 ad0 C R ad H locs ls h
  have h' : SR mi Ψ MC MS s D dA A w0 ad0 ad H locs ls L st w nc ns := ⟨h.1, h.2.1, h.2.2.1, h.2.2.2.1, h.2.2.2.2.1, h.2.2.2.2.2.1, h.2.2.2.2.2.2.1, ok1 h.2.2.2.2.2.2.2.1, h.2.2.2.2.2.2.2.2⟩
  exact lv_if_gt C.1 C.2.1 d ht (fun q => kt q l p e s m args below meth c Q D dA A w0 ad0 C R ad H locs ls h') (fun q => kf q l p e s m args below meth c Q D dA A w0 ad0 C R ad H locs ls h')
theorem aw_icmp_gt {x y : Int32} (d : Dj mi pc (.if_icmp .gt) pc' tgt) (kt : y < x → AW mi Ψ Z MC MS tgt L st w nc ns) (kf : ¬ y < x → AW mi Ψ Z MC MS pc' L st w nc ns) : AW mi Ψ Z MC MS pc L (.int y :: .int x :: st) w nc ns := by
  obtain ⟨off, d, rfl, ht⟩ := d
  intro l p e s m args below meth c Q D dA A w0 ad0 C R ad H locs ls h
  have h' : SR mi Ψ MC MS s D dA A w0 ad0 ad H locs ls L st w nc ns := ⟨h.1, h.2.1, h.2.2.1, h.2.2.2.1, h.2.2.2.2.1, h.2.2.2.2.2.1, h.2.2.2.2.2.2.1, ok1 (ok1 h.2.2.2.2.2.2.2.1), h.2.2.2.2.2.2.2.2⟩
  exact lv_icmp_gt C.1 C.2.1 d ht (fun q => kt q l p e s m args below meth c Q D dA A w0 ad0 C R ad H locs ls h') (fun q => kf q l p e s m args below meth c Q D dA A w0 ad0 C R ad H locs ls h')
theorem aw_if_le {x : Int32} (d : Dj mi pc (.ifCond .le) pc' tgt) (kt : x ≤ 0 → AW mi Ψ Z MC MS tgt L st w nc ns) (kf : ¬ x ≤ 0 → AW mi Ψ Z MC MS pc' L st w nc ns) : AW mi Ψ Z MC MS pc L (.int x :: st) w nc ns := by
  obtain ⟨off, d, rfl, ht⟩ := d
  intro l p e s m args below meth c Q D dA A w0 ad0 C R ad H locs ls h
  have h' : SR mi Ψ MC MS s D dA A w0 ad0 ad H locs ls L st w nc ns := ⟨h.1, h.2.1, h.2.2.1, h.2.2.2.1, h.2.2.2.2.1, h.2.2.2.2.2.1, h.2.2.2.2.2.2.1, ok1 h.2.2.2.2.2.2.2.1, h.2.2.2.2.2.2.2.2⟩
  exact lv_if_le C.1 C.2.1 d ht (fun q => kt q l p e s m args below meth c Q D dA A w0 ad0 C R ad H locs ls h') (fun q => kf q l p e s m args below meth c Q D dA A w0 ad0 C R ad H locs ls h')
theorem aw_icmp_le {x y : Int32} (d : Dj mi pc (.if_icmp .le) pc' tgt) (kt : x ≤ y → AW mi Ψ Z MC MS tgt L st w nc ns) (kf : ¬ x ≤ y → AW mi Ψ Z MC MS pc' L st w nc ns) : AW mi Ψ Z MC MS pc L (.int y :: .int x :: st) w nc ns := by
  obtain ⟨off, d, rfl, ht⟩ := d
  intro l p e s m args below meth c Q D dA A w0 ad0 C R ad H locs ls h
  have h' : SR mi Ψ MC MS s D dA A w0 ad0 ad H locs ls L st w nc ns := ⟨h.1, h.2.1, h.2.2.1, h.2.2.2.1, h.2.2.2.2.1, h.2.2.2.2.2.1, h.2.2.2.2.2.2.1, ok1 (ok1 h.2.2.2.2.2.2.2.1), h.2.2.2.2.2.2.2.2⟩
  exact lv_icmp_le C.1 C.2.1 d ht (fun q => kt q l p e s m args below meth c Q D dA A w0 ad0 C R ad H locs ls h') (fun q => kf q l p e s m args below meth c Q D dA A w0 ad0 C R ad H locs ls h')
theorem aw_goto (d : Dj mi pc .goto pc' tgt) (k : AW mi Ψ Z MC MS tgt L st w nc ns) : AW mi Ψ Z MC MS pc L st w nc ns := by
  obtain ⟨off, d, rfl, ht⟩ := d
  intro l p e s m args below meth c Q D dA A w0 ad0 C R ad H locs ls h
  exact lv_goto C.1 C.2.1 d ht (k l p e s m args below meth c Q D dA A w0 ad0 C R ad H locs ls h)
theorem aw_tableOut {dflt lo hi : Int} {offs : Array Int} {n : Nat} {x : Int32} (d : Dc mi pc (.tableswitch dflt lo hi offs) n pc') (h : x.toInt < lo ∨ hi < x.toInt) (ht : (pc : Int) + dflt = (tgt : Int)) (k : AW mi Ψ Z MC MS tgt L st w nc ns) : AW mi Ψ Z MC MS pc L (.int x :: st) w nc ns := by
  obtain ⟨d, -⟩ := d
  exact aw_st (fun h => ok1 h) (fun _ _ _ _ _ _ _ _ _ _ _ _ _ _ hx hb kk => lv_tableOut hx hb d h ht kk) k
theorem aw_tableIn {dflt lo hi : Int} {offs : Array Int} {n : Nat} {x : Int32} {off : Int} (d : Dc mi pc (.tableswitch dflt lo hi offs) n pc') (h1 : ¬ x.toInt < lo) (h2 : ¬ hi < x.toInt) (ho : offs[(x.toInt - lo).toNat]? = some off) (ht : (pc : Int) + off = (tgt : Int)) (k : AW mi Ψ Z MC MS tgt L st w nc ns) : AW mi Ψ Z MC MS pc L (.int x :: st) w nc ns := by
  obtain ⟨d, -⟩ := d
  exact aw_st (fun h => ok1 h) (fun _ _ _ _ _ _ _ _ _ _ _ _ _ _ hx hb kk => lv_tableIn hx hb d h1 h2 ho ht kk) k
theorem aw_lookup {dflt : Int} {ps : Array (Int × Int)} {n : Nat} {x : Int32} {off : Int} (d : Dc mi pc (.lookupswitch dflt ps) n pc') (hp : (ps.toList.zip (ps.toList.drop 1)).all (fun (a, next) => a.1 < next.1) = true) (ho : Op.lookupswitch.offset ps.toList dflt x.toInt = off) (ht : (pc : Int) + off = (tgt : Int)) (k : AW mi Ψ Z MC MS tgt L st w nc ns) : AW mi Ψ Z MC MS pc L (.int x :: st) w nc ns := by
  obtain ⟨d, -⟩ := d
  exact aw_st (fun h => ok1 h) (fun _ _ _ _ _ _ _ _ _ _ _ _ _ _ hx hb kk => lv_lookup hx hb d hp ho ht kk) k
theorem aw_iload_n (i : Nat) {j : Fin 4} {x : Int32} (d : Dc mi pc (.iload_n j) 1 pc') (hi : (j : Nat) = i) (hl : lk L i = some (.int x)) (k : AW mi Ψ Z MC MS pc' L (.int x :: st) w nc ns) : AW mi Ψ Z MC MS pc L st w nc ns := by
  obtain ⟨d, rfl⟩ := d
  intro l p e s m args below meth c Q D dA A w0 ad0 C R ad H locs ls h
  have hm := lk_mem hl
  exact lv_iload_n C.1 C.2.1 d hi (h.2.2.2.2.2.1.2.2 _ (List.mem_map.mpr ⟨_, hm, rfl⟩)) (k l p e s m args below meth c Q D dA A w0 ad0 C R ad H locs ls ⟨h.1, h.2.1, h.2.2.1, h.2.2.2.1, h.2.2.2.2.1, h.2.2.2.2.2.1, h.2.2.2.2.2.2.1, ok01 (h.2.2.2.2.2.2.1 _ hm) h.2.2.2.2.2.2.2.1, h.2.2.2.2.2.2.2.2⟩)
theorem aw_iload {i : Nat} {x : Int32} (d : Dc mi pc (.iload i) 2 pc') (hl : lk L i = some (.int x)) (k : AW mi Ψ Z MC MS pc' L (.int x :: st) w nc ns) : AW mi Ψ Z MC MS pc L st w nc ns := by
  obtain ⟨d, rfl⟩ := d
  intro l p e s m args below meth c Q D dA A w0 ad0 C R ad H locs ls h
  have hm := lk_mem hl
  exact lv_iload C.1 C.2.1 d (h.2.2.2.2.2.1.2.2 _ (List.mem_map.mpr ⟨_, hm, rfl⟩)) (k l p e s m args below meth c Q D dA A w0 ad0 C R ad H locs ls ⟨h.1, h.2.1, h.2.2.1, h.2.2.2.1, h.2.2.2.2.1, h.2.2.2.2.2.1, h.2.2.2.2.2.2.1, ok01 (h.2.2.2.2.2.2.1 _ hm) h.2.2.2.2.2.2.2.1, h.2.2.2.2.2.2.2.2⟩)
theorem aw_istore_n (i : Nat) {j : Fin 4} {x : Int32} (d : Dc mi pc (.istore_n j) 1 pc') (hi : (j : Nat) = i) (hn : i < mi.2.2.1) (hok : lsok L i false = true) (k : AW mi Ψ Z MC MS pc' (lset L i (.int x)) st w nc ns) : AW mi Ψ Z MC MS pc L (.int x :: st) w nc ns := by
  obtain ⟨d, rfl⟩ := d
  intro l p e s m args below meth c Q D dA A w0 ad0 C R ad H locs ls h
  exact lv_istore_n C.1 C.2.1 d hi h.2.2.2.2.2.1 hn rfl (fun ls' hl' => k l p e s m args below meth c Q D dA A w0 ad0 C R ad H locs ls' ⟨h.1, h.2.1, h.2.2.1, h.2.2.2.1, h.2.2.2.2.1, lv_put (v := .int x) hok hl', (fun q hq => (lset_mem hok hq).elim (fun e => by rw [e]; exact ok1a h.2.2.2.2.2.2.2.1) (fun e => h.2.2.2.2.2.2.1 q e.1)), ok1 h.2.2.2.2.2.2.2.1, h.2.2.2.2.2.2.2.2⟩)
theorem aw_istore {i : Nat} {x : Int32} (d : Dc mi pc (.istore i) 2 pc') (hn : i < mi.2.2.1) (hok : lsok L i false = true) (k : AW mi Ψ Z MC MS pc' (lset L i (.int x)) st w nc ns) : AW mi Ψ Z MC MS pc L (.int x :: st) w nc ns := by
  obtain ⟨d, rfl⟩ := d
  intro l p e s m args below meth c Q D dA A w0 ad0 C R ad H locs ls h
  exact lv_istore C.1 C.2.1 d h.2.2.2.2.2.1 hn rfl (fun ls' hl' => k l p e s m args below meth c Q D dA A w0 ad0 C R ad H locs ls' ⟨h.1, h.2.1, h.2.2.1, h.2.2.2.1, h.2.2.2.2.1, lv_put (v := .int x) hok hl', (fun q hq => (lset_mem hok hq).elim (fun e => by rw [e]; exact ok1a h.2.2.2.2.2.2.2.1) (fun e => h.2.2.2.2.2.2.1 q e.1)), ok1 h.2.2.2.2.2.2.2.1, h.2.2.2.2.2.2.2.2⟩)
theorem aw_lload_n (i : Nat) {j : Fin 4} {x : Int64} (d : Dc mi pc (.lload_n j) 1 pc') (hi : (j : Nat) = i) (hl : lk L i = some (.long x)) (k : AW mi Ψ Z MC MS pc' L (.long x :: st) w nc ns) : AW mi Ψ Z MC MS pc L st w nc ns := by
  obtain ⟨d, rfl⟩ := d
  intro l p e s m args below meth c Q D dA A w0 ad0 C R ad H locs ls h
  have hm := lk_mem hl
  exact lv_lload_n C.1 C.2.1 d hi (h.2.2.2.2.2.1.2.2 _ (List.mem_map.mpr ⟨_, hm, rfl⟩)) (k l p e s m args below meth c Q D dA A w0 ad0 C R ad H locs ls ⟨h.1, h.2.1, h.2.2.1, h.2.2.2.1, h.2.2.2.2.1, h.2.2.2.2.2.1, h.2.2.2.2.2.2.1, ok01 (h.2.2.2.2.2.2.1 _ hm) h.2.2.2.2.2.2.2.1, h.2.2.2.2.2.2.2.2⟩)
theorem aw_lload {i : Nat} {x : Int64} (d : Dc mi pc (.lload i) 2 pc') (hl : lk L i = some (.long x)) (k : AW mi Ψ Z MC MS pc' L (.long x :: st) w nc ns) : AW mi Ψ Z MC MS pc L st w nc ns := by
  obtain ⟨d, rfl⟩ := d
  intro l p e s m args below meth c Q D dA A w0 ad0 C R ad H locs ls h
  have hm := lk_mem hl
  exact lv_lload C.1 C.2.1 d (h.2.2.2.2.2.1.2.2 _ (List.mem_map.mpr ⟨_, hm, rfl⟩)) (k l p e s m args below meth c Q D dA A w0 ad0 C R ad H locs ls ⟨h.1, h.2.1, h.2.2.1, h.2.2.2.1, h.2.2.2.2.1, h.2.2.2.2.2.1, h.2.2.2.2.2.2.1, ok01 (h.2.2.2.2.2.2.1 _ hm) h.2.2.2.2.2.2.2.1, h.2.2.2.2.2.2.2.2⟩)
theorem aw_lstore_n (i : Nat) {j : Fin 4} {x : Int64} (d : Dc mi pc (.lstore_n j) 1 pc') (hi : (j : Nat) = i) (hn : i + 1 < mi.2.2.1) (hok : lsok L i true = true) (k : AW mi Ψ Z MC MS pc' (lset L i (.long x)) st w nc ns) : AW mi Ψ Z MC MS pc L (.long x :: st) w nc ns := by
  obtain ⟨d, rfl⟩ := d
  intro l p e s m args below meth c Q D dA A w0 ad0 C R ad H locs ls h
  exact lv_lstore_n C.1 C.2.1 d hi h.2.2.2.2.2.1 hn rfl (fun ls' hl' => k l p e s m args below meth c Q D dA A w0 ad0 C R ad H locs ls' ⟨h.1, h.2.1, h.2.2.1, h.2.2.2.1, h.2.2.2.2.1, lv_put2 (v := .long x) hok hl', (fun q hq => (lset_mem hok hq).elim (fun e => by rw [e]; exact ok1a h.2.2.2.2.2.2.2.1) (fun e => h.2.2.2.2.2.2.1 q e.1)), ok1 h.2.2.2.2.2.2.2.1, h.2.2.2.2.2.2.2.2⟩)
theorem aw_lstore {i : Nat} {x : Int64} (d : Dc mi pc (.lstore i) 2 pc') (hn : i + 1 < mi.2.2.1) (hok : lsok L i true = true) (k : AW mi Ψ Z MC MS pc' (lset L i (.long x)) st w nc ns) : AW mi Ψ Z MC MS pc L (.long x :: st) w nc ns := by
  obtain ⟨d, rfl⟩ := d
  intro l p e s m args below meth c Q D dA A w0 ad0 C R ad H locs ls h
  exact lv_lstore C.1 C.2.1 d h.2.2.2.2.2.1 hn rfl (fun ls' hl' => k l p e s m args below meth c Q D dA A w0 ad0 C R ad H locs ls' ⟨h.1, h.2.1, h.2.2.1, h.2.2.2.1, h.2.2.2.2.1, lv_put2 (v := .long x) hok hl', (fun q hq => (lset_mem hok hq).elim (fun e => by rw [e]; exact ok1a h.2.2.2.2.2.2.2.1) (fun e => h.2.2.2.2.2.2.1 q e.1)), ok1 h.2.2.2.2.2.2.2.1, h.2.2.2.2.2.2.2.2⟩)
theorem aw_aload_n (i : Nat) {j : Fin 4} {x : Nat} (d : Dc mi pc (.aload_n j) 1 pc') (hi : (j : Nat) = i) (hl : lk L i = some (.ref x)) (k : AW mi Ψ Z MC MS pc' L (.ref x :: st) w nc ns) : AW mi Ψ Z MC MS pc L st w nc ns := by
  obtain ⟨d, rfl⟩ := d
  intro l p e s m args below meth c Q D dA A w0 ad0 C R ad H locs ls h
  have hm := lk_mem hl
  exact lv_aload_n C.1 C.2.1 d hi (h.2.2.2.2.2.1.2.2 _ (List.mem_map.mpr ⟨_, hm, rfl⟩)) (k l p e s m args below meth c Q D dA A w0 ad0 C R ad H locs ls ⟨h.1, h.2.1, h.2.2.1, h.2.2.2.1, h.2.2.2.2.1, h.2.2.2.2.2.1, h.2.2.2.2.2.2.1, ok01 (h.2.2.2.2.2.2.1 _ hm) h.2.2.2.2.2.2.2.1, h.2.2.2.2.2.2.2.2⟩)
theorem aw_aload {i : Nat} {x : Nat} (d : Dc mi pc (.aload i) 2 pc') (hl : lk L i = some (.ref x)) (k : AW mi Ψ Z MC MS pc' L (.ref x :: st) w nc ns) : AW mi Ψ Z MC MS pc L st w nc ns := by
  obtain ⟨d, rfl⟩ := d
  intro l p e s m args below meth c Q D dA A w0 ad0 C R ad H locs ls h
  have hm := lk_mem hl
  exact lv_aload C.1 C.2.1 d (h.2.2.2.2.2.1.2.2 _ (List.mem_map.mpr ⟨_, hm, rfl⟩)) (k l p e s m args below meth c Q D dA A w0 ad0 C R ad H locs ls ⟨h.1, h.2.1, h.2.2.1, h.2.2.2.1, h.2.2.2.2.1, h.2.2.2.2.2.1, h.2.2.2.2.2.2.1, ok01 (h.2.2.2.2.2.2.1 _ hm) h.2.2.2.2.2.2.2.1, h.2.2.2.2.2.2.2.2⟩)
theorem aw_astore_n (i : Nat) {j : Fin 4} {x : Nat} (d : Dc mi pc (.astore_n j) 1 pc') (hi : (j : Nat) = i) (hn : i < mi.2.2.1) (hok : lsok L i false = true) (k : AW mi Ψ Z MC MS pc' (lset L i (.ref x)) st w nc ns) : AW mi Ψ Z MC MS pc L (.ref x :: st) w nc ns := by
  obtain ⟨d, rfl⟩ := d
  intro l p e s m args below meth c Q D dA A w0 ad0 C R ad H locs ls h
  exact lv_astore_n C.1 C.2.1 d hi h.2.2.2.2.2.1 hn rfl (fun ls' hl' => k l p e s m args below meth c Q D dA A w0 ad0 C R ad H locs ls' ⟨h.1, h.2.1, h.2.2.1, h.2.2.2.1, h.2.2.2.2.1, lv_put (v := .ref x) hok hl', (fun q hq => (lset_mem hok hq).elim (fun e => by rw [e]; exact ok1a h.2.2.2.2.2.2.2.1) (fun e => h.2.2.2.2.2.2.1 q e.1)), ok1 h.2.2.2.2.2.2.2.1, h.2.2.2.2.2.2.2.2⟩)
theorem aw_astore {i : Nat} {x : Nat} (d : Dc mi pc (.astore i) 2 pc') (hn : i < mi.2.2.1) (hok : lsok L i false = true) (k : AW mi Ψ Z MC MS pc' (lset L i (.ref x)) st w nc ns) : AW mi Ψ Z MC MS pc L (.ref x :: st) w nc ns := by
  obtain ⟨d, rfl⟩ := d
  intro l p e s m args below meth c Q D dA A w0 ad0 C R ad H locs ls h
  exact lv_astore C.1 C.2.1 d h.2.2.2.2.2.1 hn rfl (fun ls' hl' => k l p e s m args below meth c Q D dA A w0 ad0 C R ad H locs ls' ⟨h.1, h.2.1, h.2.2.1, h.2.2.2.1, h.2.2.2.2.1, lv_put (v := .ref x) hok hl', (fun q hq => (lset_mem hok hq).elim (fun e => by rw [e]; exact ok1a h.2.2.2.2.2.2.2.1) (fun e => h.2.2.2.2.2.2.1 q e.1)), ok1 h.2.2.2.2.2.2.2.1, h.2.2.2.2.2.2.2.2⟩)
theorem aw_iinc {i : Nat} {n : Int} {x : Int32} (v : Int32) (d : Dc mi pc (.iinc i n) 3 pc') (hl : lk L i = some (.int x)) (hv : x + Int32.ofInt n = v) (hn : i < mi.2.2.1) (hok : lsok L i false = true) (k : AW mi Ψ Z MC MS pc' (lset L i (.int v)) st w nc ns) : AW mi Ψ Z MC MS pc L st w nc ns := by
  obtain ⟨d, rfl⟩ := d
  intro l p e s m args below meth c Q D dA A w0 ad0 C R ad H locs ls h
  have hm : (i, Value.int x) ∈ L.map (lc ad) := List.mem_map.mpr ⟨_, lk_mem hl, rfl⟩
  obtain ⟨kx, hkx⟩ := List.getElem?_of_mem hm
  exact lv_iinc C.1 C.2.1 d h.2.2.2.2.2.1 hkx hv hn rfl (fun ls' hl' => k l p e s m args below meth c Q D dA A w0 ad0 C R ad H locs ls' ⟨h.1, h.2.1, h.2.2.1, h.2.2.2.1, h.2.2.2.2.1, lv_put (v := .int v) hok hl', (fun q hq => (lset_mem hok hq).elim (fun e => by rw [e]; exact True.intro) (fun e => h.2.2.2.2.2.2.1 q e.1)), h.2.2.2.2.2.2.2.1, h.2.2.2.2.2.2.2.2⟩)
/-- fewer locals -/
theorem aw_locs {L' : List (Nat × Value)} (hs : ∀ q ∈ L', q ∈ L) (k : AW mi Ψ Z MC MS pc L' st w nc ns) : AW mi Ψ Z MC MS pc L st w nc ns := by
  intro l p e s m args below meth c Q D dA A w0 ad0 C R ad H locs ls h
  refine k l p e s m args below meth c Q D dA A w0 ad0 C R ad H locs ls ⟨h.1, h.2.1, h.2.2.1, h.2.2.2.1, h.2.2.2.2.1, ⟨h.2.2.2.2.2.1.1, h.2.2.2.2.2.1.2.1, fun q hq => ?_⟩, fun q hq => h.2.2.2.2.2.2.1 q (hs q hq), h.2.2.2.2.2.2.2⟩
  obtain ⟨q', hq', rfl⟩ := List.mem_map.mp hq
  exact h.2.2.2.2.2.1.2.2 _ (List.mem_map.mpr ⟨q', hs q' hq', rfl⟩)
theorem aw_take (n : Nat) (k : AW mi Ψ Z MC MS pc (L.take n) st w nc ns) : AW mi Ψ Z MC MS pc L st w nc ns := aw_locs (fun _ hq => List.mem_of_mem_take hq) k
/-- room that isn't used -/
theorem aw_widen {nc' ns' : Nat} (h1 : nc ≤ nc') (h2 : ns ≤ ns') (h3 : nc' ≤ MC) (h4 : ns' ≤ MS) (k : AW mi Ψ Z MC MS pc L st w nc' ns') : AW mi Ψ Z MC MS pc L st w nc ns := by
  intro l p e s m args below meth c Q D dA A w0 ad0 C R ad H locs ls h
  exact W.widen h1 h2 (k l p e s m args below meth c Q D dA A w0 ad0 C R ad H locs ls ⟨h.1, h.2.1, h.2.2.1, h.2.2.2.1, h.2.2.2.2.1, h.2.2.2.2.2.1, h.2.2.2.2.2.2.1, h.2.2.2.2.2.2.2.1, h3, h4⟩)
end Rules
end
section
/-! ### the heap's rules -/
abbrev Tc (T : u_T) (N : Nat) (ty : Nat → FieldType) : Prop := (∀ k, k < N → parseFieldDescriptor (T k).2.2.1 = some (ty k)) ∧ (∀ a, a < N → ∀ b, b < N → a ≠ b → (T a).2.1 ≠ (T b).2.1)
theorem tc_rg : Tc T_rg 5 ty_rg := ⟨ty_rg_ok, nm_rg⟩
theorem tc_ri : Tc T_ri 11 ty_ri := ⟨ty_ri_ok, nm_ri⟩
theorem tc_rr : Tc T_rr 6 ty_rr := ⟨ty_rr_ok, nm_rr⟩
theorem tc_sh : Tc T_sh 3 ty_sh := ⟨ty_sh_ok, nm_sh⟩
theorem tc_tr : Tc T_tr 2 ty_tr := ⟨ty_tr_ok, nm_tr⟩
theorem tc_br : Tc T_br 7 ty_br := ⟨ty_br_ok, nm_br⟩
theorem tc_mo : Tc T_mo 21 ty_mo := ⟨ty_mo_ok, nm_mo⟩
theorem narrow_cv {ty : FieldType} {v : Value} (ad : Nat → Nat) (h : narrow ty v = v) : narrow ty (cv ad v) = cv ad v := by
  cases v <;> first | exact h | (cases ty <;> rfl)
theorem fits_cv {ty : FieldType} {v : Value} (ad : Nat → Nat) (h : fits ty v = true) : fits ty (cv ad v) = true := by
  cases v <;> first | exact h | (cases ty <;> first | rfl | cases h)
theorem ce_arr {dA : Nat → ClassId} {ad : Nat → Nat} {t n : Nat} {f : Nat → Int32} : ce dA ad (.inl (t, n, .inl f)) = .inl (dA t, n, .inl f) := rfl
section Heap
variable {mi : MI} {Ψ : Pst} {Z : Zt} {MC MS : Nat} {pc pc' : Nat} {L : List (Nat × Value)} {st : List Value} {w : Wd} {nc ns : Nat}
theorem aw_get {q ci k : Nat} {C : String} {T : u_T} {N : Nat} {fs : List Value} {v : Value} (d : Dg mi pc pc' ci k C T N) (hq : look w q = some (.inr (ci, fs))) (hv : fs[k]? = some v) (kk : AW mi Ψ Z MC MS pc' L (v :: st) w nc ns) : AW mi Ψ Z MC MS pc L (.ref q :: st) w nc ns := by
  obtain ⟨idx, d, rfl, hc, hk, hlink, hin⟩ := d
  intro l p e s m args below meth c Q D dA A w0 ad0 C0 R ad H locs ls h
  obtain ⟨hx, hb, hr, hml, hown, hts, hlocks, hnm, hK, hA⟩ := C0
  obtain ⟨g1, g2, hP, hD, hS, hl, hwl, hws, g9, g10⟩ := h
  obtain ⟨a1, a2⟩ := hP q _ hq
  have hP' : va_P D classes [(ad q, .inr (ci, fs.map (cv ad)))] H := by
    intro j x hj
    match j, hj with
    | 0, hj => cases hj; exact a1
    | j + 1, hj => simp at hj
  have hv' : (fs.map (cv ad))[k]? = some (cv ad v) := by rw [List.getElem?_map, hv]; rfl
  exact va_get (D := D) (ci := ci) (C := C) (T := T) (N := N) hx hb hts hin hown hK.1 hP' 0 rfl hc k hk (hts _ hlink) (fun _ h => h) hv' d
    (kk l p e s m args below meth c Q D dA A w0 ad0 ⟨hx, hb, hr, hml, hown, hts, hlocks, hnm, hK, hA⟩ R ad H locs ls ⟨g1, g2, hP, hD, hS, hl, hwl, ok01 (a2 v (List.mem_of_getElem? hv)) (ok1 hws), g9, g10⟩)
theorem aw_put {q ci k : Nat} {C : String} {T : u_T} {N : Nat} {ty : Nat → FieldType} {fs : List Value} {v : Value} (tc : Tc T N ty) (d : Dp mi pc pc' ci k C T N) (hq : look w q = some (.inr (ci, fs))) (hl0 : k < fs.length) (hn : narrow (ty k) v = v) (hf : fits (ty k) v = true) (kk : AW mi Ψ Z MC MS pc' L st (updw w q (.inr (ci, fs.set k v))) nc ns) : AW mi Ψ Z MC MS pc L (v :: .ref q :: st) w nc ns := by
  obtain ⟨idx, d, rfl, hc, hk, hlink, hin, hfin⟩ := d
  intro l p e s m args below meth c Q D dA A w0 ad0 C0 R ad H locs ls h
  obtain ⟨hx, hb, hr, hml, hown, hts, hlocks, hnm, hK, hA⟩ := C0
  obtain ⟨g1, g2, hP, hD, hS, hl, hwl, hws, g9, g10⟩ := h
  have hq0 := hP q _ hq
  have hap := va_apart (own := mi.1.cls) hts hin ty tc.1 tc.2 hK.1 hc
  obtain ⟨⟨r, h1, cell, q1, q2, q3, q4⟩, hok⟩ := hq0
  have hr' : r = (C, T, N) := Option.some.inj (h1.symm.trans hc)
  subst hr'
  obtain ⟨hSl, hfc, kC, hkC, hkind⟩ := hK.1.1 ci _ hc
  obtain ⟨cf, kf, fi, f, hi, hsl⟩ := hSl k hk
  have hlay := hts _ (hin _ (u_in_lay hk))
  unfold u_lay at hlay
  rw [if_neg (by rw [hfin]; decide)] at hlay
  have hst := (u_facts hfc hkC (u_lays hts hin hk) hi).1
  have h6 := u_store hfc hkC hkind hlay hi (tc.1 k hk) (narrow_cv ad hn) (fits_cv ad hf)
  have hmv : ∀ j, domw w j → domw (updw w q (.inr (ci, fs.set k v))) j := fun j => domw_updw hq
  refine W.putK hx hb (f := f) ⟨hown, hts _ hlink, ⟨_, _, _, hi⟩, hst⟩ (by rw [q2]; exact h6) q1 q3 (by rw [hsl]; exact k2_hasslot (q4 k hk)) rfl rfl d fun H' e1 e2 e3 => ?_
  rw [hsl] at e1 ⊢
  have hset : (fs.set k v).map (cv ad) = (fs.map (cv ad)).set k (cv ad v) := List.map_set
  have hoke : oke w (.inr (ci, fs.set k v)) := by
    intro u hu
    rcases List.mem_or_eq_of_mem_set hu with hu | hu
    · exact hok u hu
    · rw [hu]; exact ok1a hws
  have hP' := hP.upd hD hq (e := .inr (ci, fs.set k v)) (H1 := H') ⟨_, hc, t_OB.to (V := updV (vp_V (fs.map (cv ad))) k (cv ad v)) ⟨_, e1, q2, q3, t_set q4 hap hk (cv ad v)⟩ (fun j _ => by rw [vp_updV_set (by rw [List.length_map]; exact hl0)]; show _ = vp_V ((fs.set k v).map (cv ad)) j; rw [hset])⟩ hoke e3
  exact kk l p e s m args below meth c Q D dA A w0 ad0 ⟨hx, hb, hr, hml, hown, hts, hlocks, hnm, hK, hA⟩ R ad H' _ ls ⟨g1, g2.trans (AE.upd hq), hP', hD.upd hq, hS.put e2 e3 (hD.2 q _ hq), hl, fun x hx => okv_mono hmv (hwl x hx), fun x hx => okv_mono hmv (ok1 (ok1 hws) x hx), g9, g10⟩
theorem aw_putF {q ci k : Nat} {C : String} {T : u_T} {N : Nat} {ty : Nat → FieldType} {fs : List Value} {v : Value} (tc : Tc T N ty) (d : Df mi pc pc' ci k C T N) (hi0 : mi.1.name = "<init>") (ho0 : (T k).1 = mi.1.cls) (hq : look w q = some (.inr (ci, fs))) (hl0 : k < fs.length) (hn : narrow (ty k) v = v) (hf : fits (ty k) v = true) (kk : AW mi Ψ Z MC MS pc' L st (updw w q (.inr (ci, fs.set k v))) nc ns) : AW mi Ψ Z MC MS pc L (v :: .ref q :: st) w nc ns := by
  obtain ⟨idx, d, rfl, hc, hk, hlink, hin, hfin⟩ := d
  intro l p e s m args below meth c Q D dA A w0 ad0 C0 R ad H locs ls h
  obtain ⟨hx, hb, hr, hml, hown, hts, hlocks, hnm, hK, hA⟩ := C0
  obtain ⟨g1, g2, hP, hD, hS, hl, hwl, hws, g9, g10⟩ := h
  have hq0 := hP q _ hq
  have hap := va_apart (own := mi.1.cls) hts hin ty tc.1 tc.2 hK.1 hc
  obtain ⟨⟨r, h1, cell, q1, q2, q3, q4⟩, hok⟩ := hq0
  have hr' : r = (C, T, N) := Option.some.inj (h1.symm.trans hc)
  subst hr'
  obtain ⟨hSl, hfc, kC, hkC, hkind⟩ := hK.1.1 ci _ hc
  obtain ⟨cf, kf, fi, f, hi, hsl⟩ := hSl k hk
  have hlay := hts _ (hin _ (u_in_lay hk))
  unfold u_lay at hlay
  rw [if_pos hfin] at hlay
  have hst := (u_facts hfc hkC (u_lays hts hin hk) hi).1
  have hcf : m.cls = cf := by
    obtain ⟨_, _, c', _, _, _, -, -, hf', -, -, -, hown2, -⟩ := Cond.laysFinal_spec hlay
    have e1 : c' = cf := by have := hi.symm.trans hf'; simp at this; exact this.1.symm
    rw [ho0] at hown2
    rw [← e1]; exact Option.some.inj (hown.symm.trans hown2)
  have h6 := u_fits hfc hkC hkind (Or.inr hlay) hi (tc.1 k hk) (narrow_cv ad hn) (fits_cv ad hf)
  have hmv : ∀ j, domw w j → domw (updw w q (.inr (ci, fs.set k v))) j := fun j => domw_updw hq
  refine W.putFinK hx hb hown (hts _ hlink) hi hst hcf (hnm.trans hi0) (by rw [q2]; exact h6) q1 q3 (by rw [hsl]; exact k2_hasslot (q4 k hk)) rfl rfl d fun H' e1 e2 e3 => ?_
  rw [hsl] at e1 ⊢
  have hset : (fs.set k v).map (cv ad) = (fs.map (cv ad)).set k (cv ad v) := List.map_set
  have hoke : oke w (.inr (ci, fs.set k v)) := by
    intro u hu
    rcases List.mem_or_eq_of_mem_set hu with hu | hu
    · exact hok u hu
    · rw [hu]; exact ok1a hws
  have hP' := hP.upd hD hq (e := .inr (ci, fs.set k v)) (H1 := H') ⟨_, hc, t_OB.to (V := updV (vp_V (fs.map (cv ad))) k (cv ad v)) ⟨_, e1, q2, q3, t_set q4 hap hk (cv ad v)⟩ (fun j _ => by rw [vp_updV_set (by rw [List.length_map]; exact hl0)]; show _ = vp_V ((fs.set k v).map (cv ad)) j; rw [hset])⟩ hoke e3
  exact kk l p e s m args below meth c Q D dA A w0 ad0 ⟨hx, hb, hr, hml, hown, hts, hlocks, hnm, hK, hA⟩ R ad H' _ ls ⟨g1, g2.trans (AE.upd hq), hP', hD.upd hq, hS.put e2 e3 (hD.2 q _ hq), hl, fun x hx => okv_mono hmv (hwl x hx), fun x hx => okv_mono hmv (ok1 (ok1 hws) x hx), g9, g10⟩
theorem aw_iald {q n : Nat} {i : Int32} {f : Nat → Int32} (d : Dc mi pc .iaload 1 pc') (hq : look w q = some (.inl (0, n, .inl f))) (hin : vp_in i n) (kk : AW mi Ψ Z MC MS pc' L (.int (f i.toNatClampNeg) :: st) w nc ns) : AW mi Ψ Z MC MS pc L (.int i :: .ref q :: st) w nc ns := by
  obtain ⟨d, rfl⟩ := d
  intro l p e s m args below meth c Q D dA A w0 ad0 C0 R ad H locs ls h
  have a1 : H[ad q]? = some (vp_cell (dA 0) (n, .inl f)) := (h.2.2.1 q _ hq).1
  have hlt : i.toNatClampNeg < n := Nat.not_le.mp fun q => hin (Or.inr q)
  exact W.iald (v := .int (f i.toNatClampNeg)) C0.1 C0.2.1 a1 ((C0.2.2.2.2.2.2.2.2.1.1.2 0 _ rfl).1 n (fun j => .int (f j))) (fun q => by cases q) (by show ¬ (i < 0 ∨ (arrV _ _ _).slots.size ≤ _); rw [arrV_size]; exact hin) (by show (arrV _ _ _).slots[_]? = _; rw [arrV_read _ _ hlt]) rfl rfl d
    (kk l p e s m args below meth c Q D dA A w0 ad0 C0 R ad H locs ls ⟨h.1, h.2.1, h.2.2.1, h.2.2.2.1, h.2.2.2.2.1, h.2.2.2.2.2.1, h.2.2.2.2.2.2.1, ok01 okI (ok1 (ok1 h.2.2.2.2.2.2.2.1)), h.2.2.2.2.2.2.2.2⟩)
theorem aw_zald {q n : Nat} {i : Int32} {f : Nat → Int32} (d : Dc mi pc .baload 1 pc') (hq : look w q = some (.inl (2, n, .inl f))) (hin : vp_in i n) (kk : AW mi Ψ Z MC MS pc' L (.int (f i.toNatClampNeg) :: st) w nc ns) : AW mi Ψ Z MC MS pc L (.int i :: .ref q :: st) w nc ns := by
  obtain ⟨d, rfl⟩ := d
  intro l p e s m args below meth c Q D dA A w0 ad0 C0 R ad H locs ls h
  have a1 : H[ad q]? = some (vp_cell (dA 2) (n, .inl f)) := (h.2.2.1 q _ hq).1
  have hlt : i.toNatClampNeg < n := Nat.not_le.mp fun q => hin (Or.inr q)
  exact W.zald (v := .int (f i.toNatClampNeg)) C0.1 C0.2.1 a1 ((C0.2.2.2.2.2.2.2.2.1.1.2 2 _ rfl).1 n (fun j => .int (f j))) (fun q => by cases q) (by show ¬ (i < 0 ∨ (arrV _ _ _).slots.size ≤ _); rw [arrV_size]; exact hin) (by show (arrV _ _ _).slots[_]? = _; rw [arrV_read _ _ hlt]) rfl rfl d
    (kk l p e s m args below meth c Q D dA A w0 ad0 C0 R ad H locs ls ⟨h.1, h.2.1, h.2.2.1, h.2.2.2.1, h.2.2.2.2.1, h.2.2.2.2.2.1, h.2.2.2.2.2.2.1, ok01 okI (ok1 (ok1 h.2.2.2.2.2.2.2.1)), h.2.2.2.2.2.2.2.2⟩)
theorem aw_lald {q n : Nat} {i : Int32} {f : Nat → Int64} (d : Dc mi pc .laload 1 pc') (hq : look w q = some (.inl (1, n, .inr (.inl f)))) (hin : vp_in i n) (kk : AW mi Ψ Z MC MS pc' L (.long (f i.toNatClampNeg) :: st) w nc ns) : AW mi Ψ Z MC MS pc L (.int i :: .ref q :: st) w nc ns := by
  obtain ⟨d, rfl⟩ := d
  intro l p e s m args below meth c Q D dA A w0 ad0 C0 R ad H locs ls h
  have a1 : H[ad q]? = some (vp_cell (dA 1) (n, .inr (.inl f))) := (h.2.2.1 q _ hq).1
  have hlt : i.toNatClampNeg < n := Nat.not_le.mp fun q => hin (Or.inr q)
  exact W.lald (v := .long (f i.toNatClampNeg)) C0.1 C0.2.1 a1 ((C0.2.2.2.2.2.2.2.2.1.1.2 1 _ rfl).1 n (fun j => .long (f j))) (fun q => by cases q) (by show ¬ (i < 0 ∨ (arrV _ _ _).slots.size ≤ _); rw [arrV_size]; exact hin) (by show (arrV _ _ _).slots[_]? = _; rw [arrV_read _ _ hlt]) rfl rfl d
    (kk l p e s m args below meth c Q D dA A w0 ad0 C0 R ad H locs ls ⟨h.1, h.2.1, h.2.2.1, h.2.2.2.1, h.2.2.2.2.1, h.2.2.2.2.2.1, h.2.2.2.2.2.2.1, ok01 okL (ok1 (ok1 h.2.2.2.2.2.2.2.1)), h.2.2.2.2.2.2.2.2⟩)
theorem aw_aald {q n k : Nat} {i : Int32} {f : Nat → Option Nat} (d : Dc mi pc .aaload 1 pc') (hq : look w q = some (.inl (3, n, .inr (.inr (.inr (.inr f)))))) (hin : vp_in i n) (hk : f i.toNatClampNeg = some k) (kk : AW mi Ψ Z MC MS pc' L (.ref k :: st) w nc ns) : AW mi Ψ Z MC MS pc L (.int i :: .ref q :: st) w nc ns := by
  obtain ⟨d, rfl⟩ := d
  intro l p e s m args below meth c Q D dA A w0 ad0 C0 R ad H locs ls h
  obtain ⟨a1, a2⟩ := h.2.2.1 q _ hq
  have a1 : H[ad q]? = some (vp_cell (dA 3) (n, .inr (.inr (.inr (.inr (fun j => (f j).map ad)))))) := a1
  have hlt : i.toNatClampNeg < n := Nat.not_le.mp fun q => hin (Or.inr q)
  exact W.aald (v := .ref (ad k)) (ty := .object "BitRings$Sheet") C0.1 C0.2.1 a1 ((C0.2.2.2.2.2.2.2.2.1.1.2 3 _ rfl).1 n (fun j => va_rf ((f j).map ad))) rfl (fun q => by cases q) (by show ¬ (i < 0 ∨ (arrV _ _ _).slots.size ≤ _); rw [arrV_size]; exact hin) (by show (arrV _ _ _).slots[_]? = _; rw [arrV_read _ _ hlt]; show some (va_rf ((f i.toNatClampNeg).map ad)) = _; rw [hk]; rfl) rfl rfl d
    (kk l p e s m args below meth c Q D dA A w0 ad0 C0 R ad H locs ls ⟨h.1, h.2.1, h.2.2.1, h.2.2.2.1, h.2.2.2.2.1, h.2.2.2.2.2.1, h.2.2.2.2.2.2.1, ok01 (a := .ref k) (a2 _ _ hk) (ok1 (ok1 h.2.2.2.2.2.2.2.1)), h.2.2.2.2.2.2.2.2⟩)
theorem aw_alen {q t : Nat} {x : vp_A} (d : Dc mi pc .arraylength 1 pc') (hq : look w q = some (.inl (t, x))) (ht : t < 4) (kk : AW mi Ψ Z MC MS pc' L (.int (nI x.1) :: st) w nc ns) : AW mi Ψ Z MC MS pc L (.ref q :: st) w nc ns := by
  obtain ⟨d, rfl⟩ := d
  intro l p e s m args below meth c Q D dA A w0 ad0 C0 R ad H locs ls h
  obtain ⟨a1, a2⟩ := h.2.2.1 q _ hq
  have hP' : va_P D classes [(ad q, .inl (dA t, ca ad x))] H := by
    intro j y hj
    match j, hj with
    | 0, hj => cases hj; exact a1
    | j + 1, hj => simp at hj
  obtain ⟨ty, hty⟩ : ∃ ty, (tysA dA)[t]? = some (dA t, ty) := by
    match t, ht with
    | 0, _ => exact ⟨_, rfl⟩
    | 1, _ => exact ⟨_, rfl⟩
    | 2, _ => exact ⟨_, rfl⟩
    | 3, _ => exact ⟨_, rfl⟩
  have hx1 : (ca ad x).1 = x.1 := by
    rcases x with ⟨n, f | f | f | f | f⟩ <;> rfl
  exact va_alen (D := D) (cl := classes) C0.1 C0.2.1 C0.2.2.2.2.2.2.2.2.1.1 hP' 0 t rfl hty (v := nI x.1) (by rw [hx1]; rfl) d
    (kk l p e s m args below meth c Q D dA A w0 ad0 C0 R ad H locs ls ⟨h.1, h.2.1, h.2.2.1, h.2.2.2.1, h.2.2.2.2.1, h.2.2.2.2.2.1, h.2.2.2.2.2.2.1, ok01 okI (ok1 h.2.2.2.2.2.2.2.1), h.2.2.2.2.2.2.2.2⟩)
theorem aw_iast {q n : Nat} {i x : Int32} {f : Nat → Int32} (d : Dc mi pc .iastore 1 pc') (hq : look w q = some (.inl (0, n, .inl f))) (hin : vp_in i n) (kk : AW mi Ψ Z MC MS pc' L st (updw w q (.inl (0, n, .inl (upd f i.toNatClampNeg x)))) nc ns) : AW mi Ψ Z MC MS pc L (.int x :: .int i :: .ref q :: st) w nc ns := by
  obtain ⟨d, rfl⟩ := d
  intro l p e s m args below meth c Q D dA A w0 ad0 C0 R ad H locs ls h
  obtain ⟨g1, g2, hP, hD, hS, hl, hwl, hws, g9, g10⟩ := h
  have a1 : H[ad q]? = some (vp_cell (dA 0) (n, .inl f)) := (hP q _ hq).1
  have hmv : ∀ j, domw w j → domw (updw w q (.inl (0, n, .inl (upd f i.toNatClampNeg x)))) j := fun j => domw_updw hq
  refine W.iast C0.1 C0.2.1 a1 ((C0.2.2.2.2.2.2.2.2.1.1.2 0 _ rfl).1 n (fun j => .int (f j))) (fun q => by cases q) (by show ¬ (i < 0 ∨ (arrV _ _ _).slots.size ≤ _); rw [arrV_size]; exact hin) rfl rfl d fun H1 e1 e2 e3 => ?_
  have hP' := hP.upd hD hq (e := .inl (0, n, .inl (upd f i.toNatClampNeg x))) (H1 := H1) (by
    show H1[ad q]? = some (vp_cell _ _)
    rw [e1]
    show some ((vp_cell (dA 0) (n, .inl f)).setSlot _ _) = some (vp_cell (dA 0) (n, .inl (upd f i.toNatClampNeg x)))
    rw [vp_cell_i, vp_cell_i, arrV_store]
    congr 2
    funext z
    unfold updV upd
    by_cases hz : z = i.toNatClampNeg
    · rw [if_pos hz, if_pos hz]
    · rw [if_neg hz, if_neg hz]) True.intro e3
  exact kk l p e s m args below meth c Q D dA A w0 ad0 C0 R ad H1 _ ls ⟨g1, g2.trans (AE.upd hq), hP', hD.upd hq, hS.put e2 e3 (hD.2 q _ hq), hl, fun x hx => okv_mono hmv (hwl x hx), fun x hx => okv_mono hmv (ok1 (ok1 (ok1 hws)) x hx), g9, g10⟩
theorem aw_zast {q n : Nat} {i x : Int32} {f : Nat → Int32} (d : Dc mi pc .bastore 1 pc') (hq : look w q = some (.inl (2, n, .inl f))) (hin : vp_in i n) (hx : vp_nar .boolean x = x) (kk : AW mi Ψ Z MC MS pc' L st (updw w q (.inl (2, n, .inl (upd f i.toNatClampNeg x)))) nc ns) : AW mi Ψ Z MC MS pc L (.int x :: .int i :: .ref q :: st) w nc ns := by
  obtain ⟨d, rfl⟩ := d
  intro l p e s m args below meth c Q D dA A w0 ad0 C0 R ad H locs ls h
  obtain ⟨g1, g2, hP, hD, hS, hl, hwl, hws, g9, g10⟩ := h
  have a1 : H[ad q]? = some (vp_cell (dA 2) (n, .inl f)) := (hP q _ hq).1
  have hmv : ∀ j, domw w j → domw (updw w q (.inl (2, n, .inl (upd f i.toNatClampNeg x)))) j := fun j => domw_updw hq
  refine W.zast C0.1 C0.2.1 a1 ((C0.2.2.2.2.2.2.2.2.1.1.2 2 _ rfl).1 n (fun j => .int (f j))) (fun q => by cases q) (by show ¬ (i < 0 ∨ (arrV _ _ _).slots.size ≤ _); rw [arrV_size]; exact hin) rfl rfl d fun H1 e1 e2 e3 => ?_
  have hP' := hP.upd hD hq (e := .inl (2, n, .inl (upd f i.toNatClampNeg x))) (H1 := H1) (by
    show H1[ad q]? = some (vp_cell _ _)
    rw [e1]
    show some ((vp_cell (dA 2) (n, .inl f)).setSlot _ _) = some (vp_cell (dA 2) (n, .inl (upd f i.toNatClampNeg x)))
    rw [vp_cell_i, vp_cell_i, arrV_store]
    congr 2
    funext z
    unfold updV upd
    by_cases hz : z = i.toNatClampNeg
    · rw [if_pos hz, if_pos hz]
      have : Value.int (vp_nar .boolean x) = .int x := by rw [hx]
      exact this
    · rw [if_neg hz, if_neg hz]) True.intro e3
  exact kk l p e s m args below meth c Q D dA A w0 ad0 C0 R ad H1 _ ls ⟨g1, g2.trans (AE.upd hq), hP', hD.upd hq, hS.put e2 e3 (hD.2 q _ hq), hl, fun x hx => okv_mono hmv (hwl x hx), fun x hx => okv_mono hmv (ok1 (ok1 (ok1 hws)) x hx), g9, g10⟩
theorem aw_last {q n : Nat} {i : Int32} {x : Int64} {f : Nat → Int64} (d : Dc mi pc .lastore 1 pc') (hq : look w q = some (.inl (1, n, .inr (.inl f)))) (hin : vp_in i n) (kk : AW mi Ψ Z MC MS pc' L st (updw w q (.inl (1, n, .inr (.inl (vp_updL f i.toNatClampNeg x))))) nc ns) : AW mi Ψ Z MC MS pc L (.long x :: .int i :: .ref q :: st) w nc ns := by
  obtain ⟨d, rfl⟩ := d
  intro l p e s m args below meth c Q D dA A w0 ad0 C0 R ad H locs ls h
  obtain ⟨g1, g2, hP, hD, hS, hl, hwl, hws, g9, g10⟩ := h
  have a1 : H[ad q]? = some (vp_cell (dA 1) (n, .inr (.inl f))) := (hP q _ hq).1
  have hmv : ∀ j, domw w j → domw (updw w q (.inl (1, n, .inr (.inl (vp_updL f i.toNatClampNeg x))))) j := fun j => domw_updw hq
  refine W.last C0.1 C0.2.1 a1 ((C0.2.2.2.2.2.2.2.2.1.1.2 1 _ rfl).1 n (fun j => .long (f j))) (fun q => by cases q) (by show ¬ (i < 0 ∨ (arrV _ _ _).slots.size ≤ _); rw [arrV_size]; exact hin) rfl rfl d fun H1 e1 e2 e3 => ?_
  have hP' := hP.upd hD hq (e := .inl (1, n, .inr (.inl (vp_updL f i.toNatClampNeg x)))) (H1 := H1) (by
    show H1[ad q]? = some (vp_cell _ _)
    rw [e1]
    show some ((vp_cell (dA 1) (n, .inr (.inl f))).setSlot _ _) = some (vp_cell (dA 1) (n, .inr (.inl (vp_updL f i.toNatClampNeg x))))
    rw [vp_cell_l, vp_cell_l, arrV_store]
    congr 2
    funext z
    unfold updV vp_updL
    by_cases hz : z = i.toNatClampNeg
    · rw [if_pos hz, if_pos hz]
    · rw [if_neg hz, if_neg hz]) True.intro e3
  exact kk l p e s m args below meth c Q D dA A w0 ad0 C0 R ad H1 _ ls ⟨g1, g2.trans (AE.upd hq), hP', hD.upd hq, hS.put e2 e3 (hD.2 q _ hq), hl, fun x hx => okv_mono hmv (hwl x hx), fun x hx => okv_mono hmv (ok1 (ok1 (ok1 hws)) x hx), g9, g10⟩
theorem aw_aast {q n k : Nat} {i : Int32} {f : Nat → Option Nat} {fs : List Value} (d : Dc mi pc .aastore 1 pc') (hq : look w q = some (.inl (3, n, .inr (.inr (.inr (.inr f)))))) (hk : look w k = some (.inr (3, fs))) (hin : vp_in i n) (kk : AW mi Ψ Z MC MS pc' L st (updw w q (.inl (3, n, .inr (.inr (.inr (.inr (va_up f i.toNatClampNeg (some k)))))))) nc ns) : AW mi Ψ Z MC MS pc L (.ref k :: .int i :: .ref q :: st) w nc ns := by
  obtain ⟨d, rfl⟩ := d
  intro l p e s m args below meth c Q D dA A w0 ad0 C0 R ad H locs ls h
  obtain ⟨g1, g2, hP, hD, hS, hl, hwl, hws, g9, g10⟩ := h
  obtain ⟨a1, a2⟩ := hP q _ hq
  have a1 : H[ad q]? = some (vp_cell (dA 3) (n, .inr (.inr (.inr (.inr (fun j => (f j).map ad)))))) := a1
  have hK := C0.2.2.2.2.2.2.2.2.1.1
  have hmv : ∀ j, domw w j → domw (updw w q (.inl (3, n, .inr (.inr (.inr (.inr (va_up f i.toNatClampNeg (some k)))))))) j := fun j => domw_updw hq
  have hlt : i.toNatClampNeg < n := Nat.not_le.mp fun q => hin (Or.inr q)
  have h0 : ¬ i < 0 := fun q => hin (Or.inl q)
  obtain ⟨⟨r', hr', cellV, v1, v2, v3, -⟩, -⟩ := hP k _ hk
  cases hr'
  have hcls := (hK.1 3 (R_sh, T_sh, 3) rfl).2
  obtain ⟨kA, comp, k1, k2, k3, -⟩ := (hK.2 3 _ rfl).2
  have hcomp : comp = D.1 3 := Option.some.inj (k3.symm.trans hcls.1)
  subst hcomp
  obtain ⟨kC, hkC, -⟩ := hcls.2
  refine W.aast C0.1 C0.2.1 a1 (fun q h => by cases h) (fun h => by cases h) k1 k2 rfl hkC ⟨h0, by show _ < (arrV _ _ _).slots.size; rw [arrV_size]; exact hlt⟩ v1 (fun q h => by rw [v3] at h; cases h) (by rw [v2]; exact hkC) (by rw [v2]; exact va_assign hcls) rfl rfl d fun H1 e1 e2 e3 => ?_
  have hP' := hP.upd hD hq (e := .inl (3, n, .inr (.inr (.inr (.inr (va_up f i.toNatClampNeg (some k))))))) (H1 := H1) (by
    show H1[ad q]? = some (vp_cell _ _)
    rw [e1]
    show some ((vp_cell (dA 3) (n, .inr (.inr (.inr (.inr (fun j => (f j).map ad)))))).setSlot _ _) = some (vp_cell (dA 3) (n, .inr (.inr (.inr (.inr (fun j => (va_up f i.toNatClampNeg (some k) j).map ad))))))
    rw [vp_cell_q, vp_cell_q, arrV_store]
    congr 2
    funext z
    unfold updV va_up
    by_cases hz : z = i.toNatClampNeg
    · rw [if_pos hz, if_pos hz]; rfl
    · rw [if_neg hz, if_neg hz]) (by
    intro j k' hj
    unfold va_up at hj
    by_cases hz : j = i.toNatClampNeg
    · rw [if_pos hz] at hj; cases hj; exact Or.inl ⟨_, hk⟩
    · rw [if_neg hz] at hj; exact a2 j k' hj) e3
  exact kk l p e s m args below meth c Q D dA A w0 ad0 C0 R ad H1 _ ls ⟨g1, g2.trans (AE.upd hq), hP', hD.upd hq, hS.put e2 e3 (hD.2 q _ hq), hl, fun x hx => okv_mono hmv (hwl x hx), fun x hx => okv_mono hmv (ok1 (ok1 (ok1 hws)) x hx), g9, g10⟩
end Heap
end
section
/-! ### new cells, calls, ends -/
section Make
variable {mi : MI} {Ψ : Pst} {Z : Zt} {MC MS : Nat} {pc pc' : Nat} {L : List (Nat × Value)} {st : List Value} {w : Wd} {nc ns : Nat}
theorem okv_new {r : Nat} (hr : r < 16) (hl : r < w.length) {e : va_E} : okv (pushw w r e) (.ref (keyw w r)) := Or.inl ⟨e, by rw [look_pushw hr hl, if_pos rfl]⟩
theorem sr_push {s : State} {D : va_G} {dA : Nat → ClassId} {A : Nat → Prop} {w0 : Wd} {ad0 ad : Nat → Nat} {H H1 : Heap} {locs : List Loc} {ls : Array Slot} {r n1 n2 : Nat} {e : va_E} (h : SR mi Ψ MC MS s D dA A w0 ad0 ad H locs ls L st w nc ns) (hA : ∀ q, s.heap.size ≤ q → A q)
    (hr : r < 16) (h8 : r ≠ 8) (hl : r < w.length) (he : va_at D classes (H.size, ce dA ad e) H1) (ho : oke w e) (hz : H1.size = H.size + 1) (oq : ∀ q : Nat, q < H.size → H1[q]? = H[q]?) (h1 : nc + n1 ≤ MC) (h2 : ns + n2 ≤ MS) :
    SR mi Ψ MC MS s D dA A w0 ad0 (adn ad (keyw w r) H.size) H1 locs ls L (.ref (keyw w r) :: st) (pushw w r e) (nc + n1) (ns + n2) ∧ (st.map (cv (adn ad (keyw w r) H.size)) = st.map (cv ad)) := by
  obtain ⟨g1, g2, hP, hD, hS, hlv, hwl, hws, g9, g10⟩ := h
  have hx : ∀ j, domw w j → adn ad (keyw w r) H.size j = ad j := fun j => adn_dom hr h8
  have hmv : ∀ j, domw w j → domw (pushw w r e) j := fun j => domw_pushw hr hl
  have hL : L.map (lc (adn ad (keyw w r) H.size)) = L.map (lc ad) := List.map_congr_left (fun q hq => by unfold lc; rw [cv_ext hx (hwl q hq)])
  refine ⟨⟨?_, g2.trans (AE.push hr h8 hl), hP.push hr h8 hl he ho oq, hD.push hP hr h8 hl (hA _ hS.1), ⟨by rw [hz]; exact Nat.le_succ_of_le hS.1, fun q q1 q2 => (oq q (Nat.lt_of_lt_of_le q1 hS.1)).trans (hS.2.1 q q1 q2), hS.2.2⟩, by rw [hL]; exact hlv, fun q hq => okv_mono hmv (hwl q hq), ok01 (okv_new hr hl) (fun v hv => okv_mono hmv (hws v hv)), h1, h2⟩, map_ext hx hws⟩
  rw [hx 8 (Or.inr rfl)]
  exact g1
theorem aw_new (r : Nat) {ci : Nat} {C : String} {T : u_T} {N : Nat} {ty : Nat → FieldType} (fs : List Value) (tc : Tc T N ty) (d : Dn mi pc pc' ci C T N) (hfs : ∀ j, j < N → defaultValue (ty j) = vp_V (fs.map (cv fun x => x)) j) (hfo : ∀ v ∈ fs, ∀ k, v ≠ .ref k) (hr : r < 16 ∧ r ≠ 8 ∧ r < w.length) (h1 : nc + 1 ≤ MC) (h2 : ns + N ≤ MS)
    (kk : AW mi Ψ Z MC MS pc' L (.ref (keyw w r) :: st) (pushw w r (.inr (ci, fs))) (nc + 1) (ns + N)) : AW mi Ψ Z MC MS pc L st w nc ns := by
  obtain ⟨idx, d, rfl, hc, hcl, hins, hini, hin⟩ := d
  intro l p e s m args below meth c Q D dA A w0 ad0 C0 R ad H locs ls h
  have C1 := C0
  obtain ⟨hx, hb, hrt, hml, hown, hts, hlocks, hnm, hK, hA⟩ := C0
  have hKn := hK.1.1 ci _ hc
  have hcv : ∀ ad1 ad2 : Nat → Nat, fs.map (cv ad1) = fs.map (cv ad2) := fun ad1 ad2 => List.map_congr_left (fun v hv => by
    cases v <;> first | rfl | exact absurd rfl (hfo _ hv _))
  refine W.newcK hx hb hown (hts _ hcl) (hts _ hins) (hts _ hini) rfl d h1 h2 hKn.2.1 rfl fun H1 kC hkC e1 z1 o1 => ?_
  have hob : va_at D classes (H.size, ce dA ad (.inr (ci, fs))) H1 := ⟨_, hc, (u_born ty hts hin hKn hkC e1 tc.1).to (fun j hj => by rw [hfs j hj, hcv (fun x => x) ad])⟩
  have hok : oke w (.inr (ci, fs)) := fun v hv => by
    cases v <;> first | exact True.intro | exact absurd rfl (hfo _ hv _)
  obtain ⟨hs, hm⟩ := sr_push h hA hr.1 hr.2.1 hr.2.2 hob hok z1 o1 h1 h2
  have := kk l p e s m args below meth c Q D dA A w0 ad0 C1 R _ H1 locs ls hs
  rw [List.map_cons, hm] at this
  have e3 : cv (adn ad (keyw w r) H.size) (.ref (keyw w r)) = .ref H.size := by show Value.ref _ = _; rw [adn_self]
  rw [e3] at this
  exact this
theorem dA_find {D : va_G} {dA : Nat → ClassId} {s : State} (hK : AK D dA s) {t : Nat} {ty : FieldType} (ht : (tysA dA)[t]? = some (dA t, ty)) (hty : ty = .int ∨ ty = .long ∨ ty = .boolean) : s.vm.findClass ("[" ++ ty.toString) = some (dA t) := by
  have h := (hK.1.2 t _ ht).2
  rcases hty with rfl | rfl | rfl <;> exact h
theorem aw_newa (r : Nat) {t N' : Nat} {at' : ArrayType} {n : Int32} {ty : FieldType} (a0 : vp_A) (d : Dc mi pc (.newarray at') 2 pc') (hty : newarray.typeOf at' = ty) (ht3 : ty = .int ∨ ty = .long ∨ ty = .boolean) (hword : Cond.arrayClass ty ∈ gtb) (htt : ∀ dA : Nat → ClassId, (tysA dA)[t]? = some (dA t, ty)) (ha : ∀ cA : ClassId, vp_cell cA a0 = arrV cA N' (fun _ => defaultValue ty)) (hca : ∀ ad : Nat → Nat, ca ad a0 = a0) (hoa : ∀ w : Wd, oke w (.inl (t, a0))) (hn : ¬ n < 0) (hN : n.toNatClampNeg = N') (hbytes : N' * componentBytes ty ≤ 536870912) (hr : r < 16 ∧ r ≠ 8 ∧ r < w.length) (h1 : nc + 1 ≤ MC) (h2 : ns + N' ≤ MS)
    (kk : AW mi Ψ Z MC MS pc' L (.ref (keyw w r) :: st) (pushw w r (.inl (t, a0))) (nc + 1) (ns + N')) : AW mi Ψ Z MC MS pc L (.int n :: st) w nc ns := by
  obtain ⟨d, rfl⟩ := d
  subst hty
  intro l p e s m args below meth c Q D dA A w0 ad0 C0 R ad H locs ls h
  have C1 := C0
  obtain ⟨hx, hb, hrt, hml, hown, hts, hlocks, hnm, hK, hA⟩ := C0
  refine va_newaK hx hb (hts _ hword) rfl d rfl hn hN hbytes h1 h2 rfl fun H1 cA e1 z1 o1 hAr hNm => ?_
  have hcA : cA = dA t := Option.some.inj (hNm.symm.trans (dA_find hK (htt dA) ht3))
  subst hcA
  have hob : va_at D classes (H.size, ce dA ad (.inl (t, a0))) H1 := by
    show H1[H.size]? = some (vp_cell (dA t) (ca ad a0))
    rw [hca, ha]
    exact e1
  have h' : SR mi Ψ MC MS s D dA A w0 ad0 ad H locs ls L st w nc ns := ⟨h.1, h.2.1, h.2.2.1, h.2.2.2.1, h.2.2.2.2.1, h.2.2.2.2.2.1, h.2.2.2.2.2.2.1, ok1 h.2.2.2.2.2.2.2.1, h.2.2.2.2.2.2.2.2⟩
  obtain ⟨hs, hm⟩ := sr_push h' hA hr.1 hr.2.1 hr.2.2 hob (hoa w) z1 o1 h1 h2
  have := kk l p e s m args below meth c Q D dA A w0 ad0 C1 R _ H1 locs ls hs
  rw [List.map_cons, hm] at this
  have e3 : cv (adn ad (keyw w r) H.size) (.ref (keyw w r)) = .ref H.size := by show Value.ref _ = _; rw [adn_self]
  rw [e3] at this
  exact this
theorem w_int : Cond.arrayClass .int ∈ gtb := by decide +kernel
theorem w_long : Cond.arrayClass .long ∈ gtb := by decide +kernel
theorem w_bool : Cond.arrayClass .boolean ∈ gtb := by decide +kernel
/-- a new row of n ints, longs, booleans: all 0 -/
theorem aw_newI (r N : Nat) {n : Int32} (d : Dc mi pc (.newarray .int) 2 pc') (hn : n = nI N) (hN : N ≤ 65536) (hr : r < 16 ∧ r ≠ 8 ∧ r < w.length) (h1 : nc + 1 ≤ MC) (h2 : ns + N ≤ MS) (kk : AW mi Ψ Z MC MS pc' L (.ref (keyw w r) :: st) (pushw w r (.inl (0, N, .inl (fun _ => 0)))) (nc + 1) (ns + N)) : AW mi Ψ Z MC MS pc L (.int n :: st) w nc ns :=
  aw_newa r (t := 0) (N' := N) (ty := .int) (N, .inl (fun _ => 0)) d rfl (Or.inl rfl) w_int (fun _ => rfl) (fun _ => rfl) (fun _ => rfl) (fun _ => True.intro) (by rw [hn]; exact nI_pos (by omega)) (by rw [hn]; exact nI_clamp (by omega)) (by show N * 4 ≤ _; omega) hr h1 h2 kk
theorem aw_newL (r N : Nat) {n : Int32} (d : Dc mi pc (.newarray .long) 2 pc') (hn : n = nI N) (hN : N ≤ 65536) (hr : r < 16 ∧ r ≠ 8 ∧ r < w.length) (h1 : nc + 1 ≤ MC) (h2 : ns + N ≤ MS) (kk : AW mi Ψ Z MC MS pc' L (.ref (keyw w r) :: st) (pushw w r (.inl (1, N, .inr (.inl (fun _ => 0))))) (nc + 1) (ns + N)) : AW mi Ψ Z MC MS pc L (.int n :: st) w nc ns :=
  aw_newa r (t := 1) (N' := N) (ty := .long) (N, .inr (.inl (fun _ => 0))) d rfl (Or.inr (Or.inl rfl)) w_long (fun _ => rfl) (fun _ => rfl) (fun _ => rfl) (fun _ => True.intro) (by rw [hn]; exact nI_pos (by omega)) (by rw [hn]; exact nI_clamp (by omega)) (by show N * 8 ≤ _; omega) hr h1 h2 kk
theorem aw_newZ (r N : Nat) {n : Int32} (d : Dc mi pc (.newarray .boolean) 2 pc') (hn : n = nI N) (hN : N ≤ 65536) (hr : r < 16 ∧ r ≠ 8 ∧ r < w.length) (h1 : nc + 1 ≤ MC) (h2 : ns + N ≤ MS) (kk : AW mi Ψ Z MC MS pc' L (.ref (keyw w r) :: st) (pushw w r (.inl (2, N, .inl (fun _ => 0)))) (nc + 1) (ns + N)) : AW mi Ψ Z MC MS pc L (.int n :: st) w nc ns :=
  aw_newa r (t := 2) (N' := N) (ty := .boolean) (N, .inl (fun _ => 0)) d rfl (Or.inr (Or.inr rfl)) w_bool (fun _ => rfl) (fun _ => rfl) (fun _ => rfl) (fun _ => True.intro) (by rw [hn]; exact nI_pos (by omega)) (by rw [hn]; exact nI_clamp (by omega)) (by show N * 1 ≤ _; omega) hr h1 h2 kk
theorem aw_newq (r N : Nat) {n : Int32} (d : Da mi pc pc' "BitRings$Sheet") (hn : n = nI N) (hN : N ≤ 65536) (hr : r < 16 ∧ r ≠ 8 ∧ r < w.length) (h1 : nc + 1 ≤ MC) (h2 : ns + N ≤ MS) (kk : AW mi Ψ Z MC MS pc' L (.ref (keyw w r) :: st) (pushw w r (.inl (3, N, .inr (.inr (.inr (.inr (fun _ => none))))))) (nc + 1) (ns + N)) : AW mi Ψ Z MC MS pc L (.int n :: st) w nc ns := by
  obtain ⟨idx, d, rfl, hcl⟩ := d
  intro l p e s m args below meth c Q D dA A w0 ad0 C0 R ad H locs ls h
  have C1 := C0
  obtain ⟨hx, hb, hrt, hml, hown, hts, hlocks, hnm, hK, hA⟩ := C0
  have hcl' : n.toNatClampNeg = N := by rw [hn]; exact nI_clamp (by omega)
  refine W.anew hx hb hown (hts _ hcl) (va_AO.use hK.2.1) rfl d rfl (by rw [hn]; exact nI_pos (by omega)) (by rw [hcl']; omega) h1 (by rw [hcl']; exact h2) fun cA kA comp f1 f2 f3 f4 => ?_
  obtain ⟨kA', comp', -, -, -, hNm⟩ := (hK.1.2 3 _ rfl).2
  have hcA : cA = dA 3 := Option.some.inj (f1.symm.trans hNm)
  subst hcA
  rw [hcl']
  generalize hH1 : H.push ({ cls := dA 3, slots := Array.replicate N .null, vm := .none } : Cell) = H1
  have z1 : H1.size = H.size + 1 := by rw [← hH1, Array.size_push]
  have e1 : H1[H.size]? = some (arrV (dA 3) N (fun _ => .null)) := by rw [← hH1, Array.getElem?_push_size, ← arrV_new]
  have o1 : ∀ q : Nat, q < H.size → H1[q]? = H[q]? := fun q hq => by rw [← hH1, Array.getElem?_push, if_neg (Nat.ne_of_lt hq)]
  have hob : va_at D classes (H.size, ce dA ad (.inl (3, N, .inr (.inr (.inr (.inr (fun _ => none))))))) H1 := e1
  have h' : SR mi Ψ MC MS s D dA A w0 ad0 ad H locs ls L st w nc ns := ⟨h.1, h.2.1, h.2.2.1, h.2.2.2.1, h.2.2.2.2.1, h.2.2.2.2.2.1, h.2.2.2.2.2.2.1, ok1 h.2.2.2.2.2.2.2.1, h.2.2.2.2.2.2.2.2⟩
  obtain ⟨hs, hm⟩ := sr_push h' hA hr.1 hr.2.1 hr.2.2 hob (fun i k hk => by cases hk) z1 o1 h1 h2
  have := kk l p e s m args below meth c Q D dA A w0 ad0 C1 R _ H1 locs ls hs
  rw [List.map_cons, hm] at this
  have e3 : cv (adn ad (keyw w r) H.size) (.ref (keyw w r)) = .ref H.size := by show Value.ref _ = _; rw [adn_self]
  rw [e3] at this
  exact this
end Make
end
section
/-! ### contracts -/
abbrev Pq : Type := Option Value → Wd → Prop
def APc (D : va_G) (dA : Nat → ClassId) (ad : Nat → Nat) (as : List Value) (w : Wd) (sz : Nat) : Array Value → State → Prop := va_Pc (as.map (cv ad)) (fun U => U.heap.size = sz ∧ AP D dA ad w U.heap ∧ AK D dA U ∧ AD (fun _ => True) ad w ∧ ∀ v ∈ as, okv w v)
def AQc (D : va_G) (dA : Nat → ClassId) (ad : Nat → Nat) (w : Wd) (sz : Nat) (Post : Pq) : Array Value → State → Outcome → State → Prop := fun _ st oc t =>
  (∃ (r : Option Value) (w' : Wd) (ad' : Nat → Nat), Post r w' ∧ AE w ad w' ad' ∧ (∀ v, r = some v → okv w' v) ∧ oc = .returned (r.map (cv ad')) ∧ AP D dA ad' w' t.heap ∧ AD (AA ad w sz) ad' w') ∧ va_F (AA ad w sz) st t
/-- from the world w, with the arguments as, the method comes to an end that Post allows; at most mc cells of ms slots are new -/
def AMet (mi : MI) (as : List Value) (w : Wd) (Post : Pq) (mc ms : Nat) : Prop :=
  ∀ (l : Launch) (D : va_G) (dA : Nat → ClassId) (ad : Nat → Nat) (sz : Nat), Met l mi.1 (mws mi) (rmOf mi mc ms) (APc D dA ad as w sz) (AQc D dA ad w sz Post) mc ms (AA ad w sz)
abbrev Zp (Post : Pq) : Zt := fun r w' _ _ => Post r w'
abbrev Ex (r : Option Value) (w : Wd) : Pq := fun r' w' => r' = r ∧ w' = w
abbrev noP : Pst := fun _ _ _ => True
theorem lg_sl_len (ad : Nat → Nat) (as : List Value) : (lg_sl (as.map (cv ad))).length = (lg_sl as).length := by
  induction as with
  | nil => rfl
  | cons v t ih =>
    have e : ∀ u (x : List Value), lg_sl (u :: x) = (if u.category = 2 then [.val u, .second] else [.val u]) ++ lg_sl x := fun u x => rfl
    rw [List.map_cons, e, e, List.length_append, List.length_append, ih, cv_cat]
    by_cases h : v.category = 2
    · rw [if_pos h, if_pos h]; rfl
    · rw [if_neg h, if_neg h]; rfl
theorem lv_args_cv (ad : Nat → Nat) (as : List Value) : ∀ i, lv_args i (as.map (cv ad)) = (lv_args i as).map (lc ad) := by
  induction as with
  | nil => intro i; rfl
  | cons v t ih =>
    intro i
    show (i, cv ad v) :: lv_args (if (cv ad v).category = 2 then i + 2 else i + 1) (t.map (cv ad)) = lc ad (i, v) :: (lv_args (if v.category = 2 then i + 2 else i + 1) t).map (lc ad)
    rw [cv_cat, ih]
    rfl
theorem lv_args_mem (as : List Value) : ∀ i, ∀ q ∈ lv_args i as, q.2 ∈ as := by
  induction as with
  | nil => intro i q hq; cases hq
  | cons v t ih =>
    intro i q hq
    rcases List.mem_cons.mp hq with rfl | hq
    · exact List.mem_cons_self
    · exact List.mem_cons_of_mem _ (ih _ q hq)
theorem AMet.of {mi : MI} {as : List Value} {w : Wd} {Post : Pq} {mc ms : Nat} (L : List (Nat × Value)) (hp : plainName mi.1.cls = true) (hL : lv_args 0 as = L) (hfit : (lg_sl as).length ≤ mi.2.2.1) (k : AW mi noP (Zp Post) mc ms 0 L [] w 0 0) : AMet mi as w Post mc ms := by
  subst hL
  intro l D dA ad sz
  refine Met.ofW (cc := mi.2.1) (maxL := mi.2.2.1) (ret := mi.2.2.2.1) hp rfl ?_
  intro p e s m args below meth c s₁ B hml hv
  obtain ⟨rfl, hsz, hP, hK, hD0, hwf⟩ := hv
  have hx := B.exec
  have hb := B.bytes
  have hr := B.returns
  have hts := atoms_spec (ws := mws mi) B.pre
  have hown : s.vm.findClass mi.1.cls = some m.cls := findClass_of_methodNamed B.named
  have hlocks := B.notSynchronized
  have hin : meth.name = mi.1.name := (name_of_methodNamed B.named B.method).1
  subst hsz
  have hlv := lv_entry (as.map (cv ad)) (n := mi.2.2.1) (by rw [lg_sl_len]; exact hfit)
  rw [lg_entry_eq]
  rw [lv_args_cv] at hlv
  refine k l p e s m _ below meth c (MQ below (AQc D dA ad w s.heap.size Post) _ s mc ms (AA ad w s.heap.size)) D dA (AA ad w s.heap.size) w ad
    ⟨hx, hb, hr, hml, hown, fun x h => hts x (List.mem_cons_of_mem _ h), hlocks, hin, hK, fun q h => Or.inr h⟩ ?_ ad s.heap [] _
    ⟨True.intro, AE.rf w ad, hP, ⟨hD0.1, fun k e h => Or.inl ⟨k, e, h, rfl⟩⟩, va_S.rf, hlv, fun q hq => hwf _ (lv_args_mem as 0 q hq), fun v hv => absurd hv List.not_mem_nil, Nat.zero_le _, Nat.zero_le _⟩
  intro r w' ad' H' locs' nc' ns' pc' ls' i hz hP' hD' hS' hE' hok' hrt hdec hc hs
  refine W.widen (k := mc) (n := ms) hc hs ?_
  have hq : ∀ t : State, t.heap = H' → s.WarmedH t.vm → AQc D dA ad w s.heap.size Post (List.map (cv ad) as).toArray s (.returned (r.map (cv ad'))) t := fun t ht _ => ⟨⟨r, w', ad', hz, hE', hok', rfl, by rw [ht]; exact hP', hD'⟩, hS'.F ht⟩
  rcases hrt with ⟨h1, rfl, rfl⟩ | ⟨ty, v, h1, rfl, rfl, hn⟩ | ⟨v, h1, rfl, rfl⟩ | ⟨n, k, h1, rfl, rfl⟩
  · exact W.vret hx hb (hr.trans h1) hq hS'.2.2 hdec
  · exact W.zret (v := v) hx hb (hr.trans h1) hn hq hS'.2.2 hdec
  · exact W.lret (v := v) hx hb (hr.trans h1) hq hS'.2.2 hdec
  · exact W.aret (v := .ref (ad' k)) hx hb (hr.trans h1) (Or.inl ⟨n, rfl⟩) (Or.inr ⟨_, rfl⟩) hq hS'.2.2 hdec
theorem AMet.mono {mi : MI} {as : List Value} {w : Wd} {P P' : Pq} {mc ms : Nat} (h : AMet mi as w P mc ms) (hp : ∀ r w', P r w' → P' r w') : AMet mi as w P' mc ms := by
  intro l D dA ad sz
  refine MetFree.mono (h l D dA ad sz) (fun _ _ h => h) (fun _ _ _ _ _ _ => True.intro) ?_
  intro a s o t _ h
  obtain ⟨⟨⟨r, w', ad', h1, h2⟩, h3⟩, h4⟩ := h
  exact ⟨⟨⟨r, w', ad', hp _ _ h1, h2⟩, h3⟩, h4⟩
section Ends
variable {mi : MI} {Ψ : Pst} {Z : Zt} {MC MS : Nat} {pc pc' : Nat} {L : List (Nat × Value)} {st : List Value} {w : Wd} {nc ns : Nat}
theorem aw_ireturn {ty : FieldType} {v : Int32} (d : Dc mi pc .ireturn 1 pc') (hr : mi.2.2.2.1 = some ty) (hn : narrow ty (.int v) = .int v) (hz : Z (some (.int v)) w nc ns) : AW mi Ψ Z MC MS pc L [.int v] w nc ns := by
  intro l p e s m args below meth c Q D dA A w0 ad0 C R ad H locs ls h
  exact R (some (.int v)) w ad H locs nc ns pc ls .ireturn hz h.2.2.1 h.2.2.2.1 h.2.2.2.2.1 h.2.1 (fun v hv => by cases hv; exact True.intro) (Or.inr (Or.inl ⟨ty, v, hr, rfl, rfl, hn⟩)) d.1 h.2.2.2.2.2.2.2.2.1 h.2.2.2.2.2.2.2.2.2
theorem aw_lreturn {v : Int64} (d : Dc mi pc .lreturn 1 pc') (hr : mi.2.2.2.1 = some .long) (hz : Z (some (.long v)) w nc ns) : AW mi Ψ Z MC MS pc L [.long v] w nc ns := by
  intro l p e s m args below meth c Q D dA A w0 ad0 C R ad H locs ls h
  exact R (some (.long v)) w ad H locs nc ns pc ls .lreturn hz h.2.2.1 h.2.2.2.1 h.2.2.2.2.1 h.2.1 (fun v hv => by cases hv; exact True.intro) (Or.inr (Or.inr (Or.inl ⟨v, hr, rfl, rfl⟩))) d.1 h.2.2.2.2.2.2.2.2.1 h.2.2.2.2.2.2.2.2.2
theorem aw_areturn {n : String} {k : Nat} (d : Dc mi pc .areturn 1 pc') (hr : mi.2.2.2.1 = some (.object n)) (hz : Z (some (.ref k)) w nc ns) : AW mi Ψ Z MC MS pc L [.ref k] w nc ns := by
  intro l p e s m args below meth c Q D dA A w0 ad0 C R ad H locs ls h
  exact R (some (.ref k)) w ad H locs nc ns pc ls .areturn hz h.2.2.1 h.2.2.2.1 h.2.2.2.2.1 h.2.1 (fun v hv => by cases hv; exact ok1a h.2.2.2.2.2.2.2.1) (Or.inr (Or.inr (Or.inr ⟨n, k, hr, rfl, rfl⟩))) d.1 h.2.2.2.2.2.2.2.2.1 h.2.2.2.2.2.2.2.2.2
theorem aw_return (d : Dc mi pc .return_ 1 pc') (hr : mi.2.2.2.1 = none) (hz : Z none w nc ns) : AW mi Ψ Z MC MS pc L [] w nc ns := by
  intro l p e s m args below meth c Q D dA A w0 ad0 C R ad H locs ls h
  exact R none w ad H locs nc ns pc ls .return_ hz h.2.2.1 h.2.2.2.1 h.2.2.2.2.1 h.2.1 (fun v hv => by cases hv) (Or.inl ⟨hr, rfl, rfl⟩) d.1 h.2.2.2.2.2.2.2.2.1 h.2.2.2.2.2.2.2.2.2
theorem aw_obj {q : Nat} (d : Do mi pc pc') (k : AW mi Ψ Z MC MS pc' L [] w nc ns) : AW mi Ψ Z MC MS pc L [.ref q] w nc ns := by
  obtain ⟨idx, d, rfl, w1, w2, w3, h1, h2⟩ := d
  intro l p e s m args below meth c Q D dA A w0 ad0 C R ad H locs ls h
  refine W.objInit C.1 C.2.1 C.2.2.2.2.1 (C.2.2.2.2.2.1 _ w1) (C.2.2.2.2.2.1 _ w2) (C.2.2.2.2.2.1 _ w3) rfl (h.2.2.2.2.2.1.1.trans C.2.2.2.1.symm) rfl d h1 (Nat.le_trans (by show 2 * 0 + 0 + 12 ≤ 12; decide) h2) ?_
  exact k l p e s m args below meth c Q D dA A w0 ad0 C R ad H locs ls ⟨h.1, h.2.1, h.2.2.1, h.2.2.2.1, h.2.2.2.2.1, h.2.2.2.2.2.1, h.2.2.2.2.2.2.1, ok1 h.2.2.2.2.2.2.2.1, h.2.2.2.2.2.2.2.2⟩
end Ends
section Calls
variable {mi mi' : MI} {Ψ : Pst} {Z : Zt} {MC MS : Nat} {pc pc' n mc ms : Nat} {L : List (Nat × Value)} {st rest : List Value} {w : Wd} {nc ns : Nat} {Post : Pq}
theorem blindA {D : va_G} {dA : Nat → ClassId} {ad : Nat → Nat} {as : List Value} {sz : Nat} : FrameBlind (APc D dA ad as w sz) := fun a U g mk h => by
  obtain ⟨h0, h1, h2, h3, h4, h5⟩ := h
  exact ⟨h0, h1, h2, AK.same (s := U) (U := U.calling g mk a) rfl h3, h4, h5⟩
theorem preA {D : va_G} {dA : Nat → ClassId} {ad : Nat → Nat} {as : List Value} {s : State} {H : Heap} {A : Nat → Prop} (hP : AP D dA ad w H) (hK : AK D dA s) (hD : AD A ad w) (ho : ∀ v ∈ as, okv w v) : ∀ U : State, U.heap = H → s.WarmedH U.vm → APc D dA ad as w H.size (as.map (cv ad)).toArray U := fun U hU hW =>
  ⟨rfl, by rw [hU], by rw [hU]; exact hP, hK.warm hW, ⟨hD.1, fun _ _ _ => True.intro⟩, ho⟩
theorem cat_rest (ad : Nat → Nat) (rest : List Value) : ((rest.map (cv ad)).map fun v => v.category).sum = (rest.map fun v => v.category).sum := by
  rw [List.map_map]
  congr 1
  exact List.map_congr_left (fun v _ => cv_cat ad v)
/-- behind a call -/
theorem aw_back {l : Launch} {p : Program} {e : Env} {s : State} {m : MethodId} {args : Array Value} {below : List Frame} {meth : Method} {c : Code} {Q : State → Prop} {D : va_G} {dA : Nat → ClassId} {A : Nat → Prop} {w0 : Wd} {ad0 ad : Nat → Nat} {H : Heap} {locs : List Loc} {ls : Array Slot} {a : Array Value} {st0 : List Value}
    (C : Cx mi p s m args meth c D dA A) (R : Rx mi Z MC MS l p e s m args below meth c Q D dA A w0 ad0) (h : SR mi Ψ MC MS s D dA A w0 ad0 ad H locs ls L rest w nc ns) (h1 : nc + mc ≤ MC) (h2 : ns + ms ≤ MS)
    (hr : va_Run p l e (rmOf mi MC MS) s m args below meth c H locs nc ns mc ms (F0 m pc ls st0) (rest.map (cv ad)) (AQc D dA ad w H.size Post a) (AA ad w H.size))
    (kk : ∀ r w', Post r w' → AW mi Ψ Z MC MS (pc + 3) L (r.toList ++ rest) w' (nc + mc) (ns + ms)) : W p l e (rmOf mi MC MS) s m args below meth c H locs nc ns Q (F0 m pc ls st0) := by
  obtain ⟨g1, g2, hP, hD, hS, hlv, hwl, hws, g9, g10⟩ := h
  have hA := C.2.2.2.2.2.2.2.2.2
  intro T hT X
  obtain ⟨v, st₀, t, T', Lc, q0, X', hLc, e1, e2, ⟨⟨r, w', ad', hpost, hE, hok, hv, hP', hD'⟩, hz, hk⟩, stp⟩ := hr T hT X
  cases hv
  have hx : ∀ j, domw w j → ad' j = ad j := fun j hj => (hE j hj).1
  have hmv : ∀ j, domw w j → domw w' j := fun j hj => (hE j hj).2
  have hAA : ∀ q, AA ad w H.size q → A q := fun q hq => by
    rcases hq with ⟨k, e, h, rfl⟩ | h
    · exact hD.2 k e h
    · exact hA q (Nat.le_trans hS.1 h)
  rw [q0] at hz hk
  rw [← e1] at hz hk hP'
  have hL2 : L.map (lc ad') = L.map (lc ad) := List.map_congr_left (fun q hq => by unfold lc; rw [cv_ext hx (hwl q hq)])
  have hs : SR mi Ψ MC MS s D dA A w0 ad0 ad' T'.heap (locs ++ Lc) ls L (r.toList ++ rest) w' (nc + mc) (ns + ms) := by
    refine ⟨by rw [hx 8 (Or.inr rfl)]; exact g1, g2.trans hE, hP', ⟨hD'.1, fun k e h => hAA _ (hD'.2 k e h)⟩, ⟨Nat.le_trans hS.1 hz, fun q q1 q2 => (hk q (Nat.lt_of_lt_of_le q1 hS.1) (fun z => q2 (hAA q z))).trans (hS.2.1 q q1 q2), fun q hq => ?_⟩, by rw [hL2]; exact hlv, fun q hq => okv_mono hmv (hwl q hq), fun u hu => ?_, h1, h2⟩
    · rcases List.mem_append.mp hq with h | h
      · exact hS.2.2 q h
      · exact hAA _ (hLc q h)
    · rcases List.mem_append.mp hu with h | h
      · cases r with
        | none => cases h
        | some x => cases List.mem_singleton.mp h; exact hok _ rfl
      · exact okv_mono hmv (hws u h)
  obtain ⟨t2, a1, b1⟩ := kk r w' hpost l p e s m args below meth c Q D dA A w0 ad0 C R ad' T'.heap (locs ++ Lc) ls hs T' rfl X'
  refine ⟨t2, stp t2 ?_, b1⟩
  have e5 : (r.toList ++ rest).map (cv ad') = (r.map (cv ad')).toList ++ rest.map (cv ad) := by
    rw [List.map_append, map_ext hx hws]
    cases r <;> rfl
  rw [e5] at a1
  exact a1
theorem aw_callV {As : List Value} {b ci : Nat} {fs : List Value} {q : vw_C} (d : DcV mi mi' pc pc') (kv : KV mi' n) (hM : AMet mi' (.ref b :: As) w Post mc ms) (hst : st = As.reverse ++ .ref b :: rest) (hn : As.length = n) (hb : look w b = some (.inr (ci, fs))) (hc : classes[ci]? = some q) (hq : q.1 = mi'.1.cls) (hcat : (rest.map fun v => v.category).sum ≤ 8) (h1 : nc + mc ≤ MC) (h2 : ns + ms ≤ MS)
    (kk : ∀ r w', Post r w' → AW mi Ψ Z MC MS pc' L (r.toList ++ rest) w' (nc + mc) (ns + ms)) : AW mi Ψ Z MC MS pc L st w nc ns := by
  obtain ⟨idx, d, rfl, hlink, hfit⟩ := d
  obtain ⟨k1, k2, k3, k4, k5⟩ := kv
  subst hst
  intro l p e s m args below meth c Q D dA A w0 ad0 C R ad H locs ls h
  have hokA : ∀ v ∈ (Value.ref b :: As), okv w v := fun v hv => h.2.2.2.2.2.2.2.1 v (by
    rcases List.mem_cons.mp hv with rfl | hv
    · exact List.mem_append_right _ List.mem_cons_self
    · exact List.mem_append_left _ (List.mem_reverse.mpr hv))
  have hr : SR mi Ψ MC MS s D dA A w0 ad0 ad H locs ls L rest w nc ns := ⟨h.1, h.2.1, h.2.2.1, h.2.2.2.1, h.2.2.2.2.1, h.2.2.2.2.2.1, h.2.2.2.2.2.2.1, fun v hv => h.2.2.2.2.2.2.2.1 v (List.mem_append_right _ (List.mem_cons_of_mem _ hv)), h.2.2.2.2.2.2.2.2⟩
  have hK := C.2.2.2.2.2.2.2.2.1
  have hts := C.2.2.2.2.2.1
  obtain ⟨⟨r', e1, cell, e2, e3, e4, -⟩, -⟩ := h.2.2.1 b _ hb
  have hr' : r' = q := Option.some.inj (e1.symm.trans hc)
  subst hr'
  have hrecv : ∃ cellB : Cell, H[ad b]? = some cellB ∧ cellB.vm.isStatics = false ∧ s.vm.findClass mi'.1.cls = some cellB.cls := ⟨cell, e2, by rw [e4]; rfl, by rw [e3, ← hq]; exact (hK.1.1 ci r' hc).2.1⟩
  have hG : GoodIn gtb (wsV mi.1.cls idx mi'.1.cls mi'.1 (mws mi')) := by
    intro x hx
    rcases List.mem_append.mp hx with hx | hx
    · simp only [List.mem_cons, List.not_mem_nil, or_false] at hx
      rcases hx with rfl | rfl | rfl | rfl
      · exact ⟨hlink, good_gtb hlink⟩
      · exact ⟨k1, good_gtb k1⟩
      · exact ⟨k2, good_gtb k2⟩
      · exact ⟨k3, good_gtb k3⟩
    · exact mws_good k4 x hx
  refine aw_back C R hr h1 h2 (va_runV (As := As.map (cv ad)) (rest := rest.map (cv ad)) (Ts := gtb) ⟨C.1, C.2.1, C.2.2.2.1, C.2.2.2.2.1, hts⟩ (hM l D dA ad H.size) (cwV n hts hG rfl rfl rfl ⟨rfl, k5⟩ hfit) ⟨blindA, hrecv, preA h.2.2.1 hK h.2.2.2.1 hokA⟩ rfl (by rw [List.length_map]; exact hn) h.2.2.2.2.2.1.1 ?_ (lv_room (by rw [cat_rest]; exact hcat)) d ⟨h1, h2⟩) kk
  show (As.reverse ++ .ref b :: rest).map (cv ad) = _
  rw [List.map_append, List.map_reverse]
  rfl
theorem aw_callS {As : List Value} (d : DcS mi mi' pc pc') (kv : KS mi' n) (hM : AMet mi' As w Post mc ms) (hst : st = As.reverse ++ rest) (hn : As.length = n) (hcat : (rest.map fun v => v.category).sum ≤ 8) (h1 : nc + mc ≤ MC) (h2 : ns + ms ≤ MS)
    (kk : ∀ r w', Post r w' → AW mi Ψ Z MC MS pc' L (r.toList ++ rest) w' (nc + mc) (ns + ms)) : AW mi Ψ Z MC MS pc L st w nc ns := by
  obtain ⟨idx, d, rfl, hlink, hfit⟩ := d
  obtain ⟨k1, k3, k4, k5⟩ := kv
  subst hst
  intro l p e s m args below meth c Q D dA A w0 ad0 C R ad H locs ls h
  have hokA : ∀ v ∈ As, okv w v := fun v hv => h.2.2.2.2.2.2.2.1 v (List.mem_append_left _ (List.mem_reverse.mpr hv))
  have hr : SR mi Ψ MC MS s D dA A w0 ad0 ad H locs ls L rest w nc ns := ⟨h.1, h.2.1, h.2.2.1, h.2.2.2.1, h.2.2.2.2.1, h.2.2.2.2.2.1, h.2.2.2.2.2.2.1, fun v hv => h.2.2.2.2.2.2.2.1 v (List.mem_append_right _ hv), h.2.2.2.2.2.2.2.2⟩
  have hK := C.2.2.2.2.2.2.2.2.1
  have hts := C.2.2.2.2.2.1
  refine aw_back C R hr h1 h2 (va_runS (As := As.map (cv ad)) (rest := rest.map (cv ad)) (Ts := gtb) ⟨C.1, C.2.1, C.2.2.2.1, C.2.2.2.2.1, hts⟩ (hM l D dA ad H.size) ⟨callB_of n hts (mws_good k4) rfl rfl rfl (hts _ k3) (hts _ hlink) k5 hfit, hts _ k1⟩ ⟨blindA, preA h.2.2.1 hK h.2.2.2.1 hokA⟩ rfl (by rw [List.length_map]; exact hn) h.2.2.2.2.2.1.1 ?_ (lv_room (by rw [cat_rest]; exact hcat)) d ⟨h1, h2⟩) kk
  show (As.reverse ++ rest).map (cv ad) = _
  rw [List.map_append, List.map_reverse]
theorem mi_none (h : mi'.2.2.2.1 = none) : mi' = (mi'.1, mi'.2.1, mi'.2.2.1, none, mi'.2.2.2.2) := by rw [← h]
theorem aw_callI {As : List Value} {b : Nat} (d : DcI mi mi' pc pc') (kv : KI mi' n) (hM : AMet mi' (.ref b :: As) w Post mc ms) (hst : st = As.reverse ++ .ref b :: rest) (hn : As.length = n) (hcat : (rest.map fun v => v.category).sum ≤ 8) (h1 : nc + mc ≤ MC) (h2 : ns + ms ≤ MS)
    (kk : ∀ r w', Post r w' → AW mi Ψ Z MC MS pc' L (r.toList ++ rest) w' (nc + mc) (ns + ms)) : AW mi Ψ Z MC MS pc L st w nc ns := by
  obtain ⟨idx, d, rfl, hlink, hfit⟩ := d
  obtain ⟨k1, k2, k6, k3, k4, k5⟩ := kv
  subst hst
  intro l p e s m args below meth c Q D dA A w0 ad0 C R ad H locs ls h
  have hokA : ∀ v ∈ (Value.ref b :: As), okv w v := fun v hv => h.2.2.2.2.2.2.2.1 v (by
    rcases List.mem_cons.mp hv with rfl | hv
    · exact List.mem_append_right _ List.mem_cons_self
    · exact List.mem_append_left _ (List.mem_reverse.mpr hv))
  have hr : SR mi Ψ MC MS s D dA A w0 ad0 ad H locs ls L rest w nc ns := ⟨h.1, h.2.1, h.2.2.1, h.2.2.2.1, h.2.2.2.2.1, h.2.2.2.2.2.1, h.2.2.2.2.2.2.1, fun v hv => h.2.2.2.2.2.2.2.1 v (List.mem_append_right _ (List.mem_cons_of_mem _ hv)), h.2.2.2.2.2.2.2.2⟩
  have hK := C.2.2.2.2.2.2.2.2.1
  have hts := C.2.2.2.2.2.1
  have cb := callB_of (own := mi.1.cls) (index := idx) (R := rmOf mi MC MS) (rm := rmOf mi' mc ms) n hts (mws_good k4) rfl rfl rfl (hts _ k3) (hts _ hlink) k5 hfit
  rw [k6] at cb
  refine aw_back C R hr h1 h2 (va_runI (As := As.map (cv ad)) (rest := rest.map (cv ad)) (Ts := gtb) (b := ad b) ⟨C.1, C.2.1, C.2.2.2.1, C.2.2.2.2.1, hts⟩ (hM l D dA ad H.size) ⟨cb, k2, hts _ k1⟩ ⟨blindA, preA h.2.2.1 hK h.2.2.2.1 hokA⟩ rfl (by rw [List.length_map]; exact hn) h.2.2.2.2.2.1.1 ?_ (lv_room (by rw [cat_rest]; exact hcat)) d ⟨h1, h2⟩) kk
  show (As.reverse ++ .ref b :: rest).map (cv ad) = _
  rw [List.map_append, List.map_reverse]
  rfl
theorem aw_callN {As : List Value} {b : Nat} (d : DcN mi mi' pc pc') (kv : KI mi' n) (hM : AMet mi' (.ref b :: As) w Post mc ms) (hst : st = As.reverse ++ .ref b :: rest) (hn : As.length = n) (hcat : (rest.map fun v => v.category).sum ≤ 8) (h1 : nc + mc ≤ MC) (h2 : ns + ms ≤ MS)
    (kk : ∀ r w', Post r w' → AW mi Ψ Z MC MS pc' L (r.toList ++ rest) w' (nc + mc) (ns + ms)) : AW mi Ψ Z MC MS pc L st w nc ns := by
  obtain ⟨idx, d, rfl, hlink, hfit⟩ := d
  obtain ⟨k1, k2, k6, k3, k4, k5⟩ := kv
  subst hst
  intro l p e s m args below meth c Q D dA A w0 ad0 C R ad H locs ls h
  have hokA : ∀ v ∈ (Value.ref b :: As), okv w v := fun v hv => h.2.2.2.2.2.2.2.1 v (by
    rcases List.mem_cons.mp hv with rfl | hv
    · exact List.mem_append_right _ List.mem_cons_self
    · exact List.mem_append_left _ (List.mem_reverse.mpr hv))
  have hr : SR mi Ψ MC MS s D dA A w0 ad0 ad H locs ls L rest w nc ns := ⟨h.1, h.2.1, h.2.2.1, h.2.2.2.1, h.2.2.2.2.1, h.2.2.2.2.2.1, h.2.2.2.2.2.2.1, fun v hv => h.2.2.2.2.2.2.2.1 v (List.mem_append_right _ (List.mem_cons_of_mem _ hv)), h.2.2.2.2.2.2.2.2⟩
  have hK := C.2.2.2.2.2.2.2.2.1
  have hts := C.2.2.2.2.2.1
  have cb := va_cnB (args := args) (R := rmOf mi MC MS) (rm := rmOf mi' mc ms) n hts (mws_good k4) rfl rfl rfl (hK.2.2 _ hlink) (hts _ k3) k5 hfit
  rw [k6] at cb
  refine aw_back C R hr h1 h2 (va_runIN (As := As.map (cv ad)) (rest := rest.map (cv ad)) (Ts := gtb) (b := ad b) ⟨C.1, C.2.1, C.2.2.2.1, C.2.2.2.2.1, hts⟩ (hM l D dA ad H.size) ⟨cb, k2, hts _ k1⟩ ⟨blindA, preA h.2.2.1 hK h.2.2.2.1 hokA⟩ rfl (by rw [List.length_map]; exact hn) h.2.2.2.2.2.1.1 ?_ (lv_room (by rw [cat_rest]; exact hcat)) d ⟨h1, h2⟩) kk
  show (As.reverse ++ .ref b :: rest).map (cv ad) = _
  rw [List.map_append, List.map_reverse]
  rfl
end Calls
end
section
/-! ### calls whose end is one value and one world; small steps -/
section Exact
variable {mi mi' : MI} {Ψ : Pst} {Z : Zt} {MC MS : Nat} {pc pc' n mc ms : Nat} {L : List (Nat × Value)} {st rest : List Value} {w w1 : Wd} {nc ns : Nat} {v : Value}
theorem aw_callV1 {As : List Value} {b ci : Nat} {fs : List Value} {q : vw_C} (d : DcV mi mi' pc pc') (kv : KV mi' n) (hM : AMet mi' (.ref b :: As) w (Ex (some v) w1) mc ms) (hst : st = As.reverse ++ .ref b :: rest) (hn : As.length = n) (hb : look w b = some (.inr (ci, fs))) (hc : classes[ci]? = some q) (hq : q.1 = mi'.1.cls) (hcat : (rest.map fun v => v.category).sum ≤ 8) (h1 : nc + mc ≤ MC) (h2 : ns + ms ≤ MS) (kk : AW mi Ψ Z MC MS pc' L (v :: rest) w1 (nc + mc) (ns + ms)) : AW mi Ψ Z MC MS pc L st w nc ns :=
  aw_callV d kv hM hst hn hb hc hq hcat h1 h2 (fun r w' h => by obtain ⟨rfl, rfl⟩ := h; exact kk)
theorem aw_callVv {As : List Value} {b ci : Nat} {fs : List Value} {q : vw_C} (d : DcV mi mi' pc pc') (kv : KV mi' n) (hM : AMet mi' (.ref b :: As) w (Ex none w1) mc ms) (hst : st = As.reverse ++ .ref b :: rest) (hn : As.length = n) (hb : look w b = some (.inr (ci, fs))) (hc : classes[ci]? = some q) (hq : q.1 = mi'.1.cls) (hcat : (rest.map fun v => v.category).sum ≤ 8) (h1 : nc + mc ≤ MC) (h2 : ns + ms ≤ MS) (kk : AW mi Ψ Z MC MS pc' L rest w1 (nc + mc) (ns + ms)) : AW mi Ψ Z MC MS pc L st w nc ns :=
  aw_callV d kv hM hst hn hb hc hq hcat h1 h2 (fun r w' h => by obtain ⟨rfl, rfl⟩ := h; exact kk)
theorem aw_callS1 {As : List Value} (d : DcS mi mi' pc pc') (kv : KS mi' n) (hM : AMet mi' As w (Ex (some v) w1) mc ms) (hst : st = As.reverse ++ rest) (hn : As.length = n) (hcat : (rest.map fun v => v.category).sum ≤ 8) (h1 : nc + mc ≤ MC) (h2 : ns + ms ≤ MS) (kk : AW mi Ψ Z MC MS pc' L (v :: rest) w1 (nc + mc) (ns + ms)) : AW mi Ψ Z MC MS pc L st w nc ns :=
  aw_callS d kv hM hst hn hcat h1 h2 (fun r w' h => by obtain ⟨rfl, rfl⟩ := h; exact kk)
theorem aw_callSv {As : List Value} (d : DcS mi mi' pc pc') (kv : KS mi' n) (hM : AMet mi' As w (Ex none w1) mc ms) (hst : st = As.reverse ++ rest) (hn : As.length = n) (hcat : (rest.map fun v => v.category).sum ≤ 8) (h1 : nc + mc ≤ MC) (h2 : ns + ms ≤ MS) (kk : AW mi Ψ Z MC MS pc' L rest w1 (nc + mc) (ns + ms)) : AW mi Ψ Z MC MS pc L st w nc ns :=
  aw_callS d kv hM hst hn hcat h1 h2 (fun r w' h => by obtain ⟨rfl, rfl⟩ := h; exact kk)
theorem aw_callIv {As : List Value} {b : Nat} (d : DcI mi mi' pc pc') (kv : KI mi' n) (hM : AMet mi' (.ref b :: As) w (Ex none w1) mc ms) (hst : st = As.reverse ++ .ref b :: rest) (hn : As.length = n) (hcat : (rest.map fun v => v.category).sum ≤ 8) (h1 : nc + mc ≤ MC) (h2 : ns + ms ≤ MS) (kk : AW mi Ψ Z MC MS pc' L rest w1 (nc + mc) (ns + ms)) : AW mi Ψ Z MC MS pc L st w nc ns :=
  aw_callI d kv hM hst hn hcat h1 h2 (fun r w' h => by obtain ⟨rfl, rfl⟩ := h; exact kk)
theorem aw_callNv {As : List Value} {b : Nat} (d : DcN mi mi' pc pc') (kv : KI mi' n) (hM : AMet mi' (.ref b :: As) w (Ex none w1) mc ms) (hst : st = As.reverse ++ .ref b :: rest) (hn : As.length = n) (hcat : (rest.map fun v => v.category).sum ≤ 8) (h1 : nc + mc ≤ MC) (h2 : ns + ms ≤ MS) (kk : AW mi Ψ Z MC MS pc' L rest w1 (nc + mc) (ns + ms)) : AW mi Ψ Z MC MS pc L st w nc ns :=
  aw_callN d kv hM hst hn hcat h1 h2 (fun r w' h => by obtain ⟨rfl, rfl⟩ := h; exact kk)
theorem ofInt_1 : Int32.ofInt 1 = nI 1 := by decide
theorem ofInt_m1 : Int32.ofInt (-1) = -nI 1 := by decide
theorem aw_inc {i : Nat} {x : Int32} (d : Dc mi pc (.iinc i 1) 3 pc') (hl : lk L i = some (.int x)) (hn : i < mi.2.2.1) (hok : lsok L i false = true) (k : AW mi Ψ Z MC MS pc' (lset L i (.int (x + nI 1))) st w nc ns) : AW mi Ψ Z MC MS pc L st w nc ns := aw_iinc _ d hl (by rw [ofInt_1]) hn hok k
theorem aw_dec {i : Nat} {x : Int32} (d : Dc mi pc (.iinc i (-1)) 3 pc') (hl : lk L i = some (.int x)) (hn : i < mi.2.2.1) (hok : lsok L i false = true) (k : AW mi Ψ Z MC MS pc' (lset L i (.int (x - nI 1))) st w nc ns) : AW mi Ψ Z MC MS pc L st w nc ns := aw_iinc _ d hl (by rw [ofInt_m1, Int32.sub_eq_add_neg]) hn hok k
/-- a row of a world is told otherwise, where it counts -/
theorem arrV_congr {cA : ClassId} {n : Nat} {f g : Nat → Value} (h : ∀ j, j < n → f j = g j) : arrV cA n f = arrV cA n g := by
  have e1 := arrV_size cA n f
  have e2 := arrV_size cA n g
  have hs : (arrV cA n f).slots = (arrV cA n g).slots := by
    apply Array.ext_getElem?
    intro i
    rcases Nat.lt_or_ge i n with q | q
    · rw [arrV_read _ _ q, arrV_read _ _ q, h i q]
    · rw [Array.getElem?_eq_none (by omega), Array.getElem?_eq_none (by omega)]
  unfold arrV at hs ⊢
  dsimp only at hs
  rw [hs]
theorem aw_row {q t N : Nat} {f g : Nat → Int32} (hq : look w q = some (.inl (t, N, .inl f))) (h : ∀ j, j < N → f j = g j) (k : AW mi Ψ Z MC MS pc L st (updw w q (.inl (t, N, .inl g))) nc ns) : AW mi Ψ Z MC MS pc L st w nc ns := by
  intro l p e s m args below meth c Q D dA A w0 ad0 C R ad H locs ls hh
  obtain ⟨g1, g2, hP, hD, hS, hl, hwl, hws, g9, g10⟩ := hh
  have hmv : ∀ j, domw w j → domw (updw w q (.inl (t, N, .inl g))) j := fun j => domw_updw hq
  have a1 : H[ad q]? = some (vp_cell (dA t) (N, .inl f)) := (hP q _ hq).1
  have hP' := hP.upd hD hq (e := .inl (t, N, .inl g)) (H1 := H) (by
    show H[ad q]? = some (vp_cell (dA t) (N, .inl g))
    rw [a1, vp_cell_i, vp_cell_i, arrV_congr (fun j hj => by rw [h j hj])]) True.intro (fun _ _ => rfl)
  exact k l p e s m args below meth c Q D dA A w0 ad0 C R ad H locs ls ⟨g1, g2.trans (AE.upd hq), hP', hD.upd hq, hS, hl, fun x hx => okv_mono hmv (hwl x hx), fun x hx => okv_mono hmv (hws x hx), g9, g10⟩
theorem aw_rowL {q t N : Nat} {f g : Nat → Int64} (hq : look w q = some (.inl (t, N, .inr (.inl f)))) (h : ∀ j, j < N → f j = g j) (k : AW mi Ψ Z MC MS pc L st (updw w q (.inl (t, N, .inr (.inl g)))) nc ns) : AW mi Ψ Z MC MS pc L st w nc ns := by
  intro l p e s m args below meth c Q D dA A w0 ad0 C R ad H locs ls hh
  obtain ⟨g1, g2, hP, hD, hS, hl, hwl, hws, g9, g10⟩ := hh
  have hmv : ∀ j, domw w j → domw (updw w q (.inl (t, N, .inr (.inl g)))) j := fun j => domw_updw hq
  have a1 : H[ad q]? = some (vp_cell (dA t) (N, .inr (.inl f))) := (hP q _ hq).1
  have hP' := hP.upd hD hq (e := .inl (t, N, .inr (.inl g))) (H1 := H) (by
    show H[ad q]? = some (vp_cell (dA t) (N, .inr (.inl g)))
    rw [a1, vp_cell_l, vp_cell_l, arrV_congr (fun j hj => by rw [h j hj])]) True.intro (fun _ _ => rfl)
  exact k l p e s m args below meth c Q D dA A w0 ad0 C R ad H locs ls ⟨g1, g2.trans (AE.upd hq), hP', hD.upd hq, hS, hl, fun x hx => okv_mono hmv (hwl x hx), fun x hx => okv_mono hmv (hws x hx), g9, g10⟩
end Exact
end
section
theorem kv_br_about : KV M_br_about 2 := ⟨mem_g 377 (by decide +kernel) rfl, mem_g 378 (by decide +kernel) rfl, mem_g 40 (by decide +kernel) rfl, mem_g 379 (by decide +kernel) rfl, by decide, by decide, by decide +kernel⟩
theorem kv_br_along : KV M_br_along 2 := ⟨mem_g 602 (by decide +kernel) rfl, mem_g 603 (by decide +kernel) rfl, mem_g 40 (by decide +kernel) rfl, mem_g 604 (by decide +kernel) rfl, by decide, by decide, by decide +kernel⟩
theorem kv_br_as : KV M_br_as 2 := ⟨mem_g 648 (by decide +kernel) rfl, mem_g 649 (by decide +kernel) rfl, mem_g 40 (by decide +kernel) rfl, mem_g 650 (by decide +kernel) rfl, by decide, by decide, by decide +kernel⟩
theorem kv_br_at : KV M_br_at 3 := ⟨mem_g 500 (by decide +kernel) rfl, mem_g 501 (by decide +kernel) rfl, mem_g 40 (by decide +kernel) rfl, mem_g 502 (by decide +kernel) rfl, by decide, by decide, by decide +kernel⟩
theorem kv_br_back : KV M_br_back 2 := ⟨mem_g 370 (by decide +kernel) rfl, mem_g 371 (by decide +kernel) rfl, mem_g 40 (by decide +kernel) rfl, mem_g 372 (by decide +kernel) rfl, by decide, by decide, by decide +kernel⟩
theorem kv_br_fault : KV M_br_fault 0 := ⟨mem_g 656 (by decide +kernel) rfl, mem_g 657 (by decide +kernel) rfl, mem_g 40 (by decide +kernel) rfl, mem_g 658 (by decide +kernel) rfl, by decide, by decide, by decide +kernel⟩
theorem kv_br_faulted : KV M_br_faulted 1 := ⟨mem_g 283 (by decide +kernel) rfl, mem_g 0 (by decide +kernel) rfl, mem_g 40 (by decide +kernel) rfl, mem_g 284 (by decide +kernel) rfl, by decide, by decide, by decide +kernel⟩
theorem kv_br_feedback : KV M_br_feedback 1 := ⟨mem_g 302 (by decide +kernel) rfl, mem_g 303 (by decide +kernel) rfl, mem_g 40 (by decide +kernel) rfl, mem_g 304 (by decide +kernel) rfl, by decide, by decide, by decide +kernel⟩
theorem kv_br_foundRings : KV M_br_foundRings 0 := ⟨mem_g 311 (by decide +kernel) rfl, mem_g 1 (by decide +kernel) rfl, mem_g 40 (by decide +kernel) rfl, mem_g 312 (by decide +kernel) rfl, by decide, by decide, by decide +kernel⟩
theorem kv_br_greatest : KV M_br_greatest 2 := ⟨mem_g 565 (by decide +kernel) rfl, mem_g 566 (by decide +kernel) rfl, mem_g 40 (by decide +kernel) rfl, mem_g 567 (by decide +kernel) rfl, by decide, by decide, by decide +kernel⟩
theorem kv_br_init : KI M_br_init 0 := ⟨mem_g 54 (by decide +kernel) rfl, rfl, rfl, mem_g 40 (by decide +kernel) rfl, mem_g 55 (by decide +kernel) rfl, by decide, by decide, by decide +kernel⟩
theorem kv_br_isBit : KS M_br_isBit 1 := ⟨mem_g 242 (by decide +kernel) rfl, mem_g 40 (by decide +kernel) rfl, mem_g 243 (by decide +kernel) rfl, by decide, by decide, by decide +kernel⟩
theorem kv_br_isLane : KS M_br_isLane 1 := ⟨mem_g 275 (by decide +kernel) rfl, mem_g 40 (by decide +kernel) rfl, mem_g 276 (by decide +kernel) rfl, by decide, by decide, by decide +kernel⟩
theorem kv_br_isSheet : KS M_br_isSheet 1 := ⟨mem_g 272 (by decide +kernel) rfl, mem_g 40 (by decide +kernel) rfl, mem_g 273 (by decide +kernel) rfl, by decide, by decide, by decide +kernel⟩
theorem kv_br_join : KV M_br_join 0 := ⟨mem_g 410 (by decide +kernel) rfl, mem_g 411 (by decide +kernel) rfl, mem_g 40 (by decide +kernel) rfl, mem_g 412 (by decide +kernel) rfl, by decide, by decide, by decide +kernel⟩
theorem kv_br_learn : KV M_br_learn 1 := ⟨mem_g 592 (by decide +kernel) rfl, mem_g 593 (by decide +kernel) rfl, mem_g 40 (by decide +kernel) rfl, mem_g 594 (by decide +kernel) rfl, by decide, by decide, by decide +kernel⟩
theorem kv_br_leave : KV M_br_leave 1 := ⟨mem_g 624 (by decide +kernel) rfl, mem_g 19 (by decide +kernel) rfl, mem_g 40 (by decide +kernel) rfl, mem_g 625 (by decide +kernel) rfl, by decide, by decide, by decide +kernel⟩
theorem kv_br_length : KV M_br_length 1 := ⟨mem_g 223 (by decide +kernel) rfl, mem_g 224 (by decide +kernel) rfl, mem_g 40 (by decide +kernel) rfl, mem_g 225 (by decide +kernel) rfl, by decide, by decide, by decide +kernel⟩
theorem kv_br_linear : KV M_br_linear 2 := ⟨mem_g 249 (by decide +kernel) rfl, mem_g 250 (by decide +kernel) rfl, mem_g 40 (by decide +kernel) rfl, mem_g 251 (by decide +kernel) rfl, by decide, by decide, by decide +kernel⟩
theorem kv_br_lose : KV M_br_lose 1 := ⟨mem_g 484 (by decide +kernel) rfl, mem_g 485 (by decide +kernel) rfl, mem_g 40 (by decide +kernel) rfl, mem_g 486 (by decide +kernel) rfl, by decide, by decide, by decide +kernel⟩
theorem kv_br_mix : KV M_br_mix 3 := ⟨mem_g 517 (by decide +kernel) rfl, mem_g 518 (by decide +kernel) rfl, mem_g 40 (by decide +kernel) rfl, mem_g 519 (by decide +kernel) rfl, by decide, by decide, by decide +kernel⟩
theorem kv_br_order : KV M_br_order 2 := ⟨mem_g 530 (by decide +kernel) rfl, mem_g 531 (by decide +kernel) rfl, mem_g 40 (by decide +kernel) rfl, mem_g 532 (by decide +kernel) rfl, by decide, by decide, by decide +kernel⟩
theorem kv_br_out : KV M_br_out 4 := ⟨mem_g 505 (by decide +kernel) rfl, mem_g 506 (by decide +kernel) rfl, mem_g 40 (by decide +kernel) rfl, mem_g 507 (by decide +kernel) rfl, by decide, by decide, by decide +kernel⟩
theorem kv_br_period : KV M_br_period 1 := ⟨mem_g 584 (by decide +kernel) rfl, mem_g 585 (by decide +kernel) rfl, mem_g 40 (by decide +kernel) rfl, mem_g 586 (by decide +kernel) rfl, by decide, by decide, by decide +kernel⟩
theorem kv_br_prefer : KV M_br_prefer 1 := ⟨mem_g 467 (by decide +kernel) rfl, mem_g 468 (by decide +kernel) rfl, mem_g 40 (by decide +kernel) rfl, mem_g 469 (by decide +kernel) rfl, by decide, by decide, by decide +kernel⟩
theorem kv_br_put : KV M_br_put 3 := ⟨mem_g 492 (by decide +kernel) rfl, mem_g 493 (by decide +kernel) rfl, mem_g 40 (by decide +kernel) rfl, mem_g 494 (by decide +kernel) rfl, by decide, by decide, by decide +kernel⟩
theorem kv_br_refusedBits : KV M_br_refusedBits 2 := ⟨mem_g 535 (by decide +kernel) rfl, mem_g 13 (by decide +kernel) rfl, mem_g 40 (by decide +kernel) rfl, mem_g 536 (by decide +kernel) rfl, by decide, by decide, by decide +kernel⟩
theorem kv_br_refusedRow : KV M_br_refusedRow 1 := ⟨mem_g 539 (by decide +kernel) rfl, mem_g 14 (by decide +kernel) rfl, mem_g 40 (by decide +kernel) rfl, mem_g 540 (by decide +kernel) rfl, by decide, by decide, by decide +kernel⟩
theorem kv_br_ring : KV M_br_ring 2 := ⟨mem_g 381 (by decide +kernel) rfl, mem_g 382 (by decide +kernel) rfl, mem_g 40 (by decide +kernel) rfl, mem_g 383 (by decide +kernel) rfl, by decide, by decide, by decide +kernel⟩
theorem kv_br_set : KV M_br_set 2 := ⟨mem_g 234 (by decide +kernel) rfl, mem_g 235 (by decide +kernel) rfl, mem_g 40 (by decide +kernel) rfl, mem_g 236 (by decide +kernel) rfl, by decide, by decide, by decide +kernel⟩
theorem kv_br_sheet : KV M_br_sheet 3 := ⟨mem_g 475 (by decide +kernel) rfl, mem_g 476 (by decide +kernel) rfl, mem_g 40 (by decide +kernel) rfl, mem_g 477 (by decide +kernel) rfl, by decide, by decide, by decide +kernel⟩
theorem kv_br_step : KV M_br_step 2 := ⟨mem_g 306 (by decide +kernel) rfl, mem_g 307 (by decide +kernel) rfl, mem_g 40 (by decide +kernel) rfl, mem_g 308 (by decide +kernel) rfl, by decide, by decide, by decide +kernel⟩
theorem kv_br_take : KV M_br_take 5 := ⟨mem_g 268 (by decide +kernel) rfl, mem_g 269 (by decide +kernel) rfl, mem_g 40 (by decide +kernel) rfl, mem_g 270 (by decide +kernel) rfl, by decide, by decide, by decide +kernel⟩
theorem kv_br_tell : KV M_br_tell 1 := ⟨mem_g 611 (by decide +kernel) rfl, mem_g 612 (by decide +kernel) rfl, mem_g 40 (by decide +kernel) rfl, mem_g 613 (by decide +kernel) rfl, by decide, by decide, by decide +kernel⟩
theorem kv_br_tellAlone : KV M_br_tellAlone 0 := ⟨mem_g 628 (by decide +kernel) rfl, mem_g 20 (by decide +kernel) rfl, mem_g 40 (by decide +kernel) rfl, mem_g 629 (by decide +kernel) rfl, by decide, by decide, by decide +kernel⟩
theorem kv_br_tellBehind : KV M_br_tellBehind 1 := ⟨mem_g 620 (by decide +kernel) rfl, mem_g 18 (by decide +kernel) rfl, mem_g 40 (by decide +kernel) rfl, mem_g 621 (by decide +kernel) rfl, by decide, by decide, by decide +kernel⟩
theorem kv_br_tellLonger : KV M_br_tellLonger 1 := ⟨mem_g 633 (by decide +kernel) rfl, mem_g 21 (by decide +kernel) rfl, mem_g 40 (by decide +kernel) rfl, mem_g 634 (by decide +kernel) rfl, by decide, by decide, by decide +kernel⟩
theorem kv_br_thin : KV M_br_thin 3 := ⟨mem_g 509 (by decide +kernel) rfl, mem_g 510 (by decide +kernel) rfl, mem_g 40 (by decide +kernel) rfl, mem_g 511 (by decide +kernel) rfl, by decide, by decide, by decide +kernel⟩
theorem kv_br_told : KV M_br_told 1 := ⟨mem_g 394 (by decide +kernel) rfl, mem_g 395 (by decide +kernel) rfl, mem_g 40 (by decide +kernel) rfl, mem_g 396 (by decide +kernel) rfl, by decide, by decide, by decide +kernel⟩
theorem kv_br_trace : KV M_br_trace 0 := ⟨mem_g 652 (by decide +kernel) rfl, mem_g 653 (by decide +kernel) rfl, mem_g 40 (by decide +kernel) rfl, mem_g 654 (by decide +kernel) rfl, by decide, by decide, by decide +kernel⟩
theorem kv_br_turn : KV M_br_turn 1 := ⟨mem_g 402 (by decide +kernel) rfl, mem_g 403 (by decide +kernel) rfl, mem_g 40 (by decide +kernel) rfl, mem_g 404 (by decide +kernel) rfl, by decide, by decide, by decide +kernel⟩
theorem kv_br_ways : KV M_br_ways 0 := ⟨mem_g 422 (by decide +kernel) rfl, mem_g 423 (by decide +kernel) rfl, mem_g 40 (by decide +kernel) rfl, mem_g 424 (by decide +kernel) rfl, by decide, by decide, by decide +kernel⟩
theorem kv_br_weigh : KV M_br_weigh 1 := ⟨mem_g 636 (by decide +kernel) rfl, mem_g 637 (by decide +kernel) rfl, mem_g 40 (by decide +kernel) rfl, mem_g 638 (by decide +kernel) rfl, by decide, by decide, by decide +kernel⟩
theorem kv_br_weighBehind : KV M_br_weighBehind 0 := ⟨mem_g 641 (by decide +kernel) rfl, mem_g 22 (by decide +kernel) rfl, mem_g 40 (by decide +kernel) rfl, mem_g 642 (by decide +kernel) rfl, by decide, by decide, by decide +kernel⟩
theorem kv_br_weighLent : KV M_br_weighLent 1 := ⟨mem_g 645 (by decide +kernel) rfl, mem_g 23 (by decide +kernel) rfl, mem_g 40 (by decide +kernel) rfl, mem_g 646 (by decide +kernel) rfl, by decide, by decide, by decide +kernel⟩
theorem kv_ja_fillI : KS M_ja_fillI 2 := ⟨mem_g 231 (by decide +kernel) rfl, mem_g 47 (by decide +kernel) rfl, mem_g 232 (by decide +kernel) rfl, by decide, by decide, by decide +kernel⟩
theorem kv_ja_fillJ : KS M_ja_fillJ 2 := ⟨mem_g 434 (by decide +kernel) rfl, mem_g 47 (by decide +kernel) rfl, mem_g 435 (by decide +kernel) rfl, by decide, by decide, by decide +kernel⟩
theorem kv_ja_fillR : KS M_ja_fillR 4 := ⟨mem_g 578 (by decide +kernel) rfl, mem_g 47 (by decide +kernel) rfl, mem_g 579 (by decide +kernel) rfl, by decide, by decide, by decide +kernel⟩
theorem kv_ja_rangeCheck : KS M_ja_rangeCheck 3 := ⟨mem_g 581 (by decide +kernel) rfl, mem_g 47 (by decide +kernel) rfl, mem_g 582 (by decide +kernel) rfl, by decide, by decide, by decide +kernel⟩
theorem kv_ji_bitCount : KS M_ji_bitCount 1 := ⟨mem_g 257 (by decide +kernel) rfl, mem_g 48 (by decide +kernel) rfl, mem_g 258 (by decide +kernel) rfl, by decide, by decide, by decide +kernel⟩
theorem kv_jl_bitCount : KS M_jl_bitCount 1 := ⟨mem_g 555 (by decide +kernel) rfl, mem_g 50 (by decide +kernel) rfl, mem_g 556 (by decide +kernel) rfl, by decide, by decide, by decide +kernel⟩
theorem kv_jm_max : KS M_jm_max 2 := ⟨mem_g 350 (by decide +kernel) rfl, mem_g 49 (by decide +kernel) rfl, mem_g 351 (by decide +kernel) rfl, by decide, by decide, by decide +kernel⟩
theorem kv_jm_min : KS M_jm_min 2 := ⟨mem_g 525 (by decide +kernel) rfl, mem_g 49 (by decide +kernel) rfl, mem_g 526 (by decide +kernel) rfl, by decide, by decide, by decide +kernel⟩
theorem kv_mo_about : KV M_mo_about 2 := ⟨mem_g 796 (by decide +kernel) rfl, mem_g 797 (by decide +kernel) rfl, mem_g 46 (by decide +kernel) rfl, mem_g 798 (by decide +kernel) rfl, by decide, by decide, by decide +kernel⟩
theorem kv_mo_addTo : KV M_mo_addTo 4 := ⟨mem_g 830 (by decide +kernel) rfl, mem_g 33 (by decide +kernel) rfl, mem_g 46 (by decide +kernel) rfl, mem_g 831 (by decide +kernel) rfl, by decide, by decide, by decide +kernel⟩
theorem kv_mo_againstBits : KV M_mo_againstBits 2 := ⟨mem_g 885 (by decide +kernel) rfl, mem_g 36 (by decide +kernel) rfl, mem_g 46 (by decide +kernel) rfl, mem_g 886 (by decide +kernel) rfl, by decide, by decide, by decide +kernel⟩
theorem kv_mo_along : KV M_mo_along 2 := ⟨mem_g 905 (by decide +kernel) rfl, mem_g 906 (by decide +kernel) rfl, mem_g 46 (by decide +kernel) rfl, mem_g 907 (by decide +kernel) rfl, by decide, by decide, by decide +kernel⟩
theorem kv_mo_as : KV M_mo_as 2 := ⟨mem_g 922 (by decide +kernel) rfl, mem_g 923 (by decide +kernel) rfl, mem_g 46 (by decide +kernel) rfl, mem_g 924 (by decide +kernel) rfl, by decide, by decide, by decide +kernel⟩
theorem kv_mo_at : KV M_mo_at 3 := ⟨mem_g 858 (by decide +kernel) rfl, mem_g 859 (by decide +kernel) rfl, mem_g 46 (by decide +kernel) rfl, mem_g 860 (by decide +kernel) rfl, by decide, by decide, by decide +kernel⟩
theorem kv_mo_back : KV M_mo_back 2 := ⟨mem_g 791 (by decide +kernel) rfl, mem_g 792 (by decide +kernel) rfl, mem_g 46 (by decide +kernel) rfl, mem_g 793 (by decide +kernel) rfl, by decide, by decide, by decide +kernel⟩
theorem kv_mo_begins : KV M_mo_begins 1 := ⟨mem_g 915 (by decide +kernel) rfl, mem_g 38 (by decide +kernel) rfl, mem_g 46 (by decide +kernel) rfl, mem_g 916 (by decide +kernel) rfl, by decide, by decide, by decide +kernel⟩
theorem kv_mo_bit : KV M_mo_bit 2 := ⟨mem_g 772 (by decide +kernel) rfl, mem_g 28 (by decide +kernel) rfl, mem_g 46 (by decide +kernel) rfl, mem_g 773 (by decide +kernel) rfl, by decide, by decide, by decide +kernel⟩
theorem kv_mo_determinant : KV M_mo_determinant 1 := ⟨mem_g 835 (by decide +kernel) rfl, mem_g 34 (by decide +kernel) rfl, mem_g 46 (by decide +kernel) rfl, mem_g 836 (by decide +kernel) rfl, by decide, by decide, by decide +kernel⟩
theorem kv_mo_fails : KV M_mo_fails 1 := ⟨mem_g 768 (by decide +kernel) rfl, mem_g 27 (by decide +kernel) rfl, mem_g 46 (by decide +kernel) rfl, mem_g 769 (by decide +kernel) rfl, by decide, by decide, by decide +kernel⟩
theorem kv_mo_fault : KV M_mo_fault 0 := ⟨mem_g 931 (by decide +kernel) rfl, mem_g 932 (by decide +kernel) rfl, mem_g 46 (by decide +kernel) rfl, mem_g 933 (by decide +kernel) rfl, by decide, by decide, by decide +kernel⟩
theorem kv_mo_feedback : KV M_mo_feedback 1 := ⟨mem_g 775 (by decide +kernel) rfl, mem_g 776 (by decide +kernel) rfl, mem_g 46 (by decide +kernel) rfl, mem_g 777 (by decide +kernel) rfl, by decide, by decide, by decide +kernel⟩
theorem kv_mo_find : KV M_mo_find 0 := ⟨mem_g 784 (by decide +kernel) rfl, mem_g 29 (by decide +kernel) rfl, mem_g 46 (by decide +kernel) rfl, mem_g 785 (by decide +kernel) rfl, by decide, by decide, by decide +kernel⟩
theorem kv_mo_greatest : KV M_mo_greatest 2 := ⟨mem_g 888 (by decide +kernel) rfl, mem_g 889 (by decide +kernel) rfl, mem_g 46 (by decide +kernel) rfl, mem_g 890 (by decide +kernel) rfl, by decide, by decide, by decide +kernel⟩
theorem kv_mo_greatestOf : KV M_mo_greatestOf 2 := ⟨mem_g 893 (by decide +kernel) rfl, mem_g 37 (by decide +kernel) rfl, mem_g 46 (by decide +kernel) rfl, mem_g 894 (by decide +kernel) rfl, by decide, by decide, by decide +kernel⟩
theorem kv_mo_init : KI M_mo_init 0 := ⟨mem_g 662 (by decide +kernel) rfl, rfl, rfl, mem_g 46 (by decide +kernel) rfl, mem_g 663 (by decide +kernel) rfl, by decide, by decide, by decide +kernel⟩
theorem kv_mo_inverse : KS M_mo_inverse 1 := ⟨mem_g 838 (by decide +kernel) rfl, mem_g 46 (by decide +kernel) rfl, mem_g 839 (by decide +kernel) rfl, by decide, by decide, by decide +kernel⟩
theorem kv_mo_isPure : KV M_mo_isPure 0 := ⟨mem_g 809 (by decide +kernel) rfl, mem_g 31 (by decide +kernel) rfl, mem_g 46 (by decide +kernel) rfl, mem_g 810 (by decide +kernel) rfl, by decide, by decide, by decide +kernel⟩
theorem kv_mo_isSheet : KS M_mo_isSheet 1 := ⟨mem_g 764 (by decide +kernel) rfl, mem_g 46 (by decide +kernel) rfl, mem_g 765 (by decide +kernel) rfl, by decide, by decide, by decide +kernel⟩
theorem kv_mo_isState : KV M_mo_isState 1 := ⟨mem_g 745 (by decide +kernel) rfl, mem_g 24 (by decide +kernel) rfl, mem_g 46 (by decide +kernel) rfl, mem_g 746 (by decide +kernel) rfl, by decide, by decide, by decide +kernel⟩
theorem kv_mo_join : KV M_mo_join 0 := ⟨mem_g 821 (by decide +kernel) rfl, mem_g 822 (by decide +kernel) rfl, mem_g 46 (by decide +kernel) rfl, mem_g 823 (by decide +kernel) rfl, by decide, by decide, by decide +kernel⟩
theorem kv_mo_learn : KV M_mo_learn 1 := ⟨mem_g 900 (by decide +kernel) rfl, mem_g 901 (by decide +kernel) rfl, mem_g 46 (by decide +kernel) rfl, mem_g 902 (by decide +kernel) rfl, by decide, by decide, by decide +kernel⟩
theorem kv_mo_length : KV M_mo_length 1 := ⟨mem_g 731 (by decide +kernel) rfl, mem_g 732 (by decide +kernel) rfl, mem_g 46 (by decide +kernel) rfl, mem_g 733 (by decide +kernel) rfl, by decide, by decide, by decide +kernel⟩
theorem kv_mo_linear : KV M_mo_linear 2 := ⟨mem_g 752 (by decide +kernel) rfl, mem_g 753 (by decide +kernel) rfl, mem_g 46 (by decide +kernel) rfl, mem_g 754 (by decide +kernel) rfl, by decide, by decide, by decide +kernel⟩
theorem kv_mo_lose : KV M_mo_lose 1 := ⟨mem_g 850 (by decide +kernel) rfl, mem_g 851 (by decide +kernel) rfl, mem_g 46 (by decide +kernel) rfl, mem_g 852 (by decide +kernel) rfl, by decide, by decide, by decide +kernel⟩
theorem kv_mo_lost : KV M_mo_lost 1 := ⟨mem_g 864 (by decide +kernel) rfl, mem_g 35 (by decide +kernel) rfl, mem_g 46 (by decide +kernel) rfl, mem_g 865 (by decide +kernel) rfl, by decide, by decide, by decide +kernel⟩
theorem kv_mo_mix : KV M_mo_mix 3 := ⟨mem_g 876 (by decide +kernel) rfl, mem_g 877 (by decide +kernel) rfl, mem_g 46 (by decide +kernel) rfl, mem_g 878 (by decide +kernel) rfl, by decide, by decide, by decide +kernel⟩
theorem kv_mo_next : KV M_mo_next 1 := ⟨mem_g 788 (by decide +kernel) rfl, mem_g 30 (by decide +kernel) rfl, mem_g 46 (by decide +kernel) rfl, mem_g 789 (by decide +kernel) rfl, by decide, by decide, by decide +kernel⟩
theorem kv_mo_ones : KV M_mo_ones 0 := ⟨mem_g 757 (by decide +kernel) rfl, mem_g 26 (by decide +kernel) rfl, mem_g 46 (by decide +kernel) rfl, mem_g 758 (by decide +kernel) rfl, by decide, by decide, by decide +kernel⟩
theorem kv_mo_order : KV M_mo_order 2 := ⟨mem_g 880 (by decide +kernel) rfl, mem_g 881 (by decide +kernel) rfl, mem_g 46 (by decide +kernel) rfl, mem_g 882 (by decide +kernel) rfl, by decide, by decide, by decide +kernel⟩
theorem kv_mo_out : KV M_mo_out 4 := ⟨mem_g 867 (by decide +kernel) rfl, mem_g 868 (by decide +kernel) rfl, mem_g 46 (by decide +kernel) rfl, mem_g 869 (by decide +kernel) rfl, by decide, by decide, by decide +kernel⟩
theorem kv_mo_period : KV M_mo_period 1 := ⟨mem_g 896 (by decide +kernel) rfl, mem_g 897 (by decide +kernel) rfl, mem_g 46 (by decide +kernel) rfl, mem_g 898 (by decide +kernel) rfl, by decide, by decide, by decide +kernel⟩
theorem kv_mo_prefer : KV M_mo_prefer 1 := ⟨mem_g 842 (by decide +kernel) rfl, mem_g 843 (by decide +kernel) rfl, mem_g 46 (by decide +kernel) rfl, mem_g 844 (by decide +kernel) rfl, by decide, by decide, by decide +kernel⟩
theorem kv_mo_put : KV M_mo_put 3 := ⟨mem_g 854 (by decide +kernel) rfl, mem_g 855 (by decide +kernel) rfl, mem_g 46 (by decide +kernel) rfl, mem_g 856 (by decide +kernel) rfl, by decide, by decide, by decide +kernel⟩
theorem kv_mo_ring : KV M_mo_ring 2 := ⟨mem_g 800 (by decide +kernel) rfl, mem_g 801 (by decide +kernel) rfl, mem_g 46 (by decide +kernel) rfl, mem_g 802 (by decide +kernel) rfl, by decide, by decide, by decide +kernel⟩
theorem kv_mo_set : KV M_mo_set 2 := ⟨mem_g 740 (by decide +kernel) rfl, mem_g 741 (by decide +kernel) rfl, mem_g 46 (by decide +kernel) rfl, mem_g 742 (by decide +kernel) rfl, by decide, by decide, by decide +kernel⟩
theorem kv_mo_sheet : KV M_mo_sheet 3 := ⟨mem_g 846 (by decide +kernel) rfl, mem_g 847 (by decide +kernel) rfl, mem_g 46 (by decide +kernel) rfl, mem_g 848 (by decide +kernel) rfl, by decide, by decide, by decide +kernel⟩
theorem kv_mo_states : KV M_mo_states 0 := ⟨mem_g 749 (by decide +kernel) rfl, mem_g 25 (by decide +kernel) rfl, mem_g 46 (by decide +kernel) rfl, mem_g 750 (by decide +kernel) rfl, by decide, by decide, by decide +kernel⟩
theorem kv_mo_step : KV M_mo_step 2 := ⟨mem_g 779 (by decide +kernel) rfl, mem_g 780 (by decide +kernel) rfl, mem_g 46 (by decide +kernel) rfl, mem_g 781 (by decide +kernel) rfl, by decide, by decide, by decide +kernel⟩
theorem kv_mo_take : KV M_mo_take 5 := ⟨mem_g 760 (by decide +kernel) rfl, mem_g 761 (by decide +kernel) rfl, mem_g 46 (by decide +kernel) rfl, mem_g 762 (by decide +kernel) rfl, by decide, by decide, by decide +kernel⟩
theorem kv_mo_tell : KV M_mo_tell 1 := ⟨mem_g 910 (by decide +kernel) rfl, mem_g 911 (by decide +kernel) rfl, mem_g 46 (by decide +kernel) rfl, mem_g 912 (by decide +kernel) rfl, by decide, by decide, by decide +kernel⟩
theorem kv_mo_thin : KV M_mo_thin 3 := ⟨mem_g 871 (by decide +kernel) rfl, mem_g 872 (by decide +kernel) rfl, mem_g 46 (by decide +kernel) rfl, mem_g 873 (by decide +kernel) rfl, by decide, by decide, by decide +kernel⟩
theorem kv_mo_told : KV M_mo_told 1 := ⟨mem_g 804 (by decide +kernel) rfl, mem_g 805 (by decide +kernel) rfl, mem_g 46 (by decide +kernel) rfl, mem_g 806 (by decide +kernel) rfl, by decide, by decide, by decide +kernel⟩
theorem kv_mo_trace : KV M_mo_trace 0 := ⟨mem_g 927 (by decide +kernel) rfl, mem_g 928 (by decide +kernel) rfl, mem_g 46 (by decide +kernel) rfl, mem_g 929 (by decide +kernel) rfl, by decide, by decide, by decide +kernel⟩
theorem kv_mo_turn : KV M_mo_turn 1 := ⟨mem_g 813 (by decide +kernel) rfl, mem_g 814 (by decide +kernel) rfl, mem_g 46 (by decide +kernel) rfl, mem_g 815 (by decide +kernel) rfl, by decide, by decide, by decide +kernel⟩
theorem kv_mo_turnPair : KV M_mo_turnPair 1 := ⟨mem_g 818 (by decide +kernel) rfl, mem_g 32 (by decide +kernel) rfl, mem_g 46 (by decide +kernel) rfl, mem_g 819 (by decide +kernel) rfl, by decide, by decide, by decide +kernel⟩
theorem kv_mo_ways : KV M_mo_ways 0 := ⟨mem_g 825 (by decide +kernel) rfl, mem_g 826 (by decide +kernel) rfl, mem_g 46 (by decide +kernel) rfl, mem_g 827 (by decide +kernel) rfl, by decide, by decide, by decide +kernel⟩
theorem kv_mo_weigh : KV M_mo_weigh 1 := ⟨mem_g 918 (by decide +kernel) rfl, mem_g 919 (by decide +kernel) rfl, mem_g 46 (by decide +kernel) rfl, mem_g 920 (by decide +kernel) rfl, by decide, by decide, by decide +kernel⟩
theorem kv_mo_within : KS M_mo_within 3 := ⟨mem_g 737 (by decide +kernel) rfl, mem_g 46 (by decide +kernel) rfl, mem_g 738 (by decide +kernel) rfl, by decide, by decide, by decide +kernel⟩
theorem kv_rg_countBefore : KV M_rg_countBefore 1 := ⟨mem_g 322 (by decide +kernel) rfl, mem_g 323 (by decide +kernel) rfl, mem_g 41 (by decide +kernel) rfl, mem_g 324 (by decide +kernel) rfl, by decide, by decide, by decide +kernel⟩
theorem kv_rg_countOnes : KV M_rg_countOnes 0 := ⟨mem_g 264 (by decide +kernel) rfl, mem_g 265 (by decide +kernel) rfl, mem_g 41 (by decide +kernel) rfl, mem_g 266 (by decide +kernel) rfl, by decide, by decide, by decide +kernel⟩
theorem kv_rg_evenBefore : KV M_rg_evenBefore 1 := ⟨mem_g 326 (by decide +kernel) rfl, mem_g 327 (by decide +kernel) rfl, mem_g 41 (by decide +kernel) rfl, mem_g 328 (by decide +kernel) rfl, by decide, by decide, by decide +kernel⟩
theorem kv_rg_fillFrom : KV M_rg_fillFrom 1 := ⟨mem_g 597 (by decide +kernel) rfl, mem_g 598 (by decide +kernel) rfl, mem_g 41 (by decide +kernel) rfl, mem_g 599 (by decide +kernel) rfl, by decide, by decide, by decide +kernel⟩
theorem kv_rg_fillLinear : KV M_rg_fillLinear 2 := ⟨mem_g 253 (by decide +kernel) rfl, mem_g 254 (by decide +kernel) rfl, mem_g 41 (by decide +kernel) rfl, mem_g 255 (by decide +kernel) rfl, by decide, by decide, by decide +kernel⟩
theorem kv_rg_fillPreferring : KV M_rg_fillPreferring 1 := ⟨mem_g 471 (by decide +kernel) rfl, mem_g 472 (by decide +kernel) rfl, mem_g 41 (by decide +kernel) rfl, mem_g 473 (by decide +kernel) rfl, by decide, by decide, by decide +kernel⟩
theorem kv_rg_has : KV M_rg_has 1 := ⟨mem_g 238 (by decide +kernel) rfl, mem_g 239 (by decide +kernel) rfl, mem_g 41 (by decide +kernel) rfl, mem_g 240 (by decide +kernel) rfl, by decide, by decide, by decide +kernel⟩
theorem kv_rg_hasRun : KV M_rg_hasRun 2 := ⟨mem_g 294 (by decide +kernel) rfl, mem_g 295 (by decide +kernel) rfl, mem_g 41 (by decide +kernel) rfl, mem_g 296 (by decide +kernel) rfl, by decide, by decide, by decide +kernel⟩
theorem kv_rg_init : KI M_rg_init 0 := ⟨mem_g 62 (by decide +kernel) rfl, rfl, rfl, mem_g 41 (by decide +kernel) rfl, mem_g 63 (by decide +kernel) rfl, by decide, by decide, by decide +kernel⟩
theorem kv_rg_isPure : KV M_rg_isPure 0 := ⟨mem_g 398 (by decide +kernel) rfl, mem_g 399 (by decide +kernel) rfl, mem_g 41 (by decide +kernel) rfl, mem_g 400 (by decide +kernel) rfl, by decide, by decide, by decide +kernel⟩
theorem kv_rg_lead : KV M_rg_lead 2 := ⟨mem_g 334 (by decide +kernel) rfl, mem_g 335 (by decide +kernel) rfl, mem_g 41 (by decide +kernel) rfl, mem_g 336 (by decide +kernel) rfl, by decide, by decide, by decide +kernel⟩
theorem kv_rg_next : KV M_rg_next 1 := ⟨mem_g 330 (by decide +kernel) rfl, mem_g 331 (by decide +kernel) rfl, mem_g 41 (by decide +kernel) rfl, mem_g 332 (by decide +kernel) rfl, by decide, by decide, by decide +kernel⟩
theorem kv_rg_restart : KV M_rg_restart 1 := ⟨mem_g 227 (by decide +kernel) rfl, mem_g 228 (by decide +kernel) rfl, mem_g 41 (by decide +kernel) rfl, mem_g 229 (by decide +kernel) rfl, by decide, by decide, by decide +kernel⟩
theorem kv_rg_turnPair : KV M_rg_turnPair 1 := ⟨mem_g 406 (by decide +kernel) rfl, mem_g 407 (by decide +kernel) rfl, mem_g 41 (by decide +kernel) rfl, mem_g 408 (by decide +kernel) rfl, by decide, by decide, by decide +kernel⟩
theorem kv_rg_walk : KV M_rg_walk 2 := ⟨mem_g 365 (by decide +kernel) rfl, mem_g 366 (by decide +kernel) rfl, mem_g 41 (by decide +kernel) rfl, mem_g 367 (by decide +kernel) rfl, by decide, by decide, by decide +kernel⟩
theorem kv_rg_write : KV M_rg_write 2 := ⟨mem_g 245 (by decide +kernel) rfl, mem_g 246 (by decide +kernel) rfl, mem_g 41 (by decide +kernel) rfl, mem_g 247 (by decide +kernel) rfl, by decide, by decide, by decide +kernel⟩
theorem kv_ri_countBehind : KV M_ri_countBehind 2 := ⟨mem_g 390 (by decide +kernel) rfl, mem_g 391 (by decide +kernel) rfl, mem_g 42 (by decide +kernel) rfl, mem_g 392 (by decide +kernel) rfl, by decide, by decide, by decide +kernel⟩
theorem kv_ri_countOnesOut : KV M_ri_countOnesOut 2 := ⟨mem_g 386 (by decide +kernel) rfl, mem_g 387 (by decide +kernel) rfl, mem_g 42 (by decide +kernel) rfl, mem_g 388 (by decide +kernel) rfl, by decide, by decide, by decide +kernel⟩
theorem kv_ri_find : KV M_ri_find 1 := ⟨mem_g 314 (by decide +kernel) rfl, mem_g 315 (by decide +kernel) rfl, mem_g 42 (by decide +kernel) rfl, mem_g 316 (by decide +kernel) rfl, by decide, by decide, by decide +kernel⟩
theorem kv_ri_has : KV M_ri_has 1 := ⟨mem_g 361 (by decide +kernel) rfl, mem_g 362 (by decide +kernel) rfl, mem_g 42 (by decide +kernel) rfl, mem_g 363 (by decide +kernel) rfl, by decide, by decide, by decide +kernel⟩
theorem kv_ri_init : KI M_ri_init 0 := ⟨mem_g 91 (by decide +kernel) rfl, rfl, rfl, mem_g 42 (by decide +kernel) rfl, mem_g 92 (by decide +kernel) rfl, by decide, by decide, by decide +kernel⟩
theorem kv_ri_joinAll : KV M_ri_joinAll 1 := ⟨mem_g 414 (by decide +kernel) rfl, mem_g 415 (by decide +kernel) rfl, mem_g 42 (by decide +kernel) rfl, mem_g 416 (by decide +kernel) rfl, by decide, by decide, by decide +kernel⟩
theorem kv_ri_kindOf : KV M_ri_kindOf 1 := ⟨mem_g 615 (by decide +kernel) rfl, mem_g 616 (by decide +kernel) rfl, mem_g 42 (by decide +kernel) rfl, mem_g 617 (by decide +kernel) rfl, by decide, by decide, by decide +kernel⟩
theorem kv_ri_likeness : KV M_ri_likeness 3 := ⟨mem_g 606 (by decide +kernel) rfl, mem_g 607 (by decide +kernel) rfl, mem_g 42 (by decide +kernel) rfl, mem_g 608 (by decide +kernel) rfl, by decide, by decide, by decide +kernel⟩
theorem kv_ri_nameBehind : KV M_ri_nameBehind 1 := ⟨mem_g 347 (by decide +kernel) rfl, mem_g 5 (by decide +kernel) rfl, mem_g 42 (by decide +kernel) rfl, mem_g 348 (by decide +kernel) rfl, by decide, by decide, by decide +kernel⟩
theorem kv_ri_nameRing : KV M_ri_nameRing 2 := ⟨mem_g 343 (by decide +kernel) rfl, mem_g 4 (by decide +kernel) rfl, mem_g 42 (by decide +kernel) rfl, mem_g 344 (by decide +kernel) rfl, by decide, by decide, by decide +kernel⟩
theorem kv_ri_nameRings : KV M_ri_nameRings 1 := ⟨mem_g 339 (by decide +kernel) rfl, mem_g 3 (by decide +kernel) rfl, mem_g 42 (by decide +kernel) rfl, mem_g 340 (by decide +kernel) rfl, by decide, by decide, by decide +kernel⟩
theorem kv_ri_peel : KV M_ri_peel 1 := ⟨mem_g 319 (by decide +kernel) rfl, mem_g 2 (by decide +kernel) rfl, mem_g 42 (by decide +kernel) rfl, mem_g 320 (by decide +kernel) rfl, by decide, by decide, by decide +kernel⟩
theorem kv_ri_regroup : KS M_ri_regroup 3 := ⟨mem_g 419 (by decide +kernel) rfl, mem_g 42 (by decide +kernel) rfl, mem_g 420 (by decide +kernel) rfl, by decide, by decide, by decide +kernel⟩
theorem kv_ri_sizeAround : KV M_ri_sizeAround 1 := ⟨mem_g 357 (by decide +kernel) rfl, mem_g 358 (by decide +kernel) rfl, mem_g 42 (by decide +kernel) rfl, mem_g 359 (by decide +kernel) rfl, by decide, by decide, by decide +kernel⟩
theorem kv_ri_stepsThatMatter : KV M_ri_stepsThatMatter 2 := ⟨mem_g 353 (by decide +kernel) rfl, mem_g 354 (by decide +kernel) rfl, mem_g 42 (by decide +kernel) rfl, mem_g 355 (by decide +kernel) rfl, by decide, by decide, by decide +kernel⟩
theorem kv_rr_correctRule : KV M_rr_correctRule 1 := ⟨mem_g 562 (by decide +kernel) rfl, mem_g 16 (by decide +kernel) rfl, mem_g 45 (by decide +kernel) rfl, mem_g 563 (by decide +kernel) rfl, by decide, by decide, by decide +kernel⟩
theorem kv_rr_greatestOrder : KV M_rr_greatestOrder 2 := ⟨mem_g 569 (by decide +kernel) rfl, mem_g 570 (by decide +kernel) rfl, mem_g 45 (by decide +kernel) rfl, mem_g 571 (by decide +kernel) rfl, by decide, by decide, by decide +kernel⟩
theorem kv_rr_init : KI M_rr_init 0 := ⟨mem_g 178 (by decide +kernel) rfl, rfl, rfl, mem_g 45 (by decide +kernel) rfl, mem_g 179 (by decide +kernel) rfl, by decide, by decide, by decide +kernel⟩
theorem kv_rr_leastPeriod : KV M_rr_leastPeriod 1 := ⟨mem_g 588 (by decide +kernel) rfl, mem_g 589 (by decide +kernel) rfl, mem_g 45 (by decide +kernel) rfl, mem_g 590 (by decide +kernel) rfl, by decide, by decide, by decide +kernel⟩
theorem kv_rr_linearOrder : KV M_rr_linearOrder 2 := ⟨mem_g 542 (by decide +kernel) rfl, mem_g 543 (by decide +kernel) rfl, mem_g 45 (by decide +kernel) rfl, mem_g 544 (by decide +kernel) rfl, by decide, by decide, by decide +kernel⟩
theorem kv_rr_ruleFails : KV M_rr_ruleFails 0 := ⟨mem_g 552 (by decide +kernel) rfl, mem_g 15 (by decide +kernel) rfl, mem_g 45 (by decide +kernel) rfl, mem_g 553 (by decide +kernel) rfl, by decide, by decide, by decide +kernel⟩
theorem kv_rr_shiftIn : KS M_rr_shiftIn 2 := ⟨mem_g 547 (by decide +kernel) rfl, mem_g 45 (by decide +kernel) rfl, mem_g 548 (by decide +kernel) rfl, by decide, by decide, by decide +kernel⟩
theorem kv_rr_splitMarks : KV M_rr_splitMarks 3 := ⟨mem_g 575 (by decide +kernel) rfl, mem_g 17 (by decide +kernel) rfl, mem_g 45 (by decide +kernel) rfl, mem_g 576 (by decide +kernel) rfl, by decide, by decide, by decide +kernel⟩
theorem kv_sh_becomeThinned : KV M_sh_becomeThinned 2 := ⟨mem_g 513 (by decide +kernel) rfl, mem_g 514 (by decide +kernel) rfl, mem_g 44 (by decide +kernel) rfl, mem_g 515 (by decide +kernel) rfl, by decide, by decide, by decide +kernel⟩
theorem kv_sh_bitAt : KV M_sh_bitAt 1 := ⟨mem_g 298 (by decide +kernel) rfl, mem_g 299 (by decide +kernel) rfl, mem_g 44 (by decide +kernel) rfl, mem_g 300 (by decide +kernel) rfl, by decide, by decide, by decide +kernel⟩
theorem kv_sh_drop : KV M_sh_drop 0 := ⟨mem_g 488 (by decide +kernel) rfl, mem_g 489 (by decide +kernel) rfl, mem_g 44 (by decide +kernel) rfl, mem_g 490 (by decide +kernel) rfl, by decide, by decide, by decide +kernel⟩
theorem kv_sh_hasCells : KV M_sh_hasCells 2 := ⟨mem_g 290 (by decide +kernel) rfl, mem_g 291 (by decide +kernel) rfl, mem_g 44 (by decide +kernel) rfl, mem_g 292 (by decide +kernel) rfl, by decide, by decide, by decide +kernel⟩
theorem kv_sh_init : KI M_sh_init 0 := ⟨mem_g 157 (by decide +kernel) rfl, rfl, rfl, mem_g 44 (by decide +kernel) rfl, mem_g 158 (by decide +kernel) rfl, by decide, by decide, by decide +kernel⟩
theorem kv_sh_isNothing : KV M_sh_isNothing 0 := ⟨mem_g 286 (by decide +kernel) rfl, mem_g 287 (by decide +kernel) rfl, mem_g 44 (by decide +kernel) rfl, mem_g 288 (by decide +kernel) rfl, by decide, by decide, by decide +kernel⟩
theorem kv_sh_isOfOtherLane : KV M_sh_isOfOtherLane 1 := ⟨mem_g 278 (by decide +kernel) rfl, mem_g 279 (by decide +kernel) rfl, mem_g 44 (by decide +kernel) rfl, mem_g 280 (by decide +kernel) rfl, by decide, by decide, by decide +kernel⟩
theorem kv_sh_mixWith : KV M_sh_mixWith 2 := ⟨mem_g 521 (by decide +kernel) rfl, mem_g 522 (by decide +kernel) rfl, mem_g 44 (by decide +kernel) rfl, mem_g 523 (by decide +kernel) rfl, by decide, by decide, by decide +kernel⟩
theorem kv_sh_renew : KV M_sh_renew 2 := ⟨mem_g 479 (by decide +kernel) rfl, mem_g 480 (by decide +kernel) rfl, mem_g 44 (by decide +kernel) rfl, mem_g 481 (by decide +kernel) rfl, by decide, by decide, by decide +kernel⟩
theorem kv_sh_write : KV M_sh_write 2 := ⟨mem_g 496 (by decide +kernel) rfl, mem_g 497 (by decide +kernel) rfl, mem_g 44 (by decide +kernel) rfl, mem_g 498 (by decide +kernel) rfl, by decide, by decide, by decide +kernel⟩
theorem kv_tr_add : KV M_tr_add 3 := ⟨mem_g 442 (by decide +kernel) rfl, mem_g 8 (by decide +kernel) rfl, mem_g 43 (by decide +kernel) rfl, mem_g 443 (by decide +kernel) rfl, by decide, by decide, by decide +kernel⟩
theorem kv_tr_addPair : KV M_tr_addPair 2 := ⟨mem_g 438 (by decide +kernel) rfl, mem_g 7 (by decide +kernel) rfl, mem_g 43 (by decide +kernel) rfl, mem_g 439 (by decide +kernel) rfl, by decide, by decide, by decide +kernel⟩
theorem kv_tr_clear : KV M_tr_clear 0 := ⟨mem_g 431 (by decide +kernel) rfl, mem_g 6 (by decide +kernel) rfl, mem_g 43 (by decide +kernel) rfl, mem_g 432 (by decide +kernel) rfl, by decide, by decide, by decide +kernel⟩
theorem kv_tr_clearBelow : KV M_tr_clearBelow 2 := ⟨mem_g 464 (by decide +kernel) rfl, mem_g 12 (by decide +kernel) rfl, mem_g 43 (by decide +kernel) rfl, mem_g 465 (by decide +kernel) rfl, by decide, by decide, by decide +kernel⟩
theorem kv_tr_count : KV M_tr_count 2 := ⟨mem_g 426 (by decide +kernel) rfl, mem_g 427 (by decide +kernel) rfl, mem_g 43 (by decide +kernel) rfl, mem_g 428 (by decide +kernel) rfl, by decide, by decide, by decide +kernel⟩
theorem kv_tr_determinant : KV M_tr_determinant 0 := ⟨mem_g 448 (by decide +kernel) rfl, mem_g 9 (by decide +kernel) rfl, mem_g 43 (by decide +kernel) rfl, mem_g 449 (by decide +kernel) rfl, by decide, by decide, by decide +kernel⟩
theorem kv_tr_init : KI M_tr_init 0 := ⟨mem_g 142 (by decide +kernel) rfl, rfl, rfl, mem_g 43 (by decide +kernel) rfl, mem_g 143 (by decide +kernel) rfl, by decide, by decide, by decide +kernel⟩
theorem kv_tr_inverse : KS M_tr_inverse 1 := ⟨mem_g 459 (by decide +kernel) rfl, mem_g 43 (by decide +kernel) rfl, mem_g 460 (by decide +kernel) rfl, by decide, by decide, by decide +kernel⟩
theorem kv_tr_pivotRow : KV M_tr_pivotRow 1 := ⟨mem_g 452 (by decide +kernel) rfl, mem_g 10 (by decide +kernel) rfl, mem_g 43 (by decide +kernel) rfl, mem_g 453 (by decide +kernel) rfl, by decide, by decide, by decide +kernel⟩
theorem kv_tr_swapRows : KV M_tr_swapRows 2 := ⟨mem_g 456 (by decide +kernel) rfl, mem_g 11 (by decide +kernel) rfl, mem_g 43 (by decide +kernel) rfl, mem_g 457 (by decide +kernel) rfl, by decide, by decide, by decide +kernel⟩
end
section
theorem D_ji_bitCount_0 : Dc M_ji_bitCount 0 (.iload_n 0) 1 1 := ⟨by decide +kernel, rfl⟩
theorem D_ji_bitCount_1 : Dc M_ji_bitCount 1 (.iload_n 0) 1 2 := ⟨by decide +kernel, rfl⟩
theorem D_ji_bitCount_2 : Dc M_ji_bitCount 2 (.iconst 1) 1 3 := ⟨by decide +kernel, rfl⟩
theorem D_ji_bitCount_3 : Dc M_ji_bitCount 3 (.iushr) 1 4 := ⟨by decide +kernel, rfl⟩
theorem D_ji_bitCount_4 : Dk M_ji_bitCount 4 7 (nI 1431655765) := ⟨265, Or.inr ⟨by decide +kernel, rfl⟩, by decide +kernel⟩
theorem D_ji_bitCount_7 : Dc M_ji_bitCount 7 (.iand) 1 8 := ⟨by decide +kernel, rfl⟩
theorem D_ji_bitCount_8 : Dc M_ji_bitCount 8 (.isub) 1 9 := ⟨by decide +kernel, rfl⟩
theorem D_ji_bitCount_9 : Dc M_ji_bitCount 9 (.istore_n 0) 1 10 := ⟨by decide +kernel, rfl⟩
theorem D_ji_bitCount_10 : Dc M_ji_bitCount 10 (.iload_n 0) 1 11 := ⟨by decide +kernel, rfl⟩
theorem D_ji_bitCount_11 : Dk M_ji_bitCount 11 14 (nI 858993459) := ⟨266, Or.inr ⟨by decide +kernel, rfl⟩, by decide +kernel⟩
theorem D_ji_bitCount_14 : Dc M_ji_bitCount 14 (.iand) 1 15 := ⟨by decide +kernel, rfl⟩
theorem D_ji_bitCount_15 : Dc M_ji_bitCount 15 (.iload_n 0) 1 16 := ⟨by decide +kernel, rfl⟩
theorem D_ji_bitCount_16 : Dc M_ji_bitCount 16 (.iconst 2) 1 17 := ⟨by decide +kernel, rfl⟩
theorem D_ji_bitCount_17 : Dc M_ji_bitCount 17 (.iushr) 1 18 := ⟨by decide +kernel, rfl⟩
theorem D_ji_bitCount_18 : Dk M_ji_bitCount 18 21 (nI 858993459) := ⟨266, Or.inr ⟨by decide +kernel, rfl⟩, by decide +kernel⟩
theorem D_ji_bitCount_21 : Dc M_ji_bitCount 21 (.iand) 1 22 := ⟨by decide +kernel, rfl⟩
theorem D_ji_bitCount_22 : Dc M_ji_bitCount 22 (.iadd) 1 23 := ⟨by decide +kernel, rfl⟩
theorem D_ji_bitCount_23 : Dc M_ji_bitCount 23 (.istore_n 0) 1 24 := ⟨by decide +kernel, rfl⟩
theorem D_ji_bitCount_24 : Dc M_ji_bitCount 24 (.iload_n 0) 1 25 := ⟨by decide +kernel, rfl⟩
theorem D_ji_bitCount_25 : Dc M_ji_bitCount 25 (.iload_n 0) 1 26 := ⟨by decide +kernel, rfl⟩
theorem D_ji_bitCount_26 : Dc M_ji_bitCount 26 (.iconst 4) 1 27 := ⟨by decide +kernel, rfl⟩
theorem D_ji_bitCount_27 : Dc M_ji_bitCount 27 (.iushr) 1 28 := ⟨by decide +kernel, rfl⟩
theorem D_ji_bitCount_28 : Dc M_ji_bitCount 28 (.iadd) 1 29 := ⟨by decide +kernel, rfl⟩
theorem D_ji_bitCount_29 : Dk M_ji_bitCount 29 32 (nI 252645135) := ⟨267, Or.inr ⟨by decide +kernel, rfl⟩, by decide +kernel⟩
theorem D_ji_bitCount_32 : Dc M_ji_bitCount 32 (.iand) 1 33 := ⟨by decide +kernel, rfl⟩
theorem D_ji_bitCount_33 : Dc M_ji_bitCount 33 (.istore_n 0) 1 34 := ⟨by decide +kernel, rfl⟩
theorem D_ji_bitCount_34 : Dc M_ji_bitCount 34 (.iload_n 0) 1 35 := ⟨by decide +kernel, rfl⟩
theorem D_ji_bitCount_35 : Dc M_ji_bitCount 35 (.iload_n 0) 1 36 := ⟨by decide +kernel, rfl⟩
theorem D_ji_bitCount_36 : Dc M_ji_bitCount 36 (.bipush 8) 2 38 := ⟨by decide +kernel, rfl⟩
theorem D_ji_bitCount_38 : Dc M_ji_bitCount 38 (.iushr) 1 39 := ⟨by decide +kernel, rfl⟩
theorem D_ji_bitCount_39 : Dc M_ji_bitCount 39 (.iadd) 1 40 := ⟨by decide +kernel, rfl⟩
theorem D_ji_bitCount_40 : Dc M_ji_bitCount 40 (.istore_n 0) 1 41 := ⟨by decide +kernel, rfl⟩
theorem D_ji_bitCount_41 : Dc M_ji_bitCount 41 (.iload_n 0) 1 42 := ⟨by decide +kernel, rfl⟩
theorem D_ji_bitCount_42 : Dc M_ji_bitCount 42 (.iload_n 0) 1 43 := ⟨by decide +kernel, rfl⟩
theorem D_ji_bitCount_43 : Dc M_ji_bitCount 43 (.bipush 16) 2 45 := ⟨by decide +kernel, rfl⟩
theorem D_ji_bitCount_45 : Dc M_ji_bitCount 45 (.iushr) 1 46 := ⟨by decide +kernel, rfl⟩
theorem D_ji_bitCount_46 : Dc M_ji_bitCount 46 (.iadd) 1 47 := ⟨by decide +kernel, rfl⟩
theorem D_ji_bitCount_47 : Dc M_ji_bitCount 47 (.istore_n 0) 1 48 := ⟨by decide +kernel, rfl⟩
theorem D_ji_bitCount_48 : Dc M_ji_bitCount 48 (.iload_n 0) 1 49 := ⟨by decide +kernel, rfl⟩
theorem D_ji_bitCount_49 : Dc M_ji_bitCount 49 (.bipush 63) 2 51 := ⟨by decide +kernel, rfl⟩
theorem D_ji_bitCount_51 : Dc M_ji_bitCount 51 (.iand) 1 52 := ⟨by decide +kernel, rfl⟩
theorem D_ji_bitCount_52 : Dc M_ji_bitCount 52 (.ireturn) 1 53 := ⟨by decide +kernel, rfl⟩
theorem D_jl_bitCount_0 : Dc M_jl_bitCount 0 (.lload_n 0) 1 1 := ⟨by decide +kernel, rfl⟩
theorem D_jl_bitCount_1 : Dc M_jl_bitCount 1 (.lload_n 0) 1 2 := ⟨by decide +kernel, rfl⟩
theorem D_jl_bitCount_2 : Dc M_jl_bitCount 2 (.iconst 1) 1 3 := ⟨by decide +kernel, rfl⟩
theorem D_jl_bitCount_3 : Dc M_jl_bitCount 3 (.lushr) 1 4 := ⟨by decide +kernel, rfl⟩
theorem D_jl_bitCount_4 : Dl M_jl_bitCount 4 7 (lN 6148914691236517205) := ⟨314, by decide +kernel, rfl, by decide +kernel⟩
theorem D_jl_bitCount_7 : Dc M_jl_bitCount 7 (.land) 1 8 := ⟨by decide +kernel, rfl⟩
theorem D_jl_bitCount_8 : Dc M_jl_bitCount 8 (.lsub) 1 9 := ⟨by decide +kernel, rfl⟩
theorem D_jl_bitCount_9 : Dc M_jl_bitCount 9 (.lstore_n 0) 1 10 := ⟨by decide +kernel, rfl⟩
theorem D_jl_bitCount_10 : Dc M_jl_bitCount 10 (.lload_n 0) 1 11 := ⟨by decide +kernel, rfl⟩
theorem D_jl_bitCount_11 : Dl M_jl_bitCount 11 14 (lN 3689348814741910323) := ⟨316, by decide +kernel, rfl, by decide +kernel⟩
theorem D_jl_bitCount_14 : Dc M_jl_bitCount 14 (.land) 1 15 := ⟨by decide +kernel, rfl⟩
theorem D_jl_bitCount_15 : Dc M_jl_bitCount 15 (.lload_n 0) 1 16 := ⟨by decide +kernel, rfl⟩
theorem D_jl_bitCount_16 : Dc M_jl_bitCount 16 (.iconst 2) 1 17 := ⟨by decide +kernel, rfl⟩
theorem D_jl_bitCount_17 : Dc M_jl_bitCount 17 (.lushr) 1 18 := ⟨by decide +kernel, rfl⟩
theorem D_jl_bitCount_18 : Dl M_jl_bitCount 18 21 (lN 3689348814741910323) := ⟨316, by decide +kernel, rfl, by decide +kernel⟩
theorem D_jl_bitCount_21 : Dc M_jl_bitCount 21 (.land) 1 22 := ⟨by decide +kernel, rfl⟩
theorem D_jl_bitCount_22 : Dc M_jl_bitCount 22 (.ladd) 1 23 := ⟨by decide +kernel, rfl⟩
theorem D_jl_bitCount_23 : Dc M_jl_bitCount 23 (.lstore_n 0) 1 24 := ⟨by decide +kernel, rfl⟩
theorem D_jl_bitCount_24 : Dc M_jl_bitCount 24 (.lload_n 0) 1 25 := ⟨by decide +kernel, rfl⟩
theorem D_jl_bitCount_25 : Dc M_jl_bitCount 25 (.lload_n 0) 1 26 := ⟨by decide +kernel, rfl⟩
theorem D_jl_bitCount_26 : Dc M_jl_bitCount 26 (.iconst 4) 1 27 := ⟨by decide +kernel, rfl⟩
theorem D_jl_bitCount_27 : Dc M_jl_bitCount 27 (.lushr) 1 28 := ⟨by decide +kernel, rfl⟩
theorem D_jl_bitCount_28 : Dc M_jl_bitCount 28 (.ladd) 1 29 := ⟨by decide +kernel, rfl⟩
theorem D_jl_bitCount_29 : Dl M_jl_bitCount 29 32 (lN 1085102592571150095) := ⟨318, by decide +kernel, rfl, by decide +kernel⟩
theorem D_jl_bitCount_32 : Dc M_jl_bitCount 32 (.land) 1 33 := ⟨by decide +kernel, rfl⟩
theorem D_jl_bitCount_33 : Dc M_jl_bitCount 33 (.lstore_n 0) 1 34 := ⟨by decide +kernel, rfl⟩
theorem D_jl_bitCount_34 : Dc M_jl_bitCount 34 (.lload_n 0) 1 35 := ⟨by decide +kernel, rfl⟩
theorem D_jl_bitCount_35 : Dc M_jl_bitCount 35 (.lload_n 0) 1 36 := ⟨by decide +kernel, rfl⟩
theorem D_jl_bitCount_36 : Dc M_jl_bitCount 36 (.bipush 8) 2 38 := ⟨by decide +kernel, rfl⟩
theorem D_jl_bitCount_38 : Dc M_jl_bitCount 38 (.lushr) 1 39 := ⟨by decide +kernel, rfl⟩
theorem D_jl_bitCount_39 : Dc M_jl_bitCount 39 (.ladd) 1 40 := ⟨by decide +kernel, rfl⟩
theorem D_jl_bitCount_40 : Dc M_jl_bitCount 40 (.lstore_n 0) 1 41 := ⟨by decide +kernel, rfl⟩
theorem D_jl_bitCount_41 : Dc M_jl_bitCount 41 (.lload_n 0) 1 42 := ⟨by decide +kernel, rfl⟩
theorem D_jl_bitCount_42 : Dc M_jl_bitCount 42 (.lload_n 0) 1 43 := ⟨by decide +kernel, rfl⟩
theorem D_jl_bitCount_43 : Dc M_jl_bitCount 43 (.bipush 16) 2 45 := ⟨by decide +kernel, rfl⟩
theorem D_jl_bitCount_45 : Dc M_jl_bitCount 45 (.lushr) 1 46 := ⟨by decide +kernel, rfl⟩
theorem D_jl_bitCount_46 : Dc M_jl_bitCount 46 (.ladd) 1 47 := ⟨by decide +kernel, rfl⟩
theorem D_jl_bitCount_47 : Dc M_jl_bitCount 47 (.lstore_n 0) 1 48 := ⟨by decide +kernel, rfl⟩
theorem D_jl_bitCount_48 : Dc M_jl_bitCount 48 (.lload_n 0) 1 49 := ⟨by decide +kernel, rfl⟩
theorem D_jl_bitCount_49 : Dc M_jl_bitCount 49 (.lload_n 0) 1 50 := ⟨by decide +kernel, rfl⟩
theorem D_jl_bitCount_50 : Dc M_jl_bitCount 50 (.bipush 32) 2 52 := ⟨by decide +kernel, rfl⟩
theorem D_jl_bitCount_52 : Dc M_jl_bitCount 52 (.lushr) 1 53 := ⟨by decide +kernel, rfl⟩
theorem D_jl_bitCount_53 : Dc M_jl_bitCount 53 (.ladd) 1 54 := ⟨by decide +kernel, rfl⟩
theorem D_jl_bitCount_54 : Dc M_jl_bitCount 54 (.lstore_n 0) 1 55 := ⟨by decide +kernel, rfl⟩
theorem D_jl_bitCount_55 : Dc M_jl_bitCount 55 (.lload_n 0) 1 56 := ⟨by decide +kernel, rfl⟩
theorem D_jl_bitCount_56 : Dc M_jl_bitCount 56 (.l2i) 1 57 := ⟨by decide +kernel, rfl⟩
theorem D_jl_bitCount_57 : Dc M_jl_bitCount 57 (.bipush 127) 2 59 := ⟨by decide +kernel, rfl⟩
theorem D_jl_bitCount_59 : Dc M_jl_bitCount 59 (.iand) 1 60 := ⟨by decide +kernel, rfl⟩
theorem D_jl_bitCount_60 : Dc M_jl_bitCount 60 (.ireturn) 1 61 := ⟨by decide +kernel, rfl⟩
theorem D_jm_max_0 : Dc M_jm_max 0 (.iload_n 0) 1 1 := ⟨by decide +kernel, rfl⟩
theorem D_jm_max_1 : Dc M_jm_max 1 (.iload_n 1) 1 2 := ⟨by decide +kernel, rfl⟩
theorem D_jm_max_2 : Dj M_jm_max 2 (.if_icmp .lt) 5 9 := ⟨7, by decide +kernel, rfl, by decide⟩
theorem D_jm_max_5 : Dc M_jm_max 5 (.iload_n 0) 1 6 := ⟨by decide +kernel, rfl⟩
theorem D_jm_max_6 : Dj M_jm_max 6 (.goto) 9 10 := ⟨4, by decide +kernel, rfl, by decide⟩
theorem D_jm_max_9 : Dc M_jm_max 9 (.iload_n 1) 1 10 := ⟨by decide +kernel, rfl⟩
theorem D_jm_max_10 : Dc M_jm_max 10 (.ireturn) 1 11 := ⟨by decide +kernel, rfl⟩
theorem D_jm_min_0 : Dc M_jm_min 0 (.iload_n 0) 1 1 := ⟨by decide +kernel, rfl⟩
theorem D_jm_min_1 : Dc M_jm_min 1 (.iload_n 1) 1 2 := ⟨by decide +kernel, rfl⟩
theorem D_jm_min_2 : Dj M_jm_min 2 (.if_icmp .gt) 5 9 := ⟨7, by decide +kernel, rfl, by decide⟩
theorem D_jm_min_5 : Dc M_jm_min 5 (.iload_n 0) 1 6 := ⟨by decide +kernel, rfl⟩
theorem D_jm_min_6 : Dj M_jm_min 6 (.goto) 9 10 := ⟨4, by decide +kernel, rfl, by decide⟩
theorem D_jm_min_9 : Dc M_jm_min 9 (.iload_n 1) 1 10 := ⟨by decide +kernel, rfl⟩
theorem D_jm_min_10 : Dc M_jm_min 10 (.ireturn) 1 11 := ⟨by decide +kernel, rfl⟩
theorem D_ja_rangeCheck_0 : Dc M_ja_rangeCheck 0 (.iload_n 1) 1 1 := ⟨by decide +kernel, rfl⟩
theorem D_ja_rangeCheck_1 : Dc M_ja_rangeCheck 1 (.iload_n 2) 1 2 := ⟨by decide +kernel, rfl⟩
theorem D_ja_rangeCheck_2 : Dj M_ja_rangeCheck 2 (.if_icmp .le) 5 46 := ⟨44, by decide +kernel, rfl, by decide⟩
theorem D_ja_rangeCheck_46 : Dc M_ja_rangeCheck 46 (.iload_n 1) 1 47 := ⟨by decide +kernel, rfl⟩
theorem D_ja_rangeCheck_47 : Dj M_ja_rangeCheck 47 (.ifCond .ge) 50 59 := ⟨12, by decide +kernel, rfl, by decide⟩
theorem D_ja_rangeCheck_59 : Dc M_ja_rangeCheck 59 (.iload_n 2) 1 60 := ⟨by decide +kernel, rfl⟩
theorem D_ja_rangeCheck_60 : Dc M_ja_rangeCheck 60 (.iload_n 0) 1 61 := ⟨by decide +kernel, rfl⟩
theorem D_ja_rangeCheck_61 : Dj M_ja_rangeCheck 61 (.if_icmp .le) 64 73 := ⟨12, by decide +kernel, rfl, by decide⟩
theorem D_ja_rangeCheck_73 : Dc M_ja_rangeCheck 73 (.return_) 1 74 := ⟨by decide +kernel, rfl⟩
theorem D_ja_fillJ_0 : Dc M_ja_fillJ 0 (.iconst 0) 1 1 := ⟨by decide +kernel, rfl⟩
theorem D_ja_fillJ_1 : Dc M_ja_fillJ 1 (.istore_n 3) 1 2 := ⟨by decide +kernel, rfl⟩
theorem D_ja_fillJ_2 : Dc M_ja_fillJ 2 (.aload_n 0) 1 3 := ⟨by decide +kernel, rfl⟩
theorem D_ja_fillJ_3 : Dc M_ja_fillJ 3 (.arraylength) 1 4 := ⟨by decide +kernel, rfl⟩
theorem D_ja_fillJ_4 : Dc M_ja_fillJ 4 (.istore 4) 2 6 := ⟨by decide +kernel, rfl⟩
theorem D_ja_fillJ_6 : Dc M_ja_fillJ 6 (.iload_n 3) 1 7 := ⟨by decide +kernel, rfl⟩
theorem D_ja_fillJ_7 : Dc M_ja_fillJ 7 (.iload 4) 2 9 := ⟨by decide +kernel, rfl⟩
theorem D_ja_fillJ_9 : Dj M_ja_fillJ 9 (.if_icmp .ge) 12 22 := ⟨13, by decide +kernel, rfl, by decide⟩
theorem D_ja_fillJ_12 : Dc M_ja_fillJ 12 (.aload_n 0) 1 13 := ⟨by decide +kernel, rfl⟩
theorem D_ja_fillJ_13 : Dc M_ja_fillJ 13 (.iload_n 3) 1 14 := ⟨by decide +kernel, rfl⟩
theorem D_ja_fillJ_14 : Dc M_ja_fillJ 14 (.lload_n 1) 1 15 := ⟨by decide +kernel, rfl⟩
theorem D_ja_fillJ_15 : Dc M_ja_fillJ 15 (.lastore) 1 16 := ⟨by decide +kernel, rfl⟩
theorem D_ja_fillJ_16 : Dc M_ja_fillJ 16 (.iinc 3 1) 3 19 := ⟨by decide +kernel, rfl⟩
theorem D_ja_fillJ_19 : Dj M_ja_fillJ 19 (.goto) 22 6 := ⟨(-13), by decide +kernel, rfl, by decide⟩
theorem D_ja_fillJ_22 : Dc M_ja_fillJ 22 (.return_) 1 23 := ⟨by decide +kernel, rfl⟩
theorem D_ja_fillI_0 : Dc M_ja_fillI 0 (.iconst 0) 1 1 := ⟨by decide +kernel, rfl⟩
theorem D_ja_fillI_1 : Dc M_ja_fillI 1 (.istore_n 2) 1 2 := ⟨by decide +kernel, rfl⟩
theorem D_ja_fillI_2 : Dc M_ja_fillI 2 (.aload_n 0) 1 3 := ⟨by decide +kernel, rfl⟩
theorem D_ja_fillI_3 : Dc M_ja_fillI 3 (.arraylength) 1 4 := ⟨by decide +kernel, rfl⟩
theorem D_ja_fillI_4 : Dc M_ja_fillI 4 (.istore_n 3) 1 5 := ⟨by decide +kernel, rfl⟩
theorem D_ja_fillI_5 : Dc M_ja_fillI 5 (.iload_n 2) 1 6 := ⟨by decide +kernel, rfl⟩
theorem D_ja_fillI_6 : Dc M_ja_fillI 6 (.iload_n 3) 1 7 := ⟨by decide +kernel, rfl⟩
theorem D_ja_fillI_7 : Dj M_ja_fillI 7 (.if_icmp .ge) 10 20 := ⟨13, by decide +kernel, rfl, by decide⟩
theorem D_ja_fillI_10 : Dc M_ja_fillI 10 (.aload_n 0) 1 11 := ⟨by decide +kernel, rfl⟩
theorem D_ja_fillI_11 : Dc M_ja_fillI 11 (.iload_n 2) 1 12 := ⟨by decide +kernel, rfl⟩
theorem D_ja_fillI_12 : Dc M_ja_fillI 12 (.iload_n 1) 1 13 := ⟨by decide +kernel, rfl⟩
theorem D_ja_fillI_13 : Dc M_ja_fillI 13 (.iastore) 1 14 := ⟨by decide +kernel, rfl⟩
theorem D_ja_fillI_14 : Dc M_ja_fillI 14 (.iinc 2 1) 3 17 := ⟨by decide +kernel, rfl⟩
theorem D_ja_fillI_17 : Dj M_ja_fillI 17 (.goto) 20 5 := ⟨(-12), by decide +kernel, rfl, by decide⟩
theorem D_ja_fillI_20 : Dc M_ja_fillI 20 (.return_) 1 21 := ⟨by decide +kernel, rfl⟩
theorem D_ja_fillR_0 : Dc M_ja_fillR 0 (.aload_n 0) 1 1 := ⟨by decide +kernel, rfl⟩
theorem D_ja_fillR_1 : Dc M_ja_fillR 1 (.arraylength) 1 2 := ⟨by decide +kernel, rfl⟩
theorem D_ja_fillR_2 : Dc M_ja_fillR 2 (.iload_n 1) 1 3 := ⟨by decide +kernel, rfl⟩
theorem D_ja_fillR_3 : Dc M_ja_fillR 3 (.iload_n 2) 1 4 := ⟨by decide +kernel, rfl⟩
theorem ml_ja_13 : Cond.methodLink R_ja 13 M_ja_rangeCheck.1 ∈ gtb := mem_g 580 (by decide +kernel) rfl
theorem D_ja_fillR_4 : DcS M_ja_fillR M_ja_rangeCheck 4 7 := ⟨13, by decide +kernel, rfl, ml_ja_13, by decide, by decide⟩
theorem D_ja_fillR_7 : Dc M_ja_fillR 7 (.iload_n 1) 1 8 := ⟨by decide +kernel, rfl⟩
theorem D_ja_fillR_8 : Dc M_ja_fillR 8 (.istore 4) 2 10 := ⟨by decide +kernel, rfl⟩
theorem D_ja_fillR_10 : Dc M_ja_fillR 10 (.iload 4) 2 12 := ⟨by decide +kernel, rfl⟩
theorem D_ja_fillR_12 : Dc M_ja_fillR 12 (.iload_n 2) 1 13 := ⟨by decide +kernel, rfl⟩
theorem D_ja_fillR_13 : Dj M_ja_fillR 13 (.if_icmp .ge) 16 27 := ⟨14, by decide +kernel, rfl, by decide⟩
theorem D_ja_fillR_16 : Dc M_ja_fillR 16 (.aload_n 0) 1 17 := ⟨by decide +kernel, rfl⟩
theorem D_ja_fillR_17 : Dc M_ja_fillR 17 (.iload 4) 2 19 := ⟨by decide +kernel, rfl⟩
theorem D_ja_fillR_19 : Dc M_ja_fillR 19 (.iload_n 3) 1 20 := ⟨by decide +kernel, rfl⟩
theorem D_ja_fillR_20 : Dc M_ja_fillR 20 (.iastore) 1 21 := ⟨by decide +kernel, rfl⟩
theorem D_ja_fillR_21 : Dc M_ja_fillR 21 (.iinc 4 1) 3 24 := ⟨by decide +kernel, rfl⟩
theorem D_ja_fillR_24 : Dj M_ja_fillR 24 (.goto) 27 10 := ⟨(-14), by decide +kernel, rfl, by decide⟩
theorem D_ja_fillR_27 : Dc M_ja_fillR 27 (.return_) 1 28 := ⟨by decide +kernel, rfl⟩
end
section
theorem D_rg_init_0 : Dc M_rg_init 0 (.aload_n 0) 1 1 := ⟨by decide +kernel, rfl⟩
theorem D_rg_init_1 : Do M_rg_init 1 4 := ⟨1, by decide +kernel, rfl, by decide +kernel, by decide +kernel, by decide +kernel, by decide, by decide⟩
theorem D_rg_init_4 : Dc M_rg_init 4 (.aload_n 0) 1 5 := ⟨by decide +kernel, rfl⟩
theorem D_rg_init_5 : Dc M_rg_init 5 (.iconst 3) 1 6 := ⟨by decide +kernel, rfl⟩
theorem fl_rg_7 : Cond.fieldLink R_rg 7 (T_rg 0).1 (T_rg 0).2.1 (T_rg 0).2.2.1 ∈ gtb := mem_g 65 (by decide +kernel) rfl
theorem D_rg_init_6 : Dp M_rg_init 6 9 0 0 R_rg T_rg 5 := ⟨7, by decide +kernel, rfl, rfl, by decide, fl_rg_7, in_rg, rfl⟩
theorem D_rg_init_9 : Dc M_rg_init 9 (.aload_n 0) 1 10 := ⟨by decide +kernel, rfl⟩
theorem D_rg_init_10 : Dc M_rg_init 10 (.bipush 8) 2 12 := ⟨by decide +kernel, rfl⟩
theorem fl_rg_13 : Cond.fieldLink R_rg 13 (T_rg 1).1 (T_rg 1).2.1 (T_rg 1).2.2.1 ∈ gtb := mem_g 67 (by decide +kernel) rfl
theorem D_rg_init_12 : Dp M_rg_init 12 15 0 1 R_rg T_rg 5 := ⟨13, by decide +kernel, rfl, rfl, by decide, fl_rg_13, in_rg, rfl⟩
theorem D_rg_init_15 : Dc M_rg_init 15 (.aload_n 0) 1 16 := ⟨by decide +kernel, rfl⟩
theorem D_rg_init_16 : Dc M_rg_init 16 (.iconst 1) 1 17 := ⟨by decide +kernel, rfl⟩
theorem fl_rg_16 : Cond.fieldLink R_rg 16 (T_rg 2).1 (T_rg 2).2.1 (T_rg 2).2.2.1 ∈ gtb := mem_g 71 (by decide +kernel) rfl
theorem D_rg_init_17 : Dp M_rg_init 17 20 0 2 R_rg T_rg 5 := ⟨16, by decide +kernel, rfl, rfl, by decide, fl_rg_16, in_rg, rfl⟩
theorem D_rg_init_20 : Dc M_rg_init 20 (.aload_n 0) 1 21 := ⟨by decide +kernel, rfl⟩
theorem D_rg_init_21 : Dc M_rg_init 21 (.sipush 512) 3 24 := ⟨by decide +kernel, rfl⟩
theorem D_rg_init_24 : Dc M_rg_init 24 (.newarray .int) 2 26 := ⟨by decide +kernel, rfl⟩
theorem fl_rg_20 : Cond.fieldLink R_rg 20 (T_rg 3).1 (T_rg 3).2.1 (T_rg 3).2.2.1 ∈ gtb := mem_g 73 (by decide +kernel) rfl
theorem D_rg_init_26 : Df M_rg_init 26 29 0 3 R_rg T_rg 5 := ⟨20, by decide +kernel, rfl, rfl, by decide, fl_rg_20, in_rg, rfl⟩
theorem D_rg_init_29 : Dc M_rg_init 29 (.aload_n 0) 1 30 := ⟨by decide +kernel, rfl⟩
theorem D_rg_init_30 : Dc M_rg_init 30 (.sipush 512) 3 33 := ⟨by decide +kernel, rfl⟩
theorem D_rg_init_33 : Dc M_rg_init 33 (.newarray .int) 2 35 := ⟨by decide +kernel, rfl⟩
theorem fl_rg_24 : Cond.fieldLink R_rg 24 (T_rg 4).1 (T_rg 4).2.1 (T_rg 4).2.2.1 ∈ gtb := mem_g 75 (by decide +kernel) rfl
theorem D_rg_init_35 : Df M_rg_init 35 38 0 4 R_rg T_rg 5 := ⟨24, by decide +kernel, rfl, rfl, by decide, fl_rg_24, in_rg, rfl⟩
theorem D_rg_init_38 : Dc M_rg_init 38 (.return_) 1 39 := ⟨by decide +kernel, rfl⟩
theorem D_rg_has_0 : Dc M_rg_has 0 (.iload_n 1) 1 1 := ⟨by decide +kernel, rfl⟩
theorem D_rg_has_1 : Dj M_rg_has 1 (.ifCond .lt) 4 16 := ⟨15, by decide +kernel, rfl, by decide⟩
theorem D_rg_has_4 : Dc M_rg_has 4 (.iload_n 1) 1 5 := ⟨by decide +kernel, rfl⟩
theorem D_rg_has_5 : Dc M_rg_has 5 (.aload_n 0) 1 6 := ⟨by decide +kernel, rfl⟩
theorem D_rg_has_6 : Dg M_rg_has 6 9 0 1 R_rg T_rg 5 := ⟨13, by decide +kernel, rfl, rfl, by decide, fl_rg_13, in_rg⟩
theorem D_rg_has_9 : Dj M_rg_has 9 (.if_icmp .ge) 12 16 := ⟨7, by decide +kernel, rfl, by decide⟩
theorem D_rg_has_12 : Dc M_rg_has 12 (.iconst 1) 1 13 := ⟨by decide +kernel, rfl⟩
theorem D_rg_has_13 : Dj M_rg_has 13 (.goto) 16 17 := ⟨4, by decide +kernel, rfl, by decide⟩
theorem D_rg_has_16 : Dc M_rg_has 16 (.iconst 0) 1 17 := ⟨by decide +kernel, rfl⟩
theorem D_rg_has_17 : Dc M_rg_has 17 (.ireturn) 1 18 := ⟨by decide +kernel, rfl⟩
theorem D_rg_hasRun_0 : Dc M_rg_hasRun 0 (.iload_n 1) 1 1 := ⟨by decide +kernel, rfl⟩
theorem D_rg_hasRun_1 : Dj M_rg_hasRun 1 (.ifCond .lt) 4 22 := ⟨21, by decide +kernel, rfl, by decide⟩
theorem D_rg_hasRun_4 : Dc M_rg_hasRun 4 (.iload_n 1) 1 5 := ⟨by decide +kernel, rfl⟩
theorem D_rg_hasRun_5 : Dc M_rg_hasRun 5 (.i2l) 1 6 := ⟨by decide +kernel, rfl⟩
theorem D_rg_hasRun_6 : Dc M_rg_hasRun 6 (.iload_n 2) 1 7 := ⟨by decide +kernel, rfl⟩
theorem D_rg_hasRun_7 : Dc M_rg_hasRun 7 (.i2l) 1 8 := ⟨by decide +kernel, rfl⟩
theorem D_rg_hasRun_8 : Dc M_rg_hasRun 8 (.ladd) 1 9 := ⟨by decide +kernel, rfl⟩
theorem D_rg_hasRun_9 : Dc M_rg_hasRun 9 (.aload_n 0) 1 10 := ⟨by decide +kernel, rfl⟩
theorem D_rg_hasRun_10 : Dg M_rg_hasRun 10 13 0 1 R_rg T_rg 5 := ⟨13, by decide +kernel, rfl, rfl, by decide, fl_rg_13, in_rg⟩
theorem D_rg_hasRun_13 : Dc M_rg_hasRun 13 (.i2l) 1 14 := ⟨by decide +kernel, rfl⟩
theorem D_rg_hasRun_14 : Dc M_rg_hasRun 14 (.lcmp) 1 15 := ⟨by decide +kernel, rfl⟩
theorem D_rg_hasRun_15 : Dj M_rg_hasRun 15 (.ifCond .gt) 18 22 := ⟨7, by decide +kernel, rfl, by decide⟩
theorem D_rg_hasRun_18 : Dc M_rg_hasRun 18 (.iconst 1) 1 19 := ⟨by decide +kernel, rfl⟩
theorem D_rg_hasRun_19 : Dj M_rg_hasRun 19 (.goto) 22 23 := ⟨4, by decide +kernel, rfl, by decide⟩
theorem D_rg_hasRun_22 : Dc M_rg_hasRun 22 (.iconst 0) 1 23 := ⟨by decide +kernel, rfl⟩
theorem D_rg_hasRun_23 : Dc M_rg_hasRun 23 (.ireturn) 1 24 := ⟨by decide +kernel, rfl⟩
theorem D_rg_restart_0 : Dc M_rg_restart 0 (.aload_n 0) 1 1 := ⟨by decide +kernel, rfl⟩
theorem D_rg_restart_1 : Dc M_rg_restart 1 (.iload_n 1) 1 2 := ⟨by decide +kernel, rfl⟩
theorem D_rg_restart_2 : Dp M_rg_restart 2 5 0 0 R_rg T_rg 5 := ⟨7, by decide +kernel, rfl, rfl, by decide, fl_rg_7, in_rg, rfl⟩
theorem D_rg_restart_5 : Dc M_rg_restart 5 (.aload_n 0) 1 6 := ⟨by decide +kernel, rfl⟩
theorem D_rg_restart_6 : Dc M_rg_restart 6 (.iconst 1) 1 7 := ⟨by decide +kernel, rfl⟩
theorem D_rg_restart_7 : Dc M_rg_restart 7 (.iload_n 1) 1 8 := ⟨by decide +kernel, rfl⟩
theorem D_rg_restart_8 : Dc M_rg_restart 8 (.ishl) 1 9 := ⟨by decide +kernel, rfl⟩
theorem D_rg_restart_9 : Dp M_rg_restart 9 12 0 1 R_rg T_rg 5 := ⟨13, by decide +kernel, rfl, rfl, by decide, fl_rg_13, in_rg, rfl⟩
theorem D_rg_restart_12 : Dc M_rg_restart 12 (.aload_n 0) 1 13 := ⟨by decide +kernel, rfl⟩
theorem D_rg_restart_13 : Dg M_rg_restart 13 16 0 3 R_rg T_rg 5 := ⟨20, by decide +kernel, rfl, rfl, by decide, fl_rg_20, in_rg⟩
theorem D_rg_restart_16 : Dc M_rg_restart 16 (.iconst 0) 1 17 := ⟨by decide +kernel, rfl⟩
theorem ml_rg_27 : Cond.methodLink R_rg 27 M_ja_fillI.1 ∈ gtb := mem_g 230 (by decide +kernel) rfl
theorem D_rg_restart_17 : DcS M_rg_restart M_ja_fillI 17 20 := ⟨27, by decide +kernel, rfl, ml_rg_27, by decide, by decide⟩
theorem D_rg_restart_20 : Dc M_rg_restart 20 (.aload_n 0) 1 21 := ⟨by decide +kernel, rfl⟩
theorem D_rg_restart_21 : Dc M_rg_restart 21 (.iconst 1) 1 22 := ⟨by decide +kernel, rfl⟩
theorem D_rg_restart_22 : Dp M_rg_restart 22 25 0 2 R_rg T_rg 5 := ⟨16, by decide +kernel, rfl, rfl, by decide, fl_rg_16, in_rg, rfl⟩
theorem D_rg_restart_25 : Dc M_rg_restart 25 (.return_) 1 26 := ⟨by decide +kernel, rfl⟩
theorem D_rg_write_0 : Dc M_rg_write 0 (.aload_n 0) 1 1 := ⟨by decide +kernel, rfl⟩
theorem D_rg_write_1 : Dg M_rg_write 1 4 0 3 R_rg T_rg 5 := ⟨20, by decide +kernel, rfl, rfl, by decide, fl_rg_20, in_rg⟩
theorem D_rg_write_4 : Dc M_rg_write 4 (.iload_n 1) 1 5 := ⟨by decide +kernel, rfl⟩
theorem D_rg_write_5 : Dc M_rg_write 5 (.iload_n 2) 1 6 := ⟨by decide +kernel, rfl⟩
theorem D_rg_write_6 : Dc M_rg_write 6 (.iastore) 1 7 := ⟨by decide +kernel, rfl⟩
theorem D_rg_write_7 : Dc M_rg_write 7 (.aload_n 0) 1 8 := ⟨by decide +kernel, rfl⟩
theorem D_rg_write_8 : Dc M_rg_write 8 (.iconst 1) 1 9 := ⟨by decide +kernel, rfl⟩
theorem D_rg_write_9 : Dp M_rg_write 9 12 0 2 R_rg T_rg 5 := ⟨16, by decide +kernel, rfl, rfl, by decide, fl_rg_16, in_rg, rfl⟩
theorem D_rg_write_12 : Dc M_rg_write 12 (.return_) 1 13 := ⟨by decide +kernel, rfl⟩
theorem D_rg_lead_0 : Dc M_rg_lead 0 (.iload_n 1) 1 1 := ⟨by decide +kernel, rfl⟩
theorem D_rg_lead_1 : Dc M_rg_lead 1 (.iconst 1) 1 2 := ⟨by decide +kernel, rfl⟩
theorem D_rg_lead_2 : Dc M_rg_lead 2 (.ishr) 1 3 := ⟨by decide +kernel, rfl⟩
theorem D_rg_lead_3 : Dc M_rg_lead 3 (.iload_n 2) 1 4 := ⟨by decide +kernel, rfl⟩
theorem D_rg_lead_4 : Dc M_rg_lead 4 (.aload_n 0) 1 5 := ⟨by decide +kernel, rfl⟩
theorem D_rg_lead_5 : Dg M_rg_lead 5 8 0 0 R_rg T_rg 5 := ⟨7, by decide +kernel, rfl, rfl, by decide, fl_rg_7, in_rg⟩
theorem D_rg_lead_8 : Dc M_rg_lead 8 (.iconst 1) 1 9 := ⟨by decide +kernel, rfl⟩
theorem D_rg_lead_9 : Dc M_rg_lead 9 (.isub) 1 10 := ⟨by decide +kernel, rfl⟩
theorem D_rg_lead_10 : Dc M_rg_lead 10 (.ishl) 1 11 := ⟨by decide +kernel, rfl⟩
theorem D_rg_lead_11 : Dc M_rg_lead 11 (.ior) 1 12 := ⟨by decide +kernel, rfl⟩
theorem D_rg_lead_12 : Dc M_rg_lead 12 (.ireturn) 1 13 := ⟨by decide +kernel, rfl⟩
theorem D_rg_next_0 : Dc M_rg_next 0 (.aload_n 0) 1 1 := ⟨by decide +kernel, rfl⟩
theorem D_rg_next_1 : Dc M_rg_next 1 (.iload_n 1) 1 2 := ⟨by decide +kernel, rfl⟩
theorem D_rg_next_2 : Dc M_rg_next 2 (.aload_n 0) 1 3 := ⟨by decide +kernel, rfl⟩
theorem D_rg_next_3 : Dg M_rg_next 3 6 0 3 R_rg T_rg 5 := ⟨20, by decide +kernel, rfl, rfl, by decide, fl_rg_20, in_rg⟩
theorem D_rg_next_6 : Dc M_rg_next 6 (.iload_n 1) 1 7 := ⟨by decide +kernel, rfl⟩
theorem D_rg_next_7 : Dc M_rg_next 7 (.iaload) 1 8 := ⟨by decide +kernel, rfl⟩
theorem ml_rg_33 : Cond.methodLink R_rg 33 M_rg_lead.1 ∈ gtb := mem_g 333 (by decide +kernel) rfl
theorem D_rg_next_8 : DcV M_rg_next M_rg_lead 8 11 := ⟨33, by decide +kernel, rfl, ml_rg_33, by decide, by decide⟩
theorem D_rg_next_11 : Dc M_rg_next 11 (.ireturn) 1 12 := ⟨by decide +kernel, rfl⟩
theorem D_rg_walk_0 : Dc M_rg_walk 0 (.iload_n 1) 1 1 := ⟨by decide +kernel, rfl⟩
theorem D_rg_walk_1 : Dc M_rg_walk 1 (.istore_n 3) 1 2 := ⟨by decide +kernel, rfl⟩
theorem D_rg_walk_2 : Dc M_rg_walk 2 (.iconst 0) 1 3 := ⟨by decide +kernel, rfl⟩
theorem D_rg_walk_3 : Dc M_rg_walk 3 (.istore 4) 2 5 := ⟨by decide +kernel, rfl⟩
theorem D_rg_walk_5 : Dc M_rg_walk 5 (.iload 4) 2 7 := ⟨by decide +kernel, rfl⟩
theorem D_rg_walk_7 : Dc M_rg_walk 7 (.iload_n 2) 1 8 := ⟨by decide +kernel, rfl⟩
theorem D_rg_walk_8 : Dj M_rg_walk 8 (.if_icmp .ge) 11 23 := ⟨15, by decide +kernel, rfl, by decide⟩
theorem D_rg_walk_11 : Dc M_rg_walk 11 (.aload_n 0) 1 12 := ⟨by decide +kernel, rfl⟩
theorem D_rg_walk_12 : Dc M_rg_walk 12 (.iload_n 3) 1 13 := ⟨by decide +kernel, rfl⟩
theorem ml_rg_37 : Cond.methodLink R_rg 37 M_rg_next.1 ∈ gtb := mem_g 368 (by decide +kernel) rfl
theorem D_rg_walk_13 : DcV M_rg_walk M_rg_next 13 16 := ⟨37, by decide +kernel, rfl, ml_rg_37, by decide, by decide⟩
theorem D_rg_walk_16 : Dc M_rg_walk 16 (.istore_n 3) 1 17 := ⟨by decide +kernel, rfl⟩
theorem D_rg_walk_17 : Dc M_rg_walk 17 (.iinc 4 1) 3 20 := ⟨by decide +kernel, rfl⟩
theorem D_rg_walk_20 : Dj M_rg_walk 20 (.goto) 23 5 := ⟨(-15), by decide +kernel, rfl, by decide⟩
theorem D_rg_walk_23 : Dc M_rg_walk 23 (.iload_n 3) 1 24 := ⟨by decide +kernel, rfl⟩
theorem D_rg_walk_24 : Dc M_rg_walk 24 (.ireturn) 1 25 := ⟨by decide +kernel, rfl⟩
theorem D_rg_evenBefore_0 : Dc M_rg_evenBefore 0 (.iload_n 1) 1 1 := ⟨by decide +kernel, rfl⟩
theorem D_rg_evenBefore_1 : Dc M_rg_evenBefore 1 (.iconst 1) 1 2 := ⟨by decide +kernel, rfl⟩
theorem D_rg_evenBefore_2 : Dc M_rg_evenBefore 2 (.ishl) 1 3 := ⟨by decide +kernel, rfl⟩
theorem D_rg_evenBefore_3 : Dc M_rg_evenBefore 3 (.aload_n 0) 1 4 := ⟨by decide +kernel, rfl⟩
theorem D_rg_evenBefore_4 : Dg M_rg_evenBefore 4 7 0 1 R_rg T_rg 5 := ⟨13, by decide +kernel, rfl, rfl, by decide, fl_rg_13, in_rg⟩
theorem D_rg_evenBefore_7 : Dc M_rg_evenBefore 7 (.iconst 1) 1 8 := ⟨by decide +kernel, rfl⟩
theorem D_rg_evenBefore_8 : Dc M_rg_evenBefore 8 (.isub) 1 9 := ⟨by decide +kernel, rfl⟩
theorem D_rg_evenBefore_9 : Dc M_rg_evenBefore 9 (.iand) 1 10 := ⟨by decide +kernel, rfl⟩
theorem D_rg_evenBefore_10 : Dc M_rg_evenBefore 10 (.ireturn) 1 11 := ⟨by decide +kernel, rfl⟩
theorem D_rg_countBefore_0 : Dc M_rg_countBefore 0 (.aload_n 0) 1 1 := ⟨by decide +kernel, rfl⟩
theorem D_rg_countBefore_1 : Dc M_rg_countBefore 1 (.iload_n 1) 1 2 := ⟨by decide +kernel, rfl⟩
theorem ml_rg_41 : Cond.methodLink R_rg 41 M_rg_evenBefore.1 ∈ gtb := mem_g 325 (by decide +kernel) rfl
theorem D_rg_countBefore_2 : DcV M_rg_countBefore M_rg_evenBefore 2 5 := ⟨41, by decide +kernel, rfl, ml_rg_41, by decide, by decide⟩
theorem D_rg_countBefore_5 : Dc M_rg_countBefore 5 (.istore_n 2) 1 6 := ⟨by decide +kernel, rfl⟩
theorem D_rg_countBefore_6 : Dc M_rg_countBefore 6 (.iload_n 1) 1 7 := ⟨by decide +kernel, rfl⟩
theorem D_rg_countBefore_7 : Dc M_rg_countBefore 7 (.aload_n 0) 1 8 := ⟨by decide +kernel, rfl⟩
theorem D_rg_countBefore_8 : Dg M_rg_countBefore 8 11 0 0 R_rg T_rg 5 := ⟨7, by decide +kernel, rfl, rfl, by decide, fl_rg_7, in_rg⟩
theorem D_rg_countBefore_11 : Dc M_rg_countBefore 11 (.iconst 1) 1 12 := ⟨by decide +kernel, rfl⟩
theorem D_rg_countBefore_12 : Dc M_rg_countBefore 12 (.isub) 1 13 := ⟨by decide +kernel, rfl⟩
theorem D_rg_countBefore_13 : Dc M_rg_countBefore 13 (.ishr) 1 14 := ⟨by decide +kernel, rfl⟩
theorem D_rg_countBefore_14 : Dc M_rg_countBefore 14 (.istore_n 3) 1 15 := ⟨by decide +kernel, rfl⟩
theorem D_rg_countBefore_15 : Dc M_rg_countBefore 15 (.aload_n 0) 1 16 := ⟨by decide +kernel, rfl⟩
theorem D_rg_countBefore_16 : Dg M_rg_countBefore 16 19 0 3 R_rg T_rg 5 := ⟨20, by decide +kernel, rfl, rfl, by decide, fl_rg_20, in_rg⟩
theorem D_rg_countBefore_19 : Dc M_rg_countBefore 19 (.iload_n 2) 1 20 := ⟨by decide +kernel, rfl⟩
theorem D_rg_countBefore_20 : Dc M_rg_countBefore 20 (.iaload) 1 21 := ⟨by decide +kernel, rfl⟩
theorem D_rg_countBefore_21 : Dc M_rg_countBefore 21 (.iload_n 3) 1 22 := ⟨by decide +kernel, rfl⟩
theorem D_rg_countBefore_22 : Dj M_rg_countBefore 22 (.if_icmp .ne) 25 29 := ⟨7, by decide +kernel, rfl, by decide⟩
theorem D_rg_countBefore_25 : Dc M_rg_countBefore 25 (.iconst 1) 1 26 := ⟨by decide +kernel, rfl⟩
theorem D_rg_countBefore_26 : Dj M_rg_countBefore 26 (.goto) 29 30 := ⟨4, by decide +kernel, rfl, by decide⟩
theorem D_rg_countBefore_29 : Dc M_rg_countBefore 29 (.iconst 0) 1 30 := ⟨by decide +kernel, rfl⟩
theorem D_rg_countBefore_30 : Dc M_rg_countBefore 30 (.aload_n 0) 1 31 := ⟨by decide +kernel, rfl⟩
theorem D_rg_countBefore_31 : Dg M_rg_countBefore 31 34 0 3 R_rg T_rg 5 := ⟨20, by decide +kernel, rfl, rfl, by decide, fl_rg_20, in_rg⟩
theorem D_rg_countBefore_34 : Dc M_rg_countBefore 34 (.iload_n 2) 1 35 := ⟨by decide +kernel, rfl⟩
theorem D_rg_countBefore_35 : Dc M_rg_countBefore 35 (.iconst 1) 1 36 := ⟨by decide +kernel, rfl⟩
theorem D_rg_countBefore_36 : Dc M_rg_countBefore 36 (.iadd) 1 37 := ⟨by decide +kernel, rfl⟩
theorem D_rg_countBefore_37 : Dc M_rg_countBefore 37 (.iaload) 1 38 := ⟨by decide +kernel, rfl⟩
theorem D_rg_countBefore_38 : Dc M_rg_countBefore 38 (.iload_n 3) 1 39 := ⟨by decide +kernel, rfl⟩
theorem D_rg_countBefore_39 : Dj M_rg_countBefore 39 (.if_icmp .ne) 42 46 := ⟨7, by decide +kernel, rfl, by decide⟩
theorem D_rg_countBefore_42 : Dc M_rg_countBefore 42 (.iconst 1) 1 43 := ⟨by decide +kernel, rfl⟩
theorem D_rg_countBefore_43 : Dj M_rg_countBefore 43 (.goto) 46 47 := ⟨4, by decide +kernel, rfl, by decide⟩
theorem D_rg_countBefore_46 : Dc M_rg_countBefore 46 (.iconst 0) 1 47 := ⟨by decide +kernel, rfl⟩
theorem D_rg_countBefore_47 : Dc M_rg_countBefore 47 (.iadd) 1 48 := ⟨by decide +kernel, rfl⟩
theorem D_rg_countBefore_48 : Dc M_rg_countBefore 48 (.ireturn) 1 49 := ⟨by decide +kernel, rfl⟩
theorem D_rg_isPure_0 : Dc M_rg_isPure 0 (.iconst 0) 1 1 := ⟨by decide +kernel, rfl⟩
theorem D_rg_isPure_1 : Dc M_rg_isPure 1 (.istore_n 1) 1 2 := ⟨by decide +kernel, rfl⟩
theorem D_rg_isPure_2 : Dc M_rg_isPure 2 (.iload_n 1) 1 3 := ⟨by decide +kernel, rfl⟩
theorem D_rg_isPure_3 : Dc M_rg_isPure 3 (.aload_n 0) 1 4 := ⟨by decide +kernel, rfl⟩
theorem D_rg_isPure_4 : Dg M_rg_isPure 4 7 0 1 R_rg T_rg 5 := ⟨13, by decide +kernel, rfl, rfl, by decide, fl_rg_13, in_rg⟩
theorem D_rg_isPure_7 : Dj M_rg_isPure 7 (.if_icmp .ge) 10 35 := ⟨28, by decide +kernel, rfl, by decide⟩
theorem D_rg_isPure_10 : Dc M_rg_isPure 10 (.aload_n 0) 1 11 := ⟨by decide +kernel, rfl⟩
theorem D_rg_isPure_11 : Dg M_rg_isPure 11 14 0 3 R_rg T_rg 5 := ⟨20, by decide +kernel, rfl, rfl, by decide, fl_rg_20, in_rg⟩
theorem D_rg_isPure_14 : Dc M_rg_isPure 14 (.iload_n 1) 1 15 := ⟨by decide +kernel, rfl⟩
theorem D_rg_isPure_15 : Dc M_rg_isPure 15 (.iaload) 1 16 := ⟨by decide +kernel, rfl⟩
theorem D_rg_isPure_16 : Dc M_rg_isPure 16 (.aload_n 0) 1 17 := ⟨by decide +kernel, rfl⟩
theorem D_rg_isPure_17 : Dg M_rg_isPure 17 20 0 3 R_rg T_rg 5 := ⟨20, by decide +kernel, rfl, rfl, by decide, fl_rg_20, in_rg⟩
theorem D_rg_isPure_20 : Dc M_rg_isPure 20 (.iload_n 1) 1 21 := ⟨by decide +kernel, rfl⟩
theorem D_rg_isPure_21 : Dc M_rg_isPure 21 (.iconst 1) 1 22 := ⟨by decide +kernel, rfl⟩
theorem D_rg_isPure_22 : Dc M_rg_isPure 22 (.iadd) 1 23 := ⟨by decide +kernel, rfl⟩
theorem D_rg_isPure_23 : Dc M_rg_isPure 23 (.iaload) 1 24 := ⟨by decide +kernel, rfl⟩
theorem D_rg_isPure_24 : Dj M_rg_isPure 24 (.if_icmp .ne) 27 29 := ⟨5, by decide +kernel, rfl, by decide⟩
theorem D_rg_isPure_27 : Dc M_rg_isPure 27 (.iconst 0) 1 28 := ⟨by decide +kernel, rfl⟩
theorem D_rg_isPure_28 : Dc M_rg_isPure 28 (.ireturn) 1 29 := ⟨by decide +kernel, rfl⟩
theorem D_rg_isPure_29 : Dc M_rg_isPure 29 (.iinc 1 2) 3 32 := ⟨by decide +kernel, rfl⟩
theorem D_rg_isPure_32 : Dj M_rg_isPure 32 (.goto) 35 2 := ⟨(-30), by decide +kernel, rfl, by decide⟩
theorem D_rg_isPure_35 : Dc M_rg_isPure 35 (.iconst 1) 1 36 := ⟨by decide +kernel, rfl⟩
theorem D_rg_isPure_36 : Dc M_rg_isPure 36 (.ireturn) 1 37 := ⟨by decide +kernel, rfl⟩
theorem D_rg_countOnes_0 : Dc M_rg_countOnes 0 (.iconst 0) 1 1 := ⟨by decide +kernel, rfl⟩
theorem D_rg_countOnes_1 : Dc M_rg_countOnes 1 (.istore_n 1) 1 2 := ⟨by decide +kernel, rfl⟩
theorem D_rg_countOnes_2 : Dc M_rg_countOnes 2 (.iconst 0) 1 3 := ⟨by decide +kernel, rfl⟩
theorem D_rg_countOnes_3 : Dc M_rg_countOnes 3 (.istore_n 2) 1 4 := ⟨by decide +kernel, rfl⟩
theorem D_rg_countOnes_4 : Dc M_rg_countOnes 4 (.iload_n 2) 1 5 := ⟨by decide +kernel, rfl⟩
theorem D_rg_countOnes_5 : Dc M_rg_countOnes 5 (.aload_n 0) 1 6 := ⟨by decide +kernel, rfl⟩
theorem D_rg_countOnes_6 : Dg M_rg_countOnes 6 9 0 1 R_rg T_rg 5 := ⟨13, by decide +kernel, rfl, rfl, by decide, fl_rg_13, in_rg⟩
theorem D_rg_countOnes_9 : Dj M_rg_countOnes 9 (.if_icmp .ge) 12 27 := ⟨18, by decide +kernel, rfl, by decide⟩
theorem D_rg_countOnes_12 : Dc M_rg_countOnes 12 (.iload_n 1) 1 13 := ⟨by decide +kernel, rfl⟩
theorem D_rg_countOnes_13 : Dc M_rg_countOnes 13 (.aload_n 0) 1 14 := ⟨by decide +kernel, rfl⟩
theorem D_rg_countOnes_14 : Dg M_rg_countOnes 14 17 0 3 R_rg T_rg 5 := ⟨20, by decide +kernel, rfl, rfl, by decide, fl_rg_20, in_rg⟩
theorem D_rg_countOnes_17 : Dc M_rg_countOnes 17 (.iload_n 2) 1 18 := ⟨by decide +kernel, rfl⟩
theorem D_rg_countOnes_18 : Dc M_rg_countOnes 18 (.iaload) 1 19 := ⟨by decide +kernel, rfl⟩
theorem D_rg_countOnes_19 : Dc M_rg_countOnes 19 (.iadd) 1 20 := ⟨by decide +kernel, rfl⟩
theorem D_rg_countOnes_20 : Dc M_rg_countOnes 20 (.istore_n 1) 1 21 := ⟨by decide +kernel, rfl⟩
theorem D_rg_countOnes_21 : Dc M_rg_countOnes 21 (.iinc 2 1) 3 24 := ⟨by decide +kernel, rfl⟩
theorem D_rg_countOnes_24 : Dj M_rg_countOnes 24 (.goto) 27 4 := ⟨(-20), by decide +kernel, rfl, by decide⟩
theorem D_rg_countOnes_27 : Dc M_rg_countOnes 27 (.iload_n 1) 1 28 := ⟨by decide +kernel, rfl⟩
theorem D_rg_countOnes_28 : Dc M_rg_countOnes 28 (.ireturn) 1 29 := ⟨by decide +kernel, rfl⟩
theorem D_rg_turnPair_0 : Dc M_rg_turnPair 0 (.aload_n 0) 1 1 := ⟨by decide +kernel, rfl⟩
theorem D_rg_turnPair_1 : Dc M_rg_turnPair 1 (.iconst 2) 1 2 := ⟨by decide +kernel, rfl⟩
theorem D_rg_turnPair_2 : Dc M_rg_turnPair 2 (.iload_n 1) 1 3 := ⟨by decide +kernel, rfl⟩
theorem D_rg_turnPair_3 : Dc M_rg_turnPair 3 (.imul) 1 4 := ⟨by decide +kernel, rfl⟩
theorem D_rg_turnPair_4 : Dc M_rg_turnPair 4 (.iconst 1) 1 5 := ⟨by decide +kernel, rfl⟩
theorem D_rg_turnPair_5 : Dc M_rg_turnPair 5 (.aload_n 0) 1 6 := ⟨by decide +kernel, rfl⟩
theorem D_rg_turnPair_6 : Dg M_rg_turnPair 6 9 0 3 R_rg T_rg 5 := ⟨20, by decide +kernel, rfl, rfl, by decide, fl_rg_20, in_rg⟩
theorem D_rg_turnPair_9 : Dc M_rg_turnPair 9 (.iconst 2) 1 10 := ⟨by decide +kernel, rfl⟩
theorem D_rg_turnPair_10 : Dc M_rg_turnPair 10 (.iload_n 1) 1 11 := ⟨by decide +kernel, rfl⟩
theorem D_rg_turnPair_11 : Dc M_rg_turnPair 11 (.imul) 1 12 := ⟨by decide +kernel, rfl⟩
theorem D_rg_turnPair_12 : Dc M_rg_turnPair 12 (.iaload) 1 13 := ⟨by decide +kernel, rfl⟩
theorem D_rg_turnPair_13 : Dc M_rg_turnPair 13 (.isub) 1 14 := ⟨by decide +kernel, rfl⟩
theorem ml_rg_44 : Cond.methodLink R_rg 44 M_rg_write.1 ∈ gtb := mem_g 262 (by decide +kernel) rfl
theorem D_rg_turnPair_14 : DcV M_rg_turnPair M_rg_write 14 17 := ⟨44, by decide +kernel, rfl, ml_rg_44, by decide, by decide⟩
theorem D_rg_turnPair_17 : Dc M_rg_turnPair 17 (.aload_n 0) 1 18 := ⟨by decide +kernel, rfl⟩
theorem D_rg_turnPair_18 : Dc M_rg_turnPair 18 (.iconst 2) 1 19 := ⟨by decide +kernel, rfl⟩
theorem D_rg_turnPair_19 : Dc M_rg_turnPair 19 (.iload_n 1) 1 20 := ⟨by decide +kernel, rfl⟩
theorem D_rg_turnPair_20 : Dc M_rg_turnPair 20 (.imul) 1 21 := ⟨by decide +kernel, rfl⟩
theorem D_rg_turnPair_21 : Dc M_rg_turnPair 21 (.iconst 1) 1 22 := ⟨by decide +kernel, rfl⟩
theorem D_rg_turnPair_22 : Dc M_rg_turnPair 22 (.iadd) 1 23 := ⟨by decide +kernel, rfl⟩
theorem D_rg_turnPair_23 : Dc M_rg_turnPair 23 (.iconst 1) 1 24 := ⟨by decide +kernel, rfl⟩
theorem D_rg_turnPair_24 : Dc M_rg_turnPair 24 (.aload_n 0) 1 25 := ⟨by decide +kernel, rfl⟩
theorem D_rg_turnPair_25 : Dg M_rg_turnPair 25 28 0 3 R_rg T_rg 5 := ⟨20, by decide +kernel, rfl, rfl, by decide, fl_rg_20, in_rg⟩
theorem D_rg_turnPair_28 : Dc M_rg_turnPair 28 (.iconst 2) 1 29 := ⟨by decide +kernel, rfl⟩
theorem D_rg_turnPair_29 : Dc M_rg_turnPair 29 (.iload_n 1) 1 30 := ⟨by decide +kernel, rfl⟩
theorem D_rg_turnPair_30 : Dc M_rg_turnPair 30 (.imul) 1 31 := ⟨by decide +kernel, rfl⟩
theorem D_rg_turnPair_31 : Dc M_rg_turnPair 31 (.iconst 1) 1 32 := ⟨by decide +kernel, rfl⟩
theorem D_rg_turnPair_32 : Dc M_rg_turnPair 32 (.iadd) 1 33 := ⟨by decide +kernel, rfl⟩
theorem D_rg_turnPair_33 : Dc M_rg_turnPair 33 (.iaload) 1 34 := ⟨by decide +kernel, rfl⟩
theorem D_rg_turnPair_34 : Dc M_rg_turnPair 34 (.isub) 1 35 := ⟨by decide +kernel, rfl⟩
theorem D_rg_turnPair_35 : DcV M_rg_turnPair M_rg_write 35 38 := ⟨44, by decide +kernel, rfl, ml_rg_44, by decide, by decide⟩
theorem D_rg_turnPair_38 : Dc M_rg_turnPair 38 (.return_) 1 39 := ⟨by decide +kernel, rfl⟩
theorem D_rg_fillLinear_0 : Dc M_rg_fillLinear 0 (.iconst 0) 1 1 := ⟨by decide +kernel, rfl⟩
theorem D_rg_fillLinear_1 : Dc M_rg_fillLinear 1 (.istore_n 3) 1 2 := ⟨by decide +kernel, rfl⟩
theorem D_rg_fillLinear_2 : Dc M_rg_fillLinear 2 (.iload_n 3) 1 3 := ⟨by decide +kernel, rfl⟩
theorem D_rg_fillLinear_3 : Dc M_rg_fillLinear 3 (.aload_n 0) 1 4 := ⟨by decide +kernel, rfl⟩
theorem D_rg_fillLinear_4 : Dg M_rg_fillLinear 4 7 0 1 R_rg T_rg 5 := ⟨13, by decide +kernel, rfl, rfl, by decide, fl_rg_13, in_rg⟩
theorem D_rg_fillLinear_7 : Dj M_rg_fillLinear 7 (.if_icmp .ge) 10 31 := ⟨24, by decide +kernel, rfl, by decide⟩
theorem D_rg_fillLinear_10 : Dc M_rg_fillLinear 10 (.aload_n 0) 1 11 := ⟨by decide +kernel, rfl⟩
theorem D_rg_fillLinear_11 : Dc M_rg_fillLinear 11 (.iload_n 3) 1 12 := ⟨by decide +kernel, rfl⟩
theorem D_rg_fillLinear_12 : Dc M_rg_fillLinear 12 (.iload_n 3) 1 13 := ⟨by decide +kernel, rfl⟩
theorem D_rg_fillLinear_13 : Dc M_rg_fillLinear 13 (.iload_n 1) 1 14 := ⟨by decide +kernel, rfl⟩
theorem D_rg_fillLinear_14 : Dc M_rg_fillLinear 14 (.iand) 1 15 := ⟨by decide +kernel, rfl⟩
theorem ml_rg_48 : Cond.methodLink R_rg 48 M_ji_bitCount.1 ∈ gtb := mem_g 256 (by decide +kernel) rfl
theorem D_rg_fillLinear_15 : DcS M_rg_fillLinear M_ji_bitCount 15 18 := ⟨48, by decide +kernel, rfl, ml_rg_48, by decide, by decide⟩
theorem D_rg_fillLinear_18 : Dc M_rg_fillLinear 18 (.iload_n 2) 1 19 := ⟨by decide +kernel, rfl⟩
theorem D_rg_fillLinear_19 : Dc M_rg_fillLinear 19 (.iadd) 1 20 := ⟨by decide +kernel, rfl⟩
theorem D_rg_fillLinear_20 : Dc M_rg_fillLinear 20 (.iconst 1) 1 21 := ⟨by decide +kernel, rfl⟩
theorem D_rg_fillLinear_21 : Dc M_rg_fillLinear 21 (.iand) 1 22 := ⟨by decide +kernel, rfl⟩
theorem D_rg_fillLinear_22 : DcV M_rg_fillLinear M_rg_write 22 25 := ⟨44, by decide +kernel, rfl, ml_rg_44, by decide, by decide⟩
theorem D_rg_fillLinear_25 : Dc M_rg_fillLinear 25 (.iinc 3 1) 3 28 := ⟨by decide +kernel, rfl⟩
theorem D_rg_fillLinear_28 : Dj M_rg_fillLinear 28 (.goto) 31 2 := ⟨(-26), by decide +kernel, rfl, by decide⟩
theorem D_rg_fillLinear_31 : Dc M_rg_fillLinear 31 (.return_) 1 32 := ⟨by decide +kernel, rfl⟩
theorem D_rg_fillPreferring_0 : Dc M_rg_fillPreferring 0 (.aload_n 0) 1 1 := ⟨by decide +kernel, rfl⟩
theorem D_rg_fillPreferring_1 : Dg M_rg_fillPreferring 1 4 0 4 R_rg T_rg 5 := ⟨24, by decide +kernel, rfl, rfl, by decide, fl_rg_24, in_rg⟩
theorem D_rg_fillPreferring_4 : Dc M_rg_fillPreferring 4 (.iconst 0) 1 5 := ⟨by decide +kernel, rfl⟩
theorem D_rg_fillPreferring_5 : DcS M_rg_fillPreferring M_ja_fillI 5 8 := ⟨27, by decide +kernel, rfl, ml_rg_27, by decide, by decide⟩
theorem D_rg_fillPreferring_8 : Dc M_rg_fillPreferring 8 (.iload_n 1) 1 9 := ⟨by decide +kernel, rfl⟩
theorem D_rg_fillPreferring_9 : Dc M_rg_fillPreferring 9 (.iconst 1) 1 10 := ⟨by decide +kernel, rfl⟩
theorem D_rg_fillPreferring_10 : Dj M_rg_fillPreferring 10 (.if_icmp .ne) 13 17 := ⟨7, by decide +kernel, rfl, by decide⟩
theorem D_rg_fillPreferring_13 : Dc M_rg_fillPreferring 13 (.iconst 0) 1 14 := ⟨by decide +kernel, rfl⟩
theorem D_rg_fillPreferring_14 : Dj M_rg_fillPreferring 14 (.goto) 17 23 := ⟨9, by decide +kernel, rfl, by decide⟩
theorem D_rg_fillPreferring_17 : Dc M_rg_fillPreferring 17 (.aload_n 0) 1 18 := ⟨by decide +kernel, rfl⟩
theorem D_rg_fillPreferring_18 : Dg M_rg_fillPreferring 18 21 0 1 R_rg T_rg 5 := ⟨13, by decide +kernel, rfl, rfl, by decide, fl_rg_13, in_rg⟩
theorem D_rg_fillPreferring_21 : Dc M_rg_fillPreferring 21 (.iconst 1) 1 22 := ⟨by decide +kernel, rfl⟩
theorem D_rg_fillPreferring_22 : Dc M_rg_fillPreferring 22 (.isub) 1 23 := ⟨by decide +kernel, rfl⟩
theorem D_rg_fillPreferring_23 : Dc M_rg_fillPreferring 23 (.istore_n 2) 1 24 := ⟨by decide +kernel, rfl⟩
theorem D_rg_fillPreferring_24 : Dc M_rg_fillPreferring 24 (.iconst 0) 1 25 := ⟨by decide +kernel, rfl⟩
theorem D_rg_fillPreferring_25 : Dc M_rg_fillPreferring 25 (.istore_n 3) 1 26 := ⟨by decide +kernel, rfl⟩
theorem D_rg_fillPreferring_26 : Dc M_rg_fillPreferring 26 (.iload_n 3) 1 27 := ⟨by decide +kernel, rfl⟩
theorem D_rg_fillPreferring_27 : Dc M_rg_fillPreferring 27 (.aload_n 0) 1 28 := ⟨by decide +kernel, rfl⟩
theorem D_rg_fillPreferring_28 : Dg M_rg_fillPreferring 28 31 0 1 R_rg T_rg 5 := ⟨13, by decide +kernel, rfl, rfl, by decide, fl_rg_13, in_rg⟩
theorem D_rg_fillPreferring_31 : Dj M_rg_fillPreferring 31 (.if_icmp .ge) 34 86 := ⟨55, by decide +kernel, rfl, by decide⟩
theorem D_rg_fillPreferring_34 : Dc M_rg_fillPreferring 34 (.aload_n 0) 1 35 := ⟨by decide +kernel, rfl⟩
theorem D_rg_fillPreferring_35 : Dg M_rg_fillPreferring 35 38 0 4 R_rg T_rg 5 := ⟨24, by decide +kernel, rfl, rfl, by decide, fl_rg_24, in_rg⟩
theorem D_rg_fillPreferring_38 : Dc M_rg_fillPreferring 38 (.iload_n 2) 1 39 := ⟨by decide +kernel, rfl⟩
theorem D_rg_fillPreferring_39 : Dc M_rg_fillPreferring 39 (.iconst 1) 1 40 := ⟨by decide +kernel, rfl⟩
theorem D_rg_fillPreferring_40 : Dc M_rg_fillPreferring 40 (.iastore) 1 41 := ⟨by decide +kernel, rfl⟩
theorem D_rg_fillPreferring_41 : Dc M_rg_fillPreferring 41 (.aload_n 0) 1 42 := ⟨by decide +kernel, rfl⟩
theorem D_rg_fillPreferring_42 : Dg M_rg_fillPreferring 42 45 0 4 R_rg T_rg 5 := ⟨24, by decide +kernel, rfl, rfl, by decide, fl_rg_24, in_rg⟩
theorem D_rg_fillPreferring_45 : Dc M_rg_fillPreferring 45 (.aload_n 0) 1 46 := ⟨by decide +kernel, rfl⟩
theorem D_rg_fillPreferring_46 : Dc M_rg_fillPreferring 46 (.iload_n 2) 1 47 := ⟨by decide +kernel, rfl⟩
theorem D_rg_fillPreferring_47 : Dc M_rg_fillPreferring 47 (.iload_n 1) 1 48 := ⟨by decide +kernel, rfl⟩
theorem D_rg_fillPreferring_48 : DcV M_rg_fillPreferring M_rg_lead 48 51 := ⟨33, by decide +kernel, rfl, ml_rg_33, by decide, by decide⟩
theorem D_rg_fillPreferring_51 : Dc M_rg_fillPreferring 51 (.iaload) 1 52 := ⟨by decide +kernel, rfl⟩
theorem D_rg_fillPreferring_52 : Dc M_rg_fillPreferring 52 (.iconst 1) 1 53 := ⟨by decide +kernel, rfl⟩
theorem D_rg_fillPreferring_53 : Dj M_rg_fillPreferring 53 (.if_icmp .ne) 56 62 := ⟨9, by decide +kernel, rfl, by decide⟩
theorem D_rg_fillPreferring_56 : Dc M_rg_fillPreferring 56 (.iconst 1) 1 57 := ⟨by decide +kernel, rfl⟩
theorem D_rg_fillPreferring_57 : Dc M_rg_fillPreferring 57 (.iload_n 1) 1 58 := ⟨by decide +kernel, rfl⟩
theorem D_rg_fillPreferring_58 : Dc M_rg_fillPreferring 58 (.isub) 1 59 := ⟨by decide +kernel, rfl⟩
theorem D_rg_fillPreferring_59 : Dj M_rg_fillPreferring 59 (.goto) 62 63 := ⟨4, by decide +kernel, rfl, by decide⟩
theorem D_rg_fillPreferring_62 : Dc M_rg_fillPreferring 62 (.iload_n 1) 1 63 := ⟨by decide +kernel, rfl⟩
theorem D_rg_fillPreferring_63 : Dc M_rg_fillPreferring 63 (.istore 4) 2 65 := ⟨by decide +kernel, rfl⟩
theorem D_rg_fillPreferring_65 : Dc M_rg_fillPreferring 65 (.aload_n 0) 1 66 := ⟨by decide +kernel, rfl⟩
theorem D_rg_fillPreferring_66 : Dc M_rg_fillPreferring 66 (.iload_n 2) 1 67 := ⟨by decide +kernel, rfl⟩
theorem D_rg_fillPreferring_67 : Dc M_rg_fillPreferring 67 (.iload 4) 2 69 := ⟨by decide +kernel, rfl⟩
theorem D_rg_fillPreferring_69 : DcV M_rg_fillPreferring M_rg_write 69 72 := ⟨44, by decide +kernel, rfl, ml_rg_44, by decide, by decide⟩
theorem D_rg_fillPreferring_72 : Dc M_rg_fillPreferring 72 (.aload_n 0) 1 73 := ⟨by decide +kernel, rfl⟩
theorem D_rg_fillPreferring_73 : Dc M_rg_fillPreferring 73 (.iload_n 2) 1 74 := ⟨by decide +kernel, rfl⟩
theorem D_rg_fillPreferring_74 : Dc M_rg_fillPreferring 74 (.iload 4) 2 76 := ⟨by decide +kernel, rfl⟩
theorem D_rg_fillPreferring_76 : DcV M_rg_fillPreferring M_rg_lead 76 79 := ⟨33, by decide +kernel, rfl, ml_rg_33, by decide, by decide⟩
theorem D_rg_fillPreferring_79 : Dc M_rg_fillPreferring 79 (.istore_n 2) 1 80 := ⟨by decide +kernel, rfl⟩
theorem D_rg_fillPreferring_80 : Dc M_rg_fillPreferring 80 (.iinc 3 1) 3 83 := ⟨by decide +kernel, rfl⟩
theorem D_rg_fillPreferring_83 : Dj M_rg_fillPreferring 83 (.goto) 86 26 := ⟨(-57), by decide +kernel, rfl, by decide⟩
theorem D_rg_fillPreferring_86 : Dc M_rg_fillPreferring 86 (.return_) 1 87 := ⟨by decide +kernel, rfl⟩
theorem D_rg_fillFrom_0 : Dc M_rg_fillFrom 0 (.iconst 0) 1 1 := ⟨by decide +kernel, rfl⟩
theorem D_rg_fillFrom_1 : Dc M_rg_fillFrom 1 (.istore_n 2) 1 2 := ⟨by decide +kernel, rfl⟩
theorem D_rg_fillFrom_2 : Dc M_rg_fillFrom 2 (.iconst 0) 1 3 := ⟨by decide +kernel, rfl⟩
theorem D_rg_fillFrom_3 : Dc M_rg_fillFrom 3 (.istore_n 3) 1 4 := ⟨by decide +kernel, rfl⟩
theorem D_rg_fillFrom_4 : Dc M_rg_fillFrom 4 (.iload_n 3) 1 5 := ⟨by decide +kernel, rfl⟩
theorem D_rg_fillFrom_5 : Dc M_rg_fillFrom 5 (.aload_n 1) 1 6 := ⟨by decide +kernel, rfl⟩
theorem fl_rg_52 : Cond.fieldLink R_rg 52 (T_sh 1).1 (T_sh 1).2.1 (T_sh 1).2.2.1 ∈ gtb := mem_g 164 (by decide +kernel) rfl
theorem D_rg_fillFrom_6 : Dg M_rg_fillFrom 6 9 3 1 R_sh T_sh 3 := ⟨52, by decide +kernel, rfl, rfl, by decide, fl_rg_52, in_sh⟩
theorem D_rg_fillFrom_9 : Dj M_rg_fillFrom 9 (.if_icmp .ge) 12 48 := ⟨39, by decide +kernel, rfl, by decide⟩
theorem D_rg_fillFrom_12 : Dc M_rg_fillFrom 12 (.aload_n 1) 1 13 := ⟨by decide +kernel, rfl⟩
theorem D_rg_fillFrom_13 : Dc M_rg_fillFrom 13 (.iload_n 3) 1 14 := ⟨by decide +kernel, rfl⟩
theorem ml_rg_57 : Cond.methodLink R_rg 57 M_sh_bitAt.1 ∈ gtb := mem_g 600 (by decide +kernel) rfl
theorem D_rg_fillFrom_14 : DcV M_rg_fillFrom M_sh_bitAt 14 17 := ⟨57, by decide +kernel, rfl, ml_rg_57, by decide, by decide⟩
theorem D_rg_fillFrom_17 : Dc M_rg_fillFrom 17 (.istore 4) 2 19 := ⟨by decide +kernel, rfl⟩
theorem D_rg_fillFrom_19 : Dc M_rg_fillFrom 19 (.iload_n 3) 1 20 := ⟨by decide +kernel, rfl⟩
theorem D_rg_fillFrom_20 : Dc M_rg_fillFrom 20 (.aload_n 0) 1 21 := ⟨by decide +kernel, rfl⟩
theorem D_rg_fillFrom_21 : Dg M_rg_fillFrom 21 24 0 0 R_rg T_rg 5 := ⟨7, by decide +kernel, rfl, rfl, by decide, fl_rg_7, in_rg⟩
theorem D_rg_fillFrom_24 : Dj M_rg_fillFrom 24 (.if_icmp .lt) 27 34 := ⟨10, by decide +kernel, rfl, by decide⟩
theorem D_rg_fillFrom_27 : Dc M_rg_fillFrom 27 (.aload_n 0) 1 28 := ⟨by decide +kernel, rfl⟩
theorem D_rg_fillFrom_28 : Dc M_rg_fillFrom 28 (.iload_n 2) 1 29 := ⟨by decide +kernel, rfl⟩
theorem D_rg_fillFrom_29 : Dc M_rg_fillFrom 29 (.iload 4) 2 31 := ⟨by decide +kernel, rfl⟩
theorem D_rg_fillFrom_31 : DcV M_rg_fillFrom M_rg_write 31 34 := ⟨44, by decide +kernel, rfl, ml_rg_44, by decide, by decide⟩
theorem D_rg_fillFrom_34 : Dc M_rg_fillFrom 34 (.aload_n 0) 1 35 := ⟨by decide +kernel, rfl⟩
theorem D_rg_fillFrom_35 : Dc M_rg_fillFrom 35 (.iload_n 2) 1 36 := ⟨by decide +kernel, rfl⟩
theorem D_rg_fillFrom_36 : Dc M_rg_fillFrom 36 (.iload 4) 2 38 := ⟨by decide +kernel, rfl⟩
theorem D_rg_fillFrom_38 : DcV M_rg_fillFrom M_rg_lead 38 41 := ⟨33, by decide +kernel, rfl, ml_rg_33, by decide, by decide⟩
theorem D_rg_fillFrom_41 : Dc M_rg_fillFrom 41 (.istore_n 2) 1 42 := ⟨by decide +kernel, rfl⟩
theorem D_rg_fillFrom_42 : Dc M_rg_fillFrom 42 (.iinc 3 1) 3 45 := ⟨by decide +kernel, rfl⟩
theorem D_rg_fillFrom_45 : Dj M_rg_fillFrom 45 (.goto) 48 4 := ⟨(-41), by decide +kernel, rfl, by decide⟩
theorem D_rg_fillFrom_48 : Dc M_rg_fillFrom 48 (.return_) 1 49 := ⟨by decide +kernel, rfl⟩
end
section
theorem D_ri_init_0 : Dc M_ri_init 0 (.aload_n 0) 1 1 := ⟨by decide +kernel, rfl⟩
theorem D_ri_init_1 : Do M_ri_init 1 4 := ⟨3, by decide +kernel, rfl, by decide +kernel, by decide +kernel, by decide +kernel, by decide, by decide⟩
theorem D_ri_init_4 : Dc M_ri_init 4 (.aload_n 0) 1 5 := ⟨by decide +kernel, rfl⟩
theorem D_ri_init_5 : Dc M_ri_init 5 (.sipush 512) 3 8 := ⟨by decide +kernel, rfl⟩
theorem D_ri_init_8 : Dc M_ri_init 8 (.newarray .int) 2 10 := ⟨by decide +kernel, rfl⟩
theorem fl_ri_11 : Cond.fieldLink R_ri 11 (T_ri 4).1 (T_ri 4).2.1 (T_ri 4).2.2.1 ∈ gtb := mem_g 103 (by decide +kernel) rfl
theorem D_ri_init_10 : Df M_ri_init 10 13 1 4 R_ri T_ri 11 := ⟨11, by decide +kernel, rfl, rfl, by decide, fl_ri_11, in_ri, rfl⟩
theorem D_ri_init_13 : Dc M_ri_init 13 (.aload_n 0) 1 14 := ⟨by decide +kernel, rfl⟩
theorem D_ri_init_14 : Dc M_ri_init 14 (.sipush 512) 3 17 := ⟨by decide +kernel, rfl⟩
theorem D_ri_init_17 : Dc M_ri_init 17 (.newarray .int) 2 19 := ⟨by decide +kernel, rfl⟩
theorem fl_ri_17 : Cond.fieldLink R_ri 17 (T_ri 5).1 (T_ri 5).2.1 (T_ri 5).2.2.1 ∈ gtb := mem_g 106 (by decide +kernel) rfl
theorem D_ri_init_19 : Df M_ri_init 19 22 1 5 R_ri T_ri 11 := ⟨17, by decide +kernel, rfl, rfl, by decide, fl_ri_17, in_ri, rfl⟩
theorem D_ri_init_22 : Dc M_ri_init 22 (.aload_n 0) 1 23 := ⟨by decide +kernel, rfl⟩
theorem D_ri_init_23 : Dc M_ri_init 23 (.sipush 512) 3 26 := ⟨by decide +kernel, rfl⟩
theorem D_ri_init_26 : Dc M_ri_init 26 (.newarray .int) 2 28 := ⟨by decide +kernel, rfl⟩
theorem fl_ri_20 : Cond.fieldLink R_ri 20 (T_ri 6).1 (T_ri 6).2.1 (T_ri 6).2.2.1 ∈ gtb := mem_g 108 (by decide +kernel) rfl
theorem D_ri_init_28 : Df M_ri_init 28 31 1 6 R_ri T_ri 11 := ⟨20, by decide +kernel, rfl, rfl, by decide, fl_ri_20, in_ri, rfl⟩
theorem D_ri_init_31 : Dc M_ri_init 31 (.aload_n 0) 1 32 := ⟨by decide +kernel, rfl⟩
theorem D_ri_init_32 : Dc M_ri_init 32 (.sipush 512) 3 35 := ⟨by decide +kernel, rfl⟩
theorem D_ri_init_35 : Dc M_ri_init 35 (.newarray .int) 2 37 := ⟨by decide +kernel, rfl⟩
theorem fl_ri_23 : Cond.fieldLink R_ri 23 (T_ri 7).1 (T_ri 7).2.1 (T_ri 7).2.2.1 ∈ gtb := mem_g 110 (by decide +kernel) rfl
theorem D_ri_init_37 : Df M_ri_init 37 40 1 7 R_ri T_ri 11 := ⟨23, by decide +kernel, rfl, rfl, by decide, fl_ri_23, in_ri, rfl⟩
theorem D_ri_init_40 : Dc M_ri_init 40 (.aload_n 0) 1 41 := ⟨by decide +kernel, rfl⟩
theorem D_ri_init_41 : Dc M_ri_init 41 (.sipush 512) 3 44 := ⟨by decide +kernel, rfl⟩
theorem D_ri_init_44 : Dc M_ri_init 44 (.newarray .int) 2 46 := ⟨by decide +kernel, rfl⟩
theorem fl_ri_26 : Cond.fieldLink R_ri 26 (T_ri 8).1 (T_ri 8).2.1 (T_ri 8).2.2.1 ∈ gtb := mem_g 112 (by decide +kernel) rfl
theorem D_ri_init_46 : Df M_ri_init 46 49 1 8 R_ri T_ri 11 := ⟨26, by decide +kernel, rfl, rfl, by decide, fl_ri_26, in_ri, rfl⟩
theorem D_ri_init_49 : Dc M_ri_init 49 (.aload_n 0) 1 50 := ⟨by decide +kernel, rfl⟩
theorem D_ri_init_50 : Dc M_ri_init 50 (.sipush 512) 3 53 := ⟨by decide +kernel, rfl⟩
theorem D_ri_init_53 : Dc M_ri_init 53 (.newarray .int) 2 55 := ⟨by decide +kernel, rfl⟩
theorem fl_ri_29 : Cond.fieldLink R_ri 29 (T_ri 9).1 (T_ri 9).2.1 (T_ri 9).2.2.1 ∈ gtb := mem_g 114 (by decide +kernel) rfl
theorem D_ri_init_55 : Df M_ri_init 55 58 1 9 R_ri T_ri 11 := ⟨29, by decide +kernel, rfl, rfl, by decide, fl_ri_29, in_ri, rfl⟩
theorem D_ri_init_58 : Dc M_ri_init 58 (.aload_n 0) 1 59 := ⟨by decide +kernel, rfl⟩
theorem D_ri_init_59 : Dc M_ri_init 59 (.sipush 512) 3 62 := ⟨by decide +kernel, rfl⟩
theorem D_ri_init_62 : Dc M_ri_init 62 (.newarray .int) 2 64 := ⟨by decide +kernel, rfl⟩
theorem fl_ri_32 : Cond.fieldLink R_ri 32 (T_ri 10).1 (T_ri 10).2.1 (T_ri 10).2.2.1 ∈ gtb := mem_g 115 (by decide +kernel) rfl
theorem D_ri_init_64 : Df M_ri_init 64 67 1 10 R_ri T_ri 11 := ⟨32, by decide +kernel, rfl, rfl, by decide, fl_ri_32, in_ri, rfl⟩
theorem D_ri_init_67 : Dc M_ri_init 67 (.return_) 1 68 := ⟨by decide +kernel, rfl⟩
theorem D_ri_has_0 : Dc M_ri_has 0 (.iload_n 1) 1 1 := ⟨by decide +kernel, rfl⟩
theorem D_ri_has_1 : Dj M_ri_has 1 (.ifCond .lt) 4 16 := ⟨15, by decide +kernel, rfl, by decide⟩
theorem D_ri_has_4 : Dc M_ri_has 4 (.iload_n 1) 1 5 := ⟨by decide +kernel, rfl⟩
theorem D_ri_has_5 : Dc M_ri_has 5 (.aload_n 0) 1 6 := ⟨by decide +kernel, rfl⟩
theorem fl_ri_35 : Cond.fieldLink R_ri 35 (T_ri 0).1 (T_ri 0).2.1 (T_ri 0).2.2.1 ∈ gtb := mem_g 95 (by decide +kernel) rfl
theorem D_ri_has_6 : Dg M_ri_has 6 9 1 0 R_ri T_ri 11 := ⟨35, by decide +kernel, rfl, rfl, by decide, fl_ri_35, in_ri⟩
theorem D_ri_has_9 : Dj M_ri_has 9 (.if_icmp .ge) 12 16 := ⟨7, by decide +kernel, rfl, by decide⟩
theorem D_ri_has_12 : Dc M_ri_has 12 (.iconst 1) 1 13 := ⟨by decide +kernel, rfl⟩
theorem D_ri_has_13 : Dj M_ri_has 13 (.goto) 16 17 := ⟨4, by decide +kernel, rfl, by decide⟩
theorem D_ri_has_16 : Dc M_ri_has 16 (.iconst 0) 1 17 := ⟨by decide +kernel, rfl⟩
theorem D_ri_has_17 : Dc M_ri_has 17 (.ireturn) 1 18 := ⟨by decide +kernel, rfl⟩
theorem D_ri_find_0 : Dc M_ri_find 0 (.aload_n 0) 1 1 := ⟨by decide +kernel, rfl⟩
theorem D_ri_find_1 : Dc M_ri_find 1 (.aload_n 1) 1 2 := ⟨by decide +kernel, rfl⟩
theorem ml_ri_39 : Cond.methodLink R_ri 39 M_ri_peel.1 ∈ gtb := mem_g 317 (by decide +kernel) rfl
theorem D_ri_find_2 : DcV M_ri_find M_ri_peel 2 5 := ⟨39, by decide +kernel, rfl, ml_ri_39, by decide, by decide⟩
theorem D_ri_find_5 : Dc M_ri_find 5 (.aload_n 0) 1 6 := ⟨by decide +kernel, rfl⟩
theorem D_ri_find_6 : Dc M_ri_find 6 (.aload_n 1) 1 7 := ⟨by decide +kernel, rfl⟩
theorem ml_ri_43 : Cond.methodLink R_ri 43 M_ri_nameRings.1 ∈ gtb := mem_g 337 (by decide +kernel) rfl
theorem D_ri_find_7 : DcV M_ri_find M_ri_nameRings 7 10 := ⟨43, by decide +kernel, rfl, ml_ri_43, by decide, by decide⟩
theorem D_ri_find_10 : Dc M_ri_find 10 (.aload_n 0) 1 11 := ⟨by decide +kernel, rfl⟩
theorem D_ri_find_11 : Dc M_ri_find 11 (.aload_n 1) 1 12 := ⟨by decide +kernel, rfl⟩
theorem ml_ri_46 : Cond.methodLink R_ri 46 M_ri_nameBehind.1 ∈ gtb := mem_g 345 (by decide +kernel) rfl
theorem D_ri_find_12 : DcV M_ri_find M_ri_nameBehind 12 15 := ⟨46, by decide +kernel, rfl, ml_ri_46, by decide, by decide⟩
theorem D_ri_find_15 : Dc M_ri_find 15 (.return_) 1 16 := ⟨by decide +kernel, rfl⟩
theorem D_ri_peel_0 : Dc M_ri_peel 0 (.aload_n 0) 1 1 := ⟨by decide +kernel, rfl⟩
theorem D_ri_peel_1 : Dc M_ri_peel 1 (.iconst 0) 1 2 := ⟨by decide +kernel, rfl⟩
theorem fl_ri_49 : Cond.fieldLink R_ri 49 (T_ri 1).1 (T_ri 1).2.1 (T_ri 1).2.2.1 ∈ gtb := mem_g 97 (by decide +kernel) rfl
theorem D_ri_peel_2 : Dp M_ri_peel 2 5 1 1 R_ri T_ri 11 := ⟨49, by decide +kernel, rfl, rfl, by decide, fl_ri_49, in_ri, rfl⟩
theorem D_ri_peel_5 : Dc M_ri_peel 5 (.iconst 0) 1 6 := ⟨by decide +kernel, rfl⟩
theorem D_ri_peel_6 : Dc M_ri_peel 6 (.istore_n 2) 1 7 := ⟨by decide +kernel, rfl⟩
theorem D_ri_peel_7 : Dc M_ri_peel 7 (.iload_n 2) 1 8 := ⟨by decide +kernel, rfl⟩
theorem D_ri_peel_8 : Dc M_ri_peel 8 (.aload_n 1) 1 9 := ⟨by decide +kernel, rfl⟩
theorem fl_ri_52 : Cond.fieldLink R_ri 52 (T_rg 1).1 (T_rg 1).2.1 (T_rg 1).2.2.1 ∈ gtb := mem_g 69 (by decide +kernel) rfl
theorem D_ri_peel_9 : Dg M_ri_peel 9 12 0 1 R_rg T_rg 5 := ⟨52, by decide +kernel, rfl, rfl, by decide, fl_ri_52, in_rg⟩
theorem D_ri_peel_12 : Dj M_ri_peel 12 (.if_icmp .ge) 15 68 := ⟨56, by decide +kernel, rfl, by decide⟩
theorem D_ri_peel_15 : Dc M_ri_peel 15 (.aload_n 0) 1 16 := ⟨by decide +kernel, rfl⟩
theorem D_ri_peel_16 : Dg M_ri_peel 16 19 1 4 R_ri T_ri 11 := ⟨11, by decide +kernel, rfl, rfl, by decide, fl_ri_11, in_ri⟩
theorem D_ri_peel_19 : Dc M_ri_peel 19 (.iload_n 2) 1 20 := ⟨by decide +kernel, rfl⟩
theorem D_ri_peel_20 : Dc M_ri_peel 20 (.iconst (-1)) 1 21 := ⟨by decide +kernel, rfl⟩
theorem D_ri_peel_21 : Dc M_ri_peel 21 (.iastore) 1 22 := ⟨by decide +kernel, rfl⟩
theorem D_ri_peel_22 : Dc M_ri_peel 22 (.aload_n 0) 1 23 := ⟨by decide +kernel, rfl⟩
theorem D_ri_peel_23 : Dg M_ri_peel 23 26 1 9 R_ri T_ri 11 := ⟨29, by decide +kernel, rfl, rfl, by decide, fl_ri_29, in_ri⟩
theorem D_ri_peel_26 : Dc M_ri_peel 26 (.iload_n 2) 1 27 := ⟨by decide +kernel, rfl⟩
theorem D_ri_peel_27 : Dc M_ri_peel 27 (.aload_n 1) 1 28 := ⟨by decide +kernel, rfl⟩
theorem D_ri_peel_28 : Dc M_ri_peel 28 (.iload_n 2) 1 29 := ⟨by decide +kernel, rfl⟩
theorem ml_ri_55 : Cond.methodLink R_ri 55 M_rg_countBefore.1 ∈ gtb := mem_g 321 (by decide +kernel) rfl
theorem D_ri_peel_29 : DcV M_ri_peel M_rg_countBefore 29 32 := ⟨55, by decide +kernel, rfl, ml_ri_55, by decide, by decide⟩
theorem D_ri_peel_32 : Dc M_ri_peel 32 (.iastore) 1 33 := ⟨by decide +kernel, rfl⟩
theorem D_ri_peel_33 : Dc M_ri_peel 33 (.aload_n 0) 1 34 := ⟨by decide +kernel, rfl⟩
theorem D_ri_peel_34 : Dg M_ri_peel 34 37 1 9 R_ri T_ri 11 := ⟨29, by decide +kernel, rfl, rfl, by decide, fl_ri_29, in_ri⟩
theorem D_ri_peel_37 : Dc M_ri_peel 37 (.iload_n 2) 1 38 := ⟨by decide +kernel, rfl⟩
theorem D_ri_peel_38 : Dc M_ri_peel 38 (.iaload) 1 39 := ⟨by decide +kernel, rfl⟩
theorem D_ri_peel_39 : Dj M_ri_peel 39 (.ifCond .ne) 42 62 := ⟨23, by decide +kernel, rfl, by decide⟩
theorem D_ri_peel_42 : Dc M_ri_peel 42 (.aload_n 0) 1 43 := ⟨by decide +kernel, rfl⟩
theorem D_ri_peel_43 : Dg M_ri_peel 43 46 1 10 R_ri T_ri 11 := ⟨32, by decide +kernel, rfl, rfl, by decide, fl_ri_32, in_ri⟩
theorem D_ri_peel_46 : Dc M_ri_peel 46 (.aload_n 0) 1 47 := ⟨by decide +kernel, rfl⟩
theorem D_ri_peel_47 : Dg M_ri_peel 47 50 1 1 R_ri T_ri 11 := ⟨49, by decide +kernel, rfl, rfl, by decide, fl_ri_49, in_ri⟩
theorem D_ri_peel_50 : Dc M_ri_peel 50 (.iload_n 2) 1 51 := ⟨by decide +kernel, rfl⟩
theorem D_ri_peel_51 : Dc M_ri_peel 51 (.iastore) 1 52 := ⟨by decide +kernel, rfl⟩
theorem D_ri_peel_52 : Dc M_ri_peel 52 (.aload_n 0) 1 53 := ⟨by decide +kernel, rfl⟩
theorem D_ri_peel_53 : Dc M_ri_peel 53 (.dup) 1 54 := ⟨by decide +kernel, rfl⟩
theorem D_ri_peel_54 : Dg M_ri_peel 54 57 1 1 R_ri T_ri 11 := ⟨49, by decide +kernel, rfl, rfl, by decide, fl_ri_49, in_ri⟩
theorem D_ri_peel_57 : Dc M_ri_peel 57 (.iconst 1) 1 58 := ⟨by decide +kernel, rfl⟩
theorem D_ri_peel_58 : Dc M_ri_peel 58 (.iadd) 1 59 := ⟨by decide +kernel, rfl⟩
theorem D_ri_peel_59 : Dp M_ri_peel 59 62 1 1 R_ri T_ri 11 := ⟨49, by decide +kernel, rfl, rfl, by decide, fl_ri_49, in_ri, rfl⟩
theorem D_ri_peel_62 : Dc M_ri_peel 62 (.iinc 2 1) 3 65 := ⟨by decide +kernel, rfl⟩
theorem D_ri_peel_65 : Dj M_ri_peel 65 (.goto) 68 7 := ⟨(-58), by decide +kernel, rfl, by decide⟩
theorem D_ri_peel_68 : Dc M_ri_peel 68 (.aload_n 0) 1 69 := ⟨by decide +kernel, rfl⟩
theorem D_ri_peel_69 : Dc M_ri_peel 69 (.aload_n 0) 1 70 := ⟨by decide +kernel, rfl⟩
theorem D_ri_peel_70 : Dg M_ri_peel 70 73 1 1 R_ri T_ri 11 := ⟨49, by decide +kernel, rfl, rfl, by decide, fl_ri_49, in_ri⟩
theorem fl_ri_59 : Cond.fieldLink R_ri 59 (T_ri 2).1 (T_ri 2).2.1 (T_ri 2).2.2.1 ∈ gtb := mem_g 99 (by decide +kernel) rfl
theorem D_ri_peel_73 : Dp M_ri_peel 73 76 1 2 R_ri T_ri 11 := ⟨59, by decide +kernel, rfl, rfl, by decide, fl_ri_59, in_ri, rfl⟩
theorem D_ri_peel_76 : Dc M_ri_peel 76 (.iconst 0) 1 77 := ⟨by decide +kernel, rfl⟩
theorem D_ri_peel_77 : Dc M_ri_peel 77 (.istore_n 2) 1 78 := ⟨by decide +kernel, rfl⟩
theorem D_ri_peel_78 : Dc M_ri_peel 78 (.iload_n 2) 1 79 := ⟨by decide +kernel, rfl⟩
theorem D_ri_peel_79 : Dc M_ri_peel 79 (.aload_n 0) 1 80 := ⟨by decide +kernel, rfl⟩
theorem D_ri_peel_80 : Dg M_ri_peel 80 83 1 1 R_ri T_ri 11 := ⟨49, by decide +kernel, rfl, rfl, by decide, fl_ri_49, in_ri⟩
theorem D_ri_peel_83 : Dj M_ri_peel 83 (.if_icmp .ge) 86 161 := ⟨78, by decide +kernel, rfl, by decide⟩
theorem D_ri_peel_86 : Dc M_ri_peel 86 (.iload_n 2) 1 87 := ⟨by decide +kernel, rfl⟩
theorem D_ri_peel_87 : Dc M_ri_peel 87 (.aload_n 1) 1 88 := ⟨by decide +kernel, rfl⟩
theorem D_ri_peel_88 : Dg M_ri_peel 88 91 0 1 R_rg T_rg 5 := ⟨52, by decide +kernel, rfl, rfl, by decide, fl_ri_52, in_rg⟩
theorem D_ri_peel_91 : Dj M_ri_peel 91 (.if_icmp .ge) 94 161 := ⟨70, by decide +kernel, rfl, by decide⟩
theorem D_ri_peel_94 : Dc M_ri_peel 94 (.aload_n 1) 1 95 := ⟨by decide +kernel, rfl⟩
theorem D_ri_peel_95 : Dc M_ri_peel 95 (.aload_n 0) 1 96 := ⟨by decide +kernel, rfl⟩
theorem D_ri_peel_96 : Dg M_ri_peel 96 99 1 10 R_ri T_ri 11 := ⟨32, by decide +kernel, rfl, rfl, by decide, fl_ri_32, in_ri⟩
theorem D_ri_peel_99 : Dc M_ri_peel 99 (.iload_n 2) 1 100 := ⟨by decide +kernel, rfl⟩
theorem D_ri_peel_100 : Dc M_ri_peel 100 (.iaload) 1 101 := ⟨by decide +kernel, rfl⟩
theorem ml_ri_62 : Cond.methodLink R_ri 62 M_rg_next.1 ∈ gtb := mem_g 329 (by decide +kernel) rfl
theorem D_ri_peel_101 : DcV M_ri_peel M_rg_next 101 104 := ⟨62, by decide +kernel, rfl, ml_ri_62, by decide, by decide⟩
theorem D_ri_peel_104 : Dc M_ri_peel 104 (.istore_n 3) 1 105 := ⟨by decide +kernel, rfl⟩
theorem D_ri_peel_105 : Dc M_ri_peel 105 (.aload_n 0) 1 106 := ⟨by decide +kernel, rfl⟩
theorem D_ri_peel_106 : Dg M_ri_peel 106 109 1 9 R_ri T_ri 11 := ⟨29, by decide +kernel, rfl, rfl, by decide, fl_ri_29, in_ri⟩
theorem D_ri_peel_109 : Dc M_ri_peel 109 (.iload_n 3) 1 110 := ⟨by decide +kernel, rfl⟩
theorem D_ri_peel_110 : Dc M_ri_peel 110 (.dup2) 1 111 := ⟨by decide +kernel, rfl⟩
theorem D_ri_peel_111 : Dc M_ri_peel 111 (.iaload) 1 112 := ⟨by decide +kernel, rfl⟩
theorem D_ri_peel_112 : Dc M_ri_peel 112 (.iconst 1) 1 113 := ⟨by decide +kernel, rfl⟩
theorem D_ri_peel_113 : Dc M_ri_peel 113 (.isub) 1 114 := ⟨by decide +kernel, rfl⟩
theorem D_ri_peel_114 : Dc M_ri_peel 114 (.iastore) 1 115 := ⟨by decide +kernel, rfl⟩
theorem D_ri_peel_115 : Dc M_ri_peel 115 (.aload_n 0) 1 116 := ⟨by decide +kernel, rfl⟩
theorem D_ri_peel_116 : Dg M_ri_peel 116 119 1 9 R_ri T_ri 11 := ⟨29, by decide +kernel, rfl, rfl, by decide, fl_ri_29, in_ri⟩
theorem D_ri_peel_119 : Dc M_ri_peel 119 (.iload_n 3) 1 120 := ⟨by decide +kernel, rfl⟩
theorem D_ri_peel_120 : Dc M_ri_peel 120 (.iaload) 1 121 := ⟨by decide +kernel, rfl⟩
theorem D_ri_peel_121 : Dj M_ri_peel 121 (.ifCond .ne) 124 155 := ⟨34, by decide +kernel, rfl, by decide⟩
theorem D_ri_peel_124 : Dc M_ri_peel 124 (.aload_n 0) 1 125 := ⟨by decide +kernel, rfl⟩
theorem D_ri_peel_125 : Dg M_ri_peel 125 128 1 1 R_ri T_ri 11 := ⟨49, by decide +kernel, rfl, rfl, by decide, fl_ri_49, in_ri⟩
theorem D_ri_peel_128 : Dc M_ri_peel 128 (.aload_n 1) 1 129 := ⟨by decide +kernel, rfl⟩
theorem D_ri_peel_129 : Dg M_ri_peel 129 132 0 1 R_rg T_rg 5 := ⟨52, by decide +kernel, rfl, rfl, by decide, fl_ri_52, in_rg⟩
theorem D_ri_peel_132 : Dj M_ri_peel 132 (.if_icmp .ge) 135 155 := ⟨23, by decide +kernel, rfl, by decide⟩
theorem D_ri_peel_135 : Dc M_ri_peel 135 (.aload_n 0) 1 136 := ⟨by decide +kernel, rfl⟩
theorem D_ri_peel_136 : Dg M_ri_peel 136 139 1 10 R_ri T_ri 11 := ⟨32, by decide +kernel, rfl, rfl, by decide, fl_ri_32, in_ri⟩
theorem D_ri_peel_139 : Dc M_ri_peel 139 (.aload_n 0) 1 140 := ⟨by decide +kernel, rfl⟩
theorem D_ri_peel_140 : Dg M_ri_peel 140 143 1 1 R_ri T_ri 11 := ⟨49, by decide +kernel, rfl, rfl, by decide, fl_ri_49, in_ri⟩
theorem D_ri_peel_143 : Dc M_ri_peel 143 (.iload_n 3) 1 144 := ⟨by decide +kernel, rfl⟩
theorem D_ri_peel_144 : Dc M_ri_peel 144 (.iastore) 1 145 := ⟨by decide +kernel, rfl⟩
theorem D_ri_peel_145 : Dc M_ri_peel 145 (.aload_n 0) 1 146 := ⟨by decide +kernel, rfl⟩
theorem D_ri_peel_146 : Dc M_ri_peel 146 (.dup) 1 147 := ⟨by decide +kernel, rfl⟩
theorem D_ri_peel_147 : Dg M_ri_peel 147 150 1 1 R_ri T_ri 11 := ⟨49, by decide +kernel, rfl, rfl, by decide, fl_ri_49, in_ri⟩
theorem D_ri_peel_150 : Dc M_ri_peel 150 (.iconst 1) 1 151 := ⟨by decide +kernel, rfl⟩
theorem D_ri_peel_151 : Dc M_ri_peel 151 (.iadd) 1 152 := ⟨by decide +kernel, rfl⟩
theorem D_ri_peel_152 : Dp M_ri_peel 152 155 1 1 R_ri T_ri 11 := ⟨49, by decide +kernel, rfl, rfl, by decide, fl_ri_49, in_ri, rfl⟩
theorem D_ri_peel_155 : Dc M_ri_peel 155 (.iinc 2 1) 3 158 := ⟨by decide +kernel, rfl⟩
theorem D_ri_peel_158 : Dj M_ri_peel 158 (.goto) 161 78 := ⟨(-80), by decide +kernel, rfl, by decide⟩
theorem D_ri_peel_161 : Dc M_ri_peel 161 (.return_) 1 162 := ⟨by decide +kernel, rfl⟩
theorem D_ri_nameRings_0 : Dc M_ri_nameRings 0 (.aload_n 0) 1 1 := ⟨by decide +kernel, rfl⟩
theorem D_ri_nameRings_1 : Dc M_ri_nameRings 1 (.iconst 0) 1 2 := ⟨by decide +kernel, rfl⟩
theorem D_ri_nameRings_2 : Dp M_ri_nameRings 2 5 1 0 R_ri T_ri 11 := ⟨35, by decide +kernel, rfl, rfl, by decide, fl_ri_35, in_ri, rfl⟩
theorem D_ri_nameRings_5 : Dc M_ri_nameRings 5 (.iconst 0) 1 6 := ⟨by decide +kernel, rfl⟩
theorem D_ri_nameRings_6 : Dc M_ri_nameRings 6 (.istore_n 2) 1 7 := ⟨by decide +kernel, rfl⟩
theorem D_ri_nameRings_7 : Dc M_ri_nameRings 7 (.iload_n 2) 1 8 := ⟨by decide +kernel, rfl⟩
theorem D_ri_nameRings_8 : Dc M_ri_nameRings 8 (.aload_n 1) 1 9 := ⟨by decide +kernel, rfl⟩
theorem D_ri_nameRings_9 : Dg M_ri_nameRings 9 12 0 1 R_rg T_rg 5 := ⟨52, by decide +kernel, rfl, rfl, by decide, fl_ri_52, in_rg⟩
theorem D_ri_nameRings_12 : Dj M_ri_nameRings 12 (.if_icmp .ge) 15 46 := ⟨34, by decide +kernel, rfl, by decide⟩
theorem D_ri_nameRings_15 : Dc M_ri_nameRings 15 (.aload_n 0) 1 16 := ⟨by decide +kernel, rfl⟩
theorem D_ri_nameRings_16 : Dg M_ri_nameRings 16 19 1 9 R_ri T_ri 11 := ⟨29, by decide +kernel, rfl, rfl, by decide, fl_ri_29, in_ri⟩
theorem D_ri_nameRings_19 : Dc M_ri_nameRings 19 (.iload_n 2) 1 20 := ⟨by decide +kernel, rfl⟩
theorem D_ri_nameRings_20 : Dc M_ri_nameRings 20 (.iaload) 1 21 := ⟨by decide +kernel, rfl⟩
theorem D_ri_nameRings_21 : Dj M_ri_nameRings 21 (.ifCond .le) 24 40 := ⟨19, by decide +kernel, rfl, by decide⟩
theorem D_ri_nameRings_24 : Dc M_ri_nameRings 24 (.aload_n 0) 1 25 := ⟨by decide +kernel, rfl⟩
theorem D_ri_nameRings_25 : Dg M_ri_nameRings 25 28 1 4 R_ri T_ri 11 := ⟨11, by decide +kernel, rfl, rfl, by decide, fl_ri_11, in_ri⟩
theorem D_ri_nameRings_28 : Dc M_ri_nameRings 28 (.iload_n 2) 1 29 := ⟨by decide +kernel, rfl⟩
theorem D_ri_nameRings_29 : Dc M_ri_nameRings 29 (.iaload) 1 30 := ⟨by decide +kernel, rfl⟩
theorem D_ri_nameRings_30 : Dc M_ri_nameRings 30 (.iconst (-1)) 1 31 := ⟨by decide +kernel, rfl⟩
theorem D_ri_nameRings_31 : Dj M_ri_nameRings 31 (.if_icmp .ne) 34 40 := ⟨9, by decide +kernel, rfl, by decide⟩
theorem D_ri_nameRings_34 : Dc M_ri_nameRings 34 (.aload_n 0) 1 35 := ⟨by decide +kernel, rfl⟩
theorem D_ri_nameRings_35 : Dc M_ri_nameRings 35 (.aload_n 1) 1 36 := ⟨by decide +kernel, rfl⟩
theorem D_ri_nameRings_36 : Dc M_ri_nameRings 36 (.iload_n 2) 1 37 := ⟨by decide +kernel, rfl⟩
theorem ml_ri_65 : Cond.methodLink R_ri 65 M_ri_nameRing.1 ∈ gtb := mem_g 341 (by decide +kernel) rfl
theorem D_ri_nameRings_37 : DcV M_ri_nameRings M_ri_nameRing 37 40 := ⟨65, by decide +kernel, rfl, ml_ri_65, by decide, by decide⟩
theorem D_ri_nameRings_40 : Dc M_ri_nameRings 40 (.iinc 2 1) 3 43 := ⟨by decide +kernel, rfl⟩
theorem D_ri_nameRings_43 : Dj M_ri_nameRings 43 (.goto) 46 7 := ⟨(-36), by decide +kernel, rfl, by decide⟩
theorem D_ri_nameRings_46 : Dc M_ri_nameRings 46 (.return_) 1 47 := ⟨by decide +kernel, rfl⟩
theorem D_ri_nameRing_0 : Dc M_ri_nameRing 0 (.iload_n 2) 1 1 := ⟨by decide +kernel, rfl⟩
theorem D_ri_nameRing_1 : Dc M_ri_nameRing 1 (.istore_n 3) 1 2 := ⟨by decide +kernel, rfl⟩
theorem D_ri_nameRing_2 : Dc M_ri_nameRing 2 (.iconst 0) 1 3 := ⟨by decide +kernel, rfl⟩
theorem D_ri_nameRing_3 : Dc M_ri_nameRing 3 (.istore 4) 2 5 := ⟨by decide +kernel, rfl⟩
theorem D_ri_nameRing_5 : Dc M_ri_nameRing 5 (.iload 4) 2 7 := ⟨by decide +kernel, rfl⟩
theorem D_ri_nameRing_7 : Dc M_ri_nameRing 7 (.aload_n 1) 1 8 := ⟨by decide +kernel, rfl⟩
theorem D_ri_nameRing_8 : Dg M_ri_nameRing 8 11 0 1 R_rg T_rg 5 := ⟨52, by decide +kernel, rfl, rfl, by decide, fl_ri_52, in_rg⟩
theorem D_ri_nameRing_11 : Dj M_ri_nameRing 11 (.if_icmp .ge) 14 61 := ⟨50, by decide +kernel, rfl, by decide⟩
theorem D_ri_nameRing_14 : Dc M_ri_nameRing 14 (.aload_n 0) 1 15 := ⟨by decide +kernel, rfl⟩
theorem D_ri_nameRing_15 : Dg M_ri_nameRing 15 18 1 4 R_ri T_ri 11 := ⟨11, by decide +kernel, rfl, rfl, by decide, fl_ri_11, in_ri⟩
theorem D_ri_nameRing_18 : Dc M_ri_nameRing 18 (.iload_n 3) 1 19 := ⟨by decide +kernel, rfl⟩
theorem D_ri_nameRing_19 : Dc M_ri_nameRing 19 (.iaload) 1 20 := ⟨by decide +kernel, rfl⟩
theorem D_ri_nameRing_20 : Dc M_ri_nameRing 20 (.iconst (-1)) 1 21 := ⟨by decide +kernel, rfl⟩
theorem D_ri_nameRing_21 : Dj M_ri_nameRing 21 (.if_icmp .ne) 24 61 := ⟨40, by decide +kernel, rfl, by decide⟩
theorem D_ri_nameRing_24 : Dc M_ri_nameRing 24 (.aload_n 0) 1 25 := ⟨by decide +kernel, rfl⟩
theorem D_ri_nameRing_25 : Dg M_ri_nameRing 25 28 1 4 R_ri T_ri 11 := ⟨11, by decide +kernel, rfl, rfl, by decide, fl_ri_11, in_ri⟩
theorem D_ri_nameRing_28 : Dc M_ri_nameRing 28 (.iload_n 3) 1 29 := ⟨by decide +kernel, rfl⟩
theorem D_ri_nameRing_29 : Dc M_ri_nameRing 29 (.aload_n 0) 1 30 := ⟨by decide +kernel, rfl⟩
theorem D_ri_nameRing_30 : Dg M_ri_nameRing 30 33 1 0 R_ri T_ri 11 := ⟨35, by decide +kernel, rfl, rfl, by decide, fl_ri_35, in_ri⟩
theorem D_ri_nameRing_33 : Dc M_ri_nameRing 33 (.iastore) 1 34 := ⟨by decide +kernel, rfl⟩
theorem D_ri_nameRing_34 : Dc M_ri_nameRing 34 (.aload_n 0) 1 35 := ⟨by decide +kernel, rfl⟩
theorem D_ri_nameRing_35 : Dg M_ri_nameRing 35 38 1 5 R_ri T_ri 11 := ⟨17, by decide +kernel, rfl, rfl, by decide, fl_ri_17, in_ri⟩
theorem D_ri_nameRing_38 : Dc M_ri_nameRing 38 (.iload_n 3) 1 39 := ⟨by decide +kernel, rfl⟩
theorem D_ri_nameRing_39 : Dc M_ri_nameRing 39 (.iconst 0) 1 40 := ⟨by decide +kernel, rfl⟩
theorem D_ri_nameRing_40 : Dc M_ri_nameRing 40 (.iastore) 1 41 := ⟨by decide +kernel, rfl⟩
theorem D_ri_nameRing_41 : Dc M_ri_nameRing 41 (.aload_n 0) 1 42 := ⟨by decide +kernel, rfl⟩
theorem D_ri_nameRing_42 : Dg M_ri_nameRing 42 45 1 6 R_ri T_ri 11 := ⟨20, by decide +kernel, rfl, rfl, by decide, fl_ri_20, in_ri⟩
theorem D_ri_nameRing_45 : Dc M_ri_nameRing 45 (.iload_n 3) 1 46 := ⟨by decide +kernel, rfl⟩
theorem D_ri_nameRing_46 : Dc M_ri_nameRing 46 (.iload 4) 2 48 := ⟨by decide +kernel, rfl⟩
theorem D_ri_nameRing_48 : Dc M_ri_nameRing 48 (.iastore) 1 49 := ⟨by decide +kernel, rfl⟩
theorem D_ri_nameRing_49 : Dc M_ri_nameRing 49 (.aload_n 1) 1 50 := ⟨by decide +kernel, rfl⟩
theorem D_ri_nameRing_50 : Dc M_ri_nameRing 50 (.iload_n 3) 1 51 := ⟨by decide +kernel, rfl⟩
theorem D_ri_nameRing_51 : DcV M_ri_nameRing M_rg_next 51 54 := ⟨62, by decide +kernel, rfl, ml_ri_62, by decide, by decide⟩
theorem D_ri_nameRing_54 : Dc M_ri_nameRing 54 (.istore_n 3) 1 55 := ⟨by decide +kernel, rfl⟩
theorem D_ri_nameRing_55 : Dc M_ri_nameRing 55 (.iinc 4 1) 3 58 := ⟨by decide +kernel, rfl⟩
theorem D_ri_nameRing_58 : Dj M_ri_nameRing 58 (.goto) 61 5 := ⟨(-53), by decide +kernel, rfl, by decide⟩
theorem D_ri_nameRing_61 : Dc M_ri_nameRing 61 (.aload_n 0) 1 62 := ⟨by decide +kernel, rfl⟩
theorem D_ri_nameRing_62 : Dg M_ri_nameRing 62 65 1 7 R_ri T_ri 11 := ⟨23, by decide +kernel, rfl, rfl, by decide, fl_ri_23, in_ri⟩
theorem D_ri_nameRing_65 : Dc M_ri_nameRing 65 (.aload_n 0) 1 66 := ⟨by decide +kernel, rfl⟩
theorem D_ri_nameRing_66 : Dg M_ri_nameRing 66 69 1 0 R_ri T_ri 11 := ⟨35, by decide +kernel, rfl, rfl, by decide, fl_ri_35, in_ri⟩
theorem D_ri_nameRing_69 : Dc M_ri_nameRing 69 (.iload_n 2) 1 70 := ⟨by decide +kernel, rfl⟩
theorem D_ri_nameRing_70 : Dc M_ri_nameRing 70 (.iastore) 1 71 := ⟨by decide +kernel, rfl⟩
theorem D_ri_nameRing_71 : Dc M_ri_nameRing 71 (.aload_n 0) 1 72 := ⟨by decide +kernel, rfl⟩
theorem D_ri_nameRing_72 : Dg M_ri_nameRing 72 75 1 8 R_ri T_ri 11 := ⟨26, by decide +kernel, rfl, rfl, by decide, fl_ri_26, in_ri⟩
theorem D_ri_nameRing_75 : Dc M_ri_nameRing 75 (.aload_n 0) 1 76 := ⟨by decide +kernel, rfl⟩
theorem D_ri_nameRing_76 : Dg M_ri_nameRing 76 79 1 0 R_ri T_ri 11 := ⟨35, by decide +kernel, rfl, rfl, by decide, fl_ri_35, in_ri⟩
theorem D_ri_nameRing_79 : Dc M_ri_nameRing 79 (.iload 4) 2 81 := ⟨by decide +kernel, rfl⟩
theorem D_ri_nameRing_81 : Dc M_ri_nameRing 81 (.iastore) 1 82 := ⟨by decide +kernel, rfl⟩
theorem D_ri_nameRing_82 : Dc M_ri_nameRing 82 (.aload_n 0) 1 83 := ⟨by decide +kernel, rfl⟩
theorem D_ri_nameRing_83 : Dc M_ri_nameRing 83 (.dup) 1 84 := ⟨by decide +kernel, rfl⟩
theorem D_ri_nameRing_84 : Dg M_ri_nameRing 84 87 1 0 R_ri T_ri 11 := ⟨35, by decide +kernel, rfl, rfl, by decide, fl_ri_35, in_ri⟩
theorem D_ri_nameRing_87 : Dc M_ri_nameRing 87 (.iconst 1) 1 88 := ⟨by decide +kernel, rfl⟩
theorem D_ri_nameRing_88 : Dc M_ri_nameRing 88 (.iadd) 1 89 := ⟨by decide +kernel, rfl⟩
theorem D_ri_nameRing_89 : Dp M_ri_nameRing 89 92 1 0 R_ri T_ri 11 := ⟨35, by decide +kernel, rfl, rfl, by decide, fl_ri_35, in_ri, rfl⟩
theorem D_ri_nameRing_92 : Dc M_ri_nameRing 92 (.return_) 1 93 := ⟨by decide +kernel, rfl⟩
theorem D_ri_nameBehind_0 : Dc M_ri_nameBehind 0 (.aload_n 0) 1 1 := ⟨by decide +kernel, rfl⟩
theorem D_ri_nameBehind_1 : Dc M_ri_nameBehind 1 (.iconst 0) 1 2 := ⟨by decide +kernel, rfl⟩
theorem fl_ri_69 : Cond.fieldLink R_ri 69 (T_ri 3).1 (T_ri 3).2.1 (T_ri 3).2.2.1 ∈ gtb := mem_g 101 (by decide +kernel) rfl
theorem D_ri_nameBehind_2 : Dp M_ri_nameBehind 2 5 1 3 R_ri T_ri 11 := ⟨69, by decide +kernel, rfl, rfl, by decide, fl_ri_69, in_ri, rfl⟩
theorem D_ri_nameBehind_5 : Dc M_ri_nameBehind 5 (.aload_n 0) 1 6 := ⟨by decide +kernel, rfl⟩
theorem D_ri_nameBehind_6 : Dg M_ri_nameBehind 6 9 1 1 R_ri T_ri 11 := ⟨49, by decide +kernel, rfl, rfl, by decide, fl_ri_49, in_ri⟩
theorem D_ri_nameBehind_9 : Dc M_ri_nameBehind 9 (.iconst 1) 1 10 := ⟨by decide +kernel, rfl⟩
theorem D_ri_nameBehind_10 : Dc M_ri_nameBehind 10 (.isub) 1 11 := ⟨by decide +kernel, rfl⟩
theorem D_ri_nameBehind_11 : Dc M_ri_nameBehind 11 (.istore_n 2) 1 12 := ⟨by decide +kernel, rfl⟩
theorem D_ri_nameBehind_12 : Dc M_ri_nameBehind 12 (.iload_n 2) 1 13 := ⟨by decide +kernel, rfl⟩
theorem D_ri_nameBehind_13 : Dj M_ri_nameBehind 13 (.ifCond .lt) 16 94 := ⟨81, by decide +kernel, rfl, by decide⟩
theorem D_ri_nameBehind_16 : Dc M_ri_nameBehind 16 (.aload_n 0) 1 17 := ⟨by decide +kernel, rfl⟩
theorem D_ri_nameBehind_17 : Dg M_ri_nameBehind 17 20 1 10 R_ri T_ri 11 := ⟨32, by decide +kernel, rfl, rfl, by decide, fl_ri_32, in_ri⟩
theorem D_ri_nameBehind_20 : Dc M_ri_nameBehind 20 (.iload_n 2) 1 21 := ⟨by decide +kernel, rfl⟩
theorem D_ri_nameBehind_21 : Dc M_ri_nameBehind 21 (.iaload) 1 22 := ⟨by decide +kernel, rfl⟩
theorem D_ri_nameBehind_22 : Dc M_ri_nameBehind 22 (.istore_n 3) 1 23 := ⟨by decide +kernel, rfl⟩
theorem D_ri_nameBehind_23 : Dc M_ri_nameBehind 23 (.aload_n 1) 1 24 := ⟨by decide +kernel, rfl⟩
theorem D_ri_nameBehind_24 : Dc M_ri_nameBehind 24 (.iload_n 3) 1 25 := ⟨by decide +kernel, rfl⟩
theorem D_ri_nameBehind_25 : DcV M_ri_nameBehind M_rg_next 25 28 := ⟨62, by decide +kernel, rfl, ml_ri_62, by decide, by decide⟩
theorem D_ri_nameBehind_28 : Dc M_ri_nameBehind 28 (.istore 4) 2 30 := ⟨by decide +kernel, rfl⟩
theorem D_ri_nameBehind_30 : Dc M_ri_nameBehind 30 (.aload_n 0) 1 31 := ⟨by decide +kernel, rfl⟩
theorem D_ri_nameBehind_31 : Dg M_ri_nameBehind 31 34 1 4 R_ri T_ri 11 := ⟨11, by decide +kernel, rfl, rfl, by decide, fl_ri_11, in_ri⟩
theorem D_ri_nameBehind_34 : Dc M_ri_nameBehind 34 (.iload_n 3) 1 35 := ⟨by decide +kernel, rfl⟩
theorem D_ri_nameBehind_35 : Dc M_ri_nameBehind 35 (.aload_n 0) 1 36 := ⟨by decide +kernel, rfl⟩
theorem D_ri_nameBehind_36 : Dg M_ri_nameBehind 36 39 1 4 R_ri T_ri 11 := ⟨11, by decide +kernel, rfl, rfl, by decide, fl_ri_11, in_ri⟩
theorem D_ri_nameBehind_39 : Dc M_ri_nameBehind 39 (.iload 4) 2 41 := ⟨by decide +kernel, rfl⟩
theorem D_ri_nameBehind_41 : Dc M_ri_nameBehind 41 (.iaload) 1 42 := ⟨by decide +kernel, rfl⟩
theorem D_ri_nameBehind_42 : Dc M_ri_nameBehind 42 (.iastore) 1 43 := ⟨by decide +kernel, rfl⟩
theorem D_ri_nameBehind_43 : Dc M_ri_nameBehind 43 (.aload_n 0) 1 44 := ⟨by decide +kernel, rfl⟩
theorem D_ri_nameBehind_44 : Dg M_ri_nameBehind 44 47 1 6 R_ri T_ri 11 := ⟨20, by decide +kernel, rfl, rfl, by decide, fl_ri_20, in_ri⟩
theorem D_ri_nameBehind_47 : Dc M_ri_nameBehind 47 (.iload_n 3) 1 48 := ⟨by decide +kernel, rfl⟩
theorem D_ri_nameBehind_48 : Dc M_ri_nameBehind 48 (.aload_n 0) 1 49 := ⟨by decide +kernel, rfl⟩
theorem D_ri_nameBehind_49 : Dg M_ri_nameBehind 49 52 1 6 R_ri T_ri 11 := ⟨20, by decide +kernel, rfl, rfl, by decide, fl_ri_20, in_ri⟩
theorem D_ri_nameBehind_52 : Dc M_ri_nameBehind 52 (.iload 4) 2 54 := ⟨by decide +kernel, rfl⟩
theorem D_ri_nameBehind_54 : Dc M_ri_nameBehind 54 (.iaload) 1 55 := ⟨by decide +kernel, rfl⟩
theorem D_ri_nameBehind_55 : Dc M_ri_nameBehind 55 (.iastore) 1 56 := ⟨by decide +kernel, rfl⟩
theorem D_ri_nameBehind_56 : Dc M_ri_nameBehind 56 (.aload_n 0) 1 57 := ⟨by decide +kernel, rfl⟩
theorem D_ri_nameBehind_57 : Dg M_ri_nameBehind 57 60 1 5 R_ri T_ri 11 := ⟨17, by decide +kernel, rfl, rfl, by decide, fl_ri_17, in_ri⟩
theorem D_ri_nameBehind_60 : Dc M_ri_nameBehind 60 (.iload_n 3) 1 61 := ⟨by decide +kernel, rfl⟩
theorem D_ri_nameBehind_61 : Dc M_ri_nameBehind 61 (.aload_n 0) 1 62 := ⟨by decide +kernel, rfl⟩
theorem D_ri_nameBehind_62 : Dg M_ri_nameBehind 62 65 1 5 R_ri T_ri 11 := ⟨17, by decide +kernel, rfl, rfl, by decide, fl_ri_17, in_ri⟩
theorem D_ri_nameBehind_65 : Dc M_ri_nameBehind 65 (.iload 4) 2 67 := ⟨by decide +kernel, rfl⟩
theorem D_ri_nameBehind_67 : Dc M_ri_nameBehind 67 (.iaload) 1 68 := ⟨by decide +kernel, rfl⟩
theorem D_ri_nameBehind_68 : Dc M_ri_nameBehind 68 (.iconst 1) 1 69 := ⟨by decide +kernel, rfl⟩
theorem D_ri_nameBehind_69 : Dc M_ri_nameBehind 69 (.iadd) 1 70 := ⟨by decide +kernel, rfl⟩
theorem D_ri_nameBehind_70 : Dc M_ri_nameBehind 70 (.iastore) 1 71 := ⟨by decide +kernel, rfl⟩
theorem D_ri_nameBehind_71 : Dc M_ri_nameBehind 71 (.aload_n 0) 1 72 := ⟨by decide +kernel, rfl⟩
theorem D_ri_nameBehind_72 : Dc M_ri_nameBehind 72 (.aload_n 0) 1 73 := ⟨by decide +kernel, rfl⟩
theorem D_ri_nameBehind_73 : Dg M_ri_nameBehind 73 76 1 3 R_ri T_ri 11 := ⟨69, by decide +kernel, rfl, rfl, by decide, fl_ri_69, in_ri⟩
theorem D_ri_nameBehind_76 : Dc M_ri_nameBehind 76 (.aload_n 0) 1 77 := ⟨by decide +kernel, rfl⟩
theorem D_ri_nameBehind_77 : Dg M_ri_nameBehind 77 80 1 5 R_ri T_ri 11 := ⟨17, by decide +kernel, rfl, rfl, by decide, fl_ri_17, in_ri⟩
theorem D_ri_nameBehind_80 : Dc M_ri_nameBehind 80 (.iload_n 3) 1 81 := ⟨by decide +kernel, rfl⟩
theorem D_ri_nameBehind_81 : Dc M_ri_nameBehind 81 (.iaload) 1 82 := ⟨by decide +kernel, rfl⟩
theorem ml_ri_72 : Cond.methodLink R_ri 72 M_jm_max.1 ∈ gtb := mem_g 349 (by decide +kernel) rfl
theorem D_ri_nameBehind_82 : DcS M_ri_nameBehind M_jm_max 82 85 := ⟨72, by decide +kernel, rfl, ml_ri_72, by decide, by decide⟩
theorem D_ri_nameBehind_85 : Dp M_ri_nameBehind 85 88 1 3 R_ri T_ri 11 := ⟨69, by decide +kernel, rfl, rfl, by decide, fl_ri_69, in_ri, rfl⟩
theorem D_ri_nameBehind_88 : Dc M_ri_nameBehind 88 (.iinc 2 (-1)) 3 91 := ⟨by decide +kernel, rfl⟩
theorem D_ri_nameBehind_91 : Dj M_ri_nameBehind 91 (.goto) 94 12 := ⟨(-79), by decide +kernel, rfl, by decide⟩
theorem D_ri_nameBehind_94 : Dc M_ri_nameBehind 94 (.return_) 1 95 := ⟨by decide +kernel, rfl⟩
theorem D_ri_sizeAround_0 : Dc M_ri_sizeAround 0 (.aload_n 0) 1 1 := ⟨by decide +kernel, rfl⟩
theorem D_ri_sizeAround_1 : Dg M_ri_sizeAround 1 4 1 4 R_ri T_ri 11 := ⟨11, by decide +kernel, rfl, rfl, by decide, fl_ri_11, in_ri⟩
theorem D_ri_sizeAround_4 : Dc M_ri_sizeAround 4 (.iload_n 1) 1 5 := ⟨by decide +kernel, rfl⟩
theorem D_ri_sizeAround_5 : Dc M_ri_sizeAround 5 (.iaload) 1 6 := ⟨by decide +kernel, rfl⟩
theorem D_ri_sizeAround_6 : Dc M_ri_sizeAround 6 (.istore_n 2) 1 7 := ⟨by decide +kernel, rfl⟩
theorem D_ri_sizeAround_7 : Dc M_ri_sizeAround 7 (.aload_n 0) 1 8 := ⟨by decide +kernel, rfl⟩
theorem D_ri_sizeAround_8 : Dc M_ri_sizeAround 8 (.iload_n 2) 1 9 := ⟨by decide +kernel, rfl⟩
theorem ml_ri_78 : Cond.methodLink R_ri 78 M_ri_has.1 ∈ gtb := mem_g 360 (by decide +kernel) rfl
theorem D_ri_sizeAround_9 : DcV M_ri_sizeAround M_ri_has 9 12 := ⟨78, by decide +kernel, rfl, ml_ri_78, by decide, by decide⟩
theorem D_ri_sizeAround_12 : Dj M_ri_sizeAround 12 (.ifCond .eq) 15 28 := ⟨16, by decide +kernel, rfl, by decide⟩
theorem D_ri_sizeAround_15 : Dc M_ri_sizeAround 15 (.iconst 1) 1 16 := ⟨by decide +kernel, rfl⟩
theorem D_ri_sizeAround_16 : Dc M_ri_sizeAround 16 (.aload_n 0) 1 17 := ⟨by decide +kernel, rfl⟩
theorem D_ri_sizeAround_17 : Dg M_ri_sizeAround 17 20 1 8 R_ri T_ri 11 := ⟨26, by decide +kernel, rfl, rfl, by decide, fl_ri_26, in_ri⟩
theorem D_ri_sizeAround_20 : Dc M_ri_sizeAround 20 (.iload_n 2) 1 21 := ⟨by decide +kernel, rfl⟩
theorem D_ri_sizeAround_21 : Dc M_ri_sizeAround 21 (.iaload) 1 22 := ⟨by decide +kernel, rfl⟩
theorem D_ri_sizeAround_22 : DcS M_ri_sizeAround M_jm_max 22 25 := ⟨72, by decide +kernel, rfl, ml_ri_72, by decide, by decide⟩
theorem D_ri_sizeAround_25 : Dj M_ri_sizeAround 25 (.goto) 28 29 := ⟨4, by decide +kernel, rfl, by decide⟩
theorem D_ri_sizeAround_28 : Dc M_ri_sizeAround 28 (.iconst 1) 1 29 := ⟨by decide +kernel, rfl⟩
theorem D_ri_sizeAround_29 : Dc M_ri_sizeAround 29 (.ireturn) 1 30 := ⟨by decide +kernel, rfl⟩
theorem D_ri_kindOf_0 : Dc M_ri_kindOf 0 (.aload_n 0) 1 1 := ⟨by decide +kernel, rfl⟩
theorem D_ri_kindOf_1 : Dg M_ri_kindOf 1 4 1 5 R_ri T_ri 11 := ⟨17, by decide +kernel, rfl, rfl, by decide, fl_ri_17, in_ri⟩
theorem D_ri_kindOf_4 : Dc M_ri_kindOf 4 (.iload_n 1) 1 5 := ⟨by decide +kernel, rfl⟩
theorem D_ri_kindOf_5 : Dc M_ri_kindOf 5 (.iaload) 1 6 := ⟨by decide +kernel, rfl⟩
theorem D_ri_kindOf_6 : Dj M_ri_kindOf 6 (.ifCond .le) 9 11 := ⟨5, by decide +kernel, rfl, by decide⟩
theorem D_ri_kindOf_9 : Dc M_ri_kindOf 9 (.iconst 2) 1 10 := ⟨by decide +kernel, rfl⟩
theorem D_ri_kindOf_10 : Dc M_ri_kindOf 10 (.ireturn) 1 11 := ⟨by decide +kernel, rfl⟩
theorem D_ri_kindOf_11 : Dc M_ri_kindOf 11 (.aload_n 0) 1 12 := ⟨by decide +kernel, rfl⟩
theorem D_ri_kindOf_12 : Dc M_ri_kindOf 12 (.iload_n 1) 1 13 := ⟨by decide +kernel, rfl⟩
theorem ml_ri_82 : Cond.methodLink R_ri 82 M_ri_sizeAround.1 ∈ gtb := mem_g 356 (by decide +kernel) rfl
theorem D_ri_kindOf_13 : DcV M_ri_kindOf M_ri_sizeAround 13 16 := ⟨82, by decide +kernel, rfl, ml_ri_82, by decide, by decide⟩
theorem D_ri_kindOf_16 : Dc M_ri_kindOf 16 (.iconst 1) 1 17 := ⟨by decide +kernel, rfl⟩
theorem D_ri_kindOf_17 : Dj M_ri_kindOf 17 (.if_icmp .ne) 20 24 := ⟨7, by decide +kernel, rfl, by decide⟩
theorem D_ri_kindOf_20 : Dc M_ri_kindOf 20 (.iconst 0) 1 21 := ⟨by decide +kernel, rfl⟩
theorem D_ri_kindOf_21 : Dj M_ri_kindOf 21 (.goto) 24 25 := ⟨4, by decide +kernel, rfl, by decide⟩
theorem D_ri_kindOf_24 : Dc M_ri_kindOf 24 (.iconst 1) 1 25 := ⟨by decide +kernel, rfl⟩
theorem D_ri_kindOf_25 : Dc M_ri_kindOf 25 (.ireturn) 1 26 := ⟨by decide +kernel, rfl⟩
theorem D_ri_stepsThatMatter_0 : Dc M_ri_stepsThatMatter 0 (.lload_n 2) 1 1 := ⟨by decide +kernel, rfl⟩
theorem D_ri_stepsThatMatter_1 : Dc M_ri_stepsThatMatter 1 (.aload_n 0) 1 2 := ⟨by decide +kernel, rfl⟩
theorem D_ri_stepsThatMatter_2 : Dg M_ri_stepsThatMatter 2 5 1 5 R_ri T_ri 11 := ⟨17, by decide +kernel, rfl, rfl, by decide, fl_ri_17, in_ri⟩
theorem D_ri_stepsThatMatter_5 : Dc M_ri_stepsThatMatter 5 (.iload_n 1) 1 6 := ⟨by decide +kernel, rfl⟩
theorem D_ri_stepsThatMatter_6 : Dc M_ri_stepsThatMatter 6 (.iaload) 1 7 := ⟨by decide +kernel, rfl⟩
theorem D_ri_stepsThatMatter_7 : Dc M_ri_stepsThatMatter 7 (.i2l) 1 8 := ⟨by decide +kernel, rfl⟩
theorem D_ri_stepsThatMatter_8 : Dc M_ri_stepsThatMatter 8 (.lcmp) 1 9 := ⟨by decide +kernel, rfl⟩
theorem D_ri_stepsThatMatter_9 : Dj M_ri_stepsThatMatter 9 (.ifCond .gt) 12 15 := ⟨6, by decide +kernel, rfl, by decide⟩
theorem D_ri_stepsThatMatter_12 : Dc M_ri_stepsThatMatter 12 (.lload_n 2) 1 13 := ⟨by decide +kernel, rfl⟩
theorem D_ri_stepsThatMatter_13 : Dc M_ri_stepsThatMatter 13 (.l2i) 1 14 := ⟨by decide +kernel, rfl⟩
theorem D_ri_stepsThatMatter_14 : Dc M_ri_stepsThatMatter 14 (.ireturn) 1 15 := ⟨by decide +kernel, rfl⟩
theorem D_ri_stepsThatMatter_15 : Dc M_ri_stepsThatMatter 15 (.aload_n 0) 1 16 := ⟨by decide +kernel, rfl⟩
theorem D_ri_stepsThatMatter_16 : Dg M_ri_stepsThatMatter 16 19 1 5 R_ri T_ri 11 := ⟨17, by decide +kernel, rfl, rfl, by decide, fl_ri_17, in_ri⟩
theorem D_ri_stepsThatMatter_19 : Dc M_ri_stepsThatMatter 19 (.iload_n 1) 1 20 := ⟨by decide +kernel, rfl⟩
theorem D_ri_stepsThatMatter_20 : Dc M_ri_stepsThatMatter 20 (.iaload) 1 21 := ⟨by decide +kernel, rfl⟩
theorem D_ri_stepsThatMatter_21 : Dc M_ri_stepsThatMatter 21 (.lload_n 2) 1 22 := ⟨by decide +kernel, rfl⟩
theorem D_ri_stepsThatMatter_22 : Dc M_ri_stepsThatMatter 22 (.aload_n 0) 1 23 := ⟨by decide +kernel, rfl⟩
theorem D_ri_stepsThatMatter_23 : Dg M_ri_stepsThatMatter 23 26 1 5 R_ri T_ri 11 := ⟨17, by decide +kernel, rfl, rfl, by decide, fl_ri_17, in_ri⟩
theorem D_ri_stepsThatMatter_26 : Dc M_ri_stepsThatMatter 26 (.iload_n 1) 1 27 := ⟨by decide +kernel, rfl⟩
theorem D_ri_stepsThatMatter_27 : Dc M_ri_stepsThatMatter 27 (.iaload) 1 28 := ⟨by decide +kernel, rfl⟩
theorem D_ri_stepsThatMatter_28 : Dc M_ri_stepsThatMatter 28 (.i2l) 1 29 := ⟨by decide +kernel, rfl⟩
theorem D_ri_stepsThatMatter_29 : Dc M_ri_stepsThatMatter 29 (.lsub) 1 30 := ⟨by decide +kernel, rfl⟩
theorem D_ri_stepsThatMatter_30 : Dc M_ri_stepsThatMatter 30 (.aload_n 0) 1 31 := ⟨by decide +kernel, rfl⟩
theorem D_ri_stepsThatMatter_31 : Dc M_ri_stepsThatMatter 31 (.iload_n 1) 1 32 := ⟨by decide +kernel, rfl⟩
theorem D_ri_stepsThatMatter_32 : DcV M_ri_stepsThatMatter M_ri_sizeAround 32 35 := ⟨82, by decide +kernel, rfl, ml_ri_82, by decide, by decide⟩
theorem D_ri_stepsThatMatter_35 : Dc M_ri_stepsThatMatter 35 (.i2l) 1 36 := ⟨by decide +kernel, rfl⟩
theorem D_ri_stepsThatMatter_36 : Dc M_ri_stepsThatMatter 36 (.lrem) 1 37 := ⟨by decide +kernel, rfl⟩
theorem D_ri_stepsThatMatter_37 : Dc M_ri_stepsThatMatter 37 (.l2i) 1 38 := ⟨by decide +kernel, rfl⟩
theorem D_ri_stepsThatMatter_38 : Dc M_ri_stepsThatMatter 38 (.iadd) 1 39 := ⟨by decide +kernel, rfl⟩
theorem D_ri_stepsThatMatter_39 : Dc M_ri_stepsThatMatter 39 (.ireturn) 1 40 := ⟨by decide +kernel, rfl⟩
theorem D_ri_countOnesOut_0 : Dc M_ri_countOnesOut 0 (.iconst 0) 1 1 := ⟨by decide +kernel, rfl⟩
theorem D_ri_countOnesOut_1 : Dc M_ri_countOnesOut 1 (.istore_n 3) 1 2 := ⟨by decide +kernel, rfl⟩
theorem D_ri_countOnesOut_2 : Dc M_ri_countOnesOut 2 (.aload_n 0) 1 3 := ⟨by decide +kernel, rfl⟩
theorem D_ri_countOnesOut_3 : Dg M_ri_countOnesOut 3 6 1 7 R_ri T_ri 11 := ⟨23, by decide +kernel, rfl, rfl, by decide, fl_ri_23, in_ri⟩
theorem D_ri_countOnesOut_6 : Dc M_ri_countOnesOut 6 (.iload_n 2) 1 7 := ⟨by decide +kernel, rfl⟩
theorem D_ri_countOnesOut_7 : Dc M_ri_countOnesOut 7 (.iaload) 1 8 := ⟨by decide +kernel, rfl⟩
theorem D_ri_countOnesOut_8 : Dc M_ri_countOnesOut 8 (.istore 4) 2 10 := ⟨by decide +kernel, rfl⟩
theorem D_ri_countOnesOut_10 : Dc M_ri_countOnesOut 10 (.iconst 0) 1 11 := ⟨by decide +kernel, rfl⟩
theorem D_ri_countOnesOut_11 : Dc M_ri_countOnesOut 11 (.istore 5) 2 13 := ⟨by decide +kernel, rfl⟩
theorem D_ri_countOnesOut_13 : Dc M_ri_countOnesOut 13 (.iload 5) 2 15 := ⟨by decide +kernel, rfl⟩
theorem D_ri_countOnesOut_15 : Dc M_ri_countOnesOut 15 (.aload_n 0) 1 16 := ⟨by decide +kernel, rfl⟩
theorem D_ri_countOnesOut_16 : Dg M_ri_countOnesOut 16 19 1 8 R_ri T_ri 11 := ⟨26, by decide +kernel, rfl, rfl, by decide, fl_ri_26, in_ri⟩
theorem D_ri_countOnesOut_19 : Dc M_ri_countOnesOut 19 (.iload_n 2) 1 20 := ⟨by decide +kernel, rfl⟩
theorem D_ri_countOnesOut_20 : Dc M_ri_countOnesOut 20 (.iaload) 1 21 := ⟨by decide +kernel, rfl⟩
theorem D_ri_countOnesOut_21 : Dj M_ri_countOnesOut 21 (.if_icmp .ge) 24 45 := ⟨24, by decide +kernel, rfl, by decide⟩
theorem D_ri_countOnesOut_24 : Dc M_ri_countOnesOut 24 (.iload_n 3) 1 25 := ⟨by decide +kernel, rfl⟩
theorem D_ri_countOnesOut_25 : Dc M_ri_countOnesOut 25 (.iload 4) 2 27 := ⟨by decide +kernel, rfl⟩
theorem D_ri_countOnesOut_27 : Dc M_ri_countOnesOut 27 (.iconst 1) 1 28 := ⟨by decide +kernel, rfl⟩
theorem D_ri_countOnesOut_28 : Dc M_ri_countOnesOut 28 (.iand) 1 29 := ⟨by decide +kernel, rfl⟩
theorem D_ri_countOnesOut_29 : Dc M_ri_countOnesOut 29 (.iadd) 1 30 := ⟨by decide +kernel, rfl⟩
theorem D_ri_countOnesOut_30 : Dc M_ri_countOnesOut 30 (.istore_n 3) 1 31 := ⟨by decide +kernel, rfl⟩
theorem D_ri_countOnesOut_31 : Dc M_ri_countOnesOut 31 (.aload_n 1) 1 32 := ⟨by decide +kernel, rfl⟩
theorem D_ri_countOnesOut_32 : Dc M_ri_countOnesOut 32 (.iload 4) 2 34 := ⟨by decide +kernel, rfl⟩
theorem D_ri_countOnesOut_34 : DcV M_ri_countOnesOut M_rg_next 34 37 := ⟨62, by decide +kernel, rfl, ml_ri_62, by decide, by decide⟩
theorem D_ri_countOnesOut_37 : Dc M_ri_countOnesOut 37 (.istore 4) 2 39 := ⟨by decide +kernel, rfl⟩
theorem D_ri_countOnesOut_39 : Dc M_ri_countOnesOut 39 (.iinc 5 1) 3 42 := ⟨by decide +kernel, rfl⟩
theorem D_ri_countOnesOut_42 : Dj M_ri_countOnesOut 42 (.goto) 45 13 := ⟨(-29), by decide +kernel, rfl, by decide⟩
theorem D_ri_countOnesOut_45 : Dc M_ri_countOnesOut 45 (.iload_n 3) 1 46 := ⟨by decide +kernel, rfl⟩
theorem D_ri_countOnesOut_46 : Dc M_ri_countOnesOut 46 (.ireturn) 1 47 := ⟨by decide +kernel, rfl⟩
theorem D_ri_countBehind_0 : Dc M_ri_countBehind 0 (.iconst 0) 1 1 := ⟨by decide +kernel, rfl⟩
theorem D_ri_countBehind_1 : Dc M_ri_countBehind 1 (.istore_n 3) 1 2 := ⟨by decide +kernel, rfl⟩
theorem D_ri_countBehind_2 : Dc M_ri_countBehind 2 (.iconst 0) 1 3 := ⟨by decide +kernel, rfl⟩
theorem D_ri_countBehind_3 : Dc M_ri_countBehind 3 (.istore 4) 2 5 := ⟨by decide +kernel, rfl⟩
theorem D_ri_countBehind_5 : Dc M_ri_countBehind 5 (.iload 4) 2 7 := ⟨by decide +kernel, rfl⟩
theorem D_ri_countBehind_7 : Dc M_ri_countBehind 7 (.aload_n 1) 1 8 := ⟨by decide +kernel, rfl⟩
theorem D_ri_countBehind_8 : Dg M_ri_countBehind 8 11 0 1 R_rg T_rg 5 := ⟨52, by decide +kernel, rfl, rfl, by decide, fl_ri_52, in_rg⟩
theorem D_ri_countBehind_11 : Dj M_ri_countBehind 11 (.if_icmp .ge) 14 44 := ⟨33, by decide +kernel, rfl, by decide⟩
theorem D_ri_countBehind_14 : Dc M_ri_countBehind 14 (.aload_n 0) 1 15 := ⟨by decide +kernel, rfl⟩
theorem D_ri_countBehind_15 : Dg M_ri_countBehind 15 18 1 4 R_ri T_ri 11 := ⟨11, by decide +kernel, rfl, rfl, by decide, fl_ri_11, in_ri⟩
theorem D_ri_countBehind_18 : Dc M_ri_countBehind 18 (.iload 4) 2 20 := ⟨by decide +kernel, rfl⟩
theorem D_ri_countBehind_20 : Dc M_ri_countBehind 20 (.iaload) 1 21 := ⟨by decide +kernel, rfl⟩
theorem D_ri_countBehind_21 : Dc M_ri_countBehind 21 (.iload_n 2) 1 22 := ⟨by decide +kernel, rfl⟩
theorem D_ri_countBehind_22 : Dj M_ri_countBehind 22 (.if_icmp .ne) 25 38 := ⟨16, by decide +kernel, rfl, by decide⟩
theorem D_ri_countBehind_25 : Dc M_ri_countBehind 25 (.aload_n 0) 1 26 := ⟨by decide +kernel, rfl⟩
theorem D_ri_countBehind_26 : Dg M_ri_countBehind 26 29 1 5 R_ri T_ri 11 := ⟨17, by decide +kernel, rfl, rfl, by decide, fl_ri_17, in_ri⟩
theorem D_ri_countBehind_29 : Dc M_ri_countBehind 29 (.iload 4) 2 31 := ⟨by decide +kernel, rfl⟩
theorem D_ri_countBehind_31 : Dc M_ri_countBehind 31 (.iaload) 1 32 := ⟨by decide +kernel, rfl⟩
theorem D_ri_countBehind_32 : Dj M_ri_countBehind 32 (.ifCond .le) 35 38 := ⟨6, by decide +kernel, rfl, by decide⟩
theorem D_ri_countBehind_35 : Dc M_ri_countBehind 35 (.iinc 3 1) 3 38 := ⟨by decide +kernel, rfl⟩
theorem D_ri_countBehind_38 : Dc M_ri_countBehind 38 (.iinc 4 1) 3 41 := ⟨by decide +kernel, rfl⟩
theorem D_ri_countBehind_41 : Dj M_ri_countBehind 41 (.goto) 44 5 := ⟨(-36), by decide +kernel, rfl, by decide⟩
theorem D_ri_countBehind_44 : Dc M_ri_countBehind 44 (.iload_n 3) 1 45 := ⟨by decide +kernel, rfl⟩
theorem D_ri_countBehind_45 : Dc M_ri_countBehind 45 (.ireturn) 1 46 := ⟨by decide +kernel, rfl⟩
theorem D_ri_likeness_0 : Dc M_ri_likeness 0 (.aload_n 0) 1 1 := ⟨by decide +kernel, rfl⟩
theorem D_ri_likeness_1 : Dg M_ri_likeness 1 4 1 7 R_ri T_ri 11 := ⟨23, by decide +kernel, rfl, rfl, by decide, fl_ri_23, in_ri⟩
theorem D_ri_likeness_4 : Dc M_ri_likeness 4 (.iload_n 2) 1 5 := ⟨by decide +kernel, rfl⟩
theorem D_ri_likeness_5 : Dc M_ri_likeness 5 (.iaload) 1 6 := ⟨by decide +kernel, rfl⟩
theorem D_ri_likeness_6 : Dc M_ri_likeness 6 (.istore 4) 2 8 := ⟨by decide +kernel, rfl⟩
theorem D_ri_likeness_8 : Dc M_ri_likeness 8 (.aload_n 1) 1 9 := ⟨by decide +kernel, rfl⟩
theorem D_ri_likeness_9 : Dc M_ri_likeness 9 (.iload 4) 2 11 := ⟨by decide +kernel, rfl⟩
theorem D_ri_likeness_11 : Dc M_ri_likeness 11 (.iload_n 3) 1 12 := ⟨by decide +kernel, rfl⟩
theorem D_ri_likeness_12 : Dc M_ri_likeness 12 (.aload_n 0) 1 13 := ⟨by decide +kernel, rfl⟩
theorem D_ri_likeness_13 : Dc M_ri_likeness 13 (.iload 4) 2 15 := ⟨by decide +kernel, rfl⟩
theorem D_ri_likeness_15 : DcV M_ri_likeness M_ri_sizeAround 15 18 := ⟨82, by decide +kernel, rfl, ml_ri_82, by decide, by decide⟩
theorem D_ri_likeness_18 : Dc M_ri_likeness 18 (.irem) 1 19 := ⟨by decide +kernel, rfl⟩
theorem ml_ri_85 : Cond.methodLink R_ri 85 M_rg_walk.1 ∈ gtb := mem_g 609 (by decide +kernel) rfl
theorem D_ri_likeness_19 : DcV M_ri_likeness M_rg_walk 19 22 := ⟨85, by decide +kernel, rfl, ml_ri_85, by decide, by decide⟩
theorem D_ri_likeness_22 : Dc M_ri_likeness 22 (.istore 5) 2 24 := ⟨by decide +kernel, rfl⟩
theorem D_ri_likeness_24 : Dc M_ri_likeness 24 (.iconst 0) 1 25 := ⟨by decide +kernel, rfl⟩
theorem D_ri_likeness_25 : Dc M_ri_likeness 25 (.istore 6) 2 27 := ⟨by decide +kernel, rfl⟩
theorem D_ri_likeness_27 : Dc M_ri_likeness 27 (.iconst 0) 1 28 := ⟨by decide +kernel, rfl⟩
theorem D_ri_likeness_28 : Dc M_ri_likeness 28 (.istore 7) 2 30 := ⟨by decide +kernel, rfl⟩
theorem D_ri_likeness_30 : Dc M_ri_likeness 30 (.iload 7) 2 32 := ⟨by decide +kernel, rfl⟩
theorem D_ri_likeness_32 : Dc M_ri_likeness 32 (.aload_n 0) 1 33 := ⟨by decide +kernel, rfl⟩
theorem D_ri_likeness_33 : Dg M_ri_likeness 33 36 1 8 R_ri T_ri 11 := ⟨26, by decide +kernel, rfl, rfl, by decide, fl_ri_26, in_ri⟩
theorem D_ri_likeness_36 : Dc M_ri_likeness 36 (.iload_n 2) 1 37 := ⟨by decide +kernel, rfl⟩
theorem D_ri_likeness_37 : Dc M_ri_likeness 37 (.iaload) 1 38 := ⟨by decide +kernel, rfl⟩
theorem D_ri_likeness_38 : Dj M_ri_likeness 38 (.if_icmp .ge) 41 84 := ⟨46, by decide +kernel, rfl, by decide⟩
theorem D_ri_likeness_41 : Dc M_ri_likeness 41 (.iload 6) 2 43 := ⟨by decide +kernel, rfl⟩
theorem D_ri_likeness_43 : Dc M_ri_likeness 43 (.iload 4) 2 45 := ⟨by decide +kernel, rfl⟩
theorem D_ri_likeness_45 : Dc M_ri_likeness 45 (.iconst 1) 1 46 := ⟨by decide +kernel, rfl⟩
theorem D_ri_likeness_46 : Dc M_ri_likeness 46 (.iand) 1 47 := ⟨by decide +kernel, rfl⟩
theorem D_ri_likeness_47 : Dc M_ri_likeness 47 (.iload 5) 2 49 := ⟨by decide +kernel, rfl⟩
theorem D_ri_likeness_49 : Dc M_ri_likeness 49 (.iconst 1) 1 50 := ⟨by decide +kernel, rfl⟩
theorem D_ri_likeness_50 : Dc M_ri_likeness 50 (.iand) 1 51 := ⟨by decide +kernel, rfl⟩
theorem D_ri_likeness_51 : Dj M_ri_likeness 51 (.if_icmp .ne) 54 58 := ⟨7, by decide +kernel, rfl, by decide⟩
theorem D_ri_likeness_54 : Dc M_ri_likeness 54 (.iconst 1) 1 55 := ⟨by decide +kernel, rfl⟩
theorem D_ri_likeness_55 : Dj M_ri_likeness 55 (.goto) 58 59 := ⟨4, by decide +kernel, rfl, by decide⟩
theorem D_ri_likeness_58 : Dc M_ri_likeness 58 (.iconst (-1)) 1 59 := ⟨by decide +kernel, rfl⟩
theorem D_ri_likeness_59 : Dc M_ri_likeness 59 (.iadd) 1 60 := ⟨by decide +kernel, rfl⟩
theorem D_ri_likeness_60 : Dc M_ri_likeness 60 (.istore 6) 2 62 := ⟨by decide +kernel, rfl⟩
theorem D_ri_likeness_62 : Dc M_ri_likeness 62 (.aload_n 1) 1 63 := ⟨by decide +kernel, rfl⟩
theorem D_ri_likeness_63 : Dc M_ri_likeness 63 (.iload 4) 2 65 := ⟨by decide +kernel, rfl⟩
theorem D_ri_likeness_65 : DcV M_ri_likeness M_rg_next 65 68 := ⟨62, by decide +kernel, rfl, ml_ri_62, by decide, by decide⟩
theorem D_ri_likeness_68 : Dc M_ri_likeness 68 (.istore 4) 2 70 := ⟨by decide +kernel, rfl⟩
theorem D_ri_likeness_70 : Dc M_ri_likeness 70 (.aload_n 1) 1 71 := ⟨by decide +kernel, rfl⟩
theorem D_ri_likeness_71 : Dc M_ri_likeness 71 (.iload 5) 2 73 := ⟨by decide +kernel, rfl⟩
theorem D_ri_likeness_73 : DcV M_ri_likeness M_rg_next 73 76 := ⟨62, by decide +kernel, rfl, ml_ri_62, by decide, by decide⟩
theorem D_ri_likeness_76 : Dc M_ri_likeness 76 (.istore 5) 2 78 := ⟨by decide +kernel, rfl⟩
theorem D_ri_likeness_78 : Dc M_ri_likeness 78 (.iinc 7 1) 3 81 := ⟨by decide +kernel, rfl⟩
theorem D_ri_likeness_81 : Dj M_ri_likeness 81 (.goto) 84 30 := ⟨(-51), by decide +kernel, rfl, by decide⟩
theorem D_ri_likeness_84 : Dc M_ri_likeness 84 (.iload 6) 2 86 := ⟨by decide +kernel, rfl⟩
theorem D_ri_likeness_86 : Dc M_ri_likeness 86 (.ireturn) 1 87 := ⟨by decide +kernel, rfl⟩
theorem D_ri_joinAll_0 : Dc M_ri_joinAll 0 (.aload_n 0) 1 1 := ⟨by decide +kernel, rfl⟩
theorem D_ri_joinAll_1 : Dg M_ri_joinAll 1 4 1 0 R_ri T_ri 11 := ⟨35, by decide +kernel, rfl, rfl, by decide, fl_ri_35, in_ri⟩
theorem D_ri_joinAll_4 : Dc M_ri_joinAll 4 (.newarray .int) 2 6 := ⟨by decide +kernel, rfl⟩
theorem D_ri_joinAll_6 : Dc M_ri_joinAll 6 (.astore_n 2) 1 7 := ⟨by decide +kernel, rfl⟩
theorem D_ri_joinAll_7 : Dc M_ri_joinAll 7 (.iconst 0) 1 8 := ⟨by decide +kernel, rfl⟩
theorem D_ri_joinAll_8 : Dc M_ri_joinAll 8 (.istore_n 3) 1 9 := ⟨by decide +kernel, rfl⟩
theorem D_ri_joinAll_9 : Dc M_ri_joinAll 9 (.iload_n 3) 1 10 := ⟨by decide +kernel, rfl⟩
theorem D_ri_joinAll_10 : Dc M_ri_joinAll 10 (.aload_n 0) 1 11 := ⟨by decide +kernel, rfl⟩
theorem D_ri_joinAll_11 : Dg M_ri_joinAll 11 14 1 0 R_ri T_ri 11 := ⟨35, by decide +kernel, rfl, rfl, by decide, fl_ri_35, in_ri⟩
theorem D_ri_joinAll_14 : Dj M_ri_joinAll 14 (.if_icmp .ge) 17 27 := ⟨13, by decide +kernel, rfl, by decide⟩
theorem D_ri_joinAll_17 : Dc M_ri_joinAll 17 (.aload_n 2) 1 18 := ⟨by decide +kernel, rfl⟩
theorem D_ri_joinAll_18 : Dc M_ri_joinAll 18 (.iload_n 3) 1 19 := ⟨by decide +kernel, rfl⟩
theorem D_ri_joinAll_19 : Dc M_ri_joinAll 19 (.iload_n 3) 1 20 := ⟨by decide +kernel, rfl⟩
theorem D_ri_joinAll_20 : Dc M_ri_joinAll 20 (.iastore) 1 21 := ⟨by decide +kernel, rfl⟩
theorem D_ri_joinAll_21 : Dc M_ri_joinAll 21 (.iinc 3 1) 3 24 := ⟨by decide +kernel, rfl⟩
theorem D_ri_joinAll_24 : Dj M_ri_joinAll 24 (.goto) 27 9 := ⟨(-15), by decide +kernel, rfl, by decide⟩
theorem D_ri_joinAll_27 : Dc M_ri_joinAll 27 (.iconst 0) 1 28 := ⟨by decide +kernel, rfl⟩
theorem D_ri_joinAll_28 : Dc M_ri_joinAll 28 (.istore_n 3) 1 29 := ⟨by decide +kernel, rfl⟩
theorem D_ri_joinAll_29 : Dc M_ri_joinAll 29 (.iconst 0) 1 30 := ⟨by decide +kernel, rfl⟩
theorem D_ri_joinAll_30 : Dc M_ri_joinAll 30 (.istore 4) 2 32 := ⟨by decide +kernel, rfl⟩
theorem D_ri_joinAll_32 : Dc M_ri_joinAll 32 (.iload 4) 2 34 := ⟨by decide +kernel, rfl⟩
theorem D_ri_joinAll_34 : Dc M_ri_joinAll 34 (.aload_n 1) 1 35 := ⟨by decide +kernel, rfl⟩
theorem D_ri_joinAll_35 : Dg M_ri_joinAll 35 38 0 1 R_rg T_rg 5 := ⟨52, by decide +kernel, rfl, rfl, by decide, fl_ri_52, in_rg⟩
theorem D_ri_joinAll_38 : Dc M_ri_joinAll 38 (.iconst 2) 1 39 := ⟨by decide +kernel, rfl⟩
theorem D_ri_joinAll_39 : Dc M_ri_joinAll 39 (.idiv) 1 40 := ⟨by decide +kernel, rfl⟩
theorem D_ri_joinAll_40 : Dj M_ri_joinAll 40 (.if_icmp .ge) 43 101 := ⟨61, by decide +kernel, rfl, by decide⟩
theorem D_ri_joinAll_43 : Dc M_ri_joinAll 43 (.aload_n 2) 1 44 := ⟨by decide +kernel, rfl⟩
theorem D_ri_joinAll_44 : Dc M_ri_joinAll 44 (.aload_n 0) 1 45 := ⟨by decide +kernel, rfl⟩
theorem D_ri_joinAll_45 : Dg M_ri_joinAll 45 48 1 4 R_ri T_ri 11 := ⟨11, by decide +kernel, rfl, rfl, by decide, fl_ri_11, in_ri⟩
theorem D_ri_joinAll_48 : Dc M_ri_joinAll 48 (.iconst 2) 1 49 := ⟨by decide +kernel, rfl⟩
theorem D_ri_joinAll_49 : Dc M_ri_joinAll 49 (.iload 4) 2 51 := ⟨by decide +kernel, rfl⟩
theorem D_ri_joinAll_51 : Dc M_ri_joinAll 51 (.imul) 1 52 := ⟨by decide +kernel, rfl⟩
theorem D_ri_joinAll_52 : Dc M_ri_joinAll 52 (.iaload) 1 53 := ⟨by decide +kernel, rfl⟩
theorem D_ri_joinAll_53 : Dc M_ri_joinAll 53 (.iaload) 1 54 := ⟨by decide +kernel, rfl⟩
theorem D_ri_joinAll_54 : Dc M_ri_joinAll 54 (.istore 5) 2 56 := ⟨by decide +kernel, rfl⟩
theorem D_ri_joinAll_56 : Dc M_ri_joinAll 56 (.aload_n 2) 1 57 := ⟨by decide +kernel, rfl⟩
theorem D_ri_joinAll_57 : Dc M_ri_joinAll 57 (.aload_n 0) 1 58 := ⟨by decide +kernel, rfl⟩
theorem D_ri_joinAll_58 : Dg M_ri_joinAll 58 61 1 4 R_ri T_ri 11 := ⟨11, by decide +kernel, rfl, rfl, by decide, fl_ri_11, in_ri⟩
theorem D_ri_joinAll_61 : Dc M_ri_joinAll 61 (.iconst 2) 1 62 := ⟨by decide +kernel, rfl⟩
theorem D_ri_joinAll_62 : Dc M_ri_joinAll 62 (.iload 4) 2 64 := ⟨by decide +kernel, rfl⟩
theorem D_ri_joinAll_64 : Dc M_ri_joinAll 64 (.imul) 1 65 := ⟨by decide +kernel, rfl⟩
theorem D_ri_joinAll_65 : Dc M_ri_joinAll 65 (.iconst 1) 1 66 := ⟨by decide +kernel, rfl⟩
theorem D_ri_joinAll_66 : Dc M_ri_joinAll 66 (.iadd) 1 67 := ⟨by decide +kernel, rfl⟩
theorem D_ri_joinAll_67 : Dc M_ri_joinAll 67 (.iaload) 1 68 := ⟨by decide +kernel, rfl⟩
theorem D_ri_joinAll_68 : Dc M_ri_joinAll 68 (.iaload) 1 69 := ⟨by decide +kernel, rfl⟩
theorem D_ri_joinAll_69 : Dc M_ri_joinAll 69 (.istore 6) 2 71 := ⟨by decide +kernel, rfl⟩
theorem D_ri_joinAll_71 : Dc M_ri_joinAll 71 (.iload 5) 2 73 := ⟨by decide +kernel, rfl⟩
theorem D_ri_joinAll_73 : Dc M_ri_joinAll 73 (.iload 6) 2 75 := ⟨by decide +kernel, rfl⟩
theorem D_ri_joinAll_75 : Dj M_ri_joinAll 75 (.if_icmp .eq) 78 95 := ⟨20, by decide +kernel, rfl, by decide⟩
theorem D_ri_joinAll_78 : Dc M_ri_joinAll 78 (.aload_n 1) 1 79 := ⟨by decide +kernel, rfl⟩
theorem D_ri_joinAll_79 : Dc M_ri_joinAll 79 (.iload 4) 2 81 := ⟨by decide +kernel, rfl⟩
theorem ml_ri_88 : Cond.methodLink R_ri 88 M_rg_turnPair.1 ∈ gtb := mem_g 417 (by decide +kernel) rfl
theorem D_ri_joinAll_81 : DcV M_ri_joinAll M_rg_turnPair 81 84 := ⟨88, by decide +kernel, rfl, ml_ri_88, by decide, by decide⟩
theorem D_ri_joinAll_84 : Dc M_ri_joinAll 84 (.aload_n 2) 1 85 := ⟨by decide +kernel, rfl⟩
theorem D_ri_joinAll_85 : Dc M_ri_joinAll 85 (.iload 6) 2 87 := ⟨by decide +kernel, rfl⟩
theorem D_ri_joinAll_87 : Dc M_ri_joinAll 87 (.iload 5) 2 89 := ⟨by decide +kernel, rfl⟩
theorem ml_ri_92 : Cond.methodLink R_ri 92 M_ri_regroup.1 ∈ gtb := mem_g 418 (by decide +kernel) rfl
theorem D_ri_joinAll_89 : DcS M_ri_joinAll M_ri_regroup 89 92 := ⟨92, by decide +kernel, rfl, ml_ri_92, by decide, by decide⟩
theorem D_ri_joinAll_92 : Dc M_ri_joinAll 92 (.iinc 3 1) 3 95 := ⟨by decide +kernel, rfl⟩
theorem D_ri_joinAll_95 : Dc M_ri_joinAll 95 (.iinc 4 1) 3 98 := ⟨by decide +kernel, rfl⟩
theorem D_ri_joinAll_98 : Dj M_ri_joinAll 98 (.goto) 101 32 := ⟨(-66), by decide +kernel, rfl, by decide⟩
theorem D_ri_joinAll_101 : Dc M_ri_joinAll 101 (.iload_n 3) 1 102 := ⟨by decide +kernel, rfl⟩
theorem D_ri_joinAll_102 : Dc M_ri_joinAll 102 (.ireturn) 1 103 := ⟨by decide +kernel, rfl⟩
theorem D_ri_regroup_0 : Dc M_ri_regroup 0 (.iconst 0) 1 1 := ⟨by decide +kernel, rfl⟩
theorem D_ri_regroup_1 : Dc M_ri_regroup 1 (.istore_n 3) 1 2 := ⟨by decide +kernel, rfl⟩
theorem D_ri_regroup_2 : Dc M_ri_regroup 2 (.iload_n 3) 1 3 := ⟨by decide +kernel, rfl⟩
theorem D_ri_regroup_3 : Dc M_ri_regroup 3 (.aload_n 0) 1 4 := ⟨by decide +kernel, rfl⟩
theorem D_ri_regroup_4 : Dc M_ri_regroup 4 (.arraylength) 1 5 := ⟨by decide +kernel, rfl⟩
theorem D_ri_regroup_5 : Dj M_ri_regroup 5 (.if_icmp .ge) 8 25 := ⟨20, by decide +kernel, rfl, by decide⟩
theorem D_ri_regroup_8 : Dc M_ri_regroup 8 (.aload_n 0) 1 9 := ⟨by decide +kernel, rfl⟩
theorem D_ri_regroup_9 : Dc M_ri_regroup 9 (.iload_n 3) 1 10 := ⟨by decide +kernel, rfl⟩
theorem D_ri_regroup_10 : Dc M_ri_regroup 10 (.iaload) 1 11 := ⟨by decide +kernel, rfl⟩
theorem D_ri_regroup_11 : Dc M_ri_regroup 11 (.iload_n 1) 1 12 := ⟨by decide +kernel, rfl⟩
theorem D_ri_regroup_12 : Dj M_ri_regroup 12 (.if_icmp .ne) 15 19 := ⟨7, by decide +kernel, rfl, by decide⟩
theorem D_ri_regroup_15 : Dc M_ri_regroup 15 (.aload_n 0) 1 16 := ⟨by decide +kernel, rfl⟩
theorem D_ri_regroup_16 : Dc M_ri_regroup 16 (.iload_n 3) 1 17 := ⟨by decide +kernel, rfl⟩
theorem D_ri_regroup_17 : Dc M_ri_regroup 17 (.iload_n 2) 1 18 := ⟨by decide +kernel, rfl⟩
theorem D_ri_regroup_18 : Dc M_ri_regroup 18 (.iastore) 1 19 := ⟨by decide +kernel, rfl⟩
theorem D_ri_regroup_19 : Dc M_ri_regroup 19 (.iinc 3 1) 3 22 := ⟨by decide +kernel, rfl⟩
theorem D_ri_regroup_22 : Dj M_ri_regroup 22 (.goto) 25 2 := ⟨(-20), by decide +kernel, rfl, by decide⟩
theorem D_ri_regroup_25 : Dc M_ri_regroup 25 (.return_) 1 26 := ⟨by decide +kernel, rfl⟩
end
section
theorem D_rr_init_0 : Dc M_rr_init 0 (.aload_n 0) 1 1 := ⟨by decide +kernel, rfl⟩
theorem D_rr_init_1 : Do M_rr_init 1 4 := ⟨3, by decide +kernel, rfl, by decide +kernel, by decide +kernel, by decide +kernel, by decide, by decide⟩
theorem D_rr_init_4 : Dc M_rr_init 4 (.aload_n 0) 1 5 := ⟨by decide +kernel, rfl⟩
theorem D_rr_init_5 : Dc M_rr_init 5 (.bipush 10) 2 7 := ⟨by decide +kernel, rfl⟩
theorem D_rr_init_7 : Dc M_rr_init 7 (.newarray .long) 2 9 := ⟨by decide +kernel, rfl⟩
theorem fl_rr_11 : Cond.fieldLink R_rr 11 (T_rr 0).1 (T_rr 0).2.1 (T_rr 0).2.2.1 ∈ gtb := mem_g 181 (by decide +kernel) rfl
theorem D_rr_init_9 : Df M_rr_init 9 12 2 0 R_rr T_rr 6 := ⟨11, by decide +kernel, rfl, rfl, by decide, fl_rr_11, in_rr, rfl⟩
theorem D_rr_init_12 : Dc M_rr_init 12 (.aload_n 0) 1 13 := ⟨by decide +kernel, rfl⟩
theorem D_rr_init_13 : Dc M_rr_init 13 (.bipush 10) 2 15 := ⟨by decide +kernel, rfl⟩
theorem D_rr_init_15 : Dc M_rr_init 15 (.newarray .long) 2 17 := ⟨by decide +kernel, rfl⟩
theorem fl_rr_15 : Cond.fieldLink R_rr 15 (T_rr 1).1 (T_rr 1).2.1 (T_rr 1).2.2.1 ∈ gtb := mem_g 182 (by decide +kernel) rfl
theorem D_rr_init_17 : Df M_rr_init 17 20 2 1 R_rr T_rr 6 := ⟨15, by decide +kernel, rfl, rfl, by decide, fl_rr_15, in_rr, rfl⟩
theorem D_rr_init_20 : Dc M_rr_init 20 (.aload_n 0) 1 21 := ⟨by decide +kernel, rfl⟩
theorem D_rr_init_21 : Dc M_rr_init 21 (.bipush 10) 2 23 := ⟨by decide +kernel, rfl⟩
theorem D_rr_init_23 : Dc M_rr_init 23 (.newarray .long) 2 25 := ⟨by decide +kernel, rfl⟩
theorem fl_rr_18 : Cond.fieldLink R_rr 18 (T_rr 2).1 (T_rr 2).2.1 (T_rr 2).2.2.1 ∈ gtb := mem_g 183 (by decide +kernel) rfl
theorem D_rr_init_25 : Df M_rr_init 25 28 2 2 R_rr T_rr 6 := ⟨18, by decide +kernel, rfl, rfl, by decide, fl_rr_18, in_rr, rfl⟩
theorem D_rr_init_28 : Dc M_rr_init 28 (.aload_n 0) 1 29 := ⟨by decide +kernel, rfl⟩
theorem D_rr_init_29 : Dc M_rr_init 29 (.sipush 600) 3 32 := ⟨by decide +kernel, rfl⟩
theorem D_rr_init_32 : Dc M_rr_init 32 (.newarray .int) 2 34 := ⟨by decide +kernel, rfl⟩
theorem fl_rr_23 : Cond.fieldLink R_rr 23 (T_rr 3).1 (T_rr 3).2.1 (T_rr 3).2.2.1 ∈ gtb := mem_g 184 (by decide +kernel) rfl
theorem D_rr_init_34 : Df M_rr_init 34 37 2 3 R_rr T_rr 6 := ⟨23, by decide +kernel, rfl, rfl, by decide, fl_rr_23, in_rr, rfl⟩
theorem D_rr_init_37 : Dc M_rr_init 37 (.aload_n 0) 1 38 := ⟨by decide +kernel, rfl⟩
theorem D_rr_init_38 : Dc M_rr_init 38 (.sipush 1200) 3 41 := ⟨by decide +kernel, rfl⟩
theorem D_rr_init_41 : Dc M_rr_init 41 (.newarray .int) 2 43 := ⟨by decide +kernel, rfl⟩
theorem fl_rr_27 : Cond.fieldLink R_rr 27 (T_rr 4).1 (T_rr 4).2.1 (T_rr 4).2.2.1 ∈ gtb := mem_g 185 (by decide +kernel) rfl
theorem D_rr_init_43 : Df M_rr_init 43 46 2 4 R_rr T_rr 6 := ⟨27, by decide +kernel, rfl, rfl, by decide, fl_rr_27, in_rr, rfl⟩
theorem D_rr_init_46 : Dc M_rr_init 46 (.return_) 1 47 := ⟨by decide +kernel, rfl⟩
theorem D_rr_linearOrder_0 : Dc M_rr_linearOrder 0 (.aload_n 0) 1 1 := ⟨by decide +kernel, rfl⟩
theorem D_rr_linearOrder_1 : Dg M_rr_linearOrder 1 4 2 0 R_rr T_rr 6 := ⟨11, by decide +kernel, rfl, rfl, by decide, fl_rr_11, in_rr⟩
theorem D_rr_linearOrder_4 : Dc M_rr_linearOrder 4 (.lconst 0) 1 5 := ⟨by decide +kernel, rfl⟩
theorem ml_rr_30 : Cond.methodLink R_rr 30 M_ja_fillJ.1 ∈ gtb := mem_g 545 (by decide +kernel) rfl
theorem D_rr_linearOrder_5 : DcS M_rr_linearOrder M_ja_fillJ 5 8 := ⟨30, by decide +kernel, rfl, ml_rr_30, by decide, by decide⟩
theorem D_rr_linearOrder_8 : Dc M_rr_linearOrder 8 (.aload_n 0) 1 9 := ⟨by decide +kernel, rfl⟩
theorem D_rr_linearOrder_9 : Dg M_rr_linearOrder 9 12 2 1 R_rr T_rr 6 := ⟨15, by decide +kernel, rfl, rfl, by decide, fl_rr_15, in_rr⟩
theorem D_rr_linearOrder_12 : Dc M_rr_linearOrder 12 (.lconst 0) 1 13 := ⟨by decide +kernel, rfl⟩
theorem D_rr_linearOrder_13 : DcS M_rr_linearOrder M_ja_fillJ 13 16 := ⟨30, by decide +kernel, rfl, ml_rr_30, by decide, by decide⟩
theorem D_rr_linearOrder_16 : Dc M_rr_linearOrder 16 (.aload_n 0) 1 17 := ⟨by decide +kernel, rfl⟩
theorem D_rr_linearOrder_17 : Dg M_rr_linearOrder 17 20 2 2 R_rr T_rr 6 := ⟨18, by decide +kernel, rfl, rfl, by decide, fl_rr_18, in_rr⟩
theorem D_rr_linearOrder_20 : Dc M_rr_linearOrder 20 (.lconst 0) 1 21 := ⟨by decide +kernel, rfl⟩
theorem D_rr_linearOrder_21 : DcS M_rr_linearOrder M_ja_fillJ 21 24 := ⟨30, by decide +kernel, rfl, ml_rr_30, by decide, by decide⟩
theorem D_rr_linearOrder_24 : Dc M_rr_linearOrder 24 (.aload_n 0) 1 25 := ⟨by decide +kernel, rfl⟩
theorem D_rr_linearOrder_25 : Dg M_rr_linearOrder 25 28 2 0 R_rr T_rr 6 := ⟨11, by decide +kernel, rfl, rfl, by decide, fl_rr_11, in_rr⟩
theorem D_rr_linearOrder_28 : Dc M_rr_linearOrder 28 (.iconst 0) 1 29 := ⟨by decide +kernel, rfl⟩
theorem D_rr_linearOrder_29 : Dc M_rr_linearOrder 29 (.lconst 1) 1 30 := ⟨by decide +kernel, rfl⟩
theorem D_rr_linearOrder_30 : Dc M_rr_linearOrder 30 (.lastore) 1 31 := ⟨by decide +kernel, rfl⟩
theorem D_rr_linearOrder_31 : Dc M_rr_linearOrder 31 (.aload_n 0) 1 32 := ⟨by decide +kernel, rfl⟩
theorem D_rr_linearOrder_32 : Dg M_rr_linearOrder 32 35 2 1 R_rr T_rr 6 := ⟨15, by decide +kernel, rfl, rfl, by decide, fl_rr_15, in_rr⟩
theorem D_rr_linearOrder_35 : Dc M_rr_linearOrder 35 (.iconst 0) 1 36 := ⟨by decide +kernel, rfl⟩
theorem D_rr_linearOrder_36 : Dc M_rr_linearOrder 36 (.lconst 1) 1 37 := ⟨by decide +kernel, rfl⟩
theorem D_rr_linearOrder_37 : Dc M_rr_linearOrder 37 (.lastore) 1 38 := ⟨by decide +kernel, rfl⟩
theorem D_rr_linearOrder_38 : Dc M_rr_linearOrder 38 (.iconst 0) 1 39 := ⟨by decide +kernel, rfl⟩
theorem D_rr_linearOrder_39 : Dc M_rr_linearOrder 39 (.istore_n 3) 1 40 := ⟨by decide +kernel, rfl⟩
theorem D_rr_linearOrder_40 : Dc M_rr_linearOrder 40 (.iconst 0) 1 41 := ⟨by decide +kernel, rfl⟩
theorem D_rr_linearOrder_41 : Dc M_rr_linearOrder 41 (.istore 4) 2 43 := ⟨by decide +kernel, rfl⟩
theorem D_rr_linearOrder_43 : Dc M_rr_linearOrder 43 (.iload 4) 2 45 := ⟨by decide +kernel, rfl⟩
theorem D_rr_linearOrder_45 : Dc M_rr_linearOrder 45 (.iload_n 2) 1 46 := ⟨by decide +kernel, rfl⟩
theorem D_rr_linearOrder_46 : Dj M_rr_linearOrder 46 (.if_icmp .ge) 49 121 := ⟨75, by decide +kernel, rfl, by decide⟩
theorem D_rr_linearOrder_49 : Dc M_rr_linearOrder 49 (.aload_n 0) 1 50 := ⟨by decide +kernel, rfl⟩
theorem D_rr_linearOrder_50 : Dg M_rr_linearOrder 50 53 2 1 R_rr T_rr 6 := ⟨15, by decide +kernel, rfl, rfl, by decide, fl_rr_15, in_rr⟩
theorem D_rr_linearOrder_53 : Dc M_rr_linearOrder 53 (.lconst 0) 1 54 := ⟨by decide +kernel, rfl⟩
theorem ml_rr_36 : Cond.methodLink R_rr 36 M_rr_shiftIn.1 ∈ gtb := mem_g 546 (by decide +kernel) rfl
theorem D_rr_linearOrder_54 : DcS M_rr_linearOrder M_rr_shiftIn 54 57 := ⟨36, by decide +kernel, rfl, ml_rr_36, by decide, by decide⟩
theorem D_rr_linearOrder_57 : Dc M_rr_linearOrder 57 (.aload_n 0) 1 58 := ⟨by decide +kernel, rfl⟩
theorem D_rr_linearOrder_58 : Dg M_rr_linearOrder 58 61 2 2 R_rr T_rr 6 := ⟨18, by decide +kernel, rfl, rfl, by decide, fl_rr_18, in_rr⟩
theorem D_rr_linearOrder_61 : Dc M_rr_linearOrder 61 (.aload_n 1) 1 62 := ⟨by decide +kernel, rfl⟩
theorem D_rr_linearOrder_62 : Dc M_rr_linearOrder 62 (.iload 4) 2 64 := ⟨by decide +kernel, rfl⟩
theorem ml_rr_39 : Cond.methodLink R_rr 39 M_sh_bitAt.1 ∈ gtb := mem_g 549 (by decide +kernel) rfl
theorem D_rr_linearOrder_64 : DcV M_rr_linearOrder M_sh_bitAt 64 67 := ⟨39, by decide +kernel, rfl, ml_rr_39, by decide, by decide⟩
theorem D_rr_linearOrder_67 : Dc M_rr_linearOrder 67 (.i2l) 1 68 := ⟨by decide +kernel, rfl⟩
theorem D_rr_linearOrder_68 : DcS M_rr_linearOrder M_rr_shiftIn 68 71 := ⟨36, by decide +kernel, rfl, ml_rr_36, by decide, by decide⟩
theorem D_rr_linearOrder_71 : Dc M_rr_linearOrder 71 (.aload_n 0) 1 72 := ⟨by decide +kernel, rfl⟩
theorem ml_rr_43 : Cond.methodLink R_rr 43 M_rr_ruleFails.1 ∈ gtb := mem_g 550 (by decide +kernel) rfl
theorem D_rr_linearOrder_72 : DcV M_rr_linearOrder M_rr_ruleFails 72 75 := ⟨43, by decide +kernel, rfl, ml_rr_43, by decide, by decide⟩
theorem D_rr_linearOrder_75 : Dj M_rr_linearOrder 75 (.ifCond .eq) 78 115 := ⟨40, by decide +kernel, rfl, by decide⟩
theorem D_rr_linearOrder_78 : Dc M_rr_linearOrder 78 (.iconst 2) 1 79 := ⟨by decide +kernel, rfl⟩
theorem D_rr_linearOrder_79 : Dc M_rr_linearOrder 79 (.iload_n 3) 1 80 := ⟨by decide +kernel, rfl⟩
theorem D_rr_linearOrder_80 : Dc M_rr_linearOrder 80 (.imul) 1 81 := ⟨by decide +kernel, rfl⟩
theorem D_rr_linearOrder_81 : Dc M_rr_linearOrder 81 (.iload 4) 2 83 := ⟨by decide +kernel, rfl⟩
theorem D_rr_linearOrder_83 : Dj M_rr_linearOrder 83 (.if_icmp .gt) 86 90 := ⟨7, by decide +kernel, rfl, by decide⟩
theorem D_rr_linearOrder_86 : Dc M_rr_linearOrder 86 (.iconst 1) 1 87 := ⟨by decide +kernel, rfl⟩
theorem D_rr_linearOrder_87 : Dj M_rr_linearOrder 87 (.goto) 90 91 := ⟨4, by decide +kernel, rfl, by decide⟩
theorem D_rr_linearOrder_90 : Dc M_rr_linearOrder 90 (.iconst 0) 1 91 := ⟨by decide +kernel, rfl⟩
theorem D_rr_linearOrder_91 : Dc M_rr_linearOrder 91 (.istore 5) 2 93 := ⟨by decide +kernel, rfl⟩
theorem D_rr_linearOrder_93 : Dc M_rr_linearOrder 93 (.aload_n 0) 1 94 := ⟨by decide +kernel, rfl⟩
theorem D_rr_linearOrder_94 : Dc M_rr_linearOrder 94 (.iload 5) 2 96 := ⟨by decide +kernel, rfl⟩
theorem ml_rr_47 : Cond.methodLink R_rr 47 M_rr_correctRule.1 ∈ gtb := mem_g 560 (by decide +kernel) rfl
theorem D_rr_linearOrder_96 : DcV M_rr_linearOrder M_rr_correctRule 96 99 := ⟨47, by decide +kernel, rfl, ml_rr_47, by decide, by decide⟩
theorem D_rr_linearOrder_99 : Dc M_rr_linearOrder 99 (.iload 5) 2 101 := ⟨by decide +kernel, rfl⟩
theorem D_rr_linearOrder_101 : Dj M_rr_linearOrder 101 (.ifCond .eq) 104 113 := ⟨12, by decide +kernel, rfl, by decide⟩
theorem D_rr_linearOrder_104 : Dc M_rr_linearOrder 104 (.iload 4) 2 106 := ⟨by decide +kernel, rfl⟩
theorem D_rr_linearOrder_106 : Dc M_rr_linearOrder 106 (.iconst 1) 1 107 := ⟨by decide +kernel, rfl⟩
theorem D_rr_linearOrder_107 : Dc M_rr_linearOrder 107 (.iadd) 1 108 := ⟨by decide +kernel, rfl⟩
theorem D_rr_linearOrder_108 : Dc M_rr_linearOrder 108 (.iload_n 3) 1 109 := ⟨by decide +kernel, rfl⟩
theorem D_rr_linearOrder_109 : Dc M_rr_linearOrder 109 (.isub) 1 110 := ⟨by decide +kernel, rfl⟩
theorem D_rr_linearOrder_110 : Dj M_rr_linearOrder 110 (.goto) 113 114 := ⟨4, by decide +kernel, rfl, by decide⟩
theorem D_rr_linearOrder_113 : Dc M_rr_linearOrder 113 (.iload_n 3) 1 114 := ⟨by decide +kernel, rfl⟩
theorem D_rr_linearOrder_114 : Dc M_rr_linearOrder 114 (.istore_n 3) 1 115 := ⟨by decide +kernel, rfl⟩
theorem D_rr_linearOrder_115 : Dc M_rr_linearOrder 115 (.iinc 4 1) 3 118 := ⟨by decide +kernel, rfl⟩
theorem D_rr_linearOrder_118 : Dj M_rr_linearOrder 118 (.goto) 121 43 := ⟨(-75), by decide +kernel, rfl, by decide⟩
theorem D_rr_linearOrder_121 : Dc M_rr_linearOrder 121 (.iload_n 3) 1 122 := ⟨by decide +kernel, rfl⟩
theorem D_rr_linearOrder_122 : Dc M_rr_linearOrder 122 (.ireturn) 1 123 := ⟨by decide +kernel, rfl⟩
theorem D_rr_shiftIn_0 : Dc M_rr_shiftIn 0 (.lload_n 1) 1 1 := ⟨by decide +kernel, rfl⟩
theorem D_rr_shiftIn_1 : Dc M_rr_shiftIn 1 (.lstore_n 3) 1 2 := ⟨by decide +kernel, rfl⟩
theorem D_rr_shiftIn_2 : Dc M_rr_shiftIn 2 (.iconst 0) 1 3 := ⟨by decide +kernel, rfl⟩
theorem D_rr_shiftIn_3 : Dc M_rr_shiftIn 3 (.istore 5) 2 5 := ⟨by decide +kernel, rfl⟩
theorem D_rr_shiftIn_5 : Dc M_rr_shiftIn 5 (.iload 5) 2 7 := ⟨by decide +kernel, rfl⟩
theorem D_rr_shiftIn_7 : Dc M_rr_shiftIn 7 (.aload_n 0) 1 8 := ⟨by decide +kernel, rfl⟩
theorem D_rr_shiftIn_8 : Dc M_rr_shiftIn 8 (.arraylength) 1 9 := ⟨by decide +kernel, rfl⟩
theorem D_rr_shiftIn_9 : Dj M_rr_shiftIn 9 (.if_icmp .ge) 12 42 := ⟨33, by decide +kernel, rfl, by decide⟩
theorem D_rr_shiftIn_12 : Dc M_rr_shiftIn 12 (.aload_n 0) 1 13 := ⟨by decide +kernel, rfl⟩
theorem D_rr_shiftIn_13 : Dc M_rr_shiftIn 13 (.iload 5) 2 15 := ⟨by decide +kernel, rfl⟩
theorem D_rr_shiftIn_15 : Dc M_rr_shiftIn 15 (.laload) 1 16 := ⟨by decide +kernel, rfl⟩
theorem D_rr_shiftIn_16 : Dc M_rr_shiftIn 16 (.bipush 63) 2 18 := ⟨by decide +kernel, rfl⟩
theorem D_rr_shiftIn_18 : Dc M_rr_shiftIn 18 (.lushr) 1 19 := ⟨by decide +kernel, rfl⟩
theorem D_rr_shiftIn_19 : Dc M_rr_shiftIn 19 (.lstore 6) 2 21 := ⟨by decide +kernel, rfl⟩
theorem D_rr_shiftIn_21 : Dc M_rr_shiftIn 21 (.aload_n 0) 1 22 := ⟨by decide +kernel, rfl⟩
theorem D_rr_shiftIn_22 : Dc M_rr_shiftIn 22 (.iload 5) 2 24 := ⟨by decide +kernel, rfl⟩
theorem D_rr_shiftIn_24 : Dc M_rr_shiftIn 24 (.aload_n 0) 1 25 := ⟨by decide +kernel, rfl⟩
theorem D_rr_shiftIn_25 : Dc M_rr_shiftIn 25 (.iload 5) 2 27 := ⟨by decide +kernel, rfl⟩
theorem D_rr_shiftIn_27 : Dc M_rr_shiftIn 27 (.laload) 1 28 := ⟨by decide +kernel, rfl⟩
theorem D_rr_shiftIn_28 : Dc M_rr_shiftIn 28 (.iconst 1) 1 29 := ⟨by decide +kernel, rfl⟩
theorem D_rr_shiftIn_29 : Dc M_rr_shiftIn 29 (.lshl) 1 30 := ⟨by decide +kernel, rfl⟩
theorem D_rr_shiftIn_30 : Dc M_rr_shiftIn 30 (.lload_n 3) 1 31 := ⟨by decide +kernel, rfl⟩
theorem D_rr_shiftIn_31 : Dc M_rr_shiftIn 31 (.lor) 1 32 := ⟨by decide +kernel, rfl⟩
theorem D_rr_shiftIn_32 : Dc M_rr_shiftIn 32 (.lastore) 1 33 := ⟨by decide +kernel, rfl⟩
theorem D_rr_shiftIn_33 : Dc M_rr_shiftIn 33 (.lload 6) 2 35 := ⟨by decide +kernel, rfl⟩
theorem D_rr_shiftIn_35 : Dc M_rr_shiftIn 35 (.lstore_n 3) 1 36 := ⟨by decide +kernel, rfl⟩
theorem D_rr_shiftIn_36 : Dc M_rr_shiftIn 36 (.iinc 5 1) 3 39 := ⟨by decide +kernel, rfl⟩
theorem D_rr_shiftIn_39 : Dj M_rr_shiftIn 39 (.goto) 42 5 := ⟨(-34), by decide +kernel, rfl, by decide⟩
theorem D_rr_shiftIn_42 : Dc M_rr_shiftIn 42 (.return_) 1 43 := ⟨by decide +kernel, rfl⟩
theorem D_rr_ruleFails_0 : Dc M_rr_ruleFails 0 (.lconst 0) 1 1 := ⟨by decide +kernel, rfl⟩
theorem D_rr_ruleFails_1 : Dc M_rr_ruleFails 1 (.lstore_n 1) 1 2 := ⟨by decide +kernel, rfl⟩
theorem D_rr_ruleFails_2 : Dc M_rr_ruleFails 2 (.iconst 0) 1 3 := ⟨by decide +kernel, rfl⟩
theorem D_rr_ruleFails_3 : Dc M_rr_ruleFails 3 (.istore_n 3) 1 4 := ⟨by decide +kernel, rfl⟩
theorem D_rr_ruleFails_4 : Dc M_rr_ruleFails 4 (.iload_n 3) 1 5 := ⟨by decide +kernel, rfl⟩
theorem D_rr_ruleFails_5 : Dc M_rr_ruleFails 5 (.bipush 10) 2 7 := ⟨by decide +kernel, rfl⟩
theorem D_rr_ruleFails_7 : Dj M_rr_ruleFails 7 (.if_icmp .ge) 10 32 := ⟨25, by decide +kernel, rfl, by decide⟩
theorem D_rr_ruleFails_10 : Dc M_rr_ruleFails 10 (.lload_n 1) 1 11 := ⟨by decide +kernel, rfl⟩
theorem D_rr_ruleFails_11 : Dc M_rr_ruleFails 11 (.aload_n 0) 1 12 := ⟨by decide +kernel, rfl⟩
theorem D_rr_ruleFails_12 : Dg M_rr_ruleFails 12 15 2 0 R_rr T_rr 6 := ⟨11, by decide +kernel, rfl, rfl, by decide, fl_rr_11, in_rr⟩
theorem D_rr_ruleFails_15 : Dc M_rr_ruleFails 15 (.iload_n 3) 1 16 := ⟨by decide +kernel, rfl⟩
theorem D_rr_ruleFails_16 : Dc M_rr_ruleFails 16 (.laload) 1 17 := ⟨by decide +kernel, rfl⟩
theorem D_rr_ruleFails_17 : Dc M_rr_ruleFails 17 (.aload_n 0) 1 18 := ⟨by decide +kernel, rfl⟩
theorem D_rr_ruleFails_18 : Dg M_rr_ruleFails 18 21 2 2 R_rr T_rr 6 := ⟨18, by decide +kernel, rfl, rfl, by decide, fl_rr_18, in_rr⟩
theorem D_rr_ruleFails_21 : Dc M_rr_ruleFails 21 (.iload_n 3) 1 22 := ⟨by decide +kernel, rfl⟩
theorem D_rr_ruleFails_22 : Dc M_rr_ruleFails 22 (.laload) 1 23 := ⟨by decide +kernel, rfl⟩
theorem D_rr_ruleFails_23 : Dc M_rr_ruleFails 23 (.land) 1 24 := ⟨by decide +kernel, rfl⟩
theorem D_rr_ruleFails_24 : Dc M_rr_ruleFails 24 (.lxor) 1 25 := ⟨by decide +kernel, rfl⟩
theorem D_rr_ruleFails_25 : Dc M_rr_ruleFails 25 (.lstore_n 1) 1 26 := ⟨by decide +kernel, rfl⟩
theorem D_rr_ruleFails_26 : Dc M_rr_ruleFails 26 (.iinc 3 1) 3 29 := ⟨by decide +kernel, rfl⟩
theorem D_rr_ruleFails_29 : Dj M_rr_ruleFails 29 (.goto) 32 4 := ⟨(-25), by decide +kernel, rfl, by decide⟩
theorem D_rr_ruleFails_32 : Dc M_rr_ruleFails 32 (.lload_n 1) 1 33 := ⟨by decide +kernel, rfl⟩
theorem ml_rr_51 : Cond.methodLink R_rr 51 M_jl_bitCount.1 ∈ gtb := mem_g 554 (by decide +kernel) rfl
theorem D_rr_ruleFails_33 : DcS M_rr_ruleFails M_jl_bitCount 33 36 := ⟨51, by decide +kernel, rfl, ml_rr_51, by decide, by decide⟩
theorem D_rr_ruleFails_36 : Dc M_rr_ruleFails 36 (.iconst 1) 1 37 := ⟨by decide +kernel, rfl⟩
theorem D_rr_ruleFails_37 : Dc M_rr_ruleFails 37 (.iand) 1 38 := ⟨by decide +kernel, rfl⟩
theorem D_rr_ruleFails_38 : Dc M_rr_ruleFails 38 (.iconst 1) 1 39 := ⟨by decide +kernel, rfl⟩
theorem D_rr_ruleFails_39 : Dj M_rr_ruleFails 39 (.if_icmp .ne) 42 46 := ⟨7, by decide +kernel, rfl, by decide⟩
theorem D_rr_ruleFails_42 : Dc M_rr_ruleFails 42 (.iconst 1) 1 43 := ⟨by decide +kernel, rfl⟩
theorem D_rr_ruleFails_43 : Dj M_rr_ruleFails 43 (.goto) 46 47 := ⟨4, by decide +kernel, rfl, by decide⟩
theorem D_rr_ruleFails_46 : Dc M_rr_ruleFails 46 (.iconst 0) 1 47 := ⟨by decide +kernel, rfl⟩
theorem D_rr_ruleFails_47 : Dc M_rr_ruleFails 47 (.ireturn) 1 48 := ⟨by decide +kernel, rfl⟩
theorem D_rr_correctRule_0 : Dc M_rr_correctRule 0 (.iconst 0) 1 1 := ⟨by decide +kernel, rfl⟩
theorem D_rr_correctRule_1 : Dc M_rr_correctRule 1 (.istore_n 2) 1 2 := ⟨by decide +kernel, rfl⟩
theorem D_rr_correctRule_2 : Dc M_rr_correctRule 2 (.iload_n 2) 1 3 := ⟨by decide +kernel, rfl⟩
theorem D_rr_correctRule_3 : Dc M_rr_correctRule 3 (.bipush 10) 2 5 := ⟨by decide +kernel, rfl⟩
theorem D_rr_correctRule_5 : Dj M_rr_correctRule 5 (.if_icmp .ge) 8 46 := ⟨41, by decide +kernel, rfl, by decide⟩
theorem D_rr_correctRule_8 : Dc M_rr_correctRule 8 (.aload_n 0) 1 9 := ⟨by decide +kernel, rfl⟩
theorem D_rr_correctRule_9 : Dg M_rr_correctRule 9 12 2 0 R_rr T_rr 6 := ⟨11, by decide +kernel, rfl, rfl, by decide, fl_rr_11, in_rr⟩
theorem D_rr_correctRule_12 : Dc M_rr_correctRule 12 (.iload_n 2) 1 13 := ⟨by decide +kernel, rfl⟩
theorem D_rr_correctRule_13 : Dc M_rr_correctRule 13 (.laload) 1 14 := ⟨by decide +kernel, rfl⟩
theorem D_rr_correctRule_14 : Dc M_rr_correctRule 14 (.lstore_n 3) 1 15 := ⟨by decide +kernel, rfl⟩
theorem D_rr_correctRule_15 : Dc M_rr_correctRule 15 (.aload_n 0) 1 16 := ⟨by decide +kernel, rfl⟩
theorem D_rr_correctRule_16 : Dg M_rr_correctRule 16 19 2 0 R_rr T_rr 6 := ⟨11, by decide +kernel, rfl, rfl, by decide, fl_rr_11, in_rr⟩
theorem D_rr_correctRule_19 : Dc M_rr_correctRule 19 (.iload_n 2) 1 20 := ⟨by decide +kernel, rfl⟩
theorem D_rr_correctRule_20 : Dc M_rr_correctRule 20 (.lload_n 3) 1 21 := ⟨by decide +kernel, rfl⟩
theorem D_rr_correctRule_21 : Dc M_rr_correctRule 21 (.aload_n 0) 1 22 := ⟨by decide +kernel, rfl⟩
theorem D_rr_correctRule_22 : Dg M_rr_correctRule 22 25 2 1 R_rr T_rr 6 := ⟨15, by decide +kernel, rfl, rfl, by decide, fl_rr_15, in_rr⟩
theorem D_rr_correctRule_25 : Dc M_rr_correctRule 25 (.iload_n 2) 1 26 := ⟨by decide +kernel, rfl⟩
theorem D_rr_correctRule_26 : Dc M_rr_correctRule 26 (.laload) 1 27 := ⟨by decide +kernel, rfl⟩
theorem D_rr_correctRule_27 : Dc M_rr_correctRule 27 (.lxor) 1 28 := ⟨by decide +kernel, rfl⟩
theorem D_rr_correctRule_28 : Dc M_rr_correctRule 28 (.lastore) 1 29 := ⟨by decide +kernel, rfl⟩
theorem D_rr_correctRule_29 : Dc M_rr_correctRule 29 (.iload_n 1) 1 30 := ⟨by decide +kernel, rfl⟩
theorem D_rr_correctRule_30 : Dj M_rr_correctRule 30 (.ifCond .eq) 33 40 := ⟨10, by decide +kernel, rfl, by decide⟩
theorem D_rr_correctRule_33 : Dc M_rr_correctRule 33 (.aload_n 0) 1 34 := ⟨by decide +kernel, rfl⟩
theorem D_rr_correctRule_34 : Dg M_rr_correctRule 34 37 2 1 R_rr T_rr 6 := ⟨15, by decide +kernel, rfl, rfl, by decide, fl_rr_15, in_rr⟩
theorem D_rr_correctRule_37 : Dc M_rr_correctRule 37 (.iload_n 2) 1 38 := ⟨by decide +kernel, rfl⟩
theorem D_rr_correctRule_38 : Dc M_rr_correctRule 38 (.lload_n 3) 1 39 := ⟨by decide +kernel, rfl⟩
theorem D_rr_correctRule_39 : Dc M_rr_correctRule 39 (.lastore) 1 40 := ⟨by decide +kernel, rfl⟩
theorem D_rr_correctRule_40 : Dc M_rr_correctRule 40 (.iinc 2 1) 3 43 := ⟨by decide +kernel, rfl⟩
theorem D_rr_correctRule_43 : Dj M_rr_correctRule 43 (.goto) 46 2 := ⟨(-41), by decide +kernel, rfl, by decide⟩
theorem D_rr_correctRule_46 : Dc M_rr_correctRule 46 (.return_) 1 47 := ⟨by decide +kernel, rfl⟩
theorem D_rr_greatestOrder_0 : Dc M_rr_greatestOrder 0 (.aload_n 0) 1 1 := ⟨by decide +kernel, rfl⟩
theorem D_rr_greatestOrder_1 : Dg M_rr_greatestOrder 1 4 2 3 R_rr T_rr 6 := ⟨23, by decide +kernel, rfl, rfl, by decide, fl_rr_23, in_rr⟩
theorem D_rr_greatestOrder_4 : Dc M_rr_greatestOrder 4 (.iconst 0) 1 5 := ⟨by decide +kernel, rfl⟩
theorem ml_rr_57 : Cond.methodLink R_rr 57 M_ja_fillI.1 ∈ gtb := mem_g 572 (by decide +kernel) rfl
theorem D_rr_greatestOrder_5 : DcS M_rr_greatestOrder M_ja_fillI 5 8 := ⟨57, by decide +kernel, rfl, ml_rr_57, by decide, by decide⟩
theorem D_rr_greatestOrder_8 : Dc M_rr_greatestOrder 8 (.aload_n 0) 1 9 := ⟨by decide +kernel, rfl⟩
theorem D_rr_greatestOrder_9 : Dc M_rr_greatestOrder 9 (.iconst 1) 1 10 := ⟨by decide +kernel, rfl⟩
theorem fl_rr_60 : Cond.fieldLink R_rr 60 (T_rr 5).1 (T_rr 5).2.1 (T_rr 5).2.2.1 ∈ gtb := mem_g 186 (by decide +kernel) rfl
theorem D_rr_greatestOrder_10 : Dp M_rr_greatestOrder 10 13 2 5 R_rr T_rr 6 := ⟨60, by decide +kernel, rfl, rfl, by decide, fl_rr_60, in_rr, rfl⟩
theorem D_rr_greatestOrder_13 : Dc M_rr_greatestOrder 13 (.iconst 0) 1 14 := ⟨by decide +kernel, rfl⟩
theorem D_rr_greatestOrder_14 : Dc M_rr_greatestOrder 14 (.istore_n 3) 1 15 := ⟨by decide +kernel, rfl⟩
theorem D_rr_greatestOrder_15 : Dc M_rr_greatestOrder 15 (.iload_n 3) 1 16 := ⟨by decide +kernel, rfl⟩
theorem D_rr_greatestOrder_16 : Dc M_rr_greatestOrder 16 (.iload_n 2) 1 17 := ⟨by decide +kernel, rfl⟩
theorem D_rr_greatestOrder_17 : Dj M_rr_greatestOrder 17 (.if_icmp .ge) 20 38 := ⟨21, by decide +kernel, rfl, by decide⟩
theorem D_rr_greatestOrder_20 : Dc M_rr_greatestOrder 20 (.aload_n 0) 1 21 := ⟨by decide +kernel, rfl⟩
theorem D_rr_greatestOrder_21 : Dc M_rr_greatestOrder 21 (.aload_n 1) 1 22 := ⟨by decide +kernel, rfl⟩
theorem D_rr_greatestOrder_22 : Dc M_rr_greatestOrder 22 (.iload_n 2) 1 23 := ⟨by decide +kernel, rfl⟩
theorem D_rr_greatestOrder_23 : Dc M_rr_greatestOrder 23 (.iload_n 3) 1 24 := ⟨by decide +kernel, rfl⟩
theorem ml_rr_64 : Cond.methodLink R_rr 64 M_rr_splitMarks.1 ∈ gtb := mem_g 573 (by decide +kernel) rfl
theorem D_rr_greatestOrder_24 : DcV M_rr_greatestOrder M_rr_splitMarks 24 27 := ⟨64, by decide +kernel, rfl, ml_rr_64, by decide, by decide⟩
theorem D_rr_greatestOrder_27 : Dj M_rr_greatestOrder 27 (.ifCond .ne) 30 32 := ⟨5, by decide +kernel, rfl, by decide⟩
theorem D_rr_greatestOrder_30 : Dc M_rr_greatestOrder 30 (.iload_n 3) 1 31 := ⟨by decide +kernel, rfl⟩
theorem D_rr_greatestOrder_31 : Dc M_rr_greatestOrder 31 (.ireturn) 1 32 := ⟨by decide +kernel, rfl⟩
theorem D_rr_greatestOrder_32 : Dc M_rr_greatestOrder 32 (.iinc 3 1) 3 35 := ⟨by decide +kernel, rfl⟩
theorem D_rr_greatestOrder_35 : Dj M_rr_greatestOrder 35 (.goto) 38 15 := ⟨(-20), by decide +kernel, rfl, by decide⟩
theorem D_rr_greatestOrder_38 : Dc M_rr_greatestOrder 38 (.iload_n 2) 1 39 := ⟨by decide +kernel, rfl⟩
theorem D_rr_greatestOrder_39 : Dc M_rr_greatestOrder 39 (.ireturn) 1 40 := ⟨by decide +kernel, rfl⟩
theorem D_rr_splitMarks_0 : Dc M_rr_splitMarks 0 (.iconst 0) 1 1 := ⟨by decide +kernel, rfl⟩
theorem D_rr_splitMarks_1 : Dc M_rr_splitMarks 1 (.istore 4) 2 3 := ⟨by decide +kernel, rfl⟩
theorem D_rr_splitMarks_3 : Dc M_rr_splitMarks 3 (.iconst 0) 1 4 := ⟨by decide +kernel, rfl⟩
theorem D_rr_splitMarks_4 : Dc M_rr_splitMarks 4 (.istore 5) 2 6 := ⟨by decide +kernel, rfl⟩
theorem D_rr_splitMarks_6 : Dc M_rr_splitMarks 6 (.aload_n 0) 1 7 := ⟨by decide +kernel, rfl⟩
theorem D_rr_splitMarks_7 : Dg M_rr_splitMarks 7 10 2 4 R_rr T_rr 6 := ⟨27, by decide +kernel, rfl, rfl, by decide, fl_rr_27, in_rr⟩
theorem D_rr_splitMarks_10 : Dc M_rr_splitMarks 10 (.iconst 0) 1 11 := ⟨by decide +kernel, rfl⟩
theorem D_rr_splitMarks_11 : Dc M_rr_splitMarks 11 (.iconst 2) 1 12 := ⟨by decide +kernel, rfl⟩
theorem D_rr_splitMarks_12 : Dc M_rr_splitMarks 12 (.aload_n 0) 1 13 := ⟨by decide +kernel, rfl⟩
theorem D_rr_splitMarks_13 : Dg M_rr_splitMarks 13 16 2 5 R_rr T_rr 6 := ⟨60, by decide +kernel, rfl, rfl, by decide, fl_rr_60, in_rr⟩
theorem D_rr_splitMarks_16 : Dc M_rr_splitMarks 16 (.imul) 1 17 := ⟨by decide +kernel, rfl⟩
theorem D_rr_splitMarks_17 : Dc M_rr_splitMarks 17 (.iconst (-1)) 1 18 := ⟨by decide +kernel, rfl⟩
theorem ml_rr_68 : Cond.methodLink R_rr 68 M_ja_fillR.1 ∈ gtb := mem_g 577 (by decide +kernel) rfl
theorem D_rr_splitMarks_18 : DcS M_rr_splitMarks M_ja_fillR 18 21 := ⟨68, by decide +kernel, rfl, ml_rr_68, by decide, by decide⟩
theorem D_rr_splitMarks_21 : Dc M_rr_splitMarks 21 (.iconst 0) 1 22 := ⟨by decide +kernel, rfl⟩
theorem D_rr_splitMarks_22 : Dc M_rr_splitMarks 22 (.istore 6) 2 24 := ⟨by decide +kernel, rfl⟩
theorem D_rr_splitMarks_24 : Dc M_rr_splitMarks 24 (.iload 6) 2 26 := ⟨by decide +kernel, rfl⟩
theorem D_rr_splitMarks_26 : Dc M_rr_splitMarks 26 (.iload_n 3) 1 27 := ⟨by decide +kernel, rfl⟩
theorem D_rr_splitMarks_27 : Dc M_rr_splitMarks 27 (.iadd) 1 28 := ⟨by decide +kernel, rfl⟩
theorem D_rr_splitMarks_28 : Dc M_rr_splitMarks 28 (.iload_n 2) 1 29 := ⟨by decide +kernel, rfl⟩
theorem D_rr_splitMarks_29 : Dj M_rr_splitMarks 29 (.if_icmp .ge) 32 120 := ⟨91, by decide +kernel, rfl, by decide⟩
theorem D_rr_splitMarks_32 : Dc M_rr_splitMarks 32 (.iconst 2) 1 33 := ⟨by decide +kernel, rfl⟩
theorem D_rr_splitMarks_33 : Dc M_rr_splitMarks 33 (.aload_n 0) 1 34 := ⟨by decide +kernel, rfl⟩
theorem D_rr_splitMarks_34 : Dg M_rr_splitMarks 34 37 2 3 R_rr T_rr 6 := ⟨23, by decide +kernel, rfl, rfl, by decide, fl_rr_23, in_rr⟩
theorem D_rr_splitMarks_37 : Dc M_rr_splitMarks 37 (.iload 6) 2 39 := ⟨by decide +kernel, rfl⟩
theorem D_rr_splitMarks_39 : Dc M_rr_splitMarks 39 (.iaload) 1 40 := ⟨by decide +kernel, rfl⟩
theorem D_rr_splitMarks_40 : Dc M_rr_splitMarks 40 (.imul) 1 41 := ⟨by decide +kernel, rfl⟩
theorem D_rr_splitMarks_41 : Dc M_rr_splitMarks 41 (.aload_n 1) 1 42 := ⟨by decide +kernel, rfl⟩
theorem D_rr_splitMarks_42 : Dc M_rr_splitMarks 42 (.iload 6) 2 44 := ⟨by decide +kernel, rfl⟩
theorem D_rr_splitMarks_44 : Dc M_rr_splitMarks 44 (.iload_n 3) 1 45 := ⟨by decide +kernel, rfl⟩
theorem D_rr_splitMarks_45 : Dc M_rr_splitMarks 45 (.iadd) 1 46 := ⟨by decide +kernel, rfl⟩
theorem D_rr_splitMarks_46 : DcV M_rr_splitMarks M_sh_bitAt 46 49 := ⟨39, by decide +kernel, rfl, ml_rr_39, by decide, by decide⟩
theorem D_rr_splitMarks_49 : Dc M_rr_splitMarks 49 (.iadd) 1 50 := ⟨by decide +kernel, rfl⟩
theorem D_rr_splitMarks_50 : Dc M_rr_splitMarks 50 (.istore 7) 2 52 := ⟨by decide +kernel, rfl⟩
theorem D_rr_splitMarks_52 : Dc M_rr_splitMarks 52 (.aload_n 0) 1 53 := ⟨by decide +kernel, rfl⟩
theorem D_rr_splitMarks_53 : Dg M_rr_splitMarks 53 56 2 4 R_rr T_rr 6 := ⟨27, by decide +kernel, rfl, rfl, by decide, fl_rr_27, in_rr⟩
theorem D_rr_splitMarks_56 : Dc M_rr_splitMarks 56 (.iload 7) 2 58 := ⟨by decide +kernel, rfl⟩
theorem D_rr_splitMarks_58 : Dc M_rr_splitMarks 58 (.iaload) 1 59 := ⟨by decide +kernel, rfl⟩
theorem D_rr_splitMarks_59 : Dc M_rr_splitMarks 59 (.iconst (-1)) 1 60 := ⟨by decide +kernel, rfl⟩
theorem D_rr_splitMarks_60 : Dj M_rr_splitMarks 60 (.if_icmp .ne) 63 100 := ⟨40, by decide +kernel, rfl, by decide⟩
theorem D_rr_splitMarks_63 : Dc M_rr_splitMarks 63 (.aload_n 0) 1 64 := ⟨by decide +kernel, rfl⟩
theorem D_rr_splitMarks_64 : Dg M_rr_splitMarks 64 67 2 4 R_rr T_rr 6 := ⟨27, by decide +kernel, rfl, rfl, by decide, fl_rr_27, in_rr⟩
theorem D_rr_splitMarks_67 : Dc M_rr_splitMarks 67 (.iload 7) 2 69 := ⟨by decide +kernel, rfl⟩
theorem D_rr_splitMarks_69 : Dc M_rr_splitMarks 69 (.iload 5) 2 71 := ⟨by decide +kernel, rfl⟩
theorem D_rr_splitMarks_71 : Dc M_rr_splitMarks 71 (.iastore) 1 72 := ⟨by decide +kernel, rfl⟩
theorem D_rr_splitMarks_72 : Dc M_rr_splitMarks 72 (.iinc 5 1) 3 75 := ⟨by decide +kernel, rfl⟩
theorem D_rr_splitMarks_75 : Dc M_rr_splitMarks 75 (.iload 4) 2 77 := ⟨by decide +kernel, rfl⟩
theorem D_rr_splitMarks_77 : Dj M_rr_splitMarks 77 (.ifCond .ne) 80 93 := ⟨16, by decide +kernel, rfl, by decide⟩
theorem D_rr_splitMarks_80 : Dc M_rr_splitMarks 80 (.aload_n 0) 1 81 := ⟨by decide +kernel, rfl⟩
theorem D_rr_splitMarks_81 : Dg M_rr_splitMarks 81 84 2 4 R_rr T_rr 6 := ⟨27, by decide +kernel, rfl, rfl, by decide, fl_rr_27, in_rr⟩
theorem D_rr_splitMarks_84 : Dc M_rr_splitMarks 84 (.iload 7) 2 86 := ⟨by decide +kernel, rfl⟩
theorem D_rr_splitMarks_86 : Dc M_rr_splitMarks 86 (.iconst 1) 1 87 := ⟨by decide +kernel, rfl⟩
theorem D_rr_splitMarks_87 : Dc M_rr_splitMarks 87 (.ixor) 1 88 := ⟨by decide +kernel, rfl⟩
theorem D_rr_splitMarks_88 : Dc M_rr_splitMarks 88 (.iaload) 1 89 := ⟨by decide +kernel, rfl⟩
theorem D_rr_splitMarks_89 : Dc M_rr_splitMarks 89 (.iconst (-1)) 1 90 := ⟨by decide +kernel, rfl⟩
theorem D_rr_splitMarks_90 : Dj M_rr_splitMarks 90 (.if_icmp .eq) 93 97 := ⟨7, by decide +kernel, rfl, by decide⟩
theorem D_rr_splitMarks_93 : Dc M_rr_splitMarks 93 (.iconst 1) 1 94 := ⟨by decide +kernel, rfl⟩
theorem D_rr_splitMarks_94 : Dj M_rr_splitMarks 94 (.goto) 97 98 := ⟨4, by decide +kernel, rfl, by decide⟩
theorem D_rr_splitMarks_97 : Dc M_rr_splitMarks 97 (.iconst 0) 1 98 := ⟨by decide +kernel, rfl⟩
theorem D_rr_splitMarks_98 : Dc M_rr_splitMarks 98 (.istore 4) 2 100 := ⟨by decide +kernel, rfl⟩
theorem D_rr_splitMarks_100 : Dc M_rr_splitMarks 100 (.aload_n 0) 1 101 := ⟨by decide +kernel, rfl⟩
theorem D_rr_splitMarks_101 : Dg M_rr_splitMarks 101 104 2 3 R_rr T_rr 6 := ⟨23, by decide +kernel, rfl, rfl, by decide, fl_rr_23, in_rr⟩
theorem D_rr_splitMarks_104 : Dc M_rr_splitMarks 104 (.iload 6) 2 106 := ⟨by decide +kernel, rfl⟩
theorem D_rr_splitMarks_106 : Dc M_rr_splitMarks 106 (.aload_n 0) 1 107 := ⟨by decide +kernel, rfl⟩
theorem D_rr_splitMarks_107 : Dg M_rr_splitMarks 107 110 2 4 R_rr T_rr 6 := ⟨27, by decide +kernel, rfl, rfl, by decide, fl_rr_27, in_rr⟩
theorem D_rr_splitMarks_110 : Dc M_rr_splitMarks 110 (.iload 7) 2 112 := ⟨by decide +kernel, rfl⟩
theorem D_rr_splitMarks_112 : Dc M_rr_splitMarks 112 (.iaload) 1 113 := ⟨by decide +kernel, rfl⟩
theorem D_rr_splitMarks_113 : Dc M_rr_splitMarks 113 (.iastore) 1 114 := ⟨by decide +kernel, rfl⟩
theorem D_rr_splitMarks_114 : Dc M_rr_splitMarks 114 (.iinc 6 1) 3 117 := ⟨by decide +kernel, rfl⟩
theorem D_rr_splitMarks_117 : Dj M_rr_splitMarks 117 (.goto) 120 24 := ⟨(-93), by decide +kernel, rfl, by decide⟩
theorem D_rr_splitMarks_120 : Dc M_rr_splitMarks 120 (.aload_n 0) 1 121 := ⟨by decide +kernel, rfl⟩
theorem D_rr_splitMarks_121 : Dc M_rr_splitMarks 121 (.iload 5) 2 123 := ⟨by decide +kernel, rfl⟩
theorem D_rr_splitMarks_123 : Dp M_rr_splitMarks 123 126 2 5 R_rr T_rr 6 := ⟨60, by decide +kernel, rfl, rfl, by decide, fl_rr_60, in_rr, rfl⟩
theorem D_rr_splitMarks_126 : Dc M_rr_splitMarks 126 (.iload 4) 2 128 := ⟨by decide +kernel, rfl⟩
theorem D_rr_splitMarks_128 : Dc M_rr_splitMarks 128 (.ireturn) 1 129 := ⟨by decide +kernel, rfl⟩
theorem D_rr_leastPeriod_0 : Dc M_rr_leastPeriod 0 (.iconst 0) 1 1 := ⟨by decide +kernel, rfl⟩
theorem D_rr_leastPeriod_1 : Dc M_rr_leastPeriod 1 (.istore_n 2) 1 2 := ⟨by decide +kernel, rfl⟩
theorem D_rr_leastPeriod_2 : Dc M_rr_leastPeriod 2 (.aload_n 0) 1 3 := ⟨by decide +kernel, rfl⟩
theorem D_rr_leastPeriod_3 : Dg M_rr_leastPeriod 3 6 2 3 R_rr T_rr 6 := ⟨23, by decide +kernel, rfl, rfl, by decide, fl_rr_23, in_rr⟩
theorem D_rr_leastPeriod_6 : Dc M_rr_leastPeriod 6 (.iconst 0) 1 7 := ⟨by decide +kernel, rfl⟩
theorem D_rr_leastPeriod_7 : Dc M_rr_leastPeriod 7 (.iconst 0) 1 8 := ⟨by decide +kernel, rfl⟩
theorem D_rr_leastPeriod_8 : Dc M_rr_leastPeriod 8 (.iastore) 1 9 := ⟨by decide +kernel, rfl⟩
theorem D_rr_leastPeriod_9 : Dc M_rr_leastPeriod 9 (.iconst 1) 1 10 := ⟨by decide +kernel, rfl⟩
theorem D_rr_leastPeriod_10 : Dc M_rr_leastPeriod 10 (.istore_n 3) 1 11 := ⟨by decide +kernel, rfl⟩
theorem D_rr_leastPeriod_11 : Dc M_rr_leastPeriod 11 (.iload_n 3) 1 12 := ⟨by decide +kernel, rfl⟩
theorem D_rr_leastPeriod_12 : Dc M_rr_leastPeriod 12 (.aload_n 1) 1 13 := ⟨by decide +kernel, rfl⟩
theorem fl_rr_71 : Cond.fieldLink R_rr 71 (T_sh 1).1 (T_sh 1).2.1 (T_sh 1).2.2.1 ∈ gtb := mem_g 163 (by decide +kernel) rfl
theorem D_rr_leastPeriod_13 : Dg M_rr_leastPeriod 13 16 3 1 R_sh T_sh 3 := ⟨71, by decide +kernel, rfl, rfl, by decide, fl_rr_71, in_sh⟩
theorem D_rr_leastPeriod_16 : Dj M_rr_leastPeriod 16 (.if_icmp .ge) 19 90 := ⟨74, by decide +kernel, rfl, by decide⟩
theorem D_rr_leastPeriod_19 : Dc M_rr_leastPeriod 19 (.aload_n 1) 1 20 := ⟨by decide +kernel, rfl⟩
theorem D_rr_leastPeriod_20 : Dc M_rr_leastPeriod 20 (.iload_n 3) 1 21 := ⟨by decide +kernel, rfl⟩
theorem D_rr_leastPeriod_21 : DcV M_rr_leastPeriod M_sh_bitAt 21 24 := ⟨39, by decide +kernel, rfl, ml_rr_39, by decide, by decide⟩
theorem D_rr_leastPeriod_24 : Dc M_rr_leastPeriod 24 (.istore 4) 2 26 := ⟨by decide +kernel, rfl⟩
theorem D_rr_leastPeriod_26 : Dc M_rr_leastPeriod 26 (.iconst 0) 1 27 := ⟨by decide +kernel, rfl⟩
theorem D_rr_leastPeriod_27 : Dc M_rr_leastPeriod 27 (.istore 5) 2 29 := ⟨by decide +kernel, rfl⟩
theorem D_rr_leastPeriod_29 : Dc M_rr_leastPeriod 29 (.iload 5) 2 31 := ⟨by decide +kernel, rfl⟩
theorem D_rr_leastPeriod_31 : Dc M_rr_leastPeriod 31 (.iload_n 3) 1 32 := ⟨by decide +kernel, rfl⟩
theorem D_rr_leastPeriod_32 : Dj M_rr_leastPeriod 32 (.if_icmp .ge) 35 64 := ⟨32, by decide +kernel, rfl, by decide⟩
theorem D_rr_leastPeriod_35 : Dc M_rr_leastPeriod 35 (.iload_n 2) 1 36 := ⟨by decide +kernel, rfl⟩
theorem D_rr_leastPeriod_36 : Dj M_rr_leastPeriod 36 (.ifCond .le) 39 64 := ⟨28, by decide +kernel, rfl, by decide⟩
theorem D_rr_leastPeriod_39 : Dc M_rr_leastPeriod 39 (.aload_n 1) 1 40 := ⟨by decide +kernel, rfl⟩
theorem D_rr_leastPeriod_40 : Dc M_rr_leastPeriod 40 (.iload_n 2) 1 41 := ⟨by decide +kernel, rfl⟩
theorem D_rr_leastPeriod_41 : DcV M_rr_leastPeriod M_sh_bitAt 41 44 := ⟨39, by decide +kernel, rfl, ml_rr_39, by decide, by decide⟩
theorem D_rr_leastPeriod_44 : Dc M_rr_leastPeriod 44 (.iload 4) 2 46 := ⟨by decide +kernel, rfl⟩
theorem D_rr_leastPeriod_46 : Dj M_rr_leastPeriod 46 (.if_icmp .eq) 49 64 := ⟨18, by decide +kernel, rfl, by decide⟩
theorem D_rr_leastPeriod_49 : Dc M_rr_leastPeriod 49 (.aload_n 0) 1 50 := ⟨by decide +kernel, rfl⟩
theorem D_rr_leastPeriod_50 : Dg M_rr_leastPeriod 50 53 2 3 R_rr T_rr 6 := ⟨23, by decide +kernel, rfl, rfl, by decide, fl_rr_23, in_rr⟩
theorem D_rr_leastPeriod_53 : Dc M_rr_leastPeriod 53 (.iload_n 2) 1 54 := ⟨by decide +kernel, rfl⟩
theorem D_rr_leastPeriod_54 : Dc M_rr_leastPeriod 54 (.iconst 1) 1 55 := ⟨by decide +kernel, rfl⟩
theorem D_rr_leastPeriod_55 : Dc M_rr_leastPeriod 55 (.isub) 1 56 := ⟨by decide +kernel, rfl⟩
theorem D_rr_leastPeriod_56 : Dc M_rr_leastPeriod 56 (.iaload) 1 57 := ⟨by decide +kernel, rfl⟩
theorem D_rr_leastPeriod_57 : Dc M_rr_leastPeriod 57 (.istore_n 2) 1 58 := ⟨by decide +kernel, rfl⟩
theorem D_rr_leastPeriod_58 : Dc M_rr_leastPeriod 58 (.iinc 5 1) 3 61 := ⟨by decide +kernel, rfl⟩
theorem D_rr_leastPeriod_61 : Dj M_rr_leastPeriod 61 (.goto) 64 29 := ⟨(-32), by decide +kernel, rfl, by decide⟩
theorem D_rr_leastPeriod_64 : Dc M_rr_leastPeriod 64 (.aload_n 1) 1 65 := ⟨by decide +kernel, rfl⟩
theorem D_rr_leastPeriod_65 : Dc M_rr_leastPeriod 65 (.iload_n 2) 1 66 := ⟨by decide +kernel, rfl⟩
theorem D_rr_leastPeriod_66 : DcV M_rr_leastPeriod M_sh_bitAt 66 69 := ⟨39, by decide +kernel, rfl, ml_rr_39, by decide, by decide⟩
theorem D_rr_leastPeriod_69 : Dc M_rr_leastPeriod 69 (.iload 4) 2 71 := ⟨by decide +kernel, rfl⟩
theorem D_rr_leastPeriod_71 : Dj M_rr_leastPeriod 71 (.if_icmp .ne) 74 77 := ⟨6, by decide +kernel, rfl, by decide⟩
theorem D_rr_leastPeriod_74 : Dc M_rr_leastPeriod 74 (.iinc 2 1) 3 77 := ⟨by decide +kernel, rfl⟩
theorem D_rr_leastPeriod_77 : Dc M_rr_leastPeriod 77 (.aload_n 0) 1 78 := ⟨by decide +kernel, rfl⟩
theorem D_rr_leastPeriod_78 : Dg M_rr_leastPeriod 78 81 2 3 R_rr T_rr 6 := ⟨23, by decide +kernel, rfl, rfl, by decide, fl_rr_23, in_rr⟩
theorem D_rr_leastPeriod_81 : Dc M_rr_leastPeriod 81 (.iload_n 3) 1 82 := ⟨by decide +kernel, rfl⟩
theorem D_rr_leastPeriod_82 : Dc M_rr_leastPeriod 82 (.iload_n 2) 1 83 := ⟨by decide +kernel, rfl⟩
theorem D_rr_leastPeriod_83 : Dc M_rr_leastPeriod 83 (.iastore) 1 84 := ⟨by decide +kernel, rfl⟩
theorem D_rr_leastPeriod_84 : Dc M_rr_leastPeriod 84 (.iinc 3 1) 3 87 := ⟨by decide +kernel, rfl⟩
theorem D_rr_leastPeriod_87 : Dj M_rr_leastPeriod 87 (.goto) 90 11 := ⟨(-76), by decide +kernel, rfl, by decide⟩
theorem D_rr_leastPeriod_90 : Dc M_rr_leastPeriod 90 (.aload_n 1) 1 91 := ⟨by decide +kernel, rfl⟩
theorem D_rr_leastPeriod_91 : Dg M_rr_leastPeriod 91 94 3 1 R_sh T_sh 3 := ⟨71, by decide +kernel, rfl, rfl, by decide, fl_rr_71, in_sh⟩
theorem D_rr_leastPeriod_94 : Dc M_rr_leastPeriod 94 (.iload_n 2) 1 95 := ⟨by decide +kernel, rfl⟩
theorem D_rr_leastPeriod_95 : Dc M_rr_leastPeriod 95 (.isub) 1 96 := ⟨by decide +kernel, rfl⟩
theorem D_rr_leastPeriod_96 : Dc M_rr_leastPeriod 96 (.ireturn) 1 97 := ⟨by decide +kernel, rfl⟩
end
section
theorem D_sh_init_0 : Dc M_sh_init 0 (.aload_n 0) 1 1 := ⟨by decide +kernel, rfl⟩
theorem D_sh_init_1 : Do M_sh_init 1 4 := ⟨1, by decide +kernel, rfl, by decide +kernel, by decide +kernel, by decide +kernel, by decide, by decide⟩
theorem D_sh_init_4 : Dc M_sh_init 4 (.aload_n 0) 1 5 := ⟨by decide +kernel, rfl⟩
theorem D_sh_init_5 : Dc M_sh_init 5 (.iconst (-1)) 1 6 := ⟨by decide +kernel, rfl⟩
theorem fl_sh_9 : Cond.fieldLink R_sh 9 (T_sh 0).1 (T_sh 0).2.1 (T_sh 0).2.2.1 ∈ gtb := mem_g 160 (by decide +kernel) rfl
theorem D_sh_init_6 : Dp M_sh_init 6 9 3 0 R_sh T_sh 3 := ⟨9, by decide +kernel, rfl, rfl, by decide, fl_sh_9, in_sh, rfl⟩
theorem D_sh_init_9 : Dc M_sh_init 9 (.aload_n 0) 1 10 := ⟨by decide +kernel, rfl⟩
theorem D_sh_init_10 : Dc M_sh_init 10 (.sipush 600) 3 13 := ⟨by decide +kernel, rfl⟩
theorem D_sh_init_13 : Dc M_sh_init 13 (.newarray .long) 2 15 := ⟨by decide +kernel, rfl⟩
theorem fl_sh_13 : Cond.fieldLink R_sh 13 (T_sh 2).1 (T_sh 2).2.1 (T_sh 2).2.2.1 ∈ gtb := mem_g 166 (by decide +kernel) rfl
theorem D_sh_init_15 : Df M_sh_init 15 18 3 2 R_sh T_sh 3 := ⟨13, by decide +kernel, rfl, rfl, by decide, fl_sh_13, in_sh, rfl⟩
theorem D_sh_init_18 : Dc M_sh_init 18 (.return_) 1 19 := ⟨by decide +kernel, rfl⟩
theorem D_sh_isNothing_0 : Dc M_sh_isNothing 0 (.aload_n 0) 1 1 := ⟨by decide +kernel, rfl⟩
theorem D_sh_isNothing_1 : Dg M_sh_isNothing 1 4 3 0 R_sh T_sh 3 := ⟨9, by decide +kernel, rfl, rfl, by decide, fl_sh_9, in_sh⟩
theorem D_sh_isNothing_4 : Dc M_sh_isNothing 4 (.iconst (-1)) 1 5 := ⟨by decide +kernel, rfl⟩
theorem D_sh_isNothing_5 : Dj M_sh_isNothing 5 (.if_icmp .ne) 8 12 := ⟨7, by decide +kernel, rfl, by decide⟩
theorem D_sh_isNothing_8 : Dc M_sh_isNothing 8 (.iconst 1) 1 9 := ⟨by decide +kernel, rfl⟩
theorem D_sh_isNothing_9 : Dj M_sh_isNothing 9 (.goto) 12 13 := ⟨4, by decide +kernel, rfl, by decide⟩
theorem D_sh_isNothing_12 : Dc M_sh_isNothing 12 (.iconst 0) 1 13 := ⟨by decide +kernel, rfl⟩
theorem D_sh_isNothing_13 : Dc M_sh_isNothing 13 (.ireturn) 1 14 := ⟨by decide +kernel, rfl⟩
theorem D_sh_isOfOtherLane_0 : Dc M_sh_isOfOtherLane 0 (.aload_n 0) 1 1 := ⟨by decide +kernel, rfl⟩
theorem D_sh_isOfOtherLane_1 : Dg M_sh_isOfOtherLane 1 4 3 0 R_sh T_sh 3 := ⟨9, by decide +kernel, rfl, rfl, by decide, fl_sh_9, in_sh⟩
theorem D_sh_isOfOtherLane_4 : Dc M_sh_isOfOtherLane 4 (.iconst (-1)) 1 5 := ⟨by decide +kernel, rfl⟩
theorem D_sh_isOfOtherLane_5 : Dj M_sh_isOfOtherLane 5 (.if_icmp .eq) 8 20 := ⟨15, by decide +kernel, rfl, by decide⟩
theorem D_sh_isOfOtherLane_8 : Dc M_sh_isOfOtherLane 8 (.aload_n 0) 1 9 := ⟨by decide +kernel, rfl⟩
theorem D_sh_isOfOtherLane_9 : Dg M_sh_isOfOtherLane 9 12 3 0 R_sh T_sh 3 := ⟨9, by decide +kernel, rfl, rfl, by decide, fl_sh_9, in_sh⟩
theorem D_sh_isOfOtherLane_12 : Dc M_sh_isOfOtherLane 12 (.iload_n 1) 1 13 := ⟨by decide +kernel, rfl⟩
theorem D_sh_isOfOtherLane_13 : Dj M_sh_isOfOtherLane 13 (.if_icmp .eq) 16 20 := ⟨7, by decide +kernel, rfl, by decide⟩
theorem D_sh_isOfOtherLane_16 : Dc M_sh_isOfOtherLane 16 (.iconst 1) 1 17 := ⟨by decide +kernel, rfl⟩
theorem D_sh_isOfOtherLane_17 : Dj M_sh_isOfOtherLane 17 (.goto) 20 21 := ⟨4, by decide +kernel, rfl, by decide⟩
theorem D_sh_isOfOtherLane_20 : Dc M_sh_isOfOtherLane 20 (.iconst 0) 1 21 := ⟨by decide +kernel, rfl⟩
theorem D_sh_isOfOtherLane_21 : Dc M_sh_isOfOtherLane 21 (.ireturn) 1 22 := ⟨by decide +kernel, rfl⟩
theorem D_sh_hasCells_0 : Dc M_sh_hasCells 0 (.iload_n 1) 1 1 := ⟨by decide +kernel, rfl⟩
theorem D_sh_hasCells_1 : Dj M_sh_hasCells 1 (.ifCond .lt) 4 22 := ⟨21, by decide +kernel, rfl, by decide⟩
theorem D_sh_hasCells_4 : Dc M_sh_hasCells 4 (.iload_n 1) 1 5 := ⟨by decide +kernel, rfl⟩
theorem D_sh_hasCells_5 : Dc M_sh_hasCells 5 (.i2l) 1 6 := ⟨by decide +kernel, rfl⟩
theorem D_sh_hasCells_6 : Dc M_sh_hasCells 6 (.iload_n 2) 1 7 := ⟨by decide +kernel, rfl⟩
theorem D_sh_hasCells_7 : Dc M_sh_hasCells 7 (.i2l) 1 8 := ⟨by decide +kernel, rfl⟩
theorem D_sh_hasCells_8 : Dc M_sh_hasCells 8 (.ladd) 1 9 := ⟨by decide +kernel, rfl⟩
theorem D_sh_hasCells_9 : Dc M_sh_hasCells 9 (.aload_n 0) 1 10 := ⟨by decide +kernel, rfl⟩
theorem fl_sh_17 : Cond.fieldLink R_sh 17 (T_sh 1).1 (T_sh 1).2.1 (T_sh 1).2.2.1 ∈ gtb := mem_g 162 (by decide +kernel) rfl
theorem D_sh_hasCells_10 : Dg M_sh_hasCells 10 13 3 1 R_sh T_sh 3 := ⟨17, by decide +kernel, rfl, rfl, by decide, fl_sh_17, in_sh⟩
theorem D_sh_hasCells_13 : Dc M_sh_hasCells 13 (.i2l) 1 14 := ⟨by decide +kernel, rfl⟩
theorem D_sh_hasCells_14 : Dc M_sh_hasCells 14 (.lcmp) 1 15 := ⟨by decide +kernel, rfl⟩
theorem D_sh_hasCells_15 : Dj M_sh_hasCells 15 (.ifCond .gt) 18 22 := ⟨7, by decide +kernel, rfl, by decide⟩
theorem D_sh_hasCells_18 : Dc M_sh_hasCells 18 (.iconst 1) 1 19 := ⟨by decide +kernel, rfl⟩
theorem D_sh_hasCells_19 : Dj M_sh_hasCells 19 (.goto) 22 23 := ⟨4, by decide +kernel, rfl, by decide⟩
theorem D_sh_hasCells_22 : Dc M_sh_hasCells 22 (.iconst 0) 1 23 := ⟨by decide +kernel, rfl⟩
theorem D_sh_hasCells_23 : Dc M_sh_hasCells 23 (.ireturn) 1 24 := ⟨by decide +kernel, rfl⟩
theorem D_sh_renew_0 : Dc M_sh_renew 0 (.aload_n 0) 1 1 := ⟨by decide +kernel, rfl⟩
theorem D_sh_renew_1 : Dc M_sh_renew 1 (.iload_n 1) 1 2 := ⟨by decide +kernel, rfl⟩
theorem D_sh_renew_2 : Dp M_sh_renew 2 5 3 0 R_sh T_sh 3 := ⟨9, by decide +kernel, rfl, rfl, by decide, fl_sh_9, in_sh, rfl⟩
theorem D_sh_renew_5 : Dc M_sh_renew 5 (.aload_n 0) 1 6 := ⟨by decide +kernel, rfl⟩
theorem D_sh_renew_6 : Dc M_sh_renew 6 (.iload_n 2) 1 7 := ⟨by decide +kernel, rfl⟩
theorem D_sh_renew_7 : Dp M_sh_renew 7 10 3 1 R_sh T_sh 3 := ⟨17, by decide +kernel, rfl, rfl, by decide, fl_sh_17, in_sh, rfl⟩
theorem D_sh_renew_10 : Dc M_sh_renew 10 (.aload_n 0) 1 11 := ⟨by decide +kernel, rfl⟩
theorem D_sh_renew_11 : Dg M_sh_renew 11 14 3 2 R_sh T_sh 3 := ⟨13, by decide +kernel, rfl, rfl, by decide, fl_sh_13, in_sh⟩
theorem D_sh_renew_14 : Dc M_sh_renew 14 (.lconst 0) 1 15 := ⟨by decide +kernel, rfl⟩
theorem ml_sh_20 : Cond.methodLink R_sh 20 M_ja_fillJ.1 ∈ gtb := mem_g 482 (by decide +kernel) rfl
theorem D_sh_renew_15 : DcS M_sh_renew M_ja_fillJ 15 18 := ⟨20, by decide +kernel, rfl, ml_sh_20, by decide, by decide⟩
theorem D_sh_renew_18 : Dc M_sh_renew 18 (.return_) 1 19 := ⟨by decide +kernel, rfl⟩
theorem D_sh_drop_0 : Dc M_sh_drop 0 (.aload_n 0) 1 1 := ⟨by decide +kernel, rfl⟩
theorem D_sh_drop_1 : Dc M_sh_drop 1 (.iconst (-1)) 1 2 := ⟨by decide +kernel, rfl⟩
theorem D_sh_drop_2 : Dp M_sh_drop 2 5 3 0 R_sh T_sh 3 := ⟨9, by decide +kernel, rfl, rfl, by decide, fl_sh_9, in_sh, rfl⟩
theorem D_sh_drop_5 : Dc M_sh_drop 5 (.aload_n 0) 1 6 := ⟨by decide +kernel, rfl⟩
theorem D_sh_drop_6 : Dc M_sh_drop 6 (.iconst 0) 1 7 := ⟨by decide +kernel, rfl⟩
theorem D_sh_drop_7 : Dp M_sh_drop 7 10 3 1 R_sh T_sh 3 := ⟨17, by decide +kernel, rfl, rfl, by decide, fl_sh_17, in_sh, rfl⟩
theorem D_sh_drop_10 : Dc M_sh_drop 10 (.return_) 1 11 := ⟨by decide +kernel, rfl⟩
theorem D_sh_write_0 : Dc M_sh_write 0 (.aload_n 0) 1 1 := ⟨by decide +kernel, rfl⟩
theorem D_sh_write_1 : Dg M_sh_write 1 4 3 0 R_sh T_sh 3 := ⟨9, by decide +kernel, rfl, rfl, by decide, fl_sh_9, in_sh⟩
theorem D_sh_write_4 : Dj M_sh_write 4 (.ifCond .ne) 7 20 := ⟨16, by decide +kernel, rfl, by decide⟩
theorem D_sh_write_7 : Dc M_sh_write 7 (.aload_n 0) 1 8 := ⟨by decide +kernel, rfl⟩
theorem D_sh_write_8 : Dg M_sh_write 8 11 3 2 R_sh T_sh 3 := ⟨13, by decide +kernel, rfl, rfl, by decide, fl_sh_13, in_sh⟩
theorem D_sh_write_11 : Dc M_sh_write 11 (.iload_n 1) 1 12 := ⟨by decide +kernel, rfl⟩
theorem D_sh_write_12 : Dc M_sh_write 12 (.lload_n 2) 1 13 := ⟨by decide +kernel, rfl⟩
theorem D_sh_write_13 : Dc M_sh_write 13 (.l2i) 1 14 := ⟨by decide +kernel, rfl⟩
theorem D_sh_write_14 : Dc M_sh_write 14 (.i2b) 1 15 := ⟨by decide +kernel, rfl⟩
theorem D_sh_write_15 : Dc M_sh_write 15 (.i2l) 1 16 := ⟨by decide +kernel, rfl⟩
theorem D_sh_write_16 : Dc M_sh_write 16 (.lastore) 1 17 := ⟨by decide +kernel, rfl⟩
theorem D_sh_write_17 : Dj M_sh_write 17 (.goto) 20 47 := ⟨30, by decide +kernel, rfl, by decide⟩
theorem D_sh_write_20 : Dc M_sh_write 20 (.aload_n 0) 1 21 := ⟨by decide +kernel, rfl⟩
theorem D_sh_write_21 : Dg M_sh_write 21 24 3 0 R_sh T_sh 3 := ⟨9, by decide +kernel, rfl, rfl, by decide, fl_sh_9, in_sh⟩
theorem D_sh_write_24 : Dc M_sh_write 24 (.iconst 1) 1 25 := ⟨by decide +kernel, rfl⟩
theorem D_sh_write_25 : Dj M_sh_write 25 (.if_icmp .ne) 28 40 := ⟨15, by decide +kernel, rfl, by decide⟩
theorem D_sh_write_28 : Dc M_sh_write 28 (.aload_n 0) 1 29 := ⟨by decide +kernel, rfl⟩
theorem D_sh_write_29 : Dg M_sh_write 29 32 3 2 R_sh T_sh 3 := ⟨13, by decide +kernel, rfl, rfl, by decide, fl_sh_13, in_sh⟩
theorem D_sh_write_32 : Dc M_sh_write 32 (.iload_n 1) 1 33 := ⟨by decide +kernel, rfl⟩
theorem D_sh_write_33 : Dc M_sh_write 33 (.lload_n 2) 1 34 := ⟨by decide +kernel, rfl⟩
theorem D_sh_write_34 : Dc M_sh_write 34 (.l2i) 1 35 := ⟨by decide +kernel, rfl⟩
theorem D_sh_write_35 : Dc M_sh_write 35 (.i2l) 1 36 := ⟨by decide +kernel, rfl⟩
theorem D_sh_write_36 : Dc M_sh_write 36 (.lastore) 1 37 := ⟨by decide +kernel, rfl⟩
theorem D_sh_write_37 : Dj M_sh_write 37 (.goto) 40 47 := ⟨10, by decide +kernel, rfl, by decide⟩
theorem D_sh_write_40 : Dc M_sh_write 40 (.aload_n 0) 1 41 := ⟨by decide +kernel, rfl⟩
theorem D_sh_write_41 : Dg M_sh_write 41 44 3 2 R_sh T_sh 3 := ⟨13, by decide +kernel, rfl, rfl, by decide, fl_sh_13, in_sh⟩
theorem D_sh_write_44 : Dc M_sh_write 44 (.iload_n 1) 1 45 := ⟨by decide +kernel, rfl⟩
theorem D_sh_write_45 : Dc M_sh_write 45 (.lload_n 2) 1 46 := ⟨by decide +kernel, rfl⟩
theorem D_sh_write_46 : Dc M_sh_write 46 (.lastore) 1 47 := ⟨by decide +kernel, rfl⟩
theorem D_sh_write_47 : Dc M_sh_write 47 (.return_) 1 48 := ⟨by decide +kernel, rfl⟩
theorem D_sh_bitAt_0 : Dc M_sh_bitAt 0 (.aload_n 0) 1 1 := ⟨by decide +kernel, rfl⟩
theorem D_sh_bitAt_1 : Dg M_sh_bitAt 1 4 3 2 R_sh T_sh 3 := ⟨13, by decide +kernel, rfl, rfl, by decide, fl_sh_13, in_sh⟩
theorem D_sh_bitAt_4 : Dc M_sh_bitAt 4 (.iload_n 1) 1 5 := ⟨by decide +kernel, rfl⟩
theorem D_sh_bitAt_5 : Dc M_sh_bitAt 5 (.laload) 1 6 := ⟨by decide +kernel, rfl⟩
theorem D_sh_bitAt_6 : Dc M_sh_bitAt 6 (.lconst 1) 1 7 := ⟨by decide +kernel, rfl⟩
theorem D_sh_bitAt_7 : Dc M_sh_bitAt 7 (.land) 1 8 := ⟨by decide +kernel, rfl⟩
theorem D_sh_bitAt_8 : Dc M_sh_bitAt 8 (.l2i) 1 9 := ⟨by decide +kernel, rfl⟩
theorem D_sh_bitAt_9 : Dc M_sh_bitAt 9 (.ireturn) 1 10 := ⟨by decide +kernel, rfl⟩
theorem D_sh_becomeThinned_0 : Dc M_sh_becomeThinned 0 (.iload_n 2) 1 1 := ⟨by decide +kernel, rfl⟩
theorem D_sh_becomeThinned_1 : Dc M_sh_becomeThinned 1 (.iconst 1) 1 2 := ⟨by decide +kernel, rfl⟩
theorem D_sh_becomeThinned_2 : Dj M_sh_becomeThinned 2 (.if_icmp .ge) 5 9 := ⟨7, by decide +kernel, rfl, by decide⟩
theorem D_sh_becomeThinned_5 : Dc M_sh_becomeThinned 5 (.iconst 0) 1 6 := ⟨by decide +kernel, rfl⟩
theorem D_sh_becomeThinned_6 : Dj M_sh_becomeThinned 6 (.goto) 9 19 := ⟨13, by decide +kernel, rfl, by decide⟩
theorem D_sh_becomeThinned_9 : Dc M_sh_becomeThinned 9 (.aload_n 1) 1 10 := ⟨by decide +kernel, rfl⟩
theorem D_sh_becomeThinned_10 : Dg M_sh_becomeThinned 10 13 3 1 R_sh T_sh 3 := ⟨17, by decide +kernel, rfl, rfl, by decide, fl_sh_17, in_sh⟩
theorem D_sh_becomeThinned_13 : Dc M_sh_becomeThinned 13 (.iload_n 2) 1 14 := ⟨by decide +kernel, rfl⟩
theorem D_sh_becomeThinned_14 : Dc M_sh_becomeThinned 14 (.iadd) 1 15 := ⟨by decide +kernel, rfl⟩
theorem D_sh_becomeThinned_15 : Dc M_sh_becomeThinned 15 (.iconst 1) 1 16 := ⟨by decide +kernel, rfl⟩
theorem D_sh_becomeThinned_16 : Dc M_sh_becomeThinned 16 (.isub) 1 17 := ⟨by decide +kernel, rfl⟩
theorem D_sh_becomeThinned_17 : Dc M_sh_becomeThinned 17 (.iload_n 2) 1 18 := ⟨by decide +kernel, rfl⟩
theorem D_sh_becomeThinned_18 : Dc M_sh_becomeThinned 18 (.idiv) 1 19 := ⟨by decide +kernel, rfl⟩
theorem D_sh_becomeThinned_19 : Dc M_sh_becomeThinned 19 (.istore_n 3) 1 20 := ⟨by decide +kernel, rfl⟩
theorem D_sh_becomeThinned_20 : Dc M_sh_becomeThinned 20 (.iconst 0) 1 21 := ⟨by decide +kernel, rfl⟩
theorem D_sh_becomeThinned_21 : Dc M_sh_becomeThinned 21 (.istore 4) 2 23 := ⟨by decide +kernel, rfl⟩
theorem D_sh_becomeThinned_23 : Dc M_sh_becomeThinned 23 (.iload 4) 2 25 := ⟨by decide +kernel, rfl⟩
theorem D_sh_becomeThinned_25 : Dc M_sh_becomeThinned 25 (.iload_n 3) 1 26 := ⟨by decide +kernel, rfl⟩
theorem D_sh_becomeThinned_26 : Dj M_sh_becomeThinned 26 (.if_icmp .ge) 29 51 := ⟨25, by decide +kernel, rfl, by decide⟩
theorem D_sh_becomeThinned_29 : Dc M_sh_becomeThinned 29 (.aload_n 0) 1 30 := ⟨by decide +kernel, rfl⟩
theorem D_sh_becomeThinned_30 : Dg M_sh_becomeThinned 30 33 3 2 R_sh T_sh 3 := ⟨13, by decide +kernel, rfl, rfl, by decide, fl_sh_13, in_sh⟩
theorem D_sh_becomeThinned_33 : Dc M_sh_becomeThinned 33 (.iload 4) 2 35 := ⟨by decide +kernel, rfl⟩
theorem D_sh_becomeThinned_35 : Dc M_sh_becomeThinned 35 (.aload_n 1) 1 36 := ⟨by decide +kernel, rfl⟩
theorem D_sh_becomeThinned_36 : Dg M_sh_becomeThinned 36 39 3 2 R_sh T_sh 3 := ⟨13, by decide +kernel, rfl, rfl, by decide, fl_sh_13, in_sh⟩
theorem D_sh_becomeThinned_39 : Dc M_sh_becomeThinned 39 (.iload 4) 2 41 := ⟨by decide +kernel, rfl⟩
theorem D_sh_becomeThinned_41 : Dc M_sh_becomeThinned 41 (.iload_n 2) 1 42 := ⟨by decide +kernel, rfl⟩
theorem D_sh_becomeThinned_42 : Dc M_sh_becomeThinned 42 (.imul) 1 43 := ⟨by decide +kernel, rfl⟩
theorem D_sh_becomeThinned_43 : Dc M_sh_becomeThinned 43 (.laload) 1 44 := ⟨by decide +kernel, rfl⟩
theorem D_sh_becomeThinned_44 : Dc M_sh_becomeThinned 44 (.lastore) 1 45 := ⟨by decide +kernel, rfl⟩
theorem D_sh_becomeThinned_45 : Dc M_sh_becomeThinned 45 (.iinc 4 1) 3 48 := ⟨by decide +kernel, rfl⟩
theorem D_sh_becomeThinned_48 : Dj M_sh_becomeThinned 48 (.goto) 51 23 := ⟨(-25), by decide +kernel, rfl, by decide⟩
theorem D_sh_becomeThinned_51 : Dc M_sh_becomeThinned 51 (.aload_n 0) 1 52 := ⟨by decide +kernel, rfl⟩
theorem D_sh_becomeThinned_52 : Dc M_sh_becomeThinned 52 (.aload_n 1) 1 53 := ⟨by decide +kernel, rfl⟩
theorem D_sh_becomeThinned_53 : Dg M_sh_becomeThinned 53 56 3 0 R_sh T_sh 3 := ⟨9, by decide +kernel, rfl, rfl, by decide, fl_sh_9, in_sh⟩
theorem D_sh_becomeThinned_56 : Dp M_sh_becomeThinned 56 59 3 0 R_sh T_sh 3 := ⟨9, by decide +kernel, rfl, rfl, by decide, fl_sh_9, in_sh, rfl⟩
theorem D_sh_becomeThinned_59 : Dc M_sh_becomeThinned 59 (.aload_n 0) 1 60 := ⟨by decide +kernel, rfl⟩
theorem D_sh_becomeThinned_60 : Dc M_sh_becomeThinned 60 (.iload_n 3) 1 61 := ⟨by decide +kernel, rfl⟩
theorem D_sh_becomeThinned_61 : Dp M_sh_becomeThinned 61 64 3 1 R_sh T_sh 3 := ⟨17, by decide +kernel, rfl, rfl, by decide, fl_sh_17, in_sh, rfl⟩
theorem D_sh_becomeThinned_64 : Dc M_sh_becomeThinned 64 (.return_) 1 65 := ⟨by decide +kernel, rfl⟩
theorem D_sh_mixWith_0 : Dc M_sh_mixWith 0 (.aload_n 0) 1 1 := ⟨by decide +kernel, rfl⟩
theorem D_sh_mixWith_1 : Dg M_sh_mixWith 1 4 3 1 R_sh T_sh 3 := ⟨17, by decide +kernel, rfl, rfl, by decide, fl_sh_17, in_sh⟩
theorem D_sh_mixWith_4 : Dc M_sh_mixWith 4 (.aload_n 1) 1 5 := ⟨by decide +kernel, rfl⟩
theorem D_sh_mixWith_5 : Dg M_sh_mixWith 5 8 3 1 R_sh T_sh 3 := ⟨17, by decide +kernel, rfl, rfl, by decide, fl_sh_17, in_sh⟩
theorem ml_sh_26 : Cond.methodLink R_sh 26 M_jm_min.1 ∈ gtb := mem_g 524 (by decide +kernel) rfl
theorem D_sh_mixWith_8 : DcS M_sh_mixWith M_jm_min 8 11 := ⟨26, by decide +kernel, rfl, ml_sh_26, by decide, by decide⟩
theorem D_sh_mixWith_11 : Dc M_sh_mixWith 11 (.istore_n 3) 1 12 := ⟨by decide +kernel, rfl⟩
theorem D_sh_mixWith_12 : Dc M_sh_mixWith 12 (.iconst 0) 1 13 := ⟨by decide +kernel, rfl⟩
theorem D_sh_mixWith_13 : Dc M_sh_mixWith 13 (.istore 4) 2 15 := ⟨by decide +kernel, rfl⟩
theorem D_sh_mixWith_15 : Dc M_sh_mixWith 15 (.iload 4) 2 17 := ⟨by decide +kernel, rfl⟩
theorem D_sh_mixWith_17 : Dc M_sh_mixWith 17 (.iload_n 3) 1 18 := ⟨by decide +kernel, rfl⟩
theorem D_sh_mixWith_18 : Dj M_sh_mixWith 18 (.if_icmp .ge) 21 68 := ⟨50, by decide +kernel, rfl, by decide⟩
theorem D_sh_mixWith_21 : Dc M_sh_mixWith 21 (.aload_n 0) 1 22 := ⟨by decide +kernel, rfl⟩
theorem D_sh_mixWith_22 : Dc M_sh_mixWith 22 (.iload 4) 2 24 := ⟨by decide +kernel, rfl⟩
theorem ml_sh_32 : Cond.methodLink R_sh 32 M_sh_bitAt.1 ∈ gtb := mem_g 527 (by decide +kernel) rfl
theorem D_sh_mixWith_24 : DcV M_sh_mixWith M_sh_bitAt 24 27 := ⟨32, by decide +kernel, rfl, ml_sh_32, by decide, by decide⟩
theorem D_sh_mixWith_27 : Dc M_sh_mixWith 27 (.istore 5) 2 29 := ⟨by decide +kernel, rfl⟩
theorem D_sh_mixWith_29 : Dc M_sh_mixWith 29 (.aload_n 1) 1 30 := ⟨by decide +kernel, rfl⟩
theorem D_sh_mixWith_30 : Dc M_sh_mixWith 30 (.iload 4) 2 32 := ⟨by decide +kernel, rfl⟩
theorem D_sh_mixWith_32 : DcV M_sh_mixWith M_sh_bitAt 32 35 := ⟨32, by decide +kernel, rfl, ml_sh_32, by decide, by decide⟩
theorem D_sh_mixWith_35 : Dc M_sh_mixWith 35 (.istore 6) 2 37 := ⟨by decide +kernel, rfl⟩
theorem D_sh_mixWith_37 : Dc M_sh_mixWith 37 (.aload_n 0) 1 38 := ⟨by decide +kernel, rfl⟩
theorem D_sh_mixWith_38 : Dc M_sh_mixWith 38 (.iload 4) 2 40 := ⟨by decide +kernel, rfl⟩
theorem D_sh_mixWith_40 : Dc M_sh_mixWith 40 (.iload_n 2) 1 41 := ⟨by decide +kernel, rfl⟩
theorem D_sh_mixWith_41 : Dj M_sh_mixWith 41 (.ifCond .ne) 44 53 := ⟨12, by decide +kernel, rfl, by decide⟩
theorem D_sh_mixWith_44 : Dc M_sh_mixWith 44 (.iload 5) 2 46 := ⟨by decide +kernel, rfl⟩
theorem D_sh_mixWith_46 : Dc M_sh_mixWith 46 (.iload 6) 2 48 := ⟨by decide +kernel, rfl⟩
theorem D_sh_mixWith_48 : Dc M_sh_mixWith 48 (.ixor) 1 49 := ⟨by decide +kernel, rfl⟩
theorem D_sh_mixWith_49 : Dc M_sh_mixWith 49 (.i2l) 1 50 := ⟨by decide +kernel, rfl⟩
theorem D_sh_mixWith_50 : Dj M_sh_mixWith 50 (.goto) 53 59 := ⟨9, by decide +kernel, rfl, by decide⟩
theorem D_sh_mixWith_53 : Dc M_sh_mixWith 53 (.iload 5) 2 55 := ⟨by decide +kernel, rfl⟩
theorem D_sh_mixWith_55 : Dc M_sh_mixWith 55 (.iload 6) 2 57 := ⟨by decide +kernel, rfl⟩
theorem D_sh_mixWith_57 : Dc M_sh_mixWith 57 (.iand) 1 58 := ⟨by decide +kernel, rfl⟩
theorem D_sh_mixWith_58 : Dc M_sh_mixWith 58 (.i2l) 1 59 := ⟨by decide +kernel, rfl⟩
theorem ml_sh_36 : Cond.methodLink R_sh 36 M_sh_write.1 ∈ gtb := mem_g 528 (by decide +kernel) rfl
theorem D_sh_mixWith_59 : DcV M_sh_mixWith M_sh_write 59 62 := ⟨36, by decide +kernel, rfl, ml_sh_36, by decide, by decide⟩
theorem D_sh_mixWith_62 : Dc M_sh_mixWith 62 (.iinc 4 1) 3 65 := ⟨by decide +kernel, rfl⟩
theorem D_sh_mixWith_65 : Dj M_sh_mixWith 65 (.goto) 68 15 := ⟨(-50), by decide +kernel, rfl, by decide⟩
theorem D_sh_mixWith_68 : Dc M_sh_mixWith 68 (.iload_n 3) 1 69 := ⟨by decide +kernel, rfl⟩
theorem D_sh_mixWith_69 : Dc M_sh_mixWith 69 (.ireturn) 1 70 := ⟨by decide +kernel, rfl⟩
end
section
theorem D_tr_init_0 : Dc M_tr_init 0 (.aload_n 0) 1 1 := ⟨by decide +kernel, rfl⟩
theorem D_tr_init_1 : Do M_tr_init 1 4 := ⟨1, by decide +kernel, rfl, by decide +kernel, by decide +kernel, by decide +kernel, by decide, by decide⟩
theorem D_tr_init_4 : Dc M_tr_init 4 (.aload_n 0) 1 5 := ⟨by decide +kernel, rfl⟩
theorem D_tr_init_5 : Dc M_tr_init 5 (.iconst 0) 1 6 := ⟨by decide +kernel, rfl⟩
theorem D_tr_init_6 : Dc M_tr_init 6 (.newarray .long) 2 8 := ⟨by decide +kernel, rfl⟩
theorem fl_tr_7 : Cond.fieldLink R_tr 7 (T_tr 0).1 (T_tr 0).2.1 (T_tr 0).2.2.1 ∈ gtb := mem_g 145 (by decide +kernel) rfl
theorem D_tr_init_8 : Dp M_tr_init 8 11 4 0 R_tr T_tr 2 := ⟨7, by decide +kernel, rfl, rfl, by decide, fl_tr_7, in_tr, rfl⟩
theorem D_tr_init_11 : Dc M_tr_init 11 (.return_) 1 12 := ⟨by decide +kernel, rfl⟩
theorem D_tr_count_0 : Dc M_tr_count 0 (.aload_n 0) 1 1 := ⟨by decide +kernel, rfl⟩
theorem D_tr_count_1 : Dc M_tr_count 1 (.aload_n 2) 1 2 := ⟨by decide +kernel, rfl⟩
theorem fl_tr_13 : Cond.fieldLink R_tr 13 (T_ri 0).1 (T_ri 0).2.1 (T_ri 0).2.2.1 ∈ gtb := mem_g 94 (by decide +kernel) rfl
theorem D_tr_count_2 : Dg M_tr_count 2 5 1 0 R_ri T_ri 11 := ⟨13, by decide +kernel, rfl, rfl, by decide, fl_tr_13, in_ri⟩
theorem D_tr_count_5 : Dc M_tr_count 5 (.iconst 1) 1 6 := ⟨by decide +kernel, rfl⟩
theorem D_tr_count_6 : Dc M_tr_count 6 (.isub) 1 7 := ⟨by decide +kernel, rfl⟩
theorem fl_tr_19 : Cond.fieldLink R_tr 19 (T_tr 1).1 (T_tr 1).2.1 (T_tr 1).2.2.1 ∈ gtb := mem_g 146 (by decide +kernel) rfl
theorem D_tr_count_7 : Dp M_tr_count 7 10 4 1 R_tr T_tr 2 := ⟨19, by decide +kernel, rfl, rfl, by decide, fl_tr_19, in_tr, rfl⟩
theorem D_tr_count_10 : Dc M_tr_count 10 (.aload_n 0) 1 11 := ⟨by decide +kernel, rfl⟩
theorem D_tr_count_11 : Dg M_tr_count 11 14 4 1 R_tr T_tr 2 := ⟨19, by decide +kernel, rfl, rfl, by decide, fl_tr_19, in_tr⟩
theorem D_tr_count_14 : Dc M_tr_count 14 (.iconst 1) 1 15 := ⟨by decide +kernel, rfl⟩
theorem D_tr_count_15 : Dj M_tr_count 15 (.if_icmp .ge) 18 20 := ⟨5, by decide +kernel, rfl, by decide⟩
theorem D_tr_count_18 : Dc M_tr_count 18 (.iconst 1) 1 19 := ⟨by decide +kernel, rfl⟩
theorem D_tr_count_19 : Dc M_tr_count 19 (.ireturn) 1 20 := ⟨by decide +kernel, rfl⟩
theorem D_tr_count_20 : Dc M_tr_count 20 (.aload_n 0) 1 21 := ⟨by decide +kernel, rfl⟩
theorem ml_tr_22 : Cond.methodLink R_tr 22 M_tr_clear.1 ∈ gtb := mem_g 429 (by decide +kernel) rfl
theorem D_tr_count_21 : DcV M_tr_count M_tr_clear 21 24 := ⟨22, by decide +kernel, rfl, ml_tr_22, by decide, by decide⟩
theorem D_tr_count_24 : Dc M_tr_count 24 (.iconst 0) 1 25 := ⟨by decide +kernel, rfl⟩
theorem D_tr_count_25 : Dc M_tr_count 25 (.istore_n 3) 1 26 := ⟨by decide +kernel, rfl⟩
theorem D_tr_count_26 : Dc M_tr_count 26 (.iload_n 3) 1 27 := ⟨by decide +kernel, rfl⟩
theorem D_tr_count_27 : Dc M_tr_count 27 (.aload_n 1) 1 28 := ⟨by decide +kernel, rfl⟩
theorem fl_tr_25 : Cond.fieldLink R_tr 25 (T_rg 1).1 (T_rg 1).2.1 (T_rg 1).2.2.1 ∈ gtb := mem_g 68 (by decide +kernel) rfl
theorem D_tr_count_28 : Dg M_tr_count 28 31 0 1 R_rg T_rg 5 := ⟨25, by decide +kernel, rfl, rfl, by decide, fl_tr_25, in_rg⟩
theorem D_tr_count_31 : Dc M_tr_count 31 (.iconst 2) 1 32 := ⟨by decide +kernel, rfl⟩
theorem D_tr_count_32 : Dc M_tr_count 32 (.idiv) 1 33 := ⟨by decide +kernel, rfl⟩
theorem D_tr_count_33 : Dj M_tr_count 33 (.if_icmp .ge) 36 79 := ⟨46, by decide +kernel, rfl, by decide⟩
theorem D_tr_count_36 : Dc M_tr_count 36 (.aload_n 2) 1 37 := ⟨by decide +kernel, rfl⟩
theorem fl_tr_30 : Cond.fieldLink R_tr 30 (T_ri 4).1 (T_ri 4).2.1 (T_ri 4).2.2.1 ∈ gtb := mem_g 104 (by decide +kernel) rfl
theorem D_tr_count_37 : Dg M_tr_count 37 40 1 4 R_ri T_ri 11 := ⟨30, by decide +kernel, rfl, rfl, by decide, fl_tr_30, in_ri⟩
theorem D_tr_count_40 : Dc M_tr_count 40 (.iconst 2) 1 41 := ⟨by decide +kernel, rfl⟩
theorem D_tr_count_41 : Dc M_tr_count 41 (.iload_n 3) 1 42 := ⟨by decide +kernel, rfl⟩
theorem D_tr_count_42 : Dc M_tr_count 42 (.imul) 1 43 := ⟨by decide +kernel, rfl⟩
theorem D_tr_count_43 : Dc M_tr_count 43 (.iaload) 1 44 := ⟨by decide +kernel, rfl⟩
theorem D_tr_count_44 : Dc M_tr_count 44 (.istore 4) 2 46 := ⟨by decide +kernel, rfl⟩
theorem D_tr_count_46 : Dc M_tr_count 46 (.aload_n 2) 1 47 := ⟨by decide +kernel, rfl⟩
theorem D_tr_count_47 : Dg M_tr_count 47 50 1 4 R_ri T_ri 11 := ⟨30, by decide +kernel, rfl, rfl, by decide, fl_tr_30, in_ri⟩
theorem D_tr_count_50 : Dc M_tr_count 50 (.iconst 2) 1 51 := ⟨by decide +kernel, rfl⟩
theorem D_tr_count_51 : Dc M_tr_count 51 (.iload_n 3) 1 52 := ⟨by decide +kernel, rfl⟩
theorem D_tr_count_52 : Dc M_tr_count 52 (.imul) 1 53 := ⟨by decide +kernel, rfl⟩
theorem D_tr_count_53 : Dc M_tr_count 53 (.iconst 1) 1 54 := ⟨by decide +kernel, rfl⟩
theorem D_tr_count_54 : Dc M_tr_count 54 (.iadd) 1 55 := ⟨by decide +kernel, rfl⟩
theorem D_tr_count_55 : Dc M_tr_count 55 (.iaload) 1 56 := ⟨by decide +kernel, rfl⟩
theorem D_tr_count_56 : Dc M_tr_count 56 (.istore 5) 2 58 := ⟨by decide +kernel, rfl⟩
theorem D_tr_count_58 : Dc M_tr_count 58 (.iload 4) 2 60 := ⟨by decide +kernel, rfl⟩
theorem D_tr_count_60 : Dc M_tr_count 60 (.iload 5) 2 62 := ⟨by decide +kernel, rfl⟩
theorem D_tr_count_62 : Dj M_tr_count 62 (.if_icmp .eq) 65 73 := ⟨11, by decide +kernel, rfl, by decide⟩
theorem D_tr_count_65 : Dc M_tr_count 65 (.aload_n 0) 1 66 := ⟨by decide +kernel, rfl⟩
theorem D_tr_count_66 : Dc M_tr_count 66 (.iload 4) 2 68 := ⟨by decide +kernel, rfl⟩
theorem D_tr_count_68 : Dc M_tr_count 68 (.iload 5) 2 70 := ⟨by decide +kernel, rfl⟩
theorem ml_tr_34 : Cond.methodLink R_tr 34 M_tr_addPair.1 ∈ gtb := mem_g 436 (by decide +kernel) rfl
theorem D_tr_count_70 : DcV M_tr_count M_tr_addPair 70 73 := ⟨34, by decide +kernel, rfl, ml_tr_34, by decide, by decide⟩
theorem D_tr_count_73 : Dc M_tr_count 73 (.iinc 3 1) 3 76 := ⟨by decide +kernel, rfl⟩
theorem D_tr_count_76 : Dj M_tr_count 76 (.goto) 79 26 := ⟨(-50), by decide +kernel, rfl, by decide⟩
theorem D_tr_count_79 : Dc M_tr_count 79 (.aload_n 0) 1 80 := ⟨by decide +kernel, rfl⟩
theorem ml_tr_38 : Cond.methodLink R_tr 38 M_tr_determinant.1 ∈ gtb := mem_g 446 (by decide +kernel) rfl
theorem D_tr_count_80 : DcV M_tr_count M_tr_determinant 80 83 := ⟨38, by decide +kernel, rfl, ml_tr_38, by decide, by decide⟩
theorem D_tr_count_83 : Dc M_tr_count 83 (.l2i) 1 84 := ⟨by decide +kernel, rfl⟩
theorem D_tr_count_84 : Dc M_tr_count 84 (.ireturn) 1 85 := ⟨by decide +kernel, rfl⟩
theorem D_tr_clear_0 : Dc M_tr_clear 0 (.aload_n 0) 1 1 := ⟨by decide +kernel, rfl⟩
theorem D_tr_clear_1 : Dg M_tr_clear 1 4 4 0 R_tr T_tr 2 := ⟨7, by decide +kernel, rfl, rfl, by decide, fl_tr_7, in_tr⟩
theorem D_tr_clear_4 : Dc M_tr_clear 4 (.arraylength) 1 5 := ⟨by decide +kernel, rfl⟩
theorem D_tr_clear_5 : Dc M_tr_clear 5 (.aload_n 0) 1 6 := ⟨by decide +kernel, rfl⟩
theorem D_tr_clear_6 : Dg M_tr_clear 6 9 4 1 R_tr T_tr 2 := ⟨19, by decide +kernel, rfl, rfl, by decide, fl_tr_19, in_tr⟩
theorem D_tr_clear_9 : Dc M_tr_clear 9 (.aload_n 0) 1 10 := ⟨by decide +kernel, rfl⟩
theorem D_tr_clear_10 : Dg M_tr_clear 10 13 4 1 R_tr T_tr 2 := ⟨19, by decide +kernel, rfl, rfl, by decide, fl_tr_19, in_tr⟩
theorem D_tr_clear_13 : Dc M_tr_clear 13 (.imul) 1 14 := ⟨by decide +kernel, rfl⟩
theorem D_tr_clear_14 : Dj M_tr_clear 14 (.if_icmp .ge) 17 32 := ⟨18, by decide +kernel, rfl, by decide⟩
theorem D_tr_clear_17 : Dc M_tr_clear 17 (.aload_n 0) 1 18 := ⟨by decide +kernel, rfl⟩
theorem D_tr_clear_18 : Dc M_tr_clear 18 (.aload_n 0) 1 19 := ⟨by decide +kernel, rfl⟩
theorem D_tr_clear_19 : Dg M_tr_clear 19 22 4 1 R_tr T_tr 2 := ⟨19, by decide +kernel, rfl, rfl, by decide, fl_tr_19, in_tr⟩
theorem D_tr_clear_22 : Dc M_tr_clear 22 (.aload_n 0) 1 23 := ⟨by decide +kernel, rfl⟩
theorem D_tr_clear_23 : Dg M_tr_clear 23 26 4 1 R_tr T_tr 2 := ⟨19, by decide +kernel, rfl, rfl, by decide, fl_tr_19, in_tr⟩
theorem D_tr_clear_26 : Dc M_tr_clear 26 (.imul) 1 27 := ⟨by decide +kernel, rfl⟩
theorem D_tr_clear_27 : Dc M_tr_clear 27 (.newarray .long) 2 29 := ⟨by decide +kernel, rfl⟩
theorem D_tr_clear_29 : Dp M_tr_clear 29 32 4 0 R_tr T_tr 2 := ⟨7, by decide +kernel, rfl, rfl, by decide, fl_tr_7, in_tr, rfl⟩
theorem D_tr_clear_32 : Dc M_tr_clear 32 (.aload_n 0) 1 33 := ⟨by decide +kernel, rfl⟩
theorem D_tr_clear_33 : Dg M_tr_clear 33 36 4 0 R_tr T_tr 2 := ⟨7, by decide +kernel, rfl, rfl, by decide, fl_tr_7, in_tr⟩
theorem D_tr_clear_36 : Dc M_tr_clear 36 (.lconst 0) 1 37 := ⟨by decide +kernel, rfl⟩
theorem ml_tr_42 : Cond.methodLink R_tr 42 M_ja_fillJ.1 ∈ gtb := mem_g 433 (by decide +kernel) rfl
theorem D_tr_clear_37 : DcS M_tr_clear M_ja_fillJ 37 40 := ⟨42, by decide +kernel, rfl, ml_tr_42, by decide, by decide⟩
theorem D_tr_clear_40 : Dc M_tr_clear 40 (.return_) 1 41 := ⟨by decide +kernel, rfl⟩
theorem D_tr_addPair_0 : Dc M_tr_addPair 0 (.iload_n 1) 1 1 := ⟨by decide +kernel, rfl⟩
theorem D_tr_addPair_1 : Dc M_tr_addPair 1 (.aload_n 0) 1 2 := ⟨by decide +kernel, rfl⟩
theorem D_tr_addPair_2 : Dg M_tr_addPair 2 5 4 1 R_tr T_tr 2 := ⟨19, by decide +kernel, rfl, rfl, by decide, fl_tr_19, in_tr⟩
theorem D_tr_addPair_5 : Dj M_tr_addPair 5 (.if_icmp .ge) 8 15 := ⟨10, by decide +kernel, rfl, by decide⟩
theorem D_tr_addPair_8 : Dc M_tr_addPair 8 (.aload_n 0) 1 9 := ⟨by decide +kernel, rfl⟩
theorem D_tr_addPair_9 : Dc M_tr_addPair 9 (.iload_n 1) 1 10 := ⟨by decide +kernel, rfl⟩
theorem D_tr_addPair_10 : Dc M_tr_addPair 10 (.iload_n 1) 1 11 := ⟨by decide +kernel, rfl⟩
theorem D_tr_addPair_11 : Dc M_tr_addPair 11 (.lconst 1) 1 12 := ⟨by decide +kernel, rfl⟩
theorem ml_tr_48 : Cond.methodLink R_tr 48 M_tr_add.1 ∈ gtb := mem_g 440 (by decide +kernel) rfl
theorem D_tr_addPair_12 : DcV M_tr_addPair M_tr_add 12 15 := ⟨48, by decide +kernel, rfl, ml_tr_48, by decide, by decide⟩
theorem D_tr_addPair_15 : Dc M_tr_addPair 15 (.iload_n 2) 1 16 := ⟨by decide +kernel, rfl⟩
theorem D_tr_addPair_16 : Dc M_tr_addPair 16 (.aload_n 0) 1 17 := ⟨by decide +kernel, rfl⟩
theorem D_tr_addPair_17 : Dg M_tr_addPair 17 20 4 1 R_tr T_tr 2 := ⟨19, by decide +kernel, rfl, rfl, by decide, fl_tr_19, in_tr⟩
theorem D_tr_addPair_20 : Dj M_tr_addPair 20 (.if_icmp .ge) 23 30 := ⟨10, by decide +kernel, rfl, by decide⟩
theorem D_tr_addPair_23 : Dc M_tr_addPair 23 (.aload_n 0) 1 24 := ⟨by decide +kernel, rfl⟩
theorem D_tr_addPair_24 : Dc M_tr_addPair 24 (.iload_n 2) 1 25 := ⟨by decide +kernel, rfl⟩
theorem D_tr_addPair_25 : Dc M_tr_addPair 25 (.iload_n 2) 1 26 := ⟨by decide +kernel, rfl⟩
theorem D_tr_addPair_26 : Dc M_tr_addPair 26 (.lconst 1) 1 27 := ⟨by decide +kernel, rfl⟩
theorem D_tr_addPair_27 : DcV M_tr_addPair M_tr_add 27 30 := ⟨48, by decide +kernel, rfl, ml_tr_48, by decide, by decide⟩
theorem D_tr_addPair_30 : Dc M_tr_addPair 30 (.iload_n 1) 1 31 := ⟨by decide +kernel, rfl⟩
theorem D_tr_addPair_31 : Dc M_tr_addPair 31 (.aload_n 0) 1 32 := ⟨by decide +kernel, rfl⟩
theorem D_tr_addPair_32 : Dg M_tr_addPair 32 35 4 1 R_tr T_tr 2 := ⟨19, by decide +kernel, rfl, rfl, by decide, fl_tr_19, in_tr⟩
theorem D_tr_addPair_35 : Dj M_tr_addPair 35 (.if_icmp .ge) 38 64 := ⟨29, by decide +kernel, rfl, by decide⟩
theorem D_tr_addPair_38 : Dc M_tr_addPair 38 (.iload_n 2) 1 39 := ⟨by decide +kernel, rfl⟩
theorem D_tr_addPair_39 : Dc M_tr_addPair 39 (.aload_n 0) 1 40 := ⟨by decide +kernel, rfl⟩
theorem D_tr_addPair_40 : Dg M_tr_addPair 40 43 4 1 R_tr T_tr 2 := ⟨19, by decide +kernel, rfl, rfl, by decide, fl_tr_19, in_tr⟩
theorem D_tr_addPair_43 : Dj M_tr_addPair 43 (.if_icmp .ge) 46 64 := ⟨21, by decide +kernel, rfl, by decide⟩
theorem D_tr_addPair_46 : Dc M_tr_addPair 46 (.aload_n 0) 1 47 := ⟨by decide +kernel, rfl⟩
theorem D_tr_addPair_47 : Dc M_tr_addPair 47 (.iload_n 1) 1 48 := ⟨by decide +kernel, rfl⟩
theorem D_tr_addPair_48 : Dc M_tr_addPair 48 (.iload_n 2) 1 49 := ⟨by decide +kernel, rfl⟩
theorem D_tr_addPair_49 : Dl M_tr_addPair 49 52 (lN 1000002) := ⟨52, by decide +kernel, rfl, by decide +kernel⟩
theorem D_tr_addPair_52 : DcV M_tr_addPair M_tr_add 52 55 := ⟨48, by decide +kernel, rfl, ml_tr_48, by decide, by decide⟩
theorem D_tr_addPair_55 : Dc M_tr_addPair 55 (.aload_n 0) 1 56 := ⟨by decide +kernel, rfl⟩
theorem D_tr_addPair_56 : Dc M_tr_addPair 56 (.iload_n 2) 1 57 := ⟨by decide +kernel, rfl⟩
theorem D_tr_addPair_57 : Dc M_tr_addPair 57 (.iload_n 1) 1 58 := ⟨by decide +kernel, rfl⟩
theorem D_tr_addPair_58 : Dl M_tr_addPair 58 61 (lN 1000002) := ⟨52, by decide +kernel, rfl, by decide +kernel⟩
theorem D_tr_addPair_61 : DcV M_tr_addPair M_tr_add 61 64 := ⟨48, by decide +kernel, rfl, ml_tr_48, by decide, by decide⟩
theorem D_tr_addPair_64 : Dc M_tr_addPair 64 (.return_) 1 65 := ⟨by decide +kernel, rfl⟩
theorem D_tr_add_0 : Dc M_tr_add 0 (.iload_n 1) 1 1 := ⟨by decide +kernel, rfl⟩
theorem D_tr_add_1 : Dc M_tr_add 1 (.aload_n 0) 1 2 := ⟨by decide +kernel, rfl⟩
theorem D_tr_add_2 : Dg M_tr_add 2 5 4 1 R_tr T_tr 2 := ⟨19, by decide +kernel, rfl, rfl, by decide, fl_tr_19, in_tr⟩
theorem D_tr_add_5 : Dc M_tr_add 5 (.imul) 1 6 := ⟨by decide +kernel, rfl⟩
theorem D_tr_add_6 : Dc M_tr_add 6 (.iload_n 2) 1 7 := ⟨by decide +kernel, rfl⟩
theorem D_tr_add_7 : Dc M_tr_add 7 (.iadd) 1 8 := ⟨by decide +kernel, rfl⟩
theorem D_tr_add_8 : Dc M_tr_add 8 (.istore 5) 2 10 := ⟨by decide +kernel, rfl⟩
theorem D_tr_add_10 : Dc M_tr_add 10 (.aload_n 0) 1 11 := ⟨by decide +kernel, rfl⟩
theorem D_tr_add_11 : Dg M_tr_add 11 14 4 0 R_tr T_tr 2 := ⟨7, by decide +kernel, rfl, rfl, by decide, fl_tr_7, in_tr⟩
theorem D_tr_add_14 : Dc M_tr_add 14 (.iload 5) 2 16 := ⟨by decide +kernel, rfl⟩
theorem D_tr_add_16 : Dc M_tr_add 16 (.aload_n 0) 1 17 := ⟨by decide +kernel, rfl⟩
theorem D_tr_add_17 : Dg M_tr_add 17 20 4 0 R_tr T_tr 2 := ⟨7, by decide +kernel, rfl, rfl, by decide, fl_tr_7, in_tr⟩
theorem D_tr_add_20 : Dc M_tr_add 20 (.iload 5) 2 22 := ⟨by decide +kernel, rfl⟩
theorem D_tr_add_22 : Dc M_tr_add 22 (.laload) 1 23 := ⟨by decide +kernel, rfl⟩
theorem D_tr_add_23 : Dc M_tr_add 23 (.lload_n 3) 1 24 := ⟨by decide +kernel, rfl⟩
theorem D_tr_add_24 : Dc M_tr_add 24 (.ladd) 1 25 := ⟨by decide +kernel, rfl⟩
theorem D_tr_add_25 : Dl M_tr_add 25 28 (lN 1000003) := ⟨54, by decide +kernel, rfl, by decide +kernel⟩
theorem D_tr_add_28 : Dc M_tr_add 28 (.lrem) 1 29 := ⟨by decide +kernel, rfl⟩
theorem D_tr_add_29 : Dc M_tr_add 29 (.lastore) 1 30 := ⟨by decide +kernel, rfl⟩
theorem D_tr_add_30 : Dc M_tr_add 30 (.return_) 1 31 := ⟨by decide +kernel, rfl⟩
theorem D_tr_determinant_0 : Dc M_tr_determinant 0 (.lconst 1) 1 1 := ⟨by decide +kernel, rfl⟩
theorem D_tr_determinant_1 : Dc M_tr_determinant 1 (.lstore_n 1) 1 2 := ⟨by decide +kernel, rfl⟩
theorem D_tr_determinant_2 : Dc M_tr_determinant 2 (.iconst 0) 1 3 := ⟨by decide +kernel, rfl⟩
theorem D_tr_determinant_3 : Dc M_tr_determinant 3 (.istore_n 3) 1 4 := ⟨by decide +kernel, rfl⟩
theorem D_tr_determinant_4 : Dc M_tr_determinant 4 (.iload_n 3) 1 5 := ⟨by decide +kernel, rfl⟩
theorem D_tr_determinant_5 : Dc M_tr_determinant 5 (.aload_n 0) 1 6 := ⟨by decide +kernel, rfl⟩
theorem D_tr_determinant_6 : Dg M_tr_determinant 6 9 4 1 R_tr T_tr 2 := ⟨19, by decide +kernel, rfl, rfl, by decide, fl_tr_19, in_tr⟩
theorem D_tr_determinant_9 : Dj M_tr_determinant 9 (.if_icmp .ge) 12 85 := ⟨76, by decide +kernel, rfl, by decide⟩
theorem D_tr_determinant_12 : Dc M_tr_determinant 12 (.aload_n 0) 1 13 := ⟨by decide +kernel, rfl⟩
theorem D_tr_determinant_13 : Dc M_tr_determinant 13 (.iload_n 3) 1 14 := ⟨by decide +kernel, rfl⟩
theorem ml_tr_56 : Cond.methodLink R_tr 56 M_tr_pivotRow.1 ∈ gtb := mem_g 450 (by decide +kernel) rfl
theorem D_tr_determinant_14 : DcV M_tr_determinant M_tr_pivotRow 14 17 := ⟨56, by decide +kernel, rfl, ml_tr_56, by decide, by decide⟩
theorem D_tr_determinant_17 : Dc M_tr_determinant 17 (.istore 4) 2 19 := ⟨by decide +kernel, rfl⟩
theorem D_tr_determinant_19 : Dc M_tr_determinant 19 (.iload 4) 2 21 := ⟨by decide +kernel, rfl⟩
theorem D_tr_determinant_21 : Dj M_tr_determinant 21 (.ifCond .ge) 24 26 := ⟨5, by decide +kernel, rfl, by decide⟩
theorem D_tr_determinant_24 : Dc M_tr_determinant 24 (.lconst 0) 1 25 := ⟨by decide +kernel, rfl⟩
theorem D_tr_determinant_25 : Dc M_tr_determinant 25 (.lreturn) 1 26 := ⟨by decide +kernel, rfl⟩
theorem D_tr_determinant_26 : Dc M_tr_determinant 26 (.iload 4) 2 28 := ⟨by decide +kernel, rfl⟩
theorem D_tr_determinant_28 : Dc M_tr_determinant 28 (.iload_n 3) 1 29 := ⟨by decide +kernel, rfl⟩
theorem D_tr_determinant_29 : Dj M_tr_determinant 29 (.if_icmp .eq) 32 45 := ⟨16, by decide +kernel, rfl, by decide⟩
theorem D_tr_determinant_32 : Dc M_tr_determinant 32 (.aload_n 0) 1 33 := ⟨by decide +kernel, rfl⟩
theorem D_tr_determinant_33 : Dc M_tr_determinant 33 (.iload 4) 2 35 := ⟨by decide +kernel, rfl⟩
theorem D_tr_determinant_35 : Dc M_tr_determinant 35 (.iload_n 3) 1 36 := ⟨by decide +kernel, rfl⟩
theorem ml_tr_60 : Cond.methodLink R_tr 60 M_tr_swapRows.1 ∈ gtb := mem_g 454 (by decide +kernel) rfl
theorem D_tr_determinant_36 : DcV M_tr_determinant M_tr_swapRows 36 39 := ⟨60, by decide +kernel, rfl, ml_tr_60, by decide, by decide⟩
theorem D_tr_determinant_39 : Dl M_tr_determinant 39 42 (lN 1000003) := ⟨54, by decide +kernel, rfl, by decide +kernel⟩
theorem D_tr_determinant_42 : Dc M_tr_determinant 42 (.lload_n 1) 1 43 := ⟨by decide +kernel, rfl⟩
theorem D_tr_determinant_43 : Dc M_tr_determinant 43 (.lsub) 1 44 := ⟨by decide +kernel, rfl⟩
theorem D_tr_determinant_44 : Dc M_tr_determinant 44 (.lstore_n 1) 1 45 := ⟨by decide +kernel, rfl⟩
theorem D_tr_determinant_45 : Dc M_tr_determinant 45 (.aload_n 0) 1 46 := ⟨by decide +kernel, rfl⟩
theorem D_tr_determinant_46 : Dg M_tr_determinant 46 49 4 0 R_tr T_tr 2 := ⟨7, by decide +kernel, rfl, rfl, by decide, fl_tr_7, in_tr⟩
theorem D_tr_determinant_49 : Dc M_tr_determinant 49 (.iload_n 3) 1 50 := ⟨by decide +kernel, rfl⟩
theorem D_tr_determinant_50 : Dc M_tr_determinant 50 (.aload_n 0) 1 51 := ⟨by decide +kernel, rfl⟩
theorem D_tr_determinant_51 : Dg M_tr_determinant 51 54 4 1 R_tr T_tr 2 := ⟨19, by decide +kernel, rfl, rfl, by decide, fl_tr_19, in_tr⟩
theorem D_tr_determinant_54 : Dc M_tr_determinant 54 (.imul) 1 55 := ⟨by decide +kernel, rfl⟩
theorem D_tr_determinant_55 : Dc M_tr_determinant 55 (.iload_n 3) 1 56 := ⟨by decide +kernel, rfl⟩
theorem D_tr_determinant_56 : Dc M_tr_determinant 56 (.iadd) 1 57 := ⟨by decide +kernel, rfl⟩
theorem D_tr_determinant_57 : Dc M_tr_determinant 57 (.laload) 1 58 := ⟨by decide +kernel, rfl⟩
theorem D_tr_determinant_58 : Dc M_tr_determinant 58 (.lstore 5) 2 60 := ⟨by decide +kernel, rfl⟩
theorem D_tr_determinant_60 : Dc M_tr_determinant 60 (.lload_n 1) 1 61 := ⟨by decide +kernel, rfl⟩
theorem D_tr_determinant_61 : Dc M_tr_determinant 61 (.lload 5) 2 63 := ⟨by decide +kernel, rfl⟩
theorem D_tr_determinant_63 : Dc M_tr_determinant 63 (.lmul) 1 64 := ⟨by decide +kernel, rfl⟩
theorem D_tr_determinant_64 : Dl M_tr_determinant 64 67 (lN 1000003) := ⟨54, by decide +kernel, rfl, by decide +kernel⟩
theorem D_tr_determinant_67 : Dc M_tr_determinant 67 (.lrem) 1 68 := ⟨by decide +kernel, rfl⟩
theorem D_tr_determinant_68 : Dc M_tr_determinant 68 (.lstore_n 1) 1 69 := ⟨by decide +kernel, rfl⟩
theorem D_tr_determinant_69 : Dc M_tr_determinant 69 (.aload_n 0) 1 70 := ⟨by decide +kernel, rfl⟩
theorem D_tr_determinant_70 : Dc M_tr_determinant 70 (.iload_n 3) 1 71 := ⟨by decide +kernel, rfl⟩
theorem D_tr_determinant_71 : Dc M_tr_determinant 71 (.lload 5) 2 73 := ⟨by decide +kernel, rfl⟩
theorem ml_tr_63 : Cond.methodLink R_tr 63 M_tr_inverse.1 ∈ gtb := mem_g 458 (by decide +kernel) rfl
theorem D_tr_determinant_73 : DcS M_tr_determinant M_tr_inverse 73 76 := ⟨63, by decide +kernel, rfl, ml_tr_63, by decide, by decide⟩
theorem ml_tr_67 : Cond.methodLink R_tr 67 M_tr_clearBelow.1 ∈ gtb := mem_g 462 (by decide +kernel) rfl
theorem D_tr_determinant_76 : DcV M_tr_determinant M_tr_clearBelow 76 79 := ⟨67, by decide +kernel, rfl, ml_tr_67, by decide, by decide⟩
theorem D_tr_determinant_79 : Dc M_tr_determinant 79 (.iinc 3 1) 3 82 := ⟨by decide +kernel, rfl⟩
theorem D_tr_determinant_82 : Dj M_tr_determinant 82 (.goto) 85 4 := ⟨(-78), by decide +kernel, rfl, by decide⟩
theorem D_tr_determinant_85 : Dc M_tr_determinant 85 (.lload_n 1) 1 86 := ⟨by decide +kernel, rfl⟩
theorem D_tr_determinant_86 : Dc M_tr_determinant 86 (.lreturn) 1 87 := ⟨by decide +kernel, rfl⟩
theorem D_tr_pivotRow_0 : Dc M_tr_pivotRow 0 (.iload_n 1) 1 1 := ⟨by decide +kernel, rfl⟩
theorem D_tr_pivotRow_1 : Dc M_tr_pivotRow 1 (.istore_n 2) 1 2 := ⟨by decide +kernel, rfl⟩
theorem D_tr_pivotRow_2 : Dc M_tr_pivotRow 2 (.iload_n 2) 1 3 := ⟨by decide +kernel, rfl⟩
theorem D_tr_pivotRow_3 : Dc M_tr_pivotRow 3 (.aload_n 0) 1 4 := ⟨by decide +kernel, rfl⟩
theorem D_tr_pivotRow_4 : Dg M_tr_pivotRow 4 7 4 1 R_tr T_tr 2 := ⟨19, by decide +kernel, rfl, rfl, by decide, fl_tr_19, in_tr⟩
theorem D_tr_pivotRow_7 : Dj M_tr_pivotRow 7 (.if_icmp .ge) 10 36 := ⟨29, by decide +kernel, rfl, by decide⟩
theorem D_tr_pivotRow_10 : Dc M_tr_pivotRow 10 (.aload_n 0) 1 11 := ⟨by decide +kernel, rfl⟩
theorem D_tr_pivotRow_11 : Dg M_tr_pivotRow 11 14 4 0 R_tr T_tr 2 := ⟨7, by decide +kernel, rfl, rfl, by decide, fl_tr_7, in_tr⟩
theorem D_tr_pivotRow_14 : Dc M_tr_pivotRow 14 (.iload_n 2) 1 15 := ⟨by decide +kernel, rfl⟩
theorem D_tr_pivotRow_15 : Dc M_tr_pivotRow 15 (.aload_n 0) 1 16 := ⟨by decide +kernel, rfl⟩
theorem D_tr_pivotRow_16 : Dg M_tr_pivotRow 16 19 4 1 R_tr T_tr 2 := ⟨19, by decide +kernel, rfl, rfl, by decide, fl_tr_19, in_tr⟩
theorem D_tr_pivotRow_19 : Dc M_tr_pivotRow 19 (.imul) 1 20 := ⟨by decide +kernel, rfl⟩
theorem D_tr_pivotRow_20 : Dc M_tr_pivotRow 20 (.iload_n 1) 1 21 := ⟨by decide +kernel, rfl⟩
theorem D_tr_pivotRow_21 : Dc M_tr_pivotRow 21 (.iadd) 1 22 := ⟨by decide +kernel, rfl⟩
theorem D_tr_pivotRow_22 : Dc M_tr_pivotRow 22 (.laload) 1 23 := ⟨by decide +kernel, rfl⟩
theorem D_tr_pivotRow_23 : Dc M_tr_pivotRow 23 (.lconst 0) 1 24 := ⟨by decide +kernel, rfl⟩
theorem D_tr_pivotRow_24 : Dc M_tr_pivotRow 24 (.lcmp) 1 25 := ⟨by decide +kernel, rfl⟩
theorem D_tr_pivotRow_25 : Dj M_tr_pivotRow 25 (.ifCond .eq) 28 30 := ⟨5, by decide +kernel, rfl, by decide⟩
theorem D_tr_pivotRow_28 : Dc M_tr_pivotRow 28 (.iload_n 2) 1 29 := ⟨by decide +kernel, rfl⟩
theorem D_tr_pivotRow_29 : Dc M_tr_pivotRow 29 (.ireturn) 1 30 := ⟨by decide +kernel, rfl⟩
theorem D_tr_pivotRow_30 : Dc M_tr_pivotRow 30 (.iinc 2 1) 3 33 := ⟨by decide +kernel, rfl⟩
theorem D_tr_pivotRow_33 : Dj M_tr_pivotRow 33 (.goto) 36 2 := ⟨(-31), by decide +kernel, rfl, by decide⟩
theorem D_tr_pivotRow_36 : Dc M_tr_pivotRow 36 (.iconst (-1)) 1 37 := ⟨by decide +kernel, rfl⟩
theorem D_tr_pivotRow_37 : Dc M_tr_pivotRow 37 (.ireturn) 1 38 := ⟨by decide +kernel, rfl⟩
theorem D_tr_swapRows_0 : Dc M_tr_swapRows 0 (.iload_n 2) 1 1 := ⟨by decide +kernel, rfl⟩
theorem D_tr_swapRows_1 : Dc M_tr_swapRows 1 (.istore_n 3) 1 2 := ⟨by decide +kernel, rfl⟩
theorem D_tr_swapRows_2 : Dc M_tr_swapRows 2 (.iload_n 3) 1 3 := ⟨by decide +kernel, rfl⟩
theorem D_tr_swapRows_3 : Dc M_tr_swapRows 3 (.aload_n 0) 1 4 := ⟨by decide +kernel, rfl⟩
theorem D_tr_swapRows_4 : Dg M_tr_swapRows 4 7 4 1 R_tr T_tr 2 := ⟨19, by decide +kernel, rfl, rfl, by decide, fl_tr_19, in_tr⟩
theorem D_tr_swapRows_7 : Dj M_tr_swapRows 7 (.if_icmp .ge) 10 72 := ⟨65, by decide +kernel, rfl, by decide⟩
theorem D_tr_swapRows_10 : Dc M_tr_swapRows 10 (.aload_n 0) 1 11 := ⟨by decide +kernel, rfl⟩
theorem D_tr_swapRows_11 : Dg M_tr_swapRows 11 14 4 0 R_tr T_tr 2 := ⟨7, by decide +kernel, rfl, rfl, by decide, fl_tr_7, in_tr⟩
theorem D_tr_swapRows_14 : Dc M_tr_swapRows 14 (.iload_n 1) 1 15 := ⟨by decide +kernel, rfl⟩
theorem D_tr_swapRows_15 : Dc M_tr_swapRows 15 (.aload_n 0) 1 16 := ⟨by decide +kernel, rfl⟩
theorem D_tr_swapRows_16 : Dg M_tr_swapRows 16 19 4 1 R_tr T_tr 2 := ⟨19, by decide +kernel, rfl, rfl, by decide, fl_tr_19, in_tr⟩
theorem D_tr_swapRows_19 : Dc M_tr_swapRows 19 (.imul) 1 20 := ⟨by decide +kernel, rfl⟩
theorem D_tr_swapRows_20 : Dc M_tr_swapRows 20 (.iload_n 3) 1 21 := ⟨by decide +kernel, rfl⟩
theorem D_tr_swapRows_21 : Dc M_tr_swapRows 21 (.iadd) 1 22 := ⟨by decide +kernel, rfl⟩
theorem D_tr_swapRows_22 : Dc M_tr_swapRows 22 (.laload) 1 23 := ⟨by decide +kernel, rfl⟩
theorem D_tr_swapRows_23 : Dc M_tr_swapRows 23 (.lstore 4) 2 25 := ⟨by decide +kernel, rfl⟩
theorem D_tr_swapRows_25 : Dc M_tr_swapRows 25 (.aload_n 0) 1 26 := ⟨by decide +kernel, rfl⟩
theorem D_tr_swapRows_26 : Dg M_tr_swapRows 26 29 4 0 R_tr T_tr 2 := ⟨7, by decide +kernel, rfl, rfl, by decide, fl_tr_7, in_tr⟩
theorem D_tr_swapRows_29 : Dc M_tr_swapRows 29 (.iload_n 1) 1 30 := ⟨by decide +kernel, rfl⟩
theorem D_tr_swapRows_30 : Dc M_tr_swapRows 30 (.aload_n 0) 1 31 := ⟨by decide +kernel, rfl⟩
theorem D_tr_swapRows_31 : Dg M_tr_swapRows 31 34 4 1 R_tr T_tr 2 := ⟨19, by decide +kernel, rfl, rfl, by decide, fl_tr_19, in_tr⟩
theorem D_tr_swapRows_34 : Dc M_tr_swapRows 34 (.imul) 1 35 := ⟨by decide +kernel, rfl⟩
theorem D_tr_swapRows_35 : Dc M_tr_swapRows 35 (.iload_n 3) 1 36 := ⟨by decide +kernel, rfl⟩
theorem D_tr_swapRows_36 : Dc M_tr_swapRows 36 (.iadd) 1 37 := ⟨by decide +kernel, rfl⟩
theorem D_tr_swapRows_37 : Dc M_tr_swapRows 37 (.aload_n 0) 1 38 := ⟨by decide +kernel, rfl⟩
theorem D_tr_swapRows_38 : Dg M_tr_swapRows 38 41 4 0 R_tr T_tr 2 := ⟨7, by decide +kernel, rfl, rfl, by decide, fl_tr_7, in_tr⟩
theorem D_tr_swapRows_41 : Dc M_tr_swapRows 41 (.iload_n 2) 1 42 := ⟨by decide +kernel, rfl⟩
theorem D_tr_swapRows_42 : Dc M_tr_swapRows 42 (.aload_n 0) 1 43 := ⟨by decide +kernel, rfl⟩
theorem D_tr_swapRows_43 : Dg M_tr_swapRows 43 46 4 1 R_tr T_tr 2 := ⟨19, by decide +kernel, rfl, rfl, by decide, fl_tr_19, in_tr⟩
theorem D_tr_swapRows_46 : Dc M_tr_swapRows 46 (.imul) 1 47 := ⟨by decide +kernel, rfl⟩
theorem D_tr_swapRows_47 : Dc M_tr_swapRows 47 (.iload_n 3) 1 48 := ⟨by decide +kernel, rfl⟩
theorem D_tr_swapRows_48 : Dc M_tr_swapRows 48 (.iadd) 1 49 := ⟨by decide +kernel, rfl⟩
theorem D_tr_swapRows_49 : Dc M_tr_swapRows 49 (.laload) 1 50 := ⟨by decide +kernel, rfl⟩
theorem D_tr_swapRows_50 : Dc M_tr_swapRows 50 (.lastore) 1 51 := ⟨by decide +kernel, rfl⟩
theorem D_tr_swapRows_51 : Dc M_tr_swapRows 51 (.aload_n 0) 1 52 := ⟨by decide +kernel, rfl⟩
theorem D_tr_swapRows_52 : Dg M_tr_swapRows 52 55 4 0 R_tr T_tr 2 := ⟨7, by decide +kernel, rfl, rfl, by decide, fl_tr_7, in_tr⟩
theorem D_tr_swapRows_55 : Dc M_tr_swapRows 55 (.iload_n 2) 1 56 := ⟨by decide +kernel, rfl⟩
theorem D_tr_swapRows_56 : Dc M_tr_swapRows 56 (.aload_n 0) 1 57 := ⟨by decide +kernel, rfl⟩
theorem D_tr_swapRows_57 : Dg M_tr_swapRows 57 60 4 1 R_tr T_tr 2 := ⟨19, by decide +kernel, rfl, rfl, by decide, fl_tr_19, in_tr⟩
theorem D_tr_swapRows_60 : Dc M_tr_swapRows 60 (.imul) 1 61 := ⟨by decide +kernel, rfl⟩
theorem D_tr_swapRows_61 : Dc M_tr_swapRows 61 (.iload_n 3) 1 62 := ⟨by decide +kernel, rfl⟩
theorem D_tr_swapRows_62 : Dc M_tr_swapRows 62 (.iadd) 1 63 := ⟨by decide +kernel, rfl⟩
theorem D_tr_swapRows_63 : Dc M_tr_swapRows 63 (.lload 4) 2 65 := ⟨by decide +kernel, rfl⟩
theorem D_tr_swapRows_65 : Dc M_tr_swapRows 65 (.lastore) 1 66 := ⟨by decide +kernel, rfl⟩
theorem D_tr_swapRows_66 : Dc M_tr_swapRows 66 (.iinc 3 1) 3 69 := ⟨by decide +kernel, rfl⟩
theorem D_tr_swapRows_69 : Dj M_tr_swapRows 69 (.goto) 72 2 := ⟨(-67), by decide +kernel, rfl, by decide⟩
theorem D_tr_swapRows_72 : Dc M_tr_swapRows 72 (.return_) 1 73 := ⟨by decide +kernel, rfl⟩
theorem D_tr_clearBelow_0 : Dc M_tr_clearBelow 0 (.iload_n 1) 1 1 := ⟨by decide +kernel, rfl⟩
theorem D_tr_clearBelow_1 : Dc M_tr_clearBelow 1 (.iconst 1) 1 2 := ⟨by decide +kernel, rfl⟩
theorem D_tr_clearBelow_2 : Dc M_tr_clearBelow 2 (.iadd) 1 3 := ⟨by decide +kernel, rfl⟩
theorem D_tr_clearBelow_3 : Dc M_tr_clearBelow 3 (.istore 4) 2 5 := ⟨by decide +kernel, rfl⟩
theorem D_tr_clearBelow_5 : Dc M_tr_clearBelow 5 (.iload 4) 2 7 := ⟨by decide +kernel, rfl⟩
theorem D_tr_clearBelow_7 : Dc M_tr_clearBelow 7 (.aload_n 0) 1 8 := ⟨by decide +kernel, rfl⟩
theorem D_tr_clearBelow_8 : Dg M_tr_clearBelow 8 11 4 1 R_tr T_tr 2 := ⟨19, by decide +kernel, rfl, rfl, by decide, fl_tr_19, in_tr⟩
theorem D_tr_clearBelow_11 : Dj M_tr_clearBelow 11 (.if_icmp .ge) 14 119 := ⟨108, by decide +kernel, rfl, by decide⟩
theorem D_tr_clearBelow_14 : Dl M_tr_clearBelow 14 17 (lN 1000003) := ⟨54, by decide +kernel, rfl, by decide +kernel⟩
theorem D_tr_clearBelow_17 : Dc M_tr_clearBelow 17 (.aload_n 0) 1 18 := ⟨by decide +kernel, rfl⟩
theorem D_tr_clearBelow_18 : Dg M_tr_clearBelow 18 21 4 0 R_tr T_tr 2 := ⟨7, by decide +kernel, rfl, rfl, by decide, fl_tr_7, in_tr⟩
theorem D_tr_clearBelow_21 : Dc M_tr_clearBelow 21 (.iload 4) 2 23 := ⟨by decide +kernel, rfl⟩
theorem D_tr_clearBelow_23 : Dc M_tr_clearBelow 23 (.aload_n 0) 1 24 := ⟨by decide +kernel, rfl⟩
theorem D_tr_clearBelow_24 : Dg M_tr_clearBelow 24 27 4 1 R_tr T_tr 2 := ⟨19, by decide +kernel, rfl, rfl, by decide, fl_tr_19, in_tr⟩
theorem D_tr_clearBelow_27 : Dc M_tr_clearBelow 27 (.imul) 1 28 := ⟨by decide +kernel, rfl⟩
theorem D_tr_clearBelow_28 : Dc M_tr_clearBelow 28 (.iload_n 1) 1 29 := ⟨by decide +kernel, rfl⟩
theorem D_tr_clearBelow_29 : Dc M_tr_clearBelow 29 (.iadd) 1 30 := ⟨by decide +kernel, rfl⟩
theorem D_tr_clearBelow_30 : Dc M_tr_clearBelow 30 (.laload) 1 31 := ⟨by decide +kernel, rfl⟩
theorem D_tr_clearBelow_31 : Dc M_tr_clearBelow 31 (.lsub) 1 32 := ⟨by decide +kernel, rfl⟩
theorem D_tr_clearBelow_32 : Dc M_tr_clearBelow 32 (.lload_n 2) 1 33 := ⟨by decide +kernel, rfl⟩
theorem D_tr_clearBelow_33 : Dc M_tr_clearBelow 33 (.lmul) 1 34 := ⟨by decide +kernel, rfl⟩
theorem D_tr_clearBelow_34 : Dl M_tr_clearBelow 34 37 (lN 1000003) := ⟨54, by decide +kernel, rfl, by decide +kernel⟩
theorem D_tr_clearBelow_37 : Dc M_tr_clearBelow 37 (.lrem) 1 38 := ⟨by decide +kernel, rfl⟩
theorem D_tr_clearBelow_38 : Dc M_tr_clearBelow 38 (.lstore 5) 2 40 := ⟨by decide +kernel, rfl⟩
theorem D_tr_clearBelow_40 : Dc M_tr_clearBelow 40 (.iload_n 1) 1 41 := ⟨by decide +kernel, rfl⟩
theorem D_tr_clearBelow_41 : Dc M_tr_clearBelow 41 (.istore 7) 2 43 := ⟨by decide +kernel, rfl⟩
theorem D_tr_clearBelow_43 : Dc M_tr_clearBelow 43 (.iload 7) 2 45 := ⟨by decide +kernel, rfl⟩
theorem D_tr_clearBelow_45 : Dc M_tr_clearBelow 45 (.aload_n 0) 1 46 := ⟨by decide +kernel, rfl⟩
theorem D_tr_clearBelow_46 : Dg M_tr_clearBelow 46 49 4 1 R_tr T_tr 2 := ⟨19, by decide +kernel, rfl, rfl, by decide, fl_tr_19, in_tr⟩
theorem D_tr_clearBelow_49 : Dj M_tr_clearBelow 49 (.if_icmp .ge) 52 113 := ⟨64, by decide +kernel, rfl, by decide⟩
theorem D_tr_clearBelow_52 : Dc M_tr_clearBelow 52 (.lload 5) 2 54 := ⟨by decide +kernel, rfl⟩
theorem D_tr_clearBelow_54 : Dc M_tr_clearBelow 54 (.lconst 0) 1 55 := ⟨by decide +kernel, rfl⟩
theorem D_tr_clearBelow_55 : Dc M_tr_clearBelow 55 (.lcmp) 1 56 := ⟨by decide +kernel, rfl⟩
theorem D_tr_clearBelow_56 : Dj M_tr_clearBelow 56 (.ifCond .eq) 59 113 := ⟨57, by decide +kernel, rfl, by decide⟩
theorem D_tr_clearBelow_59 : Dc M_tr_clearBelow 59 (.iload 4) 2 61 := ⟨by decide +kernel, rfl⟩
theorem D_tr_clearBelow_61 : Dc M_tr_clearBelow 61 (.aload_n 0) 1 62 := ⟨by decide +kernel, rfl⟩
theorem D_tr_clearBelow_62 : Dg M_tr_clearBelow 62 65 4 1 R_tr T_tr 2 := ⟨19, by decide +kernel, rfl, rfl, by decide, fl_tr_19, in_tr⟩
theorem D_tr_clearBelow_65 : Dc M_tr_clearBelow 65 (.imul) 1 66 := ⟨by decide +kernel, rfl⟩
theorem D_tr_clearBelow_66 : Dc M_tr_clearBelow 66 (.iload 7) 2 68 := ⟨by decide +kernel, rfl⟩
theorem D_tr_clearBelow_68 : Dc M_tr_clearBelow 68 (.iadd) 1 69 := ⟨by decide +kernel, rfl⟩
theorem D_tr_clearBelow_69 : Dc M_tr_clearBelow 69 (.istore 8) 2 71 := ⟨by decide +kernel, rfl⟩
theorem D_tr_clearBelow_71 : Dc M_tr_clearBelow 71 (.aload_n 0) 1 72 := ⟨by decide +kernel, rfl⟩
theorem D_tr_clearBelow_72 : Dg M_tr_clearBelow 72 75 4 0 R_tr T_tr 2 := ⟨7, by decide +kernel, rfl, rfl, by decide, fl_tr_7, in_tr⟩
theorem D_tr_clearBelow_75 : Dc M_tr_clearBelow 75 (.iload 8) 2 77 := ⟨by decide +kernel, rfl⟩
theorem D_tr_clearBelow_77 : Dc M_tr_clearBelow 77 (.aload_n 0) 1 78 := ⟨by decide +kernel, rfl⟩
theorem D_tr_clearBelow_78 : Dg M_tr_clearBelow 78 81 4 0 R_tr T_tr 2 := ⟨7, by decide +kernel, rfl, rfl, by decide, fl_tr_7, in_tr⟩
theorem D_tr_clearBelow_81 : Dc M_tr_clearBelow 81 (.iload 8) 2 83 := ⟨by decide +kernel, rfl⟩
theorem D_tr_clearBelow_83 : Dc M_tr_clearBelow 83 (.laload) 1 84 := ⟨by decide +kernel, rfl⟩
theorem D_tr_clearBelow_84 : Dc M_tr_clearBelow 84 (.lload 5) 2 86 := ⟨by decide +kernel, rfl⟩
theorem D_tr_clearBelow_86 : Dc M_tr_clearBelow 86 (.aload_n 0) 1 87 := ⟨by decide +kernel, rfl⟩
theorem D_tr_clearBelow_87 : Dg M_tr_clearBelow 87 90 4 0 R_tr T_tr 2 := ⟨7, by decide +kernel, rfl, rfl, by decide, fl_tr_7, in_tr⟩
theorem D_tr_clearBelow_90 : Dc M_tr_clearBelow 90 (.iload_n 1) 1 91 := ⟨by decide +kernel, rfl⟩
theorem D_tr_clearBelow_91 : Dc M_tr_clearBelow 91 (.aload_n 0) 1 92 := ⟨by decide +kernel, rfl⟩
theorem D_tr_clearBelow_92 : Dg M_tr_clearBelow 92 95 4 1 R_tr T_tr 2 := ⟨19, by decide +kernel, rfl, rfl, by decide, fl_tr_19, in_tr⟩
theorem D_tr_clearBelow_95 : Dc M_tr_clearBelow 95 (.imul) 1 96 := ⟨by decide +kernel, rfl⟩
theorem D_tr_clearBelow_96 : Dc M_tr_clearBelow 96 (.iload 7) 2 98 := ⟨by decide +kernel, rfl⟩
theorem D_tr_clearBelow_98 : Dc M_tr_clearBelow 98 (.iadd) 1 99 := ⟨by decide +kernel, rfl⟩
theorem D_tr_clearBelow_99 : Dc M_tr_clearBelow 99 (.laload) 1 100 := ⟨by decide +kernel, rfl⟩
theorem D_tr_clearBelow_100 : Dc M_tr_clearBelow 100 (.lmul) 1 101 := ⟨by decide +kernel, rfl⟩
theorem D_tr_clearBelow_101 : Dc M_tr_clearBelow 101 (.ladd) 1 102 := ⟨by decide +kernel, rfl⟩
theorem D_tr_clearBelow_102 : Dl M_tr_clearBelow 102 105 (lN 1000003) := ⟨54, by decide +kernel, rfl, by decide +kernel⟩
theorem D_tr_clearBelow_105 : Dc M_tr_clearBelow 105 (.lrem) 1 106 := ⟨by decide +kernel, rfl⟩
theorem D_tr_clearBelow_106 : Dc M_tr_clearBelow 106 (.lastore) 1 107 := ⟨by decide +kernel, rfl⟩
theorem D_tr_clearBelow_107 : Dc M_tr_clearBelow 107 (.iinc 7 1) 3 110 := ⟨by decide +kernel, rfl⟩
theorem D_tr_clearBelow_110 : Dj M_tr_clearBelow 110 (.goto) 113 43 := ⟨(-67), by decide +kernel, rfl, by decide⟩
theorem D_tr_clearBelow_113 : Dc M_tr_clearBelow 113 (.iinc 4 1) 3 116 := ⟨by decide +kernel, rfl⟩
theorem D_tr_clearBelow_116 : Dj M_tr_clearBelow 116 (.goto) 119 5 := ⟨(-111), by decide +kernel, rfl, by decide⟩
theorem D_tr_clearBelow_119 : Dc M_tr_clearBelow 119 (.return_) 1 120 := ⟨by decide +kernel, rfl⟩
theorem D_tr_inverse_0 : Dc M_tr_inverse 0 (.lconst 1) 1 1 := ⟨by decide +kernel, rfl⟩
theorem D_tr_inverse_1 : Dc M_tr_inverse 1 (.lstore_n 2) 1 2 := ⟨by decide +kernel, rfl⟩
theorem D_tr_inverse_2 : Dc M_tr_inverse 2 (.lload_n 0) 1 3 := ⟨by decide +kernel, rfl⟩
theorem D_tr_inverse_3 : Dc M_tr_inverse 3 (.lstore 4) 2 5 := ⟨by decide +kernel, rfl⟩
theorem D_tr_inverse_5 : Dk M_tr_inverse 5 7 (nI 1000001) := ⟨71, Or.inl ⟨by decide +kernel, rfl⟩, by decide +kernel⟩
theorem D_tr_inverse_7 : Dc M_tr_inverse 7 (.istore 6) 2 9 := ⟨by decide +kernel, rfl⟩
theorem D_tr_inverse_9 : Dc M_tr_inverse 9 (.iload 6) 2 11 := ⟨by decide +kernel, rfl⟩
theorem D_tr_inverse_11 : Dj M_tr_inverse 11 (.ifCond .le) 14 51 := ⟨40, by decide +kernel, rfl, by decide⟩
theorem D_tr_inverse_14 : Dc M_tr_inverse 14 (.iload 6) 2 16 := ⟨by decide +kernel, rfl⟩
theorem D_tr_inverse_16 : Dc M_tr_inverse 16 (.iconst 1) 1 17 := ⟨by decide +kernel, rfl⟩
theorem D_tr_inverse_17 : Dc M_tr_inverse 17 (.iand) 1 18 := ⟨by decide +kernel, rfl⟩
theorem D_tr_inverse_18 : Dc M_tr_inverse 18 (.iconst 1) 1 19 := ⟨by decide +kernel, rfl⟩
theorem D_tr_inverse_19 : Dj M_tr_inverse 19 (.if_icmp .ne) 22 31 := ⟨12, by decide +kernel, rfl, by decide⟩
theorem D_tr_inverse_22 : Dc M_tr_inverse 22 (.lload_n 2) 1 23 := ⟨by decide +kernel, rfl⟩
theorem D_tr_inverse_23 : Dc M_tr_inverse 23 (.lload 4) 2 25 := ⟨by decide +kernel, rfl⟩
theorem D_tr_inverse_25 : Dc M_tr_inverse 25 (.lmul) 1 26 := ⟨by decide +kernel, rfl⟩
theorem D_tr_inverse_26 : Dl M_tr_inverse 26 29 (lN 1000003) := ⟨54, by decide +kernel, rfl, by decide +kernel⟩
theorem D_tr_inverse_29 : Dc M_tr_inverse 29 (.lrem) 1 30 := ⟨by decide +kernel, rfl⟩
theorem D_tr_inverse_30 : Dc M_tr_inverse 30 (.lstore_n 2) 1 31 := ⟨by decide +kernel, rfl⟩
theorem D_tr_inverse_31 : Dc M_tr_inverse 31 (.lload 4) 2 33 := ⟨by decide +kernel, rfl⟩
theorem D_tr_inverse_33 : Dc M_tr_inverse 33 (.lload 4) 2 35 := ⟨by decide +kernel, rfl⟩
theorem D_tr_inverse_35 : Dc M_tr_inverse 35 (.lmul) 1 36 := ⟨by decide +kernel, rfl⟩
theorem D_tr_inverse_36 : Dl M_tr_inverse 36 39 (lN 1000003) := ⟨54, by decide +kernel, rfl, by decide +kernel⟩
theorem D_tr_inverse_39 : Dc M_tr_inverse 39 (.lrem) 1 40 := ⟨by decide +kernel, rfl⟩
theorem D_tr_inverse_40 : Dc M_tr_inverse 40 (.lstore 4) 2 42 := ⟨by decide +kernel, rfl⟩
theorem D_tr_inverse_42 : Dc M_tr_inverse 42 (.iload 6) 2 44 := ⟨by decide +kernel, rfl⟩
theorem D_tr_inverse_44 : Dc M_tr_inverse 44 (.iconst 1) 1 45 := ⟨by decide +kernel, rfl⟩
theorem D_tr_inverse_45 : Dc M_tr_inverse 45 (.ishr) 1 46 := ⟨by decide +kernel, rfl⟩
theorem D_tr_inverse_46 : Dc M_tr_inverse 46 (.istore 6) 2 48 := ⟨by decide +kernel, rfl⟩
theorem D_tr_inverse_48 : Dj M_tr_inverse 48 (.goto) 51 9 := ⟨(-39), by decide +kernel, rfl, by decide⟩
theorem D_tr_inverse_51 : Dc M_tr_inverse 51 (.lload_n 2) 1 52 := ⟨by decide +kernel, rfl⟩
theorem D_tr_inverse_52 : Dc M_tr_inverse 52 (.lreturn) 1 53 := ⟨by decide +kernel, rfl⟩
end
section
theorem D_br_init_0 : Dc M_br_init 0 (.aload_n 0) 1 1 := ⟨by decide +kernel, rfl⟩
theorem D_br_init_1 : Do M_br_init 1 4 := ⟨3, by decide +kernel, rfl, by decide +kernel, by decide +kernel, by decide +kernel, by decide, by decide⟩
theorem D_br_init_4 : Dc M_br_init 4 (.aload_n 0) 1 5 := ⟨by decide +kernel, rfl⟩
theorem D_br_init_5 : Dn M_br_init 5 8 0 R_rg T_rg 5 := ⟨9, by decide +kernel, rfl, rfl, by decide +kernel, by decide +kernel, by decide +kernel, in_rg⟩
theorem D_br_init_8 : Dc M_br_init 8 (.dup) 1 9 := ⟨by decide +kernel, rfl⟩
theorem D_br_init_9 : DcN M_br_init M_rg_init 9 12 := ⟨11, by decide +kernel, rfl, by decide +kernel, by decide, by decide⟩
theorem fl_br_12 : Cond.fieldLink R_br 12 (T_br 0).1 (T_br 0).2.1 (T_br 0).2.2.1 ∈ gtb := mem_g 200 (by decide +kernel) rfl
theorem D_br_init_12 : Df M_br_init 12 15 5 0 R_br T_br 7 := ⟨12, by decide +kernel, rfl, rfl, by decide, fl_br_12, in_br, rfl⟩
theorem D_br_init_15 : Dc M_br_init 15 (.aload_n 0) 1 16 := ⟨by decide +kernel, rfl⟩
theorem D_br_init_16 : Dn M_br_init 16 19 1 R_ri T_ri 11 := ⟨18, by decide +kernel, rfl, rfl, by decide +kernel, by decide +kernel, by decide +kernel, in_ri⟩
theorem D_br_init_19 : Dc M_br_init 19 (.dup) 1 20 := ⟨by decide +kernel, rfl⟩
theorem D_br_init_20 : DcN M_br_init M_ri_init 20 23 := ⟨20, by decide +kernel, rfl, by decide +kernel, by decide, by decide⟩
theorem fl_br_21 : Cond.fieldLink R_br 21 (T_br 1).1 (T_br 1).2.1 (T_br 1).2.2.1 ∈ gtb := mem_g 201 (by decide +kernel) rfl
theorem D_br_init_23 : Df M_br_init 23 26 5 1 R_br T_br 7 := ⟨21, by decide +kernel, rfl, rfl, by decide, fl_br_21, in_br, rfl⟩
theorem D_br_init_26 : Dc M_br_init 26 (.aload_n 0) 1 27 := ⟨by decide +kernel, rfl⟩
theorem D_br_init_27 : Dn M_br_init 27 30 4 R_tr T_tr 2 := ⟨25, by decide +kernel, rfl, rfl, by decide +kernel, by decide +kernel, by decide +kernel, in_tr⟩
theorem D_br_init_30 : Dc M_br_init 30 (.dup) 1 31 := ⟨by decide +kernel, rfl⟩
theorem D_br_init_31 : DcN M_br_init M_tr_init 31 34 := ⟨27, by decide +kernel, rfl, by decide +kernel, by decide, by decide⟩
theorem fl_br_28 : Cond.fieldLink R_br 28 (T_br 2).1 (T_br 2).2.1 (T_br 2).2.2.1 ∈ gtb := mem_g 202 (by decide +kernel) rfl
theorem D_br_init_34 : Df M_br_init 34 37 5 2 R_br T_br 7 := ⟨28, by decide +kernel, rfl, rfl, by decide, fl_br_28, in_br, rfl⟩
theorem D_br_init_37 : Dc M_br_init 37 (.aload_n 0) 1 38 := ⟨by decide +kernel, rfl⟩
theorem D_br_init_38 : Dc M_br_init 38 (.iconst 4) 1 39 := ⟨by decide +kernel, rfl⟩
theorem D_br_init_39 : Da M_br_init 39 42 "BitRings$Sheet" := ⟨32, by decide +kernel, rfl, by decide +kernel⟩
theorem fl_br_34 : Cond.fieldLink R_br 34 (T_br 3).1 (T_br 3).2.1 (T_br 3).2.2.1 ∈ gtb := mem_g 203 (by decide +kernel) rfl
theorem D_br_init_42 : Df M_br_init 42 45 5 3 R_br T_br 7 := ⟨34, by decide +kernel, rfl, rfl, by decide, fl_br_34, in_br, rfl⟩
theorem D_br_init_45 : Dc M_br_init 45 (.iconst 0) 1 46 := ⟨by decide +kernel, rfl⟩
theorem D_br_init_46 : Dc M_br_init 46 (.istore_n 1) 1 47 := ⟨by decide +kernel, rfl⟩
theorem D_br_init_47 : Dc M_br_init 47 (.iload_n 1) 1 48 := ⟨by decide +kernel, rfl⟩
theorem D_br_init_48 : Dc M_br_init 48 (.iconst 4) 1 49 := ⟨by decide +kernel, rfl⟩
theorem D_br_init_49 : Dj M_br_init 49 (.if_icmp .ge) 52 71 := ⟨22, by decide +kernel, rfl, by decide⟩
theorem D_br_init_52 : Dc M_br_init 52 (.aload_n 0) 1 53 := ⟨by decide +kernel, rfl⟩
theorem D_br_init_53 : Dg M_br_init 53 56 5 3 R_br T_br 7 := ⟨34, by decide +kernel, rfl, rfl, by decide, fl_br_34, in_br⟩
theorem D_br_init_56 : Dc M_br_init 56 (.iload_n 1) 1 57 := ⟨by decide +kernel, rfl⟩
theorem D_br_init_57 : Dn M_br_init 57 60 3 R_sh T_sh 3 := ⟨32, by decide +kernel, rfl, rfl, by decide +kernel, by decide +kernel, by decide +kernel, in_sh⟩
theorem D_br_init_60 : Dc M_br_init 60 (.dup) 1 61 := ⟨by decide +kernel, rfl⟩
theorem D_br_init_61 : DcN M_br_init M_sh_init 61 64 := ⟨38, by decide +kernel, rfl, by decide +kernel, by decide, by decide⟩
theorem D_br_init_64 : Dc M_br_init 64 (.aastore) 1 65 := ⟨by decide +kernel, rfl⟩
theorem D_br_init_65 : Dc M_br_init 65 (.iinc 1 1) 3 68 := ⟨by decide +kernel, rfl⟩
theorem D_br_init_68 : Dj M_br_init 68 (.goto) 71 47 := ⟨(-21), by decide +kernel, rfl, by decide⟩
theorem D_br_init_71 : Dc M_br_init 71 (.aload_n 0) 1 72 := ⟨by decide +kernel, rfl⟩
theorem D_br_init_72 : Dn M_br_init 72 75 2 R_rr T_rr 6 := ⟨39, by decide +kernel, rfl, rfl, by decide +kernel, by decide +kernel, by decide +kernel, in_rr⟩
theorem D_br_init_75 : Dc M_br_init 75 (.dup) 1 76 := ⟨by decide +kernel, rfl⟩
theorem D_br_init_76 : DcN M_br_init M_rr_init 76 79 := ⟨41, by decide +kernel, rfl, by decide +kernel, by decide, by decide⟩
theorem fl_br_42 : Cond.fieldLink R_br 42 (T_br 4).1 (T_br 4).2.1 (T_br 4).2.2.1 ∈ gtb := mem_g 204 (by decide +kernel) rfl
theorem D_br_init_79 : Df M_br_init 79 82 5 4 R_br T_br 7 := ⟨42, by decide +kernel, rfl, rfl, by decide, fl_br_42, in_br, rfl⟩
theorem D_br_init_82 : Dc M_br_init 82 (.return_) 1 83 := ⟨by decide +kernel, rfl⟩
theorem D_br_length_0 : Dc M_br_length 0 (.iload_n 1) 1 1 := ⟨by decide +kernel, rfl⟩
theorem D_br_length_1 : Dc M_br_length 1 (.iconst 2) 1 2 := ⟨by decide +kernel, rfl⟩
theorem D_br_length_2 : Dj M_br_length 2 (.if_icmp .lt) 5 11 := ⟨9, by decide +kernel, rfl, by decide⟩
theorem D_br_length_5 : Dc M_br_length 5 (.iload_n 1) 1 6 := ⟨by decide +kernel, rfl⟩
theorem D_br_length_6 : Dc M_br_length 6 (.bipush 9) 2 8 := ⟨by decide +kernel, rfl⟩
theorem D_br_length_8 : Dj M_br_length 8 (.if_icmp .le) 11 14 := ⟨6, by decide +kernel, rfl, by decide⟩
theorem D_br_length_11 : Dc M_br_length 11 (.bipush (-2)) 2 13 := ⟨by decide +kernel, rfl⟩
theorem D_br_length_13 : Dc M_br_length 13 (.ireturn) 1 14 := ⟨by decide +kernel, rfl⟩
theorem D_br_length_14 : Dc M_br_length 14 (.aload_n 0) 1 15 := ⟨by decide +kernel, rfl⟩
theorem D_br_length_15 : Dg M_br_length 15 18 5 0 R_br T_br 7 := ⟨12, by decide +kernel, rfl, rfl, by decide, fl_br_12, in_br⟩
theorem fl_br_46 : Cond.fieldLink R_br 46 (T_rg 0).1 (T_rg 0).2.1 (T_rg 0).2.2.1 ∈ gtb := mem_g 66 (by decide +kernel) rfl
theorem D_br_length_18 : Dg M_br_length 18 21 0 0 R_rg T_rg 5 := ⟨46, by decide +kernel, rfl, rfl, by decide, fl_br_46, in_rg⟩
theorem D_br_length_21 : Dc M_br_length 21 (.istore_n 2) 1 22 := ⟨by decide +kernel, rfl⟩
theorem D_br_length_22 : Dc M_br_length 22 (.aload_n 0) 1 23 := ⟨by decide +kernel, rfl⟩
theorem D_br_length_23 : Dg M_br_length 23 26 5 0 R_br T_br 7 := ⟨12, by decide +kernel, rfl, rfl, by decide, fl_br_12, in_br⟩
theorem D_br_length_26 : Dc M_br_length 26 (.iload_n 1) 1 27 := ⟨by decide +kernel, rfl⟩
theorem ml_br_50 : Cond.methodLink R_br 50 M_rg_restart.1 ∈ gtb := mem_g 226 (by decide +kernel) rfl
theorem D_br_length_27 : DcV M_br_length M_rg_restart 27 30 := ⟨50, by decide +kernel, rfl, ml_br_50, by decide, by decide⟩
theorem D_br_length_30 : Dc M_br_length 30 (.iload_n 2) 1 31 := ⟨by decide +kernel, rfl⟩
theorem D_br_length_31 : Dc M_br_length 31 (.ireturn) 1 32 := ⟨by decide +kernel, rfl⟩
theorem D_br_set_0 : Dc M_br_set 0 (.aload_n 0) 1 1 := ⟨by decide +kernel, rfl⟩
theorem D_br_set_1 : Dg M_br_set 1 4 5 0 R_br T_br 7 := ⟨12, by decide +kernel, rfl, rfl, by decide, fl_br_12, in_br⟩
theorem D_br_set_4 : Dc M_br_set 4 (.iload_n 1) 1 5 := ⟨by decide +kernel, rfl⟩
theorem ml_br_54 : Cond.methodLink R_br 54 M_rg_has.1 ∈ gtb := mem_g 237 (by decide +kernel) rfl
theorem D_br_set_5 : DcV M_br_set M_rg_has 5 8 := ⟨54, by decide +kernel, rfl, ml_br_54, by decide, by decide⟩
theorem D_br_set_8 : Dj M_br_set 8 (.ifCond .ne) 11 13 := ⟨5, by decide +kernel, rfl, by decide⟩
theorem D_br_set_11 : Dc M_br_set 11 (.iconst (-1)) 1 12 := ⟨by decide +kernel, rfl⟩
theorem D_br_set_12 : Dc M_br_set 12 (.ireturn) 1 13 := ⟨by decide +kernel, rfl⟩
theorem D_br_set_13 : Dc M_br_set 13 (.iload_n 2) 1 14 := ⟨by decide +kernel, rfl⟩
theorem ml_br_58 : Cond.methodLink R_br 58 M_br_isBit.1 ∈ gtb := mem_g 241 (by decide +kernel) rfl
theorem D_br_set_14 : DcS M_br_set M_br_isBit 14 17 := ⟨58, by decide +kernel, rfl, ml_br_58, by decide, by decide⟩
theorem D_br_set_17 : Dj M_br_set 17 (.ifCond .ne) 20 23 := ⟨6, by decide +kernel, rfl, by decide⟩
theorem D_br_set_20 : Dc M_br_set 20 (.bipush (-2)) 2 22 := ⟨by decide +kernel, rfl⟩
theorem D_br_set_22 : Dc M_br_set 22 (.ireturn) 1 23 := ⟨by decide +kernel, rfl⟩
theorem D_br_set_23 : Dc M_br_set 23 (.aload_n 0) 1 24 := ⟨by decide +kernel, rfl⟩
theorem D_br_set_24 : Dg M_br_set 24 27 5 0 R_br T_br 7 := ⟨12, by decide +kernel, rfl, rfl, by decide, fl_br_12, in_br⟩
theorem fl_br_61 : Cond.fieldLink R_br 61 (T_rg 3).1 (T_rg 3).2.1 (T_rg 3).2.2.1 ∈ gtb := mem_g 74 (by decide +kernel) rfl
theorem D_br_set_27 : Dg M_br_set 27 30 0 3 R_rg T_rg 5 := ⟨61, by decide +kernel, rfl, rfl, by decide, fl_br_61, in_rg⟩
theorem D_br_set_30 : Dc M_br_set 30 (.iload_n 1) 1 31 := ⟨by decide +kernel, rfl⟩
theorem D_br_set_31 : Dc M_br_set 31 (.iaload) 1 32 := ⟨by decide +kernel, rfl⟩
theorem D_br_set_32 : Dc M_br_set 32 (.istore_n 3) 1 33 := ⟨by decide +kernel, rfl⟩
theorem D_br_set_33 : Dc M_br_set 33 (.aload_n 0) 1 34 := ⟨by decide +kernel, rfl⟩
theorem D_br_set_34 : Dg M_br_set 34 37 5 0 R_br T_br 7 := ⟨12, by decide +kernel, rfl, rfl, by decide, fl_br_12, in_br⟩
theorem D_br_set_37 : Dc M_br_set 37 (.iload_n 1) 1 38 := ⟨by decide +kernel, rfl⟩
theorem D_br_set_38 : Dc M_br_set 38 (.iload_n 2) 1 39 := ⟨by decide +kernel, rfl⟩
theorem ml_br_65 : Cond.methodLink R_br 65 M_rg_write.1 ∈ gtb := mem_g 244 (by decide +kernel) rfl
theorem D_br_set_39 : DcV M_br_set M_rg_write 39 42 := ⟨65, by decide +kernel, rfl, ml_br_65, by decide, by decide⟩
theorem D_br_set_42 : Dc M_br_set 42 (.iload_n 3) 1 43 := ⟨by decide +kernel, rfl⟩
theorem D_br_set_43 : Dc M_br_set 43 (.ireturn) 1 44 := ⟨by decide +kernel, rfl⟩
theorem D_br_linear_0 : Dc M_br_linear 0 (.aload_n 0) 1 1 := ⟨by decide +kernel, rfl⟩
theorem D_br_linear_1 : Dg M_br_linear 1 4 5 0 R_br T_br 7 := ⟨12, by decide +kernel, rfl, rfl, by decide, fl_br_12, in_br⟩
theorem D_br_linear_4 : Dc M_br_linear 4 (.iload_n 1) 1 5 := ⟨by decide +kernel, rfl⟩
theorem D_br_linear_5 : DcV M_br_linear M_rg_has 5 8 := ⟨54, by decide +kernel, rfl, ml_br_54, by decide, by decide⟩
theorem D_br_linear_8 : Dj M_br_linear 8 (.ifCond .eq) 11 18 := ⟨10, by decide +kernel, rfl, by decide⟩
theorem D_br_linear_11 : Dc M_br_linear 11 (.iload_n 2) 1 12 := ⟨by decide +kernel, rfl⟩
theorem D_br_linear_12 : DcS M_br_linear M_br_isBit 12 15 := ⟨58, by decide +kernel, rfl, ml_br_58, by decide, by decide⟩
theorem D_br_linear_15 : Dj M_br_linear 15 (.ifCond .ne) 18 21 := ⟨6, by decide +kernel, rfl, by decide⟩
theorem D_br_linear_18 : Dc M_br_linear 18 (.bipush (-2)) 2 20 := ⟨by decide +kernel, rfl⟩
theorem D_br_linear_20 : Dc M_br_linear 20 (.ireturn) 1 21 := ⟨by decide +kernel, rfl⟩
theorem D_br_linear_21 : Dc M_br_linear 21 (.aload_n 0) 1 22 := ⟨by decide +kernel, rfl⟩
theorem D_br_linear_22 : Dg M_br_linear 22 25 5 0 R_br T_br 7 := ⟨12, by decide +kernel, rfl, rfl, by decide, fl_br_12, in_br⟩
theorem D_br_linear_25 : Dc M_br_linear 25 (.iload_n 1) 1 26 := ⟨by decide +kernel, rfl⟩
theorem D_br_linear_26 : Dc M_br_linear 26 (.iload_n 2) 1 27 := ⟨by decide +kernel, rfl⟩
theorem ml_br_69 : Cond.methodLink R_br 69 M_rg_fillLinear.1 ∈ gtb := mem_g 252 (by decide +kernel) rfl
theorem D_br_linear_27 : DcV M_br_linear M_rg_fillLinear 27 30 := ⟨69, by decide +kernel, rfl, ml_br_69, by decide, by decide⟩
theorem D_br_linear_30 : Dc M_br_linear 30 (.aload_n 0) 1 31 := ⟨by decide +kernel, rfl⟩
theorem D_br_linear_31 : Dg M_br_linear 31 34 5 0 R_br T_br 7 := ⟨12, by decide +kernel, rfl, rfl, by decide, fl_br_12, in_br⟩
theorem ml_br_72 : Cond.methodLink R_br 72 M_rg_countOnes.1 ∈ gtb := mem_g 263 (by decide +kernel) rfl
theorem D_br_linear_34 : DcV M_br_linear M_rg_countOnes 34 37 := ⟨72, by decide +kernel, rfl, ml_br_72, by decide, by decide⟩
theorem D_br_linear_37 : Dc M_br_linear 37 (.ireturn) 1 38 := ⟨by decide +kernel, rfl⟩
theorem D_br_take_0 : Dc M_br_take 0 (.aload_n 0) 1 1 := ⟨by decide +kernel, rfl⟩
theorem D_br_take_1 : Dc M_br_take 1 (.iconst 0) 1 2 := ⟨by decide +kernel, rfl⟩
theorem fl_br_76 : Cond.fieldLink R_br 76 (T_br 6).1 (T_br 6).2.1 (T_br 6).2.2.1 ∈ gtb := mem_g 206 (by decide +kernel) rfl
theorem D_br_take_2 : Dp M_br_take 2 5 5 6 R_br T_br 7 := ⟨76, by decide +kernel, rfl, rfl, by decide, fl_br_76, in_br, rfl⟩
theorem D_br_take_5 : Dc M_br_take 5 (.iload_n 1) 1 6 := ⟨by decide +kernel, rfl⟩
theorem ml_br_79 : Cond.methodLink R_br 79 M_br_isSheet.1 ∈ gtb := mem_g 271 (by decide +kernel) rfl
theorem D_br_take_6 : DcS M_br_take M_br_isSheet 6 9 := ⟨79, by decide +kernel, rfl, ml_br_79, by decide, by decide⟩
theorem D_br_take_9 : Dj M_br_take 9 (.ifCond .eq) 12 24 := ⟨15, by decide +kernel, rfl, by decide⟩
theorem D_br_take_12 : Dc M_br_take 12 (.aload_n 0) 1 13 := ⟨by decide +kernel, rfl⟩
theorem D_br_take_13 : Dg M_br_take 13 16 5 0 R_br T_br 7 := ⟨12, by decide +kernel, rfl, rfl, by decide, fl_br_12, in_br⟩
theorem D_br_take_16 : Dc M_br_take 16 (.iload 5) 2 18 := ⟨by decide +kernel, rfl⟩
theorem D_br_take_18 : DcV M_br_take M_rg_has 18 21 := ⟨54, by decide +kernel, rfl, ml_br_54, by decide, by decide⟩
theorem D_br_take_21 : Dj M_br_take 21 (.ifCond .ne) 24 26 := ⟨5, by decide +kernel, rfl, by decide⟩
theorem D_br_take_24 : Dc M_br_take 24 (.iconst (-1)) 1 25 := ⟨by decide +kernel, rfl⟩
theorem D_br_take_25 : Dc M_br_take 25 (.ireturn) 1 26 := ⟨by decide +kernel, rfl⟩
theorem D_br_take_26 : Dc M_br_take 26 (.iload_n 2) 1 27 := ⟨by decide +kernel, rfl⟩
theorem ml_br_82 : Cond.methodLink R_br 82 M_br_isLane.1 ∈ gtb := mem_g 274 (by decide +kernel) rfl
theorem D_br_take_27 : DcS M_br_take M_br_isLane 27 30 := ⟨82, by decide +kernel, rfl, ml_br_82, by decide, by decide⟩
theorem D_br_take_30 : Dj M_br_take 30 (.ifCond .ne) 33 36 := ⟨6, by decide +kernel, rfl, by decide⟩
theorem D_br_take_33 : Dc M_br_take 33 (.bipush (-2)) 2 35 := ⟨by decide +kernel, rfl⟩
theorem D_br_take_35 : Dc M_br_take 35 (.ireturn) 1 36 := ⟨by decide +kernel, rfl⟩
theorem D_br_take_36 : Dc M_br_take 36 (.aload_n 0) 1 37 := ⟨by decide +kernel, rfl⟩
theorem D_br_take_37 : Dg M_br_take 37 40 5 3 R_br T_br 7 := ⟨34, by decide +kernel, rfl, rfl, by decide, fl_br_34, in_br⟩
theorem D_br_take_40 : Dc M_br_take 40 (.iload_n 1) 1 41 := ⟨by decide +kernel, rfl⟩
theorem D_br_take_41 : Dc M_br_take 41 (.aaload) 1 42 := ⟨by decide +kernel, rfl⟩
theorem D_br_take_42 : Dc M_br_take 42 (.astore 6) 2 44 := ⟨by decide +kernel, rfl⟩
theorem D_br_take_44 : Dc M_br_take 44 (.aload 6) 2 46 := ⟨by decide +kernel, rfl⟩
theorem D_br_take_46 : Dc M_br_take 46 (.iload_n 2) 1 47 := ⟨by decide +kernel, rfl⟩
theorem ml_br_85 : Cond.methodLink R_br 85 M_sh_isOfOtherLane.1 ∈ gtb := mem_g 277 (by decide +kernel) rfl
theorem D_br_take_47 : DcV M_br_take M_sh_isOfOtherLane 47 50 := ⟨85, by decide +kernel, rfl, ml_br_85, by decide, by decide⟩
theorem D_br_take_50 : Dj M_br_take 50 (.ifCond .eq) 53 59 := ⟨9, by decide +kernel, rfl, by decide⟩
theorem D_br_take_53 : Dc M_br_take 53 (.aload_n 0) 1 54 := ⟨by decide +kernel, rfl⟩
theorem D_br_take_54 : Dc M_br_take 54 (.iconst 2) 1 55 := ⟨by decide +kernel, rfl⟩
theorem ml_br_88 : Cond.methodLink R_br 88 M_br_faulted.1 ∈ gtb := mem_g 281 (by decide +kernel) rfl
theorem D_br_take_55 : DcV M_br_take M_br_faulted 55 58 := ⟨88, by decide +kernel, rfl, ml_br_88, by decide, by decide⟩
theorem D_br_take_58 : Dc M_br_take 58 (.ireturn) 1 59 := ⟨by decide +kernel, rfl⟩
theorem D_br_take_59 : Dc M_br_take 59 (.aload 6) 2 61 := ⟨by decide +kernel, rfl⟩
theorem ml_br_92 : Cond.methodLink R_br 92 M_sh_isNothing.1 ∈ gtb := mem_g 285 (by decide +kernel) rfl
theorem D_br_take_61 : DcV M_br_take M_sh_isNothing 61 64 := ⟨92, by decide +kernel, rfl, ml_br_92, by decide, by decide⟩
theorem D_br_take_64 : Dj M_br_take 64 (.ifCond .eq) 67 73 := ⟨9, by decide +kernel, rfl, by decide⟩
theorem D_br_take_67 : Dc M_br_take 67 (.aload_n 0) 1 68 := ⟨by decide +kernel, rfl⟩
theorem D_br_take_68 : Dc M_br_take 68 (.iconst 1) 1 69 := ⟨by decide +kernel, rfl⟩
theorem D_br_take_69 : DcV M_br_take M_br_faulted 69 72 := ⟨88, by decide +kernel, rfl, ml_br_88, by decide, by decide⟩
theorem D_br_take_72 : Dc M_br_take 72 (.ireturn) 1 73 := ⟨by decide +kernel, rfl⟩
theorem D_br_take_73 : Dc M_br_take 73 (.iload 4) 2 75 := ⟨by decide +kernel, rfl⟩
theorem D_br_take_75 : Dj M_br_take 75 (.ifCond .ge) 78 84 := ⟨9, by decide +kernel, rfl, by decide⟩
theorem D_br_take_78 : Dc M_br_take 78 (.aload_n 0) 1 79 := ⟨by decide +kernel, rfl⟩
theorem D_br_take_79 : Dc M_br_take 79 (.iconst 4) 1 80 := ⟨by decide +kernel, rfl⟩
theorem D_br_take_80 : DcV M_br_take M_br_faulted 80 83 := ⟨88, by decide +kernel, rfl, ml_br_88, by decide, by decide⟩
theorem D_br_take_83 : Dc M_br_take 83 (.ireturn) 1 84 := ⟨by decide +kernel, rfl⟩
theorem D_br_take_84 : Dc M_br_take 84 (.aload 6) 2 86 := ⟨by decide +kernel, rfl⟩
theorem D_br_take_86 : Dc M_br_take 86 (.iload_n 3) 1 87 := ⟨by decide +kernel, rfl⟩
theorem D_br_take_87 : Dc M_br_take 87 (.iload 4) 2 89 := ⟨by decide +kernel, rfl⟩
theorem ml_br_96 : Cond.methodLink R_br 96 M_sh_hasCells.1 ∈ gtb := mem_g 289 (by decide +kernel) rfl
theorem D_br_take_89 : DcV M_br_take M_sh_hasCells 89 92 := ⟨96, by decide +kernel, rfl, ml_br_96, by decide, by decide⟩
theorem D_br_take_92 : Dj M_br_take 92 (.ifCond .eq) 95 109 := ⟨17, by decide +kernel, rfl, by decide⟩
theorem D_br_take_95 : Dc M_br_take 95 (.aload_n 0) 1 96 := ⟨by decide +kernel, rfl⟩
theorem D_br_take_96 : Dg M_br_take 96 99 5 0 R_br T_br 7 := ⟨12, by decide +kernel, rfl, rfl, by decide, fl_br_12, in_br⟩
theorem D_br_take_99 : Dc M_br_take 99 (.iload 5) 2 101 := ⟨by decide +kernel, rfl⟩
theorem D_br_take_101 : Dc M_br_take 101 (.iload 4) 2 103 := ⟨by decide +kernel, rfl⟩
theorem ml_br_100 : Cond.methodLink R_br 100 M_rg_hasRun.1 ∈ gtb := mem_g 293 (by decide +kernel) rfl
theorem D_br_take_103 : DcV M_br_take M_rg_hasRun 103 106 := ⟨100, by decide +kernel, rfl, ml_br_100, by decide, by decide⟩
theorem D_br_take_106 : Dj M_br_take 106 (.ifCond .ne) 109 115 := ⟨9, by decide +kernel, rfl, by decide⟩
theorem D_br_take_109 : Dc M_br_take 109 (.aload_n 0) 1 110 := ⟨by decide +kernel, rfl⟩
theorem D_br_take_110 : Dc M_br_take 110 (.iconst 3) 1 111 := ⟨by decide +kernel, rfl⟩
theorem D_br_take_111 : DcV M_br_take M_br_faulted 111 114 := ⟨88, by decide +kernel, rfl, ml_br_88, by decide, by decide⟩
theorem D_br_take_114 : Dc M_br_take 114 (.ireturn) 1 115 := ⟨by decide +kernel, rfl⟩
theorem D_br_take_115 : Dc M_br_take 115 (.iconst 0) 1 116 := ⟨by decide +kernel, rfl⟩
theorem D_br_take_116 : Dc M_br_take 116 (.istore 7) 2 118 := ⟨by decide +kernel, rfl⟩
theorem D_br_take_118 : Dc M_br_take 118 (.iload 7) 2 120 := ⟨by decide +kernel, rfl⟩
theorem D_br_take_120 : Dc M_br_take 120 (.iload 4) 2 122 := ⟨by decide +kernel, rfl⟩
theorem D_br_take_122 : Dj M_br_take 122 (.if_icmp .ge) 125 152 := ⟨30, by decide +kernel, rfl, by decide⟩
theorem D_br_take_125 : Dc M_br_take 125 (.aload_n 0) 1 126 := ⟨by decide +kernel, rfl⟩
theorem D_br_take_126 : Dg M_br_take 126 129 5 0 R_br T_br 7 := ⟨12, by decide +kernel, rfl, rfl, by decide, fl_br_12, in_br⟩
theorem D_br_take_129 : Dc M_br_take 129 (.iload 5) 2 131 := ⟨by decide +kernel, rfl⟩
theorem D_br_take_131 : Dc M_br_take 131 (.iload 7) 2 133 := ⟨by decide +kernel, rfl⟩
theorem D_br_take_133 : Dc M_br_take 133 (.iadd) 1 134 := ⟨by decide +kernel, rfl⟩
theorem D_br_take_134 : Dc M_br_take 134 (.aload 6) 2 136 := ⟨by decide +kernel, rfl⟩
theorem D_br_take_136 : Dc M_br_take 136 (.iload_n 3) 1 137 := ⟨by decide +kernel, rfl⟩
theorem D_br_take_137 : Dc M_br_take 137 (.iload 7) 2 139 := ⟨by decide +kernel, rfl⟩
theorem D_br_take_139 : Dc M_br_take 139 (.iadd) 1 140 := ⟨by decide +kernel, rfl⟩
theorem ml_br_103 : Cond.methodLink R_br 103 M_sh_bitAt.1 ∈ gtb := mem_g 297 (by decide +kernel) rfl
theorem D_br_take_140 : DcV M_br_take M_sh_bitAt 140 143 := ⟨103, by decide +kernel, rfl, ml_br_103, by decide, by decide⟩
theorem D_br_take_143 : DcV M_br_take M_rg_write 143 146 := ⟨65, by decide +kernel, rfl, ml_br_65, by decide, by decide⟩
theorem D_br_take_146 : Dc M_br_take 146 (.iinc 7 1) 3 149 := ⟨by decide +kernel, rfl⟩
theorem D_br_take_149 : Dj M_br_take 149 (.goto) 152 118 := ⟨(-31), by decide +kernel, rfl, by decide⟩
theorem D_br_take_152 : Dc M_br_take 152 (.iload 4) 2 154 := ⟨by decide +kernel, rfl⟩
theorem D_br_take_154 : Dc M_br_take 154 (.ireturn) 1 155 := ⟨by decide +kernel, rfl⟩
theorem D_br_feedback_0 : Dc M_br_feedback 0 (.aload_n 0) 1 1 := ⟨by decide +kernel, rfl⟩
theorem D_br_feedback_1 : Dg M_br_feedback 1 4 5 0 R_br T_br 7 := ⟨12, by decide +kernel, rfl, rfl, by decide, fl_br_12, in_br⟩
theorem D_br_feedback_4 : Dc M_br_feedback 4 (.iload_n 1) 1 5 := ⟨by decide +kernel, rfl⟩
theorem D_br_feedback_5 : DcV M_br_feedback M_rg_has 5 8 := ⟨54, by decide +kernel, rfl, ml_br_54, by decide, by decide⟩
theorem D_br_feedback_8 : Dj M_br_feedback 8 (.ifCond .eq) 11 23 := ⟨15, by decide +kernel, rfl, by decide⟩
theorem D_br_feedback_11 : Dc M_br_feedback 11 (.aload_n 0) 1 12 := ⟨by decide +kernel, rfl⟩
theorem D_br_feedback_12 : Dg M_br_feedback 12 15 5 0 R_br T_br 7 := ⟨12, by decide +kernel, rfl, rfl, by decide, fl_br_12, in_br⟩
theorem D_br_feedback_15 : Dg M_br_feedback 15 18 0 3 R_rg T_rg 5 := ⟨61, by decide +kernel, rfl, rfl, by decide, fl_br_61, in_rg⟩
theorem D_br_feedback_18 : Dc M_br_feedback 18 (.iload_n 1) 1 19 := ⟨by decide +kernel, rfl⟩
theorem D_br_feedback_19 : Dc M_br_feedback 19 (.iaload) 1 20 := ⟨by decide +kernel, rfl⟩
theorem D_br_feedback_20 : Dj M_br_feedback 20 (.goto) 23 24 := ⟨4, by decide +kernel, rfl, by decide⟩
theorem D_br_feedback_23 : Dc M_br_feedback 23 (.iconst (-1)) 1 24 := ⟨by decide +kernel, rfl⟩
theorem D_br_feedback_24 : Dc M_br_feedback 24 (.ireturn) 1 25 := ⟨by decide +kernel, rfl⟩
theorem D_br_step_0 : Dc M_br_step 0 (.aload_n 0) 1 1 := ⟨by decide +kernel, rfl⟩
theorem D_br_step_1 : Dg M_br_step 1 4 5 0 R_br T_br 7 := ⟨12, by decide +kernel, rfl, rfl, by decide, fl_br_12, in_br⟩
theorem D_br_step_4 : Dc M_br_step 4 (.iload_n 1) 1 5 := ⟨by decide +kernel, rfl⟩
theorem D_br_step_5 : DcV M_br_step M_rg_has 5 8 := ⟨54, by decide +kernel, rfl, ml_br_54, by decide, by decide⟩
theorem D_br_step_8 : Dj M_br_step 8 (.ifCond .ne) 11 13 := ⟨5, by decide +kernel, rfl, by decide⟩
theorem D_br_step_11 : Dc M_br_step 11 (.iconst (-1)) 1 12 := ⟨by decide +kernel, rfl⟩
theorem D_br_step_12 : Dc M_br_step 12 (.ireturn) 1 13 := ⟨by decide +kernel, rfl⟩
theorem D_br_step_13 : Dc M_br_step 13 (.lload_n 2) 1 14 := ⟨by decide +kernel, rfl⟩
theorem D_br_step_14 : Dc M_br_step 14 (.lconst 0) 1 15 := ⟨by decide +kernel, rfl⟩
theorem D_br_step_15 : Dc M_br_step 15 (.lcmp) 1 16 := ⟨by decide +kernel, rfl⟩
theorem D_br_step_16 : Dj M_br_step 16 (.ifCond .ge) 19 22 := ⟨6, by decide +kernel, rfl, by decide⟩
theorem D_br_step_19 : Dc M_br_step 19 (.bipush (-2)) 2 21 := ⟨by decide +kernel, rfl⟩
theorem D_br_step_21 : Dc M_br_step 21 (.ireturn) 1 22 := ⟨by decide +kernel, rfl⟩
theorem D_br_step_22 : Dc M_br_step 22 (.aload_n 0) 1 23 := ⟨by decide +kernel, rfl⟩
theorem D_br_step_23 : Dg M_br_step 23 26 5 0 R_br T_br 7 := ⟨12, by decide +kernel, rfl, rfl, by decide, fl_br_12, in_br⟩
theorem D_br_step_26 : Dc M_br_step 26 (.iload_n 1) 1 27 := ⟨by decide +kernel, rfl⟩
theorem D_br_step_27 : Dc M_br_step 27 (.aload_n 0) 1 28 := ⟨by decide +kernel, rfl⟩
theorem ml_br_106 : Cond.methodLink R_br 106 M_br_foundRings.1 ∈ gtb := mem_g 309 (by decide +kernel) rfl
theorem D_br_step_28 : DcV M_br_step M_br_foundRings 28 31 := ⟨106, by decide +kernel, rfl, ml_br_106, by decide, by decide⟩
theorem D_br_step_31 : Dc M_br_step 31 (.iload_n 1) 1 32 := ⟨by decide +kernel, rfl⟩
theorem D_br_step_32 : Dc M_br_step 32 (.lload_n 2) 1 33 := ⟨by decide +kernel, rfl⟩
theorem ml_br_110 : Cond.methodLink R_br 110 M_ri_stepsThatMatter.1 ∈ gtb := mem_g 352 (by decide +kernel) rfl
theorem D_br_step_33 : DcV M_br_step M_ri_stepsThatMatter 33 36 := ⟨110, by decide +kernel, rfl, ml_br_110, by decide, by decide⟩
theorem ml_br_114 : Cond.methodLink R_br 114 M_rg_walk.1 ∈ gtb := mem_g 364 (by decide +kernel) rfl
theorem D_br_step_36 : DcV M_br_step M_rg_walk 36 39 := ⟨114, by decide +kernel, rfl, ml_br_114, by decide, by decide⟩
theorem D_br_step_39 : Dc M_br_step 39 (.ireturn) 1 40 := ⟨by decide +kernel, rfl⟩
theorem D_br_back_0 : Dc M_br_back 0 (.aload_n 0) 1 1 := ⟨by decide +kernel, rfl⟩
theorem D_br_back_1 : Dg M_br_back 1 4 5 0 R_br T_br 7 := ⟨12, by decide +kernel, rfl, rfl, by decide, fl_br_12, in_br⟩
theorem D_br_back_4 : Dc M_br_back 4 (.iload_n 1) 1 5 := ⟨by decide +kernel, rfl⟩
theorem D_br_back_5 : DcV M_br_back M_rg_has 5 8 := ⟨54, by decide +kernel, rfl, ml_br_54, by decide, by decide⟩
theorem D_br_back_8 : Dj M_br_back 8 (.ifCond .ne) 11 13 := ⟨5, by decide +kernel, rfl, by decide⟩
theorem D_br_back_11 : Dc M_br_back 11 (.iconst (-1)) 1 12 := ⟨by decide +kernel, rfl⟩
theorem D_br_back_12 : Dc M_br_back 12 (.ireturn) 1 13 := ⟨by decide +kernel, rfl⟩
theorem D_br_back_13 : Dc M_br_back 13 (.iload_n 2) 1 14 := ⟨by decide +kernel, rfl⟩
theorem D_br_back_14 : Dc M_br_back 14 (.iconst (-1)) 1 15 := ⟨by decide +kernel, rfl⟩
theorem D_br_back_15 : Dj M_br_back 15 (.if_icmp .lt) 18 23 := ⟨8, by decide +kernel, rfl, by decide⟩
theorem D_br_back_18 : Dc M_br_back 18 (.iload_n 2) 1 19 := ⟨by decide +kernel, rfl⟩
theorem D_br_back_19 : Dc M_br_back 19 (.iconst 1) 1 20 := ⟨by decide +kernel, rfl⟩
theorem D_br_back_20 : Dj M_br_back 20 (.if_icmp .le) 23 26 := ⟨6, by decide +kernel, rfl, by decide⟩
theorem D_br_back_23 : Dc M_br_back 23 (.bipush (-2)) 2 25 := ⟨by decide +kernel, rfl⟩
theorem D_br_back_25 : Dc M_br_back 25 (.ireturn) 1 26 := ⟨by decide +kernel, rfl⟩
theorem D_br_back_26 : Dc M_br_back 26 (.aload_n 0) 1 27 := ⟨by decide +kernel, rfl⟩
theorem D_br_back_27 : Dg M_br_back 27 30 5 0 R_br T_br 7 := ⟨12, by decide +kernel, rfl, rfl, by decide, fl_br_12, in_br⟩
theorem D_br_back_30 : Dc M_br_back 30 (.iload_n 1) 1 31 := ⟨by decide +kernel, rfl⟩
theorem ml_br_118 : Cond.methodLink R_br 118 M_rg_countBefore.1 ∈ gtb := mem_g 373 (by decide +kernel) rfl
theorem D_br_back_31 : DcV M_br_back M_rg_countBefore 31 34 := ⟨118, by decide +kernel, rfl, ml_br_118, by decide, by decide⟩
theorem D_br_back_34 : Dc M_br_back 34 (.istore_n 3) 1 35 := ⟨by decide +kernel, rfl⟩
theorem D_br_back_35 : Dc M_br_back 35 (.iload_n 2) 1 36 := ⟨by decide +kernel, rfl⟩
theorem D_br_back_36 : Dc M_br_back 36 (.iconst (-1)) 1 37 := ⟨by decide +kernel, rfl⟩
theorem D_br_back_37 : Dj M_br_back 37 (.if_icmp .ne) 40 42 := ⟨5, by decide +kernel, rfl, by decide⟩
theorem D_br_back_40 : Dc M_br_back 40 (.iload_n 3) 1 41 := ⟨by decide +kernel, rfl⟩
theorem D_br_back_41 : Dc M_br_back 41 (.ireturn) 1 42 := ⟨by decide +kernel, rfl⟩
theorem D_br_back_42 : Dc M_br_back 42 (.iload_n 2) 1 43 := ⟨by decide +kernel, rfl⟩
theorem D_br_back_43 : Dc M_br_back 43 (.iload_n 3) 1 44 := ⟨by decide +kernel, rfl⟩
theorem D_br_back_44 : Dj M_br_back 44 (.if_icmp .lt) 47 49 := ⟨5, by decide +kernel, rfl, by decide⟩
theorem D_br_back_47 : Dc M_br_back 47 (.iconst (-1)) 1 48 := ⟨by decide +kernel, rfl⟩
theorem D_br_back_48 : Dc M_br_back 48 (.ireturn) 1 49 := ⟨by decide +kernel, rfl⟩
theorem D_br_back_49 : Dc M_br_back 49 (.aload_n 0) 1 50 := ⟨by decide +kernel, rfl⟩
theorem D_br_back_50 : Dg M_br_back 50 53 5 0 R_br T_br 7 := ⟨12, by decide +kernel, rfl, rfl, by decide, fl_br_12, in_br⟩
theorem D_br_back_53 : Dc M_br_back 53 (.iload_n 1) 1 54 := ⟨by decide +kernel, rfl⟩
theorem ml_br_121 : Cond.methodLink R_br 121 M_rg_evenBefore.1 ∈ gtb := mem_g 374 (by decide +kernel) rfl
theorem D_br_back_54 : DcV M_br_back M_rg_evenBefore 54 57 := ⟨121, by decide +kernel, rfl, ml_br_121, by decide, by decide⟩
theorem D_br_back_57 : Dc M_br_back 57 (.istore 4) 2 59 := ⟨by decide +kernel, rfl⟩
theorem D_br_back_59 : Dc M_br_back 59 (.iload_n 2) 1 60 := ⟨by decide +kernel, rfl⟩
theorem D_br_back_60 : Dj M_br_back 60 (.ifCond .ne) 63 80 := ⟨20, by decide +kernel, rfl, by decide⟩
theorem D_br_back_63 : Dc M_br_back 63 (.aload_n 0) 1 64 := ⟨by decide +kernel, rfl⟩
theorem D_br_back_64 : Dg M_br_back 64 67 5 0 R_br T_br 7 := ⟨12, by decide +kernel, rfl, rfl, by decide, fl_br_12, in_br⟩
theorem D_br_back_67 : Dc M_br_back 67 (.iload 4) 2 69 := ⟨by decide +kernel, rfl⟩
theorem ml_br_124 : Cond.methodLink R_br 124 M_rg_next.1 ∈ gtb := mem_g 375 (by decide +kernel) rfl
theorem D_br_back_69 : DcV M_br_back M_rg_next 69 72 := ⟨124, by decide +kernel, rfl, ml_br_124, by decide, by decide⟩
theorem D_br_back_72 : Dc M_br_back 72 (.iload_n 1) 1 73 := ⟨by decide +kernel, rfl⟩
theorem D_br_back_73 : Dj M_br_back 73 (.if_icmp .ne) 76 80 := ⟨7, by decide +kernel, rfl, by decide⟩
theorem D_br_back_76 : Dc M_br_back 76 (.iconst 1) 1 77 := ⟨by decide +kernel, rfl⟩
theorem D_br_back_77 : Dj M_br_back 77 (.goto) 80 81 := ⟨4, by decide +kernel, rfl, by decide⟩
theorem D_br_back_80 : Dc M_br_back 80 (.iconst 0) 1 81 := ⟨by decide +kernel, rfl⟩
theorem D_br_back_81 : Dc M_br_back 81 (.istore 5) 2 83 := ⟨by decide +kernel, rfl⟩
theorem D_br_back_83 : Dc M_br_back 83 (.iload 5) 2 85 := ⟨by decide +kernel, rfl⟩
theorem D_br_back_85 : Dj M_br_back 85 (.ifCond .eq) 88 93 := ⟨8, by decide +kernel, rfl, by decide⟩
theorem D_br_back_88 : Dc M_br_back 88 (.iload 4) 2 90 := ⟨by decide +kernel, rfl⟩
theorem D_br_back_90 : Dj M_br_back 90 (.goto) 93 97 := ⟨7, by decide +kernel, rfl, by decide⟩
theorem D_br_back_93 : Dc M_br_back 93 (.iload 4) 2 95 := ⟨by decide +kernel, rfl⟩
theorem D_br_back_95 : Dc M_br_back 95 (.iconst 1) 1 96 := ⟨by decide +kernel, rfl⟩
theorem D_br_back_96 : Dc M_br_back 96 (.iadd) 1 97 := ⟨by decide +kernel, rfl⟩
theorem D_br_back_97 : Dc M_br_back 97 (.ireturn) 1 98 := ⟨by decide +kernel, rfl⟩
theorem D_br_about_0 : Dc M_br_about 0 (.aload_n 0) 1 1 := ⟨by decide +kernel, rfl⟩
theorem D_br_about_1 : Dg M_br_about 1 4 5 0 R_br T_br 7 := ⟨12, by decide +kernel, rfl, rfl, by decide, fl_br_12, in_br⟩
theorem D_br_about_4 : Dc M_br_about 4 (.iload_n 1) 1 5 := ⟨by decide +kernel, rfl⟩
theorem D_br_about_5 : DcV M_br_about M_rg_has 5 8 := ⟨54, by decide +kernel, rfl, ml_br_54, by decide, by decide⟩
theorem D_br_about_8 : Dj M_br_about 8 (.ifCond .ne) 11 13 := ⟨5, by decide +kernel, rfl, by decide⟩
theorem D_br_about_11 : Dc M_br_about 11 (.iconst (-1)) 1 12 := ⟨by decide +kernel, rfl⟩
theorem D_br_about_12 : Dc M_br_about 12 (.ireturn) 1 13 := ⟨by decide +kernel, rfl⟩
theorem D_br_about_13 : Dc M_br_about 13 (.iload_n 2) 1 14 := ⟨by decide +kernel, rfl⟩
theorem D_br_about_14 : Dc M_br_about 14 (.tableswitch 64 0 3 #[30, 40, 50, 60]) 30 44 := ⟨by decide +kernel, rfl⟩
theorem D_br_about_44 : Dc M_br_about 44 (.aload_n 0) 1 45 := ⟨by decide +kernel, rfl⟩
theorem D_br_about_45 : DcV M_br_about M_br_foundRings 45 48 := ⟨106, by decide +kernel, rfl, ml_br_106, by decide, by decide⟩
theorem fl_br_127 : Cond.fieldLink R_br 127 (T_ri 4).1 (T_ri 4).2.1 (T_ri 4).2.2.1 ∈ gtb := mem_g 105 (by decide +kernel) rfl
theorem D_br_about_48 : Dg M_br_about 48 51 1 4 R_ri T_ri 11 := ⟨127, by decide +kernel, rfl, rfl, by decide, fl_br_127, in_ri⟩
theorem D_br_about_51 : Dc M_br_about 51 (.iload_n 1) 1 52 := ⟨by decide +kernel, rfl⟩
theorem D_br_about_52 : Dc M_br_about 52 (.iaload) 1 53 := ⟨by decide +kernel, rfl⟩
theorem D_br_about_53 : Dc M_br_about 53 (.ireturn) 1 54 := ⟨by decide +kernel, rfl⟩
theorem D_br_about_54 : Dc M_br_about 54 (.aload_n 0) 1 55 := ⟨by decide +kernel, rfl⟩
theorem D_br_about_55 : DcV M_br_about M_br_foundRings 55 58 := ⟨106, by decide +kernel, rfl, ml_br_106, by decide, by decide⟩
theorem fl_br_130 : Cond.fieldLink R_br 130 (T_ri 5).1 (T_ri 5).2.1 (T_ri 5).2.2.1 ∈ gtb := mem_g 107 (by decide +kernel) rfl
theorem D_br_about_58 : Dg M_br_about 58 61 1 5 R_ri T_ri 11 := ⟨130, by decide +kernel, rfl, rfl, by decide, fl_br_130, in_ri⟩
theorem D_br_about_61 : Dc M_br_about 61 (.iload_n 1) 1 62 := ⟨by decide +kernel, rfl⟩
theorem D_br_about_62 : Dc M_br_about 62 (.iaload) 1 63 := ⟨by decide +kernel, rfl⟩
theorem D_br_about_63 : Dc M_br_about 63 (.ireturn) 1 64 := ⟨by decide +kernel, rfl⟩
theorem D_br_about_64 : Dc M_br_about 64 (.aload_n 0) 1 65 := ⟨by decide +kernel, rfl⟩
theorem D_br_about_65 : DcV M_br_about M_br_foundRings 65 68 := ⟨106, by decide +kernel, rfl, ml_br_106, by decide, by decide⟩
theorem fl_br_133 : Cond.fieldLink R_br 133 (T_ri 6).1 (T_ri 6).2.1 (T_ri 6).2.2.1 ∈ gtb := mem_g 109 (by decide +kernel) rfl
theorem D_br_about_68 : Dg M_br_about 68 71 1 6 R_ri T_ri 11 := ⟨133, by decide +kernel, rfl, rfl, by decide, fl_br_133, in_ri⟩
theorem D_br_about_71 : Dc M_br_about 71 (.iload_n 1) 1 72 := ⟨by decide +kernel, rfl⟩
theorem D_br_about_72 : Dc M_br_about 72 (.iaload) 1 73 := ⟨by decide +kernel, rfl⟩
theorem D_br_about_73 : Dc M_br_about 73 (.ireturn) 1 74 := ⟨by decide +kernel, rfl⟩
theorem D_br_about_74 : Dc M_br_about 74 (.iload_n 1) 1 75 := ⟨by decide +kernel, rfl⟩
theorem D_br_about_75 : Dc M_br_about 75 (.iconst 1) 1 76 := ⟨by decide +kernel, rfl⟩
theorem D_br_about_76 : Dc M_br_about 76 (.ixor) 1 77 := ⟨by decide +kernel, rfl⟩
theorem D_br_about_77 : Dc M_br_about 77 (.ireturn) 1 78 := ⟨by decide +kernel, rfl⟩
theorem D_br_about_78 : Dc M_br_about 78 (.bipush (-2)) 2 80 := ⟨by decide +kernel, rfl⟩
theorem D_br_about_80 : Dc M_br_about 80 (.ireturn) 1 81 := ⟨by decide +kernel, rfl⟩
theorem D_br_ring_0 : Dc M_br_ring 0 (.aload_n 0) 1 1 := ⟨by decide +kernel, rfl⟩
theorem D_br_ring_1 : DcV M_br_ring M_br_foundRings 1 4 := ⟨106, by decide +kernel, rfl, ml_br_106, by decide, by decide⟩
theorem D_br_ring_4 : Dc M_br_ring 4 (.astore_n 3) 1 5 := ⟨by decide +kernel, rfl⟩
theorem D_br_ring_5 : Dc M_br_ring 5 (.aload_n 3) 1 6 := ⟨by decide +kernel, rfl⟩
theorem D_br_ring_6 : Dc M_br_ring 6 (.iload_n 1) 1 7 := ⟨by decide +kernel, rfl⟩
theorem ml_br_136 : Cond.methodLink R_br 136 M_ri_has.1 ∈ gtb := mem_g 384 (by decide +kernel) rfl
theorem D_br_ring_7 : DcV M_br_ring M_ri_has 7 10 := ⟨136, by decide +kernel, rfl, ml_br_136, by decide, by decide⟩
theorem D_br_ring_10 : Dj M_br_ring 10 (.ifCond .ne) 13 15 := ⟨5, by decide +kernel, rfl, by decide⟩
theorem D_br_ring_13 : Dc M_br_ring 13 (.iconst (-1)) 1 14 := ⟨by decide +kernel, rfl⟩
theorem D_br_ring_14 : Dc M_br_ring 14 (.ireturn) 1 15 := ⟨by decide +kernel, rfl⟩
theorem D_br_ring_15 : Dc M_br_ring 15 (.iload_n 2) 1 16 := ⟨by decide +kernel, rfl⟩
theorem D_br_ring_16 : Dc M_br_ring 16 (.tableswitch 66 0 3 #[32, 39, 46, 56]) 32 48 := ⟨by decide +kernel, rfl⟩
theorem D_br_ring_48 : Dc M_br_ring 48 (.aload_n 3) 1 49 := ⟨by decide +kernel, rfl⟩
theorem fl_br_137 : Cond.fieldLink R_br 137 (T_ri 8).1 (T_ri 8).2.1 (T_ri 8).2.2.1 ∈ gtb := mem_g 113 (by decide +kernel) rfl
theorem D_br_ring_49 : Dg M_br_ring 49 52 1 8 R_ri T_ri 11 := ⟨137, by decide +kernel, rfl, rfl, by decide, fl_br_137, in_ri⟩
theorem D_br_ring_52 : Dc M_br_ring 52 (.iload_n 1) 1 53 := ⟨by decide +kernel, rfl⟩
theorem D_br_ring_53 : Dc M_br_ring 53 (.iaload) 1 54 := ⟨by decide +kernel, rfl⟩
theorem D_br_ring_54 : Dc M_br_ring 54 (.ireturn) 1 55 := ⟨by decide +kernel, rfl⟩
theorem D_br_ring_55 : Dc M_br_ring 55 (.aload_n 3) 1 56 := ⟨by decide +kernel, rfl⟩
theorem fl_br_140 : Cond.fieldLink R_br 140 (T_ri 7).1 (T_ri 7).2.1 (T_ri 7).2.2.1 ∈ gtb := mem_g 111 (by decide +kernel) rfl
theorem D_br_ring_56 : Dg M_br_ring 56 59 1 7 R_ri T_ri 11 := ⟨140, by decide +kernel, rfl, rfl, by decide, fl_br_140, in_ri⟩
theorem D_br_ring_59 : Dc M_br_ring 59 (.iload_n 1) 1 60 := ⟨by decide +kernel, rfl⟩
theorem D_br_ring_60 : Dc M_br_ring 60 (.iaload) 1 61 := ⟨by decide +kernel, rfl⟩
theorem D_br_ring_61 : Dc M_br_ring 61 (.ireturn) 1 62 := ⟨by decide +kernel, rfl⟩
theorem D_br_ring_62 : Dc M_br_ring 62 (.aload_n 3) 1 63 := ⟨by decide +kernel, rfl⟩
theorem D_br_ring_63 : Dc M_br_ring 63 (.aload_n 0) 1 64 := ⟨by decide +kernel, rfl⟩
theorem D_br_ring_64 : Dg M_br_ring 64 67 5 0 R_br T_br 7 := ⟨12, by decide +kernel, rfl, rfl, by decide, fl_br_12, in_br⟩
theorem D_br_ring_67 : Dc M_br_ring 67 (.iload_n 1) 1 68 := ⟨by decide +kernel, rfl⟩
theorem ml_br_143 : Cond.methodLink R_br 143 M_ri_countOnesOut.1 ∈ gtb := mem_g 385 (by decide +kernel) rfl
theorem D_br_ring_68 : DcV M_br_ring M_ri_countOnesOut 68 71 := ⟨143, by decide +kernel, rfl, ml_br_143, by decide, by decide⟩
theorem D_br_ring_71 : Dc M_br_ring 71 (.ireturn) 1 72 := ⟨by decide +kernel, rfl⟩
theorem D_br_ring_72 : Dc M_br_ring 72 (.aload_n 3) 1 73 := ⟨by decide +kernel, rfl⟩
theorem D_br_ring_73 : Dc M_br_ring 73 (.aload_n 0) 1 74 := ⟨by decide +kernel, rfl⟩
theorem D_br_ring_74 : Dg M_br_ring 74 77 5 0 R_br T_br 7 := ⟨12, by decide +kernel, rfl, rfl, by decide, fl_br_12, in_br⟩
theorem D_br_ring_77 : Dc M_br_ring 77 (.iload_n 1) 1 78 := ⟨by decide +kernel, rfl⟩
theorem ml_br_147 : Cond.methodLink R_br 147 M_ri_countBehind.1 ∈ gtb := mem_g 389 (by decide +kernel) rfl
theorem D_br_ring_78 : DcV M_br_ring M_ri_countBehind 78 81 := ⟨147, by decide +kernel, rfl, ml_br_147, by decide, by decide⟩
theorem D_br_ring_81 : Dc M_br_ring 81 (.ireturn) 1 82 := ⟨by decide +kernel, rfl⟩
theorem D_br_ring_82 : Dc M_br_ring 82 (.bipush (-2)) 2 84 := ⟨by decide +kernel, rfl⟩
theorem D_br_ring_84 : Dc M_br_ring 84 (.ireturn) 1 85 := ⟨by decide +kernel, rfl⟩
theorem D_br_told_0 : Dc M_br_told 0 (.iload_n 1) 1 1 := ⟨by decide +kernel, rfl⟩
theorem D_br_told_1 : Dc M_br_told 1 (.tableswitch 127 0 7 #[47, 55, 63, 71, 87, 103, 111, 119]) 47 48 := ⟨by decide +kernel, rfl⟩
theorem D_br_told_48 : Dc M_br_told 48 (.aload_n 0) 1 49 := ⟨by decide +kernel, rfl⟩
theorem D_br_told_49 : Dg M_br_told 49 52 5 0 R_br T_br 7 := ⟨12, by decide +kernel, rfl, rfl, by decide, fl_br_12, in_br⟩
theorem D_br_told_52 : Dg M_br_told 52 55 0 0 R_rg T_rg 5 := ⟨46, by decide +kernel, rfl, rfl, by decide, fl_br_46, in_rg⟩
theorem D_br_told_55 : Dc M_br_told 55 (.ireturn) 1 56 := ⟨by decide +kernel, rfl⟩
theorem D_br_told_56 : Dc M_br_told 56 (.aload_n 0) 1 57 := ⟨by decide +kernel, rfl⟩
theorem D_br_told_57 : Dg M_br_told 57 60 5 0 R_br T_br 7 := ⟨12, by decide +kernel, rfl, rfl, by decide, fl_br_12, in_br⟩
theorem fl_br_150 : Cond.fieldLink R_br 150 (T_rg 1).1 (T_rg 1).2.1 (T_rg 1).2.2.1 ∈ gtb := mem_g 70 (by decide +kernel) rfl
theorem D_br_told_60 : Dg M_br_told 60 63 0 1 R_rg T_rg 5 := ⟨150, by decide +kernel, rfl, rfl, by decide, fl_br_150, in_rg⟩
theorem D_br_told_63 : Dc M_br_told 63 (.ireturn) 1 64 := ⟨by decide +kernel, rfl⟩
theorem D_br_told_64 : Dc M_br_told 64 (.aload_n 0) 1 65 := ⟨by decide +kernel, rfl⟩
theorem D_br_told_65 : DcV M_br_told M_br_foundRings 65 68 := ⟨106, by decide +kernel, rfl, ml_br_106, by decide, by decide⟩
theorem fl_br_153 : Cond.fieldLink R_br 153 (T_ri 0).1 (T_ri 0).2.1 (T_ri 0).2.2.1 ∈ gtb := mem_g 96 (by decide +kernel) rfl
theorem D_br_told_68 : Dg M_br_told 68 71 1 0 R_ri T_ri 11 := ⟨153, by decide +kernel, rfl, rfl, by decide, fl_br_153, in_ri⟩
theorem D_br_told_71 : Dc M_br_told 71 (.ireturn) 1 72 := ⟨by decide +kernel, rfl⟩
theorem D_br_told_72 : Dc M_br_told 72 (.aload_n 0) 1 73 := ⟨by decide +kernel, rfl⟩
theorem D_br_told_73 : Dg M_br_told 73 76 5 0 R_br T_br 7 := ⟨12, by decide +kernel, rfl, rfl, by decide, fl_br_12, in_br⟩
theorem D_br_told_76 : Dg M_br_told 76 79 0 1 R_rg T_rg 5 := ⟨150, by decide +kernel, rfl, rfl, by decide, fl_br_150, in_rg⟩
theorem D_br_told_79 : Dc M_br_told 79 (.aload_n 0) 1 80 := ⟨by decide +kernel, rfl⟩
theorem D_br_told_80 : DcV M_br_told M_br_foundRings 80 83 := ⟨106, by decide +kernel, rfl, ml_br_106, by decide, by decide⟩
theorem fl_br_156 : Cond.fieldLink R_br 156 (T_ri 1).1 (T_ri 1).2.1 (T_ri 1).2.2.1 ∈ gtb := mem_g 98 (by decide +kernel) rfl
theorem D_br_told_83 : Dg M_br_told 83 86 1 1 R_ri T_ri 11 := ⟨156, by decide +kernel, rfl, rfl, by decide, fl_br_156, in_ri⟩
theorem D_br_told_86 : Dc M_br_told 86 (.isub) 1 87 := ⟨by decide +kernel, rfl⟩
theorem D_br_told_87 : Dc M_br_told 87 (.ireturn) 1 88 := ⟨by decide +kernel, rfl⟩
theorem D_br_told_88 : Dc M_br_told 88 (.aload_n 0) 1 89 := ⟨by decide +kernel, rfl⟩
theorem D_br_told_89 : Dg M_br_told 89 92 5 0 R_br T_br 7 := ⟨12, by decide +kernel, rfl, rfl, by decide, fl_br_12, in_br⟩
theorem ml_br_159 : Cond.methodLink R_br 159 M_rg_isPure.1 ∈ gtb := mem_g 397 (by decide +kernel) rfl
theorem D_br_told_92 : DcV M_br_told M_rg_isPure 92 95 := ⟨159, by decide +kernel, rfl, ml_br_159, by decide, by decide⟩
theorem D_br_told_95 : Dj M_br_told 95 (.ifCond .eq) 98 102 := ⟨7, by decide +kernel, rfl, by decide⟩
theorem D_br_told_98 : Dc M_br_told 98 (.iconst 1) 1 99 := ⟨by decide +kernel, rfl⟩
theorem D_br_told_99 : Dj M_br_told 99 (.goto) 102 103 := ⟨4, by decide +kernel, rfl, by decide⟩
theorem D_br_told_102 : Dc M_br_told 102 (.iconst 0) 1 103 := ⟨by decide +kernel, rfl⟩
theorem D_br_told_103 : Dc M_br_told 103 (.ireturn) 1 104 := ⟨by decide +kernel, rfl⟩
theorem D_br_told_104 : Dc M_br_told 104 (.aload_n 0) 1 105 := ⟨by decide +kernel, rfl⟩
theorem D_br_told_105 : Dg M_br_told 105 108 5 0 R_br T_br 7 := ⟨12, by decide +kernel, rfl, rfl, by decide, fl_br_12, in_br⟩
theorem D_br_told_108 : DcV M_br_told M_rg_countOnes 108 111 := ⟨72, by decide +kernel, rfl, ml_br_72, by decide, by decide⟩
theorem D_br_told_111 : Dc M_br_told 111 (.ireturn) 1 112 := ⟨by decide +kernel, rfl⟩
theorem D_br_told_112 : Dc M_br_told 112 (.aload_n 0) 1 113 := ⟨by decide +kernel, rfl⟩
theorem D_br_told_113 : DcV M_br_told M_br_foundRings 113 116 := ⟨106, by decide +kernel, rfl, ml_br_106, by decide, by decide⟩
theorem fl_br_162 : Cond.fieldLink R_br 162 (T_ri 3).1 (T_ri 3).2.1 (T_ri 3).2.2.1 ∈ gtb := mem_g 102 (by decide +kernel) rfl
theorem D_br_told_116 : Dg M_br_told 116 119 1 3 R_ri T_ri 11 := ⟨162, by decide +kernel, rfl, rfl, by decide, fl_br_162, in_ri⟩
theorem D_br_told_119 : Dc M_br_told 119 (.ireturn) 1 120 := ⟨by decide +kernel, rfl⟩
theorem D_br_told_120 : Dc M_br_told 120 (.aload_n 0) 1 121 := ⟨by decide +kernel, rfl⟩
theorem D_br_told_121 : DcV M_br_told M_br_foundRings 121 124 := ⟨106, by decide +kernel, rfl, ml_br_106, by decide, by decide⟩
theorem fl_br_165 : Cond.fieldLink R_br 165 (T_ri 2).1 (T_ri 2).2.1 (T_ri 2).2.2.1 ∈ gtb := mem_g 100 (by decide +kernel) rfl
theorem D_br_told_124 : Dg M_br_told 124 127 1 2 R_ri T_ri 11 := ⟨165, by decide +kernel, rfl, rfl, by decide, fl_br_165, in_ri⟩
theorem D_br_told_127 : Dc M_br_told 127 (.ireturn) 1 128 := ⟨by decide +kernel, rfl⟩
theorem D_br_told_128 : Dc M_br_told 128 (.bipush (-2)) 2 130 := ⟨by decide +kernel, rfl⟩
theorem D_br_told_130 : Dc M_br_told 130 (.ireturn) 1 131 := ⟨by decide +kernel, rfl⟩
theorem D_br_turn_0 : Dc M_br_turn 0 (.iload_n 1) 1 1 := ⟨by decide +kernel, rfl⟩
theorem D_br_turn_1 : Dj M_br_turn 1 (.ifCond .lt) 4 17 := ⟨16, by decide +kernel, rfl, by decide⟩
theorem D_br_turn_4 : Dc M_br_turn 4 (.iload_n 1) 1 5 := ⟨by decide +kernel, rfl⟩
theorem D_br_turn_5 : Dc M_br_turn 5 (.aload_n 0) 1 6 := ⟨by decide +kernel, rfl⟩
theorem D_br_turn_6 : Dg M_br_turn 6 9 5 0 R_br T_br 7 := ⟨12, by decide +kernel, rfl, rfl, by decide, fl_br_12, in_br⟩
theorem D_br_turn_9 : Dg M_br_turn 9 12 0 1 R_rg T_rg 5 := ⟨150, by decide +kernel, rfl, rfl, by decide, fl_br_150, in_rg⟩
theorem D_br_turn_12 : Dc M_br_turn 12 (.iconst 2) 1 13 := ⟨by decide +kernel, rfl⟩
theorem D_br_turn_13 : Dc M_br_turn 13 (.idiv) 1 14 := ⟨by decide +kernel, rfl⟩
theorem D_br_turn_14 : Dj M_br_turn 14 (.if_icmp .lt) 17 19 := ⟨5, by decide +kernel, rfl, by decide⟩
theorem D_br_turn_17 : Dc M_br_turn 17 (.iconst (-1)) 1 18 := ⟨by decide +kernel, rfl⟩
theorem D_br_turn_18 : Dc M_br_turn 18 (.ireturn) 1 19 := ⟨by decide +kernel, rfl⟩
theorem D_br_turn_19 : Dc M_br_turn 19 (.aload_n 0) 1 20 := ⟨by decide +kernel, rfl⟩
theorem D_br_turn_20 : Dg M_br_turn 20 23 5 0 R_br T_br 7 := ⟨12, by decide +kernel, rfl, rfl, by decide, fl_br_12, in_br⟩
theorem D_br_turn_23 : DcV M_br_turn M_rg_isPure 23 26 := ⟨159, by decide +kernel, rfl, ml_br_159, by decide, by decide⟩
theorem D_br_turn_26 : Dj M_br_turn 26 (.ifCond .ne) 29 32 := ⟨6, by decide +kernel, rfl, by decide⟩
theorem D_br_turn_29 : Dc M_br_turn 29 (.bipush (-3)) 2 31 := ⟨by decide +kernel, rfl⟩
theorem D_br_turn_31 : Dc M_br_turn 31 (.ireturn) 1 32 := ⟨by decide +kernel, rfl⟩
theorem D_br_turn_32 : Dc M_br_turn 32 (.aload_n 0) 1 33 := ⟨by decide +kernel, rfl⟩
theorem D_br_turn_33 : Dg M_br_turn 33 36 5 0 R_br T_br 7 := ⟨12, by decide +kernel, rfl, rfl, by decide, fl_br_12, in_br⟩
theorem D_br_turn_36 : Dc M_br_turn 36 (.iload_n 1) 1 37 := ⟨by decide +kernel, rfl⟩
theorem ml_br_168 : Cond.methodLink R_br 168 M_rg_turnPair.1 ∈ gtb := mem_g 405 (by decide +kernel) rfl
theorem D_br_turn_37 : DcV M_br_turn M_rg_turnPair 37 40 := ⟨168, by decide +kernel, rfl, ml_br_168, by decide, by decide⟩
theorem D_br_turn_40 : Dc M_br_turn 40 (.aload_n 0) 1 41 := ⟨by decide +kernel, rfl⟩
theorem D_br_turn_41 : DcV M_br_turn M_br_foundRings 41 44 := ⟨106, by decide +kernel, rfl, ml_br_106, by decide, by decide⟩
theorem D_br_turn_44 : Dg M_br_turn 44 47 1 0 R_ri T_ri 11 := ⟨153, by decide +kernel, rfl, rfl, by decide, fl_br_153, in_ri⟩
theorem D_br_turn_47 : Dc M_br_turn 47 (.ireturn) 1 48 := ⟨by decide +kernel, rfl⟩
theorem D_br_join_0 : Dc M_br_join 0 (.aload_n 0) 1 1 := ⟨by decide +kernel, rfl⟩
theorem D_br_join_1 : Dg M_br_join 1 4 5 0 R_br T_br 7 := ⟨12, by decide +kernel, rfl, rfl, by decide, fl_br_12, in_br⟩
theorem D_br_join_4 : DcV M_br_join M_rg_isPure 4 7 := ⟨159, by decide +kernel, rfl, ml_br_159, by decide, by decide⟩
theorem D_br_join_7 : Dj M_br_join 7 (.ifCond .ne) 10 13 := ⟨6, by decide +kernel, rfl, by decide⟩
theorem D_br_join_10 : Dc M_br_join 10 (.bipush (-3)) 2 12 := ⟨by decide +kernel, rfl⟩
theorem D_br_join_12 : Dc M_br_join 12 (.ireturn) 1 13 := ⟨by decide +kernel, rfl⟩
theorem D_br_join_13 : Dc M_br_join 13 (.aload_n 0) 1 14 := ⟨by decide +kernel, rfl⟩
theorem D_br_join_14 : DcV M_br_join M_br_foundRings 14 17 := ⟨106, by decide +kernel, rfl, ml_br_106, by decide, by decide⟩
theorem D_br_join_17 : Dc M_br_join 17 (.aload_n 0) 1 18 := ⟨by decide +kernel, rfl⟩
theorem D_br_join_18 : Dg M_br_join 18 21 5 0 R_br T_br 7 := ⟨12, by decide +kernel, rfl, rfl, by decide, fl_br_12, in_br⟩
theorem ml_br_171 : Cond.methodLink R_br 171 M_ri_joinAll.1 ∈ gtb := mem_g 413 (by decide +kernel) rfl
theorem D_br_join_21 : DcV M_br_join M_ri_joinAll 21 24 := ⟨171, by decide +kernel, rfl, ml_br_171, by decide, by decide⟩
theorem D_br_join_24 : Dc M_br_join 24 (.ireturn) 1 25 := ⟨by decide +kernel, rfl⟩
theorem D_br_ways_0 : Dc M_br_ways 0 (.aload_n 0) 1 1 := ⟨by decide +kernel, rfl⟩
theorem D_br_ways_1 : Dg M_br_ways 1 4 5 0 R_br T_br 7 := ⟨12, by decide +kernel, rfl, rfl, by decide, fl_br_12, in_br⟩
theorem D_br_ways_4 : DcV M_br_ways M_rg_isPure 4 7 := ⟨159, by decide +kernel, rfl, ml_br_159, by decide, by decide⟩
theorem D_br_ways_7 : Dj M_br_ways 7 (.ifCond .ne) 10 13 := ⟨6, by decide +kernel, rfl, by decide⟩
theorem D_br_ways_10 : Dc M_br_ways 10 (.bipush (-3)) 2 12 := ⟨by decide +kernel, rfl⟩
theorem D_br_ways_12 : Dc M_br_ways 12 (.ireturn) 1 13 := ⟨by decide +kernel, rfl⟩
theorem D_br_ways_13 : Dc M_br_ways 13 (.aload_n 0) 1 14 := ⟨by decide +kernel, rfl⟩
theorem D_br_ways_14 : Dg M_br_ways 14 17 5 2 R_br T_br 7 := ⟨28, by decide +kernel, rfl, rfl, by decide, fl_br_28, in_br⟩
theorem D_br_ways_17 : Dc M_br_ways 17 (.aload_n 0) 1 18 := ⟨by decide +kernel, rfl⟩
theorem D_br_ways_18 : Dg M_br_ways 18 21 5 0 R_br T_br 7 := ⟨12, by decide +kernel, rfl, rfl, by decide, fl_br_12, in_br⟩
theorem D_br_ways_21 : Dc M_br_ways 21 (.aload_n 0) 1 22 := ⟨by decide +kernel, rfl⟩
theorem D_br_ways_22 : DcV M_br_ways M_br_foundRings 22 25 := ⟨106, by decide +kernel, rfl, ml_br_106, by decide, by decide⟩
theorem ml_br_175 : Cond.methodLink R_br 175 M_tr_count.1 ∈ gtb := mem_g 425 (by decide +kernel) rfl
theorem D_br_ways_25 : DcV M_br_ways M_tr_count 25 28 := ⟨175, by decide +kernel, rfl, ml_br_175, by decide, by decide⟩
theorem D_br_ways_28 : Dc M_br_ways 28 (.ireturn) 1 29 := ⟨by decide +kernel, rfl⟩
theorem D_br_prefer_0 : Dc M_br_prefer 0 (.iload_n 1) 1 1 := ⟨by decide +kernel, rfl⟩
theorem D_br_prefer_1 : DcS M_br_prefer M_br_isBit 1 4 := ⟨58, by decide +kernel, rfl, ml_br_58, by decide, by decide⟩
theorem D_br_prefer_4 : Dj M_br_prefer 4 (.ifCond .ne) 7 10 := ⟨6, by decide +kernel, rfl, by decide⟩
theorem D_br_prefer_7 : Dc M_br_prefer 7 (.bipush (-2)) 2 9 := ⟨by decide +kernel, rfl⟩
theorem D_br_prefer_9 : Dc M_br_prefer 9 (.ireturn) 1 10 := ⟨by decide +kernel, rfl⟩
theorem D_br_prefer_10 : Dc M_br_prefer 10 (.aload_n 0) 1 11 := ⟨by decide +kernel, rfl⟩
theorem D_br_prefer_11 : Dg M_br_prefer 11 14 5 0 R_br T_br 7 := ⟨12, by decide +kernel, rfl, rfl, by decide, fl_br_12, in_br⟩
theorem D_br_prefer_14 : Dc M_br_prefer 14 (.iload_n 1) 1 15 := ⟨by decide +kernel, rfl⟩
theorem ml_br_178 : Cond.methodLink R_br 178 M_rg_fillPreferring.1 ∈ gtb := mem_g 470 (by decide +kernel) rfl
theorem D_br_prefer_15 : DcV M_br_prefer M_rg_fillPreferring 15 18 := ⟨178, by decide +kernel, rfl, ml_br_178, by decide, by decide⟩
theorem D_br_prefer_18 : Dc M_br_prefer 18 (.aload_n 0) 1 19 := ⟨by decide +kernel, rfl⟩
theorem D_br_prefer_19 : Dg M_br_prefer 19 22 5 0 R_br T_br 7 := ⟨12, by decide +kernel, rfl, rfl, by decide, fl_br_12, in_br⟩
theorem D_br_prefer_22 : DcV M_br_prefer M_rg_countOnes 22 25 := ⟨72, by decide +kernel, rfl, ml_br_72, by decide, by decide⟩
theorem D_br_prefer_25 : Dc M_br_prefer 25 (.ireturn) 1 26 := ⟨by decide +kernel, rfl⟩
theorem D_br_sheet_0 : Dc M_br_sheet 0 (.aload_n 0) 1 1 := ⟨by decide +kernel, rfl⟩
theorem D_br_sheet_1 : Dc M_br_sheet 1 (.iconst 0) 1 2 := ⟨by decide +kernel, rfl⟩
theorem D_br_sheet_2 : Dp M_br_sheet 2 5 5 6 R_br T_br 7 := ⟨76, by decide +kernel, rfl, rfl, by decide, fl_br_76, in_br, rfl⟩
theorem D_br_sheet_5 : Dc M_br_sheet 5 (.iload_n 1) 1 6 := ⟨by decide +kernel, rfl⟩
theorem D_br_sheet_6 : DcS M_br_sheet M_br_isSheet 6 9 := ⟨79, by decide +kernel, rfl, ml_br_79, by decide, by decide⟩
theorem D_br_sheet_9 : Dj M_br_sheet 9 (.ifCond .ne) 12 14 := ⟨5, by decide +kernel, rfl, by decide⟩
theorem D_br_sheet_12 : Dc M_br_sheet 12 (.iconst (-1)) 1 13 := ⟨by decide +kernel, rfl⟩
theorem D_br_sheet_13 : Dc M_br_sheet 13 (.ireturn) 1 14 := ⟨by decide +kernel, rfl⟩
theorem D_br_sheet_14 : Dc M_br_sheet 14 (.iload_n 2) 1 15 := ⟨by decide +kernel, rfl⟩
theorem D_br_sheet_15 : DcS M_br_sheet M_br_isLane 15 18 := ⟨82, by decide +kernel, rfl, ml_br_82, by decide, by decide⟩
theorem D_br_sheet_18 : Dj M_br_sheet 18 (.ifCond .eq) 21 28 := ⟨10, by decide +kernel, rfl, by decide⟩
theorem D_br_sheet_21 : Dc M_br_sheet 21 (.iload_n 3) 1 22 := ⟨by decide +kernel, rfl⟩
theorem D_br_sheet_22 : Dc M_br_sheet 22 (.sipush 600) 3 25 := ⟨by decide +kernel, rfl⟩
theorem D_br_sheet_25 : Dj M_br_sheet 25 (.if_icmp .le) 28 31 := ⟨6, by decide +kernel, rfl, by decide⟩
theorem D_br_sheet_28 : Dc M_br_sheet 28 (.bipush (-2)) 2 30 := ⟨by decide +kernel, rfl⟩
theorem D_br_sheet_30 : Dc M_br_sheet 30 (.ireturn) 1 31 := ⟨by decide +kernel, rfl⟩
theorem D_br_sheet_31 : Dc M_br_sheet 31 (.iload_n 3) 1 32 := ⟨by decide +kernel, rfl⟩
theorem D_br_sheet_32 : Dj M_br_sheet 32 (.ifCond .ge) 35 41 := ⟨9, by decide +kernel, rfl, by decide⟩
theorem D_br_sheet_35 : Dc M_br_sheet 35 (.aload_n 0) 1 36 := ⟨by decide +kernel, rfl⟩
theorem D_br_sheet_36 : Dc M_br_sheet 36 (.iconst 4) 1 37 := ⟨by decide +kernel, rfl⟩
theorem D_br_sheet_37 : DcV M_br_sheet M_br_faulted 37 40 := ⟨88, by decide +kernel, rfl, ml_br_88, by decide, by decide⟩
theorem D_br_sheet_40 : Dc M_br_sheet 40 (.ireturn) 1 41 := ⟨by decide +kernel, rfl⟩
theorem D_br_sheet_41 : Dc M_br_sheet 41 (.aload_n 0) 1 42 := ⟨by decide +kernel, rfl⟩
theorem D_br_sheet_42 : Dg M_br_sheet 42 45 5 3 R_br T_br 7 := ⟨34, by decide +kernel, rfl, rfl, by decide, fl_br_34, in_br⟩
theorem D_br_sheet_45 : Dc M_br_sheet 45 (.iload_n 1) 1 46 := ⟨by decide +kernel, rfl⟩
theorem D_br_sheet_46 : Dc M_br_sheet 46 (.aaload) 1 47 := ⟨by decide +kernel, rfl⟩
theorem D_br_sheet_47 : Dc M_br_sheet 47 (.iload_n 2) 1 48 := ⟨by decide +kernel, rfl⟩
theorem D_br_sheet_48 : Dc M_br_sheet 48 (.iload_n 3) 1 49 := ⟨by decide +kernel, rfl⟩
theorem ml_br_181 : Cond.methodLink R_br 181 M_sh_renew.1 ∈ gtb := mem_g 478 (by decide +kernel) rfl
theorem D_br_sheet_49 : DcV M_br_sheet M_sh_renew 49 52 := ⟨181, by decide +kernel, rfl, ml_br_181, by decide, by decide⟩
theorem D_br_sheet_52 : Dc M_br_sheet 52 (.iconst 1) 1 53 := ⟨by decide +kernel, rfl⟩
theorem D_br_sheet_53 : Dc M_br_sheet 53 (.ireturn) 1 54 := ⟨by decide +kernel, rfl⟩
theorem D_br_lose_0 : Dc M_br_lose 0 (.iload_n 1) 1 1 := ⟨by decide +kernel, rfl⟩
theorem D_br_lose_1 : DcS M_br_lose M_br_isSheet 1 4 := ⟨79, by decide +kernel, rfl, ml_br_79, by decide, by decide⟩
theorem D_br_lose_4 : Dj M_br_lose 4 (.ifCond .ne) 7 9 := ⟨5, by decide +kernel, rfl, by decide⟩
theorem D_br_lose_7 : Dc M_br_lose 7 (.iconst (-1)) 1 8 := ⟨by decide +kernel, rfl⟩
theorem D_br_lose_8 : Dc M_br_lose 8 (.ireturn) 1 9 := ⟨by decide +kernel, rfl⟩
theorem D_br_lose_9 : Dc M_br_lose 9 (.aload_n 0) 1 10 := ⟨by decide +kernel, rfl⟩
theorem D_br_lose_10 : Dg M_br_lose 10 13 5 3 R_br T_br 7 := ⟨34, by decide +kernel, rfl, rfl, by decide, fl_br_34, in_br⟩
theorem D_br_lose_13 : Dc M_br_lose 13 (.iload_n 1) 1 14 := ⟨by decide +kernel, rfl⟩
theorem D_br_lose_14 : Dc M_br_lose 14 (.aaload) 1 15 := ⟨by decide +kernel, rfl⟩
theorem D_br_lose_15 : DcV M_br_lose M_sh_isNothing 15 18 := ⟨92, by decide +kernel, rfl, ml_br_92, by decide, by decide⟩
theorem D_br_lose_18 : Dj M_br_lose 18 (.ifCond .eq) 21 25 := ⟨7, by decide +kernel, rfl, by decide⟩
theorem D_br_lose_21 : Dc M_br_lose 21 (.iconst 0) 1 22 := ⟨by decide +kernel, rfl⟩
theorem D_br_lose_22 : Dj M_br_lose 22 (.goto) 25 26 := ⟨4, by decide +kernel, rfl, by decide⟩
theorem D_br_lose_25 : Dc M_br_lose 25 (.iconst 1) 1 26 := ⟨by decide +kernel, rfl⟩
theorem D_br_lose_26 : Dc M_br_lose 26 (.istore_n 2) 1 27 := ⟨by decide +kernel, rfl⟩
theorem D_br_lose_27 : Dc M_br_lose 27 (.aload_n 0) 1 28 := ⟨by decide +kernel, rfl⟩
theorem D_br_lose_28 : Dg M_br_lose 28 31 5 3 R_br T_br 7 := ⟨34, by decide +kernel, rfl, rfl, by decide, fl_br_34, in_br⟩
theorem D_br_lose_31 : Dc M_br_lose 31 (.iload_n 1) 1 32 := ⟨by decide +kernel, rfl⟩
theorem D_br_lose_32 : Dc M_br_lose 32 (.aaload) 1 33 := ⟨by decide +kernel, rfl⟩
theorem ml_br_184 : Cond.methodLink R_br 184 M_sh_drop.1 ∈ gtb := mem_g 487 (by decide +kernel) rfl
theorem D_br_lose_33 : DcV M_br_lose M_sh_drop 33 36 := ⟨184, by decide +kernel, rfl, ml_br_184, by decide, by decide⟩
theorem D_br_lose_36 : Dc M_br_lose 36 (.iload_n 2) 1 37 := ⟨by decide +kernel, rfl⟩
theorem D_br_lose_37 : Dc M_br_lose 37 (.ireturn) 1 38 := ⟨by decide +kernel, rfl⟩
theorem D_br_put_0 : Dc M_br_put 0 (.aload_n 0) 1 1 := ⟨by decide +kernel, rfl⟩
theorem D_br_put_1 : Dc M_br_put 1 (.iconst 0) 1 2 := ⟨by decide +kernel, rfl⟩
theorem D_br_put_2 : Dp M_br_put 2 5 5 6 R_br T_br 7 := ⟨76, by decide +kernel, rfl, rfl, by decide, fl_br_76, in_br, rfl⟩
theorem D_br_put_5 : Dc M_br_put 5 (.iload_n 1) 1 6 := ⟨by decide +kernel, rfl⟩
theorem D_br_put_6 : DcS M_br_put M_br_isSheet 6 9 := ⟨79, by decide +kernel, rfl, ml_br_79, by decide, by decide⟩
theorem D_br_put_9 : Dj M_br_put 9 (.ifCond .ne) 12 14 := ⟨5, by decide +kernel, rfl, by decide⟩
theorem D_br_put_12 : Dc M_br_put 12 (.iconst (-1)) 1 13 := ⟨by decide +kernel, rfl⟩
theorem D_br_put_13 : Dc M_br_put 13 (.ireturn) 1 14 := ⟨by decide +kernel, rfl⟩
theorem D_br_put_14 : Dc M_br_put 14 (.aload_n 0) 1 15 := ⟨by decide +kernel, rfl⟩
theorem D_br_put_15 : Dg M_br_put 15 18 5 3 R_br T_br 7 := ⟨34, by decide +kernel, rfl, rfl, by decide, fl_br_34, in_br⟩
theorem D_br_put_18 : Dc M_br_put 18 (.iload_n 1) 1 19 := ⟨by decide +kernel, rfl⟩
theorem D_br_put_19 : Dc M_br_put 19 (.aaload) 1 20 := ⟨by decide +kernel, rfl⟩
theorem D_br_put_20 : Dc M_br_put 20 (.astore 5) 2 22 := ⟨by decide +kernel, rfl⟩
theorem D_br_put_22 : Dc M_br_put 22 (.aload 5) 2 24 := ⟨by decide +kernel, rfl⟩
theorem D_br_put_24 : DcV M_br_put M_sh_isNothing 24 27 := ⟨92, by decide +kernel, rfl, ml_br_92, by decide, by decide⟩
theorem D_br_put_27 : Dj M_br_put 27 (.ifCond .eq) 30 36 := ⟨9, by decide +kernel, rfl, by decide⟩
theorem D_br_put_30 : Dc M_br_put 30 (.aload_n 0) 1 31 := ⟨by decide +kernel, rfl⟩
theorem D_br_put_31 : Dc M_br_put 31 (.iconst 1) 1 32 := ⟨by decide +kernel, rfl⟩
theorem D_br_put_32 : DcV M_br_put M_br_faulted 32 35 := ⟨88, by decide +kernel, rfl, ml_br_88, by decide, by decide⟩
theorem D_br_put_35 : Dc M_br_put 35 (.ireturn) 1 36 := ⟨by decide +kernel, rfl⟩
theorem D_br_put_36 : Dc M_br_put 36 (.aload 5) 2 38 := ⟨by decide +kernel, rfl⟩
theorem D_br_put_38 : Dc M_br_put 38 (.iload_n 2) 1 39 := ⟨by decide +kernel, rfl⟩
theorem D_br_put_39 : Dc M_br_put 39 (.iconst 1) 1 40 := ⟨by decide +kernel, rfl⟩
theorem D_br_put_40 : DcV M_br_put M_sh_hasCells 40 43 := ⟨96, by decide +kernel, rfl, ml_br_96, by decide, by decide⟩
theorem D_br_put_43 : Dj M_br_put 43 (.ifCond .ne) 46 52 := ⟨9, by decide +kernel, rfl, by decide⟩
theorem D_br_put_46 : Dc M_br_put 46 (.aload_n 0) 1 47 := ⟨by decide +kernel, rfl⟩
theorem D_br_put_47 : Dc M_br_put 47 (.iconst 3) 1 48 := ⟨by decide +kernel, rfl⟩
theorem D_br_put_48 : DcV M_br_put M_br_faulted 48 51 := ⟨88, by decide +kernel, rfl, ml_br_88, by decide, by decide⟩
theorem D_br_put_51 : Dc M_br_put 51 (.ireturn) 1 52 := ⟨by decide +kernel, rfl⟩
theorem D_br_put_52 : Dc M_br_put 52 (.aload 5) 2 54 := ⟨by decide +kernel, rfl⟩
theorem D_br_put_54 : Dc M_br_put 54 (.iload_n 2) 1 55 := ⟨by decide +kernel, rfl⟩
theorem D_br_put_55 : Dc M_br_put 55 (.lload_n 3) 1 56 := ⟨by decide +kernel, rfl⟩
theorem ml_br_187 : Cond.methodLink R_br 187 M_sh_write.1 ∈ gtb := mem_g 495 (by decide +kernel) rfl
theorem D_br_put_56 : DcV M_br_put M_sh_write 56 59 := ⟨187, by decide +kernel, rfl, ml_br_187, by decide, by decide⟩
theorem D_br_put_59 : Dc M_br_put 59 (.iconst 1) 1 60 := ⟨by decide +kernel, rfl⟩
theorem D_br_put_60 : Dc M_br_put 60 (.ireturn) 1 61 := ⟨by decide +kernel, rfl⟩
theorem D_br_at_0 : Dc M_br_at 0 (.aload_n 0) 1 1 := ⟨by decide +kernel, rfl⟩
theorem D_br_at_1 : Dc M_br_at 1 (.iconst 0) 1 2 := ⟨by decide +kernel, rfl⟩
theorem D_br_at_2 : Dp M_br_at 2 5 5 6 R_br T_br 7 := ⟨76, by decide +kernel, rfl, rfl, by decide, fl_br_76, in_br, rfl⟩
theorem D_br_at_5 : Dc M_br_at 5 (.iload_n 1) 1 6 := ⟨by decide +kernel, rfl⟩
theorem D_br_at_6 : DcS M_br_at M_br_isSheet 6 9 := ⟨79, by decide +kernel, rfl, ml_br_79, by decide, by decide⟩
theorem D_br_at_9 : Dj M_br_at 9 (.ifCond .eq) 12 19 := ⟨10, by decide +kernel, rfl, by decide⟩
theorem D_br_at_12 : Dc M_br_at 12 (.iload_n 3) 1 13 := ⟨by decide +kernel, rfl⟩
theorem D_br_at_13 : DcS M_br_at M_br_isLane 13 16 := ⟨82, by decide +kernel, rfl, ml_br_82, by decide, by decide⟩
theorem D_br_at_16 : Dj M_br_at 16 (.ifCond .ne) 19 23 := ⟨7, by decide +kernel, rfl, by decide⟩
theorem D_br_at_19 : Dl M_br_at 19 22 (-lN 9223372036854775808) := ⟨190, by decide +kernel, rfl, by decide +kernel⟩
theorem D_br_at_22 : Dc M_br_at 22 (.lreturn) 1 23 := ⟨by decide +kernel, rfl⟩
theorem D_br_at_23 : Dc M_br_at 23 (.aload_n 0) 1 24 := ⟨by decide +kernel, rfl⟩
theorem D_br_at_24 : Dg M_br_at 24 27 5 3 R_br T_br 7 := ⟨34, by decide +kernel, rfl, rfl, by decide, fl_br_34, in_br⟩
theorem D_br_at_27 : Dc M_br_at 27 (.iload_n 1) 1 28 := ⟨by decide +kernel, rfl⟩
theorem D_br_at_28 : Dc M_br_at 28 (.aaload) 1 29 := ⟨by decide +kernel, rfl⟩
theorem D_br_at_29 : Dc M_br_at 29 (.astore 4) 2 31 := ⟨by decide +kernel, rfl⟩
theorem D_br_at_31 : Dc M_br_at 31 (.aload 4) 2 33 := ⟨by decide +kernel, rfl⟩
theorem D_br_at_33 : Dc M_br_at 33 (.iload_n 3) 1 34 := ⟨by decide +kernel, rfl⟩
theorem D_br_at_34 : DcV M_br_at M_sh_isOfOtherLane 34 37 := ⟨85, by decide +kernel, rfl, ml_br_85, by decide, by decide⟩
theorem D_br_at_37 : Dj M_br_at 37 (.ifCond .eq) 40 48 := ⟨11, by decide +kernel, rfl, by decide⟩
theorem D_br_at_40 : Dc M_br_at 40 (.aload_n 0) 1 41 := ⟨by decide +kernel, rfl⟩
theorem D_br_at_41 : Dc M_br_at 41 (.iconst 2) 1 42 := ⟨by decide +kernel, rfl⟩
theorem D_br_at_42 : Dp M_br_at 42 45 5 6 R_br T_br 7 := ⟨76, by decide +kernel, rfl, rfl, by decide, fl_br_76, in_br, rfl⟩
theorem D_br_at_45 : Dj M_br_at 45 (.goto) 48 79 := ⟨34, by decide +kernel, rfl, by decide⟩
theorem D_br_at_48 : Dc M_br_at 48 (.aload 4) 2 50 := ⟨by decide +kernel, rfl⟩
theorem D_br_at_50 : DcV M_br_at M_sh_isNothing 50 53 := ⟨92, by decide +kernel, rfl, ml_br_92, by decide, by decide⟩
theorem D_br_at_53 : Dj M_br_at 53 (.ifCond .eq) 56 64 := ⟨11, by decide +kernel, rfl, by decide⟩
theorem D_br_at_56 : Dc M_br_at 56 (.aload_n 0) 1 57 := ⟨by decide +kernel, rfl⟩
theorem D_br_at_57 : Dc M_br_at 57 (.iconst 1) 1 58 := ⟨by decide +kernel, rfl⟩
theorem D_br_at_58 : Dp M_br_at 58 61 5 6 R_br T_br 7 := ⟨76, by decide +kernel, rfl, rfl, by decide, fl_br_76, in_br, rfl⟩
theorem D_br_at_61 : Dj M_br_at 61 (.goto) 64 79 := ⟨18, by decide +kernel, rfl, by decide⟩
theorem D_br_at_64 : Dc M_br_at 64 (.aload 4) 2 66 := ⟨by decide +kernel, rfl⟩
theorem D_br_at_66 : Dc M_br_at 66 (.iload_n 2) 1 67 := ⟨by decide +kernel, rfl⟩
theorem D_br_at_67 : Dc M_br_at 67 (.iconst 1) 1 68 := ⟨by decide +kernel, rfl⟩
theorem D_br_at_68 : DcV M_br_at M_sh_hasCells 68 71 := ⟨96, by decide +kernel, rfl, ml_br_96, by decide, by decide⟩
theorem D_br_at_71 : Dj M_br_at 71 (.ifCond .ne) 74 79 := ⟨8, by decide +kernel, rfl, by decide⟩
theorem D_br_at_74 : Dc M_br_at 74 (.aload_n 0) 1 75 := ⟨by decide +kernel, rfl⟩
theorem D_br_at_75 : Dc M_br_at 75 (.iconst 3) 1 76 := ⟨by decide +kernel, rfl⟩
theorem D_br_at_76 : Dp M_br_at 76 79 5 6 R_br T_br 7 := ⟨76, by decide +kernel, rfl, rfl, by decide, fl_br_76, in_br, rfl⟩
theorem D_br_at_79 : Dc M_br_at 79 (.aload_n 0) 1 80 := ⟨by decide +kernel, rfl⟩
theorem D_br_at_80 : Dg M_br_at 80 83 5 6 R_br T_br 7 := ⟨76, by decide +kernel, rfl, rfl, by decide, fl_br_76, in_br⟩
theorem D_br_at_83 : Dj M_br_at 83 (.ifCond .ne) 86 96 := ⟨13, by decide +kernel, rfl, by decide⟩
theorem D_br_at_86 : Dc M_br_at 86 (.aload 4) 2 88 := ⟨by decide +kernel, rfl⟩
theorem fl_br_192 : Cond.fieldLink R_br 192 (T_sh 2).1 (T_sh 2).2.1 (T_sh 2).2.2.1 ∈ gtb := mem_g 167 (by decide +kernel) rfl
theorem D_br_at_88 : Dg M_br_at 88 91 3 2 R_sh T_sh 3 := ⟨192, by decide +kernel, rfl, rfl, by decide, fl_br_192, in_sh⟩
theorem D_br_at_91 : Dc M_br_at 91 (.iload_n 2) 1 92 := ⟨by decide +kernel, rfl⟩
theorem D_br_at_92 : Dc M_br_at 92 (.laload) 1 93 := ⟨by decide +kernel, rfl⟩
theorem D_br_at_93 : Dj M_br_at 93 (.goto) 96 99 := ⟨6, by decide +kernel, rfl, by decide⟩
theorem D_br_at_96 : Dl M_br_at 96 99 (-lN 9223372036854775808) := ⟨190, by decide +kernel, rfl, by decide +kernel⟩
theorem D_br_at_99 : Dc M_br_at 99 (.lreturn) 1 100 := ⟨by decide +kernel, rfl⟩
theorem D_br_out_0 : Dc M_br_out 0 (.aload_n 0) 1 1 := ⟨by decide +kernel, rfl⟩
theorem D_br_out_1 : Dc M_br_out 1 (.iconst 0) 1 2 := ⟨by decide +kernel, rfl⟩
theorem D_br_out_2 : Dp M_br_out 2 5 5 6 R_br T_br 7 := ⟨76, by decide +kernel, rfl, rfl, by decide, fl_br_76, in_br, rfl⟩
theorem D_br_out_5 : Dc M_br_out 5 (.iload_n 2) 1 6 := ⟨by decide +kernel, rfl⟩
theorem D_br_out_6 : DcS M_br_out M_br_isSheet 6 9 := ⟨79, by decide +kernel, rfl, ml_br_79, by decide, by decide⟩
theorem D_br_out_9 : Dj M_br_out 9 (.ifCond .eq) 12 23 := ⟨14, by decide +kernel, rfl, by decide⟩
theorem D_br_out_12 : Dc M_br_out 12 (.aload_n 0) 1 13 := ⟨by decide +kernel, rfl⟩
theorem D_br_out_13 : Dg M_br_out 13 16 5 0 R_br T_br 7 := ⟨12, by decide +kernel, rfl, rfl, by decide, fl_br_12, in_br⟩
theorem D_br_out_16 : Dc M_br_out 16 (.iload_n 1) 1 17 := ⟨by decide +kernel, rfl⟩
theorem D_br_out_17 : DcV M_br_out M_rg_has 17 20 := ⟨54, by decide +kernel, rfl, ml_br_54, by decide, by decide⟩
theorem D_br_out_20 : Dj M_br_out 20 (.ifCond .ne) 23 25 := ⟨5, by decide +kernel, rfl, by decide⟩
theorem D_br_out_23 : Dc M_br_out 23 (.iconst (-1)) 1 24 := ⟨by decide +kernel, rfl⟩
theorem D_br_out_24 : Dc M_br_out 24 (.ireturn) 1 25 := ⟨by decide +kernel, rfl⟩
theorem D_br_out_25 : Dc M_br_out 25 (.aload_n 0) 1 26 := ⟨by decide +kernel, rfl⟩
theorem D_br_out_26 : Dg M_br_out 26 29 5 3 R_br T_br 7 := ⟨34, by decide +kernel, rfl, rfl, by decide, fl_br_34, in_br⟩
theorem D_br_out_29 : Dc M_br_out 29 (.iload_n 2) 1 30 := ⟨by decide +kernel, rfl⟩
theorem D_br_out_30 : Dc M_br_out 30 (.aaload) 1 31 := ⟨by decide +kernel, rfl⟩
theorem D_br_out_31 : Dc M_br_out 31 (.astore 5) 2 33 := ⟨by decide +kernel, rfl⟩
theorem D_br_out_33 : Dc M_br_out 33 (.aload 5) 2 35 := ⟨by decide +kernel, rfl⟩
theorem D_br_out_35 : DcV M_br_out M_sh_isNothing 35 38 := ⟨92, by decide +kernel, rfl, ml_br_92, by decide, by decide⟩
theorem D_br_out_38 : Dj M_br_out 38 (.ifCond .eq) 41 47 := ⟨9, by decide +kernel, rfl, by decide⟩
theorem D_br_out_41 : Dc M_br_out 41 (.aload_n 0) 1 42 := ⟨by decide +kernel, rfl⟩
theorem D_br_out_42 : Dc M_br_out 42 (.iconst 1) 1 43 := ⟨by decide +kernel, rfl⟩
theorem D_br_out_43 : DcV M_br_out M_br_faulted 43 46 := ⟨88, by decide +kernel, rfl, ml_br_88, by decide, by decide⟩
theorem D_br_out_46 : Dc M_br_out 46 (.ireturn) 1 47 := ⟨by decide +kernel, rfl⟩
theorem D_br_out_47 : Dc M_br_out 47 (.iload 4) 2 49 := ⟨by decide +kernel, rfl⟩
theorem D_br_out_49 : Dj M_br_out 49 (.ifCond .ge) 52 58 := ⟨9, by decide +kernel, rfl, by decide⟩
theorem D_br_out_52 : Dc M_br_out 52 (.aload_n 0) 1 53 := ⟨by decide +kernel, rfl⟩
theorem D_br_out_53 : Dc M_br_out 53 (.iconst 4) 1 54 := ⟨by decide +kernel, rfl⟩
theorem D_br_out_54 : DcV M_br_out M_br_faulted 54 57 := ⟨88, by decide +kernel, rfl, ml_br_88, by decide, by decide⟩
theorem D_br_out_57 : Dc M_br_out 57 (.ireturn) 1 58 := ⟨by decide +kernel, rfl⟩
theorem D_br_out_58 : Dc M_br_out 58 (.aload 5) 2 60 := ⟨by decide +kernel, rfl⟩
theorem D_br_out_60 : Dc M_br_out 60 (.iload_n 3) 1 61 := ⟨by decide +kernel, rfl⟩
theorem D_br_out_61 : Dc M_br_out 61 (.iload 4) 2 63 := ⟨by decide +kernel, rfl⟩
theorem D_br_out_63 : DcV M_br_out M_sh_hasCells 63 66 := ⟨96, by decide +kernel, rfl, ml_br_96, by decide, by decide⟩
theorem D_br_out_66 : Dj M_br_out 66 (.ifCond .ne) 69 75 := ⟨9, by decide +kernel, rfl, by decide⟩
theorem D_br_out_69 : Dc M_br_out 69 (.aload_n 0) 1 70 := ⟨by decide +kernel, rfl⟩
theorem D_br_out_70 : Dc M_br_out 70 (.iconst 3) 1 71 := ⟨by decide +kernel, rfl⟩
theorem D_br_out_71 : DcV M_br_out M_br_faulted 71 74 := ⟨88, by decide +kernel, rfl, ml_br_88, by decide, by decide⟩
theorem D_br_out_74 : Dc M_br_out 74 (.ireturn) 1 75 := ⟨by decide +kernel, rfl⟩
theorem D_br_out_75 : Dc M_br_out 75 (.iload_n 1) 1 76 := ⟨by decide +kernel, rfl⟩
theorem D_br_out_76 : Dc M_br_out 76 (.istore 6) 2 78 := ⟨by decide +kernel, rfl⟩
theorem D_br_out_78 : Dc M_br_out 78 (.iconst 0) 1 79 := ⟨by decide +kernel, rfl⟩
theorem D_br_out_79 : Dc M_br_out 79 (.istore 7) 2 81 := ⟨by decide +kernel, rfl⟩
theorem D_br_out_81 : Dc M_br_out 81 (.iload 7) 2 83 := ⟨by decide +kernel, rfl⟩
theorem D_br_out_83 : Dc M_br_out 83 (.iload 4) 2 85 := ⟨by decide +kernel, rfl⟩
theorem D_br_out_85 : Dj M_br_out 85 (.if_icmp .ge) 88 119 := ⟨34, by decide +kernel, rfl, by decide⟩
theorem D_br_out_88 : Dc M_br_out 88 (.aload 5) 2 90 := ⟨by decide +kernel, rfl⟩
theorem D_br_out_90 : Dc M_br_out 90 (.iload_n 3) 1 91 := ⟨by decide +kernel, rfl⟩
theorem D_br_out_91 : Dc M_br_out 91 (.iload 7) 2 93 := ⟨by decide +kernel, rfl⟩
theorem D_br_out_93 : Dc M_br_out 93 (.iadd) 1 94 := ⟨by decide +kernel, rfl⟩
theorem D_br_out_94 : Dc M_br_out 94 (.iload 6) 2 96 := ⟨by decide +kernel, rfl⟩
theorem D_br_out_96 : Dc M_br_out 96 (.iconst 1) 1 97 := ⟨by decide +kernel, rfl⟩
theorem D_br_out_97 : Dc M_br_out 97 (.iand) 1 98 := ⟨by decide +kernel, rfl⟩
theorem D_br_out_98 : Dc M_br_out 98 (.i2l) 1 99 := ⟨by decide +kernel, rfl⟩
theorem D_br_out_99 : DcV M_br_out M_sh_write 99 102 := ⟨187, by decide +kernel, rfl, ml_br_187, by decide, by decide⟩
theorem D_br_out_102 : Dc M_br_out 102 (.aload_n 0) 1 103 := ⟨by decide +kernel, rfl⟩
theorem D_br_out_103 : Dg M_br_out 103 106 5 0 R_br T_br 7 := ⟨12, by decide +kernel, rfl, rfl, by decide, fl_br_12, in_br⟩
theorem D_br_out_106 : Dc M_br_out 106 (.iload 6) 2 108 := ⟨by decide +kernel, rfl⟩
theorem D_br_out_108 : DcV M_br_out M_rg_next 108 111 := ⟨124, by decide +kernel, rfl, ml_br_124, by decide, by decide⟩
theorem D_br_out_111 : Dc M_br_out 111 (.istore 6) 2 113 := ⟨by decide +kernel, rfl⟩
theorem D_br_out_113 : Dc M_br_out 113 (.iinc 7 1) 3 116 := ⟨by decide +kernel, rfl⟩
theorem D_br_out_116 : Dj M_br_out 116 (.goto) 119 81 := ⟨(-35), by decide +kernel, rfl, by decide⟩
theorem D_br_out_119 : Dc M_br_out 119 (.iload 6) 2 121 := ⟨by decide +kernel, rfl⟩
theorem D_br_out_121 : Dc M_br_out 121 (.ireturn) 1 122 := ⟨by decide +kernel, rfl⟩
theorem D_br_thin_0 : Dc M_br_thin 0 (.aload_n 0) 1 1 := ⟨by decide +kernel, rfl⟩
theorem D_br_thin_1 : Dc M_br_thin 1 (.iconst 0) 1 2 := ⟨by decide +kernel, rfl⟩
theorem D_br_thin_2 : Dp M_br_thin 2 5 5 6 R_br T_br 7 := ⟨76, by decide +kernel, rfl, rfl, by decide, fl_br_76, in_br, rfl⟩
theorem D_br_thin_5 : Dc M_br_thin 5 (.iload_n 1) 1 6 := ⟨by decide +kernel, rfl⟩
theorem D_br_thin_6 : DcS M_br_thin M_br_isSheet 6 9 := ⟨79, by decide +kernel, rfl, ml_br_79, by decide, by decide⟩
theorem D_br_thin_9 : Dj M_br_thin 9 (.ifCond .eq) 12 19 := ⟨10, by decide +kernel, rfl, by decide⟩
theorem D_br_thin_12 : Dc M_br_thin 12 (.iload_n 3) 1 13 := ⟨by decide +kernel, rfl⟩
theorem D_br_thin_13 : DcS M_br_thin M_br_isSheet 13 16 := ⟨79, by decide +kernel, rfl, ml_br_79, by decide, by decide⟩
theorem D_br_thin_16 : Dj M_br_thin 16 (.ifCond .ne) 19 21 := ⟨5, by decide +kernel, rfl, by decide⟩
theorem D_br_thin_19 : Dc M_br_thin 19 (.iconst (-1)) 1 20 := ⟨by decide +kernel, rfl⟩
theorem D_br_thin_20 : Dc M_br_thin 20 (.ireturn) 1 21 := ⟨by decide +kernel, rfl⟩
theorem D_br_thin_21 : Dc M_br_thin 21 (.iload_n 2) 1 22 := ⟨by decide +kernel, rfl⟩
theorem D_br_thin_22 : Dc M_br_thin 22 (.iconst 1) 1 23 := ⟨by decide +kernel, rfl⟩
theorem D_br_thin_23 : Dj M_br_thin 23 (.if_icmp .lt) 26 33 := ⟨10, by decide +kernel, rfl, by decide⟩
theorem D_br_thin_26 : Dc M_br_thin 26 (.iload_n 2) 1 27 := ⟨by decide +kernel, rfl⟩
theorem D_br_thin_27 : Dc M_br_thin 27 (.sipush 600) 3 30 := ⟨by decide +kernel, rfl⟩
theorem D_br_thin_30 : Dj M_br_thin 30 (.if_icmp .le) 33 36 := ⟨6, by decide +kernel, rfl, by decide⟩
theorem D_br_thin_33 : Dc M_br_thin 33 (.bipush (-2)) 2 35 := ⟨by decide +kernel, rfl⟩
theorem D_br_thin_35 : Dc M_br_thin 35 (.ireturn) 1 36 := ⟨by decide +kernel, rfl⟩
theorem D_br_thin_36 : Dc M_br_thin 36 (.aload_n 0) 1 37 := ⟨by decide +kernel, rfl⟩
theorem D_br_thin_37 : Dg M_br_thin 37 40 5 3 R_br T_br 7 := ⟨34, by decide +kernel, rfl, rfl, by decide, fl_br_34, in_br⟩
theorem D_br_thin_40 : Dc M_br_thin 40 (.iload_n 1) 1 41 := ⟨by decide +kernel, rfl⟩
theorem D_br_thin_41 : Dc M_br_thin 41 (.aaload) 1 42 := ⟨by decide +kernel, rfl⟩
theorem D_br_thin_42 : DcV M_br_thin M_sh_isNothing 42 45 := ⟨92, by decide +kernel, rfl, ml_br_92, by decide, by decide⟩
theorem D_br_thin_45 : Dj M_br_thin 45 (.ifCond .eq) 48 54 := ⟨9, by decide +kernel, rfl, by decide⟩
theorem D_br_thin_48 : Dc M_br_thin 48 (.aload_n 0) 1 49 := ⟨by decide +kernel, rfl⟩
theorem D_br_thin_49 : Dc M_br_thin 49 (.iconst 1) 1 50 := ⟨by decide +kernel, rfl⟩
theorem D_br_thin_50 : DcV M_br_thin M_br_faulted 50 53 := ⟨88, by decide +kernel, rfl, ml_br_88, by decide, by decide⟩
theorem D_br_thin_53 : Dc M_br_thin 53 (.ireturn) 1 54 := ⟨by decide +kernel, rfl⟩
theorem D_br_thin_54 : Dc M_br_thin 54 (.aload_n 0) 1 55 := ⟨by decide +kernel, rfl⟩
theorem D_br_thin_55 : Dg M_br_thin 55 58 5 3 R_br T_br 7 := ⟨34, by decide +kernel, rfl, rfl, by decide, fl_br_34, in_br⟩
theorem D_br_thin_58 : Dc M_br_thin 58 (.iload_n 3) 1 59 := ⟨by decide +kernel, rfl⟩
theorem D_br_thin_59 : Dc M_br_thin 59 (.aaload) 1 60 := ⟨by decide +kernel, rfl⟩
theorem D_br_thin_60 : Dc M_br_thin 60 (.aload_n 0) 1 61 := ⟨by decide +kernel, rfl⟩
theorem D_br_thin_61 : Dg M_br_thin 61 64 5 3 R_br T_br 7 := ⟨34, by decide +kernel, rfl, rfl, by decide, fl_br_34, in_br⟩
theorem D_br_thin_64 : Dc M_br_thin 64 (.iload_n 1) 1 65 := ⟨by decide +kernel, rfl⟩
theorem D_br_thin_65 : Dc M_br_thin 65 (.aaload) 1 66 := ⟨by decide +kernel, rfl⟩
theorem D_br_thin_66 : Dc M_br_thin 66 (.iload_n 2) 1 67 := ⟨by decide +kernel, rfl⟩
theorem ml_br_196 : Cond.methodLink R_br 196 M_sh_becomeThinned.1 ∈ gtb := mem_g 512 (by decide +kernel) rfl
theorem D_br_thin_67 : DcV M_br_thin M_sh_becomeThinned 67 70 := ⟨196, by decide +kernel, rfl, ml_br_196, by decide, by decide⟩
theorem D_br_thin_70 : Dc M_br_thin 70 (.aload_n 0) 1 71 := ⟨by decide +kernel, rfl⟩
theorem D_br_thin_71 : Dg M_br_thin 71 74 5 3 R_br T_br 7 := ⟨34, by decide +kernel, rfl, rfl, by decide, fl_br_34, in_br⟩
theorem D_br_thin_74 : Dc M_br_thin 74 (.iload_n 3) 1 75 := ⟨by decide +kernel, rfl⟩
theorem D_br_thin_75 : Dc M_br_thin 75 (.aaload) 1 76 := ⟨by decide +kernel, rfl⟩
theorem fl_br_200 : Cond.fieldLink R_br 200 (T_sh 1).1 (T_sh 1).2.1 (T_sh 1).2.2.1 ∈ gtb := mem_g 165 (by decide +kernel) rfl
theorem D_br_thin_76 : Dg M_br_thin 76 79 3 1 R_sh T_sh 3 := ⟨200, by decide +kernel, rfl, rfl, by decide, fl_br_200, in_sh⟩
theorem D_br_thin_79 : Dc M_br_thin 79 (.ireturn) 1 80 := ⟨by decide +kernel, rfl⟩
theorem D_br_mix_0 : Dc M_br_mix 0 (.aload_n 0) 1 1 := ⟨by decide +kernel, rfl⟩
theorem D_br_mix_1 : Dc M_br_mix 1 (.iconst 0) 1 2 := ⟨by decide +kernel, rfl⟩
theorem D_br_mix_2 : Dp M_br_mix 2 5 5 6 R_br T_br 7 := ⟨76, by decide +kernel, rfl, rfl, by decide, fl_br_76, in_br, rfl⟩
theorem D_br_mix_5 : Dc M_br_mix 5 (.iload_n 1) 1 6 := ⟨by decide +kernel, rfl⟩
theorem D_br_mix_6 : DcS M_br_mix M_br_isSheet 6 9 := ⟨79, by decide +kernel, rfl, ml_br_79, by decide, by decide⟩
theorem D_br_mix_9 : Dj M_br_mix 9 (.ifCond .eq) 12 19 := ⟨10, by decide +kernel, rfl, by decide⟩
theorem D_br_mix_12 : Dc M_br_mix 12 (.iload_n 2) 1 13 := ⟨by decide +kernel, rfl⟩
theorem D_br_mix_13 : DcS M_br_mix M_br_isSheet 13 16 := ⟨79, by decide +kernel, rfl, ml_br_79, by decide, by decide⟩
theorem D_br_mix_16 : Dj M_br_mix 16 (.ifCond .ne) 19 21 := ⟨5, by decide +kernel, rfl, by decide⟩
theorem D_br_mix_19 : Dc M_br_mix 19 (.iconst (-1)) 1 20 := ⟨by decide +kernel, rfl⟩
theorem D_br_mix_20 : Dc M_br_mix 20 (.ireturn) 1 21 := ⟨by decide +kernel, rfl⟩
theorem D_br_mix_21 : Dc M_br_mix 21 (.iload_n 3) 1 22 := ⟨by decide +kernel, rfl⟩
theorem D_br_mix_22 : Dj M_br_mix 22 (.ifCond .eq) 25 33 := ⟨11, by decide +kernel, rfl, by decide⟩
theorem D_br_mix_25 : Dc M_br_mix 25 (.iload_n 3) 1 26 := ⟨by decide +kernel, rfl⟩
theorem D_br_mix_26 : Dc M_br_mix 26 (.iconst 1) 1 27 := ⟨by decide +kernel, rfl⟩
theorem D_br_mix_27 : Dj M_br_mix 27 (.if_icmp .eq) 30 33 := ⟨6, by decide +kernel, rfl, by decide⟩
theorem D_br_mix_30 : Dc M_br_mix 30 (.bipush (-2)) 2 32 := ⟨by decide +kernel, rfl⟩
theorem D_br_mix_32 : Dc M_br_mix 32 (.ireturn) 1 33 := ⟨by decide +kernel, rfl⟩
theorem D_br_mix_33 : Dc M_br_mix 33 (.aload_n 0) 1 34 := ⟨by decide +kernel, rfl⟩
theorem D_br_mix_34 : Dg M_br_mix 34 37 5 3 R_br T_br 7 := ⟨34, by decide +kernel, rfl, rfl, by decide, fl_br_34, in_br⟩
theorem D_br_mix_37 : Dc M_br_mix 37 (.iload_n 1) 1 38 := ⟨by decide +kernel, rfl⟩
theorem D_br_mix_38 : Dc M_br_mix 38 (.aaload) 1 39 := ⟨by decide +kernel, rfl⟩
theorem D_br_mix_39 : Dc M_br_mix 39 (.astore 4) 2 41 := ⟨by decide +kernel, rfl⟩
theorem D_br_mix_41 : Dc M_br_mix 41 (.aload_n 0) 1 42 := ⟨by decide +kernel, rfl⟩
theorem D_br_mix_42 : Dg M_br_mix 42 45 5 3 R_br T_br 7 := ⟨34, by decide +kernel, rfl, rfl, by decide, fl_br_34, in_br⟩
theorem D_br_mix_45 : Dc M_br_mix 45 (.iload_n 2) 1 46 := ⟨by decide +kernel, rfl⟩
theorem D_br_mix_46 : Dc M_br_mix 46 (.aaload) 1 47 := ⟨by decide +kernel, rfl⟩
theorem D_br_mix_47 : Dc M_br_mix 47 (.astore 5) 2 49 := ⟨by decide +kernel, rfl⟩
theorem D_br_mix_49 : Dc M_br_mix 49 (.aload 4) 2 51 := ⟨by decide +kernel, rfl⟩
theorem D_br_mix_51 : DcV M_br_mix M_sh_isNothing 51 54 := ⟨92, by decide +kernel, rfl, ml_br_92, by decide, by decide⟩
theorem D_br_mix_54 : Dj M_br_mix 54 (.ifCond .ne) 57 65 := ⟨11, by decide +kernel, rfl, by decide⟩
theorem D_br_mix_57 : Dc M_br_mix 57 (.aload 5) 2 59 := ⟨by decide +kernel, rfl⟩
theorem D_br_mix_59 : DcV M_br_mix M_sh_isNothing 59 62 := ⟨92, by decide +kernel, rfl, ml_br_92, by decide, by decide⟩
theorem D_br_mix_62 : Dj M_br_mix 62 (.ifCond .eq) 65 71 := ⟨9, by decide +kernel, rfl, by decide⟩
theorem D_br_mix_65 : Dc M_br_mix 65 (.aload_n 0) 1 66 := ⟨by decide +kernel, rfl⟩
theorem D_br_mix_66 : Dc M_br_mix 66 (.iconst 1) 1 67 := ⟨by decide +kernel, rfl⟩
theorem D_br_mix_67 : DcV M_br_mix M_br_faulted 67 70 := ⟨88, by decide +kernel, rfl, ml_br_88, by decide, by decide⟩
theorem D_br_mix_70 : Dc M_br_mix 70 (.ireturn) 1 71 := ⟨by decide +kernel, rfl⟩
theorem D_br_mix_71 : Dc M_br_mix 71 (.aload 4) 2 73 := ⟨by decide +kernel, rfl⟩
theorem D_br_mix_73 : Dc M_br_mix 73 (.aload 5) 2 75 := ⟨by decide +kernel, rfl⟩
theorem fl_br_202 : Cond.fieldLink R_br 202 (T_sh 0).1 (T_sh 0).2.1 (T_sh 0).2.2.1 ∈ gtb := mem_g 161 (by decide +kernel) rfl
theorem D_br_mix_75 : Dg M_br_mix 75 78 3 0 R_sh T_sh 3 := ⟨202, by decide +kernel, rfl, rfl, by decide, fl_br_202, in_sh⟩
theorem D_br_mix_78 : DcV M_br_mix M_sh_isOfOtherLane 78 81 := ⟨85, by decide +kernel, rfl, ml_br_85, by decide, by decide⟩
theorem D_br_mix_81 : Dj M_br_mix 81 (.ifCond .eq) 84 90 := ⟨9, by decide +kernel, rfl, by decide⟩
theorem D_br_mix_84 : Dc M_br_mix 84 (.aload_n 0) 1 85 := ⟨by decide +kernel, rfl⟩
theorem D_br_mix_85 : Dc M_br_mix 85 (.iconst 2) 1 86 := ⟨by decide +kernel, rfl⟩
theorem D_br_mix_86 : DcV M_br_mix M_br_faulted 86 89 := ⟨88, by decide +kernel, rfl, ml_br_88, by decide, by decide⟩
theorem D_br_mix_89 : Dc M_br_mix 89 (.ireturn) 1 90 := ⟨by decide +kernel, rfl⟩
theorem D_br_mix_90 : Dc M_br_mix 90 (.aload 4) 2 92 := ⟨by decide +kernel, rfl⟩
theorem D_br_mix_92 : Dc M_br_mix 92 (.aload 5) 2 94 := ⟨by decide +kernel, rfl⟩
theorem D_br_mix_94 : Dc M_br_mix 94 (.iload_n 3) 1 95 := ⟨by decide +kernel, rfl⟩
theorem ml_br_205 : Cond.methodLink R_br 205 M_sh_mixWith.1 ∈ gtb := mem_g 520 (by decide +kernel) rfl
theorem D_br_mix_95 : DcV M_br_mix M_sh_mixWith 95 98 := ⟨205, by decide +kernel, rfl, ml_br_205, by decide, by decide⟩
theorem D_br_mix_98 : Dc M_br_mix 98 (.ireturn) 1 99 := ⟨by decide +kernel, rfl⟩
theorem D_br_order_0 : Dc M_br_order 0 (.aload_n 0) 1 1 := ⟨by decide +kernel, rfl⟩
theorem D_br_order_1 : Dc M_br_order 1 (.iload_n 1) 1 2 := ⟨by decide +kernel, rfl⟩
theorem D_br_order_2 : Dc M_br_order 2 (.iload_n 2) 1 3 := ⟨by decide +kernel, rfl⟩
theorem ml_br_209 : Cond.methodLink R_br 209 M_br_refusedBits.1 ∈ gtb := mem_g 533 (by decide +kernel) rfl
theorem D_br_order_3 : DcV M_br_order M_br_refusedBits 3 6 := ⟨209, by decide +kernel, rfl, ml_br_209, by decide, by decide⟩
theorem D_br_order_6 : Dc M_br_order 6 (.istore_n 3) 1 7 := ⟨by decide +kernel, rfl⟩
theorem D_br_order_7 : Dc M_br_order 7 (.iload_n 3) 1 8 := ⟨by decide +kernel, rfl⟩
theorem D_br_order_8 : Dj M_br_order 8 (.ifCond .eq) 11 15 := ⟨7, by decide +kernel, rfl, by decide⟩
theorem D_br_order_11 : Dc M_br_order 11 (.iload_n 3) 1 12 := ⟨by decide +kernel, rfl⟩
theorem D_br_order_12 : Dj M_br_order 12 (.goto) 15 29 := ⟨17, by decide +kernel, rfl, by decide⟩
theorem D_br_order_15 : Dc M_br_order 15 (.aload_n 0) 1 16 := ⟨by decide +kernel, rfl⟩
theorem D_br_order_16 : Dg M_br_order 16 19 5 4 R_br T_br 7 := ⟨42, by decide +kernel, rfl, rfl, by decide, fl_br_42, in_br⟩
theorem D_br_order_19 : Dc M_br_order 19 (.aload_n 0) 1 20 := ⟨by decide +kernel, rfl⟩
theorem D_br_order_20 : Dg M_br_order 20 23 5 3 R_br T_br 7 := ⟨34, by decide +kernel, rfl, rfl, by decide, fl_br_34, in_br⟩
theorem D_br_order_23 : Dc M_br_order 23 (.iload_n 1) 1 24 := ⟨by decide +kernel, rfl⟩
theorem D_br_order_24 : Dc M_br_order 24 (.aaload) 1 25 := ⟨by decide +kernel, rfl⟩
theorem D_br_order_25 : Dc M_br_order 25 (.iload_n 2) 1 26 := ⟨by decide +kernel, rfl⟩
theorem ml_br_212 : Cond.methodLink R_br 212 M_rr_linearOrder.1 ∈ gtb := mem_g 541 (by decide +kernel) rfl
theorem D_br_order_26 : DcV M_br_order M_rr_linearOrder 26 29 := ⟨212, by decide +kernel, rfl, ml_br_212, by decide, by decide⟩
theorem D_br_order_29 : Dc M_br_order 29 (.ireturn) 1 30 := ⟨by decide +kernel, rfl⟩
theorem D_br_greatest_0 : Dc M_br_greatest 0 (.aload_n 0) 1 1 := ⟨by decide +kernel, rfl⟩
theorem D_br_greatest_1 : Dc M_br_greatest 1 (.iload_n 1) 1 2 := ⟨by decide +kernel, rfl⟩
theorem D_br_greatest_2 : Dc M_br_greatest 2 (.iload_n 2) 1 3 := ⟨by decide +kernel, rfl⟩
theorem D_br_greatest_3 : DcV M_br_greatest M_br_refusedBits 3 6 := ⟨209, by decide +kernel, rfl, ml_br_209, by decide, by decide⟩
theorem D_br_greatest_6 : Dc M_br_greatest 6 (.istore_n 3) 1 7 := ⟨by decide +kernel, rfl⟩
theorem D_br_greatest_7 : Dc M_br_greatest 7 (.iload_n 3) 1 8 := ⟨by decide +kernel, rfl⟩
theorem D_br_greatest_8 : Dj M_br_greatest 8 (.ifCond .eq) 11 15 := ⟨7, by decide +kernel, rfl, by decide⟩
theorem D_br_greatest_11 : Dc M_br_greatest 11 (.iload_n 3) 1 12 := ⟨by decide +kernel, rfl⟩
theorem D_br_greatest_12 : Dj M_br_greatest 12 (.goto) 15 29 := ⟨17, by decide +kernel, rfl, by decide⟩
theorem D_br_greatest_15 : Dc M_br_greatest 15 (.aload_n 0) 1 16 := ⟨by decide +kernel, rfl⟩
theorem D_br_greatest_16 : Dg M_br_greatest 16 19 5 4 R_br T_br 7 := ⟨42, by decide +kernel, rfl, rfl, by decide, fl_br_42, in_br⟩
theorem D_br_greatest_19 : Dc M_br_greatest 19 (.aload_n 0) 1 20 := ⟨by decide +kernel, rfl⟩
theorem D_br_greatest_20 : Dg M_br_greatest 20 23 5 3 R_br T_br 7 := ⟨34, by decide +kernel, rfl, rfl, by decide, fl_br_34, in_br⟩
theorem D_br_greatest_23 : Dc M_br_greatest 23 (.iload_n 1) 1 24 := ⟨by decide +kernel, rfl⟩
theorem D_br_greatest_24 : Dc M_br_greatest 24 (.aaload) 1 25 := ⟨by decide +kernel, rfl⟩
theorem D_br_greatest_25 : Dc M_br_greatest 25 (.iload_n 2) 1 26 := ⟨by decide +kernel, rfl⟩
theorem ml_br_215 : Cond.methodLink R_br 215 M_rr_greatestOrder.1 ∈ gtb := mem_g 568 (by decide +kernel) rfl
theorem D_br_greatest_26 : DcV M_br_greatest M_rr_greatestOrder 26 29 := ⟨215, by decide +kernel, rfl, ml_br_215, by decide, by decide⟩
theorem D_br_greatest_29 : Dc M_br_greatest 29 (.ireturn) 1 30 := ⟨by decide +kernel, rfl⟩
theorem D_br_period_0 : Dc M_br_period 0 (.aload_n 0) 1 1 := ⟨by decide +kernel, rfl⟩
theorem D_br_period_1 : Dc M_br_period 1 (.iload_n 1) 1 2 := ⟨by decide +kernel, rfl⟩
theorem ml_br_218 : Cond.methodLink R_br 218 M_br_refusedRow.1 ∈ gtb := mem_g 537 (by decide +kernel) rfl
theorem D_br_period_2 : DcV M_br_period M_br_refusedRow 2 5 := ⟨218, by decide +kernel, rfl, ml_br_218, by decide, by decide⟩
theorem D_br_period_5 : Dc M_br_period 5 (.istore_n 2) 1 6 := ⟨by decide +kernel, rfl⟩
theorem D_br_period_6 : Dc M_br_period 6 (.iload_n 2) 1 7 := ⟨by decide +kernel, rfl⟩
theorem D_br_period_7 : Dj M_br_period 7 (.ifCond .eq) 10 12 := ⟨5, by decide +kernel, rfl, by decide⟩
theorem D_br_period_10 : Dc M_br_period 10 (.iload_n 2) 1 11 := ⟨by decide +kernel, rfl⟩
theorem D_br_period_11 : Dc M_br_period 11 (.ireturn) 1 12 := ⟨by decide +kernel, rfl⟩
theorem D_br_period_12 : Dc M_br_period 12 (.aload_n 0) 1 13 := ⟨by decide +kernel, rfl⟩
theorem D_br_period_13 : Dg M_br_period 13 16 5 3 R_br T_br 7 := ⟨34, by decide +kernel, rfl, rfl, by decide, fl_br_34, in_br⟩
theorem D_br_period_16 : Dc M_br_period 16 (.iload_n 1) 1 17 := ⟨by decide +kernel, rfl⟩
theorem D_br_period_17 : Dc M_br_period 17 (.aaload) 1 18 := ⟨by decide +kernel, rfl⟩
theorem D_br_period_18 : Dg M_br_period 18 21 3 1 R_sh T_sh 3 := ⟨200, by decide +kernel, rfl, rfl, by decide, fl_br_200, in_sh⟩
theorem D_br_period_21 : Dj M_br_period 21 (.ifCond .ne) 24 29 := ⟨8, by decide +kernel, rfl, by decide⟩
theorem D_br_period_24 : Dc M_br_period 24 (.bipush (-3)) 2 26 := ⟨by decide +kernel, rfl⟩
theorem D_br_period_26 : Dj M_br_period 26 (.goto) 29 42 := ⟨16, by decide +kernel, rfl, by decide⟩
theorem D_br_period_29 : Dc M_br_period 29 (.aload_n 0) 1 30 := ⟨by decide +kernel, rfl⟩
theorem D_br_period_30 : Dg M_br_period 30 33 5 4 R_br T_br 7 := ⟨42, by decide +kernel, rfl, rfl, by decide, fl_br_42, in_br⟩
theorem D_br_period_33 : Dc M_br_period 33 (.aload_n 0) 1 34 := ⟨by decide +kernel, rfl⟩
theorem D_br_period_34 : Dg M_br_period 34 37 5 3 R_br T_br 7 := ⟨34, by decide +kernel, rfl, rfl, by decide, fl_br_34, in_br⟩
theorem D_br_period_37 : Dc M_br_period 37 (.iload_n 1) 1 38 := ⟨by decide +kernel, rfl⟩
theorem D_br_period_38 : Dc M_br_period 38 (.aaload) 1 39 := ⟨by decide +kernel, rfl⟩
theorem ml_br_221 : Cond.methodLink R_br 221 M_rr_leastPeriod.1 ∈ gtb := mem_g 587 (by decide +kernel) rfl
theorem D_br_period_39 : DcV M_br_period M_rr_leastPeriod 39 42 := ⟨221, by decide +kernel, rfl, ml_br_221, by decide, by decide⟩
theorem D_br_period_42 : Dc M_br_period 42 (.ireturn) 1 43 := ⟨by decide +kernel, rfl⟩
theorem D_br_learn_0 : Dc M_br_learn 0 (.aload_n 0) 1 1 := ⟨by decide +kernel, rfl⟩
theorem D_br_learn_1 : Dc M_br_learn 1 (.iload_n 1) 1 2 := ⟨by decide +kernel, rfl⟩
theorem D_br_learn_2 : DcV M_br_learn M_br_refusedRow 2 5 := ⟨218, by decide +kernel, rfl, ml_br_218, by decide, by decide⟩
theorem D_br_learn_5 : Dc M_br_learn 5 (.istore_n 2) 1 6 := ⟨by decide +kernel, rfl⟩
theorem D_br_learn_6 : Dc M_br_learn 6 (.iload_n 2) 1 7 := ⟨by decide +kernel, rfl⟩
theorem D_br_learn_7 : Dj M_br_learn 7 (.ifCond .eq) 10 12 := ⟨5, by decide +kernel, rfl, by decide⟩
theorem D_br_learn_10 : Dc M_br_learn 10 (.iload_n 2) 1 11 := ⟨by decide +kernel, rfl⟩
theorem D_br_learn_11 : Dc M_br_learn 11 (.ireturn) 1 12 := ⟨by decide +kernel, rfl⟩
theorem D_br_learn_12 : Dc M_br_learn 12 (.aload_n 0) 1 13 := ⟨by decide +kernel, rfl⟩
theorem D_br_learn_13 : Dg M_br_learn 13 16 5 3 R_br T_br 7 := ⟨34, by decide +kernel, rfl, rfl, by decide, fl_br_34, in_br⟩
theorem D_br_learn_16 : Dc M_br_learn 16 (.iload_n 1) 1 17 := ⟨by decide +kernel, rfl⟩
theorem D_br_learn_17 : Dc M_br_learn 17 (.aaload) 1 18 := ⟨by decide +kernel, rfl⟩
theorem D_br_learn_18 : Dc M_br_learn 18 (.astore_n 3) 1 19 := ⟨by decide +kernel, rfl⟩
theorem D_br_learn_19 : Dc M_br_learn 19 (.aload_n 0) 1 20 := ⟨by decide +kernel, rfl⟩
theorem D_br_learn_20 : Dg M_br_learn 20 23 5 4 R_br T_br 7 := ⟨42, by decide +kernel, rfl, rfl, by decide, fl_br_42, in_br⟩
theorem D_br_learn_23 : Dc M_br_learn 23 (.aload_n 3) 1 24 := ⟨by decide +kernel, rfl⟩
theorem D_br_learn_24 : Dc M_br_learn 24 (.aload_n 3) 1 25 := ⟨by decide +kernel, rfl⟩
theorem D_br_learn_25 : Dg M_br_learn 25 28 3 1 R_sh T_sh 3 := ⟨200, by decide +kernel, rfl, rfl, by decide, fl_br_200, in_sh⟩
theorem D_br_learn_28 : DcV M_br_learn M_rr_greatestOrder 28 31 := ⟨215, by decide +kernel, rfl, ml_br_215, by decide, by decide⟩
theorem D_br_learn_31 : Dc M_br_learn 31 (.istore 4) 2 33 := ⟨by decide +kernel, rfl⟩
theorem D_br_learn_33 : Dc M_br_learn 33 (.iload 4) 2 35 := ⟨by decide +kernel, rfl⟩
theorem D_br_learn_35 : Dc M_br_learn 35 (.bipush 9) 2 37 := ⟨by decide +kernel, rfl⟩
theorem D_br_learn_37 : Dj M_br_learn 37 (.if_icmp .le) 40 43 := ⟨6, by decide +kernel, rfl, by decide⟩
theorem D_br_learn_40 : Dc M_br_learn 40 (.bipush (-3)) 2 42 := ⟨by decide +kernel, rfl⟩
theorem D_br_learn_42 : Dc M_br_learn 42 (.ireturn) 1 43 := ⟨by decide +kernel, rfl⟩
theorem D_br_learn_43 : Dc M_br_learn 43 (.aload_n 0) 1 44 := ⟨by decide +kernel, rfl⟩
theorem D_br_learn_44 : Dg M_br_learn 44 47 5 0 R_br T_br 7 := ⟨12, by decide +kernel, rfl, rfl, by decide, fl_br_12, in_br⟩
theorem D_br_learn_47 : Dc M_br_learn 47 (.iload 4) 2 49 := ⟨by decide +kernel, rfl⟩
theorem D_br_learn_49 : Dc M_br_learn 49 (.iconst 2) 1 50 := ⟨by decide +kernel, rfl⟩
theorem ml_br_225 : Cond.methodLink R_br 225 M_jm_max.1 ∈ gtb := mem_g 595 (by decide +kernel) rfl
theorem D_br_learn_50 : DcS M_br_learn M_jm_max 50 53 := ⟨225, by decide +kernel, rfl, ml_br_225, by decide, by decide⟩
theorem D_br_learn_53 : DcV M_br_learn M_rg_restart 53 56 := ⟨50, by decide +kernel, rfl, ml_br_50, by decide, by decide⟩
theorem D_br_learn_56 : Dc M_br_learn 56 (.aload_n 0) 1 57 := ⟨by decide +kernel, rfl⟩
theorem D_br_learn_57 : Dg M_br_learn 57 60 5 0 R_br T_br 7 := ⟨12, by decide +kernel, rfl, rfl, by decide, fl_br_12, in_br⟩
theorem D_br_learn_60 : Dc M_br_learn 60 (.aload_n 3) 1 61 := ⟨by decide +kernel, rfl⟩
theorem ml_br_230 : Cond.methodLink R_br 230 M_rg_fillFrom.1 ∈ gtb := mem_g 596 (by decide +kernel) rfl
theorem D_br_learn_61 : DcV M_br_learn M_rg_fillFrom 61 64 := ⟨230, by decide +kernel, rfl, ml_br_230, by decide, by decide⟩
theorem D_br_learn_64 : Dc M_br_learn 64 (.aload_n 0) 1 65 := ⟨by decide +kernel, rfl⟩
theorem D_br_learn_65 : Dg M_br_learn 65 68 5 0 R_br T_br 7 := ⟨12, by decide +kernel, rfl, rfl, by decide, fl_br_12, in_br⟩
theorem D_br_learn_68 : Dg M_br_learn 68 71 0 0 R_rg T_rg 5 := ⟨46, by decide +kernel, rfl, rfl, by decide, fl_br_46, in_rg⟩
theorem D_br_learn_71 : Dc M_br_learn 71 (.ireturn) 1 72 := ⟨by decide +kernel, rfl⟩
theorem D_br_along_0 : Dc M_br_along 0 (.aload_n 0) 1 1 := ⟨by decide +kernel, rfl⟩
theorem D_br_along_1 : DcV M_br_along M_br_foundRings 1 4 := ⟨106, by decide +kernel, rfl, ml_br_106, by decide, by decide⟩
theorem D_br_along_4 : Dc M_br_along 4 (.astore_n 3) 1 5 := ⟨by decide +kernel, rfl⟩
theorem D_br_along_5 : Dc M_br_along 5 (.aload_n 3) 1 6 := ⟨by decide +kernel, rfl⟩
theorem D_br_along_6 : Dc M_br_along 6 (.iload_n 1) 1 7 := ⟨by decide +kernel, rfl⟩
theorem D_br_along_7 : DcV M_br_along M_ri_has 7 10 := ⟨136, by decide +kernel, rfl, ml_br_136, by decide, by decide⟩
theorem D_br_along_10 : Dj M_br_along 10 (.ifCond .ne) 13 15 := ⟨5, by decide +kernel, rfl, by decide⟩
theorem D_br_along_13 : Dc M_br_along 13 (.iconst (-1)) 1 14 := ⟨by decide +kernel, rfl⟩
theorem D_br_along_14 : Dc M_br_along 14 (.ireturn) 1 15 := ⟨by decide +kernel, rfl⟩
theorem D_br_along_15 : Dc M_br_along 15 (.iload_n 2) 1 16 := ⟨by decide +kernel, rfl⟩
theorem D_br_along_16 : Dj M_br_along 16 (.ifCond .ge) 19 22 := ⟨6, by decide +kernel, rfl, by decide⟩
theorem D_br_along_19 : Dc M_br_along 19 (.bipush (-2)) 2 21 := ⟨by decide +kernel, rfl⟩
theorem D_br_along_21 : Dc M_br_along 21 (.ireturn) 1 22 := ⟨by decide +kernel, rfl⟩
theorem D_br_along_22 : Dc M_br_along 22 (.aload_n 3) 1 23 := ⟨by decide +kernel, rfl⟩
theorem D_br_along_23 : Dc M_br_along 23 (.aload_n 0) 1 24 := ⟨by decide +kernel, rfl⟩
theorem D_br_along_24 : Dg M_br_along 24 27 5 0 R_br T_br 7 := ⟨12, by decide +kernel, rfl, rfl, by decide, fl_br_12, in_br⟩
theorem D_br_along_27 : Dc M_br_along 27 (.iload_n 1) 1 28 := ⟨by decide +kernel, rfl⟩
theorem D_br_along_28 : Dc M_br_along 28 (.iload_n 2) 1 29 := ⟨by decide +kernel, rfl⟩
theorem ml_br_234 : Cond.methodLink R_br 234 M_ri_likeness.1 ∈ gtb := mem_g 605 (by decide +kernel) rfl
theorem D_br_along_29 : DcV M_br_along M_ri_likeness 29 32 := ⟨234, by decide +kernel, rfl, ml_br_234, by decide, by decide⟩
theorem D_br_along_32 : Dc M_br_along 32 (.ireturn) 1 33 := ⟨by decide +kernel, rfl⟩
theorem D_br_tell_0 : Dc M_br_tell 0 (.aload_n 0) 1 1 := ⟨by decide +kernel, rfl⟩
theorem D_br_tell_1 : Dg M_br_tell 1 4 5 0 R_br T_br 7 := ⟨12, by decide +kernel, rfl, rfl, by decide, fl_br_12, in_br⟩
theorem D_br_tell_4 : Dc M_br_tell 4 (.iload_n 1) 1 5 := ⟨by decide +kernel, rfl⟩
theorem D_br_tell_5 : DcV M_br_tell M_rg_has 5 8 := ⟨54, by decide +kernel, rfl, ml_br_54, by decide, by decide⟩
theorem D_br_tell_8 : Dj M_br_tell 8 (.ifCond .ne) 11 13 := ⟨5, by decide +kernel, rfl, by decide⟩
theorem D_br_tell_11 : Dc M_br_tell 11 (.iconst (-1)) 1 12 := ⟨by decide +kernel, rfl⟩
theorem D_br_tell_12 : Dc M_br_tell 12 (.ireturn) 1 13 := ⟨by decide +kernel, rfl⟩
theorem D_br_tell_13 : Dc M_br_tell 13 (.aload_n 0) 1 14 := ⟨by decide +kernel, rfl⟩
theorem D_br_tell_14 : DcV M_br_tell M_br_foundRings 14 17 := ⟨106, by decide +kernel, rfl, ml_br_106, by decide, by decide⟩
theorem D_br_tell_17 : Dc M_br_tell 17 (.astore_n 2) 1 18 := ⟨by decide +kernel, rfl⟩
theorem D_br_tell_18 : Dc M_br_tell 18 (.aload_n 2) 1 19 := ⟨by decide +kernel, rfl⟩
theorem D_br_tell_19 : Dc M_br_tell 19 (.iload_n 1) 1 20 := ⟨by decide +kernel, rfl⟩
theorem ml_br_238 : Cond.methodLink R_br 238 M_ri_kindOf.1 ∈ gtb := mem_g 614 (by decide +kernel) rfl
theorem D_br_tell_20 : DcV M_br_tell M_ri_kindOf 20 23 := ⟨238, by decide +kernel, rfl, ml_br_238, by decide, by decide⟩
theorem D_br_tell_23 : Dc M_br_tell 23 (.lookupswitch 46 #[(1, 36), (2, 25)]) 25 48 := ⟨by decide +kernel, rfl⟩
theorem D_br_tell_48 : Dc M_br_tell 48 (.aload_n 0) 1 49 := ⟨by decide +kernel, rfl⟩
theorem D_br_tell_49 : Dc M_br_tell 49 (.aload_n 2) 1 50 := ⟨by decide +kernel, rfl⟩
theorem D_br_tell_50 : Dg M_br_tell 50 53 1 5 R_ri T_ri 11 := ⟨130, by decide +kernel, rfl, rfl, by decide, fl_br_130, in_ri⟩
theorem D_br_tell_53 : Dc M_br_tell 53 (.iload_n 1) 1 54 := ⟨by decide +kernel, rfl⟩
theorem D_br_tell_54 : Dc M_br_tell 54 (.iaload) 1 55 := ⟨by decide +kernel, rfl⟩
theorem ml_br_241 : Cond.methodLink R_br 241 M_br_tellBehind.1 ∈ gtb := mem_g 618 (by decide +kernel) rfl
theorem D_br_tell_55 : DcV M_br_tell M_br_tellBehind 55 58 := ⟨241, by decide +kernel, rfl, ml_br_241, by decide, by decide⟩
theorem D_br_tell_58 : Dc M_br_tell 58 (.ireturn) 1 59 := ⟨by decide +kernel, rfl⟩
theorem D_br_tell_59 : Dc M_br_tell 59 (.aload_n 0) 1 60 := ⟨by decide +kernel, rfl⟩
theorem D_br_tell_60 : Dc M_br_tell 60 (.aload_n 2) 1 61 := ⟨by decide +kernel, rfl⟩
theorem D_br_tell_61 : Dc M_br_tell 61 (.iload_n 1) 1 62 := ⟨by decide +kernel, rfl⟩
theorem ml_br_244 : Cond.methodLink R_br 244 M_ri_sizeAround.1 ∈ gtb := mem_g 630 (by decide +kernel) rfl
theorem D_br_tell_62 : DcV M_br_tell M_ri_sizeAround 62 65 := ⟨244, by decide +kernel, rfl, ml_br_244, by decide, by decide⟩
theorem ml_br_247 : Cond.methodLink R_br 247 M_br_tellLonger.1 ∈ gtb := mem_g 631 (by decide +kernel) rfl
theorem D_br_tell_65 : DcV M_br_tell M_br_tellLonger 65 68 := ⟨247, by decide +kernel, rfl, ml_br_247, by decide, by decide⟩
theorem D_br_tell_68 : Dc M_br_tell 68 (.ireturn) 1 69 := ⟨by decide +kernel, rfl⟩
theorem D_br_tell_69 : Dc M_br_tell 69 (.aload_n 0) 1 70 := ⟨by decide +kernel, rfl⟩
theorem ml_br_250 : Cond.methodLink R_br 250 M_br_tellAlone.1 ∈ gtb := mem_g 626 (by decide +kernel) rfl
theorem D_br_tell_70 : DcV M_br_tell M_br_tellAlone 70 73 := ⟨250, by decide +kernel, rfl, ml_br_250, by decide, by decide⟩
theorem D_br_tell_73 : Dc M_br_tell 73 (.ireturn) 1 74 := ⟨by decide +kernel, rfl⟩
theorem D_br_weigh_0 : Dc M_br_weigh 0 (.aload_n 0) 1 1 := ⟨by decide +kernel, rfl⟩
theorem D_br_weigh_1 : Dg M_br_weigh 1 4 5 0 R_br T_br 7 := ⟨12, by decide +kernel, rfl, rfl, by decide, fl_br_12, in_br⟩
theorem D_br_weigh_4 : Dc M_br_weigh 4 (.iload_n 1) 1 5 := ⟨by decide +kernel, rfl⟩
theorem D_br_weigh_5 : DcV M_br_weigh M_rg_has 5 8 := ⟨54, by decide +kernel, rfl, ml_br_54, by decide, by decide⟩
theorem D_br_weigh_8 : Dj M_br_weigh 8 (.ifCond .ne) 11 13 := ⟨5, by decide +kernel, rfl, by decide⟩
theorem D_br_weigh_11 : Dc M_br_weigh 11 (.iconst (-1)) 1 12 := ⟨by decide +kernel, rfl⟩
theorem D_br_weigh_12 : Dc M_br_weigh 12 (.ireturn) 1 13 := ⟨by decide +kernel, rfl⟩
theorem D_br_weigh_13 : Dc M_br_weigh 13 (.aload_n 0) 1 14 := ⟨by decide +kernel, rfl⟩
theorem D_br_weigh_14 : DcV M_br_weigh M_br_foundRings 14 17 := ⟨106, by decide +kernel, rfl, ml_br_106, by decide, by decide⟩
theorem D_br_weigh_17 : Dc M_br_weigh 17 (.iload_n 1) 1 18 := ⟨by decide +kernel, rfl⟩
theorem D_br_weigh_18 : DcV M_br_weigh M_ri_kindOf 18 21 := ⟨238, by decide +kernel, rfl, ml_br_238, by decide, by decide⟩
theorem D_br_weigh_21 : Dc M_br_weigh 21 (.iconst 2) 1 22 := ⟨by decide +kernel, rfl⟩
theorem D_br_weigh_22 : Dj M_br_weigh 22 (.if_icmp .ne) 25 32 := ⟨10, by decide +kernel, rfl, by decide⟩
theorem D_br_weigh_25 : Dc M_br_weigh 25 (.aload_n 0) 1 26 := ⟨by decide +kernel, rfl⟩
theorem ml_br_253 : Cond.methodLink R_br 253 M_br_weighBehind.1 ∈ gtb := mem_g 639 (by decide +kernel) rfl
theorem D_br_weigh_26 : DcV M_br_weigh M_br_weighBehind 26 29 := ⟨253, by decide +kernel, rfl, ml_br_253, by decide, by decide⟩
theorem D_br_weigh_29 : Dj M_br_weigh 29 (.goto) 32 37 := ⟨8, by decide +kernel, rfl, by decide⟩
theorem D_br_weigh_32 : Dc M_br_weigh 32 (.aload_n 0) 1 33 := ⟨by decide +kernel, rfl⟩
theorem D_br_weigh_33 : Dc M_br_weigh 33 (.iload_n 1) 1 34 := ⟨by decide +kernel, rfl⟩
theorem ml_br_256 : Cond.methodLink R_br 256 M_br_weighLent.1 ∈ gtb := mem_g 643 (by decide +kernel) rfl
theorem D_br_weigh_34 : DcV M_br_weigh M_br_weighLent 34 37 := ⟨256, by decide +kernel, rfl, ml_br_256, by decide, by decide⟩
theorem D_br_weigh_37 : Dc M_br_weigh 37 (.ireturn) 1 38 := ⟨by decide +kernel, rfl⟩
theorem D_br_as_0 : Dc M_br_as 0 (.aload_n 0) 1 1 := ⟨by decide +kernel, rfl⟩
theorem D_br_as_1 : Dc M_br_as 1 (.iconst 0) 1 2 := ⟨by decide +kernel, rfl⟩
theorem D_br_as_2 : Dp M_br_as 2 5 5 6 R_br T_br 7 := ⟨76, by decide +kernel, rfl, rfl, by decide, fl_br_76, in_br, rfl⟩
theorem D_br_as_5 : Dc M_br_as 5 (.aload_n 0) 1 6 := ⟨by decide +kernel, rfl⟩
theorem D_br_as_6 : Dg M_br_as 6 9 5 0 R_br T_br 7 := ⟨12, by decide +kernel, rfl, rfl, by decide, fl_br_12, in_br⟩
theorem D_br_as_9 : Dc M_br_as 9 (.iload_n 1) 1 10 := ⟨by decide +kernel, rfl⟩
theorem D_br_as_10 : DcV M_br_as M_rg_has 10 13 := ⟨54, by decide +kernel, rfl, ml_br_54, by decide, by decide⟩
theorem D_br_as_13 : Dj M_br_as 13 (.ifCond .ne) 16 18 := ⟨5, by decide +kernel, rfl, by decide⟩
theorem D_br_as_16 : Dc M_br_as 16 (.iconst (-1)) 1 17 := ⟨by decide +kernel, rfl⟩
theorem D_br_as_17 : Dc M_br_as 17 (.ireturn) 1 18 := ⟨by decide +kernel, rfl⟩
theorem D_br_as_18 : Dc M_br_as 18 (.iload_n 2) 1 19 := ⟨by decide +kernel, rfl⟩
theorem D_br_as_19 : Dj M_br_as 19 (.ifCond .lt) 22 27 := ⟨8, by decide +kernel, rfl, by decide⟩
theorem D_br_as_22 : Dc M_br_as 22 (.iload_n 2) 1 23 := ⟨by decide +kernel, rfl⟩
theorem D_br_as_23 : Dc M_br_as 23 (.iconst 3) 1 24 := ⟨by decide +kernel, rfl⟩
theorem D_br_as_24 : Dj M_br_as 24 (.if_icmp .le) 27 30 := ⟨6, by decide +kernel, rfl, by decide⟩
theorem D_br_as_27 : Dc M_br_as 27 (.bipush (-2)) 2 29 := ⟨by decide +kernel, rfl⟩
theorem D_br_as_29 : Dc M_br_as 29 (.ireturn) 1 30 := ⟨by decide +kernel, rfl⟩
theorem D_br_as_30 : Dc M_br_as 30 (.aload_n 0) 1 31 := ⟨by decide +kernel, rfl⟩
theorem D_br_as_31 : DcV M_br_as M_br_foundRings 31 34 := ⟨106, by decide +kernel, rfl, ml_br_106, by decide, by decide⟩
theorem D_br_as_34 : Dc M_br_as 34 (.iload_n 1) 1 35 := ⟨by decide +kernel, rfl⟩
theorem D_br_as_35 : DcV M_br_as M_ri_kindOf 35 38 := ⟨238, by decide +kernel, rfl, ml_br_238, by decide, by decide⟩
theorem D_br_as_38 : Dc M_br_as 38 (.istore_n 3) 1 39 := ⟨by decide +kernel, rfl⟩
theorem D_br_as_39 : Dc M_br_as 39 (.iload_n 2) 1 40 := ⟨by decide +kernel, rfl⟩
theorem D_br_as_40 : Dc M_br_as 40 (.iconst 3) 1 41 := ⟨by decide +kernel, rfl⟩
theorem D_br_as_41 : Dj M_br_as 41 (.if_icmp .ne) 44 57 := ⟨16, by decide +kernel, rfl, by decide⟩
theorem D_br_as_44 : Dc M_br_as 44 (.iload_n 3) 1 45 := ⟨by decide +kernel, rfl⟩
theorem D_br_as_45 : Dc M_br_as 45 (.iconst 2) 1 46 := ⟨by decide +kernel, rfl⟩
theorem D_br_as_46 : Dj M_br_as 46 (.if_icmp .eq) 49 53 := ⟨7, by decide +kernel, rfl, by decide⟩
theorem D_br_as_49 : Dc M_br_as 49 (.iconst 1) 1 50 := ⟨by decide +kernel, rfl⟩
theorem D_br_as_50 : Dj M_br_as 50 (.goto) 53 67 := ⟨17, by decide +kernel, rfl, by decide⟩
theorem D_br_as_53 : Dc M_br_as 53 (.iconst 0) 1 54 := ⟨by decide +kernel, rfl⟩
theorem D_br_as_54 : Dj M_br_as 54 (.goto) 57 67 := ⟨13, by decide +kernel, rfl, by decide⟩
theorem D_br_as_57 : Dc M_br_as 57 (.iload_n 3) 1 58 := ⟨by decide +kernel, rfl⟩
theorem D_br_as_58 : Dc M_br_as 58 (.iload_n 2) 1 59 := ⟨by decide +kernel, rfl⟩
theorem D_br_as_59 : Dj M_br_as 59 (.if_icmp .ne) 62 66 := ⟨7, by decide +kernel, rfl, by decide⟩
theorem D_br_as_62 : Dc M_br_as 62 (.iconst 1) 1 63 := ⟨by decide +kernel, rfl⟩
theorem D_br_as_63 : Dj M_br_as 63 (.goto) 66 67 := ⟨4, by decide +kernel, rfl, by decide⟩
theorem D_br_as_66 : Dc M_br_as 66 (.iconst 0) 1 67 := ⟨by decide +kernel, rfl⟩
theorem D_br_as_67 : Dc M_br_as 67 (.istore 4) 2 69 := ⟨by decide +kernel, rfl⟩
theorem D_br_as_69 : Dc M_br_as 69 (.iload 4) 2 71 := ⟨by decide +kernel, rfl⟩
theorem D_br_as_71 : Dj M_br_as 71 (.ifCond .eq) 74 78 := ⟨7, by decide +kernel, rfl, by decide⟩
theorem D_br_as_74 : Dc M_br_as 74 (.iconst 1) 1 75 := ⟨by decide +kernel, rfl⟩
theorem D_br_as_75 : Dj M_br_as 75 (.goto) 78 83 := ⟨8, by decide +kernel, rfl, by decide⟩
theorem D_br_as_78 : Dc M_br_as 78 (.aload_n 0) 1 79 := ⟨by decide +kernel, rfl⟩
theorem D_br_as_79 : Dc M_br_as 79 (.iconst 2) 1 80 := ⟨by decide +kernel, rfl⟩
theorem D_br_as_80 : DcV M_br_as M_br_faulted 80 83 := ⟨88, by decide +kernel, rfl, ml_br_88, by decide, by decide⟩
theorem D_br_as_83 : Dc M_br_as 83 (.ireturn) 1 84 := ⟨by decide +kernel, rfl⟩
theorem D_br_trace_0 : Dc M_br_trace 0 (.aload_n 0) 1 1 := ⟨by decide +kernel, rfl⟩
theorem fl_br_259 : Cond.fieldLink R_br 259 (T_br 5).1 (T_br 5).2.1 (T_br 5).2.2.1 ∈ gtb := mem_g 205 (by decide +kernel) rfl
theorem D_br_trace_1 : Dg M_br_trace 1 4 5 5 R_br T_br 7 := ⟨259, by decide +kernel, rfl, rfl, by decide, fl_br_259, in_br⟩
theorem D_br_trace_4 : Dc M_br_trace 4 (.ireturn) 1 5 := ⟨by decide +kernel, rfl⟩
theorem D_br_fault_0 : Dc M_br_fault 0 (.aload_n 0) 1 1 := ⟨by decide +kernel, rfl⟩
theorem D_br_fault_1 : Dg M_br_fault 1 4 5 6 R_br T_br 7 := ⟨76, by decide +kernel, rfl, rfl, by decide, fl_br_76, in_br⟩
theorem D_br_fault_4 : Dc M_br_fault 4 (.ireturn) 1 5 := ⟨by decide +kernel, rfl⟩
theorem D_br_isBit_0 : Dc M_br_isBit 0 (.iload_n 0) 1 1 := ⟨by decide +kernel, rfl⟩
theorem D_br_isBit_1 : Dj M_br_isBit 1 (.ifCond .eq) 4 9 := ⟨8, by decide +kernel, rfl, by decide⟩
theorem D_br_isBit_4 : Dc M_br_isBit 4 (.iload_n 0) 1 5 := ⟨by decide +kernel, rfl⟩
theorem D_br_isBit_5 : Dc M_br_isBit 5 (.iconst 1) 1 6 := ⟨by decide +kernel, rfl⟩
theorem D_br_isBit_6 : Dj M_br_isBit 6 (.if_icmp .ne) 9 13 := ⟨7, by decide +kernel, rfl, by decide⟩
theorem D_br_isBit_9 : Dc M_br_isBit 9 (.iconst 1) 1 10 := ⟨by decide +kernel, rfl⟩
theorem D_br_isBit_10 : Dj M_br_isBit 10 (.goto) 13 14 := ⟨4, by decide +kernel, rfl, by decide⟩
theorem D_br_isBit_13 : Dc M_br_isBit 13 (.iconst 0) 1 14 := ⟨by decide +kernel, rfl⟩
theorem D_br_isBit_14 : Dc M_br_isBit 14 (.ireturn) 1 15 := ⟨by decide +kernel, rfl⟩
theorem D_br_isSheet_0 : Dc M_br_isSheet 0 (.iload_n 0) 1 1 := ⟨by decide +kernel, rfl⟩
theorem D_br_isSheet_1 : Dj M_br_isSheet 1 (.ifCond .lt) 4 13 := ⟨12, by decide +kernel, rfl, by decide⟩
theorem D_br_isSheet_4 : Dc M_br_isSheet 4 (.iload_n 0) 1 5 := ⟨by decide +kernel, rfl⟩
theorem D_br_isSheet_5 : Dc M_br_isSheet 5 (.iconst 4) 1 6 := ⟨by decide +kernel, rfl⟩
theorem D_br_isSheet_6 : Dj M_br_isSheet 6 (.if_icmp .ge) 9 13 := ⟨7, by decide +kernel, rfl, by decide⟩
theorem D_br_isSheet_9 : Dc M_br_isSheet 9 (.iconst 1) 1 10 := ⟨by decide +kernel, rfl⟩
theorem D_br_isSheet_10 : Dj M_br_isSheet 10 (.goto) 13 14 := ⟨4, by decide +kernel, rfl, by decide⟩
theorem D_br_isSheet_13 : Dc M_br_isSheet 13 (.iconst 0) 1 14 := ⟨by decide +kernel, rfl⟩
theorem D_br_isSheet_14 : Dc M_br_isSheet 14 (.ireturn) 1 15 := ⟨by decide +kernel, rfl⟩
theorem D_br_isLane_0 : Dc M_br_isLane 0 (.iload_n 0) 1 1 := ⟨by decide +kernel, rfl⟩
theorem D_br_isLane_1 : Dj M_br_isLane 1 (.ifCond .lt) 4 13 := ⟨12, by decide +kernel, rfl, by decide⟩
theorem D_br_isLane_4 : Dc M_br_isLane 4 (.iload_n 0) 1 5 := ⟨by decide +kernel, rfl⟩
theorem D_br_isLane_5 : Dc M_br_isLane 5 (.iconst 2) 1 6 := ⟨by decide +kernel, rfl⟩
theorem D_br_isLane_6 : Dj M_br_isLane 6 (.if_icmp .gt) 9 13 := ⟨7, by decide +kernel, rfl, by decide⟩
theorem D_br_isLane_9 : Dc M_br_isLane 9 (.iconst 1) 1 10 := ⟨by decide +kernel, rfl⟩
theorem D_br_isLane_10 : Dj M_br_isLane 10 (.goto) 13 14 := ⟨4, by decide +kernel, rfl, by decide⟩
theorem D_br_isLane_13 : Dc M_br_isLane 13 (.iconst 0) 1 14 := ⟨by decide +kernel, rfl⟩
theorem D_br_isLane_14 : Dc M_br_isLane 14 (.ireturn) 1 15 := ⟨by decide +kernel, rfl⟩
theorem D_br_faulted_0 : Dc M_br_faulted 0 (.aload_n 0) 1 1 := ⟨by decide +kernel, rfl⟩
theorem D_br_faulted_1 : Dc M_br_faulted 1 (.iload_n 1) 1 2 := ⟨by decide +kernel, rfl⟩
theorem D_br_faulted_2 : Dp M_br_faulted 2 5 5 6 R_br T_br 7 := ⟨76, by decide +kernel, rfl, rfl, by decide, fl_br_76, in_br, rfl⟩
theorem D_br_faulted_5 : Dc M_br_faulted 5 (.bipush (-10)) 2 7 := ⟨by decide +kernel, rfl⟩
theorem D_br_faulted_7 : Dc M_br_faulted 7 (.iload_n 1) 1 8 := ⟨by decide +kernel, rfl⟩
theorem D_br_faulted_8 : Dc M_br_faulted 8 (.isub) 1 9 := ⟨by decide +kernel, rfl⟩
theorem D_br_faulted_9 : Dc M_br_faulted 9 (.ireturn) 1 10 := ⟨by decide +kernel, rfl⟩
theorem D_br_foundRings_0 : Dc M_br_foundRings 0 (.aload_n 0) 1 1 := ⟨by decide +kernel, rfl⟩
theorem D_br_foundRings_1 : Dg M_br_foundRings 1 4 5 0 R_br T_br 7 := ⟨12, by decide +kernel, rfl, rfl, by decide, fl_br_12, in_br⟩
theorem fl_br_262 : Cond.fieldLink R_br 262 (T_rg 2).1 (T_rg 2).2.1 (T_rg 2).2.2.1 ∈ gtb := mem_g 72 (by decide +kernel) rfl
theorem D_br_foundRings_4 : Dg M_br_foundRings 4 7 0 2 R_rg T_rg 5 := ⟨262, by decide +kernel, rfl, rfl, by decide, fl_br_262, in_rg⟩
theorem D_br_foundRings_7 : Dj M_br_foundRings 7 (.ifCond .eq) 10 29 := ⟨22, by decide +kernel, rfl, by decide⟩
theorem D_br_foundRings_10 : Dc M_br_foundRings 10 (.aload_n 0) 1 11 := ⟨by decide +kernel, rfl⟩
theorem D_br_foundRings_11 : Dg M_br_foundRings 11 14 5 1 R_br T_br 7 := ⟨21, by decide +kernel, rfl, rfl, by decide, fl_br_21, in_br⟩
theorem D_br_foundRings_14 : Dc M_br_foundRings 14 (.aload_n 0) 1 15 := ⟨by decide +kernel, rfl⟩
theorem D_br_foundRings_15 : Dg M_br_foundRings 15 18 5 0 R_br T_br 7 := ⟨12, by decide +kernel, rfl, rfl, by decide, fl_br_12, in_br⟩
theorem ml_br_266 : Cond.methodLink R_br 266 M_ri_find.1 ∈ gtb := mem_g 313 (by decide +kernel) rfl
theorem D_br_foundRings_18 : DcV M_br_foundRings M_ri_find 18 21 := ⟨266, by decide +kernel, rfl, ml_br_266, by decide, by decide⟩
theorem D_br_foundRings_21 : Dc M_br_foundRings 21 (.aload_n 0) 1 22 := ⟨by decide +kernel, rfl⟩
theorem D_br_foundRings_22 : Dg M_br_foundRings 22 25 5 0 R_br T_br 7 := ⟨12, by decide +kernel, rfl, rfl, by decide, fl_br_12, in_br⟩
theorem D_br_foundRings_25 : Dc M_br_foundRings 25 (.iconst 0) 1 26 := ⟨by decide +kernel, rfl⟩
theorem D_br_foundRings_26 : Dp M_br_foundRings 26 29 0 2 R_rg T_rg 5 := ⟨262, by decide +kernel, rfl, rfl, by decide, fl_br_262, in_rg, rfl⟩
theorem D_br_foundRings_29 : Dc M_br_foundRings 29 (.aload_n 0) 1 30 := ⟨by decide +kernel, rfl⟩
theorem D_br_foundRings_30 : Dg M_br_foundRings 30 33 5 1 R_br T_br 7 := ⟨21, by decide +kernel, rfl, rfl, by decide, fl_br_21, in_br⟩
theorem D_br_foundRings_33 : Dc M_br_foundRings 33 (.areturn) 1 34 := ⟨by decide +kernel, rfl⟩
theorem D_br_refusedRow_0 : Dc M_br_refusedRow 0 (.aload_n 0) 1 1 := ⟨by decide +kernel, rfl⟩
theorem D_br_refusedRow_1 : Dc M_br_refusedRow 1 (.iconst 0) 1 2 := ⟨by decide +kernel, rfl⟩
theorem D_br_refusedRow_2 : Dp M_br_refusedRow 2 5 5 6 R_br T_br 7 := ⟨76, by decide +kernel, rfl, rfl, by decide, fl_br_76, in_br, rfl⟩
theorem D_br_refusedRow_5 : Dc M_br_refusedRow 5 (.iload_n 1) 1 6 := ⟨by decide +kernel, rfl⟩
theorem D_br_refusedRow_6 : DcS M_br_refusedRow M_br_isSheet 6 9 := ⟨79, by decide +kernel, rfl, ml_br_79, by decide, by decide⟩
theorem D_br_refusedRow_9 : Dj M_br_refusedRow 9 (.ifCond .ne) 12 14 := ⟨5, by decide +kernel, rfl, by decide⟩
theorem D_br_refusedRow_12 : Dc M_br_refusedRow 12 (.iconst (-1)) 1 13 := ⟨by decide +kernel, rfl⟩
theorem D_br_refusedRow_13 : Dc M_br_refusedRow 13 (.ireturn) 1 14 := ⟨by decide +kernel, rfl⟩
theorem D_br_refusedRow_14 : Dc M_br_refusedRow 14 (.aload_n 0) 1 15 := ⟨by decide +kernel, rfl⟩
theorem D_br_refusedRow_15 : Dg M_br_refusedRow 15 18 5 3 R_br T_br 7 := ⟨34, by decide +kernel, rfl, rfl, by decide, fl_br_34, in_br⟩
theorem D_br_refusedRow_18 : Dc M_br_refusedRow 18 (.iload_n 1) 1 19 := ⟨by decide +kernel, rfl⟩
theorem D_br_refusedRow_19 : Dc M_br_refusedRow 19 (.aaload) 1 20 := ⟨by decide +kernel, rfl⟩
theorem D_br_refusedRow_20 : DcV M_br_refusedRow M_sh_isNothing 20 23 := ⟨92, by decide +kernel, rfl, ml_br_92, by decide, by decide⟩
theorem D_br_refusedRow_23 : Dj M_br_refusedRow 23 (.ifCond .eq) 26 34 := ⟨11, by decide +kernel, rfl, by decide⟩
theorem D_br_refusedRow_26 : Dc M_br_refusedRow 26 (.aload_n 0) 1 27 := ⟨by decide +kernel, rfl⟩
theorem D_br_refusedRow_27 : Dc M_br_refusedRow 27 (.iconst 1) 1 28 := ⟨by decide +kernel, rfl⟩
theorem D_br_refusedRow_28 : DcV M_br_refusedRow M_br_faulted 28 31 := ⟨88, by decide +kernel, rfl, ml_br_88, by decide, by decide⟩
theorem D_br_refusedRow_31 : Dj M_br_refusedRow 31 (.goto) 34 35 := ⟨4, by decide +kernel, rfl, by decide⟩
theorem D_br_refusedRow_34 : Dc M_br_refusedRow 34 (.iconst 0) 1 35 := ⟨by decide +kernel, rfl⟩
theorem D_br_refusedRow_35 : Dc M_br_refusedRow 35 (.ireturn) 1 36 := ⟨by decide +kernel, rfl⟩
theorem D_br_refusedBits_0 : Dc M_br_refusedBits 0 (.aload_n 0) 1 1 := ⟨by decide +kernel, rfl⟩
theorem D_br_refusedBits_1 : Dc M_br_refusedBits 1 (.iload_n 1) 1 2 := ⟨by decide +kernel, rfl⟩
theorem D_br_refusedBits_2 : DcV M_br_refusedBits M_br_refusedRow 2 5 := ⟨218, by decide +kernel, rfl, ml_br_218, by decide, by decide⟩
theorem D_br_refusedBits_5 : Dc M_br_refusedBits 5 (.istore_n 3) 1 6 := ⟨by decide +kernel, rfl⟩
theorem D_br_refusedBits_6 : Dc M_br_refusedBits 6 (.iload_n 3) 1 7 := ⟨by decide +kernel, rfl⟩
theorem D_br_refusedBits_7 : Dj M_br_refusedBits 7 (.ifCond .eq) 10 12 := ⟨5, by decide +kernel, rfl, by decide⟩
theorem D_br_refusedBits_10 : Dc M_br_refusedBits 10 (.iload_n 3) 1 11 := ⟨by decide +kernel, rfl⟩
theorem D_br_refusedBits_11 : Dc M_br_refusedBits 11 (.ireturn) 1 12 := ⟨by decide +kernel, rfl⟩
theorem D_br_refusedBits_12 : Dc M_br_refusedBits 12 (.iload_n 2) 1 13 := ⟨by decide +kernel, rfl⟩
theorem D_br_refusedBits_13 : Dj M_br_refusedBits 13 (.ifCond .lt) 16 29 := ⟨16, by decide +kernel, rfl, by decide⟩
theorem D_br_refusedBits_16 : Dc M_br_refusedBits 16 (.iload_n 2) 1 17 := ⟨by decide +kernel, rfl⟩
theorem D_br_refusedBits_17 : Dc M_br_refusedBits 17 (.aload_n 0) 1 18 := ⟨by decide +kernel, rfl⟩
theorem D_br_refusedBits_18 : Dg M_br_refusedBits 18 21 5 3 R_br T_br 7 := ⟨34, by decide +kernel, rfl, rfl, by decide, fl_br_34, in_br⟩
theorem D_br_refusedBits_21 : Dc M_br_refusedBits 21 (.iload_n 1) 1 22 := ⟨by decide +kernel, rfl⟩
theorem D_br_refusedBits_22 : Dc M_br_refusedBits 22 (.aaload) 1 23 := ⟨by decide +kernel, rfl⟩
theorem D_br_refusedBits_23 : Dg M_br_refusedBits 23 26 3 1 R_sh T_sh 3 := ⟨200, by decide +kernel, rfl, rfl, by decide, fl_br_200, in_sh⟩
theorem D_br_refusedBits_26 : Dj M_br_refusedBits 26 (.if_icmp .le) 29 37 := ⟨11, by decide +kernel, rfl, by decide⟩
theorem D_br_refusedBits_29 : Dc M_br_refusedBits 29 (.aload_n 0) 1 30 := ⟨by decide +kernel, rfl⟩
theorem D_br_refusedBits_30 : Dc M_br_refusedBits 30 (.iconst 3) 1 31 := ⟨by decide +kernel, rfl⟩
theorem D_br_refusedBits_31 : DcV M_br_refusedBits M_br_faulted 31 34 := ⟨88, by decide +kernel, rfl, ml_br_88, by decide, by decide⟩
theorem D_br_refusedBits_34 : Dj M_br_refusedBits 34 (.goto) 37 38 := ⟨4, by decide +kernel, rfl, by decide⟩
theorem D_br_refusedBits_37 : Dc M_br_refusedBits 37 (.iconst 0) 1 38 := ⟨by decide +kernel, rfl⟩
theorem D_br_refusedBits_38 : Dc M_br_refusedBits 38 (.ireturn) 1 39 := ⟨by decide +kernel, rfl⟩
theorem D_br_leave_0 : Dc M_br_leave 0 (.aload_n 0) 1 1 := ⟨by decide +kernel, rfl⟩
theorem D_br_leave_1 : Dc M_br_leave 1 (.bipush 31) 2 3 := ⟨by decide +kernel, rfl⟩
theorem D_br_leave_3 : Dc M_br_leave 3 (.aload_n 0) 1 4 := ⟨by decide +kernel, rfl⟩
theorem D_br_leave_4 : Dg M_br_leave 4 7 5 5 R_br T_br 7 := ⟨259, by decide +kernel, rfl, rfl, by decide, fl_br_259, in_br⟩
theorem D_br_leave_7 : Dc M_br_leave 7 (.imul) 1 8 := ⟨by decide +kernel, rfl⟩
theorem D_br_leave_8 : Dc M_br_leave 8 (.iload_n 1) 1 9 := ⟨by decide +kernel, rfl⟩
theorem D_br_leave_9 : Dc M_br_leave 9 (.iadd) 1 10 := ⟨by decide +kernel, rfl⟩
theorem D_br_leave_10 : Dp M_br_leave 10 13 5 5 R_br T_br 7 := ⟨259, by decide +kernel, rfl, rfl, by decide, fl_br_259, in_br, rfl⟩
theorem D_br_leave_13 : Dc M_br_leave 13 (.return_) 1 14 := ⟨by decide +kernel, rfl⟩
theorem D_br_tellAlone_0 : Dc M_br_tellAlone 0 (.aload_n 0) 1 1 := ⟨by decide +kernel, rfl⟩
theorem D_br_tellAlone_1 : Dc M_br_tellAlone 1 (.iconst 1) 1 2 := ⟨by decide +kernel, rfl⟩
theorem ml_br_270 : Cond.methodLink R_br 270 M_br_leave.1 ∈ gtb := mem_g 622 (by decide +kernel) rfl
theorem D_br_tellAlone_2 : DcV M_br_tellAlone M_br_leave 2 5 := ⟨270, by decide +kernel, rfl, ml_br_270, by decide, by decide⟩
theorem D_br_tellAlone_5 : Dc M_br_tellAlone 5 (.iconst 1) 1 6 := ⟨by decide +kernel, rfl⟩
theorem D_br_tellAlone_6 : Dc M_br_tellAlone 6 (.ireturn) 1 7 := ⟨by decide +kernel, rfl⟩
theorem D_br_tellLonger_0 : Dc M_br_tellLonger 0 (.aload_n 0) 1 1 := ⟨by decide +kernel, rfl⟩
theorem D_br_tellLonger_1 : Dc M_br_tellLonger 1 (.iconst 2) 1 2 := ⟨by decide +kernel, rfl⟩
theorem D_br_tellLonger_2 : DcV M_br_tellLonger M_br_leave 2 5 := ⟨270, by decide +kernel, rfl, ml_br_270, by decide, by decide⟩
theorem D_br_tellLonger_5 : Dc M_br_tellLonger 5 (.iconst 2) 1 6 := ⟨by decide +kernel, rfl⟩
theorem D_br_tellLonger_6 : Dc M_br_tellLonger 6 (.aload_n 0) 1 7 := ⟨by decide +kernel, rfl⟩
theorem D_br_tellLonger_7 : DcV M_br_tellLonger M_br_tellAlone 7 10 := ⟨250, by decide +kernel, rfl, ml_br_250, by decide, by decide⟩
theorem D_br_tellLonger_10 : Dc M_br_tellLonger 10 (.imul) 1 11 := ⟨by decide +kernel, rfl⟩
theorem D_br_tellLonger_11 : Dc M_br_tellLonger 11 (.iload_n 1) 1 12 := ⟨by decide +kernel, rfl⟩
theorem D_br_tellLonger_12 : Dc M_br_tellLonger 12 (.iadd) 1 13 := ⟨by decide +kernel, rfl⟩
theorem D_br_tellLonger_13 : Dc M_br_tellLonger 13 (.ireturn) 1 14 := ⟨by decide +kernel, rfl⟩
theorem D_br_tellBehind_0 : Dc M_br_tellBehind 0 (.aload_n 0) 1 1 := ⟨by decide +kernel, rfl⟩
theorem D_br_tellBehind_1 : Dc M_br_tellBehind 1 (.iconst 3) 1 2 := ⟨by decide +kernel, rfl⟩
theorem D_br_tellBehind_2 : DcV M_br_tellBehind M_br_leave 2 5 := ⟨270, by decide +kernel, rfl, ml_br_270, by decide, by decide⟩
theorem D_br_tellBehind_5 : Dc M_br_tellBehind 5 (.aload_n 0) 1 6 := ⟨by decide +kernel, rfl⟩
theorem D_br_tellBehind_6 : DcV M_br_tellBehind M_br_tellAlone 6 9 := ⟨250, by decide +kernel, rfl, ml_br_250, by decide, by decide⟩
theorem D_br_tellBehind_9 : Dc M_br_tellBehind 9 (.iload_n 1) 1 10 := ⟨by decide +kernel, rfl⟩
theorem D_br_tellBehind_10 : Dc M_br_tellBehind 10 (.isub) 1 11 := ⟨by decide +kernel, rfl⟩
theorem D_br_tellBehind_11 : Dc M_br_tellBehind 11 (.ireturn) 1 12 := ⟨by decide +kernel, rfl⟩
theorem D_br_weighLent_0 : Dc M_br_weighLent 0 (.aload_n 0) 1 1 := ⟨by decide +kernel, rfl⟩
theorem D_br_weighLent_1 : Dc M_br_weighLent 1 (.iconst 4) 1 2 := ⟨by decide +kernel, rfl⟩
theorem D_br_weighLent_2 : DcV M_br_weighLent M_br_leave 2 5 := ⟨270, by decide +kernel, rfl, ml_br_270, by decide, by decide⟩
theorem D_br_weighLent_5 : Dc M_br_weighLent 5 (.iload_n 1) 1 6 := ⟨by decide +kernel, rfl⟩
theorem D_br_weighLent_6 : Dc M_br_weighLent 6 (.ireturn) 1 7 := ⟨by decide +kernel, rfl⟩
theorem D_br_weighBehind_0 : Dc M_br_weighBehind 0 (.aload_n 0) 1 1 := ⟨by decide +kernel, rfl⟩
theorem D_br_weighBehind_1 : Dc M_br_weighBehind 1 (.iconst 5) 1 2 := ⟨by decide +kernel, rfl⟩
theorem D_br_weighBehind_2 : DcV M_br_weighBehind M_br_leave 2 5 := ⟨270, by decide +kernel, rfl, ml_br_270, by decide, by decide⟩
theorem D_br_weighBehind_5 : Dc M_br_weighBehind 5 (.sipush 600) 3 8 := ⟨by decide +kernel, rfl⟩
theorem D_br_weighBehind_8 : Dc M_br_weighBehind 8 (.ireturn) 1 9 := ⟨by decide +kernel, rfl⟩
end
section
theorem D_mo_init_0 : Dc M_mo_init 0 (.aload_n 0) 1 1 := ⟨by decide +kernel, rfl⟩
theorem D_mo_init_1 : Do M_mo_init 1 4 := ⟨1, by decide +kernel, rfl, by decide +kernel, by decide +kernel, by decide +kernel, by decide, by decide⟩
theorem D_mo_init_4 : Dc M_mo_init 4 (.aload_n 0) 1 5 := ⟨by decide +kernel, rfl⟩
theorem D_mo_init_5 : Dc M_mo_init 5 (.iconst 3) 1 6 := ⟨by decide +kernel, rfl⟩
theorem fl_mo_7 : Cond.fieldLink R_mo 7 (T_mo 2).1 (T_mo 2).2.1 (T_mo 2).2.2.1 ∈ gtb := mem_g 667 (by decide +kernel) rfl
theorem D_mo_init_6 : Dp M_mo_init 6 9 6 2 R_mo T_mo 21 := ⟨7, by decide +kernel, rfl, rfl, by decide, fl_mo_7, in_mo, rfl⟩
theorem D_mo_init_9 : Dc M_mo_init 9 (.aload_n 0) 1 10 := ⟨by decide +kernel, rfl⟩
theorem D_mo_init_10 : Dc M_mo_init 10 (.sipush 512) 3 13 := ⟨by decide +kernel, rfl⟩
theorem D_mo_init_13 : Dc M_mo_init 13 (.newarray .int) 2 15 := ⟨by decide +kernel, rfl⟩
theorem fl_mo_13 : Cond.fieldLink R_mo 13 (T_mo 3).1 (T_mo 3).2.1 (T_mo 3).2.2.1 ∈ gtb := mem_g 668 (by decide +kernel) rfl
theorem D_mo_init_15 : Df M_mo_init 15 18 6 3 R_mo T_mo 21 := ⟨13, by decide +kernel, rfl, rfl, by decide, fl_mo_13, in_mo, rfl⟩
theorem D_mo_init_18 : Dc M_mo_init 18 (.aload_n 0) 1 19 := ⟨by decide +kernel, rfl⟩
theorem D_mo_init_19 : Dc M_mo_init 19 (.sipush 512) 3 22 := ⟨by decide +kernel, rfl⟩
theorem D_mo_init_22 : Dc M_mo_init 22 (.newarray .int) 2 24 := ⟨by decide +kernel, rfl⟩
theorem fl_mo_17 : Cond.fieldLink R_mo 17 (T_mo 6).1 (T_mo 6).2.1 (T_mo 6).2.2.1 ∈ gtb := mem_g 671 (by decide +kernel) rfl
theorem D_mo_init_24 : Df M_mo_init 24 27 6 6 R_mo T_mo 21 := ⟨17, by decide +kernel, rfl, rfl, by decide, fl_mo_17, in_mo, rfl⟩
theorem D_mo_init_27 : Dc M_mo_init 27 (.aload_n 0) 1 28 := ⟨by decide +kernel, rfl⟩
theorem D_mo_init_28 : Dc M_mo_init 28 (.sipush 512) 3 31 := ⟨by decide +kernel, rfl⟩
theorem D_mo_init_31 : Dc M_mo_init 31 (.newarray .int) 2 33 := ⟨by decide +kernel, rfl⟩
theorem fl_mo_20 : Cond.fieldLink R_mo 20 (T_mo 7).1 (T_mo 7).2.1 (T_mo 7).2.2.1 ∈ gtb := mem_g 672 (by decide +kernel) rfl
theorem D_mo_init_33 : Df M_mo_init 33 36 6 7 R_mo T_mo 21 := ⟨20, by decide +kernel, rfl, rfl, by decide, fl_mo_20, in_mo, rfl⟩
theorem D_mo_init_36 : Dc M_mo_init 36 (.aload_n 0) 1 37 := ⟨by decide +kernel, rfl⟩
theorem D_mo_init_37 : Dc M_mo_init 37 (.sipush 512) 3 40 := ⟨by decide +kernel, rfl⟩
theorem D_mo_init_40 : Dc M_mo_init 40 (.newarray .int) 2 42 := ⟨by decide +kernel, rfl⟩
theorem fl_mo_23 : Cond.fieldLink R_mo 23 (T_mo 8).1 (T_mo 8).2.1 (T_mo 8).2.2.1 ∈ gtb := mem_g 673 (by decide +kernel) rfl
theorem D_mo_init_42 : Df M_mo_init 42 45 6 8 R_mo T_mo 21 := ⟨23, by decide +kernel, rfl, rfl, by decide, fl_mo_23, in_mo, rfl⟩
theorem D_mo_init_45 : Dc M_mo_init 45 (.aload_n 0) 1 46 := ⟨by decide +kernel, rfl⟩
theorem D_mo_init_46 : Dc M_mo_init 46 (.sipush 512) 3 49 := ⟨by decide +kernel, rfl⟩
theorem D_mo_init_49 : Dc M_mo_init 49 (.newarray .int) 2 51 := ⟨by decide +kernel, rfl⟩
theorem fl_mo_26 : Cond.fieldLink R_mo 26 (T_mo 9).1 (T_mo 9).2.1 (T_mo 9).2.2.1 ∈ gtb := mem_g 674 (by decide +kernel) rfl
theorem D_mo_init_51 : Df M_mo_init 51 54 6 9 R_mo T_mo 21 := ⟨26, by decide +kernel, rfl, rfl, by decide, fl_mo_26, in_mo, rfl⟩
theorem D_mo_init_54 : Dc M_mo_init 54 (.aload_n 0) 1 55 := ⟨by decide +kernel, rfl⟩
theorem D_mo_init_55 : Dc M_mo_init 55 (.sipush 512) 3 58 := ⟨by decide +kernel, rfl⟩
theorem D_mo_init_58 : Dc M_mo_init 58 (.newarray .int) 2 60 := ⟨by decide +kernel, rfl⟩
theorem fl_mo_29 : Cond.fieldLink R_mo 29 (T_mo 10).1 (T_mo 10).2.1 (T_mo 10).2.2.1 ∈ gtb := mem_g 675 (by decide +kernel) rfl
theorem D_mo_init_60 : Df M_mo_init 60 63 6 10 R_mo T_mo 21 := ⟨29, by decide +kernel, rfl, rfl, by decide, fl_mo_29, in_mo, rfl⟩
theorem D_mo_init_63 : Dc M_mo_init 63 (.aload_n 0) 1 64 := ⟨by decide +kernel, rfl⟩
theorem D_mo_init_64 : Dc M_mo_init 64 (.sipush 512) 3 67 := ⟨by decide +kernel, rfl⟩
theorem D_mo_init_67 : Dc M_mo_init 67 (.newarray .int) 2 69 := ⟨by decide +kernel, rfl⟩
theorem fl_mo_32 : Cond.fieldLink R_mo 32 (T_mo 11).1 (T_mo 11).2.1 (T_mo 11).2.2.1 ∈ gtb := mem_g 676 (by decide +kernel) rfl
theorem D_mo_init_69 : Df M_mo_init 69 72 6 11 R_mo T_mo 21 := ⟨32, by decide +kernel, rfl, rfl, by decide, fl_mo_32, in_mo, rfl⟩
theorem D_mo_init_72 : Dc M_mo_init 72 (.aload_n 0) 1 73 := ⟨by decide +kernel, rfl⟩
theorem D_mo_init_73 : Dc M_mo_init 73 (.sipush 512) 3 76 := ⟨by decide +kernel, rfl⟩
theorem D_mo_init_76 : Dc M_mo_init 76 (.newarray .int) 2 78 := ⟨by decide +kernel, rfl⟩
theorem fl_mo_35 : Cond.fieldLink R_mo 35 (T_mo 12).1 (T_mo 12).2.1 (T_mo 12).2.2.1 ∈ gtb := mem_g 677 (by decide +kernel) rfl
theorem D_mo_init_78 : Df M_mo_init 78 81 6 12 R_mo T_mo 21 := ⟨35, by decide +kernel, rfl, rfl, by decide, fl_mo_35, in_mo, rfl⟩
theorem D_mo_init_81 : Dc M_mo_init 81 (.aload_n 0) 1 82 := ⟨by decide +kernel, rfl⟩
theorem D_mo_init_82 : Dc M_mo_init 82 (.iconst 4) 1 83 := ⟨by decide +kernel, rfl⟩
theorem D_mo_init_83 : Dc M_mo_init 83 (.newarray .int) 2 85 := ⟨by decide +kernel, rfl⟩
theorem D_mo_init_85 : Dc M_mo_init 85 (.dup) 1 86 := ⟨by decide +kernel, rfl⟩
theorem D_mo_init_86 : Dc M_mo_init 86 (.iconst 0) 1 87 := ⟨by decide +kernel, rfl⟩
theorem D_mo_init_87 : Dc M_mo_init 87 (.bipush (-9)) 2 89 := ⟨by decide +kernel, rfl⟩
theorem D_mo_init_89 : Dc M_mo_init 89 (.iastore) 1 90 := ⟨by decide +kernel, rfl⟩
theorem D_mo_init_90 : Dc M_mo_init 90 (.dup) 1 91 := ⟨by decide +kernel, rfl⟩
theorem D_mo_init_91 : Dc M_mo_init 91 (.iconst 1) 1 92 := ⟨by decide +kernel, rfl⟩
theorem D_mo_init_92 : Dc M_mo_init 92 (.bipush (-9)) 2 94 := ⟨by decide +kernel, rfl⟩
theorem D_mo_init_94 : Dc M_mo_init 94 (.iastore) 1 95 := ⟨by decide +kernel, rfl⟩
theorem D_mo_init_95 : Dc M_mo_init 95 (.dup) 1 96 := ⟨by decide +kernel, rfl⟩
theorem D_mo_init_96 : Dc M_mo_init 96 (.iconst 2) 1 97 := ⟨by decide +kernel, rfl⟩
theorem D_mo_init_97 : Dc M_mo_init 97 (.bipush (-9)) 2 99 := ⟨by decide +kernel, rfl⟩
theorem D_mo_init_99 : Dc M_mo_init 99 (.iastore) 1 100 := ⟨by decide +kernel, rfl⟩
theorem D_mo_init_100 : Dc M_mo_init 100 (.dup) 1 101 := ⟨by decide +kernel, rfl⟩
theorem D_mo_init_101 : Dc M_mo_init 101 (.iconst 3) 1 102 := ⟨by decide +kernel, rfl⟩
theorem D_mo_init_102 : Dc M_mo_init 102 (.bipush (-9)) 2 104 := ⟨by decide +kernel, rfl⟩
theorem D_mo_init_104 : Dc M_mo_init 104 (.iastore) 1 105 := ⟨by decide +kernel, rfl⟩
theorem fl_mo_38 : Cond.fieldLink R_mo 38 (T_mo 13).1 (T_mo 13).2.1 (T_mo 13).2.2.1 ∈ gtb := mem_g 678 (by decide +kernel) rfl
theorem D_mo_init_105 : Df M_mo_init 105 108 6 13 R_mo T_mo 21 := ⟨38, by decide +kernel, rfl, rfl, by decide, fl_mo_38, in_mo, rfl⟩
theorem D_mo_init_108 : Dc M_mo_init 108 (.aload_n 0) 1 109 := ⟨by decide +kernel, rfl⟩
theorem D_mo_init_109 : Dc M_mo_init 109 (.iconst 4) 1 110 := ⟨by decide +kernel, rfl⟩
theorem D_mo_init_110 : Dc M_mo_init 110 (.newarray .int) 2 112 := ⟨by decide +kernel, rfl⟩
theorem fl_mo_41 : Cond.fieldLink R_mo 41 (T_mo 14).1 (T_mo 14).2.1 (T_mo 14).2.2.1 ∈ gtb := mem_g 679 (by decide +kernel) rfl
theorem D_mo_init_112 : Df M_mo_init 112 115 6 14 R_mo T_mo 21 := ⟨41, by decide +kernel, rfl, rfl, by decide, fl_mo_41, in_mo, rfl⟩
theorem D_mo_init_115 : Dc M_mo_init 115 (.aload_n 0) 1 116 := ⟨by decide +kernel, rfl⟩
theorem D_mo_init_116 : Dc M_mo_init 116 (.sipush 2400) 3 119 := ⟨by decide +kernel, rfl⟩
theorem D_mo_init_119 : Dc M_mo_init 119 (.newarray .long) 2 121 := ⟨by decide +kernel, rfl⟩
theorem fl_mo_44 : Cond.fieldLink R_mo 44 (T_mo 15).1 (T_mo 15).2.1 (T_mo 15).2.2.1 ∈ gtb := mem_g 680 (by decide +kernel) rfl
theorem D_mo_init_121 : Df M_mo_init 121 124 6 15 R_mo T_mo 21 := ⟨44, by decide +kernel, rfl, rfl, by decide, fl_mo_44, in_mo, rfl⟩
theorem D_mo_init_124 : Dc M_mo_init 124 (.aload_n 0) 1 125 := ⟨by decide +kernel, rfl⟩
theorem D_mo_init_125 : Dc M_mo_init 125 (.sipush 4096) 3 128 := ⟨by decide +kernel, rfl⟩
theorem D_mo_init_128 : Dc M_mo_init 128 (.newarray .long) 2 130 := ⟨by decide +kernel, rfl⟩
theorem fl_mo_48 : Cond.fieldLink R_mo 48 (T_mo 16).1 (T_mo 16).2.1 (T_mo 16).2.2.1 ∈ gtb := mem_g 681 (by decide +kernel) rfl
theorem D_mo_init_130 : Df M_mo_init 130 133 6 16 R_mo T_mo 21 := ⟨48, by decide +kernel, rfl, rfl, by decide, fl_mo_48, in_mo, rfl⟩
theorem D_mo_init_133 : Dc M_mo_init 133 (.aload_n 0) 1 134 := ⟨by decide +kernel, rfl⟩
theorem D_mo_init_134 : Dc M_mo_init 134 (.sipush 512) 3 137 := ⟨by decide +kernel, rfl⟩
theorem D_mo_init_137 : Dc M_mo_init 137 (.newarray .boolean) 2 139 := ⟨by decide +kernel, rfl⟩
theorem fl_mo_51 : Cond.fieldLink R_mo 51 (T_mo 17).1 (T_mo 17).2.1 (T_mo 17).2.2.1 ∈ gtb := mem_g 682 (by decide +kernel) rfl
theorem D_mo_init_139 : Df M_mo_init 139 142 6 17 R_mo T_mo 21 := ⟨51, by decide +kernel, rfl, rfl, by decide, fl_mo_51, in_mo, rfl⟩
theorem D_mo_init_142 : Dc M_mo_init 142 (.aload_n 0) 1 143 := ⟨by decide +kernel, rfl⟩
theorem D_mo_init_143 : Dc M_mo_init 143 (.sipush 601) 3 146 := ⟨by decide +kernel, rfl⟩
theorem D_mo_init_146 : Dc M_mo_init 146 (.newarray .int) 2 148 := ⟨by decide +kernel, rfl⟩
theorem fl_mo_55 : Cond.fieldLink R_mo 55 (T_mo 18).1 (T_mo 18).2.1 (T_mo 18).2.2.1 ∈ gtb := mem_g 683 (by decide +kernel) rfl
theorem D_mo_init_148 : Df M_mo_init 148 151 6 18 R_mo T_mo 21 := ⟨55, by decide +kernel, rfl, rfl, by decide, fl_mo_55, in_mo, rfl⟩
theorem D_mo_init_151 : Dc M_mo_init 151 (.aload_n 0) 1 152 := ⟨by decide +kernel, rfl⟩
theorem D_mo_init_152 : Dc M_mo_init 152 (.sipush 601) 3 155 := ⟨by decide +kernel, rfl⟩
theorem D_mo_init_155 : Dc M_mo_init 155 (.newarray .int) 2 157 := ⟨by decide +kernel, rfl⟩
theorem fl_mo_58 : Cond.fieldLink R_mo 58 (T_mo 19).1 (T_mo 19).2.1 (T_mo 19).2.2.1 ∈ gtb := mem_g 684 (by decide +kernel) rfl
theorem D_mo_init_157 : Df M_mo_init 157 160 6 19 R_mo T_mo 21 := ⟨58, by decide +kernel, rfl, rfl, by decide, fl_mo_58, in_mo, rfl⟩
theorem D_mo_init_160 : Dc M_mo_init 160 (.aload_n 0) 1 161 := ⟨by decide +kernel, rfl⟩
theorem D_mo_init_161 : Dc M_mo_init 161 (.sipush 601) 3 164 := ⟨by decide +kernel, rfl⟩
theorem D_mo_init_164 : Dc M_mo_init 164 (.newarray .int) 2 166 := ⟨by decide +kernel, rfl⟩
theorem fl_mo_61 : Cond.fieldLink R_mo 61 (T_mo 20).1 (T_mo 20).2.1 (T_mo 20).2.2.1 ∈ gtb := mem_g 685 (by decide +kernel) rfl
theorem D_mo_init_166 : Df M_mo_init 166 169 6 20 R_mo T_mo 21 := ⟨61, by decide +kernel, rfl, rfl, by decide, fl_mo_61, in_mo, rfl⟩
theorem D_mo_init_169 : Dc M_mo_init 169 (.return_) 1 170 := ⟨by decide +kernel, rfl⟩
theorem D_mo_fails_0 : Dc M_mo_fails 0 (.aload_n 0) 1 1 := ⟨by decide +kernel, rfl⟩
theorem D_mo_fails_1 : Dc M_mo_fails 1 (.iload_n 1) 1 2 := ⟨by decide +kernel, rfl⟩
theorem fl_mo_64 : Cond.fieldLink R_mo 64 (T_mo 0).1 (T_mo 0).2.1 (T_mo 0).2.2.1 ∈ gtb := mem_g 665 (by decide +kernel) rfl
theorem D_mo_fails_2 : Dp M_mo_fails 2 5 6 0 R_mo T_mo 21 := ⟨64, by decide +kernel, rfl, rfl, by decide, fl_mo_64, in_mo, rfl⟩
theorem D_mo_fails_5 : Dc M_mo_fails 5 (.bipush (-10)) 2 7 := ⟨by decide +kernel, rfl⟩
theorem D_mo_fails_7 : Dc M_mo_fails 7 (.iload_n 1) 1 8 := ⟨by decide +kernel, rfl⟩
theorem D_mo_fails_8 : Dc M_mo_fails 8 (.isub) 1 9 := ⟨by decide +kernel, rfl⟩
theorem D_mo_fails_9 : Dc M_mo_fails 9 (.ireturn) 1 10 := ⟨by decide +kernel, rfl⟩
theorem D_mo_lost_0 : Dc M_mo_lost 0 (.aload_n 0) 1 1 := ⟨by decide +kernel, rfl⟩
theorem D_mo_lost_1 : Dc M_mo_lost 1 (.iload_n 1) 1 2 := ⟨by decide +kernel, rfl⟩
theorem D_mo_lost_2 : Dp M_mo_lost 2 5 6 0 R_mo T_mo 21 := ⟨64, by decide +kernel, rfl, rfl, by decide, fl_mo_64, in_mo, rfl⟩
theorem D_mo_lost_5 : Dl M_mo_lost 5 8 (-lN 9223372036854775808) := ⟨67, by decide +kernel, rfl, by decide +kernel⟩
theorem D_mo_lost_8 : Dc M_mo_lost 8 (.lreturn) 1 9 := ⟨by decide +kernel, rfl⟩
theorem D_mo_within_0 : Dc M_mo_within 0 (.lload_n 0) 1 1 := ⟨by decide +kernel, rfl⟩
theorem D_mo_within_1 : Dc M_mo_within 1 (.lload_n 2) 1 2 := ⟨by decide +kernel, rfl⟩
theorem D_mo_within_2 : Dc M_mo_within 2 (.lcmp) 1 3 := ⟨by decide +kernel, rfl⟩
theorem D_mo_within_3 : Dj M_mo_within 3 (.ifCond .lt) 6 17 := ⟨14, by decide +kernel, rfl, by decide⟩
theorem D_mo_within_6 : Dc M_mo_within 6 (.lload_n 0) 1 7 := ⟨by decide +kernel, rfl⟩
theorem D_mo_within_7 : Dc M_mo_within 7 (.lload 4) 2 9 := ⟨by decide +kernel, rfl⟩
theorem D_mo_within_9 : Dc M_mo_within 9 (.lcmp) 1 10 := ⟨by decide +kernel, rfl⟩
theorem D_mo_within_10 : Dj M_mo_within 10 (.ifCond .gt) 13 17 := ⟨7, by decide +kernel, rfl, by decide⟩
theorem D_mo_within_13 : Dc M_mo_within 13 (.iconst 1) 1 14 := ⟨by decide +kernel, rfl⟩
theorem D_mo_within_14 : Dj M_mo_within 14 (.goto) 17 18 := ⟨4, by decide +kernel, rfl, by decide⟩
theorem D_mo_within_17 : Dc M_mo_within 17 (.iconst 0) 1 18 := ⟨by decide +kernel, rfl⟩
theorem D_mo_within_18 : Dc M_mo_within 18 (.ireturn) 1 19 := ⟨by decide +kernel, rfl⟩
theorem D_mo_states_0 : Dc M_mo_states 0 (.iconst 1) 1 1 := ⟨by decide +kernel, rfl⟩
theorem D_mo_states_1 : Dc M_mo_states 1 (.aload_n 0) 1 2 := ⟨by decide +kernel, rfl⟩
theorem D_mo_states_2 : Dg M_mo_states 2 5 6 2 R_mo T_mo 21 := ⟨7, by decide +kernel, rfl, rfl, by decide, fl_mo_7, in_mo⟩
theorem D_mo_states_5 : Dc M_mo_states 5 (.ishl) 1 6 := ⟨by decide +kernel, rfl⟩
theorem D_mo_states_6 : Dc M_mo_states 6 (.ireturn) 1 7 := ⟨by decide +kernel, rfl⟩
theorem D_mo_isState_0 : Dc M_mo_isState 0 (.iload_n 1) 1 1 := ⟨by decide +kernel, rfl⟩
theorem D_mo_isState_1 : Dj M_mo_isState 1 (.ifCond .lt) 4 16 := ⟨15, by decide +kernel, rfl, by decide⟩
theorem D_mo_isState_4 : Dc M_mo_isState 4 (.iload_n 1) 1 5 := ⟨by decide +kernel, rfl⟩
theorem D_mo_isState_5 : Dc M_mo_isState 5 (.aload_n 0) 1 6 := ⟨by decide +kernel, rfl⟩
theorem ml_mo_69 : Cond.methodLink R_mo 69 M_mo_states.1 ∈ gtb := mem_g 747 (by decide +kernel) rfl
theorem D_mo_isState_6 : DcV M_mo_isState M_mo_states 6 9 := ⟨69, by decide +kernel, rfl, ml_mo_69, by decide, by decide⟩
theorem D_mo_isState_9 : Dj M_mo_isState 9 (.if_icmp .ge) 12 16 := ⟨7, by decide +kernel, rfl, by decide⟩
theorem D_mo_isState_12 : Dc M_mo_isState 12 (.iconst 1) 1 13 := ⟨by decide +kernel, rfl⟩
theorem D_mo_isState_13 : Dj M_mo_isState 13 (.goto) 16 17 := ⟨4, by decide +kernel, rfl, by decide⟩
theorem D_mo_isState_16 : Dc M_mo_isState 16 (.iconst 0) 1 17 := ⟨by decide +kernel, rfl⟩
theorem D_mo_isState_17 : Dc M_mo_isState 17 (.ireturn) 1 18 := ⟨by decide +kernel, rfl⟩
theorem D_mo_next_0 : Dc M_mo_next 0 (.iload_n 1) 1 1 := ⟨by decide +kernel, rfl⟩
theorem D_mo_next_1 : Dc M_mo_next 1 (.iconst 2) 1 2 := ⟨by decide +kernel, rfl⟩
theorem D_mo_next_2 : Dc M_mo_next 2 (.idiv) 1 3 := ⟨by decide +kernel, rfl⟩
theorem D_mo_next_3 : Dc M_mo_next 3 (.aload_n 0) 1 4 := ⟨by decide +kernel, rfl⟩
theorem D_mo_next_4 : Dg M_mo_next 4 7 6 3 R_mo T_mo 21 := ⟨13, by decide +kernel, rfl, rfl, by decide, fl_mo_13, in_mo⟩
theorem D_mo_next_7 : Dc M_mo_next 7 (.iload_n 1) 1 8 := ⟨by decide +kernel, rfl⟩
theorem D_mo_next_8 : Dc M_mo_next 8 (.iaload) 1 9 := ⟨by decide +kernel, rfl⟩
theorem D_mo_next_9 : Dc M_mo_next 9 (.aload_n 0) 1 10 := ⟨by decide +kernel, rfl⟩
theorem D_mo_next_10 : DcV M_mo_next M_mo_states 10 13 := ⟨69, by decide +kernel, rfl, ml_mo_69, by decide, by decide⟩
theorem D_mo_next_13 : Dc M_mo_next 13 (.iconst 2) 1 14 := ⟨by decide +kernel, rfl⟩
theorem D_mo_next_14 : Dc M_mo_next 14 (.idiv) 1 15 := ⟨by decide +kernel, rfl⟩
theorem D_mo_next_15 : Dc M_mo_next 15 (.imul) 1 16 := ⟨by decide +kernel, rfl⟩
theorem D_mo_next_16 : Dc M_mo_next 16 (.iadd) 1 17 := ⟨by decide +kernel, rfl⟩
theorem D_mo_next_17 : Dc M_mo_next 17 (.ireturn) 1 18 := ⟨by decide +kernel, rfl⟩
theorem D_mo_find_0 : Dc M_mo_find 0 (.aload_n 0) 1 1 := ⟨by decide +kernel, rfl⟩
theorem fl_mo_73 : Cond.fieldLink R_mo 73 (T_mo 4).1 (T_mo 4).2.1 (T_mo 4).2.2.1 ∈ gtb := mem_g 669 (by decide +kernel) rfl
theorem D_mo_find_1 : Dg M_mo_find 1 4 6 4 R_mo T_mo 21 := ⟨73, by decide +kernel, rfl, rfl, by decide, fl_mo_73, in_mo⟩
theorem D_mo_find_4 : Dj M_mo_find 4 (.ifCond .eq) 7 8 := ⟨4, by decide +kernel, rfl, by decide⟩
theorem D_mo_find_7 : Dc M_mo_find 7 (.return_) 1 8 := ⟨by decide +kernel, rfl⟩
theorem D_mo_find_8 : Dc M_mo_find 8 (.aload_n 0) 1 9 := ⟨by decide +kernel, rfl⟩
theorem D_mo_find_9 : Dc M_mo_find 9 (.iconst 1) 1 10 := ⟨by decide +kernel, rfl⟩
theorem D_mo_find_10 : Dp M_mo_find 10 13 6 4 R_mo T_mo 21 := ⟨73, by decide +kernel, rfl, rfl, by decide, fl_mo_73, in_mo, rfl⟩
theorem D_mo_find_13 : Dc M_mo_find 13 (.aload_n 0) 1 14 := ⟨by decide +kernel, rfl⟩
theorem D_mo_find_14 : DcV M_mo_find M_mo_states 14 17 := ⟨69, by decide +kernel, rfl, ml_mo_69, by decide, by decide⟩
theorem D_mo_find_17 : Dc M_mo_find 17 (.istore_n 1) 1 18 := ⟨by decide +kernel, rfl⟩
theorem D_mo_find_18 : Dc M_mo_find 18 (.iconst 0) 1 19 := ⟨by decide +kernel, rfl⟩
theorem D_mo_find_19 : Dc M_mo_find 19 (.istore_n 2) 1 20 := ⟨by decide +kernel, rfl⟩
theorem D_mo_find_20 : Dc M_mo_find 20 (.iload_n 2) 1 21 := ⟨by decide +kernel, rfl⟩
theorem D_mo_find_21 : Dc M_mo_find 21 (.iload_n 1) 1 22 := ⟨by decide +kernel, rfl⟩
theorem D_mo_find_22 : Dj M_mo_find 22 (.if_icmp .ge) 25 46 := ⟨24, by decide +kernel, rfl, by decide⟩
theorem D_mo_find_25 : Dc M_mo_find 25 (.aload_n 0) 1 26 := ⟨by decide +kernel, rfl⟩
theorem D_mo_find_26 : Dg M_mo_find 26 29 6 11 R_mo T_mo 21 := ⟨32, by decide +kernel, rfl, rfl, by decide, fl_mo_32, in_mo⟩
theorem D_mo_find_29 : Dc M_mo_find 29 (.iload_n 2) 1 30 := ⟨by decide +kernel, rfl⟩
theorem D_mo_find_30 : Dc M_mo_find 30 (.iconst 0) 1 31 := ⟨by decide +kernel, rfl⟩
theorem D_mo_find_31 : Dc M_mo_find 31 (.iastore) 1 32 := ⟨by decide +kernel, rfl⟩
theorem D_mo_find_32 : Dc M_mo_find 32 (.aload_n 0) 1 33 := ⟨by decide +kernel, rfl⟩
theorem D_mo_find_33 : Dg M_mo_find 33 36 6 8 R_mo T_mo 21 := ⟨23, by decide +kernel, rfl, rfl, by decide, fl_mo_23, in_mo⟩
theorem D_mo_find_36 : Dc M_mo_find 36 (.iload_n 2) 1 37 := ⟨by decide +kernel, rfl⟩
theorem D_mo_find_37 : Dc M_mo_find 37 (.bipush (-9)) 2 39 := ⟨by decide +kernel, rfl⟩
theorem D_mo_find_39 : Dc M_mo_find 39 (.iastore) 1 40 := ⟨by decide +kernel, rfl⟩
theorem D_mo_find_40 : Dc M_mo_find 40 (.iinc 2 1) 3 43 := ⟨by decide +kernel, rfl⟩
theorem D_mo_find_43 : Dj M_mo_find 43 (.goto) 46 20 := ⟨(-23), by decide +kernel, rfl, by decide⟩
theorem D_mo_find_46 : Dc M_mo_find 46 (.iconst 0) 1 47 := ⟨by decide +kernel, rfl⟩
theorem D_mo_find_47 : Dc M_mo_find 47 (.istore_n 2) 1 48 := ⟨by decide +kernel, rfl⟩
theorem D_mo_find_48 : Dc M_mo_find 48 (.iload_n 2) 1 49 := ⟨by decide +kernel, rfl⟩
theorem D_mo_find_49 : Dc M_mo_find 49 (.iload_n 1) 1 50 := ⟨by decide +kernel, rfl⟩
theorem D_mo_find_50 : Dj M_mo_find 50 (.if_icmp .ge) 53 73 := ⟨23, by decide +kernel, rfl, by decide⟩
theorem D_mo_find_53 : Dc M_mo_find 53 (.aload_n 0) 1 54 := ⟨by decide +kernel, rfl⟩
theorem D_mo_find_54 : Dg M_mo_find 54 57 6 11 R_mo T_mo 21 := ⟨32, by decide +kernel, rfl, rfl, by decide, fl_mo_32, in_mo⟩
theorem D_mo_find_57 : Dc M_mo_find 57 (.aload_n 0) 1 58 := ⟨by decide +kernel, rfl⟩
theorem D_mo_find_58 : Dc M_mo_find 58 (.iload_n 2) 1 59 := ⟨by decide +kernel, rfl⟩
theorem ml_mo_77 : Cond.methodLink R_mo 77 M_mo_next.1 ∈ gtb := mem_g 786 (by decide +kernel) rfl
theorem D_mo_find_59 : DcV M_mo_find M_mo_next 59 62 := ⟨77, by decide +kernel, rfl, ml_mo_77, by decide, by decide⟩
theorem D_mo_find_62 : Dc M_mo_find 62 (.dup2) 1 63 := ⟨by decide +kernel, rfl⟩
theorem D_mo_find_63 : Dc M_mo_find 63 (.iaload) 1 64 := ⟨by decide +kernel, rfl⟩
theorem D_mo_find_64 : Dc M_mo_find 64 (.iconst 1) 1 65 := ⟨by decide +kernel, rfl⟩
theorem D_mo_find_65 : Dc M_mo_find 65 (.iadd) 1 66 := ⟨by decide +kernel, rfl⟩
theorem D_mo_find_66 : Dc M_mo_find 66 (.iastore) 1 67 := ⟨by decide +kernel, rfl⟩
theorem D_mo_find_67 : Dc M_mo_find 67 (.iinc 2 1) 3 70 := ⟨by decide +kernel, rfl⟩
theorem D_mo_find_70 : Dj M_mo_find 70 (.goto) 73 48 := ⟨(-22), by decide +kernel, rfl, by decide⟩
theorem D_mo_find_73 : Dc M_mo_find 73 (.iconst 0) 1 74 := ⟨by decide +kernel, rfl⟩
theorem D_mo_find_74 : Dc M_mo_find 74 (.istore_n 2) 1 75 := ⟨by decide +kernel, rfl⟩
theorem D_mo_find_75 : Dc M_mo_find 75 (.iconst 0) 1 76 := ⟨by decide +kernel, rfl⟩
theorem D_mo_find_76 : Dc M_mo_find 76 (.istore_n 3) 1 77 := ⟨by decide +kernel, rfl⟩
theorem D_mo_find_77 : Dc M_mo_find 77 (.iload_n 3) 1 78 := ⟨by decide +kernel, rfl⟩
theorem D_mo_find_78 : Dc M_mo_find 78 (.iload_n 1) 1 79 := ⟨by decide +kernel, rfl⟩
theorem D_mo_find_79 : Dj M_mo_find 79 (.if_icmp .ge) 82 107 := ⟨28, by decide +kernel, rfl, by decide⟩
theorem D_mo_find_82 : Dc M_mo_find 82 (.aload_n 0) 1 83 := ⟨by decide +kernel, rfl⟩
theorem D_mo_find_83 : Dg M_mo_find 83 86 6 11 R_mo T_mo 21 := ⟨32, by decide +kernel, rfl, rfl, by decide, fl_mo_32, in_mo⟩
theorem D_mo_find_86 : Dc M_mo_find 86 (.iload_n 3) 1 87 := ⟨by decide +kernel, rfl⟩
theorem D_mo_find_87 : Dc M_mo_find 87 (.iaload) 1 88 := ⟨by decide +kernel, rfl⟩
theorem D_mo_find_88 : Dj M_mo_find 88 (.ifCond .ne) 91 101 := ⟨13, by decide +kernel, rfl, by decide⟩
theorem D_mo_find_91 : Dc M_mo_find 91 (.aload_n 0) 1 92 := ⟨by decide +kernel, rfl⟩
theorem D_mo_find_92 : Dg M_mo_find 92 95 6 12 R_mo T_mo 21 := ⟨35, by decide +kernel, rfl, rfl, by decide, fl_mo_35, in_mo⟩
theorem D_mo_find_95 : Dc M_mo_find 95 (.iload_n 2) 1 96 := ⟨by decide +kernel, rfl⟩
theorem D_mo_find_96 : Dc M_mo_find 96 (.iload_n 3) 1 97 := ⟨by decide +kernel, rfl⟩
theorem D_mo_find_97 : Dc M_mo_find 97 (.iastore) 1 98 := ⟨by decide +kernel, rfl⟩
theorem D_mo_find_98 : Dc M_mo_find 98 (.iinc 2 1) 3 101 := ⟨by decide +kernel, rfl⟩
theorem D_mo_find_101 : Dc M_mo_find 101 (.iinc 3 1) 3 104 := ⟨by decide +kernel, rfl⟩
theorem D_mo_find_104 : Dj M_mo_find 104 (.goto) 107 77 := ⟨(-27), by decide +kernel, rfl, by decide⟩
theorem D_mo_find_107 : Dc M_mo_find 107 (.iconst 0) 1 108 := ⟨by decide +kernel, rfl⟩
theorem D_mo_find_108 : Dc M_mo_find 108 (.istore_n 3) 1 109 := ⟨by decide +kernel, rfl⟩
theorem D_mo_find_109 : Dc M_mo_find 109 (.iload_n 3) 1 110 := ⟨by decide +kernel, rfl⟩
theorem D_mo_find_110 : Dc M_mo_find 110 (.iload_n 2) 1 111 := ⟨by decide +kernel, rfl⟩
theorem D_mo_find_111 : Dj M_mo_find 111 (.if_icmp .ge) 114 164 := ⟨53, by decide +kernel, rfl, by decide⟩
theorem D_mo_find_114 : Dc M_mo_find 114 (.aload_n 0) 1 115 := ⟨by decide +kernel, rfl⟩
theorem D_mo_find_115 : Dc M_mo_find 115 (.aload_n 0) 1 116 := ⟨by decide +kernel, rfl⟩
theorem D_mo_find_116 : Dg M_mo_find 116 119 6 12 R_mo T_mo 21 := ⟨35, by decide +kernel, rfl, rfl, by decide, fl_mo_35, in_mo⟩
theorem D_mo_find_119 : Dc M_mo_find 119 (.iload_n 3) 1 120 := ⟨by decide +kernel, rfl⟩
theorem D_mo_find_120 : Dc M_mo_find 120 (.iaload) 1 121 := ⟨by decide +kernel, rfl⟩
theorem D_mo_find_121 : DcV M_mo_find M_mo_next 121 124 := ⟨77, by decide +kernel, rfl, ml_mo_77, by decide, by decide⟩
theorem D_mo_find_124 : Dc M_mo_find 124 (.istore 4) 2 126 := ⟨by decide +kernel, rfl⟩
theorem D_mo_find_126 : Dc M_mo_find 126 (.aload_n 0) 1 127 := ⟨by decide +kernel, rfl⟩
theorem D_mo_find_127 : Dg M_mo_find 127 130 6 11 R_mo T_mo 21 := ⟨32, by decide +kernel, rfl, rfl, by decide, fl_mo_32, in_mo⟩
theorem D_mo_find_130 : Dc M_mo_find 130 (.iload 4) 2 132 := ⟨by decide +kernel, rfl⟩
theorem D_mo_find_132 : Dc M_mo_find 132 (.dup2) 1 133 := ⟨by decide +kernel, rfl⟩
theorem D_mo_find_133 : Dc M_mo_find 133 (.iaload) 1 134 := ⟨by decide +kernel, rfl⟩
theorem D_mo_find_134 : Dc M_mo_find 134 (.iconst 1) 1 135 := ⟨by decide +kernel, rfl⟩
theorem D_mo_find_135 : Dc M_mo_find 135 (.isub) 1 136 := ⟨by decide +kernel, rfl⟩
theorem D_mo_find_136 : Dc M_mo_find 136 (.iastore) 1 137 := ⟨by decide +kernel, rfl⟩
theorem D_mo_find_137 : Dc M_mo_find 137 (.aload_n 0) 1 138 := ⟨by decide +kernel, rfl⟩
theorem D_mo_find_138 : Dg M_mo_find 138 141 6 11 R_mo T_mo 21 := ⟨32, by decide +kernel, rfl, rfl, by decide, fl_mo_32, in_mo⟩
theorem D_mo_find_141 : Dc M_mo_find 141 (.iload 4) 2 143 := ⟨by decide +kernel, rfl⟩
theorem D_mo_find_143 : Dc M_mo_find 143 (.iaload) 1 144 := ⟨by decide +kernel, rfl⟩
theorem D_mo_find_144 : Dj M_mo_find 144 (.ifCond .ne) 147 158 := ⟨14, by decide +kernel, rfl, by decide⟩
theorem D_mo_find_147 : Dc M_mo_find 147 (.aload_n 0) 1 148 := ⟨by decide +kernel, rfl⟩
theorem D_mo_find_148 : Dg M_mo_find 148 151 6 12 R_mo T_mo 21 := ⟨35, by decide +kernel, rfl, rfl, by decide, fl_mo_35, in_mo⟩
theorem D_mo_find_151 : Dc M_mo_find 151 (.iload_n 2) 1 152 := ⟨by decide +kernel, rfl⟩
theorem D_mo_find_152 : Dc M_mo_find 152 (.iload 4) 2 154 := ⟨by decide +kernel, rfl⟩
theorem D_mo_find_154 : Dc M_mo_find 154 (.iastore) 1 155 := ⟨by decide +kernel, rfl⟩
theorem D_mo_find_155 : Dc M_mo_find 155 (.iinc 2 1) 3 158 := ⟨by decide +kernel, rfl⟩
theorem D_mo_find_158 : Dc M_mo_find 158 (.iinc 3 1) 3 161 := ⟨by decide +kernel, rfl⟩
theorem D_mo_find_161 : Dj M_mo_find 161 (.goto) 164 109 := ⟨(-52), by decide +kernel, rfl, by decide⟩
theorem D_mo_find_164 : Dc M_mo_find 164 (.aload_n 0) 1 165 := ⟨by decide +kernel, rfl⟩
theorem D_mo_find_165 : Dc M_mo_find 165 (.iconst 0) 1 166 := ⟨by decide +kernel, rfl⟩
theorem fl_mo_81 : Cond.fieldLink R_mo 81 (T_mo 5).1 (T_mo 5).2.1 (T_mo 5).2.2.1 ∈ gtb := mem_g 670 (by decide +kernel) rfl
theorem D_mo_find_166 : Dp M_mo_find 166 169 6 5 R_mo T_mo 21 := ⟨81, by decide +kernel, rfl, rfl, by decide, fl_mo_81, in_mo, rfl⟩
theorem D_mo_find_169 : Dc M_mo_find 169 (.iconst 0) 1 170 := ⟨by decide +kernel, rfl⟩
theorem D_mo_find_170 : Dc M_mo_find 170 (.istore_n 3) 1 171 := ⟨by decide +kernel, rfl⟩
theorem D_mo_find_171 : Dc M_mo_find 171 (.iload_n 3) 1 172 := ⟨by decide +kernel, rfl⟩
theorem D_mo_find_172 : Dc M_mo_find 172 (.iload_n 1) 1 173 := ⟨by decide +kernel, rfl⟩
theorem D_mo_find_173 : Dj M_mo_find 173 (.if_icmp .ge) 176 296 := ⟨123, by decide +kernel, rfl, by decide⟩
theorem D_mo_find_176 : Dc M_mo_find 176 (.aload_n 0) 1 177 := ⟨by decide +kernel, rfl⟩
theorem D_mo_find_177 : Dg M_mo_find 177 180 6 11 R_mo T_mo 21 := ⟨32, by decide +kernel, rfl, rfl, by decide, fl_mo_32, in_mo⟩
theorem D_mo_find_180 : Dc M_mo_find 180 (.iload_n 3) 1 181 := ⟨by decide +kernel, rfl⟩
theorem D_mo_find_181 : Dc M_mo_find 181 (.iaload) 1 182 := ⟨by decide +kernel, rfl⟩
theorem D_mo_find_182 : Dj M_mo_find 182 (.ifCond .eq) 185 290 := ⟨108, by decide +kernel, rfl, by decide⟩
theorem D_mo_find_185 : Dc M_mo_find 185 (.aload_n 0) 1 186 := ⟨by decide +kernel, rfl⟩
theorem D_mo_find_186 : Dg M_mo_find 186 189 6 8 R_mo T_mo 21 := ⟨23, by decide +kernel, rfl, rfl, by decide, fl_mo_23, in_mo⟩
theorem D_mo_find_189 : Dc M_mo_find 189 (.iload_n 3) 1 190 := ⟨by decide +kernel, rfl⟩
theorem D_mo_find_190 : Dc M_mo_find 190 (.iaload) 1 191 := ⟨by decide +kernel, rfl⟩
theorem D_mo_find_191 : Dc M_mo_find 191 (.bipush (-9)) 2 193 := ⟨by decide +kernel, rfl⟩
theorem D_mo_find_193 : Dj M_mo_find 193 (.if_icmp .eq) 196 199 := ⟨6, by decide +kernel, rfl, by decide⟩
theorem D_mo_find_196 : Dj M_mo_find 196 (.goto) 199 290 := ⟨94, by decide +kernel, rfl, by decide⟩
theorem D_mo_find_199 : Dc M_mo_find 199 (.iconst 0) 1 200 := ⟨by decide +kernel, rfl⟩
theorem D_mo_find_200 : Dc M_mo_find 200 (.istore 4) 2 202 := ⟨by decide +kernel, rfl⟩
theorem D_mo_find_202 : Dc M_mo_find 202 (.iload_n 3) 1 203 := ⟨by decide +kernel, rfl⟩
theorem D_mo_find_203 : Dc M_mo_find 203 (.istore 5) 2 205 := ⟨by decide +kernel, rfl⟩
theorem D_mo_find_205 : Dc M_mo_find 205 (.aload_n 0) 1 206 := ⟨by decide +kernel, rfl⟩
theorem D_mo_find_206 : Dg M_mo_find 206 209 6 8 R_mo T_mo 21 := ⟨23, by decide +kernel, rfl, rfl, by decide, fl_mo_23, in_mo⟩
theorem D_mo_find_209 : Dc M_mo_find 209 (.iload 5) 2 211 := ⟨by decide +kernel, rfl⟩
theorem D_mo_find_211 : Dc M_mo_find 211 (.iaload) 1 212 := ⟨by decide +kernel, rfl⟩
theorem D_mo_find_212 : Dc M_mo_find 212 (.bipush (-9)) 2 214 := ⟨by decide +kernel, rfl⟩
theorem D_mo_find_214 : Dj M_mo_find 214 (.if_icmp .ne) 217 259 := ⟨45, by decide +kernel, rfl, by decide⟩
theorem D_mo_find_217 : Dc M_mo_find 217 (.aload_n 0) 1 218 := ⟨by decide +kernel, rfl⟩
theorem D_mo_find_218 : Dg M_mo_find 218 221 6 8 R_mo T_mo 21 := ⟨23, by decide +kernel, rfl, rfl, by decide, fl_mo_23, in_mo⟩
theorem D_mo_find_221 : Dc M_mo_find 221 (.iload 5) 2 223 := ⟨by decide +kernel, rfl⟩
theorem D_mo_find_223 : Dc M_mo_find 223 (.aload_n 0) 1 224 := ⟨by decide +kernel, rfl⟩
theorem D_mo_find_224 : Dg M_mo_find 224 227 6 5 R_mo T_mo 21 := ⟨81, by decide +kernel, rfl, rfl, by decide, fl_mo_81, in_mo⟩
theorem D_mo_find_227 : Dc M_mo_find 227 (.iastore) 1 228 := ⟨by decide +kernel, rfl⟩
theorem D_mo_find_228 : Dc M_mo_find 228 (.aload_n 0) 1 229 := ⟨by decide +kernel, rfl⟩
theorem D_mo_find_229 : Dg M_mo_find 229 232 6 10 R_mo T_mo 21 := ⟨29, by decide +kernel, rfl, rfl, by decide, fl_mo_29, in_mo⟩
theorem D_mo_find_232 : Dc M_mo_find 232 (.iload 5) 2 234 := ⟨by decide +kernel, rfl⟩
theorem D_mo_find_234 : Dc M_mo_find 234 (.iload 4) 2 236 := ⟨by decide +kernel, rfl⟩
theorem D_mo_find_236 : Dc M_mo_find 236 (.iastore) 1 237 := ⟨by decide +kernel, rfl⟩
theorem D_mo_find_237 : Dc M_mo_find 237 (.aload_n 0) 1 238 := ⟨by decide +kernel, rfl⟩
theorem D_mo_find_238 : Dg M_mo_find 238 241 6 9 R_mo T_mo 21 := ⟨26, by decide +kernel, rfl, rfl, by decide, fl_mo_26, in_mo⟩
theorem D_mo_find_241 : Dc M_mo_find 241 (.iload 5) 2 243 := ⟨by decide +kernel, rfl⟩
theorem D_mo_find_243 : Dc M_mo_find 243 (.iconst 0) 1 244 := ⟨by decide +kernel, rfl⟩
theorem D_mo_find_244 : Dc M_mo_find 244 (.iastore) 1 245 := ⟨by decide +kernel, rfl⟩
theorem D_mo_find_245 : Dc M_mo_find 245 (.iinc 4 1) 3 248 := ⟨by decide +kernel, rfl⟩
theorem D_mo_find_248 : Dc M_mo_find 248 (.aload_n 0) 1 249 := ⟨by decide +kernel, rfl⟩
theorem D_mo_find_249 : Dc M_mo_find 249 (.iload 5) 2 251 := ⟨by decide +kernel, rfl⟩
theorem D_mo_find_251 : DcV M_mo_find M_mo_next 251 254 := ⟨77, by decide +kernel, rfl, ml_mo_77, by decide, by decide⟩
theorem D_mo_find_254 : Dc M_mo_find 254 (.istore 5) 2 256 := ⟨by decide +kernel, rfl⟩
theorem D_mo_find_256 : Dj M_mo_find 256 (.goto) 259 205 := ⟨(-51), by decide +kernel, rfl, by decide⟩
theorem D_mo_find_259 : Dc M_mo_find 259 (.aload_n 0) 1 260 := ⟨by decide +kernel, rfl⟩
theorem D_mo_find_260 : Dg M_mo_find 260 263 6 6 R_mo T_mo 21 := ⟨17, by decide +kernel, rfl, rfl, by decide, fl_mo_17, in_mo⟩
theorem D_mo_find_263 : Dc M_mo_find 263 (.aload_n 0) 1 264 := ⟨by decide +kernel, rfl⟩
theorem D_mo_find_264 : Dg M_mo_find 264 267 6 5 R_mo T_mo 21 := ⟨81, by decide +kernel, rfl, rfl, by decide, fl_mo_81, in_mo⟩
theorem D_mo_find_267 : Dc M_mo_find 267 (.iload_n 3) 1 268 := ⟨by decide +kernel, rfl⟩
theorem D_mo_find_268 : Dc M_mo_find 268 (.iastore) 1 269 := ⟨by decide +kernel, rfl⟩
theorem D_mo_find_269 : Dc M_mo_find 269 (.aload_n 0) 1 270 := ⟨by decide +kernel, rfl⟩
theorem D_mo_find_270 : Dg M_mo_find 270 273 6 7 R_mo T_mo 21 := ⟨20, by decide +kernel, rfl, rfl, by decide, fl_mo_20, in_mo⟩
theorem D_mo_find_273 : Dc M_mo_find 273 (.aload_n 0) 1 274 := ⟨by decide +kernel, rfl⟩
theorem D_mo_find_274 : Dg M_mo_find 274 277 6 5 R_mo T_mo 21 := ⟨81, by decide +kernel, rfl, rfl, by decide, fl_mo_81, in_mo⟩
theorem D_mo_find_277 : Dc M_mo_find 277 (.iload 4) 2 279 := ⟨by decide +kernel, rfl⟩
theorem D_mo_find_279 : Dc M_mo_find 279 (.iastore) 1 280 := ⟨by decide +kernel, rfl⟩
theorem D_mo_find_280 : Dc M_mo_find 280 (.aload_n 0) 1 281 := ⟨by decide +kernel, rfl⟩
theorem D_mo_find_281 : Dc M_mo_find 281 (.dup) 1 282 := ⟨by decide +kernel, rfl⟩
theorem D_mo_find_282 : Dg M_mo_find 282 285 6 5 R_mo T_mo 21 := ⟨81, by decide +kernel, rfl, rfl, by decide, fl_mo_81, in_mo⟩
theorem D_mo_find_285 : Dc M_mo_find 285 (.iconst 1) 1 286 := ⟨by decide +kernel, rfl⟩
theorem D_mo_find_286 : Dc M_mo_find 286 (.iadd) 1 287 := ⟨by decide +kernel, rfl⟩
theorem D_mo_find_287 : Dp M_mo_find 287 290 6 5 R_mo T_mo 21 := ⟨81, by decide +kernel, rfl, rfl, by decide, fl_mo_81, in_mo, rfl⟩
theorem D_mo_find_290 : Dc M_mo_find 290 (.iinc 3 1) 3 293 := ⟨by decide +kernel, rfl⟩
theorem D_mo_find_293 : Dj M_mo_find 293 (.goto) 296 171 := ⟨(-122), by decide +kernel, rfl, by decide⟩
theorem D_mo_find_296 : Dc M_mo_find 296 (.iload_n 2) 1 297 := ⟨by decide +kernel, rfl⟩
theorem D_mo_find_297 : Dc M_mo_find 297 (.iconst 1) 1 298 := ⟨by decide +kernel, rfl⟩
theorem D_mo_find_298 : Dc M_mo_find 298 (.isub) 1 299 := ⟨by decide +kernel, rfl⟩
theorem D_mo_find_299 : Dc M_mo_find 299 (.istore_n 3) 1 300 := ⟨by decide +kernel, rfl⟩
theorem D_mo_find_300 : Dc M_mo_find 300 (.iload_n 3) 1 301 := ⟨by decide +kernel, rfl⟩
theorem D_mo_find_301 : Dj M_mo_find 301 (.ifCond .lt) 304 370 := ⟨69, by decide +kernel, rfl, by decide⟩
theorem D_mo_find_304 : Dc M_mo_find 304 (.aload_n 0) 1 305 := ⟨by decide +kernel, rfl⟩
theorem D_mo_find_305 : Dg M_mo_find 305 308 6 12 R_mo T_mo 21 := ⟨35, by decide +kernel, rfl, rfl, by decide, fl_mo_35, in_mo⟩
theorem D_mo_find_308 : Dc M_mo_find 308 (.iload_n 3) 1 309 := ⟨by decide +kernel, rfl⟩
theorem D_mo_find_309 : Dc M_mo_find 309 (.iaload) 1 310 := ⟨by decide +kernel, rfl⟩
theorem D_mo_find_310 : Dc M_mo_find 310 (.istore 4) 2 312 := ⟨by decide +kernel, rfl⟩
theorem D_mo_find_312 : Dc M_mo_find 312 (.aload_n 0) 1 313 := ⟨by decide +kernel, rfl⟩
theorem D_mo_find_313 : Dc M_mo_find 313 (.iload 4) 2 315 := ⟨by decide +kernel, rfl⟩
theorem D_mo_find_315 : DcV M_mo_find M_mo_next 315 318 := ⟨77, by decide +kernel, rfl, ml_mo_77, by decide, by decide⟩
theorem D_mo_find_318 : Dc M_mo_find 318 (.istore 5) 2 320 := ⟨by decide +kernel, rfl⟩
theorem D_mo_find_320 : Dc M_mo_find 320 (.aload_n 0) 1 321 := ⟨by decide +kernel, rfl⟩
theorem D_mo_find_321 : Dg M_mo_find 321 324 6 8 R_mo T_mo 21 := ⟨23, by decide +kernel, rfl, rfl, by decide, fl_mo_23, in_mo⟩
theorem D_mo_find_324 : Dc M_mo_find 324 (.iload 4) 2 326 := ⟨by decide +kernel, rfl⟩
theorem D_mo_find_326 : Dc M_mo_find 326 (.aload_n 0) 1 327 := ⟨by decide +kernel, rfl⟩
theorem D_mo_find_327 : Dg M_mo_find 327 330 6 8 R_mo T_mo 21 := ⟨23, by decide +kernel, rfl, rfl, by decide, fl_mo_23, in_mo⟩
theorem D_mo_find_330 : Dc M_mo_find 330 (.iload 5) 2 332 := ⟨by decide +kernel, rfl⟩
theorem D_mo_find_332 : Dc M_mo_find 332 (.iaload) 1 333 := ⟨by decide +kernel, rfl⟩
theorem D_mo_find_333 : Dc M_mo_find 333 (.iastore) 1 334 := ⟨by decide +kernel, rfl⟩
theorem D_mo_find_334 : Dc M_mo_find 334 (.aload_n 0) 1 335 := ⟨by decide +kernel, rfl⟩
theorem D_mo_find_335 : Dg M_mo_find 335 338 6 10 R_mo T_mo 21 := ⟨29, by decide +kernel, rfl, rfl, by decide, fl_mo_29, in_mo⟩
theorem D_mo_find_338 : Dc M_mo_find 338 (.iload 4) 2 340 := ⟨by decide +kernel, rfl⟩
theorem D_mo_find_340 : Dc M_mo_find 340 (.aload_n 0) 1 341 := ⟨by decide +kernel, rfl⟩
theorem D_mo_find_341 : Dg M_mo_find 341 344 6 10 R_mo T_mo 21 := ⟨29, by decide +kernel, rfl, rfl, by decide, fl_mo_29, in_mo⟩
theorem D_mo_find_344 : Dc M_mo_find 344 (.iload 5) 2 346 := ⟨by decide +kernel, rfl⟩
theorem D_mo_find_346 : Dc M_mo_find 346 (.iaload) 1 347 := ⟨by decide +kernel, rfl⟩
theorem D_mo_find_347 : Dc M_mo_find 347 (.iastore) 1 348 := ⟨by decide +kernel, rfl⟩
theorem D_mo_find_348 : Dc M_mo_find 348 (.aload_n 0) 1 349 := ⟨by decide +kernel, rfl⟩
theorem D_mo_find_349 : Dg M_mo_find 349 352 6 9 R_mo T_mo 21 := ⟨26, by decide +kernel, rfl, rfl, by decide, fl_mo_26, in_mo⟩
theorem D_mo_find_352 : Dc M_mo_find 352 (.iload 4) 2 354 := ⟨by decide +kernel, rfl⟩
theorem D_mo_find_354 : Dc M_mo_find 354 (.aload_n 0) 1 355 := ⟨by decide +kernel, rfl⟩
theorem D_mo_find_355 : Dg M_mo_find 355 358 6 9 R_mo T_mo 21 := ⟨26, by decide +kernel, rfl, rfl, by decide, fl_mo_26, in_mo⟩
theorem D_mo_find_358 : Dc M_mo_find 358 (.iload 5) 2 360 := ⟨by decide +kernel, rfl⟩
theorem D_mo_find_360 : Dc M_mo_find 360 (.iaload) 1 361 := ⟨by decide +kernel, rfl⟩
theorem D_mo_find_361 : Dc M_mo_find 361 (.iconst 1) 1 362 := ⟨by decide +kernel, rfl⟩
theorem D_mo_find_362 : Dc M_mo_find 362 (.iadd) 1 363 := ⟨by decide +kernel, rfl⟩
theorem D_mo_find_363 : Dc M_mo_find 363 (.iastore) 1 364 := ⟨by decide +kernel, rfl⟩
theorem D_mo_find_364 : Dc M_mo_find 364 (.iinc 3 (-1)) 3 367 := ⟨by decide +kernel, rfl⟩
theorem D_mo_find_367 : Dj M_mo_find 367 (.goto) 370 300 := ⟨(-67), by decide +kernel, rfl, by decide⟩
theorem D_mo_find_370 : Dc M_mo_find 370 (.return_) 1 371 := ⟨by decide +kernel, rfl⟩
theorem D_mo_length_0 : Dc M_mo_length 0 (.iload_n 1) 1 1 := ⟨by decide +kernel, rfl⟩
theorem D_mo_length_1 : Dc M_mo_length 1 (.i2l) 1 2 := ⟨by decide +kernel, rfl⟩
theorem D_mo_length_2 : Dl M_mo_length 2 5 (lN 2) := ⟨84, by decide +kernel, rfl, by decide +kernel⟩
theorem D_mo_length_5 : Dl M_mo_length 5 8 (lN 9) := ⟨86, by decide +kernel, rfl, by decide +kernel⟩
theorem ml_mo_88 : Cond.methodLink R_mo 88 M_mo_within.1 ∈ gtb := mem_g 736 (by decide +kernel) rfl
theorem D_mo_length_8 : DcS M_mo_length M_mo_within 8 11 := ⟨88, by decide +kernel, rfl, ml_mo_88, by decide, by decide⟩
theorem D_mo_length_11 : Dj M_mo_length 11 (.ifCond .ne) 14 17 := ⟨6, by decide +kernel, rfl, by decide⟩
theorem D_mo_length_14 : Dc M_mo_length 14 (.bipush (-2)) 2 16 := ⟨by decide +kernel, rfl⟩
theorem D_mo_length_16 : Dc M_mo_length 16 (.ireturn) 1 17 := ⟨by decide +kernel, rfl⟩
theorem D_mo_length_17 : Dc M_mo_length 17 (.aload_n 0) 1 18 := ⟨by decide +kernel, rfl⟩
theorem D_mo_length_18 : Dg M_mo_length 18 21 6 2 R_mo T_mo 21 := ⟨7, by decide +kernel, rfl, rfl, by decide, fl_mo_7, in_mo⟩
theorem D_mo_length_21 : Dc M_mo_length 21 (.istore_n 2) 1 22 := ⟨by decide +kernel, rfl⟩
theorem D_mo_length_22 : Dc M_mo_length 22 (.aload_n 0) 1 23 := ⟨by decide +kernel, rfl⟩
theorem D_mo_length_23 : Dc M_mo_length 23 (.iload_n 1) 1 24 := ⟨by decide +kernel, rfl⟩
theorem D_mo_length_24 : Dp M_mo_length 24 27 6 2 R_mo T_mo 21 := ⟨7, by decide +kernel, rfl, rfl, by decide, fl_mo_7, in_mo, rfl⟩
theorem D_mo_length_27 : Dc M_mo_length 27 (.iconst 0) 1 28 := ⟨by decide +kernel, rfl⟩
theorem D_mo_length_28 : Dc M_mo_length 28 (.istore_n 3) 1 29 := ⟨by decide +kernel, rfl⟩
theorem D_mo_length_29 : Dc M_mo_length 29 (.iload_n 3) 1 30 := ⟨by decide +kernel, rfl⟩
theorem D_mo_length_30 : Dc M_mo_length 30 (.sipush 512) 3 33 := ⟨by decide +kernel, rfl⟩
theorem D_mo_length_33 : Dj M_mo_length 33 (.if_icmp .ge) 36 49 := ⟨16, by decide +kernel, rfl, by decide⟩
theorem D_mo_length_36 : Dc M_mo_length 36 (.aload_n 0) 1 37 := ⟨by decide +kernel, rfl⟩
theorem D_mo_length_37 : Dg M_mo_length 37 40 6 3 R_mo T_mo 21 := ⟨13, by decide +kernel, rfl, rfl, by decide, fl_mo_13, in_mo⟩
theorem D_mo_length_40 : Dc M_mo_length 40 (.iload_n 3) 1 41 := ⟨by decide +kernel, rfl⟩
theorem D_mo_length_41 : Dc M_mo_length 41 (.iconst 0) 1 42 := ⟨by decide +kernel, rfl⟩
theorem D_mo_length_42 : Dc M_mo_length 42 (.iastore) 1 43 := ⟨by decide +kernel, rfl⟩
theorem D_mo_length_43 : Dc M_mo_length 43 (.iinc 3 1) 3 46 := ⟨by decide +kernel, rfl⟩
theorem D_mo_length_46 : Dj M_mo_length 46 (.goto) 49 29 := ⟨(-17), by decide +kernel, rfl, by decide⟩
theorem D_mo_length_49 : Dc M_mo_length 49 (.aload_n 0) 1 50 := ⟨by decide +kernel, rfl⟩
theorem D_mo_length_50 : Dc M_mo_length 50 (.iconst 0) 1 51 := ⟨by decide +kernel, rfl⟩
theorem D_mo_length_51 : Dp M_mo_length 51 54 6 4 R_mo T_mo 21 := ⟨73, by decide +kernel, rfl, rfl, by decide, fl_mo_73, in_mo, rfl⟩
theorem D_mo_length_54 : Dc M_mo_length 54 (.iload_n 2) 1 55 := ⟨by decide +kernel, rfl⟩
theorem D_mo_length_55 : Dc M_mo_length 55 (.ireturn) 1 56 := ⟨by decide +kernel, rfl⟩
theorem D_mo_set_0 : Dc M_mo_set 0 (.aload_n 0) 1 1 := ⟨by decide +kernel, rfl⟩
theorem D_mo_set_1 : Dc M_mo_set 1 (.iload_n 1) 1 2 := ⟨by decide +kernel, rfl⟩
theorem ml_mo_92 : Cond.methodLink R_mo 92 M_mo_isState.1 ∈ gtb := mem_g 743 (by decide +kernel) rfl
theorem D_mo_set_2 : DcV M_mo_set M_mo_isState 2 5 := ⟨92, by decide +kernel, rfl, ml_mo_92, by decide, by decide⟩
theorem D_mo_set_5 : Dj M_mo_set 5 (.ifCond .ne) 8 10 := ⟨5, by decide +kernel, rfl, by decide⟩
theorem D_mo_set_8 : Dc M_mo_set 8 (.iconst (-1)) 1 9 := ⟨by decide +kernel, rfl⟩
theorem D_mo_set_9 : Dc M_mo_set 9 (.ireturn) 1 10 := ⟨by decide +kernel, rfl⟩
theorem D_mo_set_10 : Dc M_mo_set 10 (.iload_n 2) 1 11 := ⟨by decide +kernel, rfl⟩
theorem D_mo_set_11 : Dc M_mo_set 11 (.i2l) 1 12 := ⟨by decide +kernel, rfl⟩
theorem D_mo_set_12 : Dc M_mo_set 12 (.lconst 0) 1 13 := ⟨by decide +kernel, rfl⟩
theorem D_mo_set_13 : Dc M_mo_set 13 (.lconst 1) 1 14 := ⟨by decide +kernel, rfl⟩
theorem D_mo_set_14 : DcS M_mo_set M_mo_within 14 17 := ⟨88, by decide +kernel, rfl, ml_mo_88, by decide, by decide⟩
theorem D_mo_set_17 : Dj M_mo_set 17 (.ifCond .ne) 20 23 := ⟨6, by decide +kernel, rfl, by decide⟩
theorem D_mo_set_20 : Dc M_mo_set 20 (.bipush (-2)) 2 22 := ⟨by decide +kernel, rfl⟩
theorem D_mo_set_22 : Dc M_mo_set 22 (.ireturn) 1 23 := ⟨by decide +kernel, rfl⟩
theorem D_mo_set_23 : Dc M_mo_set 23 (.aload_n 0) 1 24 := ⟨by decide +kernel, rfl⟩
theorem D_mo_set_24 : Dg M_mo_set 24 27 6 3 R_mo T_mo 21 := ⟨13, by decide +kernel, rfl, rfl, by decide, fl_mo_13, in_mo⟩
theorem D_mo_set_27 : Dc M_mo_set 27 (.iload_n 1) 1 28 := ⟨by decide +kernel, rfl⟩
theorem D_mo_set_28 : Dc M_mo_set 28 (.iaload) 1 29 := ⟨by decide +kernel, rfl⟩
theorem D_mo_set_29 : Dc M_mo_set 29 (.istore_n 3) 1 30 := ⟨by decide +kernel, rfl⟩
theorem D_mo_set_30 : Dc M_mo_set 30 (.aload_n 0) 1 31 := ⟨by decide +kernel, rfl⟩
theorem D_mo_set_31 : Dg M_mo_set 31 34 6 3 R_mo T_mo 21 := ⟨13, by decide +kernel, rfl, rfl, by decide, fl_mo_13, in_mo⟩
theorem D_mo_set_34 : Dc M_mo_set 34 (.iload_n 1) 1 35 := ⟨by decide +kernel, rfl⟩
theorem D_mo_set_35 : Dc M_mo_set 35 (.iload_n 2) 1 36 := ⟨by decide +kernel, rfl⟩
theorem D_mo_set_36 : Dc M_mo_set 36 (.iastore) 1 37 := ⟨by decide +kernel, rfl⟩
theorem D_mo_set_37 : Dc M_mo_set 37 (.aload_n 0) 1 38 := ⟨by decide +kernel, rfl⟩
theorem D_mo_set_38 : Dc M_mo_set 38 (.iconst 0) 1 39 := ⟨by decide +kernel, rfl⟩
theorem D_mo_set_39 : Dp M_mo_set 39 42 6 4 R_mo T_mo 21 := ⟨73, by decide +kernel, rfl, rfl, by decide, fl_mo_73, in_mo, rfl⟩
theorem D_mo_set_42 : Dc M_mo_set 42 (.iload_n 3) 1 43 := ⟨by decide +kernel, rfl⟩
theorem D_mo_set_43 : Dc M_mo_set 43 (.ireturn) 1 44 := ⟨by decide +kernel, rfl⟩
theorem D_mo_ones_0 : Dc M_mo_ones 0 (.iconst 0) 1 1 := ⟨by decide +kernel, rfl⟩
theorem D_mo_ones_1 : Dc M_mo_ones 1 (.istore_n 1) 1 2 := ⟨by decide +kernel, rfl⟩
theorem D_mo_ones_2 : Dc M_mo_ones 2 (.iconst 0) 1 3 := ⟨by decide +kernel, rfl⟩
theorem D_mo_ones_3 : Dc M_mo_ones 3 (.istore_n 2) 1 4 := ⟨by decide +kernel, rfl⟩
theorem D_mo_ones_4 : Dc M_mo_ones 4 (.iload_n 2) 1 5 := ⟨by decide +kernel, rfl⟩
theorem D_mo_ones_5 : Dc M_mo_ones 5 (.aload_n 0) 1 6 := ⟨by decide +kernel, rfl⟩
theorem D_mo_ones_6 : DcV M_mo_ones M_mo_states 6 9 := ⟨69, by decide +kernel, rfl, ml_mo_69, by decide, by decide⟩
theorem D_mo_ones_9 : Dj M_mo_ones 9 (.if_icmp .ge) 12 27 := ⟨18, by decide +kernel, rfl, by decide⟩
theorem D_mo_ones_12 : Dc M_mo_ones 12 (.iload_n 1) 1 13 := ⟨by decide +kernel, rfl⟩
theorem D_mo_ones_13 : Dc M_mo_ones 13 (.aload_n 0) 1 14 := ⟨by decide +kernel, rfl⟩
theorem D_mo_ones_14 : Dg M_mo_ones 14 17 6 3 R_mo T_mo 21 := ⟨13, by decide +kernel, rfl, rfl, by decide, fl_mo_13, in_mo⟩
theorem D_mo_ones_17 : Dc M_mo_ones 17 (.iload_n 2) 1 18 := ⟨by decide +kernel, rfl⟩
theorem D_mo_ones_18 : Dc M_mo_ones 18 (.iaload) 1 19 := ⟨by decide +kernel, rfl⟩
theorem D_mo_ones_19 : Dc M_mo_ones 19 (.iadd) 1 20 := ⟨by decide +kernel, rfl⟩
theorem D_mo_ones_20 : Dc M_mo_ones 20 (.istore_n 1) 1 21 := ⟨by decide +kernel, rfl⟩
theorem D_mo_ones_21 : Dc M_mo_ones 21 (.iinc 2 1) 3 24 := ⟨by decide +kernel, rfl⟩
theorem D_mo_ones_24 : Dj M_mo_ones 24 (.goto) 27 4 := ⟨(-20), by decide +kernel, rfl, by decide⟩
theorem D_mo_ones_27 : Dc M_mo_ones 27 (.iload_n 1) 1 28 := ⟨by decide +kernel, rfl⟩
theorem D_mo_ones_28 : Dc M_mo_ones 28 (.ireturn) 1 29 := ⟨by decide +kernel, rfl⟩
theorem D_mo_linear_0 : Dc M_mo_linear 0 (.aload_n 0) 1 1 := ⟨by decide +kernel, rfl⟩
theorem D_mo_linear_1 : Dc M_mo_linear 1 (.iload_n 1) 1 2 := ⟨by decide +kernel, rfl⟩
theorem D_mo_linear_2 : DcV M_mo_linear M_mo_isState 2 5 := ⟨92, by decide +kernel, rfl, ml_mo_92, by decide, by decide⟩
theorem D_mo_linear_5 : Dj M_mo_linear 5 (.ifCond .eq) 8 18 := ⟨13, by decide +kernel, rfl, by decide⟩
theorem D_mo_linear_8 : Dc M_mo_linear 8 (.iload_n 2) 1 9 := ⟨by decide +kernel, rfl⟩
theorem D_mo_linear_9 : Dc M_mo_linear 9 (.i2l) 1 10 := ⟨by decide +kernel, rfl⟩
theorem D_mo_linear_10 : Dc M_mo_linear 10 (.lconst 0) 1 11 := ⟨by decide +kernel, rfl⟩
theorem D_mo_linear_11 : Dc M_mo_linear 11 (.lconst 1) 1 12 := ⟨by decide +kernel, rfl⟩
theorem D_mo_linear_12 : DcS M_mo_linear M_mo_within 12 15 := ⟨88, by decide +kernel, rfl, ml_mo_88, by decide, by decide⟩
theorem D_mo_linear_15 : Dj M_mo_linear 15 (.ifCond .ne) 18 21 := ⟨6, by decide +kernel, rfl, by decide⟩
theorem D_mo_linear_18 : Dc M_mo_linear 18 (.bipush (-2)) 2 20 := ⟨by decide +kernel, rfl⟩
theorem D_mo_linear_20 : Dc M_mo_linear 20 (.ireturn) 1 21 := ⟨by decide +kernel, rfl⟩
theorem D_mo_linear_21 : Dc M_mo_linear 21 (.iconst 0) 1 22 := ⟨by decide +kernel, rfl⟩
theorem D_mo_linear_22 : Dc M_mo_linear 22 (.istore_n 3) 1 23 := ⟨by decide +kernel, rfl⟩
theorem D_mo_linear_23 : Dc M_mo_linear 23 (.iload_n 3) 1 24 := ⟨by decide +kernel, rfl⟩
theorem D_mo_linear_24 : Dc M_mo_linear 24 (.aload_n 0) 1 25 := ⟨by decide +kernel, rfl⟩
theorem D_mo_linear_25 : DcV M_mo_linear M_mo_states 25 28 := ⟨69, by decide +kernel, rfl, ml_mo_69, by decide, by decide⟩
theorem D_mo_linear_28 : Dj M_mo_linear 28 (.if_icmp .ge) 31 79 := ⟨51, by decide +kernel, rfl, by decide⟩
theorem D_mo_linear_31 : Dc M_mo_linear 31 (.iload_n 2) 1 32 := ⟨by decide +kernel, rfl⟩
theorem D_mo_linear_32 : Dc M_mo_linear 32 (.istore 4) 2 34 := ⟨by decide +kernel, rfl⟩
theorem D_mo_linear_34 : Dc M_mo_linear 34 (.iconst 0) 1 35 := ⟨by decide +kernel, rfl⟩
theorem D_mo_linear_35 : Dc M_mo_linear 35 (.istore 5) 2 37 := ⟨by decide +kernel, rfl⟩
theorem D_mo_linear_37 : Dc M_mo_linear 37 (.iload 5) 2 39 := ⟨by decide +kernel, rfl⟩
theorem D_mo_linear_39 : Dc M_mo_linear 39 (.aload_n 0) 1 40 := ⟨by decide +kernel, rfl⟩
theorem D_mo_linear_40 : Dg M_mo_linear 40 43 6 2 R_mo T_mo 21 := ⟨7, by decide +kernel, rfl, rfl, by decide, fl_mo_7, in_mo⟩
theorem D_mo_linear_43 : Dj M_mo_linear 43 (.if_icmp .ge) 46 65 := ⟨22, by decide +kernel, rfl, by decide⟩
theorem D_mo_linear_46 : Dc M_mo_linear 46 (.iload 4) 2 48 := ⟨by decide +kernel, rfl⟩
theorem D_mo_linear_48 : Dc M_mo_linear 48 (.iload_n 3) 1 49 := ⟨by decide +kernel, rfl⟩
theorem D_mo_linear_49 : Dc M_mo_linear 49 (.iload_n 1) 1 50 := ⟨by decide +kernel, rfl⟩
theorem D_mo_linear_50 : Dc M_mo_linear 50 (.iand) 1 51 := ⟨by decide +kernel, rfl⟩
theorem D_mo_linear_51 : Dc M_mo_linear 51 (.iload 5) 2 53 := ⟨by decide +kernel, rfl⟩
theorem D_mo_linear_53 : Dc M_mo_linear 53 (.ishr) 1 54 := ⟨by decide +kernel, rfl⟩
theorem D_mo_linear_54 : Dc M_mo_linear 54 (.iconst 1) 1 55 := ⟨by decide +kernel, rfl⟩
theorem D_mo_linear_55 : Dc M_mo_linear 55 (.iand) 1 56 := ⟨by decide +kernel, rfl⟩
theorem D_mo_linear_56 : Dc M_mo_linear 56 (.ixor) 1 57 := ⟨by decide +kernel, rfl⟩
theorem D_mo_linear_57 : Dc M_mo_linear 57 (.istore 4) 2 59 := ⟨by decide +kernel, rfl⟩
theorem D_mo_linear_59 : Dc M_mo_linear 59 (.iinc 5 1) 3 62 := ⟨by decide +kernel, rfl⟩
theorem D_mo_linear_62 : Dj M_mo_linear 62 (.goto) 65 37 := ⟨(-25), by decide +kernel, rfl, by decide⟩
theorem D_mo_linear_65 : Dc M_mo_linear 65 (.aload_n 0) 1 66 := ⟨by decide +kernel, rfl⟩
theorem D_mo_linear_66 : Dg M_mo_linear 66 69 6 3 R_mo T_mo 21 := ⟨13, by decide +kernel, rfl, rfl, by decide, fl_mo_13, in_mo⟩
theorem D_mo_linear_69 : Dc M_mo_linear 69 (.iload_n 3) 1 70 := ⟨by decide +kernel, rfl⟩
theorem D_mo_linear_70 : Dc M_mo_linear 70 (.iload 4) 2 72 := ⟨by decide +kernel, rfl⟩
theorem D_mo_linear_72 : Dc M_mo_linear 72 (.iastore) 1 73 := ⟨by decide +kernel, rfl⟩
theorem D_mo_linear_73 : Dc M_mo_linear 73 (.iinc 3 1) 3 76 := ⟨by decide +kernel, rfl⟩
theorem D_mo_linear_76 : Dj M_mo_linear 76 (.goto) 79 23 := ⟨(-53), by decide +kernel, rfl, by decide⟩
theorem D_mo_linear_79 : Dc M_mo_linear 79 (.aload_n 0) 1 80 := ⟨by decide +kernel, rfl⟩
theorem D_mo_linear_80 : Dc M_mo_linear 80 (.iconst 0) 1 81 := ⟨by decide +kernel, rfl⟩
theorem D_mo_linear_81 : Dp M_mo_linear 81 84 6 4 R_mo T_mo 21 := ⟨73, by decide +kernel, rfl, rfl, by decide, fl_mo_73, in_mo, rfl⟩
theorem D_mo_linear_84 : Dc M_mo_linear 84 (.aload_n 0) 1 85 := ⟨by decide +kernel, rfl⟩
theorem ml_mo_96 : Cond.methodLink R_mo 96 M_mo_ones.1 ∈ gtb := mem_g 755 (by decide +kernel) rfl
theorem D_mo_linear_85 : DcV M_mo_linear M_mo_ones 85 88 := ⟨96, by decide +kernel, rfl, ml_mo_96, by decide, by decide⟩
theorem D_mo_linear_88 : Dc M_mo_linear 88 (.ireturn) 1 89 := ⟨by decide +kernel, rfl⟩
theorem D_mo_bit_0 : Dc M_mo_bit 0 (.aload_n 0) 1 1 := ⟨by decide +kernel, rfl⟩
theorem D_mo_bit_1 : Dg M_mo_bit 1 4 6 15 R_mo T_mo 21 := ⟨44, by decide +kernel, rfl, rfl, by decide, fl_mo_44, in_mo⟩
theorem D_mo_bit_4 : Dc M_mo_bit 4 (.sipush 600) 3 7 := ⟨by decide +kernel, rfl⟩
theorem D_mo_bit_7 : Dc M_mo_bit 7 (.iload_n 1) 1 8 := ⟨by decide +kernel, rfl⟩
theorem D_mo_bit_8 : Dc M_mo_bit 8 (.imul) 1 9 := ⟨by decide +kernel, rfl⟩
theorem D_mo_bit_9 : Dc M_mo_bit 9 (.iload_n 2) 1 10 := ⟨by decide +kernel, rfl⟩
theorem D_mo_bit_10 : Dc M_mo_bit 10 (.iadd) 1 11 := ⟨by decide +kernel, rfl⟩
theorem D_mo_bit_11 : Dc M_mo_bit 11 (.laload) 1 12 := ⟨by decide +kernel, rfl⟩
theorem D_mo_bit_12 : Dc M_mo_bit 12 (.lconst 1) 1 13 := ⟨by decide +kernel, rfl⟩
theorem D_mo_bit_13 : Dc M_mo_bit 13 (.land) 1 14 := ⟨by decide +kernel, rfl⟩
theorem D_mo_bit_14 : Dc M_mo_bit 14 (.l2i) 1 15 := ⟨by decide +kernel, rfl⟩
theorem D_mo_bit_15 : Dc M_mo_bit 15 (.ireturn) 1 16 := ⟨by decide +kernel, rfl⟩
theorem D_mo_isSheet_0 : Dc M_mo_isSheet 0 (.iload_n 0) 1 1 := ⟨by decide +kernel, rfl⟩
theorem D_mo_isSheet_1 : Dj M_mo_isSheet 1 (.ifCond .lt) 4 13 := ⟨12, by decide +kernel, rfl, by decide⟩
theorem D_mo_isSheet_4 : Dc M_mo_isSheet 4 (.iload_n 0) 1 5 := ⟨by decide +kernel, rfl⟩
theorem D_mo_isSheet_5 : Dc M_mo_isSheet 5 (.iconst 4) 1 6 := ⟨by decide +kernel, rfl⟩
theorem D_mo_isSheet_6 : Dj M_mo_isSheet 6 (.if_icmp .ge) 9 13 := ⟨7, by decide +kernel, rfl, by decide⟩
theorem D_mo_isSheet_9 : Dc M_mo_isSheet 9 (.iconst 1) 1 10 := ⟨by decide +kernel, rfl⟩
theorem D_mo_isSheet_10 : Dj M_mo_isSheet 10 (.goto) 13 14 := ⟨4, by decide +kernel, rfl, by decide⟩
theorem D_mo_isSheet_13 : Dc M_mo_isSheet 13 (.iconst 0) 1 14 := ⟨by decide +kernel, rfl⟩
theorem D_mo_isSheet_14 : Dc M_mo_isSheet 14 (.ireturn) 1 15 := ⟨by decide +kernel, rfl⟩
theorem D_mo_take_0 : Dc M_mo_take 0 (.aload_n 0) 1 1 := ⟨by decide +kernel, rfl⟩
theorem D_mo_take_1 : Dc M_mo_take 1 (.iconst 0) 1 2 := ⟨by decide +kernel, rfl⟩
theorem D_mo_take_2 : Dp M_mo_take 2 5 6 0 R_mo T_mo 21 := ⟨64, by decide +kernel, rfl, rfl, by decide, fl_mo_64, in_mo, rfl⟩
theorem D_mo_take_5 : Dc M_mo_take 5 (.iload_n 1) 1 6 := ⟨by decide +kernel, rfl⟩
theorem ml_mo_99 : Cond.methodLink R_mo 99 M_mo_isSheet.1 ∈ gtb := mem_g 763 (by decide +kernel) rfl
theorem D_mo_take_6 : DcS M_mo_take M_mo_isSheet 6 9 := ⟨99, by decide +kernel, rfl, ml_mo_99, by decide, by decide⟩
theorem D_mo_take_9 : Dj M_mo_take 9 (.ifCond .eq) 12 21 := ⟨12, by decide +kernel, rfl, by decide⟩
theorem D_mo_take_12 : Dc M_mo_take 12 (.aload_n 0) 1 13 := ⟨by decide +kernel, rfl⟩
theorem D_mo_take_13 : Dc M_mo_take 13 (.iload 5) 2 15 := ⟨by decide +kernel, rfl⟩
theorem D_mo_take_15 : DcV M_mo_take M_mo_isState 15 18 := ⟨92, by decide +kernel, rfl, ml_mo_92, by decide, by decide⟩
theorem D_mo_take_18 : Dj M_mo_take 18 (.ifCond .ne) 21 23 := ⟨5, by decide +kernel, rfl, by decide⟩
theorem D_mo_take_21 : Dc M_mo_take 21 (.iconst (-1)) 1 22 := ⟨by decide +kernel, rfl⟩
theorem D_mo_take_22 : Dc M_mo_take 22 (.ireturn) 1 23 := ⟨by decide +kernel, rfl⟩
theorem D_mo_take_23 : Dc M_mo_take 23 (.iload_n 2) 1 24 := ⟨by decide +kernel, rfl⟩
theorem D_mo_take_24 : Dc M_mo_take 24 (.i2l) 1 25 := ⟨by decide +kernel, rfl⟩
theorem D_mo_take_25 : Dc M_mo_take 25 (.lconst 0) 1 26 := ⟨by decide +kernel, rfl⟩
theorem D_mo_take_26 : Dl M_mo_take 26 29 (lN 2) := ⟨84, by decide +kernel, rfl, by decide +kernel⟩
theorem D_mo_take_29 : DcS M_mo_take M_mo_within 29 32 := ⟨88, by decide +kernel, rfl, ml_mo_88, by decide, by decide⟩
theorem D_mo_take_32 : Dj M_mo_take 32 (.ifCond .ne) 35 38 := ⟨6, by decide +kernel, rfl, by decide⟩
theorem D_mo_take_35 : Dc M_mo_take 35 (.bipush (-2)) 2 37 := ⟨by decide +kernel, rfl⟩
theorem D_mo_take_37 : Dc M_mo_take 37 (.ireturn) 1 38 := ⟨by decide +kernel, rfl⟩
theorem D_mo_take_38 : Dc M_mo_take 38 (.aload_n 0) 1 39 := ⟨by decide +kernel, rfl⟩
theorem D_mo_take_39 : Dg M_mo_take 39 42 6 13 R_mo T_mo 21 := ⟨38, by decide +kernel, rfl, rfl, by decide, fl_mo_38, in_mo⟩
theorem D_mo_take_42 : Dc M_mo_take 42 (.iload_n 1) 1 43 := ⟨by decide +kernel, rfl⟩
theorem D_mo_take_43 : Dc M_mo_take 43 (.iaload) 1 44 := ⟨by decide +kernel, rfl⟩
theorem D_mo_take_44 : Dc M_mo_take 44 (.bipush (-9)) 2 46 := ⟨by decide +kernel, rfl⟩
theorem D_mo_take_46 : Dj M_mo_take 46 (.if_icmp .eq) 49 65 := ⟨19, by decide +kernel, rfl, by decide⟩
theorem D_mo_take_49 : Dc M_mo_take 49 (.aload_n 0) 1 50 := ⟨by decide +kernel, rfl⟩
theorem D_mo_take_50 : Dg M_mo_take 50 53 6 13 R_mo T_mo 21 := ⟨38, by decide +kernel, rfl, rfl, by decide, fl_mo_38, in_mo⟩
theorem D_mo_take_53 : Dc M_mo_take 53 (.iload_n 1) 1 54 := ⟨by decide +kernel, rfl⟩
theorem D_mo_take_54 : Dc M_mo_take 54 (.iaload) 1 55 := ⟨by decide +kernel, rfl⟩
theorem D_mo_take_55 : Dc M_mo_take 55 (.iload_n 2) 1 56 := ⟨by decide +kernel, rfl⟩
theorem D_mo_take_56 : Dj M_mo_take 56 (.if_icmp .eq) 59 65 := ⟨9, by decide +kernel, rfl, by decide⟩
theorem D_mo_take_59 : Dc M_mo_take 59 (.aload_n 0) 1 60 := ⟨by decide +kernel, rfl⟩
theorem D_mo_take_60 : Dc M_mo_take 60 (.iconst 2) 1 61 := ⟨by decide +kernel, rfl⟩
theorem ml_mo_102 : Cond.methodLink R_mo 102 M_mo_fails.1 ∈ gtb := mem_g 766 (by decide +kernel) rfl
theorem D_mo_take_61 : DcV M_mo_take M_mo_fails 61 64 := ⟨102, by decide +kernel, rfl, ml_mo_102, by decide, by decide⟩
theorem D_mo_take_64 : Dc M_mo_take 64 (.ireturn) 1 65 := ⟨by decide +kernel, rfl⟩
theorem D_mo_take_65 : Dc M_mo_take 65 (.aload_n 0) 1 66 := ⟨by decide +kernel, rfl⟩
theorem D_mo_take_66 : Dg M_mo_take 66 69 6 13 R_mo T_mo 21 := ⟨38, by decide +kernel, rfl, rfl, by decide, fl_mo_38, in_mo⟩
theorem D_mo_take_69 : Dc M_mo_take 69 (.iload_n 1) 1 70 := ⟨by decide +kernel, rfl⟩
theorem D_mo_take_70 : Dc M_mo_take 70 (.iaload) 1 71 := ⟨by decide +kernel, rfl⟩
theorem D_mo_take_71 : Dc M_mo_take 71 (.bipush (-9)) 2 73 := ⟨by decide +kernel, rfl⟩
theorem D_mo_take_73 : Dj M_mo_take 73 (.if_icmp .ne) 76 82 := ⟨9, by decide +kernel, rfl, by decide⟩
theorem D_mo_take_76 : Dc M_mo_take 76 (.aload_n 0) 1 77 := ⟨by decide +kernel, rfl⟩
theorem D_mo_take_77 : Dc M_mo_take 77 (.iconst 1) 1 78 := ⟨by decide +kernel, rfl⟩
theorem D_mo_take_78 : DcV M_mo_take M_mo_fails 78 81 := ⟨102, by decide +kernel, rfl, ml_mo_102, by decide, by decide⟩
theorem D_mo_take_81 : Dc M_mo_take 81 (.ireturn) 1 82 := ⟨by decide +kernel, rfl⟩
theorem D_mo_take_82 : Dc M_mo_take 82 (.iload 4) 2 84 := ⟨by decide +kernel, rfl⟩
theorem D_mo_take_84 : Dj M_mo_take 84 (.ifCond .ge) 87 93 := ⟨9, by decide +kernel, rfl, by decide⟩
theorem D_mo_take_87 : Dc M_mo_take 87 (.aload_n 0) 1 88 := ⟨by decide +kernel, rfl⟩
theorem D_mo_take_88 : Dc M_mo_take 88 (.iconst 4) 1 89 := ⟨by decide +kernel, rfl⟩
theorem D_mo_take_89 : DcV M_mo_take M_mo_fails 89 92 := ⟨102, by decide +kernel, rfl, ml_mo_102, by decide, by decide⟩
theorem D_mo_take_92 : Dc M_mo_take 92 (.ireturn) 1 93 := ⟨by decide +kernel, rfl⟩
theorem D_mo_take_93 : Dc M_mo_take 93 (.iload_n 3) 1 94 := ⟨by decide +kernel, rfl⟩
theorem D_mo_take_94 : Dj M_mo_take 94 (.ifCond .lt) 97 132 := ⟨38, by decide +kernel, rfl, by decide⟩
theorem D_mo_take_97 : Dc M_mo_take 97 (.iload_n 3) 1 98 := ⟨by decide +kernel, rfl⟩
theorem D_mo_take_98 : Dc M_mo_take 98 (.aload_n 0) 1 99 := ⟨by decide +kernel, rfl⟩
theorem D_mo_take_99 : Dg M_mo_take 99 102 6 14 R_mo T_mo 21 := ⟨41, by decide +kernel, rfl, rfl, by decide, fl_mo_41, in_mo⟩
theorem D_mo_take_102 : Dc M_mo_take 102 (.iload_n 1) 1 103 := ⟨by decide +kernel, rfl⟩
theorem D_mo_take_103 : Dc M_mo_take 103 (.iaload) 1 104 := ⟨by decide +kernel, rfl⟩
theorem D_mo_take_104 : Dj M_mo_take 104 (.if_icmp .gt) 107 132 := ⟨28, by decide +kernel, rfl, by decide⟩
theorem D_mo_take_107 : Dc M_mo_take 107 (.iload 4) 2 109 := ⟨by decide +kernel, rfl⟩
theorem D_mo_take_109 : Dc M_mo_take 109 (.aload_n 0) 1 110 := ⟨by decide +kernel, rfl⟩
theorem D_mo_take_110 : Dg M_mo_take 110 113 6 14 R_mo T_mo 21 := ⟨41, by decide +kernel, rfl, rfl, by decide, fl_mo_41, in_mo⟩
theorem D_mo_take_113 : Dc M_mo_take 113 (.iload_n 1) 1 114 := ⟨by decide +kernel, rfl⟩
theorem D_mo_take_114 : Dc M_mo_take 114 (.iaload) 1 115 := ⟨by decide +kernel, rfl⟩
theorem D_mo_take_115 : Dc M_mo_take 115 (.iload_n 3) 1 116 := ⟨by decide +kernel, rfl⟩
theorem D_mo_take_116 : Dc M_mo_take 116 (.isub) 1 117 := ⟨by decide +kernel, rfl⟩
theorem D_mo_take_117 : Dj M_mo_take 117 (.if_icmp .gt) 120 132 := ⟨15, by decide +kernel, rfl, by decide⟩
theorem D_mo_take_120 : Dc M_mo_take 120 (.iload 4) 2 122 := ⟨by decide +kernel, rfl⟩
theorem D_mo_take_122 : Dc M_mo_take 122 (.aload_n 0) 1 123 := ⟨by decide +kernel, rfl⟩
theorem D_mo_take_123 : DcV M_mo_take M_mo_states 123 126 := ⟨69, by decide +kernel, rfl, ml_mo_69, by decide, by decide⟩
theorem D_mo_take_126 : Dc M_mo_take 126 (.iload 5) 2 128 := ⟨by decide +kernel, rfl⟩
theorem D_mo_take_128 : Dc M_mo_take 128 (.isub) 1 129 := ⟨by decide +kernel, rfl⟩
theorem D_mo_take_129 : Dj M_mo_take 129 (.if_icmp .le) 132 138 := ⟨9, by decide +kernel, rfl, by decide⟩
theorem D_mo_take_132 : Dc M_mo_take 132 (.aload_n 0) 1 133 := ⟨by decide +kernel, rfl⟩
theorem D_mo_take_133 : Dc M_mo_take 133 (.iconst 3) 1 134 := ⟨by decide +kernel, rfl⟩
theorem D_mo_take_134 : DcV M_mo_take M_mo_fails 134 137 := ⟨102, by decide +kernel, rfl, ml_mo_102, by decide, by decide⟩
theorem D_mo_take_137 : Dc M_mo_take 137 (.ireturn) 1 138 := ⟨by decide +kernel, rfl⟩
theorem D_mo_take_138 : Dc M_mo_take 138 (.iconst 0) 1 139 := ⟨by decide +kernel, rfl⟩
theorem D_mo_take_139 : Dc M_mo_take 139 (.istore 6) 2 141 := ⟨by decide +kernel, rfl⟩
theorem D_mo_take_141 : Dc M_mo_take 141 (.iload 6) 2 143 := ⟨by decide +kernel, rfl⟩
theorem D_mo_take_143 : Dc M_mo_take 143 (.iload 4) 2 145 := ⟨by decide +kernel, rfl⟩
theorem D_mo_take_145 : Dj M_mo_take 145 (.if_icmp .ge) 148 173 := ⟨28, by decide +kernel, rfl, by decide⟩
theorem D_mo_take_148 : Dc M_mo_take 148 (.aload_n 0) 1 149 := ⟨by decide +kernel, rfl⟩
theorem D_mo_take_149 : Dg M_mo_take 149 152 6 3 R_mo T_mo 21 := ⟨13, by decide +kernel, rfl, rfl, by decide, fl_mo_13, in_mo⟩
theorem D_mo_take_152 : Dc M_mo_take 152 (.iload 5) 2 154 := ⟨by decide +kernel, rfl⟩
theorem D_mo_take_154 : Dc M_mo_take 154 (.iload 6) 2 156 := ⟨by decide +kernel, rfl⟩
theorem D_mo_take_156 : Dc M_mo_take 156 (.iadd) 1 157 := ⟨by decide +kernel, rfl⟩
theorem D_mo_take_157 : Dc M_mo_take 157 (.aload_n 0) 1 158 := ⟨by decide +kernel, rfl⟩
theorem D_mo_take_158 : Dc M_mo_take 158 (.iload_n 1) 1 159 := ⟨by decide +kernel, rfl⟩
theorem D_mo_take_159 : Dc M_mo_take 159 (.iload_n 3) 1 160 := ⟨by decide +kernel, rfl⟩
theorem D_mo_take_160 : Dc M_mo_take 160 (.iload 6) 2 162 := ⟨by decide +kernel, rfl⟩
theorem D_mo_take_162 : Dc M_mo_take 162 (.iadd) 1 163 := ⟨by decide +kernel, rfl⟩
theorem ml_mo_105 : Cond.methodLink R_mo 105 M_mo_bit.1 ∈ gtb := mem_g 770 (by decide +kernel) rfl
theorem D_mo_take_163 : DcV M_mo_take M_mo_bit 163 166 := ⟨105, by decide +kernel, rfl, ml_mo_105, by decide, by decide⟩
theorem D_mo_take_166 : Dc M_mo_take 166 (.iastore) 1 167 := ⟨by decide +kernel, rfl⟩
theorem D_mo_take_167 : Dc M_mo_take 167 (.iinc 6 1) 3 170 := ⟨by decide +kernel, rfl⟩
theorem D_mo_take_170 : Dj M_mo_take 170 (.goto) 173 141 := ⟨(-29), by decide +kernel, rfl, by decide⟩
theorem D_mo_take_173 : Dc M_mo_take 173 (.aload_n 0) 1 174 := ⟨by decide +kernel, rfl⟩
theorem D_mo_take_174 : Dc M_mo_take 174 (.iconst 0) 1 175 := ⟨by decide +kernel, rfl⟩
theorem D_mo_take_175 : Dp M_mo_take 175 178 6 4 R_mo T_mo 21 := ⟨73, by decide +kernel, rfl, rfl, by decide, fl_mo_73, in_mo, rfl⟩
theorem D_mo_take_178 : Dc M_mo_take 178 (.iload 4) 2 180 := ⟨by decide +kernel, rfl⟩
theorem D_mo_take_180 : Dc M_mo_take 180 (.ireturn) 1 181 := ⟨by decide +kernel, rfl⟩
theorem D_mo_feedback_0 : Dc M_mo_feedback 0 (.aload_n 0) 1 1 := ⟨by decide +kernel, rfl⟩
theorem D_mo_feedback_1 : Dc M_mo_feedback 1 (.iload_n 1) 1 2 := ⟨by decide +kernel, rfl⟩
theorem D_mo_feedback_2 : DcV M_mo_feedback M_mo_isState 2 5 := ⟨92, by decide +kernel, rfl, ml_mo_92, by decide, by decide⟩
theorem D_mo_feedback_5 : Dj M_mo_feedback 5 (.ifCond .eq) 8 17 := ⟨12, by decide +kernel, rfl, by decide⟩
theorem D_mo_feedback_8 : Dc M_mo_feedback 8 (.aload_n 0) 1 9 := ⟨by decide +kernel, rfl⟩
theorem D_mo_feedback_9 : Dg M_mo_feedback 9 12 6 3 R_mo T_mo 21 := ⟨13, by decide +kernel, rfl, rfl, by decide, fl_mo_13, in_mo⟩
theorem D_mo_feedback_12 : Dc M_mo_feedback 12 (.iload_n 1) 1 13 := ⟨by decide +kernel, rfl⟩
theorem D_mo_feedback_13 : Dc M_mo_feedback 13 (.iaload) 1 14 := ⟨by decide +kernel, rfl⟩
theorem D_mo_feedback_14 : Dj M_mo_feedback 14 (.goto) 17 18 := ⟨4, by decide +kernel, rfl, by decide⟩
theorem D_mo_feedback_17 : Dc M_mo_feedback 17 (.iconst (-1)) 1 18 := ⟨by decide +kernel, rfl⟩
theorem D_mo_feedback_18 : Dc M_mo_feedback 18 (.ireturn) 1 19 := ⟨by decide +kernel, rfl⟩
theorem D_mo_step_0 : Dc M_mo_step 0 (.aload_n 0) 1 1 := ⟨by decide +kernel, rfl⟩
theorem D_mo_step_1 : Dc M_mo_step 1 (.iload_n 1) 1 2 := ⟨by decide +kernel, rfl⟩
theorem D_mo_step_2 : DcV M_mo_step M_mo_isState 2 5 := ⟨92, by decide +kernel, rfl, ml_mo_92, by decide, by decide⟩
theorem D_mo_step_5 : Dj M_mo_step 5 (.ifCond .ne) 8 10 := ⟨5, by decide +kernel, rfl, by decide⟩
theorem D_mo_step_8 : Dc M_mo_step 8 (.iconst (-1)) 1 9 := ⟨by decide +kernel, rfl⟩
theorem D_mo_step_9 : Dc M_mo_step 9 (.ireturn) 1 10 := ⟨by decide +kernel, rfl⟩
theorem D_mo_step_10 : Dc M_mo_step 10 (.lload_n 2) 1 11 := ⟨by decide +kernel, rfl⟩
theorem D_mo_step_11 : Dc M_mo_step 11 (.lconst 0) 1 12 := ⟨by decide +kernel, rfl⟩
theorem D_mo_step_12 : Dc M_mo_step 12 (.lcmp) 1 13 := ⟨by decide +kernel, rfl⟩
theorem D_mo_step_13 : Dj M_mo_step 13 (.ifCond .ge) 16 19 := ⟨6, by decide +kernel, rfl, by decide⟩
theorem D_mo_step_16 : Dc M_mo_step 16 (.bipush (-2)) 2 18 := ⟨by decide +kernel, rfl⟩
theorem D_mo_step_18 : Dc M_mo_step 18 (.ireturn) 1 19 := ⟨by decide +kernel, rfl⟩
theorem D_mo_step_19 : Dc M_mo_step 19 (.aload_n 0) 1 20 := ⟨by decide +kernel, rfl⟩
theorem ml_mo_109 : Cond.methodLink R_mo 109 M_mo_find.1 ∈ gtb := mem_g 782 (by decide +kernel) rfl
theorem D_mo_step_20 : DcV M_mo_step M_mo_find 20 23 := ⟨109, by decide +kernel, rfl, ml_mo_109, by decide, by decide⟩
theorem D_mo_step_23 : Dc M_mo_step 23 (.iload_n 1) 1 24 := ⟨by decide +kernel, rfl⟩
theorem D_mo_step_24 : Dc M_mo_step 24 (.istore 4) 2 26 := ⟨by decide +kernel, rfl⟩
theorem D_mo_step_26 : Dc M_mo_step 26 (.lload_n 2) 1 27 := ⟨by decide +kernel, rfl⟩
theorem D_mo_step_27 : Dc M_mo_step 27 (.lstore 5) 2 29 := ⟨by decide +kernel, rfl⟩
theorem D_mo_step_29 : Dc M_mo_step 29 (.lload 5) 2 31 := ⟨by decide +kernel, rfl⟩
theorem D_mo_step_31 : Dc M_mo_step 31 (.lconst 0) 1 32 := ⟨by decide +kernel, rfl⟩
theorem D_mo_step_32 : Dc M_mo_step 32 (.lcmp) 1 33 := ⟨by decide +kernel, rfl⟩
theorem D_mo_step_33 : Dj M_mo_step 33 (.ifCond .le) 36 63 := ⟨30, by decide +kernel, rfl, by decide⟩
theorem D_mo_step_36 : Dc M_mo_step 36 (.aload_n 0) 1 37 := ⟨by decide +kernel, rfl⟩
theorem D_mo_step_37 : Dg M_mo_step 37 40 6 9 R_mo T_mo 21 := ⟨26, by decide +kernel, rfl, rfl, by decide, fl_mo_26, in_mo⟩
theorem D_mo_step_40 : Dc M_mo_step 40 (.iload 4) 2 42 := ⟨by decide +kernel, rfl⟩
theorem D_mo_step_42 : Dc M_mo_step 42 (.iaload) 1 43 := ⟨by decide +kernel, rfl⟩
theorem D_mo_step_43 : Dj M_mo_step 43 (.ifCond .le) 46 63 := ⟨20, by decide +kernel, rfl, by decide⟩
theorem D_mo_step_46 : Dc M_mo_step 46 (.aload_n 0) 1 47 := ⟨by decide +kernel, rfl⟩
theorem D_mo_step_47 : Dc M_mo_step 47 (.iload 4) 2 49 := ⟨by decide +kernel, rfl⟩
theorem D_mo_step_49 : DcV M_mo_step M_mo_next 49 52 := ⟨77, by decide +kernel, rfl, ml_mo_77, by decide, by decide⟩
theorem D_mo_step_52 : Dc M_mo_step 52 (.istore 4) 2 54 := ⟨by decide +kernel, rfl⟩
theorem D_mo_step_54 : Dc M_mo_step 54 (.lload 5) 2 56 := ⟨by decide +kernel, rfl⟩
theorem D_mo_step_56 : Dc M_mo_step 56 (.lconst 1) 1 57 := ⟨by decide +kernel, rfl⟩
theorem D_mo_step_57 : Dc M_mo_step 57 (.lsub) 1 58 := ⟨by decide +kernel, rfl⟩
theorem D_mo_step_58 : Dc M_mo_step 58 (.lstore 5) 2 60 := ⟨by decide +kernel, rfl⟩
theorem D_mo_step_60 : Dj M_mo_step 60 (.goto) 63 29 := ⟨(-31), by decide +kernel, rfl, by decide⟩
theorem D_mo_step_63 : Dc M_mo_step 63 (.lload 5) 2 65 := ⟨by decide +kernel, rfl⟩
theorem D_mo_step_65 : Dc M_mo_step 65 (.lconst 0) 1 66 := ⟨by decide +kernel, rfl⟩
theorem D_mo_step_66 : Dc M_mo_step 66 (.lcmp) 1 67 := ⟨by decide +kernel, rfl⟩
theorem D_mo_step_67 : Dj M_mo_step 67 (.ifCond .le) 70 88 := ⟨21, by decide +kernel, rfl, by decide⟩
theorem D_mo_step_70 : Dc M_mo_step 70 (.lload 5) 2 72 := ⟨by decide +kernel, rfl⟩
theorem D_mo_step_72 : Dc M_mo_step 72 (.aload_n 0) 1 73 := ⟨by decide +kernel, rfl⟩
theorem D_mo_step_73 : Dg M_mo_step 73 76 6 7 R_mo T_mo 21 := ⟨20, by decide +kernel, rfl, rfl, by decide, fl_mo_20, in_mo⟩
theorem D_mo_step_76 : Dc M_mo_step 76 (.aload_n 0) 1 77 := ⟨by decide +kernel, rfl⟩
theorem D_mo_step_77 : Dg M_mo_step 77 80 6 8 R_mo T_mo 21 := ⟨23, by decide +kernel, rfl, rfl, by decide, fl_mo_23, in_mo⟩
theorem D_mo_step_80 : Dc M_mo_step 80 (.iload 4) 2 82 := ⟨by decide +kernel, rfl⟩
theorem D_mo_step_82 : Dc M_mo_step 82 (.iaload) 1 83 := ⟨by decide +kernel, rfl⟩
theorem D_mo_step_83 : Dc M_mo_step 83 (.iaload) 1 84 := ⟨by decide +kernel, rfl⟩
theorem D_mo_step_84 : Dc M_mo_step 84 (.i2l) 1 85 := ⟨by decide +kernel, rfl⟩
theorem D_mo_step_85 : Dc M_mo_step 85 (.lrem) 1 86 := ⟨by decide +kernel, rfl⟩
theorem D_mo_step_86 : Dc M_mo_step 86 (.lstore 5) 2 88 := ⟨by decide +kernel, rfl⟩
theorem D_mo_step_88 : Dc M_mo_step 88 (.lload 5) 2 90 := ⟨by decide +kernel, rfl⟩
theorem D_mo_step_90 : Dc M_mo_step 90 (.lconst 0) 1 91 := ⟨by decide +kernel, rfl⟩
theorem D_mo_step_91 : Dc M_mo_step 91 (.lcmp) 1 92 := ⟨by decide +kernel, rfl⟩
theorem D_mo_step_92 : Dj M_mo_step 92 (.ifCond .le) 95 112 := ⟨20, by decide +kernel, rfl, by decide⟩
theorem D_mo_step_95 : Dc M_mo_step 95 (.aload_n 0) 1 96 := ⟨by decide +kernel, rfl⟩
theorem D_mo_step_96 : Dc M_mo_step 96 (.iload 4) 2 98 := ⟨by decide +kernel, rfl⟩
theorem D_mo_step_98 : DcV M_mo_step M_mo_next 98 101 := ⟨77, by decide +kernel, rfl, ml_mo_77, by decide, by decide⟩
theorem D_mo_step_101 : Dc M_mo_step 101 (.istore 4) 2 103 := ⟨by decide +kernel, rfl⟩
theorem D_mo_step_103 : Dc M_mo_step 103 (.lload 5) 2 105 := ⟨by decide +kernel, rfl⟩
theorem D_mo_step_105 : Dc M_mo_step 105 (.lconst 1) 1 106 := ⟨by decide +kernel, rfl⟩
theorem D_mo_step_106 : Dc M_mo_step 106 (.lsub) 1 107 := ⟨by decide +kernel, rfl⟩
theorem D_mo_step_107 : Dc M_mo_step 107 (.lstore 5) 2 109 := ⟨by decide +kernel, rfl⟩
theorem D_mo_step_109 : Dj M_mo_step 109 (.goto) 112 88 := ⟨(-21), by decide +kernel, rfl, by decide⟩
theorem D_mo_step_112 : Dc M_mo_step 112 (.iload 4) 2 114 := ⟨by decide +kernel, rfl⟩
theorem D_mo_step_114 : Dc M_mo_step 114 (.ireturn) 1 115 := ⟨by decide +kernel, rfl⟩
theorem D_mo_back_0 : Dc M_mo_back 0 (.aload_n 0) 1 1 := ⟨by decide +kernel, rfl⟩
theorem D_mo_back_1 : Dc M_mo_back 1 (.iload_n 1) 1 2 := ⟨by decide +kernel, rfl⟩
theorem D_mo_back_2 : DcV M_mo_back M_mo_isState 2 5 := ⟨92, by decide +kernel, rfl, ml_mo_92, by decide, by decide⟩
theorem D_mo_back_5 : Dj M_mo_back 5 (.ifCond .ne) 8 10 := ⟨5, by decide +kernel, rfl, by decide⟩
theorem D_mo_back_8 : Dc M_mo_back 8 (.iconst (-1)) 1 9 := ⟨by decide +kernel, rfl⟩
theorem D_mo_back_9 : Dc M_mo_back 9 (.ireturn) 1 10 := ⟨by decide +kernel, rfl⟩
theorem D_mo_back_10 : Dc M_mo_back 10 (.iload_n 2) 1 11 := ⟨by decide +kernel, rfl⟩
theorem D_mo_back_11 : Dc M_mo_back 11 (.i2l) 1 12 := ⟨by decide +kernel, rfl⟩
theorem D_mo_back_12 : Dl M_mo_back 12 15 (-lN 1) := ⟨112, by decide +kernel, rfl, by decide +kernel⟩
theorem D_mo_back_15 : Dc M_mo_back 15 (.lconst 1) 1 16 := ⟨by decide +kernel, rfl⟩
theorem D_mo_back_16 : DcS M_mo_back M_mo_within 16 19 := ⟨88, by decide +kernel, rfl, ml_mo_88, by decide, by decide⟩
theorem D_mo_back_19 : Dj M_mo_back 19 (.ifCond .ne) 22 25 := ⟨6, by decide +kernel, rfl, by decide⟩
theorem D_mo_back_22 : Dc M_mo_back 22 (.bipush (-2)) 2 24 := ⟨by decide +kernel, rfl⟩
theorem D_mo_back_24 : Dc M_mo_back 24 (.ireturn) 1 25 := ⟨by decide +kernel, rfl⟩
theorem D_mo_back_25 : Dc M_mo_back 25 (.iconst 0) 1 26 := ⟨by decide +kernel, rfl⟩
theorem D_mo_back_26 : Dc M_mo_back 26 (.istore_n 3) 1 27 := ⟨by decide +kernel, rfl⟩
theorem D_mo_back_27 : Dc M_mo_back 27 (.iconst (-1)) 1 28 := ⟨by decide +kernel, rfl⟩
theorem D_mo_back_28 : Dc M_mo_back 28 (.istore 4) 2 30 := ⟨by decide +kernel, rfl⟩
theorem D_mo_back_30 : Dc M_mo_back 30 (.iconst 0) 1 31 := ⟨by decide +kernel, rfl⟩
theorem D_mo_back_31 : Dc M_mo_back 31 (.istore 5) 2 33 := ⟨by decide +kernel, rfl⟩
theorem D_mo_back_33 : Dc M_mo_back 33 (.iload 5) 2 35 := ⟨by decide +kernel, rfl⟩
theorem D_mo_back_35 : Dc M_mo_back 35 (.aload_n 0) 1 36 := ⟨by decide +kernel, rfl⟩
theorem D_mo_back_36 : DcV M_mo_back M_mo_states 36 39 := ⟨69, by decide +kernel, rfl, ml_mo_69, by decide, by decide⟩
theorem D_mo_back_39 : Dj M_mo_back 39 (.if_icmp .ge) 42 75 := ⟨36, by decide +kernel, rfl, by decide⟩
theorem D_mo_back_42 : Dc M_mo_back 42 (.aload_n 0) 1 43 := ⟨by decide +kernel, rfl⟩
theorem D_mo_back_43 : Dc M_mo_back 43 (.iload 5) 2 45 := ⟨by decide +kernel, rfl⟩
theorem D_mo_back_45 : DcV M_mo_back M_mo_next 45 48 := ⟨77, by decide +kernel, rfl, ml_mo_77, by decide, by decide⟩
theorem D_mo_back_48 : Dc M_mo_back 48 (.iload_n 1) 1 49 := ⟨by decide +kernel, rfl⟩
theorem D_mo_back_49 : Dj M_mo_back 49 (.if_icmp .ne) 52 69 := ⟨20, by decide +kernel, rfl, by decide⟩
theorem D_mo_back_52 : Dc M_mo_back 52 (.iload_n 3) 1 53 := ⟨by decide +kernel, rfl⟩
theorem D_mo_back_53 : Dc M_mo_back 53 (.iload_n 2) 1 54 := ⟨by decide +kernel, rfl⟩
theorem D_mo_back_54 : Dj M_mo_back 54 (.if_icmp .ne) 57 62 := ⟨8, by decide +kernel, rfl, by decide⟩
theorem D_mo_back_57 : Dc M_mo_back 57 (.iload 5) 2 59 := ⟨by decide +kernel, rfl⟩
theorem D_mo_back_59 : Dj M_mo_back 59 (.goto) 62 64 := ⟨5, by decide +kernel, rfl, by decide⟩
theorem D_mo_back_62 : Dc M_mo_back 62 (.iload 4) 2 64 := ⟨by decide +kernel, rfl⟩
theorem D_mo_back_64 : Dc M_mo_back 64 (.istore 4) 2 66 := ⟨by decide +kernel, rfl⟩
theorem D_mo_back_66 : Dc M_mo_back 66 (.iinc 3 1) 3 69 := ⟨by decide +kernel, rfl⟩
theorem D_mo_back_69 : Dc M_mo_back 69 (.iinc 5 1) 3 72 := ⟨by decide +kernel, rfl⟩
theorem D_mo_back_72 : Dj M_mo_back 72 (.goto) 75 33 := ⟨(-39), by decide +kernel, rfl, by decide⟩
theorem D_mo_back_75 : Dc M_mo_back 75 (.iload_n 2) 1 76 := ⟨by decide +kernel, rfl⟩
theorem D_mo_back_76 : Dc M_mo_back 76 (.iconst (-1)) 1 77 := ⟨by decide +kernel, rfl⟩
theorem D_mo_back_77 : Dj M_mo_back 77 (.if_icmp .ne) 80 84 := ⟨7, by decide +kernel, rfl, by decide⟩
theorem D_mo_back_80 : Dc M_mo_back 80 (.iload_n 3) 1 81 := ⟨by decide +kernel, rfl⟩
theorem D_mo_back_81 : Dj M_mo_back 81 (.goto) 84 86 := ⟨5, by decide +kernel, rfl, by decide⟩
theorem D_mo_back_84 : Dc M_mo_back 84 (.iload 4) 2 86 := ⟨by decide +kernel, rfl⟩
theorem D_mo_back_86 : Dc M_mo_back 86 (.ireturn) 1 87 := ⟨by decide +kernel, rfl⟩
theorem D_mo_about_0 : Dc M_mo_about 0 (.aload_n 0) 1 1 := ⟨by decide +kernel, rfl⟩
theorem D_mo_about_1 : Dc M_mo_about 1 (.iload_n 1) 1 2 := ⟨by decide +kernel, rfl⟩
theorem D_mo_about_2 : DcV M_mo_about M_mo_isState 2 5 := ⟨92, by decide +kernel, rfl, ml_mo_92, by decide, by decide⟩
theorem D_mo_about_5 : Dj M_mo_about 5 (.ifCond .ne) 8 10 := ⟨5, by decide +kernel, rfl, by decide⟩
theorem D_mo_about_8 : Dc M_mo_about 8 (.iconst (-1)) 1 9 := ⟨by decide +kernel, rfl⟩
theorem D_mo_about_9 : Dc M_mo_about 9 (.ireturn) 1 10 := ⟨by decide +kernel, rfl⟩
theorem D_mo_about_10 : Dc M_mo_about 10 (.aload_n 0) 1 11 := ⟨by decide +kernel, rfl⟩
theorem D_mo_about_11 : DcV M_mo_about M_mo_find 11 14 := ⟨109, by decide +kernel, rfl, ml_mo_109, by decide, by decide⟩
theorem D_mo_about_14 : Dc M_mo_about 14 (.iload_n 2) 1 15 := ⟨by decide +kernel, rfl⟩
theorem D_mo_about_15 : Dc M_mo_about 15 (.tableswitch 54 0 3 #[29, 36, 43, 50]) 29 44 := ⟨by decide +kernel, rfl⟩
theorem D_mo_about_44 : Dc M_mo_about 44 (.aload_n 0) 1 45 := ⟨by decide +kernel, rfl⟩
theorem D_mo_about_45 : Dg M_mo_about 45 48 6 8 R_mo T_mo 21 := ⟨23, by decide +kernel, rfl, rfl, by decide, fl_mo_23, in_mo⟩
theorem D_mo_about_48 : Dc M_mo_about 48 (.iload_n 1) 1 49 := ⟨by decide +kernel, rfl⟩
theorem D_mo_about_49 : Dc M_mo_about 49 (.iaload) 1 50 := ⟨by decide +kernel, rfl⟩
theorem D_mo_about_50 : Dc M_mo_about 50 (.ireturn) 1 51 := ⟨by decide +kernel, rfl⟩
theorem D_mo_about_51 : Dc M_mo_about 51 (.aload_n 0) 1 52 := ⟨by decide +kernel, rfl⟩
theorem D_mo_about_52 : Dg M_mo_about 52 55 6 9 R_mo T_mo 21 := ⟨26, by decide +kernel, rfl, rfl, by decide, fl_mo_26, in_mo⟩
theorem D_mo_about_55 : Dc M_mo_about 55 (.iload_n 1) 1 56 := ⟨by decide +kernel, rfl⟩
theorem D_mo_about_56 : Dc M_mo_about 56 (.iaload) 1 57 := ⟨by decide +kernel, rfl⟩
theorem D_mo_about_57 : Dc M_mo_about 57 (.ireturn) 1 58 := ⟨by decide +kernel, rfl⟩
theorem D_mo_about_58 : Dc M_mo_about 58 (.aload_n 0) 1 59 := ⟨by decide +kernel, rfl⟩
theorem D_mo_about_59 : Dg M_mo_about 59 62 6 10 R_mo T_mo 21 := ⟨29, by decide +kernel, rfl, rfl, by decide, fl_mo_29, in_mo⟩
theorem D_mo_about_62 : Dc M_mo_about 62 (.iload_n 1) 1 63 := ⟨by decide +kernel, rfl⟩
theorem D_mo_about_63 : Dc M_mo_about 63 (.iaload) 1 64 := ⟨by decide +kernel, rfl⟩
theorem D_mo_about_64 : Dc M_mo_about 64 (.ireturn) 1 65 := ⟨by decide +kernel, rfl⟩
theorem D_mo_about_65 : Dc M_mo_about 65 (.iload_n 1) 1 66 := ⟨by decide +kernel, rfl⟩
theorem D_mo_about_66 : Dc M_mo_about 66 (.iconst 1) 1 67 := ⟨by decide +kernel, rfl⟩
theorem D_mo_about_67 : Dc M_mo_about 67 (.ixor) 1 68 := ⟨by decide +kernel, rfl⟩
theorem D_mo_about_68 : Dc M_mo_about 68 (.ireturn) 1 69 := ⟨by decide +kernel, rfl⟩
theorem D_mo_about_69 : Dc M_mo_about 69 (.bipush (-2)) 2 71 := ⟨by decide +kernel, rfl⟩
theorem D_mo_about_71 : Dc M_mo_about 71 (.ireturn) 1 72 := ⟨by decide +kernel, rfl⟩
theorem D_mo_ring_0 : Dc M_mo_ring 0 (.aload_n 0) 1 1 := ⟨by decide +kernel, rfl⟩
theorem D_mo_ring_1 : DcV M_mo_ring M_mo_find 1 4 := ⟨109, by decide +kernel, rfl, ml_mo_109, by decide, by decide⟩
theorem D_mo_ring_4 : Dc M_mo_ring 4 (.iload_n 1) 1 5 := ⟨by decide +kernel, rfl⟩
theorem D_mo_ring_5 : Dj M_mo_ring 5 (.ifCond .lt) 8 16 := ⟨11, by decide +kernel, rfl, by decide⟩
theorem D_mo_ring_8 : Dc M_mo_ring 8 (.iload_n 1) 1 9 := ⟨by decide +kernel, rfl⟩
theorem D_mo_ring_9 : Dc M_mo_ring 9 (.aload_n 0) 1 10 := ⟨by decide +kernel, rfl⟩
theorem D_mo_ring_10 : Dg M_mo_ring 10 13 6 5 R_mo T_mo 21 := ⟨81, by decide +kernel, rfl, rfl, by decide, fl_mo_81, in_mo⟩
theorem D_mo_ring_13 : Dj M_mo_ring 13 (.if_icmp .lt) 16 18 := ⟨5, by decide +kernel, rfl, by decide⟩
theorem D_mo_ring_16 : Dc M_mo_ring 16 (.iconst (-1)) 1 17 := ⟨by decide +kernel, rfl⟩
theorem D_mo_ring_17 : Dc M_mo_ring 17 (.ireturn) 1 18 := ⟨by decide +kernel, rfl⟩
theorem D_mo_ring_18 : Dc M_mo_ring 18 (.iconst 0) 1 19 := ⟨by decide +kernel, rfl⟩
theorem D_mo_ring_19 : Dc M_mo_ring 19 (.istore_n 3) 1 20 := ⟨by decide +kernel, rfl⟩
theorem D_mo_ring_20 : Dc M_mo_ring 20 (.iload_n 2) 1 21 := ⟨by decide +kernel, rfl⟩
theorem D_mo_ring_21 : Dc M_mo_ring 21 (.tableswitch 146 0 3 #[31, 38, 45, 97]) 31 52 := ⟨by decide +kernel, rfl⟩
theorem D_mo_ring_52 : Dc M_mo_ring 52 (.aload_n 0) 1 53 := ⟨by decide +kernel, rfl⟩
theorem D_mo_ring_53 : Dg M_mo_ring 53 56 6 7 R_mo T_mo 21 := ⟨20, by decide +kernel, rfl, rfl, by decide, fl_mo_20, in_mo⟩
theorem D_mo_ring_56 : Dc M_mo_ring 56 (.iload_n 1) 1 57 := ⟨by decide +kernel, rfl⟩
theorem D_mo_ring_57 : Dc M_mo_ring 57 (.iaload) 1 58 := ⟨by decide +kernel, rfl⟩
theorem D_mo_ring_58 : Dc M_mo_ring 58 (.ireturn) 1 59 := ⟨by decide +kernel, rfl⟩
theorem D_mo_ring_59 : Dc M_mo_ring 59 (.aload_n 0) 1 60 := ⟨by decide +kernel, rfl⟩
theorem D_mo_ring_60 : Dg M_mo_ring 60 63 6 6 R_mo T_mo 21 := ⟨17, by decide +kernel, rfl, rfl, by decide, fl_mo_17, in_mo⟩
theorem D_mo_ring_63 : Dc M_mo_ring 63 (.iload_n 1) 1 64 := ⟨by decide +kernel, rfl⟩
theorem D_mo_ring_64 : Dc M_mo_ring 64 (.iaload) 1 65 := ⟨by decide +kernel, rfl⟩
theorem D_mo_ring_65 : Dc M_mo_ring 65 (.ireturn) 1 66 := ⟨by decide +kernel, rfl⟩
theorem D_mo_ring_66 : Dc M_mo_ring 66 (.iconst 0) 1 67 := ⟨by decide +kernel, rfl⟩
theorem D_mo_ring_67 : Dc M_mo_ring 67 (.istore 4) 2 69 := ⟨by decide +kernel, rfl⟩
theorem D_mo_ring_69 : Dc M_mo_ring 69 (.iload 4) 2 71 := ⟨by decide +kernel, rfl⟩
theorem D_mo_ring_71 : Dc M_mo_ring 71 (.aload_n 0) 1 72 := ⟨by decide +kernel, rfl⟩
theorem D_mo_ring_72 : DcV M_mo_ring M_mo_states 72 75 := ⟨69, by decide +kernel, rfl, ml_mo_69, by decide, by decide⟩
theorem D_mo_ring_75 : Dj M_mo_ring 75 (.if_icmp .ge) 78 116 := ⟨41, by decide +kernel, rfl, by decide⟩
theorem D_mo_ring_78 : Dc M_mo_ring 78 (.iload_n 3) 1 79 := ⟨by decide +kernel, rfl⟩
theorem D_mo_ring_79 : Dc M_mo_ring 79 (.aload_n 0) 1 80 := ⟨by decide +kernel, rfl⟩
theorem D_mo_ring_80 : Dg M_mo_ring 80 83 6 8 R_mo T_mo 21 := ⟨23, by decide +kernel, rfl, rfl, by decide, fl_mo_23, in_mo⟩
theorem D_mo_ring_83 : Dc M_mo_ring 83 (.iload 4) 2 85 := ⟨by decide +kernel, rfl⟩
theorem D_mo_ring_85 : Dc M_mo_ring 85 (.iaload) 1 86 := ⟨by decide +kernel, rfl⟩
theorem D_mo_ring_86 : Dc M_mo_ring 86 (.iload_n 1) 1 87 := ⟨by decide +kernel, rfl⟩
theorem D_mo_ring_87 : Dj M_mo_ring 87 (.if_icmp .ne) 90 107 := ⟨20, by decide +kernel, rfl, by decide⟩
theorem D_mo_ring_90 : Dc M_mo_ring 90 (.aload_n 0) 1 91 := ⟨by decide +kernel, rfl⟩
theorem D_mo_ring_91 : Dg M_mo_ring 91 94 6 9 R_mo T_mo 21 := ⟨26, by decide +kernel, rfl, rfl, by decide, fl_mo_26, in_mo⟩
theorem D_mo_ring_94 : Dc M_mo_ring 94 (.iload 4) 2 96 := ⟨by decide +kernel, rfl⟩
theorem D_mo_ring_96 : Dc M_mo_ring 96 (.iaload) 1 97 := ⟨by decide +kernel, rfl⟩
theorem D_mo_ring_97 : Dj M_mo_ring 97 (.ifCond .ne) 100 107 := ⟨10, by decide +kernel, rfl, by decide⟩
theorem D_mo_ring_100 : Dc M_mo_ring 100 (.iload 4) 2 102 := ⟨by decide +kernel, rfl⟩
theorem D_mo_ring_102 : Dc M_mo_ring 102 (.iconst 1) 1 103 := ⟨by decide +kernel, rfl⟩
theorem D_mo_ring_103 : Dc M_mo_ring 103 (.iand) 1 104 := ⟨by decide +kernel, rfl⟩
theorem D_mo_ring_104 : Dj M_mo_ring 104 (.goto) 107 108 := ⟨4, by decide +kernel, rfl, by decide⟩
theorem D_mo_ring_107 : Dc M_mo_ring 107 (.iconst 0) 1 108 := ⟨by decide +kernel, rfl⟩
theorem D_mo_ring_108 : Dc M_mo_ring 108 (.iadd) 1 109 := ⟨by decide +kernel, rfl⟩
theorem D_mo_ring_109 : Dc M_mo_ring 109 (.istore_n 3) 1 110 := ⟨by decide +kernel, rfl⟩
theorem D_mo_ring_110 : Dc M_mo_ring 110 (.iinc 4 1) 3 113 := ⟨by decide +kernel, rfl⟩
theorem D_mo_ring_113 : Dj M_mo_ring 113 (.goto) 116 69 := ⟨(-44), by decide +kernel, rfl, by decide⟩
theorem D_mo_ring_116 : Dc M_mo_ring 116 (.iload_n 3) 1 117 := ⟨by decide +kernel, rfl⟩
theorem D_mo_ring_117 : Dc M_mo_ring 117 (.ireturn) 1 118 := ⟨by decide +kernel, rfl⟩
theorem D_mo_ring_118 : Dc M_mo_ring 118 (.iconst 0) 1 119 := ⟨by decide +kernel, rfl⟩
theorem D_mo_ring_119 : Dc M_mo_ring 119 (.istore 4) 2 121 := ⟨by decide +kernel, rfl⟩
theorem D_mo_ring_121 : Dc M_mo_ring 121 (.iload 4) 2 123 := ⟨by decide +kernel, rfl⟩
theorem D_mo_ring_123 : Dc M_mo_ring 123 (.aload_n 0) 1 124 := ⟨by decide +kernel, rfl⟩
theorem D_mo_ring_124 : DcV M_mo_ring M_mo_states 124 127 := ⟨69, by decide +kernel, rfl, ml_mo_69, by decide, by decide⟩
theorem D_mo_ring_127 : Dj M_mo_ring 127 (.if_icmp .ge) 130 165 := ⟨38, by decide +kernel, rfl, by decide⟩
theorem D_mo_ring_130 : Dc M_mo_ring 130 (.iload_n 3) 1 131 := ⟨by decide +kernel, rfl⟩
theorem D_mo_ring_131 : Dc M_mo_ring 131 (.aload_n 0) 1 132 := ⟨by decide +kernel, rfl⟩
theorem D_mo_ring_132 : Dg M_mo_ring 132 135 6 8 R_mo T_mo 21 := ⟨23, by decide +kernel, rfl, rfl, by decide, fl_mo_23, in_mo⟩
theorem D_mo_ring_135 : Dc M_mo_ring 135 (.iload 4) 2 137 := ⟨by decide +kernel, rfl⟩
theorem D_mo_ring_137 : Dc M_mo_ring 137 (.iaload) 1 138 := ⟨by decide +kernel, rfl⟩
theorem D_mo_ring_138 : Dc M_mo_ring 138 (.iload_n 1) 1 139 := ⟨by decide +kernel, rfl⟩
theorem D_mo_ring_139 : Dj M_mo_ring 139 (.if_icmp .ne) 142 156 := ⟨17, by decide +kernel, rfl, by decide⟩
theorem D_mo_ring_142 : Dc M_mo_ring 142 (.aload_n 0) 1 143 := ⟨by decide +kernel, rfl⟩
theorem D_mo_ring_143 : Dg M_mo_ring 143 146 6 9 R_mo T_mo 21 := ⟨26, by decide +kernel, rfl, rfl, by decide, fl_mo_26, in_mo⟩
theorem D_mo_ring_146 : Dc M_mo_ring 146 (.iload 4) 2 148 := ⟨by decide +kernel, rfl⟩
theorem D_mo_ring_148 : Dc M_mo_ring 148 (.iaload) 1 149 := ⟨by decide +kernel, rfl⟩
theorem D_mo_ring_149 : Dj M_mo_ring 149 (.ifCond .le) 152 156 := ⟨7, by decide +kernel, rfl, by decide⟩
theorem D_mo_ring_152 : Dc M_mo_ring 152 (.iconst 1) 1 153 := ⟨by decide +kernel, rfl⟩
theorem D_mo_ring_153 : Dj M_mo_ring 153 (.goto) 156 157 := ⟨4, by decide +kernel, rfl, by decide⟩
theorem D_mo_ring_156 : Dc M_mo_ring 156 (.iconst 0) 1 157 := ⟨by decide +kernel, rfl⟩
theorem D_mo_ring_157 : Dc M_mo_ring 157 (.iadd) 1 158 := ⟨by decide +kernel, rfl⟩
theorem D_mo_ring_158 : Dc M_mo_ring 158 (.istore_n 3) 1 159 := ⟨by decide +kernel, rfl⟩
theorem D_mo_ring_159 : Dc M_mo_ring 159 (.iinc 4 1) 3 162 := ⟨by decide +kernel, rfl⟩
theorem D_mo_ring_162 : Dj M_mo_ring 162 (.goto) 165 121 := ⟨(-41), by decide +kernel, rfl, by decide⟩
theorem D_mo_ring_165 : Dc M_mo_ring 165 (.iload_n 3) 1 166 := ⟨by decide +kernel, rfl⟩
theorem D_mo_ring_166 : Dc M_mo_ring 166 (.ireturn) 1 167 := ⟨by decide +kernel, rfl⟩
theorem D_mo_ring_167 : Dc M_mo_ring 167 (.bipush (-2)) 2 169 := ⟨by decide +kernel, rfl⟩
theorem D_mo_ring_169 : Dc M_mo_ring 169 (.ireturn) 1 170 := ⟨by decide +kernel, rfl⟩
theorem D_mo_isPure_0 : Dc M_mo_isPure 0 (.iconst 1) 1 1 := ⟨by decide +kernel, rfl⟩
theorem D_mo_isPure_1 : Dc M_mo_isPure 1 (.istore_n 1) 1 2 := ⟨by decide +kernel, rfl⟩
theorem D_mo_isPure_2 : Dc M_mo_isPure 2 (.iconst 0) 1 3 := ⟨by decide +kernel, rfl⟩
theorem D_mo_isPure_3 : Dc M_mo_isPure 3 (.istore_n 2) 1 4 := ⟨by decide +kernel, rfl⟩
theorem D_mo_isPure_4 : Dc M_mo_isPure 4 (.iload_n 2) 1 5 := ⟨by decide +kernel, rfl⟩
theorem D_mo_isPure_5 : Dc M_mo_isPure 5 (.aload_n 0) 1 6 := ⟨by decide +kernel, rfl⟩
theorem D_mo_isPure_6 : DcV M_mo_isPure M_mo_states 6 9 := ⟨69, by decide +kernel, rfl, ml_mo_69, by decide, by decide⟩
theorem D_mo_isPure_9 : Dc M_mo_isPure 9 (.iconst 2) 1 10 := ⟨by decide +kernel, rfl⟩
theorem D_mo_isPure_10 : Dc M_mo_isPure 10 (.idiv) 1 11 := ⟨by decide +kernel, rfl⟩
theorem D_mo_isPure_11 : Dj M_mo_isPure 11 (.if_icmp .ge) 14 49 := ⟨38, by decide +kernel, rfl, by decide⟩
theorem D_mo_isPure_14 : Dc M_mo_isPure 14 (.iload_n 1) 1 15 := ⟨by decide +kernel, rfl⟩
theorem D_mo_isPure_15 : Dc M_mo_isPure 15 (.aload_n 0) 1 16 := ⟨by decide +kernel, rfl⟩
theorem D_mo_isPure_16 : Dg M_mo_isPure 16 19 6 3 R_mo T_mo 21 := ⟨13, by decide +kernel, rfl, rfl, by decide, fl_mo_13, in_mo⟩
theorem D_mo_isPure_19 : Dc M_mo_isPure 19 (.iconst 2) 1 20 := ⟨by decide +kernel, rfl⟩
theorem D_mo_isPure_20 : Dc M_mo_isPure 20 (.iload_n 2) 1 21 := ⟨by decide +kernel, rfl⟩
theorem D_mo_isPure_21 : Dc M_mo_isPure 21 (.imul) 1 22 := ⟨by decide +kernel, rfl⟩
theorem D_mo_isPure_22 : Dc M_mo_isPure 22 (.iaload) 1 23 := ⟨by decide +kernel, rfl⟩
theorem D_mo_isPure_23 : Dc M_mo_isPure 23 (.aload_n 0) 1 24 := ⟨by decide +kernel, rfl⟩
theorem D_mo_isPure_24 : Dg M_mo_isPure 24 27 6 3 R_mo T_mo 21 := ⟨13, by decide +kernel, rfl, rfl, by decide, fl_mo_13, in_mo⟩
theorem D_mo_isPure_27 : Dc M_mo_isPure 27 (.iconst 2) 1 28 := ⟨by decide +kernel, rfl⟩
theorem D_mo_isPure_28 : Dc M_mo_isPure 28 (.iload_n 2) 1 29 := ⟨by decide +kernel, rfl⟩
theorem D_mo_isPure_29 : Dc M_mo_isPure 29 (.imul) 1 30 := ⟨by decide +kernel, rfl⟩
theorem D_mo_isPure_30 : Dc M_mo_isPure 30 (.iconst 1) 1 31 := ⟨by decide +kernel, rfl⟩
theorem D_mo_isPure_31 : Dc M_mo_isPure 31 (.iadd) 1 32 := ⟨by decide +kernel, rfl⟩
theorem D_mo_isPure_32 : Dc M_mo_isPure 32 (.iaload) 1 33 := ⟨by decide +kernel, rfl⟩
theorem D_mo_isPure_33 : Dj M_mo_isPure 33 (.if_icmp .eq) 36 40 := ⟨7, by decide +kernel, rfl, by decide⟩
theorem D_mo_isPure_36 : Dc M_mo_isPure 36 (.iconst 1) 1 37 := ⟨by decide +kernel, rfl⟩
theorem D_mo_isPure_37 : Dj M_mo_isPure 37 (.goto) 40 41 := ⟨4, by decide +kernel, rfl, by decide⟩
theorem D_mo_isPure_40 : Dc M_mo_isPure 40 (.iconst 0) 1 41 := ⟨by decide +kernel, rfl⟩
theorem D_mo_isPure_41 : Dc M_mo_isPure 41 (.iand) 1 42 := ⟨by decide +kernel, rfl⟩
theorem D_mo_isPure_42 : Dc M_mo_isPure 42 (.istore_n 1) 1 43 := ⟨by decide +kernel, rfl⟩
theorem D_mo_isPure_43 : Dc M_mo_isPure 43 (.iinc 2 1) 3 46 := ⟨by decide +kernel, rfl⟩
theorem D_mo_isPure_46 : Dj M_mo_isPure 46 (.goto) 49 4 := ⟨(-42), by decide +kernel, rfl, by decide⟩
theorem D_mo_isPure_49 : Dc M_mo_isPure 49 (.iload_n 1) 1 50 := ⟨by decide +kernel, rfl⟩
theorem D_mo_isPure_50 : Dc M_mo_isPure 50 (.ireturn) 1 51 := ⟨by decide +kernel, rfl⟩
theorem D_mo_told_0 : Dc M_mo_told 0 (.aload_n 0) 1 1 := ⟨by decide +kernel, rfl⟩
theorem D_mo_told_1 : DcV M_mo_told M_mo_find 1 4 := ⟨109, by decide +kernel, rfl, ml_mo_109, by decide, by decide⟩
theorem D_mo_told_4 : Dc M_mo_told 4 (.iconst 0) 1 5 := ⟨by decide +kernel, rfl⟩
theorem D_mo_told_5 : Dc M_mo_told 5 (.istore_n 2) 1 6 := ⟨by decide +kernel, rfl⟩
theorem D_mo_told_6 : Dc M_mo_told 6 (.iload_n 1) 1 7 := ⟨by decide +kernel, rfl⟩
theorem D_mo_told_7 : Dc M_mo_told 7 (.tableswitch 179 0 7 #[45, 50, 55, 60, 87, 100, 105, 144]) 45 52 := ⟨by decide +kernel, rfl⟩
theorem D_mo_told_52 : Dc M_mo_told 52 (.aload_n 0) 1 53 := ⟨by decide +kernel, rfl⟩
theorem D_mo_told_53 : Dg M_mo_told 53 56 6 2 R_mo T_mo 21 := ⟨7, by decide +kernel, rfl, rfl, by decide, fl_mo_7, in_mo⟩
theorem D_mo_told_56 : Dc M_mo_told 56 (.ireturn) 1 57 := ⟨by decide +kernel, rfl⟩
theorem D_mo_told_57 : Dc M_mo_told 57 (.aload_n 0) 1 58 := ⟨by decide +kernel, rfl⟩
theorem D_mo_told_58 : DcV M_mo_told M_mo_states 58 61 := ⟨69, by decide +kernel, rfl, ml_mo_69, by decide, by decide⟩
theorem D_mo_told_61 : Dc M_mo_told 61 (.ireturn) 1 62 := ⟨by decide +kernel, rfl⟩
theorem D_mo_told_62 : Dc M_mo_told 62 (.aload_n 0) 1 63 := ⟨by decide +kernel, rfl⟩
theorem D_mo_told_63 : Dg M_mo_told 63 66 6 5 R_mo T_mo 21 := ⟨81, by decide +kernel, rfl, rfl, by decide, fl_mo_81, in_mo⟩
theorem D_mo_told_66 : Dc M_mo_told 66 (.ireturn) 1 67 := ⟨by decide +kernel, rfl⟩
theorem D_mo_told_67 : Dc M_mo_told 67 (.iconst 0) 1 68 := ⟨by decide +kernel, rfl⟩
theorem D_mo_told_68 : Dc M_mo_told 68 (.istore_n 3) 1 69 := ⟨by decide +kernel, rfl⟩
theorem D_mo_told_69 : Dc M_mo_told 69 (.iload_n 3) 1 70 := ⟨by decide +kernel, rfl⟩
theorem D_mo_told_70 : Dc M_mo_told 70 (.aload_n 0) 1 71 := ⟨by decide +kernel, rfl⟩
theorem D_mo_told_71 : Dg M_mo_told 71 74 6 5 R_mo T_mo 21 := ⟨81, by decide +kernel, rfl, rfl, by decide, fl_mo_81, in_mo⟩
theorem D_mo_told_74 : Dj M_mo_told 74 (.if_icmp .ge) 77 92 := ⟨18, by decide +kernel, rfl, by decide⟩
theorem D_mo_told_77 : Dc M_mo_told 77 (.iload_n 2) 1 78 := ⟨by decide +kernel, rfl⟩
theorem D_mo_told_78 : Dc M_mo_told 78 (.aload_n 0) 1 79 := ⟨by decide +kernel, rfl⟩
theorem D_mo_told_79 : Dg M_mo_told 79 82 6 7 R_mo T_mo 21 := ⟨20, by decide +kernel, rfl, rfl, by decide, fl_mo_20, in_mo⟩
theorem D_mo_told_82 : Dc M_mo_told 82 (.iload_n 3) 1 83 := ⟨by decide +kernel, rfl⟩
theorem D_mo_told_83 : Dc M_mo_told 83 (.iaload) 1 84 := ⟨by decide +kernel, rfl⟩
theorem D_mo_told_84 : Dc M_mo_told 84 (.iadd) 1 85 := ⟨by decide +kernel, rfl⟩
theorem D_mo_told_85 : Dc M_mo_told 85 (.istore_n 2) 1 86 := ⟨by decide +kernel, rfl⟩
theorem D_mo_told_86 : Dc M_mo_told 86 (.iinc 3 1) 3 89 := ⟨by decide +kernel, rfl⟩
theorem D_mo_told_89 : Dj M_mo_told 89 (.goto) 92 69 := ⟨(-20), by decide +kernel, rfl, by decide⟩
theorem D_mo_told_92 : Dc M_mo_told 92 (.iload_n 2) 1 93 := ⟨by decide +kernel, rfl⟩
theorem D_mo_told_93 : Dc M_mo_told 93 (.ireturn) 1 94 := ⟨by decide +kernel, rfl⟩
theorem D_mo_told_94 : Dc M_mo_told 94 (.aload_n 0) 1 95 := ⟨by decide +kernel, rfl⟩
theorem ml_mo_114 : Cond.methodLink R_mo 114 M_mo_isPure.1 ∈ gtb := mem_g 807 (by decide +kernel) rfl
theorem D_mo_told_95 : DcV M_mo_told M_mo_isPure 95 98 := ⟨114, by decide +kernel, rfl, ml_mo_114, by decide, by decide⟩
theorem D_mo_told_98 : Dj M_mo_told 98 (.ifCond .eq) 101 105 := ⟨7, by decide +kernel, rfl, by decide⟩
theorem D_mo_told_101 : Dc M_mo_told 101 (.iconst 1) 1 102 := ⟨by decide +kernel, rfl⟩
theorem D_mo_told_102 : Dj M_mo_told 102 (.goto) 105 106 := ⟨4, by decide +kernel, rfl, by decide⟩
theorem D_mo_told_105 : Dc M_mo_told 105 (.iconst 0) 1 106 := ⟨by decide +kernel, rfl⟩
theorem D_mo_told_106 : Dc M_mo_told 106 (.ireturn) 1 107 := ⟨by decide +kernel, rfl⟩
theorem D_mo_told_107 : Dc M_mo_told 107 (.aload_n 0) 1 108 := ⟨by decide +kernel, rfl⟩
theorem D_mo_told_108 : DcV M_mo_told M_mo_ones 108 111 := ⟨96, by decide +kernel, rfl, ml_mo_96, by decide, by decide⟩
theorem D_mo_told_111 : Dc M_mo_told 111 (.ireturn) 1 112 := ⟨by decide +kernel, rfl⟩
theorem D_mo_told_112 : Dc M_mo_told 112 (.iconst 0) 1 113 := ⟨by decide +kernel, rfl⟩
theorem D_mo_told_113 : Dc M_mo_told 113 (.istore_n 3) 1 114 := ⟨by decide +kernel, rfl⟩
theorem D_mo_told_114 : Dc M_mo_told 114 (.iload_n 3) 1 115 := ⟨by decide +kernel, rfl⟩
theorem D_mo_told_115 : Dc M_mo_told 115 (.aload_n 0) 1 116 := ⟨by decide +kernel, rfl⟩
theorem D_mo_told_116 : DcV M_mo_told M_mo_states 116 119 := ⟨69, by decide +kernel, rfl, ml_mo_69, by decide, by decide⟩
theorem D_mo_told_119 : Dj M_mo_told 119 (.if_icmp .ge) 122 149 := ⟨30, by decide +kernel, rfl, by decide⟩
theorem D_mo_told_122 : Dc M_mo_told 122 (.aload_n 0) 1 123 := ⟨by decide +kernel, rfl⟩
theorem D_mo_told_123 : Dg M_mo_told 123 126 6 9 R_mo T_mo 21 := ⟨26, by decide +kernel, rfl, rfl, by decide, fl_mo_26, in_mo⟩
theorem D_mo_told_126 : Dc M_mo_told 126 (.iload_n 3) 1 127 := ⟨by decide +kernel, rfl⟩
theorem D_mo_told_127 : Dc M_mo_told 127 (.iaload) 1 128 := ⟨by decide +kernel, rfl⟩
theorem D_mo_told_128 : Dc M_mo_told 128 (.iload_n 2) 1 129 := ⟨by decide +kernel, rfl⟩
theorem D_mo_told_129 : Dj M_mo_told 129 (.if_icmp .le) 132 141 := ⟨12, by decide +kernel, rfl, by decide⟩
theorem D_mo_told_132 : Dc M_mo_told 132 (.aload_n 0) 1 133 := ⟨by decide +kernel, rfl⟩
theorem D_mo_told_133 : Dg M_mo_told 133 136 6 9 R_mo T_mo 21 := ⟨26, by decide +kernel, rfl, rfl, by decide, fl_mo_26, in_mo⟩
theorem D_mo_told_136 : Dc M_mo_told 136 (.iload_n 3) 1 137 := ⟨by decide +kernel, rfl⟩
theorem D_mo_told_137 : Dc M_mo_told 137 (.iaload) 1 138 := ⟨by decide +kernel, rfl⟩
theorem D_mo_told_138 : Dj M_mo_told 138 (.goto) 141 142 := ⟨4, by decide +kernel, rfl, by decide⟩
theorem D_mo_told_141 : Dc M_mo_told 141 (.iload_n 2) 1 142 := ⟨by decide +kernel, rfl⟩
theorem D_mo_told_142 : Dc M_mo_told 142 (.istore_n 2) 1 143 := ⟨by decide +kernel, rfl⟩
theorem D_mo_told_143 : Dc M_mo_told 143 (.iinc 3 1) 3 146 := ⟨by decide +kernel, rfl⟩
theorem D_mo_told_146 : Dj M_mo_told 146 (.goto) 149 114 := ⟨(-32), by decide +kernel, rfl, by decide⟩
theorem D_mo_told_149 : Dc M_mo_told 149 (.iload_n 2) 1 150 := ⟨by decide +kernel, rfl⟩
theorem D_mo_told_150 : Dc M_mo_told 150 (.ireturn) 1 151 := ⟨by decide +kernel, rfl⟩
theorem D_mo_told_151 : Dc M_mo_told 151 (.iconst 0) 1 152 := ⟨by decide +kernel, rfl⟩
theorem D_mo_told_152 : Dc M_mo_told 152 (.istore_n 3) 1 153 := ⟨by decide +kernel, rfl⟩
theorem D_mo_told_153 : Dc M_mo_told 153 (.iload_n 3) 1 154 := ⟨by decide +kernel, rfl⟩
theorem D_mo_told_154 : Dc M_mo_told 154 (.aload_n 0) 1 155 := ⟨by decide +kernel, rfl⟩
theorem D_mo_told_155 : DcV M_mo_told M_mo_states 155 158 := ⟨69, by decide +kernel, rfl, ml_mo_69, by decide, by decide⟩
theorem D_mo_told_158 : Dj M_mo_told 158 (.if_icmp .ge) 161 184 := ⟨26, by decide +kernel, rfl, by decide⟩
theorem D_mo_told_161 : Dc M_mo_told 161 (.iload_n 2) 1 162 := ⟨by decide +kernel, rfl⟩
theorem D_mo_told_162 : Dc M_mo_told 162 (.aload_n 0) 1 163 := ⟨by decide +kernel, rfl⟩
theorem D_mo_told_163 : Dc M_mo_told 163 (.iload_n 3) 1 164 := ⟨by decide +kernel, rfl⟩
theorem D_mo_told_164 : Dc M_mo_told 164 (.iconst (-1)) 1 165 := ⟨by decide +kernel, rfl⟩
theorem ml_mo_118 : Cond.methodLink R_mo 118 M_mo_back.1 ∈ gtb := mem_g 811 (by decide +kernel) rfl
theorem D_mo_told_165 : DcV M_mo_told M_mo_back 165 168 := ⟨118, by decide +kernel, rfl, ml_mo_118, by decide, by decide⟩
theorem D_mo_told_168 : Dj M_mo_told 168 (.ifCond .ne) 171 175 := ⟨7, by decide +kernel, rfl, by decide⟩
theorem D_mo_told_171 : Dc M_mo_told 171 (.iconst 1) 1 172 := ⟨by decide +kernel, rfl⟩
theorem D_mo_told_172 : Dj M_mo_told 172 (.goto) 175 176 := ⟨4, by decide +kernel, rfl, by decide⟩
theorem D_mo_told_175 : Dc M_mo_told 175 (.iconst 0) 1 176 := ⟨by decide +kernel, rfl⟩
theorem D_mo_told_176 : Dc M_mo_told 176 (.iadd) 1 177 := ⟨by decide +kernel, rfl⟩
theorem D_mo_told_177 : Dc M_mo_told 177 (.istore_n 2) 1 178 := ⟨by decide +kernel, rfl⟩
theorem D_mo_told_178 : Dc M_mo_told 178 (.iinc 3 1) 3 181 := ⟨by decide +kernel, rfl⟩
theorem D_mo_told_181 : Dj M_mo_told 181 (.goto) 184 153 := ⟨(-28), by decide +kernel, rfl, by decide⟩
theorem D_mo_told_184 : Dc M_mo_told 184 (.iload_n 2) 1 185 := ⟨by decide +kernel, rfl⟩
theorem D_mo_told_185 : Dc M_mo_told 185 (.ireturn) 1 186 := ⟨by decide +kernel, rfl⟩
theorem D_mo_told_186 : Dc M_mo_told 186 (.bipush (-2)) 2 188 := ⟨by decide +kernel, rfl⟩
theorem D_mo_told_188 : Dc M_mo_told 188 (.ireturn) 1 189 := ⟨by decide +kernel, rfl⟩
theorem D_mo_turnPair_0 : Dc M_mo_turnPair 0 (.aload_n 0) 1 1 := ⟨by decide +kernel, rfl⟩
theorem D_mo_turnPair_1 : Dg M_mo_turnPair 1 4 6 3 R_mo T_mo 21 := ⟨13, by decide +kernel, rfl, rfl, by decide, fl_mo_13, in_mo⟩
theorem D_mo_turnPair_4 : Dc M_mo_turnPair 4 (.iconst 2) 1 5 := ⟨by decide +kernel, rfl⟩
theorem D_mo_turnPair_5 : Dc M_mo_turnPair 5 (.iload_n 1) 1 6 := ⟨by decide +kernel, rfl⟩
theorem D_mo_turnPair_6 : Dc M_mo_turnPair 6 (.imul) 1 7 := ⟨by decide +kernel, rfl⟩
theorem D_mo_turnPair_7 : Dc M_mo_turnPair 7 (.dup2) 1 8 := ⟨by decide +kernel, rfl⟩
theorem D_mo_turnPair_8 : Dc M_mo_turnPair 8 (.iaload) 1 9 := ⟨by decide +kernel, rfl⟩
theorem D_mo_turnPair_9 : Dc M_mo_turnPair 9 (.iconst 1) 1 10 := ⟨by decide +kernel, rfl⟩
theorem D_mo_turnPair_10 : Dc M_mo_turnPair 10 (.ixor) 1 11 := ⟨by decide +kernel, rfl⟩
theorem D_mo_turnPair_11 : Dc M_mo_turnPair 11 (.iastore) 1 12 := ⟨by decide +kernel, rfl⟩
theorem D_mo_turnPair_12 : Dc M_mo_turnPair 12 (.aload_n 0) 1 13 := ⟨by decide +kernel, rfl⟩
theorem D_mo_turnPair_13 : Dg M_mo_turnPair 13 16 6 3 R_mo T_mo 21 := ⟨13, by decide +kernel, rfl, rfl, by decide, fl_mo_13, in_mo⟩
theorem D_mo_turnPair_16 : Dc M_mo_turnPair 16 (.iconst 2) 1 17 := ⟨by decide +kernel, rfl⟩
theorem D_mo_turnPair_17 : Dc M_mo_turnPair 17 (.iload_n 1) 1 18 := ⟨by decide +kernel, rfl⟩
theorem D_mo_turnPair_18 : Dc M_mo_turnPair 18 (.imul) 1 19 := ⟨by decide +kernel, rfl⟩
theorem D_mo_turnPair_19 : Dc M_mo_turnPair 19 (.iconst 1) 1 20 := ⟨by decide +kernel, rfl⟩
theorem D_mo_turnPair_20 : Dc M_mo_turnPair 20 (.iadd) 1 21 := ⟨by decide +kernel, rfl⟩
theorem D_mo_turnPair_21 : Dc M_mo_turnPair 21 (.dup2) 1 22 := ⟨by decide +kernel, rfl⟩
theorem D_mo_turnPair_22 : Dc M_mo_turnPair 22 (.iaload) 1 23 := ⟨by decide +kernel, rfl⟩
theorem D_mo_turnPair_23 : Dc M_mo_turnPair 23 (.iconst 1) 1 24 := ⟨by decide +kernel, rfl⟩
theorem D_mo_turnPair_24 : Dc M_mo_turnPair 24 (.ixor) 1 25 := ⟨by decide +kernel, rfl⟩
theorem D_mo_turnPair_25 : Dc M_mo_turnPair 25 (.iastore) 1 26 := ⟨by decide +kernel, rfl⟩
theorem D_mo_turnPair_26 : Dc M_mo_turnPair 26 (.aload_n 0) 1 27 := ⟨by decide +kernel, rfl⟩
theorem D_mo_turnPair_27 : Dc M_mo_turnPair 27 (.iconst 0) 1 28 := ⟨by decide +kernel, rfl⟩
theorem D_mo_turnPair_28 : Dp M_mo_turnPair 28 31 6 4 R_mo T_mo 21 := ⟨73, by decide +kernel, rfl, rfl, by decide, fl_mo_73, in_mo, rfl⟩
theorem D_mo_turnPair_31 : Dc M_mo_turnPair 31 (.aload_n 0) 1 32 := ⟨by decide +kernel, rfl⟩
theorem D_mo_turnPair_32 : DcV M_mo_turnPair M_mo_find 32 35 := ⟨109, by decide +kernel, rfl, ml_mo_109, by decide, by decide⟩
theorem D_mo_turnPair_35 : Dc M_mo_turnPair 35 (.return_) 1 36 := ⟨by decide +kernel, rfl⟩
theorem D_mo_turn_0 : Dc M_mo_turn 0 (.iload_n 1) 1 1 := ⟨by decide +kernel, rfl⟩
theorem D_mo_turn_1 : Dc M_mo_turn 1 (.i2l) 1 2 := ⟨by decide +kernel, rfl⟩
theorem D_mo_turn_2 : Dc M_mo_turn 2 (.lconst 0) 1 3 := ⟨by decide +kernel, rfl⟩
theorem D_mo_turn_3 : Dc M_mo_turn 3 (.aload_n 0) 1 4 := ⟨by decide +kernel, rfl⟩
theorem D_mo_turn_4 : DcV M_mo_turn M_mo_states 4 7 := ⟨69, by decide +kernel, rfl, ml_mo_69, by decide, by decide⟩
theorem D_mo_turn_7 : Dc M_mo_turn 7 (.iconst 2) 1 8 := ⟨by decide +kernel, rfl⟩
theorem D_mo_turn_8 : Dc M_mo_turn 8 (.idiv) 1 9 := ⟨by decide +kernel, rfl⟩
theorem D_mo_turn_9 : Dc M_mo_turn 9 (.iconst 1) 1 10 := ⟨by decide +kernel, rfl⟩
theorem D_mo_turn_10 : Dc M_mo_turn 10 (.isub) 1 11 := ⟨by decide +kernel, rfl⟩
theorem D_mo_turn_11 : Dc M_mo_turn 11 (.i2l) 1 12 := ⟨by decide +kernel, rfl⟩
theorem D_mo_turn_12 : DcS M_mo_turn M_mo_within 12 15 := ⟨88, by decide +kernel, rfl, ml_mo_88, by decide, by decide⟩
theorem D_mo_turn_15 : Dj M_mo_turn 15 (.ifCond .ne) 18 20 := ⟨5, by decide +kernel, rfl, by decide⟩
theorem D_mo_turn_18 : Dc M_mo_turn 18 (.iconst (-1)) 1 19 := ⟨by decide +kernel, rfl⟩
theorem D_mo_turn_19 : Dc M_mo_turn 19 (.ireturn) 1 20 := ⟨by decide +kernel, rfl⟩
theorem D_mo_turn_20 : Dc M_mo_turn 20 (.aload_n 0) 1 21 := ⟨by decide +kernel, rfl⟩
theorem D_mo_turn_21 : DcV M_mo_turn M_mo_isPure 21 24 := ⟨114, by decide +kernel, rfl, ml_mo_114, by decide, by decide⟩
theorem D_mo_turn_24 : Dj M_mo_turn 24 (.ifCond .ne) 27 30 := ⟨6, by decide +kernel, rfl, by decide⟩
theorem D_mo_turn_27 : Dc M_mo_turn 27 (.bipush (-3)) 2 29 := ⟨by decide +kernel, rfl⟩
theorem D_mo_turn_29 : Dc M_mo_turn 29 (.ireturn) 1 30 := ⟨by decide +kernel, rfl⟩
theorem D_mo_turn_30 : Dc M_mo_turn 30 (.aload_n 0) 1 31 := ⟨by decide +kernel, rfl⟩
theorem D_mo_turn_31 : Dc M_mo_turn 31 (.iload_n 1) 1 32 := ⟨by decide +kernel, rfl⟩
theorem ml_mo_121 : Cond.methodLink R_mo 121 M_mo_turnPair.1 ∈ gtb := mem_g 816 (by decide +kernel) rfl
theorem D_mo_turn_32 : DcV M_mo_turn M_mo_turnPair 32 35 := ⟨121, by decide +kernel, rfl, ml_mo_121, by decide, by decide⟩
theorem D_mo_turn_35 : Dc M_mo_turn 35 (.aload_n 0) 1 36 := ⟨by decide +kernel, rfl⟩
theorem D_mo_turn_36 : Dg M_mo_turn 36 39 6 5 R_mo T_mo 21 := ⟨81, by decide +kernel, rfl, rfl, by decide, fl_mo_81, in_mo⟩
theorem D_mo_turn_39 : Dc M_mo_turn 39 (.ireturn) 1 40 := ⟨by decide +kernel, rfl⟩
theorem D_mo_join_0 : Dc M_mo_join 0 (.aload_n 0) 1 1 := ⟨by decide +kernel, rfl⟩
theorem D_mo_join_1 : DcV M_mo_join M_mo_isPure 1 4 := ⟨114, by decide +kernel, rfl, ml_mo_114, by decide, by decide⟩
theorem D_mo_join_4 : Dj M_mo_join 4 (.ifCond .ne) 7 10 := ⟨6, by decide +kernel, rfl, by decide⟩
theorem D_mo_join_7 : Dc M_mo_join 7 (.bipush (-3)) 2 9 := ⟨by decide +kernel, rfl⟩
theorem D_mo_join_9 : Dc M_mo_join 9 (.ireturn) 1 10 := ⟨by decide +kernel, rfl⟩
theorem D_mo_join_10 : Dc M_mo_join 10 (.aload_n 0) 1 11 := ⟨by decide +kernel, rfl⟩
theorem D_mo_join_11 : DcV M_mo_join M_mo_find 11 14 := ⟨109, by decide +kernel, rfl, ml_mo_109, by decide, by decide⟩
theorem D_mo_join_14 : Dc M_mo_join 14 (.iconst 0) 1 15 := ⟨by decide +kernel, rfl⟩
theorem D_mo_join_15 : Dc M_mo_join 15 (.istore_n 1) 1 16 := ⟨by decide +kernel, rfl⟩
theorem D_mo_join_16 : Dc M_mo_join 16 (.iconst 0) 1 17 := ⟨by decide +kernel, rfl⟩
theorem D_mo_join_17 : Dc M_mo_join 17 (.istore_n 2) 1 18 := ⟨by decide +kernel, rfl⟩
theorem D_mo_join_18 : Dc M_mo_join 18 (.iload_n 2) 1 19 := ⟨by decide +kernel, rfl⟩
theorem D_mo_join_19 : Dc M_mo_join 19 (.aload_n 0) 1 20 := ⟨by decide +kernel, rfl⟩
theorem D_mo_join_20 : DcV M_mo_join M_mo_states 20 23 := ⟨69, by decide +kernel, rfl, ml_mo_69, by decide, by decide⟩
theorem D_mo_join_23 : Dc M_mo_join 23 (.iconst 2) 1 24 := ⟨by decide +kernel, rfl⟩
theorem D_mo_join_24 : Dc M_mo_join 24 (.idiv) 1 25 := ⟨by decide +kernel, rfl⟩
theorem D_mo_join_25 : Dj M_mo_join 25 (.if_icmp .ge) 28 71 := ⟨46, by decide +kernel, rfl, by decide⟩
theorem D_mo_join_28 : Dc M_mo_join 28 (.aload_n 0) 1 29 := ⟨by decide +kernel, rfl⟩
theorem D_mo_join_29 : Dg M_mo_join 29 32 6 5 R_mo T_mo 21 := ⟨81, by decide +kernel, rfl, rfl, by decide, fl_mo_81, in_mo⟩
theorem D_mo_join_32 : Dc M_mo_join 32 (.iconst 1) 1 33 := ⟨by decide +kernel, rfl⟩
theorem D_mo_join_33 : Dj M_mo_join 33 (.if_icmp .le) 36 71 := ⟨38, by decide +kernel, rfl, by decide⟩
theorem D_mo_join_36 : Dc M_mo_join 36 (.aload_n 0) 1 37 := ⟨by decide +kernel, rfl⟩
theorem D_mo_join_37 : Dg M_mo_join 37 40 6 8 R_mo T_mo 21 := ⟨23, by decide +kernel, rfl, rfl, by decide, fl_mo_23, in_mo⟩
theorem D_mo_join_40 : Dc M_mo_join 40 (.iconst 2) 1 41 := ⟨by decide +kernel, rfl⟩
theorem D_mo_join_41 : Dc M_mo_join 41 (.iload_n 2) 1 42 := ⟨by decide +kernel, rfl⟩
theorem D_mo_join_42 : Dc M_mo_join 42 (.imul) 1 43 := ⟨by decide +kernel, rfl⟩
theorem D_mo_join_43 : Dc M_mo_join 43 (.iaload) 1 44 := ⟨by decide +kernel, rfl⟩
theorem D_mo_join_44 : Dc M_mo_join 44 (.aload_n 0) 1 45 := ⟨by decide +kernel, rfl⟩
theorem D_mo_join_45 : Dg M_mo_join 45 48 6 8 R_mo T_mo 21 := ⟨23, by decide +kernel, rfl, rfl, by decide, fl_mo_23, in_mo⟩
theorem D_mo_join_48 : Dc M_mo_join 48 (.iconst 2) 1 49 := ⟨by decide +kernel, rfl⟩
theorem D_mo_join_49 : Dc M_mo_join 49 (.iload_n 2) 1 50 := ⟨by decide +kernel, rfl⟩
theorem D_mo_join_50 : Dc M_mo_join 50 (.imul) 1 51 := ⟨by decide +kernel, rfl⟩
theorem D_mo_join_51 : Dc M_mo_join 51 (.iconst 1) 1 52 := ⟨by decide +kernel, rfl⟩
theorem D_mo_join_52 : Dc M_mo_join 52 (.iadd) 1 53 := ⟨by decide +kernel, rfl⟩
theorem D_mo_join_53 : Dc M_mo_join 53 (.iaload) 1 54 := ⟨by decide +kernel, rfl⟩
theorem D_mo_join_54 : Dj M_mo_join 54 (.if_icmp .eq) 57 65 := ⟨11, by decide +kernel, rfl, by decide⟩
theorem D_mo_join_57 : Dc M_mo_join 57 (.aload_n 0) 1 58 := ⟨by decide +kernel, rfl⟩
theorem D_mo_join_58 : Dc M_mo_join 58 (.iload_n 2) 1 59 := ⟨by decide +kernel, rfl⟩
theorem D_mo_join_59 : DcV M_mo_join M_mo_turnPair 59 62 := ⟨121, by decide +kernel, rfl, ml_mo_121, by decide, by decide⟩
theorem D_mo_join_62 : Dc M_mo_join 62 (.iinc 1 1) 3 65 := ⟨by decide +kernel, rfl⟩
theorem D_mo_join_65 : Dc M_mo_join 65 (.iinc 2 1) 3 68 := ⟨by decide +kernel, rfl⟩
theorem D_mo_join_68 : Dj M_mo_join 68 (.goto) 71 18 := ⟨(-50), by decide +kernel, rfl, by decide⟩
theorem D_mo_join_71 : Dc M_mo_join 71 (.iload_n 1) 1 72 := ⟨by decide +kernel, rfl⟩
theorem D_mo_join_72 : Dc M_mo_join 72 (.ireturn) 1 73 := ⟨by decide +kernel, rfl⟩
theorem D_mo_inverse_0 : Dc M_mo_inverse 0 (.lconst 1) 1 1 := ⟨by decide +kernel, rfl⟩
theorem D_mo_inverse_1 : Dc M_mo_inverse 1 (.lstore_n 2) 1 2 := ⟨by decide +kernel, rfl⟩
theorem D_mo_inverse_2 : Dc M_mo_inverse 2 (.lload_n 0) 1 3 := ⟨by decide +kernel, rfl⟩
theorem D_mo_inverse_3 : Dc M_mo_inverse 3 (.lstore 4) 2 5 := ⟨by decide +kernel, rfl⟩
theorem D_mo_inverse_5 : Dk M_mo_inverse 5 7 (nI 1000001) := ⟨125, Or.inl ⟨by decide +kernel, rfl⟩, by decide +kernel⟩
theorem D_mo_inverse_7 : Dc M_mo_inverse 7 (.istore 6) 2 9 := ⟨by decide +kernel, rfl⟩
theorem D_mo_inverse_9 : Dc M_mo_inverse 9 (.iload 6) 2 11 := ⟨by decide +kernel, rfl⟩
theorem D_mo_inverse_11 : Dj M_mo_inverse 11 (.ifCond .le) 14 51 := ⟨40, by decide +kernel, rfl, by decide⟩
theorem D_mo_inverse_14 : Dc M_mo_inverse 14 (.iload 6) 2 16 := ⟨by decide +kernel, rfl⟩
theorem D_mo_inverse_16 : Dc M_mo_inverse 16 (.iconst 2) 1 17 := ⟨by decide +kernel, rfl⟩
theorem D_mo_inverse_17 : Dc M_mo_inverse 17 (.irem) 1 18 := ⟨by decide +kernel, rfl⟩
theorem D_mo_inverse_18 : Dc M_mo_inverse 18 (.iconst 1) 1 19 := ⟨by decide +kernel, rfl⟩
theorem D_mo_inverse_19 : Dj M_mo_inverse 19 (.if_icmp .ne) 22 31 := ⟨12, by decide +kernel, rfl, by decide⟩
theorem D_mo_inverse_22 : Dc M_mo_inverse 22 (.lload_n 2) 1 23 := ⟨by decide +kernel, rfl⟩
theorem D_mo_inverse_23 : Dc M_mo_inverse 23 (.lload 4) 2 25 := ⟨by decide +kernel, rfl⟩
theorem D_mo_inverse_25 : Dc M_mo_inverse 25 (.lmul) 1 26 := ⟨by decide +kernel, rfl⟩
theorem D_mo_inverse_26 : Dl M_mo_inverse 26 29 (lN 1000003) := ⟨126, by decide +kernel, rfl, by decide +kernel⟩
theorem D_mo_inverse_29 : Dc M_mo_inverse 29 (.lrem) 1 30 := ⟨by decide +kernel, rfl⟩
theorem D_mo_inverse_30 : Dc M_mo_inverse 30 (.lstore_n 2) 1 31 := ⟨by decide +kernel, rfl⟩
theorem D_mo_inverse_31 : Dc M_mo_inverse 31 (.lload 4) 2 33 := ⟨by decide +kernel, rfl⟩
theorem D_mo_inverse_33 : Dc M_mo_inverse 33 (.lload 4) 2 35 := ⟨by decide +kernel, rfl⟩
theorem D_mo_inverse_35 : Dc M_mo_inverse 35 (.lmul) 1 36 := ⟨by decide +kernel, rfl⟩
theorem D_mo_inverse_36 : Dl M_mo_inverse 36 39 (lN 1000003) := ⟨126, by decide +kernel, rfl, by decide +kernel⟩
theorem D_mo_inverse_39 : Dc M_mo_inverse 39 (.lrem) 1 40 := ⟨by decide +kernel, rfl⟩
theorem D_mo_inverse_40 : Dc M_mo_inverse 40 (.lstore 4) 2 42 := ⟨by decide +kernel, rfl⟩
theorem D_mo_inverse_42 : Dc M_mo_inverse 42 (.iload 6) 2 44 := ⟨by decide +kernel, rfl⟩
theorem D_mo_inverse_44 : Dc M_mo_inverse 44 (.iconst 2) 1 45 := ⟨by decide +kernel, rfl⟩
theorem D_mo_inverse_45 : Dc M_mo_inverse 45 (.idiv) 1 46 := ⟨by decide +kernel, rfl⟩
theorem D_mo_inverse_46 : Dc M_mo_inverse 46 (.istore 6) 2 48 := ⟨by decide +kernel, rfl⟩
theorem D_mo_inverse_48 : Dj M_mo_inverse 48 (.goto) 51 9 := ⟨(-39), by decide +kernel, rfl, by decide⟩
theorem D_mo_inverse_51 : Dc M_mo_inverse 51 (.lload_n 2) 1 52 := ⟨by decide +kernel, rfl⟩
theorem D_mo_inverse_52 : Dc M_mo_inverse 52 (.lreturn) 1 53 := ⟨by decide +kernel, rfl⟩
theorem D_mo_addTo_0 : Dc M_mo_addTo 0 (.iload_n 1) 1 1 := ⟨by decide +kernel, rfl⟩
theorem D_mo_addTo_1 : Dc M_mo_addTo 1 (.iload_n 3) 1 2 := ⟨by decide +kernel, rfl⟩
theorem D_mo_addTo_2 : Dj M_mo_addTo 2 (.if_icmp .ge) 5 41 := ⟨39, by decide +kernel, rfl, by decide⟩
theorem D_mo_addTo_5 : Dc M_mo_addTo 5 (.iload_n 2) 1 6 := ⟨by decide +kernel, rfl⟩
theorem D_mo_addTo_6 : Dc M_mo_addTo 6 (.iload_n 3) 1 7 := ⟨by decide +kernel, rfl⟩
theorem D_mo_addTo_7 : Dj M_mo_addTo 7 (.if_icmp .ge) 10 41 := ⟨34, by decide +kernel, rfl, by decide⟩
theorem D_mo_addTo_10 : Dc M_mo_addTo 10 (.aload_n 0) 1 11 := ⟨by decide +kernel, rfl⟩
theorem D_mo_addTo_11 : Dg M_mo_addTo 11 14 6 16 R_mo T_mo 21 := ⟨48, by decide +kernel, rfl, rfl, by decide, fl_mo_48, in_mo⟩
theorem D_mo_addTo_14 : Dc M_mo_addTo 14 (.iload_n 3) 1 15 := ⟨by decide +kernel, rfl⟩
theorem D_mo_addTo_15 : Dc M_mo_addTo 15 (.iload_n 1) 1 16 := ⟨by decide +kernel, rfl⟩
theorem D_mo_addTo_16 : Dc M_mo_addTo 16 (.imul) 1 17 := ⟨by decide +kernel, rfl⟩
theorem D_mo_addTo_17 : Dc M_mo_addTo 17 (.iload_n 2) 1 18 := ⟨by decide +kernel, rfl⟩
theorem D_mo_addTo_18 : Dc M_mo_addTo 18 (.iadd) 1 19 := ⟨by decide +kernel, rfl⟩
theorem D_mo_addTo_19 : Dc M_mo_addTo 19 (.aload_n 0) 1 20 := ⟨by decide +kernel, rfl⟩
theorem D_mo_addTo_20 : Dg M_mo_addTo 20 23 6 16 R_mo T_mo 21 := ⟨48, by decide +kernel, rfl, rfl, by decide, fl_mo_48, in_mo⟩
theorem D_mo_addTo_23 : Dc M_mo_addTo 23 (.iload_n 3) 1 24 := ⟨by decide +kernel, rfl⟩
theorem D_mo_addTo_24 : Dc M_mo_addTo 24 (.iload_n 1) 1 25 := ⟨by decide +kernel, rfl⟩
theorem D_mo_addTo_25 : Dc M_mo_addTo 25 (.imul) 1 26 := ⟨by decide +kernel, rfl⟩
theorem D_mo_addTo_26 : Dc M_mo_addTo 26 (.iload_n 2) 1 27 := ⟨by decide +kernel, rfl⟩
theorem D_mo_addTo_27 : Dc M_mo_addTo 27 (.iadd) 1 28 := ⟨by decide +kernel, rfl⟩
theorem D_mo_addTo_28 : Dc M_mo_addTo 28 (.laload) 1 29 := ⟨by decide +kernel, rfl⟩
theorem D_mo_addTo_29 : Dl M_mo_addTo 29 32 (lN 1000003) := ⟨126, by decide +kernel, rfl, by decide +kernel⟩
theorem D_mo_addTo_32 : Dc M_mo_addTo 32 (.ladd) 1 33 := ⟨by decide +kernel, rfl⟩
theorem D_mo_addTo_33 : Dc M_mo_addTo 33 (.lload 4) 2 35 := ⟨by decide +kernel, rfl⟩
theorem D_mo_addTo_35 : Dc M_mo_addTo 35 (.ladd) 1 36 := ⟨by decide +kernel, rfl⟩
theorem D_mo_addTo_36 : Dl M_mo_addTo 36 39 (lN 1000003) := ⟨126, by decide +kernel, rfl, by decide +kernel⟩
theorem D_mo_addTo_39 : Dc M_mo_addTo 39 (.lrem) 1 40 := ⟨by decide +kernel, rfl⟩
theorem D_mo_addTo_40 : Dc M_mo_addTo 40 (.lastore) 1 41 := ⟨by decide +kernel, rfl⟩
theorem D_mo_addTo_41 : Dc M_mo_addTo 41 (.return_) 1 42 := ⟨by decide +kernel, rfl⟩
theorem D_mo_determinant_0 : Dc M_mo_determinant 0 (.lconst 1) 1 1 := ⟨by decide +kernel, rfl⟩
theorem D_mo_determinant_1 : Dc M_mo_determinant 1 (.lstore_n 2) 1 2 := ⟨by decide +kernel, rfl⟩
theorem D_mo_determinant_2 : Dc M_mo_determinant 2 (.iconst 0) 1 3 := ⟨by decide +kernel, rfl⟩
theorem D_mo_determinant_3 : Dc M_mo_determinant 3 (.istore 4) 2 5 := ⟨by decide +kernel, rfl⟩
theorem D_mo_determinant_5 : Dc M_mo_determinant 5 (.iload 4) 2 7 := ⟨by decide +kernel, rfl⟩
theorem D_mo_determinant_7 : Dc M_mo_determinant 7 (.iload_n 1) 1 8 := ⟨by decide +kernel, rfl⟩
theorem D_mo_determinant_8 : Dj M_mo_determinant 8 (.if_icmp .ge) 11 284 := ⟨276, by decide +kernel, rfl, by decide⟩
theorem D_mo_determinant_11 : Dc M_mo_determinant 11 (.iload 4) 2 13 := ⟨by decide +kernel, rfl⟩
theorem D_mo_determinant_13 : Dc M_mo_determinant 13 (.istore 5) 2 15 := ⟨by decide +kernel, rfl⟩
theorem D_mo_determinant_15 : Dc M_mo_determinant 15 (.iload 5) 2 17 := ⟨by decide +kernel, rfl⟩
theorem D_mo_determinant_17 : Dc M_mo_determinant 17 (.iload_n 1) 1 18 := ⟨by decide +kernel, rfl⟩
theorem D_mo_determinant_18 : Dj M_mo_determinant 18 (.if_icmp .ge) 21 44 := ⟨26, by decide +kernel, rfl, by decide⟩
theorem D_mo_determinant_21 : Dc M_mo_determinant 21 (.aload_n 0) 1 22 := ⟨by decide +kernel, rfl⟩
theorem D_mo_determinant_22 : Dg M_mo_determinant 22 25 6 16 R_mo T_mo 21 := ⟨48, by decide +kernel, rfl, rfl, by decide, fl_mo_48, in_mo⟩
theorem D_mo_determinant_25 : Dc M_mo_determinant 25 (.iload_n 1) 1 26 := ⟨by decide +kernel, rfl⟩
theorem D_mo_determinant_26 : Dc M_mo_determinant 26 (.iload 5) 2 28 := ⟨by decide +kernel, rfl⟩
theorem D_mo_determinant_28 : Dc M_mo_determinant 28 (.imul) 1 29 := ⟨by decide +kernel, rfl⟩
theorem D_mo_determinant_29 : Dc M_mo_determinant 29 (.iload 4) 2 31 := ⟨by decide +kernel, rfl⟩
theorem D_mo_determinant_31 : Dc M_mo_determinant 31 (.iadd) 1 32 := ⟨by decide +kernel, rfl⟩
theorem D_mo_determinant_32 : Dc M_mo_determinant 32 (.laload) 1 33 := ⟨by decide +kernel, rfl⟩
theorem D_mo_determinant_33 : Dc M_mo_determinant 33 (.lconst 0) 1 34 := ⟨by decide +kernel, rfl⟩
theorem D_mo_determinant_34 : Dc M_mo_determinant 34 (.lcmp) 1 35 := ⟨by decide +kernel, rfl⟩
theorem D_mo_determinant_35 : Dj M_mo_determinant 35 (.ifCond .ne) 38 44 := ⟨9, by decide +kernel, rfl, by decide⟩
theorem D_mo_determinant_38 : Dc M_mo_determinant 38 (.iinc 5 1) 3 41 := ⟨by decide +kernel, rfl⟩
theorem D_mo_determinant_41 : Dj M_mo_determinant 41 (.goto) 44 15 := ⟨(-26), by decide +kernel, rfl, by decide⟩
theorem D_mo_determinant_44 : Dc M_mo_determinant 44 (.iload 5) 2 46 := ⟨by decide +kernel, rfl⟩
theorem D_mo_determinant_46 : Dc M_mo_determinant 46 (.iload_n 1) 1 47 := ⟨by decide +kernel, rfl⟩
theorem D_mo_determinant_47 : Dj M_mo_determinant 47 (.if_icmp .ne) 50 52 := ⟨5, by decide +kernel, rfl, by decide⟩
theorem D_mo_determinant_50 : Dc M_mo_determinant 50 (.iconst 0) 1 51 := ⟨by decide +kernel, rfl⟩
theorem D_mo_determinant_51 : Dc M_mo_determinant 51 (.ireturn) 1 52 := ⟨by decide +kernel, rfl⟩
theorem D_mo_determinant_52 : Dc M_mo_determinant 52 (.iload 5) 2 54 := ⟨by decide +kernel, rfl⟩
theorem D_mo_determinant_54 : Dc M_mo_determinant 54 (.iload 4) 2 56 := ⟨by decide +kernel, rfl⟩
theorem D_mo_determinant_56 : Dj M_mo_determinant 56 (.if_icmp .eq) 59 132 := ⟨76, by decide +kernel, rfl, by decide⟩
theorem D_mo_determinant_59 : Dl M_mo_determinant 59 62 (lN 1000003) := ⟨126, by decide +kernel, rfl, by decide +kernel⟩
theorem D_mo_determinant_62 : Dc M_mo_determinant 62 (.lload_n 2) 1 63 := ⟨by decide +kernel, rfl⟩
theorem D_mo_determinant_63 : Dc M_mo_determinant 63 (.lsub) 1 64 := ⟨by decide +kernel, rfl⟩
theorem D_mo_determinant_64 : Dc M_mo_determinant 64 (.lstore_n 2) 1 65 := ⟨by decide +kernel, rfl⟩
theorem D_mo_determinant_65 : Dc M_mo_determinant 65 (.iconst 0) 1 66 := ⟨by decide +kernel, rfl⟩
theorem D_mo_determinant_66 : Dc M_mo_determinant 66 (.istore 6) 2 68 := ⟨by decide +kernel, rfl⟩
theorem D_mo_determinant_68 : Dc M_mo_determinant 68 (.iload 6) 2 70 := ⟨by decide +kernel, rfl⟩
theorem D_mo_determinant_70 : Dc M_mo_determinant 70 (.iload_n 1) 1 71 := ⟨by decide +kernel, rfl⟩
theorem D_mo_determinant_71 : Dj M_mo_determinant 71 (.if_icmp .ge) 74 132 := ⟨61, by decide +kernel, rfl, by decide⟩
theorem D_mo_determinant_74 : Dc M_mo_determinant 74 (.aload_n 0) 1 75 := ⟨by decide +kernel, rfl⟩
theorem D_mo_determinant_75 : Dg M_mo_determinant 75 78 6 16 R_mo T_mo 21 := ⟨48, by decide +kernel, rfl, rfl, by decide, fl_mo_48, in_mo⟩
theorem D_mo_determinant_78 : Dc M_mo_determinant 78 (.iload_n 1) 1 79 := ⟨by decide +kernel, rfl⟩
theorem D_mo_determinant_79 : Dc M_mo_determinant 79 (.iload 5) 2 81 := ⟨by decide +kernel, rfl⟩
theorem D_mo_determinant_81 : Dc M_mo_determinant 81 (.imul) 1 82 := ⟨by decide +kernel, rfl⟩
theorem D_mo_determinant_82 : Dc M_mo_determinant 82 (.iload 6) 2 84 := ⟨by decide +kernel, rfl⟩
theorem D_mo_determinant_84 : Dc M_mo_determinant 84 (.iadd) 1 85 := ⟨by decide +kernel, rfl⟩
theorem D_mo_determinant_85 : Dc M_mo_determinant 85 (.laload) 1 86 := ⟨by decide +kernel, rfl⟩
theorem D_mo_determinant_86 : Dc M_mo_determinant 86 (.lstore 7) 2 88 := ⟨by decide +kernel, rfl⟩
theorem D_mo_determinant_88 : Dc M_mo_determinant 88 (.aload_n 0) 1 89 := ⟨by decide +kernel, rfl⟩
theorem D_mo_determinant_89 : Dg M_mo_determinant 89 92 6 16 R_mo T_mo 21 := ⟨48, by decide +kernel, rfl, rfl, by decide, fl_mo_48, in_mo⟩
theorem D_mo_determinant_92 : Dc M_mo_determinant 92 (.iload_n 1) 1 93 := ⟨by decide +kernel, rfl⟩
theorem D_mo_determinant_93 : Dc M_mo_determinant 93 (.iload 5) 2 95 := ⟨by decide +kernel, rfl⟩
theorem D_mo_determinant_95 : Dc M_mo_determinant 95 (.imul) 1 96 := ⟨by decide +kernel, rfl⟩
theorem D_mo_determinant_96 : Dc M_mo_determinant 96 (.iload 6) 2 98 := ⟨by decide +kernel, rfl⟩
theorem D_mo_determinant_98 : Dc M_mo_determinant 98 (.iadd) 1 99 := ⟨by decide +kernel, rfl⟩
theorem D_mo_determinant_99 : Dc M_mo_determinant 99 (.aload_n 0) 1 100 := ⟨by decide +kernel, rfl⟩
theorem D_mo_determinant_100 : Dg M_mo_determinant 100 103 6 16 R_mo T_mo 21 := ⟨48, by decide +kernel, rfl, rfl, by decide, fl_mo_48, in_mo⟩
theorem D_mo_determinant_103 : Dc M_mo_determinant 103 (.iload_n 1) 1 104 := ⟨by decide +kernel, rfl⟩
theorem D_mo_determinant_104 : Dc M_mo_determinant 104 (.iload 4) 2 106 := ⟨by decide +kernel, rfl⟩
theorem D_mo_determinant_106 : Dc M_mo_determinant 106 (.imul) 1 107 := ⟨by decide +kernel, rfl⟩
theorem D_mo_determinant_107 : Dc M_mo_determinant 107 (.iload 6) 2 109 := ⟨by decide +kernel, rfl⟩
theorem D_mo_determinant_109 : Dc M_mo_determinant 109 (.iadd) 1 110 := ⟨by decide +kernel, rfl⟩
theorem D_mo_determinant_110 : Dc M_mo_determinant 110 (.laload) 1 111 := ⟨by decide +kernel, rfl⟩
theorem D_mo_determinant_111 : Dc M_mo_determinant 111 (.lastore) 1 112 := ⟨by decide +kernel, rfl⟩
theorem D_mo_determinant_112 : Dc M_mo_determinant 112 (.aload_n 0) 1 113 := ⟨by decide +kernel, rfl⟩
theorem D_mo_determinant_113 : Dg M_mo_determinant 113 116 6 16 R_mo T_mo 21 := ⟨48, by decide +kernel, rfl, rfl, by decide, fl_mo_48, in_mo⟩
theorem D_mo_determinant_116 : Dc M_mo_determinant 116 (.iload_n 1) 1 117 := ⟨by decide +kernel, rfl⟩
theorem D_mo_determinant_117 : Dc M_mo_determinant 117 (.iload 4) 2 119 := ⟨by decide +kernel, rfl⟩
theorem D_mo_determinant_119 : Dc M_mo_determinant 119 (.imul) 1 120 := ⟨by decide +kernel, rfl⟩
theorem D_mo_determinant_120 : Dc M_mo_determinant 120 (.iload 6) 2 122 := ⟨by decide +kernel, rfl⟩
theorem D_mo_determinant_122 : Dc M_mo_determinant 122 (.iadd) 1 123 := ⟨by decide +kernel, rfl⟩
theorem D_mo_determinant_123 : Dc M_mo_determinant 123 (.lload 7) 2 125 := ⟨by decide +kernel, rfl⟩
theorem D_mo_determinant_125 : Dc M_mo_determinant 125 (.lastore) 1 126 := ⟨by decide +kernel, rfl⟩
theorem D_mo_determinant_126 : Dc M_mo_determinant 126 (.iinc 6 1) 3 129 := ⟨by decide +kernel, rfl⟩
theorem D_mo_determinant_129 : Dj M_mo_determinant 129 (.goto) 132 68 := ⟨(-61), by decide +kernel, rfl, by decide⟩
theorem D_mo_determinant_132 : Dc M_mo_determinant 132 (.lload_n 2) 1 133 := ⟨by decide +kernel, rfl⟩
theorem D_mo_determinant_133 : Dc M_mo_determinant 133 (.aload_n 0) 1 134 := ⟨by decide +kernel, rfl⟩
theorem D_mo_determinant_134 : Dg M_mo_determinant 134 137 6 16 R_mo T_mo 21 := ⟨48, by decide +kernel, rfl, rfl, by decide, fl_mo_48, in_mo⟩
theorem D_mo_determinant_137 : Dc M_mo_determinant 137 (.iload_n 1) 1 138 := ⟨by decide +kernel, rfl⟩
theorem D_mo_determinant_138 : Dc M_mo_determinant 138 (.iload 4) 2 140 := ⟨by decide +kernel, rfl⟩
theorem D_mo_determinant_140 : Dc M_mo_determinant 140 (.imul) 1 141 := ⟨by decide +kernel, rfl⟩
theorem D_mo_determinant_141 : Dc M_mo_determinant 141 (.iload 4) 2 143 := ⟨by decide +kernel, rfl⟩
theorem D_mo_determinant_143 : Dc M_mo_determinant 143 (.iadd) 1 144 := ⟨by decide +kernel, rfl⟩
theorem D_mo_determinant_144 : Dc M_mo_determinant 144 (.laload) 1 145 := ⟨by decide +kernel, rfl⟩
theorem D_mo_determinant_145 : Dc M_mo_determinant 145 (.lmul) 1 146 := ⟨by decide +kernel, rfl⟩
theorem D_mo_determinant_146 : Dl M_mo_determinant 146 149 (lN 1000003) := ⟨126, by decide +kernel, rfl, by decide +kernel⟩
theorem D_mo_determinant_149 : Dc M_mo_determinant 149 (.lrem) 1 150 := ⟨by decide +kernel, rfl⟩
theorem D_mo_determinant_150 : Dc M_mo_determinant 150 (.lstore_n 2) 1 151 := ⟨by decide +kernel, rfl⟩
theorem D_mo_determinant_151 : Dc M_mo_determinant 151 (.aload_n 0) 1 152 := ⟨by decide +kernel, rfl⟩
theorem D_mo_determinant_152 : Dg M_mo_determinant 152 155 6 16 R_mo T_mo 21 := ⟨48, by decide +kernel, rfl, rfl, by decide, fl_mo_48, in_mo⟩
theorem D_mo_determinant_155 : Dc M_mo_determinant 155 (.iload_n 1) 1 156 := ⟨by decide +kernel, rfl⟩
theorem D_mo_determinant_156 : Dc M_mo_determinant 156 (.iload 4) 2 158 := ⟨by decide +kernel, rfl⟩
theorem D_mo_determinant_158 : Dc M_mo_determinant 158 (.imul) 1 159 := ⟨by decide +kernel, rfl⟩
theorem D_mo_determinant_159 : Dc M_mo_determinant 159 (.iload 4) 2 161 := ⟨by decide +kernel, rfl⟩
theorem D_mo_determinant_161 : Dc M_mo_determinant 161 (.iadd) 1 162 := ⟨by decide +kernel, rfl⟩
theorem D_mo_determinant_162 : Dc M_mo_determinant 162 (.laload) 1 163 := ⟨by decide +kernel, rfl⟩
theorem ml_mo_128 : Cond.methodLink R_mo 128 M_mo_inverse.1 ∈ gtb := mem_g 837 (by decide +kernel) rfl
theorem D_mo_determinant_163 : DcS M_mo_determinant M_mo_inverse 163 166 := ⟨128, by decide +kernel, rfl, ml_mo_128, by decide, by decide⟩
theorem D_mo_determinant_166 : Dc M_mo_determinant 166 (.lstore 6) 2 168 := ⟨by decide +kernel, rfl⟩
theorem D_mo_determinant_168 : Dc M_mo_determinant 168 (.iload 4) 2 170 := ⟨by decide +kernel, rfl⟩
theorem D_mo_determinant_170 : Dc M_mo_determinant 170 (.iconst 1) 1 171 := ⟨by decide +kernel, rfl⟩
theorem D_mo_determinant_171 : Dc M_mo_determinant 171 (.iadd) 1 172 := ⟨by decide +kernel, rfl⟩
theorem D_mo_determinant_172 : Dc M_mo_determinant 172 (.istore 8) 2 174 := ⟨by decide +kernel, rfl⟩
theorem D_mo_determinant_174 : Dc M_mo_determinant 174 (.iload 8) 2 176 := ⟨by decide +kernel, rfl⟩
theorem D_mo_determinant_176 : Dc M_mo_determinant 176 (.iload_n 1) 1 177 := ⟨by decide +kernel, rfl⟩
theorem D_mo_determinant_177 : Dj M_mo_determinant 177 (.if_icmp .ge) 180 278 := ⟨101, by decide +kernel, rfl, by decide⟩
theorem D_mo_determinant_180 : Dc M_mo_determinant 180 (.aload_n 0) 1 181 := ⟨by decide +kernel, rfl⟩
theorem D_mo_determinant_181 : Dg M_mo_determinant 181 184 6 16 R_mo T_mo 21 := ⟨48, by decide +kernel, rfl, rfl, by decide, fl_mo_48, in_mo⟩
theorem D_mo_determinant_184 : Dc M_mo_determinant 184 (.iload_n 1) 1 185 := ⟨by decide +kernel, rfl⟩
theorem D_mo_determinant_185 : Dc M_mo_determinant 185 (.iload 8) 2 187 := ⟨by decide +kernel, rfl⟩
theorem D_mo_determinant_187 : Dc M_mo_determinant 187 (.imul) 1 188 := ⟨by decide +kernel, rfl⟩
theorem D_mo_determinant_188 : Dc M_mo_determinant 188 (.iload 4) 2 190 := ⟨by decide +kernel, rfl⟩
theorem D_mo_determinant_190 : Dc M_mo_determinant 190 (.iadd) 1 191 := ⟨by decide +kernel, rfl⟩
theorem D_mo_determinant_191 : Dc M_mo_determinant 191 (.laload) 1 192 := ⟨by decide +kernel, rfl⟩
theorem D_mo_determinant_192 : Dc M_mo_determinant 192 (.lload 6) 2 194 := ⟨by decide +kernel, rfl⟩
theorem D_mo_determinant_194 : Dc M_mo_determinant 194 (.lmul) 1 195 := ⟨by decide +kernel, rfl⟩
theorem D_mo_determinant_195 : Dl M_mo_determinant 195 198 (lN 1000003) := ⟨126, by decide +kernel, rfl, by decide +kernel⟩
theorem D_mo_determinant_198 : Dc M_mo_determinant 198 (.lrem) 1 199 := ⟨by decide +kernel, rfl⟩
theorem D_mo_determinant_199 : Dc M_mo_determinant 199 (.lstore 9) 2 201 := ⟨by decide +kernel, rfl⟩
theorem D_mo_determinant_201 : Dc M_mo_determinant 201 (.iload 4) 2 203 := ⟨by decide +kernel, rfl⟩
theorem D_mo_determinant_203 : Dc M_mo_determinant 203 (.istore 11) 2 205 := ⟨by decide +kernel, rfl⟩
theorem D_mo_determinant_205 : Dc M_mo_determinant 205 (.iload 11) 2 207 := ⟨by decide +kernel, rfl⟩
theorem D_mo_determinant_207 : Dc M_mo_determinant 207 (.iload_n 1) 1 208 := ⟨by decide +kernel, rfl⟩
theorem D_mo_determinant_208 : Dj M_mo_determinant 208 (.if_icmp .ge) 211 272 := ⟨64, by decide +kernel, rfl, by decide⟩
theorem D_mo_determinant_211 : Dc M_mo_determinant 211 (.lload 9) 2 213 := ⟨by decide +kernel, rfl⟩
theorem D_mo_determinant_213 : Dc M_mo_determinant 213 (.lconst 0) 1 214 := ⟨by decide +kernel, rfl⟩
theorem D_mo_determinant_214 : Dc M_mo_determinant 214 (.lcmp) 1 215 := ⟨by decide +kernel, rfl⟩
theorem D_mo_determinant_215 : Dj M_mo_determinant 215 (.ifCond .eq) 218 272 := ⟨57, by decide +kernel, rfl, by decide⟩
theorem D_mo_determinant_218 : Dc M_mo_determinant 218 (.aload_n 0) 1 219 := ⟨by decide +kernel, rfl⟩
theorem D_mo_determinant_219 : Dg M_mo_determinant 219 222 6 16 R_mo T_mo 21 := ⟨48, by decide +kernel, rfl, rfl, by decide, fl_mo_48, in_mo⟩
theorem D_mo_determinant_222 : Dc M_mo_determinant 222 (.iload_n 1) 1 223 := ⟨by decide +kernel, rfl⟩
theorem D_mo_determinant_223 : Dc M_mo_determinant 223 (.iload 8) 2 225 := ⟨by decide +kernel, rfl⟩
theorem D_mo_determinant_225 : Dc M_mo_determinant 225 (.imul) 1 226 := ⟨by decide +kernel, rfl⟩
theorem D_mo_determinant_226 : Dc M_mo_determinant 226 (.iload 11) 2 228 := ⟨by decide +kernel, rfl⟩
theorem D_mo_determinant_228 : Dc M_mo_determinant 228 (.iadd) 1 229 := ⟨by decide +kernel, rfl⟩
theorem D_mo_determinant_229 : Dc M_mo_determinant 229 (.aload_n 0) 1 230 := ⟨by decide +kernel, rfl⟩
theorem D_mo_determinant_230 : Dg M_mo_determinant 230 233 6 16 R_mo T_mo 21 := ⟨48, by decide +kernel, rfl, rfl, by decide, fl_mo_48, in_mo⟩
theorem D_mo_determinant_233 : Dc M_mo_determinant 233 (.iload_n 1) 1 234 := ⟨by decide +kernel, rfl⟩
theorem D_mo_determinant_234 : Dc M_mo_determinant 234 (.iload 8) 2 236 := ⟨by decide +kernel, rfl⟩
theorem D_mo_determinant_236 : Dc M_mo_determinant 236 (.imul) 1 237 := ⟨by decide +kernel, rfl⟩
theorem D_mo_determinant_237 : Dc M_mo_determinant 237 (.iload 11) 2 239 := ⟨by decide +kernel, rfl⟩
theorem D_mo_determinant_239 : Dc M_mo_determinant 239 (.iadd) 1 240 := ⟨by decide +kernel, rfl⟩
theorem D_mo_determinant_240 : Dc M_mo_determinant 240 (.laload) 1 241 := ⟨by decide +kernel, rfl⟩
theorem D_mo_determinant_241 : Dl M_mo_determinant 241 244 (lN 1000003) := ⟨126, by decide +kernel, rfl, by decide +kernel⟩
theorem D_mo_determinant_244 : Dc M_mo_determinant 244 (.lload 9) 2 246 := ⟨by decide +kernel, rfl⟩
theorem D_mo_determinant_246 : Dc M_mo_determinant 246 (.lsub) 1 247 := ⟨by decide +kernel, rfl⟩
theorem D_mo_determinant_247 : Dc M_mo_determinant 247 (.aload_n 0) 1 248 := ⟨by decide +kernel, rfl⟩
theorem D_mo_determinant_248 : Dg M_mo_determinant 248 251 6 16 R_mo T_mo 21 := ⟨48, by decide +kernel, rfl, rfl, by decide, fl_mo_48, in_mo⟩
theorem D_mo_determinant_251 : Dc M_mo_determinant 251 (.iload_n 1) 1 252 := ⟨by decide +kernel, rfl⟩
end
section
theorem D_mo_determinant_252 : Dc M_mo_determinant 252 (.iload 4) 2 254 := ⟨by decide +kernel, rfl⟩
theorem D_mo_determinant_254 : Dc M_mo_determinant 254 (.imul) 1 255 := ⟨by decide +kernel, rfl⟩
theorem D_mo_determinant_255 : Dc M_mo_determinant 255 (.iload 11) 2 257 := ⟨by decide +kernel, rfl⟩
theorem D_mo_determinant_257 : Dc M_mo_determinant 257 (.iadd) 1 258 := ⟨by decide +kernel, rfl⟩
theorem D_mo_determinant_258 : Dc M_mo_determinant 258 (.laload) 1 259 := ⟨by decide +kernel, rfl⟩
theorem D_mo_determinant_259 : Dc M_mo_determinant 259 (.lmul) 1 260 := ⟨by decide +kernel, rfl⟩
theorem D_mo_determinant_260 : Dc M_mo_determinant 260 (.ladd) 1 261 := ⟨by decide +kernel, rfl⟩
theorem D_mo_determinant_261 : Dl M_mo_determinant 261 264 (lN 1000003) := ⟨126, by decide +kernel, rfl, by decide +kernel⟩
theorem D_mo_determinant_264 : Dc M_mo_determinant 264 (.lrem) 1 265 := ⟨by decide +kernel, rfl⟩
theorem D_mo_determinant_265 : Dc M_mo_determinant 265 (.lastore) 1 266 := ⟨by decide +kernel, rfl⟩
theorem D_mo_determinant_266 : Dc M_mo_determinant 266 (.iinc 11 1) 3 269 := ⟨by decide +kernel, rfl⟩
theorem D_mo_determinant_269 : Dj M_mo_determinant 269 (.goto) 272 205 := ⟨(-64), by decide +kernel, rfl, by decide⟩
theorem D_mo_determinant_272 : Dc M_mo_determinant 272 (.iinc 8 1) 3 275 := ⟨by decide +kernel, rfl⟩
theorem D_mo_determinant_275 : Dj M_mo_determinant 275 (.goto) 278 174 := ⟨(-101), by decide +kernel, rfl, by decide⟩
theorem D_mo_determinant_278 : Dc M_mo_determinant 278 (.iinc 4 1) 3 281 := ⟨by decide +kernel, rfl⟩
theorem D_mo_determinant_281 : Dj M_mo_determinant 281 (.goto) 284 5 := ⟨(-276), by decide +kernel, rfl, by decide⟩
theorem D_mo_determinant_284 : Dc M_mo_determinant 284 (.lload_n 2) 1 285 := ⟨by decide +kernel, rfl⟩
theorem D_mo_determinant_285 : Dc M_mo_determinant 285 (.l2i) 1 286 := ⟨by decide +kernel, rfl⟩
theorem D_mo_determinant_286 : Dc M_mo_determinant 286 (.ireturn) 1 287 := ⟨by decide +kernel, rfl⟩
theorem D_mo_ways_0 : Dc M_mo_ways 0 (.aload_n 0) 1 1 := ⟨by decide +kernel, rfl⟩
theorem D_mo_ways_1 : DcV M_mo_ways M_mo_isPure 1 4 := ⟨114, by decide +kernel, rfl, ml_mo_114, by decide, by decide⟩
theorem D_mo_ways_4 : Dj M_mo_ways 4 (.ifCond .ne) 7 10 := ⟨6, by decide +kernel, rfl, by decide⟩
theorem D_mo_ways_7 : Dc M_mo_ways 7 (.bipush (-3)) 2 9 := ⟨by decide +kernel, rfl⟩
theorem D_mo_ways_9 : Dc M_mo_ways 9 (.ireturn) 1 10 := ⟨by decide +kernel, rfl⟩
theorem D_mo_ways_10 : Dc M_mo_ways 10 (.aload_n 0) 1 11 := ⟨by decide +kernel, rfl⟩
theorem D_mo_ways_11 : DcV M_mo_ways M_mo_find 11 14 := ⟨109, by decide +kernel, rfl, ml_mo_109, by decide, by decide⟩
theorem D_mo_ways_14 : Dc M_mo_ways 14 (.aload_n 0) 1 15 := ⟨by decide +kernel, rfl⟩
theorem D_mo_ways_15 : Dg M_mo_ways 15 18 6 5 R_mo T_mo 21 := ⟨81, by decide +kernel, rfl, rfl, by decide, fl_mo_81, in_mo⟩
theorem D_mo_ways_18 : Dc M_mo_ways 18 (.iconst 1) 1 19 := ⟨by decide +kernel, rfl⟩
theorem D_mo_ways_19 : Dc M_mo_ways 19 (.isub) 1 20 := ⟨by decide +kernel, rfl⟩
theorem D_mo_ways_20 : Dc M_mo_ways 20 (.istore_n 1) 1 21 := ⟨by decide +kernel, rfl⟩
theorem D_mo_ways_21 : Dc M_mo_ways 21 (.iconst 0) 1 22 := ⟨by decide +kernel, rfl⟩
theorem D_mo_ways_22 : Dc M_mo_ways 22 (.istore_n 2) 1 23 := ⟨by decide +kernel, rfl⟩
theorem D_mo_ways_23 : Dc M_mo_ways 23 (.iload_n 2) 1 24 := ⟨by decide +kernel, rfl⟩
theorem D_mo_ways_24 : Dc M_mo_ways 24 (.iload_n 1) 1 25 := ⟨by decide +kernel, rfl⟩
theorem D_mo_ways_25 : Dc M_mo_ways 25 (.iload_n 1) 1 26 := ⟨by decide +kernel, rfl⟩
theorem D_mo_ways_26 : Dc M_mo_ways 26 (.imul) 1 27 := ⟨by decide +kernel, rfl⟩
theorem D_mo_ways_27 : Dj M_mo_ways 27 (.if_icmp .ge) 30 43 := ⟨16, by decide +kernel, rfl, by decide⟩
theorem D_mo_ways_30 : Dc M_mo_ways 30 (.aload_n 0) 1 31 := ⟨by decide +kernel, rfl⟩
theorem D_mo_ways_31 : Dg M_mo_ways 31 34 6 16 R_mo T_mo 21 := ⟨48, by decide +kernel, rfl, rfl, by decide, fl_mo_48, in_mo⟩
theorem D_mo_ways_34 : Dc M_mo_ways 34 (.iload_n 2) 1 35 := ⟨by decide +kernel, rfl⟩
theorem D_mo_ways_35 : Dc M_mo_ways 35 (.lconst 0) 1 36 := ⟨by decide +kernel, rfl⟩
theorem D_mo_ways_36 : Dc M_mo_ways 36 (.lastore) 1 37 := ⟨by decide +kernel, rfl⟩
theorem D_mo_ways_37 : Dc M_mo_ways 37 (.iinc 2 1) 3 40 := ⟨by decide +kernel, rfl⟩
theorem D_mo_ways_40 : Dj M_mo_ways 40 (.goto) 43 23 := ⟨(-17), by decide +kernel, rfl, by decide⟩
theorem D_mo_ways_43 : Dc M_mo_ways 43 (.iconst 0) 1 44 := ⟨by decide +kernel, rfl⟩
theorem D_mo_ways_44 : Dc M_mo_ways 44 (.istore_n 2) 1 45 := ⟨by decide +kernel, rfl⟩
theorem D_mo_ways_45 : Dc M_mo_ways 45 (.iload_n 2) 1 46 := ⟨by decide +kernel, rfl⟩
theorem D_mo_ways_46 : Dc M_mo_ways 46 (.aload_n 0) 1 47 := ⟨by decide +kernel, rfl⟩
theorem D_mo_ways_47 : DcV M_mo_ways M_mo_states 47 50 := ⟨69, by decide +kernel, rfl, ml_mo_69, by decide, by decide⟩
theorem D_mo_ways_50 : Dc M_mo_ways 50 (.iconst 2) 1 51 := ⟨by decide +kernel, rfl⟩
theorem D_mo_ways_51 : Dc M_mo_ways 51 (.idiv) 1 52 := ⟨by decide +kernel, rfl⟩
theorem D_mo_ways_52 : Dj M_mo_ways 52 (.if_icmp .ge) 55 131 := ⟨79, by decide +kernel, rfl, by decide⟩
theorem D_mo_ways_55 : Dc M_mo_ways 55 (.aload_n 0) 1 56 := ⟨by decide +kernel, rfl⟩
theorem D_mo_ways_56 : Dg M_mo_ways 56 59 6 8 R_mo T_mo 21 := ⟨23, by decide +kernel, rfl, rfl, by decide, fl_mo_23, in_mo⟩
theorem D_mo_ways_59 : Dc M_mo_ways 59 (.iconst 2) 1 60 := ⟨by decide +kernel, rfl⟩
theorem D_mo_ways_60 : Dc M_mo_ways 60 (.iload_n 2) 1 61 := ⟨by decide +kernel, rfl⟩
theorem D_mo_ways_61 : Dc M_mo_ways 61 (.imul) 1 62 := ⟨by decide +kernel, rfl⟩
theorem D_mo_ways_62 : Dc M_mo_ways 62 (.iaload) 1 63 := ⟨by decide +kernel, rfl⟩
theorem D_mo_ways_63 : Dc M_mo_ways 63 (.istore_n 3) 1 64 := ⟨by decide +kernel, rfl⟩
theorem D_mo_ways_64 : Dc M_mo_ways 64 (.aload_n 0) 1 65 := ⟨by decide +kernel, rfl⟩
theorem D_mo_ways_65 : Dg M_mo_ways 65 68 6 8 R_mo T_mo 21 := ⟨23, by decide +kernel, rfl, rfl, by decide, fl_mo_23, in_mo⟩
theorem D_mo_ways_68 : Dc M_mo_ways 68 (.iconst 2) 1 69 := ⟨by decide +kernel, rfl⟩
theorem D_mo_ways_69 : Dc M_mo_ways 69 (.iload_n 2) 1 70 := ⟨by decide +kernel, rfl⟩
theorem D_mo_ways_70 : Dc M_mo_ways 70 (.imul) 1 71 := ⟨by decide +kernel, rfl⟩
theorem D_mo_ways_71 : Dc M_mo_ways 71 (.iconst 1) 1 72 := ⟨by decide +kernel, rfl⟩
theorem D_mo_ways_72 : Dc M_mo_ways 72 (.iadd) 1 73 := ⟨by decide +kernel, rfl⟩
theorem D_mo_ways_73 : Dc M_mo_ways 73 (.iaload) 1 74 := ⟨by decide +kernel, rfl⟩
theorem D_mo_ways_74 : Dc M_mo_ways 74 (.istore 4) 2 76 := ⟨by decide +kernel, rfl⟩
theorem D_mo_ways_76 : Dc M_mo_ways 76 (.iload_n 3) 1 77 := ⟨by decide +kernel, rfl⟩
theorem D_mo_ways_77 : Dc M_mo_ways 77 (.iload 4) 2 79 := ⟨by decide +kernel, rfl⟩
theorem D_mo_ways_79 : Dj M_mo_ways 79 (.if_icmp .ne) 82 85 := ⟨6, by decide +kernel, rfl, by decide⟩
theorem D_mo_ways_82 : Dj M_mo_ways 82 (.goto) 85 125 := ⟨43, by decide +kernel, rfl, by decide⟩
theorem D_mo_ways_85 : Dc M_mo_ways 85 (.aload_n 0) 1 86 := ⟨by decide +kernel, rfl⟩
theorem D_mo_ways_86 : Dc M_mo_ways 86 (.iload_n 3) 1 87 := ⟨by decide +kernel, rfl⟩
theorem D_mo_ways_87 : Dc M_mo_ways 87 (.iload_n 3) 1 88 := ⟨by decide +kernel, rfl⟩
theorem D_mo_ways_88 : Dc M_mo_ways 88 (.iload_n 1) 1 89 := ⟨by decide +kernel, rfl⟩
theorem D_mo_ways_89 : Dc M_mo_ways 89 (.lconst 1) 1 90 := ⟨by decide +kernel, rfl⟩
theorem ml_mo_132 : Cond.methodLink R_mo 132 M_mo_addTo.1 ∈ gtb := mem_g 828 (by decide +kernel) rfl
theorem D_mo_ways_90 : DcV M_mo_ways M_mo_addTo 90 93 := ⟨132, by decide +kernel, rfl, ml_mo_132, by decide, by decide⟩
theorem D_mo_ways_93 : Dc M_mo_ways 93 (.aload_n 0) 1 94 := ⟨by decide +kernel, rfl⟩
theorem D_mo_ways_94 : Dc M_mo_ways 94 (.iload 4) 2 96 := ⟨by decide +kernel, rfl⟩
theorem D_mo_ways_96 : Dc M_mo_ways 96 (.iload 4) 2 98 := ⟨by decide +kernel, rfl⟩
theorem D_mo_ways_98 : Dc M_mo_ways 98 (.iload_n 1) 1 99 := ⟨by decide +kernel, rfl⟩
theorem D_mo_ways_99 : Dc M_mo_ways 99 (.lconst 1) 1 100 := ⟨by decide +kernel, rfl⟩
theorem D_mo_ways_100 : DcV M_mo_ways M_mo_addTo 100 103 := ⟨132, by decide +kernel, rfl, ml_mo_132, by decide, by decide⟩
theorem D_mo_ways_103 : Dc M_mo_ways 103 (.aload_n 0) 1 104 := ⟨by decide +kernel, rfl⟩
theorem D_mo_ways_104 : Dc M_mo_ways 104 (.iload_n 3) 1 105 := ⟨by decide +kernel, rfl⟩
theorem D_mo_ways_105 : Dc M_mo_ways 105 (.iload 4) 2 107 := ⟨by decide +kernel, rfl⟩
theorem D_mo_ways_107 : Dc M_mo_ways 107 (.iload_n 1) 1 108 := ⟨by decide +kernel, rfl⟩
theorem D_mo_ways_108 : Dl M_mo_ways 108 111 (-lN 1) := ⟨112, by decide +kernel, rfl, by decide +kernel⟩
theorem D_mo_ways_111 : DcV M_mo_ways M_mo_addTo 111 114 := ⟨132, by decide +kernel, rfl, ml_mo_132, by decide, by decide⟩
theorem D_mo_ways_114 : Dc M_mo_ways 114 (.aload_n 0) 1 115 := ⟨by decide +kernel, rfl⟩
theorem D_mo_ways_115 : Dc M_mo_ways 115 (.iload 4) 2 117 := ⟨by decide +kernel, rfl⟩
theorem D_mo_ways_117 : Dc M_mo_ways 117 (.iload_n 3) 1 118 := ⟨by decide +kernel, rfl⟩
theorem D_mo_ways_118 : Dc M_mo_ways 118 (.iload_n 1) 1 119 := ⟨by decide +kernel, rfl⟩
theorem D_mo_ways_119 : Dl M_mo_ways 119 122 (-lN 1) := ⟨112, by decide +kernel, rfl, by decide +kernel⟩
theorem D_mo_ways_122 : DcV M_mo_ways M_mo_addTo 122 125 := ⟨132, by decide +kernel, rfl, ml_mo_132, by decide, by decide⟩
theorem D_mo_ways_125 : Dc M_mo_ways 125 (.iinc 2 1) 3 128 := ⟨by decide +kernel, rfl⟩
theorem D_mo_ways_128 : Dj M_mo_ways 128 (.goto) 131 45 := ⟨(-83), by decide +kernel, rfl, by decide⟩
theorem D_mo_ways_131 : Dc M_mo_ways 131 (.aload_n 0) 1 132 := ⟨by decide +kernel, rfl⟩
theorem D_mo_ways_132 : Dc M_mo_ways 132 (.iload_n 1) 1 133 := ⟨by decide +kernel, rfl⟩
theorem ml_mo_136 : Cond.methodLink R_mo 136 M_mo_determinant.1 ∈ gtb := mem_g 833 (by decide +kernel) rfl
theorem D_mo_ways_133 : DcV M_mo_ways M_mo_determinant 133 136 := ⟨136, by decide +kernel, rfl, ml_mo_136, by decide, by decide⟩
theorem D_mo_ways_136 : Dc M_mo_ways 136 (.ireturn) 1 137 := ⟨by decide +kernel, rfl⟩
theorem D_mo_prefer_0 : Dc M_mo_prefer 0 (.iload_n 1) 1 1 := ⟨by decide +kernel, rfl⟩
theorem D_mo_prefer_1 : Dc M_mo_prefer 1 (.i2l) 1 2 := ⟨by decide +kernel, rfl⟩
theorem D_mo_prefer_2 : Dc M_mo_prefer 2 (.lconst 0) 1 3 := ⟨by decide +kernel, rfl⟩
theorem D_mo_prefer_3 : Dc M_mo_prefer 3 (.lconst 1) 1 4 := ⟨by decide +kernel, rfl⟩
theorem D_mo_prefer_4 : DcS M_mo_prefer M_mo_within 4 7 := ⟨88, by decide +kernel, rfl, ml_mo_88, by decide, by decide⟩
theorem D_mo_prefer_7 : Dj M_mo_prefer 7 (.ifCond .ne) 10 13 := ⟨6, by decide +kernel, rfl, by decide⟩
theorem D_mo_prefer_10 : Dc M_mo_prefer 10 (.bipush (-2)) 2 12 := ⟨by decide +kernel, rfl⟩
theorem D_mo_prefer_12 : Dc M_mo_prefer 12 (.ireturn) 1 13 := ⟨by decide +kernel, rfl⟩
theorem D_mo_prefer_13 : Dc M_mo_prefer 13 (.aload_n 0) 1 14 := ⟨by decide +kernel, rfl⟩
theorem D_mo_prefer_14 : DcV M_mo_prefer M_mo_states 14 17 := ⟨69, by decide +kernel, rfl, ml_mo_69, by decide, by decide⟩
theorem D_mo_prefer_17 : Dc M_mo_prefer 17 (.istore_n 2) 1 18 := ⟨by decide +kernel, rfl⟩
theorem D_mo_prefer_18 : Dc M_mo_prefer 18 (.iconst 0) 1 19 := ⟨by decide +kernel, rfl⟩
theorem D_mo_prefer_19 : Dc M_mo_prefer 19 (.istore_n 3) 1 20 := ⟨by decide +kernel, rfl⟩
theorem D_mo_prefer_20 : Dc M_mo_prefer 20 (.iload_n 3) 1 21 := ⟨by decide +kernel, rfl⟩
theorem D_mo_prefer_21 : Dc M_mo_prefer 21 (.iload_n 2) 1 22 := ⟨by decide +kernel, rfl⟩
theorem D_mo_prefer_22 : Dj M_mo_prefer 22 (.if_icmp .ge) 25 38 := ⟨16, by decide +kernel, rfl, by decide⟩
theorem D_mo_prefer_25 : Dc M_mo_prefer 25 (.aload_n 0) 1 26 := ⟨by decide +kernel, rfl⟩
theorem D_mo_prefer_26 : Dg M_mo_prefer 26 29 6 17 R_mo T_mo 21 := ⟨51, by decide +kernel, rfl, rfl, by decide, fl_mo_51, in_mo⟩
theorem D_mo_prefer_29 : Dc M_mo_prefer 29 (.iload_n 3) 1 30 := ⟨by decide +kernel, rfl⟩
theorem D_mo_prefer_30 : Dc M_mo_prefer 30 (.iconst 0) 1 31 := ⟨by decide +kernel, rfl⟩
theorem D_mo_prefer_31 : Dc M_mo_prefer 31 (.bastore) 1 32 := ⟨by decide +kernel, rfl⟩
theorem D_mo_prefer_32 : Dc M_mo_prefer 32 (.iinc 3 1) 3 35 := ⟨by decide +kernel, rfl⟩
theorem D_mo_prefer_35 : Dj M_mo_prefer 35 (.goto) 38 20 := ⟨(-15), by decide +kernel, rfl, by decide⟩
theorem D_mo_prefer_38 : Dc M_mo_prefer 38 (.iload_n 1) 1 39 := ⟨by decide +kernel, rfl⟩
theorem D_mo_prefer_39 : Dc M_mo_prefer 39 (.iconst 1) 1 40 := ⟨by decide +kernel, rfl⟩
theorem D_mo_prefer_40 : Dj M_mo_prefer 40 (.if_icmp .ne) 43 47 := ⟨7, by decide +kernel, rfl, by decide⟩
theorem D_mo_prefer_43 : Dc M_mo_prefer 43 (.iconst 0) 1 44 := ⟨by decide +kernel, rfl⟩
theorem D_mo_prefer_44 : Dj M_mo_prefer 44 (.goto) 47 50 := ⟨6, by decide +kernel, rfl, by decide⟩
theorem D_mo_prefer_47 : Dc M_mo_prefer 47 (.iload_n 2) 1 48 := ⟨by decide +kernel, rfl⟩
theorem D_mo_prefer_48 : Dc M_mo_prefer 48 (.iconst 1) 1 49 := ⟨by decide +kernel, rfl⟩
theorem D_mo_prefer_49 : Dc M_mo_prefer 49 (.isub) 1 50 := ⟨by decide +kernel, rfl⟩
theorem D_mo_prefer_50 : Dc M_mo_prefer 50 (.istore_n 3) 1 51 := ⟨by decide +kernel, rfl⟩
theorem D_mo_prefer_51 : Dc M_mo_prefer 51 (.iload_n 3) 1 52 := ⟨by decide +kernel, rfl⟩
theorem D_mo_prefer_52 : Dc M_mo_prefer 52 (.istore 4) 2 54 := ⟨by decide +kernel, rfl⟩
theorem D_mo_prefer_54 : Dc M_mo_prefer 54 (.aload_n 0) 1 55 := ⟨by decide +kernel, rfl⟩
theorem D_mo_prefer_55 : Dg M_mo_prefer 55 58 6 17 R_mo T_mo 21 := ⟨51, by decide +kernel, rfl, rfl, by decide, fl_mo_51, in_mo⟩
theorem D_mo_prefer_58 : Dc M_mo_prefer 58 (.iload 4) 2 60 := ⟨by decide +kernel, rfl⟩
theorem D_mo_prefer_60 : Dc M_mo_prefer 60 (.iconst 1) 1 61 := ⟨by decide +kernel, rfl⟩
theorem D_mo_prefer_61 : Dc M_mo_prefer 61 (.bastore) 1 62 := ⟨by decide +kernel, rfl⟩
theorem D_mo_prefer_62 : Dc M_mo_prefer 62 (.iconst 1) 1 63 := ⟨by decide +kernel, rfl⟩
theorem D_mo_prefer_63 : Dc M_mo_prefer 63 (.istore 5) 2 65 := ⟨by decide +kernel, rfl⟩
theorem D_mo_prefer_65 : Dc M_mo_prefer 65 (.iload 5) 2 67 := ⟨by decide +kernel, rfl⟩
theorem D_mo_prefer_67 : Dj M_mo_prefer 67 (.ifCond .eq) 70 161 := ⟨94, by decide +kernel, rfl, by decide⟩
theorem D_mo_prefer_70 : Dc M_mo_prefer 70 (.iload 4) 2 72 := ⟨by decide +kernel, rfl⟩
theorem D_mo_prefer_72 : Dc M_mo_prefer 72 (.iconst 2) 1 73 := ⟨by decide +kernel, rfl⟩
theorem D_mo_prefer_73 : Dc M_mo_prefer 73 (.idiv) 1 74 := ⟨by decide +kernel, rfl⟩
theorem D_mo_prefer_74 : Dc M_mo_prefer 74 (.istore 6) 2 76 := ⟨by decide +kernel, rfl⟩
theorem D_mo_prefer_76 : Dc M_mo_prefer 76 (.iload_n 1) 1 77 := ⟨by decide +kernel, rfl⟩
theorem D_mo_prefer_77 : Dc M_mo_prefer 77 (.istore 7) 2 79 := ⟨by decide +kernel, rfl⟩
theorem D_mo_prefer_79 : Dc M_mo_prefer 79 (.aload_n 0) 1 80 := ⟨by decide +kernel, rfl⟩
theorem D_mo_prefer_80 : Dg M_mo_prefer 80 83 6 17 R_mo T_mo 21 := ⟨51, by decide +kernel, rfl, rfl, by decide, fl_mo_51, in_mo⟩
theorem D_mo_prefer_83 : Dc M_mo_prefer 83 (.iload 6) 2 85 := ⟨by decide +kernel, rfl⟩
theorem D_mo_prefer_85 : Dc M_mo_prefer 85 (.iload 7) 2 87 := ⟨by decide +kernel, rfl⟩
theorem D_mo_prefer_87 : Dc M_mo_prefer 87 (.iload_n 2) 1 88 := ⟨by decide +kernel, rfl⟩
theorem D_mo_prefer_88 : Dc M_mo_prefer 88 (.iconst 2) 1 89 := ⟨by decide +kernel, rfl⟩
theorem D_mo_prefer_89 : Dc M_mo_prefer 89 (.idiv) 1 90 := ⟨by decide +kernel, rfl⟩
theorem D_mo_prefer_90 : Dc M_mo_prefer 90 (.imul) 1 91 := ⟨by decide +kernel, rfl⟩
theorem D_mo_prefer_91 : Dc M_mo_prefer 91 (.iadd) 1 92 := ⟨by decide +kernel, rfl⟩
theorem D_mo_prefer_92 : Dc M_mo_prefer 92 (.baload) 1 93 := ⟨by decide +kernel, rfl⟩
theorem D_mo_prefer_93 : Dj M_mo_prefer 93 (.ifCond .eq) 96 101 := ⟨8, by decide +kernel, rfl, by decide⟩
theorem D_mo_prefer_96 : Dc M_mo_prefer 96 (.iconst 1) 1 97 := ⟨by decide +kernel, rfl⟩
theorem D_mo_prefer_97 : Dc M_mo_prefer 97 (.iload_n 1) 1 98 := ⟨by decide +kernel, rfl⟩
theorem D_mo_prefer_98 : Dc M_mo_prefer 98 (.isub) 1 99 := ⟨by decide +kernel, rfl⟩
theorem D_mo_prefer_99 : Dc M_mo_prefer 99 (.istore 7) 2 101 := ⟨by decide +kernel, rfl⟩
theorem D_mo_prefer_101 : Dc M_mo_prefer 101 (.aload_n 0) 1 102 := ⟨by decide +kernel, rfl⟩
theorem D_mo_prefer_102 : Dg M_mo_prefer 102 105 6 17 R_mo T_mo 21 := ⟨51, by decide +kernel, rfl, rfl, by decide, fl_mo_51, in_mo⟩
theorem D_mo_prefer_105 : Dc M_mo_prefer 105 (.iload 6) 2 107 := ⟨by decide +kernel, rfl⟩
theorem D_mo_prefer_107 : Dc M_mo_prefer 107 (.iload 7) 2 109 := ⟨by decide +kernel, rfl⟩
theorem D_mo_prefer_109 : Dc M_mo_prefer 109 (.iload_n 2) 1 110 := ⟨by decide +kernel, rfl⟩
theorem D_mo_prefer_110 : Dc M_mo_prefer 110 (.iconst 2) 1 111 := ⟨by decide +kernel, rfl⟩
theorem D_mo_prefer_111 : Dc M_mo_prefer 111 (.idiv) 1 112 := ⟨by decide +kernel, rfl⟩
theorem D_mo_prefer_112 : Dc M_mo_prefer 112 (.imul) 1 113 := ⟨by decide +kernel, rfl⟩
theorem D_mo_prefer_113 : Dc M_mo_prefer 113 (.iadd) 1 114 := ⟨by decide +kernel, rfl⟩
theorem D_mo_prefer_114 : Dc M_mo_prefer 114 (.baload) 1 115 := ⟨by decide +kernel, rfl⟩
theorem D_mo_prefer_115 : Dj M_mo_prefer 115 (.ifCond .ne) 118 122 := ⟨7, by decide +kernel, rfl, by decide⟩
theorem D_mo_prefer_118 : Dc M_mo_prefer 118 (.iconst 1) 1 119 := ⟨by decide +kernel, rfl⟩
theorem D_mo_prefer_119 : Dj M_mo_prefer 119 (.goto) 122 123 := ⟨4, by decide +kernel, rfl, by decide⟩
theorem D_mo_prefer_122 : Dc M_mo_prefer 122 (.iconst 0) 1 123 := ⟨by decide +kernel, rfl⟩
theorem D_mo_prefer_123 : Dc M_mo_prefer 123 (.istore 5) 2 125 := ⟨by decide +kernel, rfl⟩
theorem D_mo_prefer_125 : Dc M_mo_prefer 125 (.iload 5) 2 127 := ⟨by decide +kernel, rfl⟩
theorem D_mo_prefer_127 : Dj M_mo_prefer 127 (.ifCond .eq) 130 158 := ⟨31, by decide +kernel, rfl, by decide⟩
theorem D_mo_prefer_130 : Dc M_mo_prefer 130 (.aload_n 0) 1 131 := ⟨by decide +kernel, rfl⟩
theorem D_mo_prefer_131 : Dg M_mo_prefer 131 134 6 3 R_mo T_mo 21 := ⟨13, by decide +kernel, rfl, rfl, by decide, fl_mo_13, in_mo⟩
theorem D_mo_prefer_134 : Dc M_mo_prefer 134 (.iload 4) 2 136 := ⟨by decide +kernel, rfl⟩
theorem D_mo_prefer_136 : Dc M_mo_prefer 136 (.iload 7) 2 138 := ⟨by decide +kernel, rfl⟩
theorem D_mo_prefer_138 : Dc M_mo_prefer 138 (.iastore) 1 139 := ⟨by decide +kernel, rfl⟩
theorem D_mo_prefer_139 : Dc M_mo_prefer 139 (.iload 6) 2 141 := ⟨by decide +kernel, rfl⟩
theorem D_mo_prefer_141 : Dc M_mo_prefer 141 (.iload 7) 2 143 := ⟨by decide +kernel, rfl⟩
theorem D_mo_prefer_143 : Dc M_mo_prefer 143 (.iload_n 2) 1 144 := ⟨by decide +kernel, rfl⟩
theorem D_mo_prefer_144 : Dc M_mo_prefer 144 (.iconst 2) 1 145 := ⟨by decide +kernel, rfl⟩
theorem D_mo_prefer_145 : Dc M_mo_prefer 145 (.idiv) 1 146 := ⟨by decide +kernel, rfl⟩
theorem D_mo_prefer_146 : Dc M_mo_prefer 146 (.imul) 1 147 := ⟨by decide +kernel, rfl⟩
theorem D_mo_prefer_147 : Dc M_mo_prefer 147 (.iadd) 1 148 := ⟨by decide +kernel, rfl⟩
theorem D_mo_prefer_148 : Dc M_mo_prefer 148 (.istore 4) 2 150 := ⟨by decide +kernel, rfl⟩
theorem D_mo_prefer_150 : Dc M_mo_prefer 150 (.aload_n 0) 1 151 := ⟨by decide +kernel, rfl⟩
theorem D_mo_prefer_151 : Dg M_mo_prefer 151 154 6 17 R_mo T_mo 21 := ⟨51, by decide +kernel, rfl, rfl, by decide, fl_mo_51, in_mo⟩
theorem D_mo_prefer_154 : Dc M_mo_prefer 154 (.iload 4) 2 156 := ⟨by decide +kernel, rfl⟩
theorem D_mo_prefer_156 : Dc M_mo_prefer 156 (.iconst 1) 1 157 := ⟨by decide +kernel, rfl⟩
theorem D_mo_prefer_157 : Dc M_mo_prefer 157 (.bastore) 1 158 := ⟨by decide +kernel, rfl⟩
theorem D_mo_prefer_158 : Dj M_mo_prefer 158 (.goto) 161 65 := ⟨(-93), by decide +kernel, rfl, by decide⟩
theorem D_mo_prefer_161 : Dc M_mo_prefer 161 (.aload_n 0) 1 162 := ⟨by decide +kernel, rfl⟩
theorem D_mo_prefer_162 : Dg M_mo_prefer 162 165 6 3 R_mo T_mo 21 := ⟨13, by decide +kernel, rfl, rfl, by decide, fl_mo_13, in_mo⟩
theorem D_mo_prefer_165 : Dc M_mo_prefer 165 (.iload 4) 2 167 := ⟨by decide +kernel, rfl⟩
theorem D_mo_prefer_167 : Dc M_mo_prefer 167 (.iload_n 3) 1 168 := ⟨by decide +kernel, rfl⟩
theorem D_mo_prefer_168 : Dc M_mo_prefer 168 (.iload_n 2) 1 169 := ⟨by decide +kernel, rfl⟩
theorem D_mo_prefer_169 : Dc M_mo_prefer 169 (.iconst 2) 1 170 := ⟨by decide +kernel, rfl⟩
theorem D_mo_prefer_170 : Dc M_mo_prefer 170 (.idiv) 1 171 := ⟨by decide +kernel, rfl⟩
theorem D_mo_prefer_171 : Dc M_mo_prefer 171 (.idiv) 1 172 := ⟨by decide +kernel, rfl⟩
theorem D_mo_prefer_172 : Dc M_mo_prefer 172 (.iastore) 1 173 := ⟨by decide +kernel, rfl⟩
theorem D_mo_prefer_173 : Dc M_mo_prefer 173 (.aload_n 0) 1 174 := ⟨by decide +kernel, rfl⟩
theorem D_mo_prefer_174 : Dc M_mo_prefer 174 (.iconst 0) 1 175 := ⟨by decide +kernel, rfl⟩
theorem D_mo_prefer_175 : Dp M_mo_prefer 175 178 6 4 R_mo T_mo 21 := ⟨73, by decide +kernel, rfl, rfl, by decide, fl_mo_73, in_mo, rfl⟩
theorem D_mo_prefer_178 : Dc M_mo_prefer 178 (.aload_n 0) 1 179 := ⟨by decide +kernel, rfl⟩
theorem D_mo_prefer_179 : DcV M_mo_prefer M_mo_ones 179 182 := ⟨96, by decide +kernel, rfl, ml_mo_96, by decide, by decide⟩
theorem D_mo_prefer_182 : Dc M_mo_prefer 182 (.ireturn) 1 183 := ⟨by decide +kernel, rfl⟩
theorem D_mo_sheet_0 : Dc M_mo_sheet 0 (.aload_n 0) 1 1 := ⟨by decide +kernel, rfl⟩
theorem D_mo_sheet_1 : Dc M_mo_sheet 1 (.iconst 0) 1 2 := ⟨by decide +kernel, rfl⟩
theorem D_mo_sheet_2 : Dp M_mo_sheet 2 5 6 0 R_mo T_mo 21 := ⟨64, by decide +kernel, rfl, rfl, by decide, fl_mo_64, in_mo, rfl⟩
theorem D_mo_sheet_5 : Dc M_mo_sheet 5 (.iload_n 1) 1 6 := ⟨by decide +kernel, rfl⟩
theorem D_mo_sheet_6 : DcS M_mo_sheet M_mo_isSheet 6 9 := ⟨99, by decide +kernel, rfl, ml_mo_99, by decide, by decide⟩
theorem D_mo_sheet_9 : Dj M_mo_sheet 9 (.ifCond .ne) 12 14 := ⟨5, by decide +kernel, rfl, by decide⟩
theorem D_mo_sheet_12 : Dc M_mo_sheet 12 (.iconst (-1)) 1 13 := ⟨by decide +kernel, rfl⟩
theorem D_mo_sheet_13 : Dc M_mo_sheet 13 (.ireturn) 1 14 := ⟨by decide +kernel, rfl⟩
theorem D_mo_sheet_14 : Dc M_mo_sheet 14 (.iload_n 2) 1 15 := ⟨by decide +kernel, rfl⟩
theorem D_mo_sheet_15 : Dc M_mo_sheet 15 (.i2l) 1 16 := ⟨by decide +kernel, rfl⟩
theorem D_mo_sheet_16 : Dc M_mo_sheet 16 (.lconst 0) 1 17 := ⟨by decide +kernel, rfl⟩
theorem D_mo_sheet_17 : Dl M_mo_sheet 17 20 (lN 2) := ⟨84, by decide +kernel, rfl, by decide +kernel⟩
theorem D_mo_sheet_20 : DcS M_mo_sheet M_mo_within 20 23 := ⟨88, by decide +kernel, rfl, ml_mo_88, by decide, by decide⟩
theorem D_mo_sheet_23 : Dj M_mo_sheet 23 (.ifCond .eq) 26 33 := ⟨10, by decide +kernel, rfl, by decide⟩
theorem D_mo_sheet_26 : Dc M_mo_sheet 26 (.iload_n 3) 1 27 := ⟨by decide +kernel, rfl⟩
theorem D_mo_sheet_27 : Dc M_mo_sheet 27 (.sipush 600) 3 30 := ⟨by decide +kernel, rfl⟩
theorem D_mo_sheet_30 : Dj M_mo_sheet 30 (.if_icmp .le) 33 36 := ⟨6, by decide +kernel, rfl, by decide⟩
theorem D_mo_sheet_33 : Dc M_mo_sheet 33 (.bipush (-2)) 2 35 := ⟨by decide +kernel, rfl⟩
theorem D_mo_sheet_35 : Dc M_mo_sheet 35 (.ireturn) 1 36 := ⟨by decide +kernel, rfl⟩
theorem D_mo_sheet_36 : Dc M_mo_sheet 36 (.iload_n 3) 1 37 := ⟨by decide +kernel, rfl⟩
theorem D_mo_sheet_37 : Dj M_mo_sheet 37 (.ifCond .ge) 40 46 := ⟨9, by decide +kernel, rfl, by decide⟩
theorem D_mo_sheet_40 : Dc M_mo_sheet 40 (.aload_n 0) 1 41 := ⟨by decide +kernel, rfl⟩
theorem D_mo_sheet_41 : Dc M_mo_sheet 41 (.iconst 4) 1 42 := ⟨by decide +kernel, rfl⟩
theorem D_mo_sheet_42 : DcV M_mo_sheet M_mo_fails 42 45 := ⟨102, by decide +kernel, rfl, ml_mo_102, by decide, by decide⟩
theorem D_mo_sheet_45 : Dc M_mo_sheet 45 (.ireturn) 1 46 := ⟨by decide +kernel, rfl⟩
theorem D_mo_sheet_46 : Dc M_mo_sheet 46 (.aload_n 0) 1 47 := ⟨by decide +kernel, rfl⟩
theorem D_mo_sheet_47 : Dg M_mo_sheet 47 50 6 13 R_mo T_mo 21 := ⟨38, by decide +kernel, rfl, rfl, by decide, fl_mo_38, in_mo⟩
theorem D_mo_sheet_50 : Dc M_mo_sheet 50 (.iload_n 1) 1 51 := ⟨by decide +kernel, rfl⟩
theorem D_mo_sheet_51 : Dc M_mo_sheet 51 (.iload_n 2) 1 52 := ⟨by decide +kernel, rfl⟩
theorem D_mo_sheet_52 : Dc M_mo_sheet 52 (.iastore) 1 53 := ⟨by decide +kernel, rfl⟩
theorem D_mo_sheet_53 : Dc M_mo_sheet 53 (.aload_n 0) 1 54 := ⟨by decide +kernel, rfl⟩
theorem D_mo_sheet_54 : Dg M_mo_sheet 54 57 6 14 R_mo T_mo 21 := ⟨41, by decide +kernel, rfl, rfl, by decide, fl_mo_41, in_mo⟩
theorem D_mo_sheet_57 : Dc M_mo_sheet 57 (.iload_n 1) 1 58 := ⟨by decide +kernel, rfl⟩
theorem D_mo_sheet_58 : Dc M_mo_sheet 58 (.iload_n 3) 1 59 := ⟨by decide +kernel, rfl⟩
theorem D_mo_sheet_59 : Dc M_mo_sheet 59 (.iastore) 1 60 := ⟨by decide +kernel, rfl⟩
theorem D_mo_sheet_60 : Dc M_mo_sheet 60 (.iconst 0) 1 61 := ⟨by decide +kernel, rfl⟩
theorem D_mo_sheet_61 : Dc M_mo_sheet 61 (.istore 4) 2 63 := ⟨by decide +kernel, rfl⟩
theorem D_mo_sheet_63 : Dc M_mo_sheet 63 (.iload 4) 2 65 := ⟨by decide +kernel, rfl⟩
theorem D_mo_sheet_65 : Dc M_mo_sheet 65 (.sipush 600) 3 68 := ⟨by decide +kernel, rfl⟩
theorem D_mo_sheet_68 : Dj M_mo_sheet 68 (.if_icmp .ge) 71 91 := ⟨23, by decide +kernel, rfl, by decide⟩
theorem D_mo_sheet_71 : Dc M_mo_sheet 71 (.aload_n 0) 1 72 := ⟨by decide +kernel, rfl⟩
theorem D_mo_sheet_72 : Dg M_mo_sheet 72 75 6 15 R_mo T_mo 21 := ⟨44, by decide +kernel, rfl, rfl, by decide, fl_mo_44, in_mo⟩
theorem D_mo_sheet_75 : Dc M_mo_sheet 75 (.sipush 600) 3 78 := ⟨by decide +kernel, rfl⟩
theorem D_mo_sheet_78 : Dc M_mo_sheet 78 (.iload_n 1) 1 79 := ⟨by decide +kernel, rfl⟩
theorem D_mo_sheet_79 : Dc M_mo_sheet 79 (.imul) 1 80 := ⟨by decide +kernel, rfl⟩
theorem D_mo_sheet_80 : Dc M_mo_sheet 80 (.iload 4) 2 82 := ⟨by decide +kernel, rfl⟩
theorem D_mo_sheet_82 : Dc M_mo_sheet 82 (.iadd) 1 83 := ⟨by decide +kernel, rfl⟩
theorem D_mo_sheet_83 : Dc M_mo_sheet 83 (.lconst 0) 1 84 := ⟨by decide +kernel, rfl⟩
theorem D_mo_sheet_84 : Dc M_mo_sheet 84 (.lastore) 1 85 := ⟨by decide +kernel, rfl⟩
theorem D_mo_sheet_85 : Dc M_mo_sheet 85 (.iinc 4 1) 3 88 := ⟨by decide +kernel, rfl⟩
theorem D_mo_sheet_88 : Dj M_mo_sheet 88 (.goto) 91 63 := ⟨(-25), by decide +kernel, rfl, by decide⟩
theorem D_mo_sheet_91 : Dc M_mo_sheet 91 (.iconst 1) 1 92 := ⟨by decide +kernel, rfl⟩
theorem D_mo_sheet_92 : Dc M_mo_sheet 92 (.ireturn) 1 93 := ⟨by decide +kernel, rfl⟩
theorem D_mo_lose_0 : Dc M_mo_lose 0 (.iload_n 1) 1 1 := ⟨by decide +kernel, rfl⟩
theorem D_mo_lose_1 : DcS M_mo_lose M_mo_isSheet 1 4 := ⟨99, by decide +kernel, rfl, ml_mo_99, by decide, by decide⟩
theorem D_mo_lose_4 : Dj M_mo_lose 4 (.ifCond .ne) 7 9 := ⟨5, by decide +kernel, rfl, by decide⟩
theorem D_mo_lose_7 : Dc M_mo_lose 7 (.iconst (-1)) 1 8 := ⟨by decide +kernel, rfl⟩
theorem D_mo_lose_8 : Dc M_mo_lose 8 (.ireturn) 1 9 := ⟨by decide +kernel, rfl⟩
theorem D_mo_lose_9 : Dc M_mo_lose 9 (.aload_n 0) 1 10 := ⟨by decide +kernel, rfl⟩
theorem D_mo_lose_10 : Dg M_mo_lose 10 13 6 13 R_mo T_mo 21 := ⟨38, by decide +kernel, rfl, rfl, by decide, fl_mo_38, in_mo⟩
theorem D_mo_lose_13 : Dc M_mo_lose 13 (.iload_n 1) 1 14 := ⟨by decide +kernel, rfl⟩
theorem D_mo_lose_14 : Dc M_mo_lose 14 (.iaload) 1 15 := ⟨by decide +kernel, rfl⟩
theorem D_mo_lose_15 : Dc M_mo_lose 15 (.bipush (-9)) 2 17 := ⟨by decide +kernel, rfl⟩
theorem D_mo_lose_17 : Dj M_mo_lose 17 (.if_icmp .ne) 20 24 := ⟨7, by decide +kernel, rfl, by decide⟩
theorem D_mo_lose_20 : Dc M_mo_lose 20 (.iconst 0) 1 21 := ⟨by decide +kernel, rfl⟩
theorem D_mo_lose_21 : Dj M_mo_lose 21 (.goto) 24 25 := ⟨4, by decide +kernel, rfl, by decide⟩
theorem D_mo_lose_24 : Dc M_mo_lose 24 (.iconst 1) 1 25 := ⟨by decide +kernel, rfl⟩
theorem D_mo_lose_25 : Dc M_mo_lose 25 (.istore_n 2) 1 26 := ⟨by decide +kernel, rfl⟩
theorem D_mo_lose_26 : Dc M_mo_lose 26 (.aload_n 0) 1 27 := ⟨by decide +kernel, rfl⟩
theorem D_mo_lose_27 : Dg M_mo_lose 27 30 6 13 R_mo T_mo 21 := ⟨38, by decide +kernel, rfl, rfl, by decide, fl_mo_38, in_mo⟩
theorem D_mo_lose_30 : Dc M_mo_lose 30 (.iload_n 1) 1 31 := ⟨by decide +kernel, rfl⟩
theorem D_mo_lose_31 : Dc M_mo_lose 31 (.bipush (-9)) 2 33 := ⟨by decide +kernel, rfl⟩
theorem D_mo_lose_33 : Dc M_mo_lose 33 (.iastore) 1 34 := ⟨by decide +kernel, rfl⟩
theorem D_mo_lose_34 : Dc M_mo_lose 34 (.iload_n 2) 1 35 := ⟨by decide +kernel, rfl⟩
theorem D_mo_lose_35 : Dc M_mo_lose 35 (.ireturn) 1 36 := ⟨by decide +kernel, rfl⟩
theorem D_mo_put_0 : Dc M_mo_put 0 (.aload_n 0) 1 1 := ⟨by decide +kernel, rfl⟩
theorem D_mo_put_1 : Dc M_mo_put 1 (.iconst 0) 1 2 := ⟨by decide +kernel, rfl⟩
theorem D_mo_put_2 : Dp M_mo_put 2 5 6 0 R_mo T_mo 21 := ⟨64, by decide +kernel, rfl, rfl, by decide, fl_mo_64, in_mo, rfl⟩
theorem D_mo_put_5 : Dc M_mo_put 5 (.iload_n 1) 1 6 := ⟨by decide +kernel, rfl⟩
theorem D_mo_put_6 : DcS M_mo_put M_mo_isSheet 6 9 := ⟨99, by decide +kernel, rfl, ml_mo_99, by decide, by decide⟩
theorem D_mo_put_9 : Dj M_mo_put 9 (.ifCond .ne) 12 14 := ⟨5, by decide +kernel, rfl, by decide⟩
theorem D_mo_put_12 : Dc M_mo_put 12 (.iconst (-1)) 1 13 := ⟨by decide +kernel, rfl⟩
theorem D_mo_put_13 : Dc M_mo_put 13 (.ireturn) 1 14 := ⟨by decide +kernel, rfl⟩
theorem D_mo_put_14 : Dc M_mo_put 14 (.aload_n 0) 1 15 := ⟨by decide +kernel, rfl⟩
theorem D_mo_put_15 : Dg M_mo_put 15 18 6 13 R_mo T_mo 21 := ⟨38, by decide +kernel, rfl, rfl, by decide, fl_mo_38, in_mo⟩
theorem D_mo_put_18 : Dc M_mo_put 18 (.iload_n 1) 1 19 := ⟨by decide +kernel, rfl⟩
theorem D_mo_put_19 : Dc M_mo_put 19 (.iaload) 1 20 := ⟨by decide +kernel, rfl⟩
theorem D_mo_put_20 : Dc M_mo_put 20 (.bipush (-9)) 2 22 := ⟨by decide +kernel, rfl⟩
theorem D_mo_put_22 : Dj M_mo_put 22 (.if_icmp .ne) 25 31 := ⟨9, by decide +kernel, rfl, by decide⟩
theorem D_mo_put_25 : Dc M_mo_put 25 (.aload_n 0) 1 26 := ⟨by decide +kernel, rfl⟩
theorem D_mo_put_26 : Dc M_mo_put 26 (.iconst 1) 1 27 := ⟨by decide +kernel, rfl⟩
theorem D_mo_put_27 : DcV M_mo_put M_mo_fails 27 30 := ⟨102, by decide +kernel, rfl, ml_mo_102, by decide, by decide⟩
theorem D_mo_put_30 : Dc M_mo_put 30 (.ireturn) 1 31 := ⟨by decide +kernel, rfl⟩
theorem D_mo_put_31 : Dc M_mo_put 31 (.iload_n 2) 1 32 := ⟨by decide +kernel, rfl⟩
theorem D_mo_put_32 : Dj M_mo_put 32 (.ifCond .lt) 35 45 := ⟨13, by decide +kernel, rfl, by decide⟩
theorem D_mo_put_35 : Dc M_mo_put 35 (.iload_n 2) 1 36 := ⟨by decide +kernel, rfl⟩
theorem D_mo_put_36 : Dc M_mo_put 36 (.aload_n 0) 1 37 := ⟨by decide +kernel, rfl⟩
theorem D_mo_put_37 : Dg M_mo_put 37 40 6 14 R_mo T_mo 21 := ⟨41, by decide +kernel, rfl, rfl, by decide, fl_mo_41, in_mo⟩
theorem D_mo_put_40 : Dc M_mo_put 40 (.iload_n 1) 1 41 := ⟨by decide +kernel, rfl⟩
theorem D_mo_put_41 : Dc M_mo_put 41 (.iaload) 1 42 := ⟨by decide +kernel, rfl⟩
theorem D_mo_put_42 : Dj M_mo_put 42 (.if_icmp .lt) 45 51 := ⟨9, by decide +kernel, rfl, by decide⟩
theorem D_mo_put_45 : Dc M_mo_put 45 (.aload_n 0) 1 46 := ⟨by decide +kernel, rfl⟩
theorem D_mo_put_46 : Dc M_mo_put 46 (.iconst 3) 1 47 := ⟨by decide +kernel, rfl⟩
theorem D_mo_put_47 : DcV M_mo_put M_mo_fails 47 50 := ⟨102, by decide +kernel, rfl, ml_mo_102, by decide, by decide⟩
theorem D_mo_put_50 : Dc M_mo_put 50 (.ireturn) 1 51 := ⟨by decide +kernel, rfl⟩
theorem D_mo_put_51 : Dc M_mo_put 51 (.aload_n 0) 1 52 := ⟨by decide +kernel, rfl⟩
theorem D_mo_put_52 : Dg M_mo_put 52 55 6 15 R_mo T_mo 21 := ⟨44, by decide +kernel, rfl, rfl, by decide, fl_mo_44, in_mo⟩
theorem D_mo_put_55 : Dc M_mo_put 55 (.sipush 600) 3 58 := ⟨by decide +kernel, rfl⟩
theorem D_mo_put_58 : Dc M_mo_put 58 (.iload_n 1) 1 59 := ⟨by decide +kernel, rfl⟩
theorem D_mo_put_59 : Dc M_mo_put 59 (.imul) 1 60 := ⟨by decide +kernel, rfl⟩
theorem D_mo_put_60 : Dc M_mo_put 60 (.iload_n 2) 1 61 := ⟨by decide +kernel, rfl⟩
theorem D_mo_put_61 : Dc M_mo_put 61 (.iadd) 1 62 := ⟨by decide +kernel, rfl⟩
theorem D_mo_put_62 : Dc M_mo_put 62 (.aload_n 0) 1 63 := ⟨by decide +kernel, rfl⟩
theorem D_mo_put_63 : Dg M_mo_put 63 66 6 13 R_mo T_mo 21 := ⟨38, by decide +kernel, rfl, rfl, by decide, fl_mo_38, in_mo⟩
theorem D_mo_put_66 : Dc M_mo_put 66 (.iload_n 1) 1 67 := ⟨by decide +kernel, rfl⟩
theorem D_mo_put_67 : Dc M_mo_put 67 (.iaload) 1 68 := ⟨by decide +kernel, rfl⟩
theorem D_mo_put_68 : Dj M_mo_put 68 (.ifCond .ne) 71 78 := ⟨10, by decide +kernel, rfl, by decide⟩
theorem D_mo_put_71 : Dc M_mo_put 71 (.lload_n 3) 1 72 := ⟨by decide +kernel, rfl⟩
theorem D_mo_put_72 : Dc M_mo_put 72 (.l2i) 1 73 := ⟨by decide +kernel, rfl⟩
theorem D_mo_put_73 : Dc M_mo_put 73 (.i2b) 1 74 := ⟨by decide +kernel, rfl⟩
theorem D_mo_put_74 : Dc M_mo_put 74 (.i2l) 1 75 := ⟨by decide +kernel, rfl⟩
theorem D_mo_put_75 : Dj M_mo_put 75 (.goto) 78 95 := ⟨20, by decide +kernel, rfl, by decide⟩
theorem D_mo_put_78 : Dc M_mo_put 78 (.aload_n 0) 1 79 := ⟨by decide +kernel, rfl⟩
theorem D_mo_put_79 : Dg M_mo_put 79 82 6 13 R_mo T_mo 21 := ⟨38, by decide +kernel, rfl, rfl, by decide, fl_mo_38, in_mo⟩
theorem D_mo_put_82 : Dc M_mo_put 82 (.iload_n 1) 1 83 := ⟨by decide +kernel, rfl⟩
theorem D_mo_put_83 : Dc M_mo_put 83 (.iaload) 1 84 := ⟨by decide +kernel, rfl⟩
theorem D_mo_put_84 : Dc M_mo_put 84 (.iconst 1) 1 85 := ⟨by decide +kernel, rfl⟩
theorem D_mo_put_85 : Dj M_mo_put 85 (.if_icmp .ne) 88 94 := ⟨9, by decide +kernel, rfl, by decide⟩
theorem D_mo_put_88 : Dc M_mo_put 88 (.lload_n 3) 1 89 := ⟨by decide +kernel, rfl⟩
theorem D_mo_put_89 : Dc M_mo_put 89 (.l2i) 1 90 := ⟨by decide +kernel, rfl⟩
theorem D_mo_put_90 : Dc M_mo_put 90 (.i2l) 1 91 := ⟨by decide +kernel, rfl⟩
theorem D_mo_put_91 : Dj M_mo_put 91 (.goto) 94 95 := ⟨4, by decide +kernel, rfl, by decide⟩
theorem D_mo_put_94 : Dc M_mo_put 94 (.lload_n 3) 1 95 := ⟨by decide +kernel, rfl⟩
theorem D_mo_put_95 : Dc M_mo_put 95 (.lastore) 1 96 := ⟨by decide +kernel, rfl⟩
theorem D_mo_put_96 : Dc M_mo_put 96 (.iconst 1) 1 97 := ⟨by decide +kernel, rfl⟩
theorem D_mo_put_97 : Dc M_mo_put 97 (.ireturn) 1 98 := ⟨by decide +kernel, rfl⟩
theorem D_mo_at_0 : Dc M_mo_at 0 (.aload_n 0) 1 1 := ⟨by decide +kernel, rfl⟩
theorem D_mo_at_1 : Dc M_mo_at 1 (.iconst 0) 1 2 := ⟨by decide +kernel, rfl⟩
theorem D_mo_at_2 : Dp M_mo_at 2 5 6 0 R_mo T_mo 21 := ⟨64, by decide +kernel, rfl, rfl, by decide, fl_mo_64, in_mo, rfl⟩
theorem D_mo_at_5 : Dc M_mo_at 5 (.iload_n 1) 1 6 := ⟨by decide +kernel, rfl⟩
theorem D_mo_at_6 : DcS M_mo_at M_mo_isSheet 6 9 := ⟨99, by decide +kernel, rfl, ml_mo_99, by decide, by decide⟩
theorem D_mo_at_9 : Dj M_mo_at 9 (.ifCond .eq) 12 24 := ⟨15, by decide +kernel, rfl, by decide⟩
theorem D_mo_at_12 : Dc M_mo_at 12 (.iload_n 3) 1 13 := ⟨by decide +kernel, rfl⟩
theorem D_mo_at_13 : Dc M_mo_at 13 (.i2l) 1 14 := ⟨by decide +kernel, rfl⟩
theorem D_mo_at_14 : Dc M_mo_at 14 (.lconst 0) 1 15 := ⟨by decide +kernel, rfl⟩
theorem D_mo_at_15 : Dl M_mo_at 15 18 (lN 2) := ⟨84, by decide +kernel, rfl, by decide +kernel⟩
theorem D_mo_at_18 : DcS M_mo_at M_mo_within 18 21 := ⟨88, by decide +kernel, rfl, ml_mo_88, by decide, by decide⟩
theorem D_mo_at_21 : Dj M_mo_at 21 (.ifCond .ne) 24 28 := ⟨7, by decide +kernel, rfl, by decide⟩
theorem D_mo_at_24 : Dl M_mo_at 24 27 (-lN 9223372036854775808) := ⟨67, by decide +kernel, rfl, by decide +kernel⟩
theorem D_mo_at_27 : Dc M_mo_at 27 (.lreturn) 1 28 := ⟨by decide +kernel, rfl⟩
theorem D_mo_at_28 : Dc M_mo_at 28 (.aload_n 0) 1 29 := ⟨by decide +kernel, rfl⟩
theorem D_mo_at_29 : Dg M_mo_at 29 32 6 13 R_mo T_mo 21 := ⟨38, by decide +kernel, rfl, rfl, by decide, fl_mo_38, in_mo⟩
theorem D_mo_at_32 : Dc M_mo_at 32 (.iload_n 1) 1 33 := ⟨by decide +kernel, rfl⟩
theorem D_mo_at_33 : Dc M_mo_at 33 (.iaload) 1 34 := ⟨by decide +kernel, rfl⟩
theorem D_mo_at_34 : Dc M_mo_at 34 (.bipush (-9)) 2 36 := ⟨by decide +kernel, rfl⟩
theorem D_mo_at_36 : Dj M_mo_at 36 (.if_icmp .eq) 39 55 := ⟨19, by decide +kernel, rfl, by decide⟩
theorem D_mo_at_39 : Dc M_mo_at 39 (.aload_n 0) 1 40 := ⟨by decide +kernel, rfl⟩
theorem D_mo_at_40 : Dg M_mo_at 40 43 6 13 R_mo T_mo 21 := ⟨38, by decide +kernel, rfl, rfl, by decide, fl_mo_38, in_mo⟩
theorem D_mo_at_43 : Dc M_mo_at 43 (.iload_n 1) 1 44 := ⟨by decide +kernel, rfl⟩
theorem D_mo_at_44 : Dc M_mo_at 44 (.iaload) 1 45 := ⟨by decide +kernel, rfl⟩
theorem D_mo_at_45 : Dc M_mo_at 45 (.iload_n 3) 1 46 := ⟨by decide +kernel, rfl⟩
theorem D_mo_at_46 : Dj M_mo_at 46 (.if_icmp .eq) 49 55 := ⟨9, by decide +kernel, rfl, by decide⟩
theorem D_mo_at_49 : Dc M_mo_at 49 (.aload_n 0) 1 50 := ⟨by decide +kernel, rfl⟩
theorem D_mo_at_50 : Dc M_mo_at 50 (.iconst 2) 1 51 := ⟨by decide +kernel, rfl⟩
theorem ml_mo_139 : Cond.methodLink R_mo 139 M_mo_lost.1 ∈ gtb := mem_g 862 (by decide +kernel) rfl
theorem D_mo_at_51 : DcV M_mo_at M_mo_lost 51 54 := ⟨139, by decide +kernel, rfl, ml_mo_139, by decide, by decide⟩
theorem D_mo_at_54 : Dc M_mo_at 54 (.lreturn) 1 55 := ⟨by decide +kernel, rfl⟩
theorem D_mo_at_55 : Dc M_mo_at 55 (.aload_n 0) 1 56 := ⟨by decide +kernel, rfl⟩
theorem D_mo_at_56 : Dg M_mo_at 56 59 6 13 R_mo T_mo 21 := ⟨38, by decide +kernel, rfl, rfl, by decide, fl_mo_38, in_mo⟩
theorem D_mo_at_59 : Dc M_mo_at 59 (.iload_n 1) 1 60 := ⟨by decide +kernel, rfl⟩
theorem D_mo_at_60 : Dc M_mo_at 60 (.iaload) 1 61 := ⟨by decide +kernel, rfl⟩
theorem D_mo_at_61 : Dc M_mo_at 61 (.bipush (-9)) 2 63 := ⟨by decide +kernel, rfl⟩
theorem D_mo_at_63 : Dj M_mo_at 63 (.if_icmp .ne) 66 72 := ⟨9, by decide +kernel, rfl, by decide⟩
theorem D_mo_at_66 : Dc M_mo_at 66 (.aload_n 0) 1 67 := ⟨by decide +kernel, rfl⟩
theorem D_mo_at_67 : Dc M_mo_at 67 (.iconst 1) 1 68 := ⟨by decide +kernel, rfl⟩
theorem D_mo_at_68 : DcV M_mo_at M_mo_lost 68 71 := ⟨139, by decide +kernel, rfl, ml_mo_139, by decide, by decide⟩
theorem D_mo_at_71 : Dc M_mo_at 71 (.lreturn) 1 72 := ⟨by decide +kernel, rfl⟩
theorem D_mo_at_72 : Dc M_mo_at 72 (.iload_n 2) 1 73 := ⟨by decide +kernel, rfl⟩
theorem D_mo_at_73 : Dj M_mo_at 73 (.ifCond .lt) 76 86 := ⟨13, by decide +kernel, rfl, by decide⟩
theorem D_mo_at_76 : Dc M_mo_at 76 (.iload_n 2) 1 77 := ⟨by decide +kernel, rfl⟩
theorem D_mo_at_77 : Dc M_mo_at 77 (.aload_n 0) 1 78 := ⟨by decide +kernel, rfl⟩
theorem D_mo_at_78 : Dg M_mo_at 78 81 6 14 R_mo T_mo 21 := ⟨41, by decide +kernel, rfl, rfl, by decide, fl_mo_41, in_mo⟩
theorem D_mo_at_81 : Dc M_mo_at 81 (.iload_n 1) 1 82 := ⟨by decide +kernel, rfl⟩
theorem D_mo_at_82 : Dc M_mo_at 82 (.iaload) 1 83 := ⟨by decide +kernel, rfl⟩
theorem D_mo_at_83 : Dj M_mo_at 83 (.if_icmp .lt) 86 92 := ⟨9, by decide +kernel, rfl, by decide⟩
theorem D_mo_at_86 : Dc M_mo_at 86 (.aload_n 0) 1 87 := ⟨by decide +kernel, rfl⟩
theorem D_mo_at_87 : Dc M_mo_at 87 (.iconst 3) 1 88 := ⟨by decide +kernel, rfl⟩
theorem D_mo_at_88 : DcV M_mo_at M_mo_lost 88 91 := ⟨139, by decide +kernel, rfl, ml_mo_139, by decide, by decide⟩
theorem D_mo_at_91 : Dc M_mo_at 91 (.lreturn) 1 92 := ⟨by decide +kernel, rfl⟩
theorem D_mo_at_92 : Dc M_mo_at 92 (.aload_n 0) 1 93 := ⟨by decide +kernel, rfl⟩
theorem D_mo_at_93 : Dg M_mo_at 93 96 6 15 R_mo T_mo 21 := ⟨44, by decide +kernel, rfl, rfl, by decide, fl_mo_44, in_mo⟩
theorem D_mo_at_96 : Dc M_mo_at 96 (.sipush 600) 3 99 := ⟨by decide +kernel, rfl⟩
theorem D_mo_at_99 : Dc M_mo_at 99 (.iload_n 1) 1 100 := ⟨by decide +kernel, rfl⟩
theorem D_mo_at_100 : Dc M_mo_at 100 (.imul) 1 101 := ⟨by decide +kernel, rfl⟩
theorem D_mo_at_101 : Dc M_mo_at 101 (.iload_n 2) 1 102 := ⟨by decide +kernel, rfl⟩
theorem D_mo_at_102 : Dc M_mo_at 102 (.iadd) 1 103 := ⟨by decide +kernel, rfl⟩
theorem D_mo_at_103 : Dc M_mo_at 103 (.laload) 1 104 := ⟨by decide +kernel, rfl⟩
theorem D_mo_at_104 : Dc M_mo_at 104 (.lreturn) 1 105 := ⟨by decide +kernel, rfl⟩
theorem D_mo_out_0 : Dc M_mo_out 0 (.aload_n 0) 1 1 := ⟨by decide +kernel, rfl⟩
theorem D_mo_out_1 : Dc M_mo_out 1 (.iconst 0) 1 2 := ⟨by decide +kernel, rfl⟩
theorem D_mo_out_2 : Dp M_mo_out 2 5 6 0 R_mo T_mo 21 := ⟨64, by decide +kernel, rfl, rfl, by decide, fl_mo_64, in_mo, rfl⟩
theorem D_mo_out_5 : Dc M_mo_out 5 (.iload_n 2) 1 6 := ⟨by decide +kernel, rfl⟩
theorem D_mo_out_6 : DcS M_mo_out M_mo_isSheet 6 9 := ⟨99, by decide +kernel, rfl, ml_mo_99, by decide, by decide⟩
theorem D_mo_out_9 : Dj M_mo_out 9 (.ifCond .eq) 12 20 := ⟨11, by decide +kernel, rfl, by decide⟩
theorem D_mo_out_12 : Dc M_mo_out 12 (.aload_n 0) 1 13 := ⟨by decide +kernel, rfl⟩
theorem D_mo_out_13 : Dc M_mo_out 13 (.iload_n 1) 1 14 := ⟨by decide +kernel, rfl⟩
theorem D_mo_out_14 : DcV M_mo_out M_mo_isState 14 17 := ⟨92, by decide +kernel, rfl, ml_mo_92, by decide, by decide⟩
theorem D_mo_out_17 : Dj M_mo_out 17 (.ifCond .ne) 20 22 := ⟨5, by decide +kernel, rfl, by decide⟩
theorem D_mo_out_20 : Dc M_mo_out 20 (.iconst (-1)) 1 21 := ⟨by decide +kernel, rfl⟩
theorem D_mo_out_21 : Dc M_mo_out 21 (.ireturn) 1 22 := ⟨by decide +kernel, rfl⟩
theorem D_mo_out_22 : Dc M_mo_out 22 (.aload_n 0) 1 23 := ⟨by decide +kernel, rfl⟩
theorem D_mo_out_23 : Dg M_mo_out 23 26 6 13 R_mo T_mo 21 := ⟨38, by decide +kernel, rfl, rfl, by decide, fl_mo_38, in_mo⟩
theorem D_mo_out_26 : Dc M_mo_out 26 (.iload_n 2) 1 27 := ⟨by decide +kernel, rfl⟩
theorem D_mo_out_27 : Dc M_mo_out 27 (.iaload) 1 28 := ⟨by decide +kernel, rfl⟩
theorem D_mo_out_28 : Dc M_mo_out 28 (.bipush (-9)) 2 30 := ⟨by decide +kernel, rfl⟩
theorem D_mo_out_30 : Dj M_mo_out 30 (.if_icmp .ne) 33 39 := ⟨9, by decide +kernel, rfl, by decide⟩
theorem D_mo_out_33 : Dc M_mo_out 33 (.aload_n 0) 1 34 := ⟨by decide +kernel, rfl⟩
theorem D_mo_out_34 : Dc M_mo_out 34 (.iconst 1) 1 35 := ⟨by decide +kernel, rfl⟩
theorem D_mo_out_35 : DcV M_mo_out M_mo_fails 35 38 := ⟨102, by decide +kernel, rfl, ml_mo_102, by decide, by decide⟩
theorem D_mo_out_38 : Dc M_mo_out 38 (.ireturn) 1 39 := ⟨by decide +kernel, rfl⟩
theorem D_mo_out_39 : Dc M_mo_out 39 (.iload 4) 2 41 := ⟨by decide +kernel, rfl⟩
theorem D_mo_out_41 : Dj M_mo_out 41 (.ifCond .ge) 44 50 := ⟨9, by decide +kernel, rfl, by decide⟩
theorem D_mo_out_44 : Dc M_mo_out 44 (.aload_n 0) 1 45 := ⟨by decide +kernel, rfl⟩
theorem D_mo_out_45 : Dc M_mo_out 45 (.iconst 4) 1 46 := ⟨by decide +kernel, rfl⟩
theorem D_mo_out_46 : DcV M_mo_out M_mo_fails 46 49 := ⟨102, by decide +kernel, rfl, ml_mo_102, by decide, by decide⟩
theorem D_mo_out_49 : Dc M_mo_out 49 (.ireturn) 1 50 := ⟨by decide +kernel, rfl⟩
theorem D_mo_out_50 : Dc M_mo_out 50 (.iload_n 3) 1 51 := ⟨by decide +kernel, rfl⟩
theorem D_mo_out_51 : Dj M_mo_out 51 (.ifCond .lt) 54 77 := ⟨26, by decide +kernel, rfl, by decide⟩
theorem D_mo_out_54 : Dc M_mo_out 54 (.iload_n 3) 1 55 := ⟨by decide +kernel, rfl⟩
theorem D_mo_out_55 : Dc M_mo_out 55 (.aload_n 0) 1 56 := ⟨by decide +kernel, rfl⟩
theorem D_mo_out_56 : Dg M_mo_out 56 59 6 14 R_mo T_mo 21 := ⟨41, by decide +kernel, rfl, rfl, by decide, fl_mo_41, in_mo⟩
theorem D_mo_out_59 : Dc M_mo_out 59 (.iload_n 2) 1 60 := ⟨by decide +kernel, rfl⟩
theorem D_mo_out_60 : Dc M_mo_out 60 (.iaload) 1 61 := ⟨by decide +kernel, rfl⟩
theorem D_mo_out_61 : Dj M_mo_out 61 (.if_icmp .gt) 64 77 := ⟨16, by decide +kernel, rfl, by decide⟩
theorem D_mo_out_64 : Dc M_mo_out 64 (.iload 4) 2 66 := ⟨by decide +kernel, rfl⟩
theorem D_mo_out_66 : Dc M_mo_out 66 (.aload_n 0) 1 67 := ⟨by decide +kernel, rfl⟩
theorem D_mo_out_67 : Dg M_mo_out 67 70 6 14 R_mo T_mo 21 := ⟨41, by decide +kernel, rfl, rfl, by decide, fl_mo_41, in_mo⟩
theorem D_mo_out_70 : Dc M_mo_out 70 (.iload_n 2) 1 71 := ⟨by decide +kernel, rfl⟩
theorem D_mo_out_71 : Dc M_mo_out 71 (.iaload) 1 72 := ⟨by decide +kernel, rfl⟩
theorem D_mo_out_72 : Dc M_mo_out 72 (.iload_n 3) 1 73 := ⟨by decide +kernel, rfl⟩
theorem D_mo_out_73 : Dc M_mo_out 73 (.isub) 1 74 := ⟨by decide +kernel, rfl⟩
theorem D_mo_out_74 : Dj M_mo_out 74 (.if_icmp .le) 77 83 := ⟨9, by decide +kernel, rfl, by decide⟩
theorem D_mo_out_77 : Dc M_mo_out 77 (.aload_n 0) 1 78 := ⟨by decide +kernel, rfl⟩
theorem D_mo_out_78 : Dc M_mo_out 78 (.iconst 3) 1 79 := ⟨by decide +kernel, rfl⟩
theorem D_mo_out_79 : DcV M_mo_out M_mo_fails 79 82 := ⟨102, by decide +kernel, rfl, ml_mo_102, by decide, by decide⟩
theorem D_mo_out_82 : Dc M_mo_out 82 (.ireturn) 1 83 := ⟨by decide +kernel, rfl⟩
theorem D_mo_out_83 : Dc M_mo_out 83 (.iload_n 1) 1 84 := ⟨by decide +kernel, rfl⟩
theorem D_mo_out_84 : Dc M_mo_out 84 (.istore 5) 2 86 := ⟨by decide +kernel, rfl⟩
theorem D_mo_out_86 : Dc M_mo_out 86 (.iconst 0) 1 87 := ⟨by decide +kernel, rfl⟩
theorem D_mo_out_87 : Dc M_mo_out 87 (.istore 6) 2 89 := ⟨by decide +kernel, rfl⟩
theorem D_mo_out_89 : Dc M_mo_out 89 (.iload 6) 2 91 := ⟨by decide +kernel, rfl⟩
theorem D_mo_out_91 : Dc M_mo_out 91 (.iload 4) 2 93 := ⟨by decide +kernel, rfl⟩
theorem D_mo_out_93 : Dj M_mo_out 93 (.if_icmp .ge) 96 130 := ⟨37, by decide +kernel, rfl, by decide⟩
theorem D_mo_out_96 : Dc M_mo_out 96 (.aload_n 0) 1 97 := ⟨by decide +kernel, rfl⟩
theorem D_mo_out_97 : Dg M_mo_out 97 100 6 15 R_mo T_mo 21 := ⟨44, by decide +kernel, rfl, rfl, by decide, fl_mo_44, in_mo⟩
theorem D_mo_out_100 : Dc M_mo_out 100 (.sipush 600) 3 103 := ⟨by decide +kernel, rfl⟩
theorem D_mo_out_103 : Dc M_mo_out 103 (.iload_n 2) 1 104 := ⟨by decide +kernel, rfl⟩
theorem D_mo_out_104 : Dc M_mo_out 104 (.imul) 1 105 := ⟨by decide +kernel, rfl⟩
theorem D_mo_out_105 : Dc M_mo_out 105 (.iload_n 3) 1 106 := ⟨by decide +kernel, rfl⟩
theorem D_mo_out_106 : Dc M_mo_out 106 (.iadd) 1 107 := ⟨by decide +kernel, rfl⟩
theorem D_mo_out_107 : Dc M_mo_out 107 (.iload 6) 2 109 := ⟨by decide +kernel, rfl⟩
theorem D_mo_out_109 : Dc M_mo_out 109 (.iadd) 1 110 := ⟨by decide +kernel, rfl⟩
theorem D_mo_out_110 : Dc M_mo_out 110 (.iload 5) 2 112 := ⟨by decide +kernel, rfl⟩
theorem D_mo_out_112 : Dc M_mo_out 112 (.iconst 1) 1 113 := ⟨by decide +kernel, rfl⟩
theorem D_mo_out_113 : Dc M_mo_out 113 (.iand) 1 114 := ⟨by decide +kernel, rfl⟩
theorem D_mo_out_114 : Dc M_mo_out 114 (.i2l) 1 115 := ⟨by decide +kernel, rfl⟩
theorem D_mo_out_115 : Dc M_mo_out 115 (.lastore) 1 116 := ⟨by decide +kernel, rfl⟩
theorem D_mo_out_116 : Dc M_mo_out 116 (.aload_n 0) 1 117 := ⟨by decide +kernel, rfl⟩
theorem D_mo_out_117 : Dc M_mo_out 117 (.iload 5) 2 119 := ⟨by decide +kernel, rfl⟩
theorem D_mo_out_119 : DcV M_mo_out M_mo_next 119 122 := ⟨77, by decide +kernel, rfl, ml_mo_77, by decide, by decide⟩
theorem D_mo_out_122 : Dc M_mo_out 122 (.istore 5) 2 124 := ⟨by decide +kernel, rfl⟩
theorem D_mo_out_124 : Dc M_mo_out 124 (.iinc 6 1) 3 127 := ⟨by decide +kernel, rfl⟩
theorem D_mo_out_127 : Dj M_mo_out 127 (.goto) 130 89 := ⟨(-38), by decide +kernel, rfl, by decide⟩
theorem D_mo_out_130 : Dc M_mo_out 130 (.iload 5) 2 132 := ⟨by decide +kernel, rfl⟩
theorem D_mo_out_132 : Dc M_mo_out 132 (.ireturn) 1 133 := ⟨by decide +kernel, rfl⟩
theorem D_mo_thin_0 : Dc M_mo_thin 0 (.aload_n 0) 1 1 := ⟨by decide +kernel, rfl⟩
theorem D_mo_thin_1 : Dc M_mo_thin 1 (.iconst 0) 1 2 := ⟨by decide +kernel, rfl⟩
theorem D_mo_thin_2 : Dp M_mo_thin 2 5 6 0 R_mo T_mo 21 := ⟨64, by decide +kernel, rfl, rfl, by decide, fl_mo_64, in_mo, rfl⟩
theorem D_mo_thin_5 : Dc M_mo_thin 5 (.iload_n 1) 1 6 := ⟨by decide +kernel, rfl⟩
theorem D_mo_thin_6 : DcS M_mo_thin M_mo_isSheet 6 9 := ⟨99, by decide +kernel, rfl, ml_mo_99, by decide, by decide⟩
theorem D_mo_thin_9 : Dj M_mo_thin 9 (.ifCond .eq) 12 19 := ⟨10, by decide +kernel, rfl, by decide⟩
theorem D_mo_thin_12 : Dc M_mo_thin 12 (.iload_n 3) 1 13 := ⟨by decide +kernel, rfl⟩
theorem D_mo_thin_13 : DcS M_mo_thin M_mo_isSheet 13 16 := ⟨99, by decide +kernel, rfl, ml_mo_99, by decide, by decide⟩
theorem D_mo_thin_16 : Dj M_mo_thin 16 (.ifCond .ne) 19 21 := ⟨5, by decide +kernel, rfl, by decide⟩
theorem D_mo_thin_19 : Dc M_mo_thin 19 (.iconst (-1)) 1 20 := ⟨by decide +kernel, rfl⟩
theorem D_mo_thin_20 : Dc M_mo_thin 20 (.ireturn) 1 21 := ⟨by decide +kernel, rfl⟩
theorem D_mo_thin_21 : Dc M_mo_thin 21 (.iload_n 2) 1 22 := ⟨by decide +kernel, rfl⟩
theorem D_mo_thin_22 : Dc M_mo_thin 22 (.i2l) 1 23 := ⟨by decide +kernel, rfl⟩
theorem D_mo_thin_23 : Dc M_mo_thin 23 (.lconst 1) 1 24 := ⟨by decide +kernel, rfl⟩
theorem D_mo_thin_24 : Dl M_mo_thin 24 27 (lN 600) := ⟨143, by decide +kernel, rfl, by decide +kernel⟩
theorem D_mo_thin_27 : DcS M_mo_thin M_mo_within 27 30 := ⟨88, by decide +kernel, rfl, ml_mo_88, by decide, by decide⟩
theorem D_mo_thin_30 : Dj M_mo_thin 30 (.ifCond .ne) 33 36 := ⟨6, by decide +kernel, rfl, by decide⟩
theorem D_mo_thin_33 : Dc M_mo_thin 33 (.bipush (-2)) 2 35 := ⟨by decide +kernel, rfl⟩
theorem D_mo_thin_35 : Dc M_mo_thin 35 (.ireturn) 1 36 := ⟨by decide +kernel, rfl⟩
theorem D_mo_thin_36 : Dc M_mo_thin 36 (.aload_n 0) 1 37 := ⟨by decide +kernel, rfl⟩
theorem D_mo_thin_37 : Dg M_mo_thin 37 40 6 13 R_mo T_mo 21 := ⟨38, by decide +kernel, rfl, rfl, by decide, fl_mo_38, in_mo⟩
theorem D_mo_thin_40 : Dc M_mo_thin 40 (.iload_n 1) 1 41 := ⟨by decide +kernel, rfl⟩
theorem D_mo_thin_41 : Dc M_mo_thin 41 (.iaload) 1 42 := ⟨by decide +kernel, rfl⟩
theorem D_mo_thin_42 : Dc M_mo_thin 42 (.bipush (-9)) 2 44 := ⟨by decide +kernel, rfl⟩
theorem D_mo_thin_44 : Dj M_mo_thin 44 (.if_icmp .ne) 47 53 := ⟨9, by decide +kernel, rfl, by decide⟩
theorem D_mo_thin_47 : Dc M_mo_thin 47 (.aload_n 0) 1 48 := ⟨by decide +kernel, rfl⟩
theorem D_mo_thin_48 : Dc M_mo_thin 48 (.iconst 1) 1 49 := ⟨by decide +kernel, rfl⟩
theorem D_mo_thin_49 : DcV M_mo_thin M_mo_fails 49 52 := ⟨102, by decide +kernel, rfl, ml_mo_102, by decide, by decide⟩
theorem D_mo_thin_52 : Dc M_mo_thin 52 (.ireturn) 1 53 := ⟨by decide +kernel, rfl⟩
theorem D_mo_thin_53 : Dc M_mo_thin 53 (.aload_n 0) 1 54 := ⟨by decide +kernel, rfl⟩
theorem D_mo_thin_54 : Dg M_mo_thin 54 57 6 14 R_mo T_mo 21 := ⟨41, by decide +kernel, rfl, rfl, by decide, fl_mo_41, in_mo⟩
theorem D_mo_thin_57 : Dc M_mo_thin 57 (.iload_n 1) 1 58 := ⟨by decide +kernel, rfl⟩
theorem D_mo_thin_58 : Dc M_mo_thin 58 (.iaload) 1 59 := ⟨by decide +kernel, rfl⟩
theorem D_mo_thin_59 : Dc M_mo_thin 59 (.iload_n 2) 1 60 := ⟨by decide +kernel, rfl⟩
theorem D_mo_thin_60 : Dc M_mo_thin 60 (.iadd) 1 61 := ⟨by decide +kernel, rfl⟩
theorem D_mo_thin_61 : Dc M_mo_thin 61 (.iconst 1) 1 62 := ⟨by decide +kernel, rfl⟩
theorem D_mo_thin_62 : Dc M_mo_thin 62 (.isub) 1 63 := ⟨by decide +kernel, rfl⟩
theorem D_mo_thin_63 : Dc M_mo_thin 63 (.iload_n 2) 1 64 := ⟨by decide +kernel, rfl⟩
theorem D_mo_thin_64 : Dc M_mo_thin 64 (.idiv) 1 65 := ⟨by decide +kernel, rfl⟩
theorem D_mo_thin_65 : Dc M_mo_thin 65 (.istore 4) 2 67 := ⟨by decide +kernel, rfl⟩
theorem D_mo_thin_67 : Dc M_mo_thin 67 (.iconst 0) 1 68 := ⟨by decide +kernel, rfl⟩
theorem D_mo_thin_68 : Dc M_mo_thin 68 (.istore 5) 2 70 := ⟨by decide +kernel, rfl⟩
theorem D_mo_thin_70 : Dc M_mo_thin 70 (.iload 5) 2 72 := ⟨by decide +kernel, rfl⟩
theorem D_mo_thin_72 : Dc M_mo_thin 72 (.iload 4) 2 74 := ⟨by decide +kernel, rfl⟩
theorem D_mo_thin_74 : Dj M_mo_thin 74 (.if_icmp .ge) 77 111 := ⟨37, by decide +kernel, rfl, by decide⟩
theorem D_mo_thin_77 : Dc M_mo_thin 77 (.aload_n 0) 1 78 := ⟨by decide +kernel, rfl⟩
theorem D_mo_thin_78 : Dg M_mo_thin 78 81 6 15 R_mo T_mo 21 := ⟨44, by decide +kernel, rfl, rfl, by decide, fl_mo_44, in_mo⟩
theorem D_mo_thin_81 : Dc M_mo_thin 81 (.sipush 600) 3 84 := ⟨by decide +kernel, rfl⟩
theorem D_mo_thin_84 : Dc M_mo_thin 84 (.iload_n 3) 1 85 := ⟨by decide +kernel, rfl⟩
theorem D_mo_thin_85 : Dc M_mo_thin 85 (.imul) 1 86 := ⟨by decide +kernel, rfl⟩
theorem D_mo_thin_86 : Dc M_mo_thin 86 (.iload 5) 2 88 := ⟨by decide +kernel, rfl⟩
theorem D_mo_thin_88 : Dc M_mo_thin 88 (.iadd) 1 89 := ⟨by decide +kernel, rfl⟩
theorem D_mo_thin_89 : Dc M_mo_thin 89 (.aload_n 0) 1 90 := ⟨by decide +kernel, rfl⟩
theorem D_mo_thin_90 : Dg M_mo_thin 90 93 6 15 R_mo T_mo 21 := ⟨44, by decide +kernel, rfl, rfl, by decide, fl_mo_44, in_mo⟩
theorem D_mo_thin_93 : Dc M_mo_thin 93 (.sipush 600) 3 96 := ⟨by decide +kernel, rfl⟩
theorem D_mo_thin_96 : Dc M_mo_thin 96 (.iload_n 1) 1 97 := ⟨by decide +kernel, rfl⟩
theorem D_mo_thin_97 : Dc M_mo_thin 97 (.imul) 1 98 := ⟨by decide +kernel, rfl⟩
theorem D_mo_thin_98 : Dc M_mo_thin 98 (.iload_n 2) 1 99 := ⟨by decide +kernel, rfl⟩
theorem D_mo_thin_99 : Dc M_mo_thin 99 (.iload 5) 2 101 := ⟨by decide +kernel, rfl⟩
theorem D_mo_thin_101 : Dc M_mo_thin 101 (.imul) 1 102 := ⟨by decide +kernel, rfl⟩
theorem D_mo_thin_102 : Dc M_mo_thin 102 (.iadd) 1 103 := ⟨by decide +kernel, rfl⟩
theorem D_mo_thin_103 : Dc M_mo_thin 103 (.laload) 1 104 := ⟨by decide +kernel, rfl⟩
theorem D_mo_thin_104 : Dc M_mo_thin 104 (.lastore) 1 105 := ⟨by decide +kernel, rfl⟩
theorem D_mo_thin_105 : Dc M_mo_thin 105 (.iinc 5 1) 3 108 := ⟨by decide +kernel, rfl⟩
theorem D_mo_thin_108 : Dj M_mo_thin 108 (.goto) 111 70 := ⟨(-38), by decide +kernel, rfl, by decide⟩
theorem D_mo_thin_111 : Dc M_mo_thin 111 (.aload_n 0) 1 112 := ⟨by decide +kernel, rfl⟩
theorem D_mo_thin_112 : Dg M_mo_thin 112 115 6 13 R_mo T_mo 21 := ⟨38, by decide +kernel, rfl, rfl, by decide, fl_mo_38, in_mo⟩
theorem D_mo_thin_115 : Dc M_mo_thin 115 (.iload_n 3) 1 116 := ⟨by decide +kernel, rfl⟩
theorem D_mo_thin_116 : Dc M_mo_thin 116 (.aload_n 0) 1 117 := ⟨by decide +kernel, rfl⟩
theorem D_mo_thin_117 : Dg M_mo_thin 117 120 6 13 R_mo T_mo 21 := ⟨38, by decide +kernel, rfl, rfl, by decide, fl_mo_38, in_mo⟩
theorem D_mo_thin_120 : Dc M_mo_thin 120 (.iload_n 1) 1 121 := ⟨by decide +kernel, rfl⟩
theorem D_mo_thin_121 : Dc M_mo_thin 121 (.iaload) 1 122 := ⟨by decide +kernel, rfl⟩
theorem D_mo_thin_122 : Dc M_mo_thin 122 (.iastore) 1 123 := ⟨by decide +kernel, rfl⟩
theorem D_mo_thin_123 : Dc M_mo_thin 123 (.aload_n 0) 1 124 := ⟨by decide +kernel, rfl⟩
theorem D_mo_thin_124 : Dg M_mo_thin 124 127 6 14 R_mo T_mo 21 := ⟨41, by decide +kernel, rfl, rfl, by decide, fl_mo_41, in_mo⟩
theorem D_mo_thin_127 : Dc M_mo_thin 127 (.iload_n 3) 1 128 := ⟨by decide +kernel, rfl⟩
theorem D_mo_thin_128 : Dc M_mo_thin 128 (.iload 4) 2 130 := ⟨by decide +kernel, rfl⟩
theorem D_mo_thin_130 : Dc M_mo_thin 130 (.iastore) 1 131 := ⟨by decide +kernel, rfl⟩
theorem D_mo_thin_131 : Dc M_mo_thin 131 (.iload 4) 2 133 := ⟨by decide +kernel, rfl⟩
theorem D_mo_thin_133 : Dc M_mo_thin 133 (.ireturn) 1 134 := ⟨by decide +kernel, rfl⟩
theorem D_mo_mix_0 : Dc M_mo_mix 0 (.aload_n 0) 1 1 := ⟨by decide +kernel, rfl⟩
theorem D_mo_mix_1 : Dc M_mo_mix 1 (.iconst 0) 1 2 := ⟨by decide +kernel, rfl⟩
theorem D_mo_mix_2 : Dp M_mo_mix 2 5 6 0 R_mo T_mo 21 := ⟨64, by decide +kernel, rfl, rfl, by decide, fl_mo_64, in_mo, rfl⟩
theorem D_mo_mix_5 : Dc M_mo_mix 5 (.iload_n 1) 1 6 := ⟨by decide +kernel, rfl⟩
theorem D_mo_mix_6 : DcS M_mo_mix M_mo_isSheet 6 9 := ⟨99, by decide +kernel, rfl, ml_mo_99, by decide, by decide⟩
theorem D_mo_mix_9 : Dj M_mo_mix 9 (.ifCond .eq) 12 19 := ⟨10, by decide +kernel, rfl, by decide⟩
theorem D_mo_mix_12 : Dc M_mo_mix 12 (.iload_n 2) 1 13 := ⟨by decide +kernel, rfl⟩
theorem D_mo_mix_13 : DcS M_mo_mix M_mo_isSheet 13 16 := ⟨99, by decide +kernel, rfl, ml_mo_99, by decide, by decide⟩
theorem D_mo_mix_16 : Dj M_mo_mix 16 (.ifCond .ne) 19 21 := ⟨5, by decide +kernel, rfl, by decide⟩
theorem D_mo_mix_19 : Dc M_mo_mix 19 (.iconst (-1)) 1 20 := ⟨by decide +kernel, rfl⟩
theorem D_mo_mix_20 : Dc M_mo_mix 20 (.ireturn) 1 21 := ⟨by decide +kernel, rfl⟩
theorem D_mo_mix_21 : Dc M_mo_mix 21 (.iload_n 3) 1 22 := ⟨by decide +kernel, rfl⟩
theorem D_mo_mix_22 : Dc M_mo_mix 22 (.i2l) 1 23 := ⟨by decide +kernel, rfl⟩
theorem D_mo_mix_23 : Dc M_mo_mix 23 (.lconst 0) 1 24 := ⟨by decide +kernel, rfl⟩
theorem D_mo_mix_24 : Dc M_mo_mix 24 (.lconst 1) 1 25 := ⟨by decide +kernel, rfl⟩
theorem D_mo_mix_25 : DcS M_mo_mix M_mo_within 25 28 := ⟨88, by decide +kernel, rfl, ml_mo_88, by decide, by decide⟩
theorem D_mo_mix_28 : Dj M_mo_mix 28 (.ifCond .ne) 31 34 := ⟨6, by decide +kernel, rfl, by decide⟩
theorem D_mo_mix_31 : Dc M_mo_mix 31 (.bipush (-2)) 2 33 := ⟨by decide +kernel, rfl⟩
theorem D_mo_mix_33 : Dc M_mo_mix 33 (.ireturn) 1 34 := ⟨by decide +kernel, rfl⟩
theorem D_mo_mix_34 : Dc M_mo_mix 34 (.aload_n 0) 1 35 := ⟨by decide +kernel, rfl⟩
theorem D_mo_mix_35 : Dg M_mo_mix 35 38 6 13 R_mo T_mo 21 := ⟨38, by decide +kernel, rfl, rfl, by decide, fl_mo_38, in_mo⟩
theorem D_mo_mix_38 : Dc M_mo_mix 38 (.iload_n 1) 1 39 := ⟨by decide +kernel, rfl⟩
theorem D_mo_mix_39 : Dc M_mo_mix 39 (.iaload) 1 40 := ⟨by decide +kernel, rfl⟩
theorem D_mo_mix_40 : Dc M_mo_mix 40 (.bipush (-9)) 2 42 := ⟨by decide +kernel, rfl⟩
theorem D_mo_mix_42 : Dj M_mo_mix 42 (.if_icmp .eq) 45 56 := ⟨14, by decide +kernel, rfl, by decide⟩
theorem D_mo_mix_45 : Dc M_mo_mix 45 (.aload_n 0) 1 46 := ⟨by decide +kernel, rfl⟩
theorem D_mo_mix_46 : Dg M_mo_mix 46 49 6 13 R_mo T_mo 21 := ⟨38, by decide +kernel, rfl, rfl, by decide, fl_mo_38, in_mo⟩
theorem D_mo_mix_49 : Dc M_mo_mix 49 (.iload_n 2) 1 50 := ⟨by decide +kernel, rfl⟩
theorem D_mo_mix_50 : Dc M_mo_mix 50 (.iaload) 1 51 := ⟨by decide +kernel, rfl⟩
theorem D_mo_mix_51 : Dc M_mo_mix 51 (.bipush (-9)) 2 53 := ⟨by decide +kernel, rfl⟩
theorem D_mo_mix_53 : Dj M_mo_mix 53 (.if_icmp .ne) 56 62 := ⟨9, by decide +kernel, rfl, by decide⟩
theorem D_mo_mix_56 : Dc M_mo_mix 56 (.aload_n 0) 1 57 := ⟨by decide +kernel, rfl⟩
theorem D_mo_mix_57 : Dc M_mo_mix 57 (.iconst 1) 1 58 := ⟨by decide +kernel, rfl⟩
theorem D_mo_mix_58 : DcV M_mo_mix M_mo_fails 58 61 := ⟨102, by decide +kernel, rfl, ml_mo_102, by decide, by decide⟩
theorem D_mo_mix_61 : Dc M_mo_mix 61 (.ireturn) 1 62 := ⟨by decide +kernel, rfl⟩
theorem D_mo_mix_62 : Dc M_mo_mix 62 (.aload_n 0) 1 63 := ⟨by decide +kernel, rfl⟩
theorem D_mo_mix_63 : Dg M_mo_mix 63 66 6 13 R_mo T_mo 21 := ⟨38, by decide +kernel, rfl, rfl, by decide, fl_mo_38, in_mo⟩
theorem D_mo_mix_66 : Dc M_mo_mix 66 (.iload_n 1) 1 67 := ⟨by decide +kernel, rfl⟩
theorem D_mo_mix_67 : Dc M_mo_mix 67 (.iaload) 1 68 := ⟨by decide +kernel, rfl⟩
theorem D_mo_mix_68 : Dc M_mo_mix 68 (.aload_n 0) 1 69 := ⟨by decide +kernel, rfl⟩
theorem D_mo_mix_69 : Dg M_mo_mix 69 72 6 13 R_mo T_mo 21 := ⟨38, by decide +kernel, rfl, rfl, by decide, fl_mo_38, in_mo⟩
theorem D_mo_mix_72 : Dc M_mo_mix 72 (.iload_n 2) 1 73 := ⟨by decide +kernel, rfl⟩
theorem D_mo_mix_73 : Dc M_mo_mix 73 (.iaload) 1 74 := ⟨by decide +kernel, rfl⟩
theorem D_mo_mix_74 : Dj M_mo_mix 74 (.if_icmp .eq) 77 83 := ⟨9, by decide +kernel, rfl, by decide⟩
theorem D_mo_mix_77 : Dc M_mo_mix 77 (.aload_n 0) 1 78 := ⟨by decide +kernel, rfl⟩
theorem D_mo_mix_78 : Dc M_mo_mix 78 (.iconst 2) 1 79 := ⟨by decide +kernel, rfl⟩
theorem D_mo_mix_79 : DcV M_mo_mix M_mo_fails 79 82 := ⟨102, by decide +kernel, rfl, ml_mo_102, by decide, by decide⟩
theorem D_mo_mix_82 : Dc M_mo_mix 82 (.ireturn) 1 83 := ⟨by decide +kernel, rfl⟩
theorem D_mo_mix_83 : Dc M_mo_mix 83 (.aload_n 0) 1 84 := ⟨by decide +kernel, rfl⟩
theorem D_mo_mix_84 : Dg M_mo_mix 84 87 6 14 R_mo T_mo 21 := ⟨41, by decide +kernel, rfl, rfl, by decide, fl_mo_41, in_mo⟩
theorem D_mo_mix_87 : Dc M_mo_mix 87 (.iload_n 1) 1 88 := ⟨by decide +kernel, rfl⟩
theorem D_mo_mix_88 : Dc M_mo_mix 88 (.iaload) 1 89 := ⟨by decide +kernel, rfl⟩
theorem D_mo_mix_89 : Dc M_mo_mix 89 (.aload_n 0) 1 90 := ⟨by decide +kernel, rfl⟩
theorem D_mo_mix_90 : Dg M_mo_mix 90 93 6 14 R_mo T_mo 21 := ⟨41, by decide +kernel, rfl, rfl, by decide, fl_mo_41, in_mo⟩
theorem D_mo_mix_93 : Dc M_mo_mix 93 (.iload_n 2) 1 94 := ⟨by decide +kernel, rfl⟩
theorem D_mo_mix_94 : Dc M_mo_mix 94 (.iaload) 1 95 := ⟨by decide +kernel, rfl⟩
theorem D_mo_mix_95 : Dj M_mo_mix 95 (.if_icmp .ge) 98 107 := ⟨12, by decide +kernel, rfl, by decide⟩
theorem D_mo_mix_98 : Dc M_mo_mix 98 (.aload_n 0) 1 99 := ⟨by decide +kernel, rfl⟩
theorem D_mo_mix_99 : Dg M_mo_mix 99 102 6 14 R_mo T_mo 21 := ⟨41, by decide +kernel, rfl, rfl, by decide, fl_mo_41, in_mo⟩
theorem D_mo_mix_102 : Dc M_mo_mix 102 (.iload_n 1) 1 103 := ⟨by decide +kernel, rfl⟩
theorem D_mo_mix_103 : Dc M_mo_mix 103 (.iaload) 1 104 := ⟨by decide +kernel, rfl⟩
theorem D_mo_mix_104 : Dj M_mo_mix 104 (.goto) 107 113 := ⟨9, by decide +kernel, rfl, by decide⟩
theorem D_mo_mix_107 : Dc M_mo_mix 107 (.aload_n 0) 1 108 := ⟨by decide +kernel, rfl⟩
theorem D_mo_mix_108 : Dg M_mo_mix 108 111 6 14 R_mo T_mo 21 := ⟨41, by decide +kernel, rfl, rfl, by decide, fl_mo_41, in_mo⟩
theorem D_mo_mix_111 : Dc M_mo_mix 111 (.iload_n 2) 1 112 := ⟨by decide +kernel, rfl⟩
theorem D_mo_mix_112 : Dc M_mo_mix 112 (.iaload) 1 113 := ⟨by decide +kernel, rfl⟩
theorem D_mo_mix_113 : Dc M_mo_mix 113 (.istore 4) 2 115 := ⟨by decide +kernel, rfl⟩
theorem D_mo_mix_115 : Dc M_mo_mix 115 (.iconst 0) 1 116 := ⟨by decide +kernel, rfl⟩
theorem D_mo_mix_116 : Dc M_mo_mix 116 (.istore 5) 2 118 := ⟨by decide +kernel, rfl⟩
theorem D_mo_mix_118 : Dc M_mo_mix 118 (.iload 5) 2 120 := ⟨by decide +kernel, rfl⟩
theorem D_mo_mix_120 : Dc M_mo_mix 120 (.iload 4) 2 122 := ⟨by decide +kernel, rfl⟩
theorem D_mo_mix_122 : Dj M_mo_mix 122 (.if_icmp .ge) 125 181 := ⟨59, by decide +kernel, rfl, by decide⟩
theorem D_mo_mix_125 : Dc M_mo_mix 125 (.aload_n 0) 1 126 := ⟨by decide +kernel, rfl⟩
theorem D_mo_mix_126 : Dc M_mo_mix 126 (.iload_n 1) 1 127 := ⟨by decide +kernel, rfl⟩
theorem D_mo_mix_127 : Dc M_mo_mix 127 (.iload 5) 2 129 := ⟨by decide +kernel, rfl⟩
theorem D_mo_mix_129 : DcV M_mo_mix M_mo_bit 129 132 := ⟨105, by decide +kernel, rfl, ml_mo_105, by decide, by decide⟩
theorem D_mo_mix_132 : Dc M_mo_mix 132 (.istore 6) 2 134 := ⟨by decide +kernel, rfl⟩
theorem D_mo_mix_134 : Dc M_mo_mix 134 (.aload_n 0) 1 135 := ⟨by decide +kernel, rfl⟩
theorem D_mo_mix_135 : Dc M_mo_mix 135 (.iload_n 2) 1 136 := ⟨by decide +kernel, rfl⟩
theorem D_mo_mix_136 : Dc M_mo_mix 136 (.iload 5) 2 138 := ⟨by decide +kernel, rfl⟩
theorem D_mo_mix_138 : DcV M_mo_mix M_mo_bit 138 141 := ⟨105, by decide +kernel, rfl, ml_mo_105, by decide, by decide⟩
theorem D_mo_mix_141 : Dc M_mo_mix 141 (.istore 7) 2 143 := ⟨by decide +kernel, rfl⟩
theorem D_mo_mix_143 : Dc M_mo_mix 143 (.aload_n 0) 1 144 := ⟨by decide +kernel, rfl⟩
theorem D_mo_mix_144 : Dg M_mo_mix 144 147 6 15 R_mo T_mo 21 := ⟨44, by decide +kernel, rfl, rfl, by decide, fl_mo_44, in_mo⟩
theorem D_mo_mix_147 : Dc M_mo_mix 147 (.sipush 600) 3 150 := ⟨by decide +kernel, rfl⟩
theorem D_mo_mix_150 : Dc M_mo_mix 150 (.iload_n 1) 1 151 := ⟨by decide +kernel, rfl⟩
theorem D_mo_mix_151 : Dc M_mo_mix 151 (.imul) 1 152 := ⟨by decide +kernel, rfl⟩
theorem D_mo_mix_152 : Dc M_mo_mix 152 (.iload 5) 2 154 := ⟨by decide +kernel, rfl⟩
theorem D_mo_mix_154 : Dc M_mo_mix 154 (.iadd) 1 155 := ⟨by decide +kernel, rfl⟩
theorem D_mo_mix_155 : Dc M_mo_mix 155 (.iload_n 3) 1 156 := ⟨by decide +kernel, rfl⟩
theorem D_mo_mix_156 : Dj M_mo_mix 156 (.ifCond .ne) 159 168 := ⟨12, by decide +kernel, rfl, by decide⟩
theorem D_mo_mix_159 : Dc M_mo_mix 159 (.iload 6) 2 161 := ⟨by decide +kernel, rfl⟩
theorem D_mo_mix_161 : Dc M_mo_mix 161 (.iload 7) 2 163 := ⟨by decide +kernel, rfl⟩
theorem D_mo_mix_163 : Dc M_mo_mix 163 (.ixor) 1 164 := ⟨by decide +kernel, rfl⟩
theorem D_mo_mix_164 : Dc M_mo_mix 164 (.i2l) 1 165 := ⟨by decide +kernel, rfl⟩
theorem D_mo_mix_165 : Dj M_mo_mix 165 (.goto) 168 174 := ⟨9, by decide +kernel, rfl, by decide⟩
theorem D_mo_mix_168 : Dc M_mo_mix 168 (.iload 6) 2 170 := ⟨by decide +kernel, rfl⟩
theorem D_mo_mix_170 : Dc M_mo_mix 170 (.iload 7) 2 172 := ⟨by decide +kernel, rfl⟩
theorem D_mo_mix_172 : Dc M_mo_mix 172 (.iand) 1 173 := ⟨by decide +kernel, rfl⟩
theorem D_mo_mix_173 : Dc M_mo_mix 173 (.i2l) 1 174 := ⟨by decide +kernel, rfl⟩
theorem D_mo_mix_174 : Dc M_mo_mix 174 (.lastore) 1 175 := ⟨by decide +kernel, rfl⟩
theorem D_mo_mix_175 : Dc M_mo_mix 175 (.iinc 5 1) 3 178 := ⟨by decide +kernel, rfl⟩
theorem D_mo_mix_178 : Dj M_mo_mix 178 (.goto) 181 118 := ⟨(-60), by decide +kernel, rfl, by decide⟩
theorem D_mo_mix_181 : Dc M_mo_mix 181 (.iload 4) 2 183 := ⟨by decide +kernel, rfl⟩
theorem D_mo_mix_183 : Dc M_mo_mix 183 (.ireturn) 1 184 := ⟨by decide +kernel, rfl⟩
theorem D_mo_againstBits_0 : Dc M_mo_againstBits 0 (.aload_n 0) 1 1 := ⟨by decide +kernel, rfl⟩
theorem D_mo_againstBits_1 : Dg M_mo_againstBits 1 4 6 13 R_mo T_mo 21 := ⟨38, by decide +kernel, rfl, rfl, by decide, fl_mo_38, in_mo⟩
theorem D_mo_againstBits_4 : Dc M_mo_againstBits 4 (.iload_n 1) 1 5 := ⟨by decide +kernel, rfl⟩
theorem D_mo_againstBits_5 : Dc M_mo_againstBits 5 (.iaload) 1 6 := ⟨by decide +kernel, rfl⟩
theorem D_mo_againstBits_6 : Dc M_mo_againstBits 6 (.bipush (-9)) 2 8 := ⟨by decide +kernel, rfl⟩
theorem D_mo_againstBits_8 : Dj M_mo_againstBits 8 (.if_icmp .ne) 11 17 := ⟨9, by decide +kernel, rfl, by decide⟩
theorem D_mo_againstBits_11 : Dc M_mo_againstBits 11 (.aload_n 0) 1 12 := ⟨by decide +kernel, rfl⟩
theorem D_mo_againstBits_12 : Dc M_mo_againstBits 12 (.iconst 1) 1 13 := ⟨by decide +kernel, rfl⟩
theorem D_mo_againstBits_13 : DcV M_mo_againstBits M_mo_fails 13 16 := ⟨102, by decide +kernel, rfl, ml_mo_102, by decide, by decide⟩
theorem D_mo_againstBits_16 : Dc M_mo_againstBits 16 (.ireturn) 1 17 := ⟨by decide +kernel, rfl⟩
theorem D_mo_againstBits_17 : Dc M_mo_againstBits 17 (.iload_n 2) 1 18 := ⟨by decide +kernel, rfl⟩
theorem D_mo_againstBits_18 : Dj M_mo_againstBits 18 (.ifCond .lt) 21 31 := ⟨13, by decide +kernel, rfl, by decide⟩
theorem D_mo_againstBits_21 : Dc M_mo_againstBits 21 (.iload_n 2) 1 22 := ⟨by decide +kernel, rfl⟩
theorem D_mo_againstBits_22 : Dc M_mo_againstBits 22 (.aload_n 0) 1 23 := ⟨by decide +kernel, rfl⟩
theorem D_mo_againstBits_23 : Dg M_mo_againstBits 23 26 6 14 R_mo T_mo 21 := ⟨41, by decide +kernel, rfl, rfl, by decide, fl_mo_41, in_mo⟩
theorem D_mo_againstBits_26 : Dc M_mo_againstBits 26 (.iload_n 1) 1 27 := ⟨by decide +kernel, rfl⟩
theorem D_mo_againstBits_27 : Dc M_mo_againstBits 27 (.iaload) 1 28 := ⟨by decide +kernel, rfl⟩
theorem D_mo_againstBits_28 : Dj M_mo_againstBits 28 (.if_icmp .le) 31 39 := ⟨11, by decide +kernel, rfl, by decide⟩
theorem D_mo_againstBits_31 : Dc M_mo_againstBits 31 (.aload_n 0) 1 32 := ⟨by decide +kernel, rfl⟩
theorem D_mo_againstBits_32 : Dc M_mo_againstBits 32 (.iconst 3) 1 33 := ⟨by decide +kernel, rfl⟩
theorem D_mo_againstBits_33 : DcV M_mo_againstBits M_mo_fails 33 36 := ⟨102, by decide +kernel, rfl, ml_mo_102, by decide, by decide⟩
theorem D_mo_againstBits_36 : Dj M_mo_againstBits 36 (.goto) 39 40 := ⟨4, by decide +kernel, rfl, by decide⟩
theorem D_mo_againstBits_39 : Dc M_mo_againstBits 39 (.iconst 0) 1 40 := ⟨by decide +kernel, rfl⟩
theorem D_mo_againstBits_40 : Dc M_mo_againstBits 40 (.ireturn) 1 41 := ⟨by decide +kernel, rfl⟩
theorem D_mo_order_0 : Dc M_mo_order 0 (.aload_n 0) 1 1 := ⟨by decide +kernel, rfl⟩
theorem D_mo_order_1 : Dc M_mo_order 1 (.iconst 0) 1 2 := ⟨by decide +kernel, rfl⟩
theorem D_mo_order_2 : Dp M_mo_order 2 5 6 0 R_mo T_mo 21 := ⟨64, by decide +kernel, rfl, rfl, by decide, fl_mo_64, in_mo, rfl⟩
theorem D_mo_order_5 : Dc M_mo_order 5 (.iload_n 1) 1 6 := ⟨by decide +kernel, rfl⟩
theorem D_mo_order_6 : DcS M_mo_order M_mo_isSheet 6 9 := ⟨99, by decide +kernel, rfl, ml_mo_99, by decide, by decide⟩
theorem D_mo_order_9 : Dj M_mo_order 9 (.ifCond .ne) 12 14 := ⟨5, by decide +kernel, rfl, by decide⟩
theorem D_mo_order_12 : Dc M_mo_order 12 (.iconst (-1)) 1 13 := ⟨by decide +kernel, rfl⟩
theorem D_mo_order_13 : Dc M_mo_order 13 (.ireturn) 1 14 := ⟨by decide +kernel, rfl⟩
theorem D_mo_order_14 : Dc M_mo_order 14 (.aload_n 0) 1 15 := ⟨by decide +kernel, rfl⟩
theorem D_mo_order_15 : Dc M_mo_order 15 (.iload_n 1) 1 16 := ⟨by decide +kernel, rfl⟩
theorem D_mo_order_16 : Dc M_mo_order 16 (.iload_n 2) 1 17 := ⟨by decide +kernel, rfl⟩
theorem ml_mo_145 : Cond.methodLink R_mo 145 M_mo_againstBits.1 ∈ gtb := mem_g 883 (by decide +kernel) rfl
theorem D_mo_order_17 : DcV M_mo_order M_mo_againstBits 17 20 := ⟨145, by decide +kernel, rfl, ml_mo_145, by decide, by decide⟩
theorem D_mo_order_20 : Dc M_mo_order 20 (.istore_n 3) 1 21 := ⟨by decide +kernel, rfl⟩
theorem D_mo_order_21 : Dc M_mo_order 21 (.iload_n 3) 1 22 := ⟨by decide +kernel, rfl⟩
theorem D_mo_order_22 : Dj M_mo_order 22 (.ifCond .eq) 25 27 := ⟨5, by decide +kernel, rfl, by decide⟩
theorem D_mo_order_25 : Dc M_mo_order 25 (.iload_n 3) 1 26 := ⟨by decide +kernel, rfl⟩
theorem D_mo_order_26 : Dc M_mo_order 26 (.ireturn) 1 27 := ⟨by decide +kernel, rfl⟩
theorem D_mo_order_27 : Dc M_mo_order 27 (.iconst 0) 1 28 := ⟨by decide +kernel, rfl⟩
theorem D_mo_order_28 : Dc M_mo_order 28 (.istore 4) 2 30 := ⟨by decide +kernel, rfl⟩
theorem D_mo_order_30 : Dc M_mo_order 30 (.iload 4) 2 32 := ⟨by decide +kernel, rfl⟩
theorem D_mo_order_32 : Dc M_mo_order 32 (.sipush 600) 3 35 := ⟨by decide +kernel, rfl⟩
theorem D_mo_order_35 : Dj M_mo_order 35 (.if_icmp .gt) 38 78 := ⟨43, by decide +kernel, rfl, by decide⟩
theorem D_mo_order_38 : Dc M_mo_order 38 (.aload_n 0) 1 39 := ⟨by decide +kernel, rfl⟩
theorem D_mo_order_39 : Dg M_mo_order 39 42 6 18 R_mo T_mo 21 := ⟨55, by decide +kernel, rfl, rfl, by decide, fl_mo_55, in_mo⟩
theorem D_mo_order_42 : Dc M_mo_order 42 (.iload 4) 2 44 := ⟨by decide +kernel, rfl⟩
theorem D_mo_order_44 : Dc M_mo_order 44 (.iload 4) 2 46 := ⟨by decide +kernel, rfl⟩
theorem D_mo_order_46 : Dj M_mo_order 46 (.ifCond .ne) 49 53 := ⟨7, by decide +kernel, rfl, by decide⟩
theorem D_mo_order_49 : Dc M_mo_order 49 (.iconst 1) 1 50 := ⟨by decide +kernel, rfl⟩
theorem D_mo_order_50 : Dj M_mo_order 50 (.goto) 53 54 := ⟨4, by decide +kernel, rfl, by decide⟩
theorem D_mo_order_53 : Dc M_mo_order 53 (.iconst 0) 1 54 := ⟨by decide +kernel, rfl⟩
theorem D_mo_order_54 : Dc M_mo_order 54 (.iastore) 1 55 := ⟨by decide +kernel, rfl⟩
theorem D_mo_order_55 : Dc M_mo_order 55 (.aload_n 0) 1 56 := ⟨by decide +kernel, rfl⟩
theorem D_mo_order_56 : Dg M_mo_order 56 59 6 19 R_mo T_mo 21 := ⟨58, by decide +kernel, rfl, rfl, by decide, fl_mo_58, in_mo⟩
theorem D_mo_order_59 : Dc M_mo_order 59 (.iload 4) 2 61 := ⟨by decide +kernel, rfl⟩
theorem D_mo_order_61 : Dc M_mo_order 61 (.iload 4) 2 63 := ⟨by decide +kernel, rfl⟩
theorem D_mo_order_63 : Dj M_mo_order 63 (.ifCond .ne) 66 70 := ⟨7, by decide +kernel, rfl, by decide⟩
theorem D_mo_order_66 : Dc M_mo_order 66 (.iconst 1) 1 67 := ⟨by decide +kernel, rfl⟩
theorem D_mo_order_67 : Dj M_mo_order 67 (.goto) 70 71 := ⟨4, by decide +kernel, rfl, by decide⟩
theorem D_mo_order_70 : Dc M_mo_order 70 (.iconst 0) 1 71 := ⟨by decide +kernel, rfl⟩
theorem D_mo_order_71 : Dc M_mo_order 71 (.iastore) 1 72 := ⟨by decide +kernel, rfl⟩
theorem D_mo_order_72 : Dc M_mo_order 72 (.iinc 4 1) 3 75 := ⟨by decide +kernel, rfl⟩
theorem D_mo_order_75 : Dj M_mo_order 75 (.goto) 78 30 := ⟨(-45), by decide +kernel, rfl, by decide⟩
theorem D_mo_order_78 : Dc M_mo_order 78 (.iconst 0) 1 79 := ⟨by decide +kernel, rfl⟩
theorem D_mo_order_79 : Dc M_mo_order 79 (.istore 4) 2 81 := ⟨by decide +kernel, rfl⟩
theorem D_mo_order_81 : Dc M_mo_order 81 (.iconst 1) 1 82 := ⟨by decide +kernel, rfl⟩
theorem D_mo_order_82 : Dc M_mo_order 82 (.istore 5) 2 84 := ⟨by decide +kernel, rfl⟩
theorem D_mo_order_84 : Dc M_mo_order 84 (.iconst 0) 1 85 := ⟨by decide +kernel, rfl⟩
theorem D_mo_order_85 : Dc M_mo_order 85 (.istore 6) 2 87 := ⟨by decide +kernel, rfl⟩
theorem D_mo_order_87 : Dc M_mo_order 87 (.iload 6) 2 89 := ⟨by decide +kernel, rfl⟩
theorem D_mo_order_89 : Dc M_mo_order 89 (.iload_n 2) 1 90 := ⟨by decide +kernel, rfl⟩
theorem D_mo_order_90 : Dj M_mo_order 90 (.if_icmp .ge) 93 293 := ⟨203, by decide +kernel, rfl, by decide⟩
theorem D_mo_order_93 : Dc M_mo_order 93 (.iconst 0) 1 94 := ⟨by decide +kernel, rfl⟩
theorem D_mo_order_94 : Dc M_mo_order 94 (.istore 7) 2 96 := ⟨by decide +kernel, rfl⟩
theorem D_mo_order_96 : Dc M_mo_order 96 (.iconst 0) 1 97 := ⟨by decide +kernel, rfl⟩
theorem D_mo_order_97 : Dc M_mo_order 97 (.istore 8) 2 99 := ⟨by decide +kernel, rfl⟩
theorem D_mo_order_99 : Dc M_mo_order 99 (.iload 8) 2 101 := ⟨by decide +kernel, rfl⟩
theorem D_mo_order_101 : Dc M_mo_order 101 (.iload 4) 2 103 := ⟨by decide +kernel, rfl⟩
theorem D_mo_order_103 : Dj M_mo_order 103 (.if_icmp .gt) 106 135 := ⟨32, by decide +kernel, rfl, by decide⟩
theorem D_mo_order_106 : Dc M_mo_order 106 (.iload 7) 2 108 := ⟨by decide +kernel, rfl⟩
theorem D_mo_order_108 : Dc M_mo_order 108 (.aload_n 0) 1 109 := ⟨by decide +kernel, rfl⟩
theorem D_mo_order_109 : Dg M_mo_order 109 112 6 18 R_mo T_mo 21 := ⟨55, by decide +kernel, rfl, rfl, by decide, fl_mo_55, in_mo⟩
theorem D_mo_order_112 : Dc M_mo_order 112 (.iload 8) 2 114 := ⟨by decide +kernel, rfl⟩
theorem D_mo_order_114 : Dc M_mo_order 114 (.iaload) 1 115 := ⟨by decide +kernel, rfl⟩
theorem D_mo_order_115 : Dc M_mo_order 115 (.aload_n 0) 1 116 := ⟨by decide +kernel, rfl⟩
theorem D_mo_order_116 : Dc M_mo_order 116 (.iload_n 1) 1 117 := ⟨by decide +kernel, rfl⟩
theorem D_mo_order_117 : Dc M_mo_order 117 (.iload 6) 2 119 := ⟨by decide +kernel, rfl⟩
theorem D_mo_order_119 : Dc M_mo_order 119 (.iload 8) 2 121 := ⟨by decide +kernel, rfl⟩
theorem D_mo_order_121 : Dc M_mo_order 121 (.isub) 1 122 := ⟨by decide +kernel, rfl⟩
theorem D_mo_order_122 : DcV M_mo_order M_mo_bit 122 125 := ⟨105, by decide +kernel, rfl, ml_mo_105, by decide, by decide⟩
theorem D_mo_order_125 : Dc M_mo_order 125 (.iand) 1 126 := ⟨by decide +kernel, rfl⟩
theorem D_mo_order_126 : Dc M_mo_order 126 (.ixor) 1 127 := ⟨by decide +kernel, rfl⟩
theorem D_mo_order_127 : Dc M_mo_order 127 (.istore 7) 2 129 := ⟨by decide +kernel, rfl⟩
theorem D_mo_order_129 : Dc M_mo_order 129 (.iinc 8 1) 3 132 := ⟨by decide +kernel, rfl⟩
theorem D_mo_order_132 : Dj M_mo_order 132 (.goto) 135 99 := ⟨(-33), by decide +kernel, rfl, by decide⟩
theorem D_mo_order_135 : Dc M_mo_order 135 (.iload 7) 2 137 := ⟨by decide +kernel, rfl⟩
theorem D_mo_order_137 : Dj M_mo_order 137 (.ifCond .ne) 140 146 := ⟨9, by decide +kernel, rfl, by decide⟩
theorem D_mo_order_140 : Dc M_mo_order 140 (.iinc 5 1) 3 143 := ⟨by decide +kernel, rfl⟩
theorem D_mo_order_143 : Dj M_mo_order 143 (.goto) 146 287 := ⟨144, by decide +kernel, rfl, by decide⟩
theorem D_mo_order_146 : Dc M_mo_order 146 (.iconst 2) 1 147 := ⟨by decide +kernel, rfl⟩
theorem D_mo_order_147 : Dc M_mo_order 147 (.iload 4) 2 149 := ⟨by decide +kernel, rfl⟩
theorem D_mo_order_149 : Dc M_mo_order 149 (.imul) 1 150 := ⟨by decide +kernel, rfl⟩
theorem D_mo_order_150 : Dc M_mo_order 150 (.iload 6) 2 152 := ⟨by decide +kernel, rfl⟩
theorem D_mo_order_152 : Dj M_mo_order 152 (.if_icmp .gt) 155 159 := ⟨7, by decide +kernel, rfl, by decide⟩
theorem D_mo_order_155 : Dc M_mo_order 155 (.iconst 1) 1 156 := ⟨by decide +kernel, rfl⟩
theorem D_mo_order_156 : Dj M_mo_order 156 (.goto) 159 160 := ⟨4, by decide +kernel, rfl, by decide⟩
theorem D_mo_order_159 : Dc M_mo_order 159 (.iconst 0) 1 160 := ⟨by decide +kernel, rfl⟩
theorem D_mo_order_160 : Dc M_mo_order 160 (.istore 8) 2 162 := ⟨by decide +kernel, rfl⟩
theorem D_mo_order_162 : Dc M_mo_order 162 (.iconst 0) 1 163 := ⟨by decide +kernel, rfl⟩
theorem D_mo_order_163 : Dc M_mo_order 163 (.istore 9) 2 165 := ⟨by decide +kernel, rfl⟩
theorem D_mo_order_165 : Dc M_mo_order 165 (.iload 9) 2 167 := ⟨by decide +kernel, rfl⟩
theorem D_mo_order_167 : Dc M_mo_order 167 (.sipush 600) 3 170 := ⟨by decide +kernel, rfl⟩
theorem D_mo_order_170 : Dj M_mo_order 170 (.if_icmp .gt) 173 198 := ⟨28, by decide +kernel, rfl, by decide⟩
theorem D_mo_order_173 : Dc M_mo_order 173 (.iload 8) 2 175 := ⟨by decide +kernel, rfl⟩
theorem D_mo_order_175 : Dj M_mo_order 175 (.ifCond .eq) 178 198 := ⟨23, by decide +kernel, rfl, by decide⟩
theorem D_mo_order_178 : Dc M_mo_order 178 (.aload_n 0) 1 179 := ⟨by decide +kernel, rfl⟩
theorem D_mo_order_179 : Dg M_mo_order 179 182 6 20 R_mo T_mo 21 := ⟨61, by decide +kernel, rfl, rfl, by decide, fl_mo_61, in_mo⟩
theorem D_mo_order_182 : Dc M_mo_order 182 (.iload 9) 2 184 := ⟨by decide +kernel, rfl⟩
theorem D_mo_order_184 : Dc M_mo_order 184 (.aload_n 0) 1 185 := ⟨by decide +kernel, rfl⟩
theorem D_mo_order_185 : Dg M_mo_order 185 188 6 18 R_mo T_mo 21 := ⟨55, by decide +kernel, rfl, rfl, by decide, fl_mo_55, in_mo⟩
theorem D_mo_order_188 : Dc M_mo_order 188 (.iload 9) 2 190 := ⟨by decide +kernel, rfl⟩
theorem D_mo_order_190 : Dc M_mo_order 190 (.iaload) 1 191 := ⟨by decide +kernel, rfl⟩
theorem D_mo_order_191 : Dc M_mo_order 191 (.iastore) 1 192 := ⟨by decide +kernel, rfl⟩
theorem D_mo_order_192 : Dc M_mo_order 192 (.iinc 9 1) 3 195 := ⟨by decide +kernel, rfl⟩
theorem D_mo_order_195 : Dj M_mo_order 195 (.goto) 198 165 := ⟨(-30), by decide +kernel, rfl, by decide⟩
theorem D_mo_order_198 : Dc M_mo_order 198 (.iload 5) 2 200 := ⟨by decide +kernel, rfl⟩
theorem D_mo_order_200 : Dc M_mo_order 200 (.istore 9) 2 202 := ⟨by decide +kernel, rfl⟩
theorem D_mo_order_202 : Dc M_mo_order 202 (.iload 9) 2 204 := ⟨by decide +kernel, rfl⟩
theorem D_mo_order_204 : Dc M_mo_order 204 (.sipush 600) 3 207 := ⟨by decide +kernel, rfl⟩
theorem D_mo_order_207 : Dj M_mo_order 207 (.if_icmp .gt) 210 236 := ⟨29, by decide +kernel, rfl, by decide⟩
theorem D_mo_order_210 : Dc M_mo_order 210 (.aload_n 0) 1 211 := ⟨by decide +kernel, rfl⟩
theorem D_mo_order_211 : Dg M_mo_order 211 214 6 18 R_mo T_mo 21 := ⟨55, by decide +kernel, rfl, rfl, by decide, fl_mo_55, in_mo⟩
theorem D_mo_order_214 : Dc M_mo_order 214 (.iload 9) 2 216 := ⟨by decide +kernel, rfl⟩
theorem D_mo_order_216 : Dc M_mo_order 216 (.dup2) 1 217 := ⟨by decide +kernel, rfl⟩
theorem D_mo_order_217 : Dc M_mo_order 217 (.iaload) 1 218 := ⟨by decide +kernel, rfl⟩
theorem D_mo_order_218 : Dc M_mo_order 218 (.aload_n 0) 1 219 := ⟨by decide +kernel, rfl⟩
theorem D_mo_order_219 : Dg M_mo_order 219 222 6 19 R_mo T_mo 21 := ⟨58, by decide +kernel, rfl, rfl, by decide, fl_mo_58, in_mo⟩
theorem D_mo_order_222 : Dc M_mo_order 222 (.iload 9) 2 224 := ⟨by decide +kernel, rfl⟩
theorem D_mo_order_224 : Dc M_mo_order 224 (.iload 5) 2 226 := ⟨by decide +kernel, rfl⟩
theorem D_mo_order_226 : Dc M_mo_order 226 (.isub) 1 227 := ⟨by decide +kernel, rfl⟩
theorem D_mo_order_227 : Dc M_mo_order 227 (.iaload) 1 228 := ⟨by decide +kernel, rfl⟩
theorem D_mo_order_228 : Dc M_mo_order 228 (.ixor) 1 229 := ⟨by decide +kernel, rfl⟩
theorem D_mo_order_229 : Dc M_mo_order 229 (.iastore) 1 230 := ⟨by decide +kernel, rfl⟩
theorem D_mo_order_230 : Dc M_mo_order 230 (.iinc 9 1) 3 233 := ⟨by decide +kernel, rfl⟩
theorem D_mo_order_233 : Dj M_mo_order 233 (.goto) 236 202 := ⟨(-31), by decide +kernel, rfl, by decide⟩
theorem D_mo_order_236 : Dc M_mo_order 236 (.iload 8) 2 238 := ⟨by decide +kernel, rfl⟩
theorem D_mo_order_238 : Dj M_mo_order 238 (.ifCond .eq) 241 284 := ⟨46, by decide +kernel, rfl, by decide⟩
theorem D_mo_order_241 : Dc M_mo_order 241 (.iload 6) 2 243 := ⟨by decide +kernel, rfl⟩
theorem D_mo_order_243 : Dc M_mo_order 243 (.iconst 1) 1 244 := ⟨by decide +kernel, rfl⟩
theorem D_mo_order_244 : Dc M_mo_order 244 (.iadd) 1 245 := ⟨by decide +kernel, rfl⟩
theorem D_mo_order_245 : Dc M_mo_order 245 (.iload 4) 2 247 := ⟨by decide +kernel, rfl⟩
theorem D_mo_order_247 : Dc M_mo_order 247 (.isub) 1 248 := ⟨by decide +kernel, rfl⟩
theorem D_mo_order_248 : Dc M_mo_order 248 (.istore 4) 2 250 := ⟨by decide +kernel, rfl⟩
theorem D_mo_order_250 : Dc M_mo_order 250 (.iconst 0) 1 251 := ⟨by decide +kernel, rfl⟩
theorem D_mo_order_251 : Dc M_mo_order 251 (.istore 9) 2 253 := ⟨by decide +kernel, rfl⟩
theorem D_mo_order_253 : Dc M_mo_order 253 (.iload 9) 2 255 := ⟨by decide +kernel, rfl⟩
theorem D_mo_order_255 : Dc M_mo_order 255 (.sipush 600) 3 258 := ⟨by decide +kernel, rfl⟩
theorem D_mo_order_258 : Dj M_mo_order 258 (.if_icmp .gt) 261 281 := ⟨23, by decide +kernel, rfl, by decide⟩
theorem D_mo_order_261 : Dc M_mo_order 261 (.aload_n 0) 1 262 := ⟨by decide +kernel, rfl⟩
theorem D_mo_order_262 : Dg M_mo_order 262 265 6 19 R_mo T_mo 21 := ⟨58, by decide +kernel, rfl, rfl, by decide, fl_mo_58, in_mo⟩
theorem D_mo_order_265 : Dc M_mo_order 265 (.iload 9) 2 267 := ⟨by decide +kernel, rfl⟩
theorem D_mo_order_267 : Dc M_mo_order 267 (.aload_n 0) 1 268 := ⟨by decide +kernel, rfl⟩
theorem D_mo_order_268 : Dg M_mo_order 268 271 6 20 R_mo T_mo 21 := ⟨61, by decide +kernel, rfl, rfl, by decide, fl_mo_61, in_mo⟩
theorem D_mo_order_271 : Dc M_mo_order 271 (.iload 9) 2 273 := ⟨by decide +kernel, rfl⟩
theorem D_mo_order_273 : Dc M_mo_order 273 (.iaload) 1 274 := ⟨by decide +kernel, rfl⟩
theorem D_mo_order_274 : Dc M_mo_order 274 (.iastore) 1 275 := ⟨by decide +kernel, rfl⟩
theorem D_mo_order_275 : Dc M_mo_order 275 (.iinc 9 1) 3 278 := ⟨by decide +kernel, rfl⟩
theorem D_mo_order_278 : Dj M_mo_order 278 (.goto) 281 253 := ⟨(-25), by decide +kernel, rfl, by decide⟩
theorem D_mo_order_281 : Dc M_mo_order 281 (.iconst 0) 1 282 := ⟨by decide +kernel, rfl⟩
theorem D_mo_order_282 : Dc M_mo_order 282 (.istore 5) 2 284 := ⟨by decide +kernel, rfl⟩
theorem D_mo_order_284 : Dc M_mo_order 284 (.iinc 5 1) 3 287 := ⟨by decide +kernel, rfl⟩
theorem D_mo_order_287 : Dc M_mo_order 287 (.iinc 6 1) 3 290 := ⟨by decide +kernel, rfl⟩
theorem D_mo_order_290 : Dj M_mo_order 290 (.goto) 293 87 := ⟨(-203), by decide +kernel, rfl, by decide⟩
theorem D_mo_order_293 : Dc M_mo_order 293 (.iload 4) 2 295 := ⟨by decide +kernel, rfl⟩
theorem D_mo_order_295 : Dc M_mo_order 295 (.ireturn) 1 296 := ⟨by decide +kernel, rfl⟩
theorem D_mo_greatestOf_0 : Dc M_mo_greatestOf 0 (.iconst 0) 1 1 := ⟨by decide +kernel, rfl⟩
theorem D_mo_greatestOf_1 : Dc M_mo_greatestOf 1 (.istore_n 3) 1 2 := ⟨by decide +kernel, rfl⟩
theorem D_mo_greatestOf_2 : Dc M_mo_greatestOf 2 (.iconst 1) 1 3 := ⟨by decide +kernel, rfl⟩
theorem D_mo_greatestOf_3 : Dc M_mo_greatestOf 3 (.istore 4) 2 5 := ⟨by decide +kernel, rfl⟩
theorem D_mo_greatestOf_5 : Dc M_mo_greatestOf 5 (.iload 4) 2 7 := ⟨by decide +kernel, rfl⟩
theorem D_mo_greatestOf_7 : Dc M_mo_greatestOf 7 (.iload_n 2) 1 8 := ⟨by decide +kernel, rfl⟩
theorem D_mo_greatestOf_8 : Dj M_mo_greatestOf 8 (.if_icmp .ge) 11 84 := ⟨76, by decide +kernel, rfl, by decide⟩
theorem D_mo_greatestOf_11 : Dc M_mo_greatestOf 11 (.iconst 0) 1 12 := ⟨by decide +kernel, rfl⟩
theorem D_mo_greatestOf_12 : Dc M_mo_greatestOf 12 (.istore 5) 2 14 := ⟨by decide +kernel, rfl⟩
theorem D_mo_greatestOf_14 : Dc M_mo_greatestOf 14 (.iconst 0) 1 15 := ⟨by decide +kernel, rfl⟩
theorem D_mo_greatestOf_15 : Dc M_mo_greatestOf 15 (.istore 6) 2 17 := ⟨by decide +kernel, rfl⟩
theorem D_mo_greatestOf_17 : Dc M_mo_greatestOf 17 (.iload 6) 2 19 := ⟨by decide +kernel, rfl⟩
theorem D_mo_greatestOf_19 : Dc M_mo_greatestOf 19 (.iload 4) 2 21 := ⟨by decide +kernel, rfl⟩
theorem D_mo_greatestOf_21 : Dc M_mo_greatestOf 21 (.iadd) 1 22 := ⟨by decide +kernel, rfl⟩
theorem D_mo_greatestOf_22 : Dc M_mo_greatestOf 22 (.iload_n 2) 1 23 := ⟨by decide +kernel, rfl⟩
theorem D_mo_greatestOf_23 : Dj M_mo_greatestOf 23 (.if_icmp .ge) 26 78 := ⟨55, by decide +kernel, rfl, by decide⟩
theorem D_mo_greatestOf_26 : Dc M_mo_greatestOf 26 (.aload_n 0) 1 27 := ⟨by decide +kernel, rfl⟩
theorem D_mo_greatestOf_27 : Dc M_mo_greatestOf 27 (.iload_n 1) 1 28 := ⟨by decide +kernel, rfl⟩
theorem D_mo_greatestOf_28 : Dc M_mo_greatestOf 28 (.iload 6) 2 30 := ⟨by decide +kernel, rfl⟩
theorem D_mo_greatestOf_30 : DcV M_mo_greatestOf M_mo_bit 30 33 := ⟨105, by decide +kernel, rfl, ml_mo_105, by decide, by decide⟩
theorem D_mo_greatestOf_33 : Dc M_mo_greatestOf 33 (.aload_n 0) 1 34 := ⟨by decide +kernel, rfl⟩
theorem D_mo_greatestOf_34 : Dc M_mo_greatestOf 34 (.iload_n 1) 1 35 := ⟨by decide +kernel, rfl⟩
theorem D_mo_greatestOf_35 : Dc M_mo_greatestOf 35 (.iload 6) 2 37 := ⟨by decide +kernel, rfl⟩
theorem D_mo_greatestOf_37 : Dc M_mo_greatestOf 37 (.iload 4) 2 39 := ⟨by decide +kernel, rfl⟩
theorem D_mo_greatestOf_39 : Dc M_mo_greatestOf 39 (.iadd) 1 40 := ⟨by decide +kernel, rfl⟩
theorem D_mo_greatestOf_40 : DcV M_mo_greatestOf M_mo_bit 40 43 := ⟨105, by decide +kernel, rfl, ml_mo_105, by decide, by decide⟩
theorem D_mo_greatestOf_43 : Dj M_mo_greatestOf 43 (.if_icmp .ne) 46 52 := ⟨9, by decide +kernel, rfl, by decide⟩
theorem D_mo_greatestOf_46 : Dc M_mo_greatestOf 46 (.iinc 5 1) 3 49 := ⟨by decide +kernel, rfl⟩
theorem D_mo_greatestOf_49 : Dj M_mo_greatestOf 49 (.goto) 52 72 := ⟨23, by decide +kernel, rfl, by decide⟩
theorem D_mo_greatestOf_52 : Dc M_mo_greatestOf 52 (.iload 5) 2 54 := ⟨by decide +kernel, rfl⟩
theorem D_mo_greatestOf_54 : Dc M_mo_greatestOf 54 (.iconst 1) 1 55 := ⟨by decide +kernel, rfl⟩
theorem D_mo_greatestOf_55 : Dc M_mo_greatestOf 55 (.iadd) 1 56 := ⟨by decide +kernel, rfl⟩
theorem D_mo_greatestOf_56 : Dc M_mo_greatestOf 56 (.iload_n 3) 1 57 := ⟨by decide +kernel, rfl⟩
theorem D_mo_greatestOf_57 : Dj M_mo_greatestOf 57 (.if_icmp .le) 60 67 := ⟨10, by decide +kernel, rfl, by decide⟩
theorem D_mo_greatestOf_60 : Dc M_mo_greatestOf 60 (.iload 5) 2 62 := ⟨by decide +kernel, rfl⟩
theorem D_mo_greatestOf_62 : Dc M_mo_greatestOf 62 (.iconst 1) 1 63 := ⟨by decide +kernel, rfl⟩
theorem D_mo_greatestOf_63 : Dc M_mo_greatestOf 63 (.iadd) 1 64 := ⟨by decide +kernel, rfl⟩
theorem D_mo_greatestOf_64 : Dj M_mo_greatestOf 64 (.goto) 67 68 := ⟨4, by decide +kernel, rfl, by decide⟩
theorem D_mo_greatestOf_67 : Dc M_mo_greatestOf 67 (.iload_n 3) 1 68 := ⟨by decide +kernel, rfl⟩
theorem D_mo_greatestOf_68 : Dc M_mo_greatestOf 68 (.istore_n 3) 1 69 := ⟨by decide +kernel, rfl⟩
theorem D_mo_greatestOf_69 : Dc M_mo_greatestOf 69 (.iconst 0) 1 70 := ⟨by decide +kernel, rfl⟩
theorem D_mo_greatestOf_70 : Dc M_mo_greatestOf 70 (.istore 5) 2 72 := ⟨by decide +kernel, rfl⟩
theorem D_mo_greatestOf_72 : Dc M_mo_greatestOf 72 (.iinc 6 1) 3 75 := ⟨by decide +kernel, rfl⟩
theorem D_mo_greatestOf_75 : Dj M_mo_greatestOf 75 (.goto) 78 17 := ⟨(-58), by decide +kernel, rfl, by decide⟩
theorem D_mo_greatestOf_78 : Dc M_mo_greatestOf 78 (.iinc 4 1) 3 81 := ⟨by decide +kernel, rfl⟩
theorem D_mo_greatestOf_81 : Dj M_mo_greatestOf 81 (.goto) 84 5 := ⟨(-76), by decide +kernel, rfl, by decide⟩
theorem D_mo_greatestOf_84 : Dc M_mo_greatestOf 84 (.iload_n 3) 1 85 := ⟨by decide +kernel, rfl⟩
theorem D_mo_greatestOf_85 : Dc M_mo_greatestOf 85 (.ireturn) 1 86 := ⟨by decide +kernel, rfl⟩
theorem D_mo_greatest_0 : Dc M_mo_greatest 0 (.aload_n 0) 1 1 := ⟨by decide +kernel, rfl⟩
theorem D_mo_greatest_1 : Dc M_mo_greatest 1 (.iconst 0) 1 2 := ⟨by decide +kernel, rfl⟩
theorem D_mo_greatest_2 : Dp M_mo_greatest 2 5 6 0 R_mo T_mo 21 := ⟨64, by decide +kernel, rfl, rfl, by decide, fl_mo_64, in_mo, rfl⟩
theorem D_mo_greatest_5 : Dc M_mo_greatest 5 (.iload_n 1) 1 6 := ⟨by decide +kernel, rfl⟩
theorem D_mo_greatest_6 : DcS M_mo_greatest M_mo_isSheet 6 9 := ⟨99, by decide +kernel, rfl, ml_mo_99, by decide, by decide⟩
theorem D_mo_greatest_9 : Dj M_mo_greatest 9 (.ifCond .ne) 12 14 := ⟨5, by decide +kernel, rfl, by decide⟩
theorem D_mo_greatest_12 : Dc M_mo_greatest 12 (.iconst (-1)) 1 13 := ⟨by decide +kernel, rfl⟩
theorem D_mo_greatest_13 : Dc M_mo_greatest 13 (.ireturn) 1 14 := ⟨by decide +kernel, rfl⟩
theorem D_mo_greatest_14 : Dc M_mo_greatest 14 (.aload_n 0) 1 15 := ⟨by decide +kernel, rfl⟩
theorem D_mo_greatest_15 : Dc M_mo_greatest 15 (.iload_n 1) 1 16 := ⟨by decide +kernel, rfl⟩
theorem D_mo_greatest_16 : Dc M_mo_greatest 16 (.iload_n 2) 1 17 := ⟨by decide +kernel, rfl⟩
theorem D_mo_greatest_17 : DcV M_mo_greatest M_mo_againstBits 17 20 := ⟨145, by decide +kernel, rfl, ml_mo_145, by decide, by decide⟩
theorem D_mo_greatest_20 : Dc M_mo_greatest 20 (.istore_n 3) 1 21 := ⟨by decide +kernel, rfl⟩
theorem D_mo_greatest_21 : Dc M_mo_greatest 21 (.iload_n 3) 1 22 := ⟨by decide +kernel, rfl⟩
theorem D_mo_greatest_22 : Dj M_mo_greatest 22 (.ifCond .eq) 25 29 := ⟨7, by decide +kernel, rfl, by decide⟩
theorem D_mo_greatest_25 : Dc M_mo_greatest 25 (.iload_n 3) 1 26 := ⟨by decide +kernel, rfl⟩
theorem D_mo_greatest_26 : Dj M_mo_greatest 26 (.goto) 29 35 := ⟨9, by decide +kernel, rfl, by decide⟩
theorem D_mo_greatest_29 : Dc M_mo_greatest 29 (.aload_n 0) 1 30 := ⟨by decide +kernel, rfl⟩
theorem D_mo_greatest_30 : Dc M_mo_greatest 30 (.iload_n 1) 1 31 := ⟨by decide +kernel, rfl⟩
theorem D_mo_greatest_31 : Dc M_mo_greatest 31 (.iload_n 2) 1 32 := ⟨by decide +kernel, rfl⟩
theorem ml_mo_148 : Cond.methodLink R_mo 148 M_mo_greatestOf.1 ∈ gtb := mem_g 891 (by decide +kernel) rfl
theorem D_mo_greatest_32 : DcV M_mo_greatest M_mo_greatestOf 32 35 := ⟨148, by decide +kernel, rfl, ml_mo_148, by decide, by decide⟩
theorem D_mo_greatest_35 : Dc M_mo_greatest 35 (.ireturn) 1 36 := ⟨by decide +kernel, rfl⟩
theorem D_mo_period_0 : Dc M_mo_period 0 (.aload_n 0) 1 1 := ⟨by decide +kernel, rfl⟩
theorem D_mo_period_1 : Dc M_mo_period 1 (.iconst 0) 1 2 := ⟨by decide +kernel, rfl⟩
theorem D_mo_period_2 : Dp M_mo_period 2 5 6 0 R_mo T_mo 21 := ⟨64, by decide +kernel, rfl, rfl, by decide, fl_mo_64, in_mo, rfl⟩
theorem D_mo_period_5 : Dc M_mo_period 5 (.iload_n 1) 1 6 := ⟨by decide +kernel, rfl⟩
theorem D_mo_period_6 : DcS M_mo_period M_mo_isSheet 6 9 := ⟨99, by decide +kernel, rfl, ml_mo_99, by decide, by decide⟩
theorem D_mo_period_9 : Dj M_mo_period 9 (.ifCond .ne) 12 14 := ⟨5, by decide +kernel, rfl, by decide⟩
theorem D_mo_period_12 : Dc M_mo_period 12 (.iconst (-1)) 1 13 := ⟨by decide +kernel, rfl⟩
theorem D_mo_period_13 : Dc M_mo_period 13 (.ireturn) 1 14 := ⟨by decide +kernel, rfl⟩
theorem D_mo_period_14 : Dc M_mo_period 14 (.aload_n 0) 1 15 := ⟨by decide +kernel, rfl⟩
theorem D_mo_period_15 : Dg M_mo_period 15 18 6 13 R_mo T_mo 21 := ⟨38, by decide +kernel, rfl, rfl, by decide, fl_mo_38, in_mo⟩
theorem D_mo_period_18 : Dc M_mo_period 18 (.iload_n 1) 1 19 := ⟨by decide +kernel, rfl⟩
theorem D_mo_period_19 : Dc M_mo_period 19 (.iaload) 1 20 := ⟨by decide +kernel, rfl⟩
theorem D_mo_period_20 : Dc M_mo_period 20 (.bipush (-9)) 2 22 := ⟨by decide +kernel, rfl⟩
theorem D_mo_period_22 : Dj M_mo_period 22 (.if_icmp .ne) 25 31 := ⟨9, by decide +kernel, rfl, by decide⟩
theorem D_mo_period_25 : Dc M_mo_period 25 (.aload_n 0) 1 26 := ⟨by decide +kernel, rfl⟩
theorem D_mo_period_26 : Dc M_mo_period 26 (.iconst 1) 1 27 := ⟨by decide +kernel, rfl⟩
theorem D_mo_period_27 : DcV M_mo_period M_mo_fails 27 30 := ⟨102, by decide +kernel, rfl, ml_mo_102, by decide, by decide⟩
theorem D_mo_period_30 : Dc M_mo_period 30 (.ireturn) 1 31 := ⟨by decide +kernel, rfl⟩
theorem D_mo_period_31 : Dc M_mo_period 31 (.aload_n 0) 1 32 := ⟨by decide +kernel, rfl⟩
theorem D_mo_period_32 : Dg M_mo_period 32 35 6 14 R_mo T_mo 21 := ⟨41, by decide +kernel, rfl, rfl, by decide, fl_mo_41, in_mo⟩
theorem D_mo_period_35 : Dc M_mo_period 35 (.iload_n 1) 1 36 := ⟨by decide +kernel, rfl⟩
theorem D_mo_period_36 : Dc M_mo_period 36 (.iaload) 1 37 := ⟨by decide +kernel, rfl⟩
theorem D_mo_period_37 : Dj M_mo_period 37 (.ifCond .ne) 40 43 := ⟨6, by decide +kernel, rfl, by decide⟩
theorem D_mo_period_40 : Dc M_mo_period 40 (.bipush (-3)) 2 42 := ⟨by decide +kernel, rfl⟩
theorem D_mo_period_42 : Dc M_mo_period 42 (.ireturn) 1 43 := ⟨by decide +kernel, rfl⟩
theorem D_mo_period_43 : Dc M_mo_period 43 (.iconst 1) 1 44 := ⟨by decide +kernel, rfl⟩
theorem D_mo_period_44 : Dc M_mo_period 44 (.istore_n 2) 1 45 := ⟨by decide +kernel, rfl⟩
theorem D_mo_period_45 : Dc M_mo_period 45 (.iconst 0) 1 46 := ⟨by decide +kernel, rfl⟩
theorem D_mo_period_46 : Dc M_mo_period 46 (.istore_n 3) 1 47 := ⟨by decide +kernel, rfl⟩
theorem D_mo_period_47 : Dc M_mo_period 47 (.iload_n 3) 1 48 := ⟨by decide +kernel, rfl⟩
theorem D_mo_period_48 : Dj M_mo_period 48 (.ifCond .ne) 51 119 := ⟨71, by decide +kernel, rfl, by decide⟩
theorem D_mo_period_51 : Dc M_mo_period 51 (.iconst 1) 1 52 := ⟨by decide +kernel, rfl⟩
theorem D_mo_period_52 : Dc M_mo_period 52 (.istore_n 3) 1 53 := ⟨by decide +kernel, rfl⟩
theorem D_mo_period_53 : Dc M_mo_period 53 (.iconst 0) 1 54 := ⟨by decide +kernel, rfl⟩
theorem D_mo_period_54 : Dc M_mo_period 54 (.istore 4) 2 56 := ⟨by decide +kernel, rfl⟩
theorem D_mo_period_56 : Dc M_mo_period 56 (.iload 4) 2 58 := ⟨by decide +kernel, rfl⟩
theorem D_mo_period_58 : Dc M_mo_period 58 (.iload_n 2) 1 59 := ⟨by decide +kernel, rfl⟩
theorem D_mo_period_59 : Dc M_mo_period 59 (.iadd) 1 60 := ⟨by decide +kernel, rfl⟩
theorem D_mo_period_60 : Dc M_mo_period 60 (.aload_n 0) 1 61 := ⟨by decide +kernel, rfl⟩
theorem D_mo_period_61 : Dg M_mo_period 61 64 6 14 R_mo T_mo 21 := ⟨41, by decide +kernel, rfl, rfl, by decide, fl_mo_41, in_mo⟩
theorem D_mo_period_64 : Dc M_mo_period 64 (.iload_n 1) 1 65 := ⟨by decide +kernel, rfl⟩
theorem D_mo_period_65 : Dc M_mo_period 65 (.iaload) 1 66 := ⟨by decide +kernel, rfl⟩
theorem D_mo_period_66 : Dj M_mo_period 66 (.if_icmp .ge) 69 104 := ⟨38, by decide +kernel, rfl, by decide⟩
theorem D_mo_period_69 : Dc M_mo_period 69 (.iload_n 3) 1 70 := ⟨by decide +kernel, rfl⟩
theorem D_mo_period_70 : Dj M_mo_period 70 (.ifCond .eq) 73 104 := ⟨34, by decide +kernel, rfl, by decide⟩
theorem D_mo_period_73 : Dc M_mo_period 73 (.aload_n 0) 1 74 := ⟨by decide +kernel, rfl⟩
theorem D_mo_period_74 : Dc M_mo_period 74 (.iload_n 1) 1 75 := ⟨by decide +kernel, rfl⟩
theorem D_mo_period_75 : Dc M_mo_period 75 (.iload 4) 2 77 := ⟨by decide +kernel, rfl⟩
theorem D_mo_period_77 : DcV M_mo_period M_mo_bit 77 80 := ⟨105, by decide +kernel, rfl, ml_mo_105, by decide, by decide⟩
theorem D_mo_period_80 : Dc M_mo_period 80 (.aload_n 0) 1 81 := ⟨by decide +kernel, rfl⟩
theorem D_mo_period_81 : Dc M_mo_period 81 (.iload_n 1) 1 82 := ⟨by decide +kernel, rfl⟩
theorem D_mo_period_82 : Dc M_mo_period 82 (.iload 4) 2 84 := ⟨by decide +kernel, rfl⟩
theorem D_mo_period_84 : Dc M_mo_period 84 (.iload_n 2) 1 85 := ⟨by decide +kernel, rfl⟩
theorem D_mo_period_85 : Dc M_mo_period 85 (.iadd) 1 86 := ⟨by decide +kernel, rfl⟩
theorem D_mo_period_86 : DcV M_mo_period M_mo_bit 86 89 := ⟨105, by decide +kernel, rfl, ml_mo_105, by decide, by decide⟩
theorem D_mo_period_89 : Dj M_mo_period 89 (.if_icmp .ne) 92 96 := ⟨7, by decide +kernel, rfl, by decide⟩
theorem D_mo_period_92 : Dc M_mo_period 92 (.iconst 1) 1 93 := ⟨by decide +kernel, rfl⟩
theorem D_mo_period_93 : Dj M_mo_period 93 (.goto) 96 97 := ⟨4, by decide +kernel, rfl, by decide⟩
theorem D_mo_period_96 : Dc M_mo_period 96 (.iconst 0) 1 97 := ⟨by decide +kernel, rfl⟩
theorem D_mo_period_97 : Dc M_mo_period 97 (.istore_n 3) 1 98 := ⟨by decide +kernel, rfl⟩
theorem D_mo_period_98 : Dc M_mo_period 98 (.iinc 4 1) 3 101 := ⟨by decide +kernel, rfl⟩
theorem D_mo_period_101 : Dj M_mo_period 101 (.goto) 104 56 := ⟨(-45), by decide +kernel, rfl, by decide⟩
theorem D_mo_period_104 : Dc M_mo_period 104 (.iload_n 2) 1 105 := ⟨by decide +kernel, rfl⟩
theorem D_mo_period_105 : Dc M_mo_period 105 (.iload_n 3) 1 106 := ⟨by decide +kernel, rfl⟩
theorem D_mo_period_106 : Dj M_mo_period 106 (.ifCond .eq) 109 113 := ⟨7, by decide +kernel, rfl, by decide⟩
theorem D_mo_period_109 : Dc M_mo_period 109 (.iconst 0) 1 110 := ⟨by decide +kernel, rfl⟩
theorem D_mo_period_110 : Dj M_mo_period 110 (.goto) 113 114 := ⟨4, by decide +kernel, rfl, by decide⟩
theorem D_mo_period_113 : Dc M_mo_period 113 (.iconst 1) 1 114 := ⟨by decide +kernel, rfl⟩
theorem D_mo_period_114 : Dc M_mo_period 114 (.iadd) 1 115 := ⟨by decide +kernel, rfl⟩
theorem D_mo_period_115 : Dc M_mo_period 115 (.istore_n 2) 1 116 := ⟨by decide +kernel, rfl⟩
theorem D_mo_period_116 : Dj M_mo_period 116 (.goto) 119 47 := ⟨(-69), by decide +kernel, rfl, by decide⟩
theorem D_mo_period_119 : Dc M_mo_period 119 (.iload_n 2) 1 120 := ⟨by decide +kernel, rfl⟩
theorem D_mo_period_120 : Dc M_mo_period 120 (.ireturn) 1 121 := ⟨by decide +kernel, rfl⟩
theorem D_mo_learn_0 : Dc M_mo_learn 0 (.aload_n 0) 1 1 := ⟨by decide +kernel, rfl⟩
theorem D_mo_learn_1 : Dc M_mo_learn 1 (.iconst 0) 1 2 := ⟨by decide +kernel, rfl⟩
theorem D_mo_learn_2 : Dp M_mo_learn 2 5 6 0 R_mo T_mo 21 := ⟨64, by decide +kernel, rfl, rfl, by decide, fl_mo_64, in_mo, rfl⟩
theorem D_mo_learn_5 : Dc M_mo_learn 5 (.iload_n 1) 1 6 := ⟨by decide +kernel, rfl⟩
theorem D_mo_learn_6 : DcS M_mo_learn M_mo_isSheet 6 9 := ⟨99, by decide +kernel, rfl, ml_mo_99, by decide, by decide⟩
theorem D_mo_learn_9 : Dj M_mo_learn 9 (.ifCond .ne) 12 14 := ⟨5, by decide +kernel, rfl, by decide⟩
theorem D_mo_learn_12 : Dc M_mo_learn 12 (.iconst (-1)) 1 13 := ⟨by decide +kernel, rfl⟩
theorem D_mo_learn_13 : Dc M_mo_learn 13 (.ireturn) 1 14 := ⟨by decide +kernel, rfl⟩
theorem D_mo_learn_14 : Dc M_mo_learn 14 (.aload_n 0) 1 15 := ⟨by decide +kernel, rfl⟩
theorem D_mo_learn_15 : Dg M_mo_learn 15 18 6 13 R_mo T_mo 21 := ⟨38, by decide +kernel, rfl, rfl, by decide, fl_mo_38, in_mo⟩
theorem D_mo_learn_18 : Dc M_mo_learn 18 (.iload_n 1) 1 19 := ⟨by decide +kernel, rfl⟩
theorem D_mo_learn_19 : Dc M_mo_learn 19 (.iaload) 1 20 := ⟨by decide +kernel, rfl⟩
theorem D_mo_learn_20 : Dc M_mo_learn 20 (.bipush (-9)) 2 22 := ⟨by decide +kernel, rfl⟩
theorem D_mo_learn_22 : Dj M_mo_learn 22 (.if_icmp .ne) 25 31 := ⟨9, by decide +kernel, rfl, by decide⟩
theorem D_mo_learn_25 : Dc M_mo_learn 25 (.aload_n 0) 1 26 := ⟨by decide +kernel, rfl⟩
theorem D_mo_learn_26 : Dc M_mo_learn 26 (.iconst 1) 1 27 := ⟨by decide +kernel, rfl⟩
theorem D_mo_learn_27 : DcV M_mo_learn M_mo_fails 27 30 := ⟨102, by decide +kernel, rfl, ml_mo_102, by decide, by decide⟩
theorem D_mo_learn_30 : Dc M_mo_learn 30 (.ireturn) 1 31 := ⟨by decide +kernel, rfl⟩
theorem D_mo_learn_31 : Dc M_mo_learn 31 (.aload_n 0) 1 32 := ⟨by decide +kernel, rfl⟩
theorem D_mo_learn_32 : Dc M_mo_learn 32 (.iload_n 1) 1 33 := ⟨by decide +kernel, rfl⟩
theorem D_mo_learn_33 : Dc M_mo_learn 33 (.aload_n 0) 1 34 := ⟨by decide +kernel, rfl⟩
theorem D_mo_learn_34 : Dg M_mo_learn 34 37 6 14 R_mo T_mo 21 := ⟨41, by decide +kernel, rfl, rfl, by decide, fl_mo_41, in_mo⟩
theorem D_mo_learn_37 : Dc M_mo_learn 37 (.iload_n 1) 1 38 := ⟨by decide +kernel, rfl⟩
theorem D_mo_learn_38 : Dc M_mo_learn 38 (.iaload) 1 39 := ⟨by decide +kernel, rfl⟩
theorem D_mo_learn_39 : DcV M_mo_learn M_mo_greatestOf 39 42 := ⟨148, by decide +kernel, rfl, ml_mo_148, by decide, by decide⟩
theorem D_mo_learn_42 : Dc M_mo_learn 42 (.istore_n 2) 1 43 := ⟨by decide +kernel, rfl⟩
theorem D_mo_learn_43 : Dc M_mo_learn 43 (.iload_n 2) 1 44 := ⟨by decide +kernel, rfl⟩
theorem D_mo_learn_44 : Dc M_mo_learn 44 (.bipush 9) 2 46 := ⟨by decide +kernel, rfl⟩
theorem D_mo_learn_46 : Dj M_mo_learn 46 (.if_icmp .le) 49 52 := ⟨6, by decide +kernel, rfl, by decide⟩
theorem D_mo_learn_49 : Dc M_mo_learn 49 (.bipush (-3)) 2 51 := ⟨by decide +kernel, rfl⟩
theorem D_mo_learn_51 : Dc M_mo_learn 51 (.ireturn) 1 52 := ⟨by decide +kernel, rfl⟩
theorem D_mo_learn_52 : Dc M_mo_learn 52 (.aload_n 0) 1 53 := ⟨by decide +kernel, rfl⟩
theorem D_mo_learn_53 : Dc M_mo_learn 53 (.iload_n 2) 1 54 := ⟨by decide +kernel, rfl⟩
theorem D_mo_learn_54 : Dc M_mo_learn 54 (.iconst 2) 1 55 := ⟨by decide +kernel, rfl⟩
theorem D_mo_learn_55 : Dj M_mo_learn 55 (.if_icmp .ge) 58 62 := ⟨7, by decide +kernel, rfl, by decide⟩
theorem D_mo_learn_58 : Dc M_mo_learn 58 (.iconst 2) 1 59 := ⟨by decide +kernel, rfl⟩
theorem D_mo_learn_59 : Dj M_mo_learn 59 (.goto) 62 63 := ⟨4, by decide +kernel, rfl, by decide⟩
theorem D_mo_learn_62 : Dc M_mo_learn 62 (.iload_n 2) 1 63 := ⟨by decide +kernel, rfl⟩
theorem ml_mo_151 : Cond.methodLink R_mo 151 M_mo_length.1 ∈ gtb := mem_g 903 (by decide +kernel) rfl
theorem D_mo_learn_63 : DcV M_mo_learn M_mo_length 63 66 := ⟨151, by decide +kernel, rfl, ml_mo_151, by decide, by decide⟩
theorem D_mo_learn_66 : Dc M_mo_learn 66 (.pop) 1 67 := ⟨by decide +kernel, rfl⟩
theorem D_mo_learn_67 : Dc M_mo_learn 67 (.iconst 0) 1 68 := ⟨by decide +kernel, rfl⟩
theorem D_mo_learn_68 : Dc M_mo_learn 68 (.istore_n 3) 1 69 := ⟨by decide +kernel, rfl⟩
theorem D_mo_learn_69 : Dc M_mo_learn 69 (.iload_n 3) 1 70 := ⟨by decide +kernel, rfl⟩
theorem D_mo_learn_70 : Dc M_mo_learn 70 (.aload_n 0) 1 71 := ⟨by decide +kernel, rfl⟩
theorem D_mo_learn_71 : Dg M_mo_learn 71 74 6 2 R_mo T_mo 21 := ⟨7, by decide +kernel, rfl, rfl, by decide, fl_mo_7, in_mo⟩
theorem D_mo_learn_74 : Dc M_mo_learn 74 (.iadd) 1 75 := ⟨by decide +kernel, rfl⟩
theorem D_mo_learn_75 : Dc M_mo_learn 75 (.aload_n 0) 1 76 := ⟨by decide +kernel, rfl⟩
theorem D_mo_learn_76 : Dg M_mo_learn 76 79 6 14 R_mo T_mo 21 := ⟨41, by decide +kernel, rfl, rfl, by decide, fl_mo_41, in_mo⟩
theorem D_mo_learn_79 : Dc M_mo_learn 79 (.iload_n 1) 1 80 := ⟨by decide +kernel, rfl⟩
theorem D_mo_learn_80 : Dc M_mo_learn 80 (.iaload) 1 81 := ⟨by decide +kernel, rfl⟩
theorem D_mo_learn_81 : Dj M_mo_learn 81 (.if_icmp .ge) 84 146 := ⟨65, by decide +kernel, rfl, by decide⟩
theorem D_mo_learn_84 : Dc M_mo_learn 84 (.iconst 0) 1 85 := ⟨by decide +kernel, rfl⟩
theorem D_mo_learn_85 : Dc M_mo_learn 85 (.istore 4) 2 87 := ⟨by decide +kernel, rfl⟩
theorem D_mo_learn_87 : Dc M_mo_learn 87 (.iconst 0) 1 88 := ⟨by decide +kernel, rfl⟩
theorem D_mo_learn_88 : Dc M_mo_learn 88 (.istore 5) 2 90 := ⟨by decide +kernel, rfl⟩
theorem D_mo_learn_90 : Dc M_mo_learn 90 (.iload 5) 2 92 := ⟨by decide +kernel, rfl⟩
theorem D_mo_learn_92 : Dc M_mo_learn 92 (.aload_n 0) 1 93 := ⟨by decide +kernel, rfl⟩
theorem D_mo_learn_93 : Dg M_mo_learn 93 96 6 2 R_mo T_mo 21 := ⟨7, by decide +kernel, rfl, rfl, by decide, fl_mo_7, in_mo⟩
theorem D_mo_learn_96 : Dj M_mo_learn 96 (.if_icmp .ge) 99 122 := ⟨26, by decide +kernel, rfl, by decide⟩
theorem D_mo_learn_99 : Dc M_mo_learn 99 (.iload 4) 2 101 := ⟨by decide +kernel, rfl⟩
theorem D_mo_learn_101 : Dc M_mo_learn 101 (.aload_n 0) 1 102 := ⟨by decide +kernel, rfl⟩
theorem D_mo_learn_102 : Dc M_mo_learn 102 (.iload_n 1) 1 103 := ⟨by decide +kernel, rfl⟩
theorem D_mo_learn_103 : Dc M_mo_learn 103 (.iload_n 3) 1 104 := ⟨by decide +kernel, rfl⟩
theorem D_mo_learn_104 : Dc M_mo_learn 104 (.iload 5) 2 106 := ⟨by decide +kernel, rfl⟩
theorem D_mo_learn_106 : Dc M_mo_learn 106 (.iadd) 1 107 := ⟨by decide +kernel, rfl⟩
theorem D_mo_learn_107 : DcV M_mo_learn M_mo_bit 107 110 := ⟨105, by decide +kernel, rfl, ml_mo_105, by decide, by decide⟩
theorem D_mo_learn_110 : Dc M_mo_learn 110 (.iload 5) 2 112 := ⟨by decide +kernel, rfl⟩
theorem D_mo_learn_112 : Dc M_mo_learn 112 (.ishl) 1 113 := ⟨by decide +kernel, rfl⟩
theorem D_mo_learn_113 : Dc M_mo_learn 113 (.iadd) 1 114 := ⟨by decide +kernel, rfl⟩
theorem D_mo_learn_114 : Dc M_mo_learn 114 (.istore 4) 2 116 := ⟨by decide +kernel, rfl⟩
theorem D_mo_learn_116 : Dc M_mo_learn 116 (.iinc 5 1) 3 119 := ⟨by decide +kernel, rfl⟩
theorem D_mo_learn_119 : Dj M_mo_learn 119 (.goto) 122 90 := ⟨(-29), by decide +kernel, rfl, by decide⟩
theorem D_mo_learn_122 : Dc M_mo_learn 122 (.aload_n 0) 1 123 := ⟨by decide +kernel, rfl⟩
theorem D_mo_learn_123 : Dg M_mo_learn 123 126 6 3 R_mo T_mo 21 := ⟨13, by decide +kernel, rfl, rfl, by decide, fl_mo_13, in_mo⟩
theorem D_mo_learn_126 : Dc M_mo_learn 126 (.iload 4) 2 128 := ⟨by decide +kernel, rfl⟩
theorem D_mo_learn_128 : Dc M_mo_learn 128 (.aload_n 0) 1 129 := ⟨by decide +kernel, rfl⟩
theorem D_mo_learn_129 : Dc M_mo_learn 129 (.iload_n 1) 1 130 := ⟨by decide +kernel, rfl⟩
theorem D_mo_learn_130 : Dc M_mo_learn 130 (.iload_n 3) 1 131 := ⟨by decide +kernel, rfl⟩
theorem D_mo_learn_131 : Dc M_mo_learn 131 (.aload_n 0) 1 132 := ⟨by decide +kernel, rfl⟩
theorem D_mo_learn_132 : Dg M_mo_learn 132 135 6 2 R_mo T_mo 21 := ⟨7, by decide +kernel, rfl, rfl, by decide, fl_mo_7, in_mo⟩
theorem D_mo_learn_135 : Dc M_mo_learn 135 (.iadd) 1 136 := ⟨by decide +kernel, rfl⟩
theorem D_mo_learn_136 : DcV M_mo_learn M_mo_bit 136 139 := ⟨105, by decide +kernel, rfl, ml_mo_105, by decide, by decide⟩
theorem D_mo_learn_139 : Dc M_mo_learn 139 (.iastore) 1 140 := ⟨by decide +kernel, rfl⟩
theorem D_mo_learn_140 : Dc M_mo_learn 140 (.iinc 3 1) 3 143 := ⟨by decide +kernel, rfl⟩
theorem D_mo_learn_143 : Dj M_mo_learn 143 (.goto) 146 69 := ⟨(-74), by decide +kernel, rfl, by decide⟩
theorem D_mo_learn_146 : Dc M_mo_learn 146 (.aload_n 0) 1 147 := ⟨by decide +kernel, rfl⟩
theorem D_mo_learn_147 : Dc M_mo_learn 147 (.iconst 0) 1 148 := ⟨by decide +kernel, rfl⟩
theorem D_mo_learn_148 : Dp M_mo_learn 148 151 6 4 R_mo T_mo 21 := ⟨73, by decide +kernel, rfl, rfl, by decide, fl_mo_73, in_mo, rfl⟩
theorem D_mo_learn_151 : Dc M_mo_learn 151 (.aload_n 0) 1 152 := ⟨by decide +kernel, rfl⟩
theorem D_mo_learn_152 : Dg M_mo_learn 152 155 6 2 R_mo T_mo 21 := ⟨7, by decide +kernel, rfl, rfl, by decide, fl_mo_7, in_mo⟩
theorem D_mo_learn_155 : Dc M_mo_learn 155 (.ireturn) 1 156 := ⟨by decide +kernel, rfl⟩
theorem D_mo_along_0 : Dc M_mo_along 0 (.aload_n 0) 1 1 := ⟨by decide +kernel, rfl⟩
theorem D_mo_along_1 : DcV M_mo_along M_mo_find 1 4 := ⟨109, by decide +kernel, rfl, ml_mo_109, by decide, by decide⟩
theorem D_mo_along_4 : Dc M_mo_along 4 (.iload_n 1) 1 5 := ⟨by decide +kernel, rfl⟩
theorem D_mo_along_5 : Dj M_mo_along 5 (.ifCond .lt) 8 16 := ⟨11, by decide +kernel, rfl, by decide⟩
theorem D_mo_along_8 : Dc M_mo_along 8 (.iload_n 1) 1 9 := ⟨by decide +kernel, rfl⟩
theorem D_mo_along_9 : Dc M_mo_along 9 (.aload_n 0) 1 10 := ⟨by decide +kernel, rfl⟩
theorem D_mo_along_10 : Dg M_mo_along 10 13 6 5 R_mo T_mo 21 := ⟨81, by decide +kernel, rfl, rfl, by decide, fl_mo_81, in_mo⟩
theorem D_mo_along_13 : Dj M_mo_along 13 (.if_icmp .lt) 16 18 := ⟨5, by decide +kernel, rfl, by decide⟩
theorem D_mo_along_16 : Dc M_mo_along 16 (.iconst (-1)) 1 17 := ⟨by decide +kernel, rfl⟩
theorem D_mo_along_17 : Dc M_mo_along 17 (.ireturn) 1 18 := ⟨by decide +kernel, rfl⟩
theorem D_mo_along_18 : Dc M_mo_along 18 (.iload_n 2) 1 19 := ⟨by decide +kernel, rfl⟩
theorem D_mo_along_19 : Dj M_mo_along 19 (.ifCond .ge) 22 25 := ⟨6, by decide +kernel, rfl, by decide⟩
theorem D_mo_along_22 : Dc M_mo_along 22 (.bipush (-2)) 2 24 := ⟨by decide +kernel, rfl⟩
theorem D_mo_along_24 : Dc M_mo_along 24 (.ireturn) 1 25 := ⟨by decide +kernel, rfl⟩
theorem D_mo_along_25 : Dc M_mo_along 25 (.aload_n 0) 1 26 := ⟨by decide +kernel, rfl⟩
theorem D_mo_along_26 : Dg M_mo_along 26 29 6 6 R_mo T_mo 21 := ⟨17, by decide +kernel, rfl, rfl, by decide, fl_mo_17, in_mo⟩
theorem D_mo_along_29 : Dc M_mo_along 29 (.iload_n 1) 1 30 := ⟨by decide +kernel, rfl⟩
theorem D_mo_along_30 : Dc M_mo_along 30 (.iaload) 1 31 := ⟨by decide +kernel, rfl⟩
theorem D_mo_along_31 : Dc M_mo_along 31 (.istore_n 3) 1 32 := ⟨by decide +kernel, rfl⟩
theorem D_mo_along_32 : Dc M_mo_along 32 (.aload_n 0) 1 33 := ⟨by decide +kernel, rfl⟩
theorem D_mo_along_33 : Dc M_mo_along 33 (.iload_n 3) 1 34 := ⟨by decide +kernel, rfl⟩
theorem D_mo_along_34 : Dc M_mo_along 34 (.iload_n 2) 1 35 := ⟨by decide +kernel, rfl⟩
theorem D_mo_along_35 : Dc M_mo_along 35 (.i2l) 1 36 := ⟨by decide +kernel, rfl⟩
theorem ml_mo_154 : Cond.methodLink R_mo 154 M_mo_step.1 ∈ gtb := mem_g 908 (by decide +kernel) rfl
theorem D_mo_along_36 : DcV M_mo_along M_mo_step 36 39 := ⟨154, by decide +kernel, rfl, ml_mo_154, by decide, by decide⟩
theorem D_mo_along_39 : Dc M_mo_along 39 (.istore 4) 2 41 := ⟨by decide +kernel, rfl⟩
theorem D_mo_along_41 : Dc M_mo_along 41 (.iconst 0) 1 42 := ⟨by decide +kernel, rfl⟩
theorem D_mo_along_42 : Dc M_mo_along 42 (.istore 5) 2 44 := ⟨by decide +kernel, rfl⟩
theorem D_mo_along_44 : Dc M_mo_along 44 (.iconst 0) 1 45 := ⟨by decide +kernel, rfl⟩
theorem D_mo_along_45 : Dc M_mo_along 45 (.istore 6) 2 47 := ⟨by decide +kernel, rfl⟩
theorem D_mo_along_47 : Dc M_mo_along 47 (.iload 6) 2 49 := ⟨by decide +kernel, rfl⟩
theorem D_mo_along_49 : Dc M_mo_along 49 (.aload_n 0) 1 50 := ⟨by decide +kernel, rfl⟩
theorem D_mo_along_50 : Dg M_mo_along 50 53 6 7 R_mo T_mo 21 := ⟨20, by decide +kernel, rfl, rfl, by decide, fl_mo_20, in_mo⟩
theorem D_mo_along_53 : Dc M_mo_along 53 (.iload_n 1) 1 54 := ⟨by decide +kernel, rfl⟩
theorem D_mo_along_54 : Dc M_mo_along 54 (.iaload) 1 55 := ⟨by decide +kernel, rfl⟩
theorem D_mo_along_55 : Dj M_mo_along 55 (.if_icmp .ge) 58 98 := ⟨43, by decide +kernel, rfl, by decide⟩
theorem D_mo_along_58 : Dc M_mo_along 58 (.iload 5) 2 60 := ⟨by decide +kernel, rfl⟩
theorem D_mo_along_60 : Dc M_mo_along 60 (.iload_n 3) 1 61 := ⟨by decide +kernel, rfl⟩
theorem D_mo_along_61 : Dc M_mo_along 61 (.iconst 1) 1 62 := ⟨by decide +kernel, rfl⟩
theorem D_mo_along_62 : Dc M_mo_along 62 (.iand) 1 63 := ⟨by decide +kernel, rfl⟩
theorem D_mo_along_63 : Dc M_mo_along 63 (.iload 4) 2 65 := ⟨by decide +kernel, rfl⟩
theorem D_mo_along_65 : Dc M_mo_along 65 (.iconst 1) 1 66 := ⟨by decide +kernel, rfl⟩
theorem D_mo_along_66 : Dc M_mo_along 66 (.iand) 1 67 := ⟨by decide +kernel, rfl⟩
theorem D_mo_along_67 : Dj M_mo_along 67 (.if_icmp .ne) 70 74 := ⟨7, by decide +kernel, rfl, by decide⟩
theorem D_mo_along_70 : Dc M_mo_along 70 (.iconst 1) 1 71 := ⟨by decide +kernel, rfl⟩
theorem D_mo_along_71 : Dj M_mo_along 71 (.goto) 74 75 := ⟨4, by decide +kernel, rfl, by decide⟩
theorem D_mo_along_74 : Dc M_mo_along 74 (.iconst (-1)) 1 75 := ⟨by decide +kernel, rfl⟩
theorem D_mo_along_75 : Dc M_mo_along 75 (.iadd) 1 76 := ⟨by decide +kernel, rfl⟩
theorem D_mo_along_76 : Dc M_mo_along 76 (.istore 5) 2 78 := ⟨by decide +kernel, rfl⟩
theorem D_mo_along_78 : Dc M_mo_along 78 (.aload_n 0) 1 79 := ⟨by decide +kernel, rfl⟩
theorem D_mo_along_79 : Dc M_mo_along 79 (.iload_n 3) 1 80 := ⟨by decide +kernel, rfl⟩
theorem D_mo_along_80 : DcV M_mo_along M_mo_next 80 83 := ⟨77, by decide +kernel, rfl, ml_mo_77, by decide, by decide⟩
theorem D_mo_along_83 : Dc M_mo_along 83 (.istore_n 3) 1 84 := ⟨by decide +kernel, rfl⟩
theorem D_mo_along_84 : Dc M_mo_along 84 (.aload_n 0) 1 85 := ⟨by decide +kernel, rfl⟩
theorem D_mo_along_85 : Dc M_mo_along 85 (.iload 4) 2 87 := ⟨by decide +kernel, rfl⟩
theorem D_mo_along_87 : DcV M_mo_along M_mo_next 87 90 := ⟨77, by decide +kernel, rfl, ml_mo_77, by decide, by decide⟩
theorem D_mo_along_90 : Dc M_mo_along 90 (.istore 4) 2 92 := ⟨by decide +kernel, rfl⟩
theorem D_mo_along_92 : Dc M_mo_along 92 (.iinc 6 1) 3 95 := ⟨by decide +kernel, rfl⟩
theorem D_mo_along_95 : Dj M_mo_along 95 (.goto) 98 47 := ⟨(-48), by decide +kernel, rfl, by decide⟩
theorem D_mo_along_98 : Dc M_mo_along 98 (.iload 5) 2 100 := ⟨by decide +kernel, rfl⟩
theorem D_mo_along_100 : Dc M_mo_along 100 (.ireturn) 1 101 := ⟨by decide +kernel, rfl⟩
theorem D_mo_begins_0 : Dc M_mo_begins 0 (.aload_n 0) 1 1 := ⟨by decide +kernel, rfl⟩
theorem D_mo_begins_1 : Dc M_mo_begins 1 (.bipush 31) 2 3 := ⟨by decide +kernel, rfl⟩
theorem D_mo_begins_3 : Dc M_mo_begins 3 (.aload_n 0) 1 4 := ⟨by decide +kernel, rfl⟩
theorem fl_mo_158 : Cond.fieldLink R_mo 158 (T_mo 1).1 (T_mo 1).2.1 (T_mo 1).2.2.1 ∈ gtb := mem_g 666 (by decide +kernel) rfl
theorem D_mo_begins_4 : Dg M_mo_begins 4 7 6 1 R_mo T_mo 21 := ⟨158, by decide +kernel, rfl, rfl, by decide, fl_mo_158, in_mo⟩
theorem D_mo_begins_7 : Dc M_mo_begins 7 (.imul) 1 8 := ⟨by decide +kernel, rfl⟩
theorem D_mo_begins_8 : Dc M_mo_begins 8 (.iload_n 1) 1 9 := ⟨by decide +kernel, rfl⟩
theorem D_mo_begins_9 : Dc M_mo_begins 9 (.iadd) 1 10 := ⟨by decide +kernel, rfl⟩
theorem D_mo_begins_10 : Dp M_mo_begins 10 13 6 1 R_mo T_mo 21 := ⟨158, by decide +kernel, rfl, rfl, by decide, fl_mo_158, in_mo, rfl⟩
theorem D_mo_begins_13 : Dc M_mo_begins 13 (.return_) 1 14 := ⟨by decide +kernel, rfl⟩
theorem D_mo_tell_0 : Dc M_mo_tell 0 (.aload_n 0) 1 1 := ⟨by decide +kernel, rfl⟩
theorem D_mo_tell_1 : Dc M_mo_tell 1 (.iload_n 1) 1 2 := ⟨by decide +kernel, rfl⟩
theorem D_mo_tell_2 : DcV M_mo_tell M_mo_isState 2 5 := ⟨92, by decide +kernel, rfl, ml_mo_92, by decide, by decide⟩
theorem D_mo_tell_5 : Dj M_mo_tell 5 (.ifCond .ne) 8 10 := ⟨5, by decide +kernel, rfl, by decide⟩
theorem D_mo_tell_8 : Dc M_mo_tell 8 (.iconst (-1)) 1 9 := ⟨by decide +kernel, rfl⟩
theorem D_mo_tell_9 : Dc M_mo_tell 9 (.ireturn) 1 10 := ⟨by decide +kernel, rfl⟩
theorem D_mo_tell_10 : Dc M_mo_tell 10 (.aload_n 0) 1 11 := ⟨by decide +kernel, rfl⟩
theorem D_mo_tell_11 : DcV M_mo_tell M_mo_find 11 14 := ⟨109, by decide +kernel, rfl, ml_mo_109, by decide, by decide⟩
theorem D_mo_tell_14 : Dc M_mo_tell 14 (.aload_n 0) 1 15 := ⟨by decide +kernel, rfl⟩
theorem D_mo_tell_15 : Dg M_mo_tell 15 18 6 7 R_mo T_mo 21 := ⟨20, by decide +kernel, rfl, rfl, by decide, fl_mo_20, in_mo⟩
theorem D_mo_tell_18 : Dc M_mo_tell 18 (.aload_n 0) 1 19 := ⟨by decide +kernel, rfl⟩
theorem D_mo_tell_19 : Dg M_mo_tell 19 22 6 8 R_mo T_mo 21 := ⟨23, by decide +kernel, rfl, rfl, by decide, fl_mo_23, in_mo⟩
theorem D_mo_tell_22 : Dc M_mo_tell 22 (.iload_n 1) 1 23 := ⟨by decide +kernel, rfl⟩
theorem D_mo_tell_23 : Dc M_mo_tell 23 (.iaload) 1 24 := ⟨by decide +kernel, rfl⟩
theorem D_mo_tell_24 : Dc M_mo_tell 24 (.iaload) 1 25 := ⟨by decide +kernel, rfl⟩
theorem D_mo_tell_25 : Dc M_mo_tell 25 (.istore_n 2) 1 26 := ⟨by decide +kernel, rfl⟩
theorem D_mo_tell_26 : Dc M_mo_tell 26 (.aload_n 0) 1 27 := ⟨by decide +kernel, rfl⟩
theorem D_mo_tell_27 : Dg M_mo_tell 27 30 6 9 R_mo T_mo 21 := ⟨26, by decide +kernel, rfl, rfl, by decide, fl_mo_26, in_mo⟩
theorem D_mo_tell_30 : Dc M_mo_tell 30 (.iload_n 1) 1 31 := ⟨by decide +kernel, rfl⟩
theorem D_mo_tell_31 : Dc M_mo_tell 31 (.iaload) 1 32 := ⟨by decide +kernel, rfl⟩
theorem D_mo_tell_32 : Dj M_mo_tell 32 (.ifCond .le) 35 54 := ⟨22, by decide +kernel, rfl, by decide⟩
theorem D_mo_tell_35 : Dc M_mo_tell 35 (.aload_n 0) 1 36 := ⟨by decide +kernel, rfl⟩
theorem D_mo_tell_36 : Dc M_mo_tell 36 (.iconst 3) 1 37 := ⟨by decide +kernel, rfl⟩
theorem ml_mo_161 : Cond.methodLink R_mo 161 M_mo_begins.1 ∈ gtb := mem_g 913 (by decide +kernel) rfl
theorem D_mo_tell_37 : DcV M_mo_tell M_mo_begins 37 40 := ⟨161, by decide +kernel, rfl, ml_mo_161, by decide, by decide⟩
theorem D_mo_tell_40 : Dc M_mo_tell 40 (.aload_n 0) 1 41 := ⟨by decide +kernel, rfl⟩
theorem D_mo_tell_41 : Dc M_mo_tell 41 (.iconst 1) 1 42 := ⟨by decide +kernel, rfl⟩
theorem D_mo_tell_42 : DcV M_mo_tell M_mo_begins 42 45 := ⟨161, by decide +kernel, rfl, ml_mo_161, by decide, by decide⟩
theorem D_mo_tell_45 : Dc M_mo_tell 45 (.iconst 1) 1 46 := ⟨by decide +kernel, rfl⟩
theorem D_mo_tell_46 : Dc M_mo_tell 46 (.aload_n 0) 1 47 := ⟨by decide +kernel, rfl⟩
theorem D_mo_tell_47 : Dg M_mo_tell 47 50 6 9 R_mo T_mo 21 := ⟨26, by decide +kernel, rfl, rfl, by decide, fl_mo_26, in_mo⟩
theorem D_mo_tell_50 : Dc M_mo_tell 50 (.iload_n 1) 1 51 := ⟨by decide +kernel, rfl⟩
theorem D_mo_tell_51 : Dc M_mo_tell 51 (.iaload) 1 52 := ⟨by decide +kernel, rfl⟩
theorem D_mo_tell_52 : Dc M_mo_tell 52 (.isub) 1 53 := ⟨by decide +kernel, rfl⟩
theorem D_mo_tell_53 : Dc M_mo_tell 53 (.ireturn) 1 54 := ⟨by decide +kernel, rfl⟩
theorem D_mo_tell_54 : Dc M_mo_tell 54 (.iload_n 2) 1 55 := ⟨by decide +kernel, rfl⟩
theorem D_mo_tell_55 : Dc M_mo_tell 55 (.iconst 1) 1 56 := ⟨by decide +kernel, rfl⟩
theorem D_mo_tell_56 : Dj M_mo_tell 56 (.if_icmp .le) 59 73 := ⟨17, by decide +kernel, rfl, by decide⟩
theorem D_mo_tell_59 : Dc M_mo_tell 59 (.aload_n 0) 1 60 := ⟨by decide +kernel, rfl⟩
theorem D_mo_tell_60 : Dc M_mo_tell 60 (.iconst 2) 1 61 := ⟨by decide +kernel, rfl⟩
theorem D_mo_tell_61 : DcV M_mo_tell M_mo_begins 61 64 := ⟨161, by decide +kernel, rfl, ml_mo_161, by decide, by decide⟩
theorem D_mo_tell_64 : Dc M_mo_tell 64 (.aload_n 0) 1 65 := ⟨by decide +kernel, rfl⟩
theorem D_mo_tell_65 : Dc M_mo_tell 65 (.iconst 1) 1 66 := ⟨by decide +kernel, rfl⟩
theorem D_mo_tell_66 : DcV M_mo_tell M_mo_begins 66 69 := ⟨161, by decide +kernel, rfl, ml_mo_161, by decide, by decide⟩
theorem D_mo_tell_69 : Dc M_mo_tell 69 (.iconst 2) 1 70 := ⟨by decide +kernel, rfl⟩
theorem D_mo_tell_70 : Dc M_mo_tell 70 (.iload_n 2) 1 71 := ⟨by decide +kernel, rfl⟩
theorem D_mo_tell_71 : Dc M_mo_tell 71 (.iadd) 1 72 := ⟨by decide +kernel, rfl⟩
theorem D_mo_tell_72 : Dc M_mo_tell 72 (.ireturn) 1 73 := ⟨by decide +kernel, rfl⟩
theorem D_mo_tell_73 : Dc M_mo_tell 73 (.aload_n 0) 1 74 := ⟨by decide +kernel, rfl⟩
theorem D_mo_tell_74 : Dc M_mo_tell 74 (.iconst 1) 1 75 := ⟨by decide +kernel, rfl⟩
theorem D_mo_tell_75 : DcV M_mo_tell M_mo_begins 75 78 := ⟨161, by decide +kernel, rfl, ml_mo_161, by decide, by decide⟩
theorem D_mo_tell_78 : Dc M_mo_tell 78 (.iconst 1) 1 79 := ⟨by decide +kernel, rfl⟩
theorem D_mo_tell_79 : Dc M_mo_tell 79 (.ireturn) 1 80 := ⟨by decide +kernel, rfl⟩
theorem D_mo_weigh_0 : Dc M_mo_weigh 0 (.aload_n 0) 1 1 := ⟨by decide +kernel, rfl⟩
theorem D_mo_weigh_1 : Dc M_mo_weigh 1 (.iload_n 1) 1 2 := ⟨by decide +kernel, rfl⟩
theorem D_mo_weigh_2 : DcV M_mo_weigh M_mo_isState 2 5 := ⟨92, by decide +kernel, rfl, ml_mo_92, by decide, by decide⟩
theorem D_mo_weigh_5 : Dj M_mo_weigh 5 (.ifCond .ne) 8 10 := ⟨5, by decide +kernel, rfl, by decide⟩
theorem D_mo_weigh_8 : Dc M_mo_weigh 8 (.iconst (-1)) 1 9 := ⟨by decide +kernel, rfl⟩
theorem D_mo_weigh_9 : Dc M_mo_weigh 9 (.ireturn) 1 10 := ⟨by decide +kernel, rfl⟩
theorem D_mo_weigh_10 : Dc M_mo_weigh 10 (.aload_n 0) 1 11 := ⟨by decide +kernel, rfl⟩
theorem D_mo_weigh_11 : DcV M_mo_weigh M_mo_find 11 14 := ⟨109, by decide +kernel, rfl, ml_mo_109, by decide, by decide⟩
theorem D_mo_weigh_14 : Dc M_mo_weigh 14 (.aload_n 0) 1 15 := ⟨by decide +kernel, rfl⟩
theorem D_mo_weigh_15 : Dc M_mo_weigh 15 (.aload_n 0) 1 16 := ⟨by decide +kernel, rfl⟩
theorem D_mo_weigh_16 : Dg M_mo_weigh 16 19 6 9 R_mo T_mo 21 := ⟨26, by decide +kernel, rfl, rfl, by decide, fl_mo_26, in_mo⟩
theorem D_mo_weigh_19 : Dc M_mo_weigh 19 (.iload_n 1) 1 20 := ⟨by decide +kernel, rfl⟩
theorem D_mo_weigh_20 : Dc M_mo_weigh 20 (.iaload) 1 21 := ⟨by decide +kernel, rfl⟩
theorem D_mo_weigh_21 : Dj M_mo_weigh 21 (.ifCond .le) 24 28 := ⟨7, by decide +kernel, rfl, by decide⟩
theorem D_mo_weigh_24 : Dc M_mo_weigh 24 (.iconst 5) 1 25 := ⟨by decide +kernel, rfl⟩
theorem D_mo_weigh_25 : Dj M_mo_weigh 25 (.goto) 28 29 := ⟨4, by decide +kernel, rfl, by decide⟩
theorem D_mo_weigh_28 : Dc M_mo_weigh 28 (.iconst 4) 1 29 := ⟨by decide +kernel, rfl⟩
theorem D_mo_weigh_29 : DcV M_mo_weigh M_mo_begins 29 32 := ⟨161, by decide +kernel, rfl, ml_mo_161, by decide, by decide⟩
theorem D_mo_weigh_32 : Dc M_mo_weigh 32 (.aload_n 0) 1 33 := ⟨by decide +kernel, rfl⟩
theorem D_mo_weigh_33 : Dg M_mo_weigh 33 36 6 9 R_mo T_mo 21 := ⟨26, by decide +kernel, rfl, rfl, by decide, fl_mo_26, in_mo⟩
theorem D_mo_weigh_36 : Dc M_mo_weigh 36 (.iload_n 1) 1 37 := ⟨by decide +kernel, rfl⟩
theorem D_mo_weigh_37 : Dc M_mo_weigh 37 (.iaload) 1 38 := ⟨by decide +kernel, rfl⟩
theorem D_mo_weigh_38 : Dj M_mo_weigh 38 (.ifCond .le) 41 47 := ⟨9, by decide +kernel, rfl, by decide⟩
theorem D_mo_weigh_41 : Dc M_mo_weigh 41 (.sipush 600) 3 44 := ⟨by decide +kernel, rfl⟩
theorem D_mo_weigh_44 : Dj M_mo_weigh 44 (.goto) 47 48 := ⟨4, by decide +kernel, rfl, by decide⟩
theorem D_mo_weigh_47 : Dc M_mo_weigh 47 (.iload_n 1) 1 48 := ⟨by decide +kernel, rfl⟩
theorem D_mo_weigh_48 : Dc M_mo_weigh 48 (.ireturn) 1 49 := ⟨by decide +kernel, rfl⟩
theorem D_mo_as_0 : Dc M_mo_as 0 (.aload_n 0) 1 1 := ⟨by decide +kernel, rfl⟩
theorem D_mo_as_1 : Dc M_mo_as 1 (.iconst 0) 1 2 := ⟨by decide +kernel, rfl⟩
theorem D_mo_as_2 : Dp M_mo_as 2 5 6 0 R_mo T_mo 21 := ⟨64, by decide +kernel, rfl, rfl, by decide, fl_mo_64, in_mo, rfl⟩
theorem D_mo_as_5 : Dc M_mo_as 5 (.aload_n 0) 1 6 := ⟨by decide +kernel, rfl⟩
theorem D_mo_as_6 : Dc M_mo_as 6 (.iload_n 1) 1 7 := ⟨by decide +kernel, rfl⟩
theorem D_mo_as_7 : DcV M_mo_as M_mo_isState 7 10 := ⟨92, by decide +kernel, rfl, ml_mo_92, by decide, by decide⟩
theorem D_mo_as_10 : Dj M_mo_as 10 (.ifCond .ne) 13 15 := ⟨5, by decide +kernel, rfl, by decide⟩
theorem D_mo_as_13 : Dc M_mo_as 13 (.iconst (-1)) 1 14 := ⟨by decide +kernel, rfl⟩
theorem D_mo_as_14 : Dc M_mo_as 14 (.ireturn) 1 15 := ⟨by decide +kernel, rfl⟩
theorem D_mo_as_15 : Dc M_mo_as 15 (.iload_n 2) 1 16 := ⟨by decide +kernel, rfl⟩
theorem D_mo_as_16 : Dc M_mo_as 16 (.i2l) 1 17 := ⟨by decide +kernel, rfl⟩
theorem D_mo_as_17 : Dc M_mo_as 17 (.lconst 0) 1 18 := ⟨by decide +kernel, rfl⟩
theorem D_mo_as_18 : Dl M_mo_as 18 21 (lN 3) := ⟨164, by decide +kernel, rfl, by decide +kernel⟩
theorem D_mo_as_21 : DcS M_mo_as M_mo_within 21 24 := ⟨88, by decide +kernel, rfl, ml_mo_88, by decide, by decide⟩
theorem D_mo_as_24 : Dj M_mo_as 24 (.ifCond .ne) 27 30 := ⟨6, by decide +kernel, rfl, by decide⟩
theorem D_mo_as_27 : Dc M_mo_as 27 (.bipush (-2)) 2 29 := ⟨by decide +kernel, rfl⟩
theorem D_mo_as_29 : Dc M_mo_as 29 (.ireturn) 1 30 := ⟨by decide +kernel, rfl⟩
theorem D_mo_as_30 : Dc M_mo_as 30 (.aload_n 0) 1 31 := ⟨by decide +kernel, rfl⟩
theorem D_mo_as_31 : DcV M_mo_as M_mo_find 31 34 := ⟨109, by decide +kernel, rfl, ml_mo_109, by decide, by decide⟩
theorem D_mo_as_34 : Dc M_mo_as 34 (.aload_n 0) 1 35 := ⟨by decide +kernel, rfl⟩
theorem D_mo_as_35 : Dg M_mo_as 35 38 6 9 R_mo T_mo 21 := ⟨26, by decide +kernel, rfl, rfl, by decide, fl_mo_26, in_mo⟩
theorem D_mo_as_38 : Dc M_mo_as 38 (.iload_n 1) 1 39 := ⟨by decide +kernel, rfl⟩
theorem D_mo_as_39 : Dc M_mo_as 39 (.iaload) 1 40 := ⟨by decide +kernel, rfl⟩
theorem D_mo_as_40 : Dj M_mo_as 40 (.ifCond .le) 43 47 := ⟨7, by decide +kernel, rfl, by decide⟩
theorem D_mo_as_43 : Dc M_mo_as 43 (.iconst 2) 1 44 := ⟨by decide +kernel, rfl⟩
theorem D_mo_as_44 : Dj M_mo_as 44 (.goto) 47 67 := ⟨23, by decide +kernel, rfl, by decide⟩
theorem D_mo_as_47 : Dc M_mo_as 47 (.aload_n 0) 1 48 := ⟨by decide +kernel, rfl⟩
theorem D_mo_as_48 : Dg M_mo_as 48 51 6 7 R_mo T_mo 21 := ⟨20, by decide +kernel, rfl, rfl, by decide, fl_mo_20, in_mo⟩
theorem D_mo_as_51 : Dc M_mo_as 51 (.aload_n 0) 1 52 := ⟨by decide +kernel, rfl⟩
theorem D_mo_as_52 : Dg M_mo_as 52 55 6 8 R_mo T_mo 21 := ⟨23, by decide +kernel, rfl, rfl, by decide, fl_mo_23, in_mo⟩
theorem D_mo_as_55 : Dc M_mo_as 55 (.iload_n 1) 1 56 := ⟨by decide +kernel, rfl⟩
theorem D_mo_as_56 : Dc M_mo_as 56 (.iaload) 1 57 := ⟨by decide +kernel, rfl⟩
theorem D_mo_as_57 : Dc M_mo_as 57 (.iaload) 1 58 := ⟨by decide +kernel, rfl⟩
theorem D_mo_as_58 : Dc M_mo_as 58 (.iconst 1) 1 59 := ⟨by decide +kernel, rfl⟩
theorem D_mo_as_59 : Dj M_mo_as 59 (.if_icmp .le) 62 66 := ⟨7, by decide +kernel, rfl, by decide⟩
theorem D_mo_as_62 : Dc M_mo_as 62 (.iconst 1) 1 63 := ⟨by decide +kernel, rfl⟩
theorem D_mo_as_63 : Dj M_mo_as 63 (.goto) 66 67 := ⟨4, by decide +kernel, rfl, by decide⟩
theorem D_mo_as_66 : Dc M_mo_as 66 (.iconst 0) 1 67 := ⟨by decide +kernel, rfl⟩
theorem D_mo_as_67 : Dc M_mo_as 67 (.istore_n 3) 1 68 := ⟨by decide +kernel, rfl⟩
theorem D_mo_as_68 : Dc M_mo_as 68 (.iload_n 2) 1 69 := ⟨by decide +kernel, rfl⟩
theorem D_mo_as_69 : Dc M_mo_as 69 (.iload_n 3) 1 70 := ⟨by decide +kernel, rfl⟩
theorem D_mo_as_70 : Dj M_mo_as 70 (.if_icmp .eq) 73 83 := ⟨13, by decide +kernel, rfl, by decide⟩
theorem D_mo_as_73 : Dc M_mo_as 73 (.iload_n 2) 1 74 := ⟨by decide +kernel, rfl⟩
theorem D_mo_as_74 : Dc M_mo_as 74 (.iconst 3) 1 75 := ⟨by decide +kernel, rfl⟩
theorem D_mo_as_75 : Dj M_mo_as 75 (.if_icmp .ne) 78 87 := ⟨12, by decide +kernel, rfl, by decide⟩
theorem D_mo_as_78 : Dc M_mo_as 78 (.iload_n 3) 1 79 := ⟨by decide +kernel, rfl⟩
theorem D_mo_as_79 : Dc M_mo_as 79 (.iconst 2) 1 80 := ⟨by decide +kernel, rfl⟩
theorem D_mo_as_80 : Dj M_mo_as 80 (.if_icmp .ge) 83 87 := ⟨7, by decide +kernel, rfl, by decide⟩
theorem D_mo_as_83 : Dc M_mo_as 83 (.iconst 1) 1 84 := ⟨by decide +kernel, rfl⟩
theorem D_mo_as_84 : Dj M_mo_as 84 (.goto) 87 92 := ⟨8, by decide +kernel, rfl, by decide⟩
theorem D_mo_as_87 : Dc M_mo_as 87 (.aload_n 0) 1 88 := ⟨by decide +kernel, rfl⟩
theorem D_mo_as_88 : Dc M_mo_as 88 (.iconst 2) 1 89 := ⟨by decide +kernel, rfl⟩
theorem D_mo_as_89 : DcV M_mo_as M_mo_fails 89 92 := ⟨102, by decide +kernel, rfl, ml_mo_102, by decide, by decide⟩
theorem D_mo_as_92 : Dc M_mo_as 92 (.ireturn) 1 93 := ⟨by decide +kernel, rfl⟩
theorem D_mo_trace_0 : Dc M_mo_trace 0 (.aload_n 0) 1 1 := ⟨by decide +kernel, rfl⟩
theorem D_mo_trace_1 : Dg M_mo_trace 1 4 6 1 R_mo T_mo 21 := ⟨158, by decide +kernel, rfl, rfl, by decide, fl_mo_158, in_mo⟩
theorem D_mo_trace_4 : Dc M_mo_trace 4 (.ireturn) 1 5 := ⟨by decide +kernel, rfl⟩
theorem D_mo_fault_0 : Dc M_mo_fault 0 (.aload_n 0) 1 1 := ⟨by decide +kernel, rfl⟩
theorem D_mo_fault_1 : Dg M_mo_fault 1 4 6 0 R_mo T_mo 21 := ⟨64, by decide +kernel, rfl, rfl, by decide, fl_mo_64, in_mo⟩
theorem D_mo_fault_4 : Dc M_mo_fault 4 (.ireturn) 1 5 := ⟨by decide +kernel, rfl⟩
end
section
/-! plain facts to paste, each family by itself; over the kit's nI, lN and upd -/
/-! ===== drawers: more things than places ===== -/
theorem fb_holes : ∀ (m n : Nat) (f : Nat → Nat), (∀ i, i < n → f i < m) → (∀ i j, i < j → j < n → f i ≠ f j) → n ≤ m := by
  intro m
  induction m with
  | zero =>
    intro n f h1 _
    rcases Nat.eq_zero_or_pos n with h | h
    · omega
    · exact absurd (h1 0 h) (Nat.not_lt_zero _)
  | succ m ih =>
    intro n f h1 h2
    by_cases hx : ∃ i, i < n ∧ f i = m
    · obtain ⟨a, ha, hfa⟩ := hx
      have hg := ih (n - 1) (fun i => if i < a then f i else f (i + 1)) (by
        intro i hi
        by_cases q : i < a
        · simp only [if_pos q]
          have b1 := h1 i (by omega)
          have b2 := h2 i a q ha
          omega
        · simp only [if_neg q]
          have b1 := h1 (i + 1) (by omega)
          have b2 := h2 a (i + 1) (by omega) (by omega)
          omega) (by
        intro i j hij hj
        by_cases q : i < a
        · by_cases r : j < a
          · simp only [if_pos q, if_pos r]
            exact h2 i j hij (by omega)
          · simp only [if_pos q, if_neg r]
            exact h2 i (j + 1) (by omega) (by omega)
        · have r : ¬ j < a := by omega
          simp only [if_neg q, if_neg r]
          exact h2 (i + 1) (j + 1) (by omega) (by omega))
      omega
    · have hg := ih n f (fun i hi => by
        have b1 := h1 i hi
        have b2 : f i ≠ m := fun e => hx ⟨i, hi, e⟩
        omega) h2
      omega
/-- two of them in one place -/
theorem fb_twice {m n : Nat} {f : Nat → Nat} (h : ∀ i, i < n → f i < m) (hm : m < n) : ∃ i j, i < j ∧ j < n ∧ f i = f j := by
  refine Classical.byContradiction fun hx => ?_
  have := fb_holes m n f h (fun i j hij hj e => hx ⟨i, j, hij, hj, e⟩)
  omega
/-- as many as places, none twice: each place is taken -/
theorem fb_onto {n : Nat} {f : Nat → Nat} (h : ∀ i, i < n → f i < n) (h2 : ∀ i j, i < j → j < n → f i ≠ f j) {y : Nat} (hy : y < n) : ∃ i, i < n ∧ f i = y := by
  refine Classical.byContradiction fun hx => ?_
  have hne : ∀ i, i < n → f i ≠ y := fun i hi e => hx ⟨i, hi, e⟩
  have := fb_holes (n - 1) n (fun i => if f i < y then f i else f i - 1) (by
    intro i hi
    have b1 := h i hi
    have b2 := hne i hi
    by_cases q : f i < y
    · simp only [if_pos q]; omega
    · simp only [if_neg q]; omega) (by
    intro i j hij hj
    have b1 := hne i (by omega)
    have b2 := hne j hj
    have b3 := h2 i j hij hj
    by_cases q : f i < y
    · by_cases r : f j < y
      · simp only [if_pos q, if_pos r]; exact b3
      · simp only [if_pos q, if_neg r]; omega
    · by_cases r : f j < y
      · simp only [if_neg q, if_pos r]; omega
      · simp only [if_neg q, if_neg r]; omega)
  omega
/-! ===== how many places have a property ===== -/
def fb_ct (p : Nat → Bool) : Nat → Nat
  | 0 => 0
  | n + 1 => fb_ct p n + (if p n then 1 else 0)
theorem fb_ct_succ (p : Nat → Bool) (n : Nat) : fb_ct p (n + 1) = fb_ct p n + (if p n then 1 else 0) := rfl
theorem fb_ct_le (p : Nat → Bool) : ∀ n, fb_ct p n ≤ n
  | 0 => Nat.le_refl _
  | n + 1 => by
    have h := fb_ct_le p n
    rw [fb_ct_succ]
    split <;> omega
theorem fb_ct_step (p : Nat → Bool) (m : Nat) : ∀ n, fb_ct p m ≤ fb_ct p (m + n)
  | 0 => Nat.le_refl _
  | n + 1 => by
    have h := fb_ct_step p m n
    show fb_ct p m ≤ fb_ct p (m + n + 1)
    rw [fb_ct_succ]
    omega
theorem fb_ct_mono (p : Nat → Bool) {m n : Nat} (h : m ≤ n) : fb_ct p m ≤ fb_ct p n := by
  have := fb_ct_step p m (n - m)
  rwa [Nat.add_sub_cancel' h] at this
theorem fb_ct_cong {p q : Nat → Bool} : ∀ {n : Nat}, (∀ k, k < n → p k = q k) → fb_ct p n = fb_ct q n
  | 0, _ => rfl
  | n + 1, h => by
    rw [fb_ct_succ, fb_ct_succ, fb_ct_cong (fun k hk => h k (by omega)), h n (by omega)]
/-- one place changed -/
theorem fb_ct_out (p : Nat → Bool) (b : Bool) {i n : Nat} (h : n ≤ i) : fb_ct (fun k => if k = i then b else p k) n = fb_ct p n :=
  fb_ct_cong fun k hk => if_neg (by omega)
theorem fb_ct_upd (p : Nat → Bool) (b : Bool) {i : Nat} : ∀ {n : Nat}, i < n → fb_ct (fun k => if k = i then b else p k) n + (if p i then 1 else 0) = fb_ct p n + (if b then 1 else 0)
  | 0, h => absurd h (Nat.not_lt_zero i)
  | n + 1, h => by
    rw [fb_ct_succ, fb_ct_succ]
    rcases Nat.lt_or_ge i n with q | q
    · have := fb_ct_upd p b q
      have e : (if n = i then b else p n) = p n := if_neg (by omega)
      rw [e]
      omega
    · have e : i = n := by omega
      subst e
      rw [fb_ct_out p b (Nat.le_refl _)]
      simp only [if_true]
      omega
theorem fb_ct_sub {p q : Nat → Bool} : ∀ {n : Nat}, (∀ k, k < n → p k = true → q k = true) → fb_ct p n ≤ fb_ct q n
  | 0, _ => Nat.le_refl _
  | n + 1, h => by
    have h1 := fb_ct_sub (n := n) (p := p) (q := q) (fun k hk => h k (by omega))
    have h2 := h n (by omega)
    rw [fb_ct_succ, fb_ct_succ]
    cases hp : p n <;> cases hq : q n <;> simp_all <;> omega
theorem fb_ct_or {p q : Nat → Bool} : ∀ {n : Nat}, (∀ k, k < n → ¬ (p k = true ∧ q k = true)) → fb_ct (fun k => p k || q k) n = fb_ct p n + fb_ct q n
  | 0, _ => rfl
  | n + 1, h => by
    have h1 := fb_ct_or (n := n) (p := p) (q := q) (fun k hk => h k (by omega))
    have h2 := h n (by omega)
    rw [fb_ct_succ, fb_ct_succ, fb_ct_succ, h1]
    cases hp : p n <;> cases hq : q n <;> simp_all <;> omega
theorem fb_ct_not (p : Nat → Bool) : ∀ n, fb_ct p n + fb_ct (fun k => !p k) n = n
  | 0 => rfl
  | n + 1 => by
    have h := fb_ct_not p n
    rw [fb_ct_succ, fb_ct_succ]
    cases p n <;> simp <;> omega
theorem fb_ct_split (p : Nat → Bool) (m : Nat) : ∀ n, fb_ct p (m + n) = fb_ct p m + fb_ct (fun k => p (m + k)) n
  | 0 => rfl
  | n + 1 => by
    have h := fb_ct_split p m n
    show fb_ct p (m + n + 1) = _
    rw [fb_ct_succ, fb_ct_succ, h, Nat.add_assoc]
theorem fb_ct_zero {p : Nat → Bool} : ∀ {n : Nat}, fb_ct p n = 0 ↔ ∀ k, k < n → p k = false
  | 0 => ⟨fun _ k hk => absurd hk (Nat.not_lt_zero k), fun _ => rfl⟩
  | n + 1 => by
    have h := fb_ct_zero (p := p) (n := n)
    rw [fb_ct_succ]
    constructor
    · intro e k hk
      have e1 : fb_ct p n = 0 := by omega
      rcases Nat.lt_or_ge k n with q | q
      · exact h.mp e1 k q
      · have ek : k = n := by omega
        subst ek
        cases hp : p k
        · rfl
        · simp [hp] at e
    · intro a
      rw [h.mpr (fun k hk => a k (by omega)), a n (by omega)]
      rfl
theorem fb_ct_pos {p : Nat → Bool} {n : Nat} : 0 < fb_ct p n ↔ ∃ k, k < n ∧ p k = true := by
  constructor
  · intro h
    refine Classical.byContradiction fun hx => ?_
    have := fb_ct_zero.mpr (fun k hk => by
      cases hp : p k
      · rfl
      · exact absurd ⟨k, hk, hp⟩ hx : ∀ k, k < n → p k = false)
    omega
  · rintro ⟨k, hk, hp⟩
    rcases Nat.eq_zero_or_pos (fb_ct p n) with e | e
    · have := fb_ct_zero.mp e k hk
      rw [this] at hp
      cases hp
    · exact e
theorem fb_ct_all {p : Nat → Bool} {n : Nat} : fb_ct p n = n ↔ ∀ k, k < n → p k = true := by
  have h := fb_ct_not p n
  constructor
  · intro e k hk
    have z : fb_ct (fun k => !p k) n = 0 := by omega
    have := fb_ct_zero.mp z k hk
    cases hp : p k
    · simp [hp] at this
    · rfl
  · intro a
    have z : fb_ct (fun k => !p k) n = 0 := fb_ct_zero.mpr (fun k hk => by simp [a k hk])
    omega
/-- the k-th place with the property -/
theorem fb_ct_kth {p : Nat → Bool} {k : Nat} : ∀ {n : Nat}, k < fb_ct p n → ∃ i, i < n ∧ p i = true ∧ fb_ct p i = k
  | 0, h => absurd h (Nat.not_lt_zero k)
  | n + 1, h => by
    rcases Nat.lt_or_ge k (fb_ct p n) with q | q
    · obtain ⟨i, h1, h2⟩ := fb_ct_kth q
      exact ⟨i, by omega, h2⟩
    · rw [fb_ct_succ] at h
      cases hp : p n
      · simp [hp] at h; omega
      · simp [hp] at h
        exact ⟨n, by omega, hp, by omega⟩
theorem fb_ct_kth_one {p : Nat → Bool} {i j : Nat} (hi : p i = true) (hj : p j = true) (e : fb_ct p i = fb_ct p j) : i = j := by
  have key : ∀ a b : Nat, a < b → p a = true → fb_ct p a < fb_ct p b := by
    intro a b hab ha
    have h := fb_ct_mono p (show a + 1 ≤ b from hab)
    rw [fb_ct_succ, ha] at h
    simp at h
    omega
  rcases Nat.lt_trichotomy i j with q | q | q
  · have := key i j q hi; omega
  · exact q
  · have := key j i q hj; omega
/-! ===== sums over a range: one place changed, parts, bounds ===== -/
def fb_sm (f : Nat → Nat) : Nat → Nat
  | 0 => 0
  | n + 1 => fb_sm f n + f n
theorem fb_sm_succ (f : Nat → Nat) (n : Nat) : fb_sm f (n + 1) = fb_sm f n + f n := rfl
theorem fb_sm_cong {f g : Nat → Nat} : ∀ {n : Nat}, (∀ k, k < n → f k = g k) → fb_sm f n = fb_sm g n
  | 0, _ => rfl
  | n + 1, h => by rw [fb_sm_succ, fb_sm_succ, fb_sm_cong (fun k hk => h k (by omega)), h n (by omega)]
theorem fb_sm_out (f : Nat → Nat) (v : Nat) {i n : Nat} (h : n ≤ i) : fb_sm (fun k => if k = i then v else f k) n = fb_sm f n :=
  fb_sm_cong fun k hk => if_neg (by omega)
theorem fb_sm_upd (f : Nat → Nat) (v : Nat) {i : Nat} : ∀ {n : Nat}, i < n → fb_sm (fun k => if k = i then v else f k) n + f i = fb_sm f n + v
  | 0, h => absurd h (Nat.not_lt_zero i)
  | n + 1, h => by
    rw [fb_sm_succ, fb_sm_succ]
    rcases Nat.lt_or_ge i n with q | q
    · have := fb_sm_upd f v q
      have e : (if n = i then v else f n) = f n := if_neg (by omega)
      rw [e]
      omega
    · have e : i = n := by omega
      subst e
      rw [fb_sm_out f v (Nat.le_refl _)]
      simp only [if_true]
      omega
theorem fb_sm_add (f g : Nat → Nat) : ∀ n, fb_sm (fun k => f k + g k) n = fb_sm f n + fb_sm g n
  | 0 => rfl
  | n + 1 => by
    have h := fb_sm_add f g n
    rw [fb_sm_succ, fb_sm_succ, fb_sm_succ, h]
    omega
theorem fb_sm_le {f g : Nat → Nat} : ∀ {n : Nat}, (∀ k, k < n → f k ≤ g k) → fb_sm f n ≤ fb_sm g n
  | 0, _ => Nat.le_refl _
  | n + 1, h => by
    have h1 := fb_sm_le (n := n) (f := f) (g := g) (fun k hk => h k (by omega))
    have h2 := h n (by omega)
    rw [fb_sm_succ, fb_sm_succ]
    omega
theorem fb_sm_const (c : Nat) : ∀ n, fb_sm (fun _ => c) n = n * c
  | 0 => by rw [Nat.zero_mul]; rfl
  | n + 1 => by rw [fb_sm_succ, fb_sm_const c n, Nat.succ_mul]
theorem fb_sm_bound {f : Nat → Nat} {c n : Nat} (h : ∀ k, k < n → f k ≤ c) : fb_sm f n ≤ n * c := by
  rw [← fb_sm_const c n]
  exact fb_sm_le h
theorem fb_sm_mono (f : Nat → Nat) (m : Nat) : ∀ n, fb_sm f m ≤ fb_sm f (m + n)
  | 0 => Nat.le_refl _
  | n + 1 => by
    have h := fb_sm_mono f m n
    show fb_sm f m ≤ fb_sm f (m + n + 1)
    rw [fb_sm_succ]
    omega
theorem fb_sm_part (f : Nat → Nat) {i n : Nat} (h : i < n) : fb_sm f i + f i ≤ fb_sm f n := by
  have := fb_sm_mono f (i + 1) (n - (i + 1))
  rw [fb_sm_succ, show i + 1 + (n - (i + 1)) = n by omega] at this
  exact this
theorem fb_sm_split (f : Nat → Nat) (m : Nat) : ∀ n, fb_sm f (m + n) = fb_sm f m + fb_sm (fun k => f (m + k)) n
  | 0 => rfl
  | n + 1 => by
    have h := fb_sm_split f m n
    show fb_sm f (m + n + 1) = _
    rw [fb_sm_succ, fb_sm_succ, h, Nat.add_assoc]
theorem fb_sm_zero {f : Nat → Nat} {n : Nat} (h : fb_sm f n = 0) : ∀ k, k < n → f k = 0 := fun k hk => by
  have := fb_sm_part f hk
  omega
/-- the same over whole numbers -/
def fb_si (f : Nat → Int) : Nat → Int
  | 0 => 0
  | n + 1 => fb_si f n + f n
theorem fb_si_succ (f : Nat → Int) (n : Nat) : fb_si f (n + 1) = fb_si f n + f n := rfl
theorem fb_si_cong {f g : Nat → Int} : ∀ {n : Nat}, (∀ k, k < n → f k = g k) → fb_si f n = fb_si g n
  | 0, _ => rfl
  | n + 1, h => by rw [fb_si_succ, fb_si_succ, fb_si_cong (fun k hk => h k (by omega)), h n (by omega)]
theorem fb_si_out (f : Nat → Int) (v : Int) {i n : Nat} (h : n ≤ i) : fb_si (fun k => if k = i then v else f k) n = fb_si f n :=
  fb_si_cong fun k hk => if_neg (by omega)
theorem fb_si_upd (f : Nat → Int) (v : Int) {i : Nat} : ∀ {n : Nat}, i < n → fb_si (fun k => if k = i then v else f k) n = fb_si f n - f i + v
  | 0, h => absurd h (Nat.not_lt_zero i)
  | n + 1, h => by
    rw [fb_si_succ, fb_si_succ]
    rcases Nat.lt_or_ge i n with q | q
    · have := fb_si_upd f v q
      have e : (if n = i then v else f n) = f n := if_neg (by omega)
      rw [e]
      omega
    · have e : i = n := by omega
      subst e
      rw [fb_si_out f v (Nat.le_refl _)]
      simp only [if_true]
      omega
theorem fb_si_add (f g : Nat → Int) : ∀ n, fb_si (fun k => f k + g k) n = fb_si f n + fb_si g n
  | 0 => rfl
  | n + 1 => by
    have h := fb_si_add f g n
    rw [fb_si_succ, fb_si_succ, fb_si_succ, h]
    omega
theorem fb_si_sub (f g : Nat → Int) : ∀ n, fb_si (fun k => f k - g k) n = fb_si f n - fb_si g n
  | 0 => rfl
  | n + 1 => by
    have h := fb_si_sub f g n
    rw [fb_si_succ, fb_si_succ, fb_si_succ, h]
    omega
theorem fb_si_mul (c : Int) (f : Nat → Int) : ∀ n, fb_si (fun k => c * f k) n = c * fb_si f n
  | 0 => (Int.mul_zero c).symm
  | n + 1 => by
    have h := fb_si_mul c f n
    rw [fb_si_succ, fb_si_succ, h, Int.mul_add]
theorem fb_si_split (f : Nat → Int) (m : Nat) : ∀ n, fb_si f (m + n) = fb_si f m + fb_si (fun k => f (m + k)) n
  | 0 => (Int.add_zero _).symm
  | n + 1 => by
    have h := fb_si_split f m n
    show fb_si f (m + n + 1) = _
    rw [fb_si_succ, fb_si_succ, h, Int.add_assoc]
theorem fb_si_nat (f : Nat → Nat) : ∀ n, fb_si (fun k => (f k : Int)) n = (fb_sm f n : Int)
  | 0 => rfl
  | n + 1 => by
    have h := fb_si_nat f n
    rw [fb_si_succ, fb_sm_succ, h]
    omega
theorem fb_si_bound {f : Nat → Int} {c : Int} (hc : 0 ≤ c) : ∀ {n : Nat}, (∀ k, k < n → -c ≤ f k ∧ f k ≤ c) → -(n * c) ≤ fb_si f n ∧ fb_si f n ≤ n * c
  | 0, _ => by simp [fb_si]
  | n + 1, h => by
    have h1 := fb_si_bound (n := n) (f := f) hc (fun k hk => h k (by omega))
    have h2 := h n (by omega)
    have e : ((n + 1 : Nat) : Int) * c = n * c + c := by rw [Int.natCast_add, Int.add_mul]; simp
    rw [fb_si_succ, e]
    omega
/-! ===== bits of a long that isn't negative ===== -/
theorem fb_andL (a b : Nat) : lN a &&& lN b = lN (a &&& b) := by
  apply Int64.toBitVec_inj.1
  show BitVec.ofNat 64 a &&& BitVec.ofNat 64 b = BitVec.ofNat 64 (a &&& b)
  apply BitVec.eq_of_getLsbD_eq
  intro i hi
  simp [hi]
theorem fb_orL (a b : Nat) : lN a ||| lN b = lN (a ||| b) := by
  apply Int64.toBitVec_inj.1
  show BitVec.ofNat 64 a ||| BitVec.ofNat 64 b = BitVec.ofNat 64 (a ||| b)
  apply BitVec.eq_of_getLsbD_eq
  intro i hi
  simp [hi]
theorem fb_xorL (a b : Nat) : lN a ^^^ lN b = lN (a ^^^ b) := by
  apply Int64.toBitVec_inj.1
  show BitVec.ofNat 64 a ^^^ BitVec.ofNat 64 b = BitVec.ofNat 64 (a ^^^ b)
  apply BitVec.eq_of_getLsbD_eq
  intro i hi
  simp [hi]
theorem fb_xorI (a b : Nat) : nI a ^^^ nI b = nI (a ^^^ b) := by
  apply Int32.toBitVec_inj.1
  show BitVec.ofNat 32 a ^^^ BitVec.ofNat 32 b = BitVec.ofNat 32 (a ^^^ b)
  apply BitVec.eq_of_getLsbD_eq
  intro i hi
  simp [hi]
theorem fb_maskL (n k : Nat) : lN n &&& lN (2 ^ k - 1) = lN (n % 2 ^ k) := by rw [fb_andL, Nat.and_two_pow_sub_one_eq_mod]
theorem fb_or_sumL {a k : Nat} (b : Nat) (h : a < 2 ^ k) : lN (2 ^ k * b) ||| lN a = lN (2 ^ k * b + a) := by rw [fb_orL, Nat.two_pow_add_eq_or_of_lt h]
theorem fb_lN_inj {a b : Nat} (ha : a < 2 ^ 63) (hb : b < 2 ^ 63) : lN a = lN b ↔ a = b := by
  constructor
  · intro h
    have h1 : (BitVec.ofNat 64 a).toNat = (BitVec.ofNat 64 b).toNat := congrArg (fun x : Int64 => x.toBitVec.toNat) h
    rw [BitVec.toNat_ofNat, BitVec.toNat_ofNat, Nat.mod_eq_of_lt (by omega), Nat.mod_eq_of_lt (by omega)] at h1
    exact h1
  · rintro rfl; rfl
theorem fb_bit_nat (n j : Nat) : n &&& 2 ^ j = 0 ↔ n.testBit j = false := by
  constructor
  · intro h
    have h1 : (n &&& 2 ^ j).testBit j = false := by rw [h]; simp
    rw [Nat.testBit_and] at h1
    simpa using h1
  · intro h
    apply Nat.eq_of_testBit_eq
    intro i
    rw [Nat.testBit_and]
    by_cases hi : j = i
    · subst hi; simp [h]
    · first | (simp [Nat.testBit_two_pow, hi]; done) | (simp [Nat.testBit_two_pow_of_ne hi]; done)
/-- one bit of a long -/
theorem fb_bitL {n j : Nat} (hj : j < 63) : lN n &&& lN (2 ^ j) = 0 ↔ n.testBit j = false := by
  have h2 : (2 : Nat) ^ j < 2 ^ 63 := Nat.pow_lt_pow_right (by decide) hj
  have hle : n &&& 2 ^ j ≤ 2 ^ j := Nat.and_le_right
  rw [fb_andL, ← fb_bit_nat, show (0 : Int64) = lN 0 from rfl]
  exact fb_lN_inj (by omega) (by decide)
/-- a bit set, a bit taken off -/
theorem fb_bit_set (n j i : Nat) : (n ||| 2 ^ j).testBit i = (n.testBit i || decide (i = j)) := by
  rw [Nat.testBit_or]
  by_cases h : j = i
  · subst h; simp
  · have h2 : ¬ i = j := fun e => h e.symm
    first | (simp [Nat.testBit_two_pow, h, h2]; done) | (simp [Nat.testBit_two_pow_of_ne h, h2]; done)
theorem fb_bit_flip (n j i : Nat) : (n ^^^ 2 ^ j).testBit i = (n.testBit i ^^ decide (i = j)) := by
  rw [Nat.testBit_xor]
  by_cases h : j = i
  · subst h; simp
  · have h2 : ¬ i = j := fun e => h e.symm
    first | (simp [Nat.testBit_two_pow, h, h2]; done) | (simp [Nat.testBit_two_pow_of_ne h, h2]; done)
/-! ===== a stretch of an array written over by a function ===== -/
def fb_put {α : Type} (f g : Nat → α) (a n : Nat) : Nat → α := fun k => if a ≤ k ∧ k < a + n then g (k - a) else f k
theorem fb_put_0 {α : Type} (f g : Nat → α) (a : Nat) : fb_put f g a 0 = f := funext fun k => if_neg (by omega)
theorem fb_put_in {α : Type} {f g : Nat → α} {a n k : Nat} (h1 : a ≤ k) (h2 : k < a + n) : fb_put f g a n k = g (k - a) := if_pos ⟨h1, h2⟩
theorem fb_put_out {α : Type} {f g : Nat → α} {a n k : Nat} (h : k < a ∨ a + n ≤ k) : fb_put f g a n k = f k := if_neg (by omega)
theorem fb_put_succ (f g : Nat → Int32) (a n : Nat) : upd (fb_put f g a n) (a + n) (g n) = fb_put f g a (n + 1) := by
  funext k
  by_cases h : k = a + n
  · subst h
    simp [upd, fb_put]
  · by_cases h1 : a ≤ k ∧ k < a + n
    · have h2 : a ≤ k ∧ k < a + (n + 1) := by omega
      simp only [upd, fb_put, if_neg h, if_pos h1, if_pos h2]
    · have h2 : ¬ (a ≤ k ∧ k < a + (n + 1)) := by omega
      simp only [upd, fb_put, if_neg h, if_neg h1, if_neg h2]
/-- .. from the far end down -/
theorem fb_put_down (f g : Nat → Int32) {a n m : Nat} (h : m < n) : upd (fb_put f (fun k => g (k + (m + 1))) (a + (m + 1)) (n - (m + 1))) (a + m) (g m) = fb_put f (fun k => g (k + m)) (a + m) (n - m) := by
  funext k
  by_cases h0 : k = a + m
  · subst h0
    simp only [upd, if_true]
    rw [fb_put_in (by omega) (by omega)]
    exact congrArg g (by omega)
  · simp only [upd, if_neg h0]
    by_cases h1 : a + (m + 1) ≤ k ∧ k < a + (m + 1) + (n - (m + 1))
    · rw [fb_put_in h1.1 h1.2, fb_put_in (by omega) (by omega)]
      exact congrArg g (by omega)
    · rw [fb_put_out (by omega), fb_put_out (by omega)]
theorem fb_put_cong {α : Type} {f f2 g g2 : Nat → α} {a n : Nat} (hf : ∀ k, (k < a ∨ a + n ≤ k) → f k = f2 k) (hg : ∀ k, k < n → g k = g2 k) : fb_put f g a n = fb_put f2 g2 a n := by
  funext k
  by_cases h : a ≤ k ∧ k < a + n
  · rw [fb_put_in h.1 h.2, fb_put_in h.1 h.2, hg _ (by omega)]
  · rw [fb_put_out (by omega), fb_put_out (by omega), hf _ (by omega)]
/-! ===== the least, the first, the best so far; that there is one alone ===== -/
theorem fb_first {p : Nat → Prop} [DecidablePred p] : ∀ {n : Nat}, (∃ i, i < n ∧ p i) → ∃ i, i < n ∧ p i ∧ ∀ j, j < i → ¬ p j
  | 0, h => by obtain ⟨i, hi, -⟩ := h; exact absurd hi (Nat.not_lt_zero i)
  | n + 1, h => by
    by_cases q : ∃ i, i < n ∧ p i
    · obtain ⟨i, h1, h2⟩ := fb_first q
      exact ⟨i, by omega, h2⟩
    · obtain ⟨i, h1, h2⟩ := h
      have e : i = n := by
        rcases Nat.lt_or_ge i n with r | r
        · exact absurd ⟨i, r, h2⟩ q
        · omega
      subst e
      exact ⟨i, by omega, h2, fun j hj hp => q ⟨j, hj, hp⟩⟩
theorem fb_first_one {p : Nat → Prop} {i j : Nat} (hi : p i) (hi2 : ∀ k, k < i → ¬ p k) (hj : p j) (hj2 : ∀ k, k < j → ¬ p k) : i = j := by
  rcases Nat.lt_trichotomy i j with q | q | q
  · exact absurd hi (hj2 i q)
  · exact q
  · exact absurd hj (hi2 j q)
theorem fb_last {p : Nat → Prop} [DecidablePred p] : ∀ {n : Nat}, (∃ i, i < n ∧ p i) → ∃ i, i < n ∧ p i ∧ ∀ j, i < j → j < n → ¬ p j
  | 0, h => by obtain ⟨i, hi, -⟩ := h; exact absurd hi (Nat.not_lt_zero i)
  | n + 1, h => by
    by_cases q : p n
    · exact ⟨n, by omega, q, fun j h1 h2 => by omega⟩
    · obtain ⟨i, h1, h2⟩ := h
      have hi : i < n := by
        rcases Nat.lt_or_ge i n with r | r
        · exact r
        · have e : i = n := by omega
          subst e
          exact absurd h2 q
      obtain ⟨i2, a1, a2, a3⟩ := fb_last (n := n) ⟨i, hi, h2⟩
      refine ⟨i2, by omega, a2, fun j b1 b2 => ?_⟩
      rcases Nat.lt_or_ge j n with r | r
      · exact a3 j b1 r
      · have e : j = n := by omega
        subst e
        exact q
/-- the first greatest -/
theorem fb_best (f : Nat → Int) : ∀ {n : Nat}, 0 < n → ∃ i, i < n ∧ (∀ j, j < n → f j ≤ f i) ∧ ∀ j, j < i → f j < f i
  | 0, h => absurd h (Nat.lt_irrefl 0)
  | 1, _ => ⟨0, by omega, fun j hj => by have e : j = 0 := by omega
                                         subst e; exact Int.le_refl _, fun j hj => absurd hj (Nat.not_lt_zero j)⟩
  | n + 2, _ => by
    obtain ⟨i, h1, h2, h3⟩ := fb_best f (n := n + 1) (by omega)
    by_cases q : f i < f (n + 1)
    · refine ⟨n + 1, by omega, fun j hj => ?_, fun j hj => ?_⟩
      · rcases Nat.lt_or_ge j (n + 1) with r | r
        · have := h2 j r; omega
        · have e : j = n + 1 := by omega
          subst e; exact Int.le_refl _
      · have := h2 j hj; omega
    · refine ⟨i, by omega, fun j hj => ?_, h3⟩
      rcases Nat.lt_or_ge j (n + 1) with r | r
      · exact h2 j r
      · have e : j = n + 1 := by omega
        subst e; omega
theorem fb_best_one {f : Nat → Int} {n i j : Nat} (hi : i < n) (hi2 : ∀ k, k < n → f k ≤ f i) (hi3 : ∀ k, k < i → f k < f i) (hj : j < n) (hj2 : ∀ k, k < n → f k ≤ f j) (hj3 : ∀ k, k < j → f k < f j) : i = j := by
  rcases Nat.lt_trichotomy i j with q | q | q
  · have a := hj3 i q
    have b := hi2 j hj
    omega
  · exact q
  · have a := hi3 j q
    have b := hj2 i hi
    omega
/-- the first least -/
theorem fb_low (f : Nat → Int) {n : Nat} (h : 0 < n) : ∃ i, i < n ∧ (∀ j, j < n → f i ≤ f j) ∧ ∀ j, j < i → f i < f j := by
  obtain ⟨i, h1, h2, h3⟩ := fb_best (fun k => -f k) h
  exact ⟨i, h1, fun j hj => by have := h2 j hj; omega, fun j hj => by have := h3 j hj; omega⟩
/-! ===== signed ints as whole numbers, within bounds ===== -/
theorem fb_rng (x : Int32) : -2147483648 ≤ x.toInt ∧ x.toInt < 2147483648 := by
  have h1 := Int32.le_toInt x
  have h2 := Int32.toInt_lt x
  omega
theorem fb_bmod {z : Int} (h1 : -2147483648 ≤ z) (h2 : z < 2147483648) : z.bmod (2 ^ 32) = z := by
  rw [Int.bmod_eq_of_le (by omega) (by omega)]
theorem fb_addI {x y : Int32} (h1 : -2147483648 ≤ x.toInt + y.toInt) (h2 : x.toInt + y.toInt < 2147483648) : (x + y).toInt = x.toInt + y.toInt := by
  rw [Int32.toInt_add, fb_bmod h1 h2]
theorem fb_subI {x y : Int32} (h1 : -2147483648 ≤ x.toInt - y.toInt) (h2 : x.toInt - y.toInt < 2147483648) : (x - y).toInt = x.toInt - y.toInt := by
  rw [Int32.toInt_sub, fb_bmod h1 h2]
theorem fb_mulI {x y : Int32} (h1 : -2147483648 ≤ x.toInt * y.toInt) (h2 : x.toInt * y.toInt < 2147483648) : (x * y).toInt = x.toInt * y.toInt := by
  rw [Int32.toInt_mul, fb_bmod h1 h2]
theorem fb_negI {x : Int32} (h : x.toInt ≠ -2147483648) : (-x).toInt = -x.toInt := by
  have := fb_rng x
  rw [Int32.toInt_neg, fb_bmod (by omega) (by omega)]
theorem fb_ofI {z : Int} (h1 : -2147483648 ≤ z) (h2 : z < 2147483648) : (Int32.ofInt z).toInt = z := by
  rw [Int32.toInt_ofInt, fb_bmod h1 h2]
theorem fb_asI (x : Int32) : Int32.ofInt x.toInt = x := Int32.ofInt_toInt x
theorem fb_rngL (x : Int64) : -9223372036854775808 ≤ x.toInt ∧ x.toInt < 9223372036854775808 := by
  have h1 := Int64.le_toInt x
  have h2 := Int64.toInt_lt x
  omega
theorem fb_bmodL {z : Int} (h1 : -9223372036854775808 ≤ z) (h2 : z < 9223372036854775808) : z.bmod (2 ^ 64) = z := by
  rw [Int.bmod_eq_of_le (by omega) (by omega)]
theorem fb_addL {x y : Int64} (h1 : -9223372036854775808 ≤ x.toInt + y.toInt) (h2 : x.toInt + y.toInt < 9223372036854775808) : (x + y).toInt = x.toInt + y.toInt := by
  rw [Int64.toInt_add, fb_bmodL h1 h2]
theorem fb_subL {x y : Int64} (h1 : -9223372036854775808 ≤ x.toInt - y.toInt) (h2 : x.toInt - y.toInt < 9223372036854775808) : (x - y).toInt = x.toInt - y.toInt := by
  rw [Int64.toInt_sub, fb_bmodL h1 h2]
theorem fb_mulL {x y : Int64} (h1 : -9223372036854775808 ≤ x.toInt * y.toInt) (h2 : x.toInt * y.toInt < 9223372036854775808) : (x * y).toInt = x.toInt * y.toInt := by
  rw [Int64.toInt_mul, fb_bmodL h1 h2]
/-! ===== cuts of what is narrow already ===== -/
theorem fb_byte {x : Int32} (h1 : -128 ≤ x.toInt) (h2 : x.toInt < 128) : x.toInt8.toInt32 = x := by
  apply Int32.toInt_inj.1
  rw [Int8.toInt_toInt32, Int32.toInt_toInt8, Int.bmod_eq_of_le (by omega) (by omega)]
theorem fb_short {x : Int32} (h1 : -32768 ≤ x.toInt) (h2 : x.toInt < 32768) : x.toInt16.toInt32 = x := by
  apply Int32.toInt_inj.1
  rw [Int16.toInt_toInt32, Int32.toInt_toInt16, Int.bmod_eq_of_le (by omega) (by omega)]
theorem fb_byte_rng (x : Int32) : -128 ≤ x.toInt8.toInt32.toInt ∧ x.toInt8.toInt32.toInt < 128 := by
  rw [Int8.toInt_toInt32]
  have h1 := Int8.le_toInt x.toInt8
  have h2 := Int8.toInt_lt x.toInt8
  omega
theorem fb_short_rng (x : Int32) : -32768 ≤ x.toInt16.toInt32.toInt ∧ x.toInt16.toInt32.toInt < 32768 := by
  rw [Int16.toInt_toInt32]
  have h1 := Int16.le_toInt x.toInt16
  have h2 := Int16.toInt_lt x.toInt16
  omega
theorem fb_byte_twice (x : Int32) : x.toInt8.toInt32.toInt8.toInt32 = x.toInt8.toInt32 := fb_byte (fb_byte_rng x).1 (fb_byte_rng x).2
theorem fb_short_twice (x : Int32) : x.toInt16.toInt32.toInt16.toInt32 = x.toInt16.toInt32 := fb_short (fb_short_rng x).1 (fb_short_rng x).2
theorem fb_char {n : Nat} (h : n < 65536) : (nI n).toUInt32.toUInt16.toUInt32.toInt32 = nI n := by
  apply Int32.toBitVec_inj.1
  apply BitVec.eq_of_toNat_eq
  have e1 : (nI n).toBitVec.toNat = n := by
    show (BitVec.ofNat 32 n).toNat = n
    rw [BitVec.toNat_ofNat, Nat.mod_eq_of_lt (by omega)]
  have e2 : ((nI n).toUInt32.toUInt16.toUInt32).toNat = n := by
    rw [UInt16.toNat_toUInt32, UInt32.toNat_toUInt16]
    show (nI n).toBitVec.toNat % 2 ^ 16 = n
    rw [e1, Nat.mod_eq_of_lt (by omega)]
  rw [e1]
  exact e2
end
section
/-! plain facts on numbers and arrays, to paste: each family by itself; over the kit's rows on nI and upd -/
/-! ===== order of ints, in all its forms, and through longs ===== -/
theorem fa_lt (a b : Int32) : a < b ↔ a.toInt < b.toInt := Int32.lt_iff_toInt_lt
theorem fa_le (a b : Int32) : a ≤ b ↔ a.toInt ≤ b.toInt := Int32.le_iff_toInt_le
theorem fa_eq (a b : Int32) : a = b ↔ a.toInt = b.toInt := Int32.toInt_inj.symm
theorem fa_lt64 (a b : Int64) : a < b ↔ a.toInt < b.toInt := Int64.lt_iff_toInt_lt
theorem fa_le64 (a b : Int64) : a ≤ b ↔ a.toInt ≤ b.toInt := Int64.le_iff_toInt_le
theorem fa_eq64 (a b : Int64) : a = b ↔ a.toInt = b.toInt := Int64.toInt_inj.symm
/-- a comparison of two ints taken as longs -/
theorem fa_wide_lt (a b : Int32) : a.toInt64 < b.toInt64 ↔ a < b := by rw [fa_lt64, fa_lt, Int32.toInt_toInt64, Int32.toInt_toInt64]
theorem fa_wide_le (a b : Int32) : a.toInt64 ≤ b.toInt64 ↔ a ≤ b := by rw [fa_le64, fa_le, Int32.toInt_toInt64, Int32.toInt_toInt64]
theorem fa_wide_eq (a b : Int32) : a.toInt64 = b.toInt64 ↔ a = b := by rw [fa_eq64, fa_eq, Int32.toInt_toInt64, Int32.toInt_toInt64]
/-- one strict comparison gives all the others -/
theorem fa_of_lt {a b : Int32} (h : a < b) : a ≤ b ∧ ¬ b ≤ a ∧ ¬ b < a ∧ a ≠ b ∧ b ≠ a := by
  rw [fa_lt] at h
  refine ⟨?_, ?_, ?_, ?_, ?_⟩
  · rw [fa_le]; omega
  · rw [fa_le]; omega
  · rw [fa_lt]; omega
  · intro e; rw [fa_eq] at e; omega
  · intro e; rw [fa_eq] at e; omega
theorem fa_of_nlt {a b : Int32} (h : ¬ a < b) : b ≤ a := by
  rw [fa_lt] at h
  rw [fa_le]
  omega
theorem fa_of_nle {a b : Int32} (h : ¬ a ≤ b) : b < a := by
  rw [fa_le] at h
  rw [fa_lt]
  omega
theorem fa_le_ne {a b : Int32} (h : a ≤ b) (h2 : a ≠ b) : a < b := by
  rw [fa_le] at h
  rw [fa_lt]
  have h3 : a.toInt ≠ b.toInt := fun e => h2 ((fa_eq a b).mpr e)
  omega
theorem fa_three (a b : Int32) : a < b ∨ a = b ∨ b < a := by
  rw [fa_lt, fa_lt, fa_eq]
  omega
theorem fa_trans {a b c : Int32} (h : a < b) (h2 : b ≤ c) : a < c := by
  rw [fa_lt] at *
  rw [fa_le] at h2
  omega
/-! ===== small literals as numbers ===== -/
theorem fa_lit (n : Nat) : (OfNat.ofNat n : Int32) = nI n := rfl
theorem fa_litL (n : Nat) : (OfNat.ofNat n : Int64) = lN n := rfl
/-! ===== bits of a number: 'or', masks, one bit ===== -/
theorem fa_and (a b : Nat) : nI a &&& nI b = nI (a &&& b) := by
  apply Int32.toBitVec_inj.1
  show BitVec.ofNat 32 a &&& BitVec.ofNat 32 b = BitVec.ofNat 32 (a &&& b)
  apply BitVec.eq_of_getLsbD_eq
  intro i hi
  simp [hi]
theorem fa_or (a b : Nat) : nI a ||| nI b = nI (a ||| b) := by
  apply Int32.toBitVec_inj.1
  show BitVec.ofNat 32 a ||| BitVec.ofNat 32 b = BitVec.ofNat 32 (a ||| b)
  apply BitVec.eq_of_getLsbD_eq
  intro i hi
  simp [hi]
/-- a remainder by a power of two, as a mask -/
theorem fa_mask (n k : Nat) : nI n &&& nI (2 ^ k - 1) = nI (n % 2 ^ k) := by rw [fa_and, Nat.and_two_pow_sub_one_eq_mod]
/-- 'or' of a high part and a low one that don't meet is their sum -/
theorem fa_or_sum {a k : Nat} (b : Nat) (h : a < 2 ^ k) : nI (2 ^ k * b) ||| nI a = nI (2 ^ k * b + a) := by rw [fa_or, Nat.two_pow_add_eq_or_of_lt h]
/-- one bit, by 'and' with a power of two -/
theorem fa_bit {n j : Nat} (hj : j < 31) : nI n &&& nI (2 ^ j) = 0 ↔ n.testBit j = false := by
  have h2 : (2 : Nat) ^ j < 2 ^ 31 := Nat.pow_lt_pow_right (by decide) hj
  have hle : n &&& 2 ^ j ≤ 2 ^ j := Nat.and_le_right
  have e : n &&& 2 ^ j = 0 ↔ n.testBit j = false := by
    constructor
    · intro h
      have h1 : (n &&& 2 ^ j).testBit j = false := by rw [h]; simp
      rw [Nat.testBit_and] at h1
      first | simpa using h1 | simpa [Nat.testBit_two_pow_self] using h1 | simpa [Nat.testBit_two_pow] using h1
    · intro h
      apply Nat.eq_of_testBit_eq
      intro i
      rw [Nat.testBit_and]
      by_cases hi : j = i
      · subst hi; simp [h]
      · first | (simp [Nat.testBit_two_pow, hi]; done) | (simp [Nat.testBit_two_pow_of_ne hi]; done)
  rw [fa_and]
  constructor
  · intro h
    apply e.mp
    rcases Nat.eq_zero_or_pos (n &&& 2 ^ j) with z | z
    · exact z
    · exact absurd h (nI_ne0 z (Nat.lt_of_le_of_lt hle h2))
  · intro h
    rw [e.mpr h]; exact nI_0
/-- a remainder by a power of two of a number that isn't negative, as Java divides -/
theorem fa_rem {a k : Nat} (ha : a < 2 ^ 31) (hk : k < 31) : nI a - nI a / nI (2 ^ k) * nI (2 ^ k) = nI (a % 2 ^ k) := pk_rem ha (Nat.two_pow_pos k) (Nat.pow_lt_pow_right (by decide) hk)
/-! ===== cuts to a byte, a short ===== -/
theorem fa_byte_xor (x y : Int32) : (x ^^^ y).toInt8 = x.toInt8 ^^^ y.toInt8 := by
  apply Int8.toBitVec_inj.1
  apply BitVec.eq_of_getLsbD_eq
  intro i hi
  first | (simp [hi]; done) | (simp [hi, BitVec.getLsbD_setWidth, BitVec.getLsbD_signExtend]; done)
theorem fa_short_xor (x y : Int32) : (x ^^^ y).toInt16 = x.toInt16 ^^^ y.toInt16 := by
  apply Int16.toBitVec_inj.1
  apply BitVec.eq_of_getLsbD_eq
  intro i hi
  first | (simp [hi]; done) | (simp [hi, BitVec.getLsbD_setWidth, BitVec.getLsbD_signExtend]; done)
/-- the cut to a byte sees the low byte alone -/
theorem fa_byte_low (x : Int32) : (x &&& 255).toInt8 = x.toInt8 := by
  apply Int8.toBitVec_inj.1
  apply BitVec.eq_of_getLsbD_eq
  intro i hi
  have h2 : (255 : Int32).toBitVec.getLsbD i = true := by
    have : ∀ j : Fin 8, (255 : Int32).toBitVec.getLsbD j.val = true := by decide +kernel
    exact this ⟨i, hi⟩
  have h4 : (x &&& 255).toBitVec.getLsbD i = x.toBitVec.getLsbD i := by
    show (x.toBitVec &&& (255 : Int32).toBitVec).getLsbD i = _
    rw [BitVec.getLsbD_and, h2, Bool.and_true]
  have h3 : i < 32 := by omega
  first
    | (show (((x &&& 255).toBitVec).signExtend 8).getLsbD i = (x.toBitVec.signExtend 8).getLsbD i; rw [BitVec.getLsbD_signExtend, BitVec.getLsbD_signExtend, if_pos h3, if_pos h3, h4])
    | (show (((x &&& 255).toBitVec).setWidth 8).getLsbD i = (x.toBitVec.setWidth 8).getLsbD i; rw [BitVec.getLsbD_setWidth, BitVec.getLsbD_setWidth, h4])
    | (simp [hi, h3, h4]; done)
theorem fa_short_low (x : Int32) : (x &&& 65535).toInt16 = x.toInt16 := by
  apply Int16.toBitVec_inj.1
  apply BitVec.eq_of_getLsbD_eq
  intro i hi
  have h2 : (65535 : Int32).toBitVec.getLsbD i = true := by
    have : ∀ j : Fin 16, (65535 : Int32).toBitVec.getLsbD j.val = true := by decide +kernel
    exact this ⟨i, hi⟩
  have h4 : (x &&& 65535).toBitVec.getLsbD i = x.toBitVec.getLsbD i := by
    show (x.toBitVec &&& (65535 : Int32).toBitVec).getLsbD i = _
    rw [BitVec.getLsbD_and, h2, Bool.and_true]
  have h3 : i < 32 := by omega
  first
    | (show (((x &&& 65535).toBitVec).signExtend 16).getLsbD i = (x.toBitVec.signExtend 16).getLsbD i; rw [BitVec.getLsbD_signExtend, BitVec.getLsbD_signExtend, if_pos h3, if_pos h3, h4])
    | (show (((x &&& 65535).toBitVec).setWidth 16).getLsbD i = (x.toBitVec.setWidth 16).getLsbD i; rw [BitVec.getLsbD_setWidth, BitVec.getLsbD_setWidth, h4])
    | (simp [hi, h3, h4]; done)
/-- a small number is its own byte, its own short -/
theorem fa_byte_small {n : Nat} (h : n < 128) : (nI n).toInt8.toInt32 = nI n := by
  have : ∀ j : Fin 128, (nI j.val).toInt8.toInt32 = nI j.val := by decide +kernel
  exact this ⟨n, h⟩
/-! ===== absolute difference ===== -/
theorem fa_absdiff {a b : Nat} (ha : a < 2 ^ 31) (hb : b < 2 ^ 31) : (if nI a < nI b then nI b - nI a else nI a - nI b) = nI (if a < b then b - a else a - b) := by
  by_cases h : a < b
  · rw [if_pos (nI_lt h hb), if_pos h]
    exact pk_sub (Nat.le_of_lt h)
  · rw [if_neg (nI_nlt (Nat.le_of_not_lt h) ha), if_neg h]
    exact pk_sub (Nat.le_of_not_lt h)
/-! ===== an array behind i stores, a conditional store, a row copied ===== -/
/-- f where k < i, what stood there else -/
def fa_fill {α : Type} (f g : Nat → α) (i : Nat) : Nat → α := fun k => if k < i then f k else g k
theorem fa_fill_0 {α : Type} (f g : Nat → α) : fa_fill f g 0 = g := funext fun k => if_neg (Nat.not_lt_zero k)
theorem fa_fill_in {α : Type} {f g : Nat → α} {i k : Nat} (h : k < i) : fa_fill f g i k = f k := if_pos h
theorem fa_fill_out {α : Type} {f g : Nat → α} {i k : Nat} (h : i ≤ k) : fa_fill f g i k = g k := if_neg (Nat.not_lt.mpr h)
theorem fa_fill_succ (f g : Nat → Int32) (i : Nat) : upd (fa_fill f g i) i (f i) = fa_fill f g (i + 1) := by
  funext k
  by_cases e : k = i
  · subst e
    rw [pk_us]
    exact (if_pos (Nat.lt_succ_self k)).symm
  · rw [pk_un e]
    by_cases h : k < i
    · rw [fa_fill_in h, fa_fill_in (Nat.lt_succ_of_lt h)]
    · rw [fa_fill_out (Nat.le_of_not_lt h), fa_fill_out (by omega)]
/-- a store that changes nothing -/
theorem fa_upd_same {f : Nat → Int32} {i : Nat} {x : Int32} (h : f i = x) : upd f i x = f := by
  funext k
  by_cases e : k = i
  · subst e
    rw [pk_us, h]
  · rw [pk_un e]
/-- a store under a condition, told as one -/
theorem fa_upd_if (c : Prop) [Decidable c] (f : Nat → Int32) (i : Nat) (x : Int32) : (if c then upd f i x else f) = upd f i (if c then x else f i) := by
  by_cases h : c
  · rw [if_pos h, if_pos h]
  · rw [if_neg h, if_neg h, fa_upd_same rfl]
/-- two stores at one place, at two -/
theorem fa_upd_twice (f : Nat → Int32) (i : Nat) (x y : Int32) : upd (upd f i x) i y = upd f i y := by
  funext k
  by_cases e : k = i
  · subst e
    rw [pk_us, pk_us]
  · rw [pk_un e, pk_un e, pk_un e]
theorem fa_upd_swap (f : Nat → Int32) {i j : Nat} (h : i ≠ j) (x y : Int32) : upd (upd f i x) j y = upd (upd f j y) i x := by
  funext k
  by_cases e : k = i
  · subst e
    rw [pk_un h, pk_us, pk_us]
  · by_cases e2 : k = j
    · subst e2
      rw [pk_us, pk_un e, pk_us]
    · rw [pk_un e2, pk_un e, pk_un e, pk_un e2]
/-! ===== the first index with a property; a count ===== -/
/-- the first k < n with p k, n if there is none -/
def fa_first (p : Nat → Bool) : Nat → Nat
  | 0 => 0
  | n + 1 => if fa_first p n < n then fa_first p n else if p n then n else n + 1
theorem fa_first_le (p : Nat → Bool) : ∀ n, fa_first p n ≤ n
  | 0 => Nat.le_refl 0
  | n + 1 => by
    have ih := fa_first_le p n
    unfold fa_first
    split
    · omega
    · split
      · omega
      · omega
theorem fa_first_no (p : Nat → Bool) : ∀ n k, k < fa_first p n → p k = false
  | 0, k, h => absurd h (Nat.not_lt_zero k)
  | n + 1, k, h => by
    have ih := fa_first_no p n
    have hl := fa_first_le p n
    unfold fa_first at h
    split at h
    · exact ih k h
    · rename_i h1
      split at h
      · exact ih k (by omega)
      · rename_i h2
        by_cases e : k = n
        · subst e
          exact Bool.eq_false_iff.mpr h2
        · exact ih k (by omega)
theorem fa_first_yes (p : Nat → Bool) : ∀ n, fa_first p n < n → p (fa_first p n) = true
  | 0, h => absurd h (Nat.not_lt_zero _)
  | n + 1, h => by
    have ih := fa_first_yes p n
    have hl := fa_first_le p n
    unfold fa_first at h ⊢
    split at h
    · rename_i h1
      rw [if_pos h1]
      exact ih h1
    · rename_i h1
      rw [if_neg h1]
      split at h
      · rename_i h2
        rw [if_pos h2]
        exact h2
      · omega
/-- how many k < n have p k -/
def fa_cnt (p : Nat → Bool) : Nat → Nat
  | 0 => 0
  | n + 1 => fa_cnt p n + if p n then 1 else 0
theorem fa_cnt_le (p : Nat → Bool) : ∀ n, fa_cnt p n ≤ n
  | 0 => Nat.le_refl 0
  | n + 1 => by
    have ih := fa_cnt_le p n
    unfold fa_cnt
    split
    · omega
    · omega
theorem fa_cnt_yes {p : Nat → Bool} {n : Nat} (h : p n = true) : fa_cnt p (n + 1) = fa_cnt p n + 1 := by rw [fa_cnt, if_pos h]
theorem fa_cnt_no {p : Nat → Bool} {n : Nat} (h : p n = false) : fa_cnt p (n + 1) = fa_cnt p n := by rw [fa_cnt, if_neg (by rw [h]; decide)]; rfl
theorem fa_cnt_cong {p q : Nat → Bool} : ∀ {n : Nat}, (∀ k, k < n → p k = q k) → fa_cnt p n = fa_cnt q n
  | 0, _ => rfl
  | n + 1, h => by rw [fa_cnt, fa_cnt, fa_cnt_cong (fun k hk => h k (Nat.lt_succ_of_lt hk)), h n (Nat.lt_succ_self n)]
/-! ===== an answer carried into a post; a branch on a boolean answer ===== -/
theorem fa_post {α : Type} {P : α → Prop} {x y : α} (h : x = y) (hp : P y) : P x := h ▸ hp
theorem fa_post2 {α β : Type} {P : α → β → Prop} {x y : α} {u v : β} (h : x = y) (h2 : u = v) (hp : P y v) : P x u := h ▸ h2 ▸ hp
theorem fa_bool {r : Int32} {b : Bool} (h : r = if b then 1 else 0) : (r = 0 ↔ b = false) ∧ (¬ r = 0 ↔ b = true) := by
  subst h
  cases b
  · exact ⟨⟨fun _ => rfl, fun _ => rfl⟩, ⟨fun h => absurd rfl h, fun h => absurd h (by decide)⟩⟩
  · exact ⟨⟨fun h => absurd h (by decide), fun h => absurd h (by decide)⟩, ⟨fun _ => rfl, fun _ => by decide⟩⟩
/-- a boolean's narrowing changes nothing -/
theorem fa_bool_and {r : Int32} (h : r = 0 ∨ r = 1) : r &&& 1 = r := by
  rcases h with rfl | rfl
  · decide
  · decide
theorem fa_bool_prop {c : Prop} [Decidable c] {r : Int32} (h : r = if c then 1 else 0) : (r = 0 ↔ ¬ c) ∧ (¬ r = 0 ↔ c) := by
  subst h
  by_cases hc : c
  · rw [if_pos hc]
    exact ⟨⟨fun h => absurd h (by decide), fun h => absurd hc h⟩, ⟨fun _ => hc, fun _ => by decide⟩⟩
  · rw [if_neg hc]
    exact ⟨⟨fun _ => hc, fun _ => rfl⟩, ⟨fun h => absurd rfl h, fun h => absurd h hc⟩⟩
end
section
/-! ### rules in plain numbers -/
abbrev nF (b : Nat → Nat) : Nat → Int32 := fun k => nI (b k)
abbrev lF (b : Nat → Nat) : Nat → Int64 := fun k => lN (b k)
theorem nF_upd (b : Nat → Nat) (k x : Nat) : upd (nF b) k (nI x) = nF (va_up b k x) := by
  funext j
  unfold upd nF va_up
  by_cases h : j = k
  · rw [if_pos h, if_pos h]
  · rw [if_neg h, if_neg h]
theorem lF_upd (b : Nat → Nat) (k x : Nat) : vp_updL (lF b) k (lN x) = lF (va_up b k x) := by
  funext j
  unfold vp_updL lF va_up
  by_cases h : j = k
  · rw [if_pos h, if_pos h]
  · rw [if_neg h, if_neg h]
theorem vu_at {α : Type} (f : Nat → α) (k : Nat) (v : α) : va_up f k v k = v := if_pos rfl
theorem vu_ne {α : Type} {f : Nat → α} {k j : Nat} {v : α} (h : j ≠ k) : va_up f k v j = f j := if_neg h
theorem sm31 : ∀ n, n < 32 → ((nI n &&& 31).toBitVec.smod 32).toNat = n := by decide
theorem nI_shl {x k : Nat} (hk : k < 32) (h : x * 2 ^ k < 2 ^ 32) : nI x <<< (nI k &&& 31) = nI (x * 2 ^ k) := pk_shlN _ k (sm31 k hk) h
theorem nI_shr {x k : Nat} (hx : x < 2 ^ 31) (hk : k < 32) : nI x >>> (nI k &&& 31) = nI (x / 2 ^ k) := pk_shrN hx _ k (sm31 k hk)
theorem uu31 : ∀ n, n < 32 → (((nI n).toUInt32 &&& Int32.toUInt32 31).toBitVec % 32).toNat = n := by decide
theorem nI_ushr {x k : Nat} (hx : x < 2 ^ 32) (hk : k < 32) : ((nI x).toUInt32 >>> ((nI k).toUInt32 &&& Int32.toUInt32 31)).toInt32 = nI (x / 2 ^ k) := pk_ushrN hx _ k (uu31 k hk)
theorem nI_lt0 {x : Nat} (h : x < 2 ^ 31) : ¬ nI x < 0 := nI_pos h
section Num
variable {mi : MI} {Ψ : Pst} {Z : Zt} {MC MS : Nat} {pc pc' tgt : Nat} {L : List (Nat × Value)} {st : List Value} {w : Wd} {nc ns : Nat} {x y : Nat}
theorem aw_iaddN (d : Dc mi pc .iadd 1 pc') (k : AW mi Ψ Z MC MS pc' L (.int (nI (x + y)) :: st) w nc ns) : AW mi Ψ Z MC MS pc L (.int (nI y) :: .int (nI x) :: st) w nc ns := aw_iadd d (by rw [nI_add]; exact k)
theorem aw_isubN (d : Dc mi pc .isub 1 pc') (h : y ≤ x) (k : AW mi Ψ Z MC MS pc' L (.int (nI (x - y)) :: st) w nc ns) : AW mi Ψ Z MC MS pc L (.int (nI y) :: .int (nI x) :: st) w nc ns := aw_isub d (by rw [pk_sub h]; exact k)
theorem aw_imulN (d : Dc mi pc .imul 1 pc') (k : AW mi Ψ Z MC MS pc' L (.int (nI (x * y)) :: st) w nc ns) : AW mi Ψ Z MC MS pc L (.int (nI y) :: .int (nI x) :: st) w nc ns := aw_imul d (by rw [pk_mul]; exact k)
theorem aw_idivN (d : Dc mi pc .idiv 1 pc') (h0 : 0 < y) (h1 : x < 2 ^ 31) (h2 : y < 2 ^ 31) (k : AW mi Ψ Z MC MS pc' L (.int (nI (x / y)) :: st) w nc ns) : AW mi Ψ Z MC MS pc L (.int (nI y) :: .int (nI x) :: st) w nc ns := aw_idiv d (nI_ne0 h0 h2) (by rw [pk_div h1 h0 h2]; exact k)
theorem aw_iremN (d : Dc mi pc .irem 1 pc') (h0 : 0 < y) (h1 : x < 2 ^ 31) (h2 : y < 2 ^ 31) (k : AW mi Ψ Z MC MS pc' L (.int (nI (x % y)) :: st) w nc ns) : AW mi Ψ Z MC MS pc L (.int (nI y) :: .int (nI x) :: st) w nc ns := aw_irem d (nI_ne0 h0 h2) (by rw [pk_rem h1 h0 h2]; exact k)
theorem aw_iandN (d : Dc mi pc .iand 1 pc') (k : AW mi Ψ Z MC MS pc' L (.int (nI (x &&& y)) :: st) w nc ns) : AW mi Ψ Z MC MS pc L (.int (nI y) :: .int (nI x) :: st) w nc ns := aw_iand d (by rw [fa_and]; exact k)
theorem aw_iorN (d : Dc mi pc .ior 1 pc') (k : AW mi Ψ Z MC MS pc' L (.int (nI (x ||| y)) :: st) w nc ns) : AW mi Ψ Z MC MS pc L (.int (nI y) :: .int (nI x) :: st) w nc ns := aw_ior d (by rw [fa_or]; exact k)
theorem aw_ixorN (d : Dc mi pc .ixor 1 pc') (k : AW mi Ψ Z MC MS pc' L (.int (nI (x ^^^ y)) :: st) w nc ns) : AW mi Ψ Z MC MS pc L (.int (nI y) :: .int (nI x) :: st) w nc ns := aw_ixor d (by rw [fb_xorI]; exact k)
theorem aw_ishlN (d : Dc mi pc .ishl 1 pc') (hk : y < 32) (h : x * 2 ^ y < 2 ^ 32) (k : AW mi Ψ Z MC MS pc' L (.int (nI (x * 2 ^ y)) :: st) w nc ns) : AW mi Ψ Z MC MS pc L (.int (nI y) :: .int (nI x) :: st) w nc ns := aw_ishl d (by rw [nI_shl hk h]; exact k)
theorem aw_ishrN (d : Dc mi pc .ishr 1 pc') (hk : y < 32) (h : x < 2 ^ 31) (k : AW mi Ψ Z MC MS pc' L (.int (nI (x / 2 ^ y)) :: st) w nc ns) : AW mi Ψ Z MC MS pc L (.int (nI y) :: .int (nI x) :: st) w nc ns := aw_ishr d (by rw [nI_shr h hk]; exact k)
theorem aw_i2lN (d : Dc mi pc .i2l 1 pc') (h : x < 2 ^ 31) (k : AW mi Ψ Z MC MS pc' L (.long (lN x) :: st) w nc ns) : AW mi Ψ Z MC MS pc L (.int (nI x) :: st) w nc ns := aw_i2l d (by rw [nI_l h]; exact k)
theorem aw_l2iN (d : Dc mi pc .l2i 1 pc') (k : AW mi Ψ Z MC MS pc' L (.int (nI x) :: st) w nc ns) : AW mi Ψ Z MC MS pc L (.long (lN x) :: st) w nc ns := aw_l2i d (by rw [lN_i]; exact k)
theorem aw_laddN (d : Dc mi pc .ladd 1 pc') (k : AW mi Ψ Z MC MS pc' L (.long (lN (x + y)) :: st) w nc ns) : AW mi Ψ Z MC MS pc L (.long (lN y) :: .long (lN x) :: st) w nc ns := aw_ladd d (by rw [lN_add]; exact k)
theorem aw_lsubN (d : Dc mi pc .lsub 1 pc') (h : y ≤ x) (k : AW mi Ψ Z MC MS pc' L (.long (lN (x - y)) :: st) w nc ns) : AW mi Ψ Z MC MS pc L (.long (lN y) :: .long (lN x) :: st) w nc ns := aw_lsub d (by rw [lN_sub h]; exact k)
theorem aw_lmulN (d : Dc mi pc .lmul 1 pc') (k : AW mi Ψ Z MC MS pc' L (.long (lN (x * y)) :: st) w nc ns) : AW mi Ψ Z MC MS pc L (.long (lN y) :: .long (lN x) :: st) w nc ns := aw_lmul d (by rw [lN_mul]; exact k)
theorem lN_ne0 {n : Nat} (h0 : 0 < n) (h : n < 2 ^ 63) : ¬ lN n = 0 := fun e => by
  have := (pk_lEQ h (by omega : 0 < 2 ^ 63)).mp (e.trans (show (0 : Int64) = lN 0 by decide))
  omega
theorem aw_lremN (d : Dc mi pc .lrem 1 pc') (h0 : 0 < y) (h1 : x < 2 ^ 63) (h2 : y < 2 ^ 63) (k : AW mi Ψ Z MC MS pc' L (.long (lN (x % y)) :: st) w nc ns) : AW mi Ψ Z MC MS pc L (.long (lN y) :: .long (lN x) :: st) w nc ns := aw_lrem d (lN_ne0 h0 h2) (by rw [pk_lRem h1 h0 h2]; exact k)
theorem aw_incN {i : Nat} (d : Dc mi pc (.iinc i 1) 3 pc') (hl : lk L i = some (.int (nI x))) (hn : i < mi.2.2.1) (hok : lsok L i false = true) (k : AW mi Ψ Z MC MS pc' (lset L i (.int (nI (x + 1)))) st w nc ns) : AW mi Ψ Z MC MS pc L st w nc ns := aw_inc d hl hn hok (by rw [nI_add]; exact k)
theorem aw_decN {i : Nat} (d : Dc mi pc (.iinc i (-1)) 3 pc') (hl : lk L i = some (.int (nI x))) (h : 0 < x) (hn : i < mi.2.2.1) (hok : lsok L i false = true) (k : AW mi Ψ Z MC MS pc' (lset L i (.int (nI (x - 1)))) st w nc ns) : AW mi Ψ Z MC MS pc L st w nc ns := aw_dec d hl hn hok (by rw [pk_sub h]; exact k)
theorem aw_inc2N {i : Nat} (d : Dc mi pc (.iinc i 2) 3 pc') (hl : lk L i = some (.int (nI x))) (hn : i < mi.2.2.1) (hok : lsok L i false = true) (k : AW mi Ψ Z MC MS pc' (lset L i (.int (nI (x + 2)))) st w nc ns) : AW mi Ψ Z MC MS pc L st w nc ns := aw_iinc _ d hl (show nI x + Int32.ofInt 2 = nI (x + 2) by rw [show Int32.ofInt 2 = nI 2 by decide, nI_add]) hn hok k
theorem aw_inc6N {i : Nat} (d : Dc mi pc (.iinc i 6) 3 pc') (hl : lk L i = some (.int (nI x))) (hn : i < mi.2.2.1) (hok : lsok L i false = true) (k : AW mi Ψ Z MC MS pc' (lset L i (.int (nI (x + 6)))) st w nc ns) : AW mi Ψ Z MC MS pc L st w nc ns := aw_iinc _ d hl (show nI x + Int32.ofInt 6 = nI (x + 6) by rw [show Int32.ofInt 6 = nI 6 by decide, nI_add]) hn hok k
theorem aw_if_eqN (d : Dj mi pc (.ifCond .eq) pc' tgt) (h : x < 2 ^ 31) (kt : x = 0 → AW mi Ψ Z MC MS tgt L st w nc ns) (kf : 0 < x → AW mi Ψ Z MC MS pc' L st w nc ns) : AW mi Ψ Z MC MS pc L (.int (nI x) :: st) w nc ns := aw_if_eq d (fun c => kt ((nI_eq h (by omega)).mp (c.trans nI_0.symm))) (fun c => kf (Nat.pos_of_ne_zero fun e => c (by rw [e]; exact nI_0)))
theorem aw_if_neN (d : Dj mi pc (.ifCond .ne) pc' tgt) (h : x < 2 ^ 31) (kt : 0 < x → AW mi Ψ Z MC MS tgt L st w nc ns) (kf : x = 0 → AW mi Ψ Z MC MS pc' L st w nc ns) : AW mi Ψ Z MC MS pc L (.int (nI x) :: st) w nc ns := aw_if_ne d (fun c => kt (Nat.pos_of_ne_zero fun e => c (by rw [e]; exact nI_0))) (fun c => kf ((nI_eq h (by omega)).mp (c.trans nI_0.symm)))
theorem aw_if_ltN (d : Dj mi pc (.ifCond .lt) pc' tgt) (h : x < 2 ^ 31) (kf : AW mi Ψ Z MC MS pc' L st w nc ns) : AW mi Ψ Z MC MS pc L (.int (nI x) :: st) w nc ns := aw_if_lt d (fun c => absurd c (nI_pos h)) (fun _ => kf)
theorem aw_if_geN (d : Dj mi pc (.ifCond .ge) pc' tgt) (h : x < 2 ^ 31) (kt : AW mi Ψ Z MC MS tgt L st w nc ns) : AW mi Ψ Z MC MS pc L (.int (nI x) :: st) w nc ns := aw_if_ge d (fun _ => kt) (fun c => absurd (nI_pos' h) c)
theorem aw_if_gtN (d : Dj mi pc (.ifCond .gt) pc' tgt) (h : x < 2 ^ 31) (kt : 0 < x → AW mi Ψ Z MC MS tgt L st w nc ns) (kf : x = 0 → AW mi Ψ Z MC MS pc' L st w nc ns) : AW mi Ψ Z MC MS pc L (.int (nI x) :: st) w nc ns := aw_if_gt d (fun c => kt ((nI_ltI (by omega) h).mp (by rw [nI_0]; exact c))) (fun c => kf (Nat.eq_zero_of_not_pos fun e => c (by rw [← nI_0]; exact (nI_ltI (by omega) h).mpr e)))
theorem aw_if_leN (d : Dj mi pc (.ifCond .le) pc' tgt) (h : x < 2 ^ 31) (kt : x = 0 → AW mi Ψ Z MC MS tgt L st w nc ns) (kf : 0 < x → AW mi Ψ Z MC MS pc' L st w nc ns) : AW mi Ψ Z MC MS pc L (.int (nI x) :: st) w nc ns := aw_if_le d (fun c => kt (Nat.eq_zero_of_not_pos fun e => nI_nle e h c)) (fun c => kf (Nat.pos_of_ne_zero fun e => c (by rw [e, nI_0]; exact Int32.le_refl 0)))
theorem aw_icmp_eqN (d : Dj mi pc (.if_icmp .eq) pc' tgt) (hx : x < 2 ^ 31) (hy : y < 2 ^ 31) (kt : x = y → AW mi Ψ Z MC MS tgt L st w nc ns) (kf : x ≠ y → AW mi Ψ Z MC MS pc' L st w nc ns) : AW mi Ψ Z MC MS pc L (.int (nI y) :: .int (nI x) :: st) w nc ns := aw_icmp_eq d (fun c => kt ((nI_eq hx hy).mp c)) (fun c => kf (fun e => c ((nI_eq hx hy).mpr e)))
theorem aw_icmp_neN (d : Dj mi pc (.if_icmp .ne) pc' tgt) (hx : x < 2 ^ 31) (hy : y < 2 ^ 31) (kt : x ≠ y → AW mi Ψ Z MC MS tgt L st w nc ns) (kf : x = y → AW mi Ψ Z MC MS pc' L st w nc ns) : AW mi Ψ Z MC MS pc L (.int (nI y) :: .int (nI x) :: st) w nc ns := aw_icmp_ne d (fun c => kt (fun e => c ((nI_eq hx hy).mpr e))) (fun c => kf ((nI_eq hx hy).mp c))
theorem aw_icmp_ltN (d : Dj mi pc (.if_icmp .lt) pc' tgt) (hx : x < 2 ^ 31) (hy : y < 2 ^ 31) (kt : x < y → AW mi Ψ Z MC MS tgt L st w nc ns) (kf : y ≤ x → AW mi Ψ Z MC MS pc' L st w nc ns) : AW mi Ψ Z MC MS pc L (.int (nI y) :: .int (nI x) :: st) w nc ns := aw_icmp_lt d (fun c => kt ((nI_ltI hx hy).mp c)) (fun c => kf (Nat.le_of_not_lt fun e => c ((nI_ltI hx hy).mpr e)))
theorem aw_icmp_geN (d : Dj mi pc (.if_icmp .ge) pc' tgt) (hx : x < 2 ^ 31) (hy : y < 2 ^ 31) (kt : y ≤ x → AW mi Ψ Z MC MS tgt L st w nc ns) (kf : x < y → AW mi Ψ Z MC MS pc' L st w nc ns) : AW mi Ψ Z MC MS pc L (.int (nI y) :: .int (nI x) :: st) w nc ns := aw_icmp_ge d (fun c => kt ((nI_leI hy hx).mp c)) (fun c => kf (Nat.lt_of_not_le fun e => c ((nI_leI hy hx).mpr e)))
theorem aw_icmp_gtN (d : Dj mi pc (.if_icmp .gt) pc' tgt) (hx : x < 2 ^ 31) (hy : y < 2 ^ 31) (kt : y < x → AW mi Ψ Z MC MS tgt L st w nc ns) (kf : x ≤ y → AW mi Ψ Z MC MS pc' L st w nc ns) : AW mi Ψ Z MC MS pc L (.int (nI y) :: .int (nI x) :: st) w nc ns := aw_icmp_gt d (fun c => kt ((nI_ltI hy hx).mp c)) (fun c => kf (Nat.le_of_not_lt fun e => c ((nI_ltI hy hx).mpr e)))
theorem aw_icmp_leN (d : Dj mi pc (.if_icmp .le) pc' tgt) (hx : x < 2 ^ 31) (hy : y < 2 ^ 31) (kt : x ≤ y → AW mi Ψ Z MC MS tgt L st w nc ns) (kf : y < x → AW mi Ψ Z MC MS pc' L st w nc ns) : AW mi Ψ Z MC MS pc L (.int (nI y) :: .int (nI x) :: st) w nc ns := aw_icmp_le d (fun c => kt ((nI_leI hx hy).mp c)) (fun c => kf (Nat.lt_of_not_le fun e => c ((nI_leI hx hy).mpr e)))
theorem aw_ialdN {q n j : Nat} {f : Nat → Int32} (d : Dc mi pc .iaload 1 pc') (hq : look w q = some (.inl (0, n, .inl f))) (hj : j < n) (hn : n < 2 ^ 31) (kk : AW mi Ψ Z MC MS pc' L (.int (f j) :: st) w nc ns) : AW mi Ψ Z MC MS pc L (.int (nI j) :: .ref q :: st) w nc ns := aw_iald d hq (vp_in_nI hj hn) (by rw [nI_clamp (by omega)]; exact kk)
theorem aw_zaldN {q n j : Nat} {f : Nat → Int32} (d : Dc mi pc .baload 1 pc') (hq : look w q = some (.inl (2, n, .inl f))) (hj : j < n) (hn : n < 2 ^ 31) (kk : AW mi Ψ Z MC MS pc' L (.int (f j) :: st) w nc ns) : AW mi Ψ Z MC MS pc L (.int (nI j) :: .ref q :: st) w nc ns := aw_zald d hq (vp_in_nI hj hn) (by rw [nI_clamp (by omega)]; exact kk)
theorem aw_laldN {q n j : Nat} {f : Nat → Int64} (d : Dc mi pc .laload 1 pc') (hq : look w q = some (.inl (1, n, .inr (.inl f)))) (hj : j < n) (hn : n < 2 ^ 31) (kk : AW mi Ψ Z MC MS pc' L (.long (f j) :: st) w nc ns) : AW mi Ψ Z MC MS pc L (.int (nI j) :: .ref q :: st) w nc ns := aw_lald d hq (vp_in_nI hj hn) (by rw [nI_clamp (by omega)]; exact kk)
theorem aw_aaldN {q n j k : Nat} {f : Nat → Option Nat} (d : Dc mi pc .aaload 1 pc') (hq : look w q = some (.inl (3, n, .inr (.inr (.inr (.inr f)))))) (hj : j < n) (hn : n < 2 ^ 31) (hk : f j = some k) (kk : AW mi Ψ Z MC MS pc' L (.ref k :: st) w nc ns) : AW mi Ψ Z MC MS pc L (.int (nI j) :: .ref q :: st) w nc ns := aw_aald d hq (vp_in_nI hj hn) (by rw [nI_clamp (by omega)]; exact hk) kk
theorem aw_iastN {q n j v : Nat} {b : Nat → Nat} (d : Dc mi pc .iastore 1 pc') (hq : look w q = some (.inl (0, n, .inl (nF b)))) (hj : j < n) (hn : n < 2 ^ 31) (kk : AW mi Ψ Z MC MS pc' L st (updw w q (.inl (0, n, .inl (nF (va_up b j v))))) nc ns) : AW mi Ψ Z MC MS pc L (.int (nI v) :: .int (nI j) :: .ref q :: st) w nc ns := aw_iast d hq (vp_in_nI hj hn) (by rw [nI_clamp (by omega), nF_upd]; exact kk)
theorem aw_iastJ {q n j : Nat} {v : Int32} {f : Nat → Int32} (d : Dc mi pc .iastore 1 pc') (hq : look w q = some (.inl (0, n, .inl f))) (hj : j < n) (hn : n < 2 ^ 31) (kk : AW mi Ψ Z MC MS pc' L st (updw w q (.inl (0, n, .inl (upd f j v)))) nc ns) : AW mi Ψ Z MC MS pc L (.int v :: .int (nI j) :: .ref q :: st) w nc ns := aw_iast d hq (vp_in_nI hj hn) (by rw [nI_clamp (by omega)]; exact kk)
theorem aw_zastN {q n j v : Nat} {b : Nat → Nat} (d : Dc mi pc .bastore 1 pc') (hq : look w q = some (.inl (2, n, .inl (nF b)))) (hj : j < n) (hn : n < 2 ^ 31) (hv : vp_nar .boolean (nI v) = nI v) (kk : AW mi Ψ Z MC MS pc' L st (updw w q (.inl (2, n, .inl (nF (va_up b j v))))) nc ns) : AW mi Ψ Z MC MS pc L (.int (nI v) :: .int (nI j) :: .ref q :: st) w nc ns := aw_zast d hq (vp_in_nI hj hn) hv (by rw [nI_clamp (by omega), nF_upd]; exact kk)
theorem aw_lastN {q n j v : Nat} {b : Nat → Nat} (d : Dc mi pc .lastore 1 pc') (hq : look w q = some (.inl (1, n, .inr (.inl (lF b))))) (hj : j < n) (hn : n < 2 ^ 31) (kk : AW mi Ψ Z MC MS pc' L st (updw w q (.inl (1, n, .inr (.inl (lF (va_up b j v)))))) nc ns) : AW mi Ψ Z MC MS pc L (.long (lN v) :: .int (nI j) :: .ref q :: st) w nc ns := aw_last d hq (vp_in_nI hj hn) (by rw [nI_clamp (by omega), lF_upd]; exact kk)
theorem aw_lastJ {q n j : Nat} {v : Int64} {f : Nat → Int64} (d : Dc mi pc .lastore 1 pc') (hq : look w q = some (.inl (1, n, .inr (.inl f)))) (hj : j < n) (hn : n < 2 ^ 31) (kk : AW mi Ψ Z MC MS pc' L st (updw w q (.inl (1, n, .inr (.inl (vp_updL f j v))))) nc ns) : AW mi Ψ Z MC MS pc L (.long v :: .int (nI j) :: .ref q :: st) w nc ns := aw_last d hq (vp_in_nI hj hn) (by rw [nI_clamp (by omega)]; exact kk)
end Num
theorem updw_same {w : Wd} {q : Nat} {e : va_E} (hq : look w q = some e) : updw w q e = w := by
  unfold updw
  have : (w.getD (q % 16) []).set (q / 16) e = w.getD (q % 16) [] := by
    apply List.ext_getElem?
    intro j
    by_cases e : q / 16 = j
    · subst e
      rw [List.getElem?_set_self (List.getElem?_eq_some_iff.mp hq).1]
      exact hq.symm
    · rw [List.getElem?_set_ne e]
  rw [this]
  apply List.ext_getElem?
  intro j
  by_cases e : q % 16 = j
  · subst e
    have hl := getD_lt hq
    rw [List.getElem?_set_self hl, List.getD_eq_getElem?_getD, List.getElem?_eq_getElem hl]
    rfl
  · rw [List.getElem?_set_ne e]
theorem updw_twice {w : Wd} {q : Nat} {e0 e e' : va_E} (hq : look w q = some e0) : updw (updw w q e) q e' = updw w q e' := by
  unfold updw
  rw [getD_set _ _ _ _ (getD_lt hq), if_pos rfl, List.set_set, List.set_set]
theorem fill_up {α : Type} (x : α) (f : Nat → α) (i : Nat) : va_up (fun j => if j < i then x else f j) i x = fun j => if j < i + 1 then x else f j := by
  funext j
  unfold va_up
  by_cases e : j = i
  · rw [if_pos e, if_pos (by omega)]
  · rw [if_neg e]
    show (if j < i then x else f j) = _
    by_cases e2 : j < i
    · rw [if_pos e2, if_pos (by omega)]
    · rw [if_neg e2, if_neg (by omega)]
theorem upd_va (f : Nat → Int32) (k : Nat) (x : Int32) : upd f k x = va_up f k x := rfl
theorem updL_va (f : Nat → Int64) (k : Nat) (x : Int64) : vp_updL f k x = va_up f k x := rfl
section MaxMin
variable {mi : MI} {Ψ : Pst} {Z : Zt} {MC MS : Nat} {pc pc' : Nat} {L : List (Nat × Value)} {rest : List Value} {w : Wd} {nc ns : Nat}
theorem w_max1 : Cond.static Lib.Math.max.name ∈ gtb := by decide +kernel
theorem w_max2 : Cond.code Lib.Math.max.name Lib.Math.max.code 2 (some .int) ∈ gtb := by decide +kernel
theorem w_min1 : Cond.static Lib.Math.min.name ∈ gtb := by decide +kernel
theorem w_min2 : Cond.code Lib.Math.min.name Lib.Math.min.code 2 (some .int) ∈ gtb := by decide +kernel
theorem w_math : Cond.initialized "java/lang/Math" ∈ gtb := by decide +kernel
theorem aw_max {x y : Int32} (d : DcS mi M_jm_max pc pc') (hcat : (rest.map fun v => v.category).sum ≤ 8) (kk : AW mi Ψ Z MC MS pc' L (.int (if x < y then y else x) :: rest) w nc ns) : AW mi Ψ Z MC MS pc L (.int y :: .int x :: rest) w nc ns := by
  obtain ⟨idx, d, rfl, hlink, hf1, hf2⟩ := d
  intro l p e s m args below meth c Q D dA A w0 ad0 C R ad H locs ls h
  have hts := C.2.2.2.2.2.1
  refine va_mmax C.1 C.2.1 (C.2.2.2.1.trans h.2.2.2.2.2.1.1.symm) C.2.2.2.2.1 (hts _ hlink) (hts _ w_max1) (hts _ w_math) (hts _ w_max2) (Nat.le_trans (by show 1 ≤ 0 + 1; omega) hf1) ?_ h.2.2.2.2.2.2.2.2.1 h.2.2.2.2.2.2.2.2.2 d ?_
  · rw [show (rest.map (cv ad)).map (fun v => v.category) = rest.map (fun v => v.category) by rw [List.map_map]; exact List.map_congr_left (fun v _ => cv_cat ad v)]
    have h2 : 8 + (2 + 11) + 0 ≤ mi.2.2.2.2.2 := hf2
    show _ ≤ mi.2.2.2.2.2
    omega
  · exact kk l p e s m args below meth c Q D dA A w0 ad0 C R ad H locs ls ⟨h.1, h.2.1, h.2.2.1, h.2.2.2.1, h.2.2.2.2.1, h.2.2.2.2.2.1, h.2.2.2.2.2.2.1, ok01 okI (ok1 (ok1 h.2.2.2.2.2.2.2.1)), h.2.2.2.2.2.2.2.2⟩
theorem aw_min {x y : Int32} (d : DcS mi M_jm_min pc pc') (hcat : (rest.map fun v => v.category).sum ≤ 8) (kk : AW mi Ψ Z MC MS pc' L (.int (if y < x then y else x) :: rest) w nc ns) : AW mi Ψ Z MC MS pc L (.int y :: .int x :: rest) w nc ns := by
  obtain ⟨idx, d, rfl, hlink, hf1, hf2⟩ := d
  intro l p e s m args below meth c Q D dA A w0 ad0 C R ad H locs ls h
  have hts := C.2.2.2.2.2.1
  refine va_mmin C.1 C.2.1 (C.2.2.2.1.trans h.2.2.2.2.2.1.1.symm) C.2.2.2.2.1 (hts _ hlink) (hts _ w_min1) (hts _ w_math) (hts _ w_min2) (Nat.le_trans (by show 1 ≤ 0 + 1; omega) hf1) ?_ h.2.2.2.2.2.2.2.2.1 h.2.2.2.2.2.2.2.2.2 d ?_
  · rw [show (rest.map (cv ad)).map (fun v => v.category) = rest.map (fun v => v.category) by rw [List.map_map]; exact List.map_congr_left (fun v _ => cv_cat ad v)]
    have h2 : 8 + (2 + 11) + 0 ≤ mi.2.2.2.2.2 := hf2
    show _ ≤ mi.2.2.2.2.2
    omega
  · exact kk l p e s m args below meth c Q D dA A w0 ad0 C R ad H locs ls ⟨h.1, h.2.1, h.2.2.1, h.2.2.2.1, h.2.2.2.2.1, h.2.2.2.2.2.1, h.2.2.2.2.2.2.1, ok01 okI (ok1 (ok1 h.2.2.2.2.2.2.2.1)), h.2.2.2.2.2.2.2.2⟩
theorem aw_maxN {x y : Nat} (d : DcS mi M_jm_max pc pc') (hx : x < 2 ^ 31) (hy : y < 2 ^ 31) (hcat : (rest.map fun v => v.category).sum ≤ 8) (kk : AW mi Ψ Z MC MS pc' L (.int (nI (max x y)) :: rest) w nc ns) : AW mi Ψ Z MC MS pc L (.int (nI y) :: .int (nI x) :: rest) w nc ns := aw_max d hcat (by
  rw [show (if nI x < nI y then nI y else nI x) = nI (max x y) by
    by_cases h : x < y
    · rw [if_pos ((nI_ltI hx hy).mpr h), Nat.max_eq_right (Nat.le_of_lt h)]
    · rw [if_neg (fun e => h ((nI_ltI hx hy).mp e)), Nat.max_eq_left (by omega)]]
  exact kk)
theorem aw_minN {x y : Nat} (d : DcS mi M_jm_min pc pc') (hx : x < 2 ^ 31) (hy : y < 2 ^ 31) (hcat : (rest.map fun v => v.category).sum ≤ 8) (kk : AW mi Ψ Z MC MS pc' L (.int (nI (min x y)) :: rest) w nc ns) : AW mi Ψ Z MC MS pc L (.int (nI y) :: .int (nI x) :: rest) w nc ns := aw_min d hcat (by
  rw [show (if nI y < nI x then nI y else nI x) = nI (min x y) by
    by_cases h : y < x
    · rw [if_pos ((nI_ltI hy hx).mpr h), Nat.min_eq_right (Nat.le_of_lt h)]
    · rw [if_neg (fun e => h ((nI_ltI hy hx).mp e)), Nat.min_eq_left (by omega)]]
  exact kk)
end MaxMin
end
section
/-! ### the JDK's methods -/
section Jdk
variable {w : Wd}
/-- filling a row of ints -/
theorem c_fillI {q N : Nat} {f : Nat → Int32} {x : Int32} (hN : N < 2 ^ 31) (hq : look w q = some (.inl (0, N, .inl f))) : AMet M_ja_fillI [.ref q, .int x] w (Ex none (updw w q (.inl (0, N, .inl (fun j => if j < N then x else f j))))) 0 0 := by
  refine AMet.of [(0, .ref q), (1, .int x)] (by decide +kernel) rfl (Nat.le_of_ble_eq_true rfl) ?_
  refine aw_iconst (nI 0) D_ja_fillI_0 rfl ?_
  refine aw_istore_n 2 D_ja_fillI_1 rfl (Nat.le_of_ble_eq_true rfl) rfl ?_
  refine aw_aload_n 0 D_ja_fillI_2 rfl rfl ?_
  refine aw_alen D_ja_fillI_3 hq (by decide) ?_
  refine aw_istore_n 3 D_ja_fillI_4 rfl (Nat.le_of_ble_eq_true rfl) rfl ?_
  have key : ∀ (m i : Nat), i ≤ N → N - i = m → AW M_ja_fillI noP (Zp (Ex none (updw w q (.inl (0, N, .inl (fun j => if j < N then x else f j)))))) 0 0 5 [(0, .ref q), (1, .int x), (2, .int (nI i)), (3, .int (nI N))] [] (updw w q (.inl (0, N, .inl (fun j => if j < i then x else f j)))) 0 0 := by
    intro m
    induction m with
    | zero =>
      intro i hi hm
      refine aw_iload_n 2 D_ja_fillI_5 rfl rfl ?_
      refine aw_iload_n 3 D_ja_fillI_6 rfl rfl ?_
      refine aw_icmp_geN D_ja_fillI_7 (by omega) (by omega) (fun h => ?_) (fun h => absurd h (by omega))
      have : i = N := by omega
      subst this
      refine aw_return D_ja_fillI_20 rfl ?_
      exact ⟨rfl, rfl⟩
    | succ m ih =>
      intro i hi hm
      refine aw_iload_n 2 D_ja_fillI_5 rfl rfl ?_
      refine aw_iload_n 3 D_ja_fillI_6 rfl rfl ?_
      refine aw_icmp_geN D_ja_fillI_7 (by omega) (by omega) (fun h => absurd h (by omega)) (fun h => ?_)
      refine aw_aload_n 0 D_ja_fillI_10 rfl rfl ?_
      refine aw_iload_n 2 D_ja_fillI_11 rfl rfl ?_
      refine aw_iload_n 1 D_ja_fillI_12 rfl rfl ?_
      refine aw_iastJ D_ja_fillI_13 (by rw [look_updw hq, if_pos rfl]) (by omega) hN ?_
      first | refine aw_incN D_ja_fillI_14 rfl (Nat.le_of_ble_eq_true rfl) rfl ?_ | refine aw_inc D_ja_fillI_14 rfl (Nat.le_of_ble_eq_true rfl) rfl ?_
      refine aw_goto D_ja_fillI_17 ?_
      rw [updw_twice hq, upd_va, fill_up]
      exact ih (i + 1) (by omega) (by omega)
  have := key N 0 (Nat.zero_le _) rfl
  rw [show (fun j => if j < 0 then x else f j) = f from rfl, updw_same hq] at this
  exact this
/-- filling a row of longs -/
theorem c_fillJ {q N : Nat} {f : Nat → Int64} {x : Int64} (hN : N < 2 ^ 31) (hq : look w q = some (.inl (1, N, .inr (.inl f)))) : AMet M_ja_fillJ [.ref q, .long x] w (Ex none (updw w q (.inl (1, N, .inr (.inl (fun j => if j < N then x else f j)))))) 0 0 := by
  refine AMet.of [(0, .ref q), (1, .long x)] (by decide +kernel) rfl (Nat.le_of_ble_eq_true rfl) ?_
  refine aw_iconst (nI 0) D_ja_fillJ_0 rfl ?_
  refine aw_istore_n 3 D_ja_fillJ_1 rfl (Nat.le_of_ble_eq_true rfl) rfl ?_
  refine aw_aload_n 0 D_ja_fillJ_2 rfl rfl ?_
  refine aw_alen D_ja_fillJ_3 hq (by decide) ?_
  refine aw_istore D_ja_fillJ_4 (Nat.le_of_ble_eq_true rfl) rfl ?_
  have key : ∀ (m i : Nat), i ≤ N → N - i = m → AW M_ja_fillJ noP (Zp (Ex none (updw w q (.inl (1, N, .inr (.inl (fun j => if j < N then x else f j))))))) 0 0 6 [(0, .ref q), (1, .long x), (3, .int (nI i)), (4, .int (nI N))] [] (updw w q (.inl (1, N, .inr (.inl (fun j => if j < i then x else f j))))) 0 0 := by
    intro m
    induction m with
    | zero =>
      intro i hi hm
      refine aw_iload_n 3 D_ja_fillJ_6 rfl rfl ?_
      refine aw_iload D_ja_fillJ_7 rfl ?_
      refine aw_icmp_geN D_ja_fillJ_9 (by omega) (by omega) (fun h => ?_) (fun h => absurd h (by omega))
      have : i = N := by omega
      subst this
      refine aw_return D_ja_fillJ_22 rfl ?_
      exact ⟨rfl, rfl⟩
    | succ m ih =>
      intro i hi hm
      refine aw_iload_n 3 D_ja_fillJ_6 rfl rfl ?_
      refine aw_iload D_ja_fillJ_7 rfl ?_
      refine aw_icmp_geN D_ja_fillJ_9 (by omega) (by omega) (fun h => absurd h (by omega)) (fun h => ?_)
      refine aw_aload_n 0 D_ja_fillJ_12 rfl rfl ?_
      refine aw_iload_n 3 D_ja_fillJ_13 rfl rfl ?_
      refine aw_lload_n 1 D_ja_fillJ_14 rfl rfl ?_
      refine aw_lastJ D_ja_fillJ_15 (by rw [look_updw hq, if_pos rfl]) (by omega) hN ?_
      first | refine aw_incN D_ja_fillJ_16 rfl (Nat.le_of_ble_eq_true rfl) rfl ?_ | refine aw_inc D_ja_fillJ_16 rfl (Nat.le_of_ble_eq_true rfl) rfl ?_
      refine aw_goto D_ja_fillJ_19 ?_
      rw [updw_twice hq, updL_va, fill_up]
      exact ih (i + 1) (by omega) (by omega)
  have := key N 0 (Nat.zero_le _) rfl
  rw [show (fun j => if j < 0 then x else f j) = f from rfl, updw_same hq] at this
  exact this
/-- filling the front of a row of ints -/
theorem c_range {n a c : Nat} (hn : n < 2 ^ 31) (hac : a ≤ c) (hcn : c ≤ n) : AMet M_ja_rangeCheck [.int (nI n), .int (nI a), .int (nI c)] w (Ex none w) 0 0 := by
  refine AMet.of [(0, .int (nI n)), (1, .int (nI a)), (2, .int (nI c))] (by decide +kernel) rfl (Nat.le_of_ble_eq_true rfl) ?_
  refine aw_iload_n 1 D_ja_rangeCheck_0 rfl rfl ?_
  refine aw_iload_n 2 D_ja_rangeCheck_1 rfl rfl ?_
  refine aw_icmp_leN D_ja_rangeCheck_2 (by omega) (by omega) (fun h => ?_) (fun h => absurd h (by omega))
  refine aw_iload_n 1 D_ja_rangeCheck_46 rfl rfl ?_
  refine aw_if_geN D_ja_rangeCheck_47 (by omega) ?_
  refine aw_iload_n 2 D_ja_rangeCheck_59 rfl rfl ?_
  refine aw_iload_n 0 D_ja_rangeCheck_60 rfl rfl ?_
  refine aw_icmp_leN D_ja_rangeCheck_61 (by omega) (by omega) (fun h => ?_) (fun h => absurd h (by omega))
  refine aw_return D_ja_rangeCheck_73 rfl ?_
  exact ⟨rfl, rfl⟩
theorem c_fillR {q N c : Nat} {f : Nat → Int32} {x : Int32} (hN : N < 2 ^ 31) (hc : c ≤ N) (hq : look w q = some (.inl (0, N, .inl f))) : AMet M_ja_fillR [.ref q, .int (nI 0), .int (nI c), .int x] w (Ex none (updw w q (.inl (0, N, .inl (fun j => if j < c then x else f j))))) 0 0 := by
  refine AMet.of [(0, .ref q), (1, .int (nI 0)), (2, .int (nI c)), (3, .int x)] (by decide +kernel) rfl (Nat.le_of_ble_eq_true rfl) ?_
  refine aw_aload_n 0 D_ja_fillR_0 rfl rfl ?_
  refine aw_alen D_ja_fillR_1 hq (by decide) ?_
  refine aw_iload_n 1 D_ja_fillR_2 rfl rfl ?_
  refine aw_iload_n 2 D_ja_fillR_3 rfl rfl ?_
  refine aw_callSv (As := [_, _, _]) D_ja_fillR_4 kv_ja_rangeCheck (c_range hN (Nat.zero_le c) hc) rfl rfl (Nat.le_of_ble_eq_true rfl) (Nat.zero_le _) (Nat.zero_le _) ?_
  refine aw_iload_n 1 D_ja_fillR_7 rfl rfl ?_
  refine aw_istore D_ja_fillR_8 (Nat.le_of_ble_eq_true rfl) rfl ?_
  have key : ∀ (m i : Nat), i ≤ c → c - i = m → AW M_ja_fillR noP (Zp (Ex none (updw w q (.inl (0, N, .inl (fun j => if j < c then x else f j)))))) 0 0 10 [(0, .ref q), (1, .int (nI 0)), (2, .int (nI c)), (3, .int x), (4, .int (nI i))] [] (updw w q (.inl (0, N, .inl (fun j => if j < i then x else f j)))) 0 0 := by
    intro m
    induction m with
    | zero =>
      intro i hi hm
      refine aw_iload D_ja_fillR_10 rfl ?_
      refine aw_iload_n 2 D_ja_fillR_12 rfl rfl ?_
      refine aw_icmp_geN D_ja_fillR_13 (by omega) (by omega) (fun h => ?_) (fun h => absurd h (by omega))
      have : i = c := by omega
      subst this
      refine aw_return D_ja_fillR_27 rfl ?_
      exact ⟨rfl, rfl⟩
    | succ m ih =>
      intro i hi hm
      refine aw_iload D_ja_fillR_10 rfl ?_
      refine aw_iload_n 2 D_ja_fillR_12 rfl rfl ?_
      refine aw_icmp_geN D_ja_fillR_13 (by omega) (by omega) (fun h => absurd h (by omega)) (fun h => ?_)
      refine aw_aload_n 0 D_ja_fillR_16 rfl rfl ?_
      refine aw_iload D_ja_fillR_17 rfl ?_
      refine aw_iload_n 3 D_ja_fillR_19 rfl rfl ?_
      refine aw_iastJ D_ja_fillR_20 (by rw [look_updw hq, if_pos rfl]) (by omega) hN ?_
      first | refine aw_incN D_ja_fillR_21 rfl (Nat.le_of_ble_eq_true rfl) rfl ?_ | refine aw_inc D_ja_fillR_21 rfl (Nat.le_of_ble_eq_true rfl) rfl ?_
      refine aw_goto D_ja_fillR_24 ?_
      rw [updw_twice hq, upd_va, fill_up]
      exact ih (i + 1) (by omega) (by omega)
  have := key c 0 (Nat.zero_le _) rfl
  rw [show (fun j => if j < 0 then x else f j) = f from rfl, updw_same hq] at this
  exact this
/-- how many bits are 1: as the machine counts them -/
def pcI (x0 : Int32) : Int32 :=
  let sh (x : Int32) (k : Nat) : Int32 := (x.toUInt32 >>> ((nI k).toUInt32 &&& Int32.toUInt32 31)).toInt32
  let x1 := x0 - (sh x0 1 &&& nI 1431655765)
  let x2 := (x1 &&& nI 858993459) + (sh x1 2 &&& nI 858993459)
  let x3 := (x2 + sh x2 4) &&& nI 252645135
  let x4 := x3 + sh x3 8
  let x5 := x4 + sh x4 16
  x5 &&& nI 63
def pcL (x0 : Int64) : Int32 :=
  let sh (x : Int64) (k : Nat) : Int64 := (x.toUInt64 >>> ((nI k).toInt64.toUInt64 &&& Int64.toUInt64 63)).toInt64
  let x1 := x0 - (sh x0 1 &&& lN 6148914691236517205)
  let x2 := (x1 &&& lN 3689348814741910323) + (sh x1 2 &&& lN 3689348814741910323)
  let x3 := (x2 + sh x2 4) &&& lN 1085102592571150095
  let x4 := x3 + sh x3 8
  let x5 := x4 + sh x4 16
  let x6 := x5 + sh x5 32
  x6.toInt32 &&& nI 127
theorem c_bitI {x : Int32} : AMet M_ji_bitCount [.int x] w (Ex (some (.int (pcI x))) w) 0 0 := by
  refine AMet.of [(0, .int x)] (by decide +kernel) rfl (Nat.le_of_ble_eq_true rfl) ?_
  refine aw_iload_n 0 D_ji_bitCount_0 rfl rfl ?_
  refine aw_iload_n 0 D_ji_bitCount_1 rfl rfl ?_
  refine aw_iconst (nI 1) D_ji_bitCount_2 rfl ?_
  refine aw_iushr D_ji_bitCount_3 ?_
  refine aw_ldc D_ji_bitCount_4 ?_
  first | with_reducible refine aw_iandN D_ji_bitCount_7 ?_ | refine aw_iand D_ji_bitCount_7 ?_
  first | with_reducible refine aw_isubN D_ji_bitCount_8 (by omega) ?_ | refine aw_isub D_ji_bitCount_8 ?_
  refine aw_istore_n 0 D_ji_bitCount_9 rfl (Nat.le_of_ble_eq_true rfl) rfl ?_
  refine aw_iload_n 0 D_ji_bitCount_10 rfl rfl ?_
  refine aw_ldc D_ji_bitCount_11 ?_
  first | with_reducible refine aw_iandN D_ji_bitCount_14 ?_ | refine aw_iand D_ji_bitCount_14 ?_
  refine aw_iload_n 0 D_ji_bitCount_15 rfl rfl ?_
  refine aw_iconst (nI 2) D_ji_bitCount_16 rfl ?_
  refine aw_iushr D_ji_bitCount_17 ?_
  refine aw_ldc D_ji_bitCount_18 ?_
  first | with_reducible refine aw_iandN D_ji_bitCount_21 ?_ | refine aw_iand D_ji_bitCount_21 ?_
  first | with_reducible refine aw_iaddN D_ji_bitCount_22 ?_ | refine aw_iadd D_ji_bitCount_22 ?_
  refine aw_istore_n 0 D_ji_bitCount_23 rfl (Nat.le_of_ble_eq_true rfl) rfl ?_
  refine aw_iload_n 0 D_ji_bitCount_24 rfl rfl ?_
  refine aw_iload_n 0 D_ji_bitCount_25 rfl rfl ?_
  refine aw_iconst (nI 4) D_ji_bitCount_26 rfl ?_
  refine aw_iushr D_ji_bitCount_27 ?_
  first | with_reducible refine aw_iaddN D_ji_bitCount_28 ?_ | refine aw_iadd D_ji_bitCount_28 ?_
  refine aw_ldc D_ji_bitCount_29 ?_
  first | with_reducible refine aw_iandN D_ji_bitCount_32 ?_ | refine aw_iand D_ji_bitCount_32 ?_
  refine aw_istore_n 0 D_ji_bitCount_33 rfl (Nat.le_of_ble_eq_true rfl) rfl ?_
  refine aw_iload_n 0 D_ji_bitCount_34 rfl rfl ?_
  refine aw_iload_n 0 D_ji_bitCount_35 rfl rfl ?_
  refine aw_bipush (nI 8) D_ji_bitCount_36 rfl ?_
  refine aw_iushr D_ji_bitCount_38 ?_
  first | with_reducible refine aw_iaddN D_ji_bitCount_39 ?_ | refine aw_iadd D_ji_bitCount_39 ?_
  refine aw_istore_n 0 D_ji_bitCount_40 rfl (Nat.le_of_ble_eq_true rfl) rfl ?_
  refine aw_iload_n 0 D_ji_bitCount_41 rfl rfl ?_
  refine aw_iload_n 0 D_ji_bitCount_42 rfl rfl ?_
  refine aw_bipush (nI 16) D_ji_bitCount_43 rfl ?_
  refine aw_iushr D_ji_bitCount_45 ?_
  first | with_reducible refine aw_iaddN D_ji_bitCount_46 ?_ | refine aw_iadd D_ji_bitCount_46 ?_
  refine aw_istore_n 0 D_ji_bitCount_47 rfl (Nat.le_of_ble_eq_true rfl) rfl ?_
  refine aw_iload_n 0 D_ji_bitCount_48 rfl rfl ?_
  refine aw_bipush (nI 63) D_ji_bitCount_49 rfl ?_
  first | with_reducible refine aw_iandN D_ji_bitCount_51 ?_ | refine aw_iand D_ji_bitCount_51 ?_
  refine aw_ireturn D_ji_bitCount_52 rfl rfl ?_
  exact ⟨rfl, rfl⟩
theorem c_bitL {x : Int64} : AMet M_jl_bitCount [.long x] w (Ex (some (.int (pcL x))) w) 0 0 := by
  refine AMet.of [(0, .long x)] (by decide +kernel) rfl (Nat.le_of_ble_eq_true rfl) ?_
  refine aw_lload_n 0 D_jl_bitCount_0 rfl rfl ?_
  refine aw_lload_n 0 D_jl_bitCount_1 rfl rfl ?_
  refine aw_iconst (nI 1) D_jl_bitCount_2 rfl ?_
  refine aw_lushr D_jl_bitCount_3 ?_
  refine aw_ldc2 D_jl_bitCount_4 ?_
  refine aw_land D_jl_bitCount_7 ?_
  first | with_reducible refine aw_lsubN D_jl_bitCount_8 (by omega) ?_ | refine aw_lsub D_jl_bitCount_8 ?_
  refine aw_lstore_n 0 D_jl_bitCount_9 rfl (Nat.le_of_ble_eq_true rfl) rfl ?_
  refine aw_lload_n 0 D_jl_bitCount_10 rfl rfl ?_
  refine aw_ldc2 D_jl_bitCount_11 ?_
  refine aw_land D_jl_bitCount_14 ?_
  refine aw_lload_n 0 D_jl_bitCount_15 rfl rfl ?_
  refine aw_iconst (nI 2) D_jl_bitCount_16 rfl ?_
  refine aw_lushr D_jl_bitCount_17 ?_
  refine aw_ldc2 D_jl_bitCount_18 ?_
  refine aw_land D_jl_bitCount_21 ?_
  first | with_reducible refine aw_laddN D_jl_bitCount_22 ?_ | refine aw_ladd D_jl_bitCount_22 ?_
  refine aw_lstore_n 0 D_jl_bitCount_23 rfl (Nat.le_of_ble_eq_true rfl) rfl ?_
  refine aw_lload_n 0 D_jl_bitCount_24 rfl rfl ?_
  refine aw_lload_n 0 D_jl_bitCount_25 rfl rfl ?_
  refine aw_iconst (nI 4) D_jl_bitCount_26 rfl ?_
  refine aw_lushr D_jl_bitCount_27 ?_
  first | with_reducible refine aw_laddN D_jl_bitCount_28 ?_ | refine aw_ladd D_jl_bitCount_28 ?_
  refine aw_ldc2 D_jl_bitCount_29 ?_
  refine aw_land D_jl_bitCount_32 ?_
  refine aw_lstore_n 0 D_jl_bitCount_33 rfl (Nat.le_of_ble_eq_true rfl) rfl ?_
  refine aw_lload_n 0 D_jl_bitCount_34 rfl rfl ?_
  refine aw_lload_n 0 D_jl_bitCount_35 rfl rfl ?_
  refine aw_bipush (nI 8) D_jl_bitCount_36 rfl ?_
  refine aw_lushr D_jl_bitCount_38 ?_
  first | with_reducible refine aw_laddN D_jl_bitCount_39 ?_ | refine aw_ladd D_jl_bitCount_39 ?_
  refine aw_lstore_n 0 D_jl_bitCount_40 rfl (Nat.le_of_ble_eq_true rfl) rfl ?_
  refine aw_lload_n 0 D_jl_bitCount_41 rfl rfl ?_
  refine aw_lload_n 0 D_jl_bitCount_42 rfl rfl ?_
  refine aw_bipush (nI 16) D_jl_bitCount_43 rfl ?_
  refine aw_lushr D_jl_bitCount_45 ?_
  first | with_reducible refine aw_laddN D_jl_bitCount_46 ?_ | refine aw_ladd D_jl_bitCount_46 ?_
  refine aw_lstore_n 0 D_jl_bitCount_47 rfl (Nat.le_of_ble_eq_true rfl) rfl ?_
  refine aw_lload_n 0 D_jl_bitCount_48 rfl rfl ?_
  refine aw_lload_n 0 D_jl_bitCount_49 rfl rfl ?_
  refine aw_bipush (nI 32) D_jl_bitCount_50 rfl ?_
  refine aw_lushr D_jl_bitCount_52 ?_
  first | with_reducible refine aw_laddN D_jl_bitCount_53 ?_ | refine aw_ladd D_jl_bitCount_53 ?_
  refine aw_lstore_n 0 D_jl_bitCount_54 rfl (Nat.le_of_ble_eq_true rfl) rfl ?_
  refine aw_lload_n 0 D_jl_bitCount_55 rfl rfl ?_
  first | with_reducible refine aw_l2iN D_jl_bitCount_56 ?_ | refine aw_l2i D_jl_bitCount_56 ?_
  refine aw_bipush (nI 127) D_jl_bitCount_57 rfl ?_
  first | with_reducible refine aw_iandN D_jl_bitCount_59 ?_ | refine aw_iand D_jl_bitCount_59 ?_
  refine aw_ireturn D_jl_bitCount_60 rfl rfl ?_
  exact ⟨rfl, rfl⟩
end Jdk
end
section
/-! ### the register -/
abbrev RG (n N ch : Nat) (b bn : Nat → Nat) : List va_E := [.inr (0, [.int (nI n), .int (nI N), .int (nI ch), .ref 17, .ref 33]), .inl (0, 512, .inl (nF b)), .inl (0, 512, .inl (nF bn))]
def ld (n s x : Nat) : Nat := s / 2 + x * 2 ^ (n - 1)
def nx (n : Nat) (b : Nat → Nat) (s : Nat) : Nat := ld n s (b s)
def itr (f : Nat → Nat) : Nat → Nat → Nat
  | 0, s => s
  | k + 1, s => itr f k (f s)
theorem pow_le9 {n : Nat} (h : n ≤ 9) : 2 ^ n ≤ 512 := Nat.le_trans (Nat.pow_le_pow_right (by decide) h) (by decide)
theorem pow_half {n : Nat} (h : 1 ≤ n) : 2 * 2 ^ (n - 1) = 2 ^ n := by
  rw [← Nat.pow_succ']
  congr 1
  omega
theorem ld_lt {n s x : Nat} (hn : 1 ≤ n) (hs : s < 2 ^ n) (hx : x ≤ 1) : ld n s x < 2 ^ n := by
  unfold ld
  have := pow_half hn
  have h2 : x * 2 ^ (n - 1) ≤ 1 * 2 ^ (n - 1) := Nat.mul_le_mul_right _ hx
  omega
theorem nx_lt {n : Nat} {b : Nat → Nat} {s : Nat} (hn : 1 ≤ n) (hs : s < 2 ^ n) (hb : ∀ k, b k ≤ 1) : nx n b s < 2 ^ n := ld_lt hn hs (hb s)
theorem itr_lt {f : Nat → Nat} {N : Nat} (hf : ∀ s, s < N → f s < N) : ∀ k s, s < N → itr f k s < N
  | 0, _, h => h
  | k + 1, s, h => itr_lt hf k (f s) (hf s h)
theorem or_ld {n s x : Nat} (hn : 1 ≤ n) (hs : s < 2 ^ n) : s / 2 ^ 1 ||| x * 2 ^ (n - 1) = ld n s x := by
  unfold ld
  have := pow_half hn
  rw [Nat.or_comm, Nat.mul_comm x, ← Nat.two_pow_add_eq_or_of_lt (by omega)]
  omega
theorem vp_of {x : Int32} {N : Nat} (h0 : ¬ x < 0) (h1 : ¬ nI N ≤ x) (hN : N < 2 ^ 31) : vp_in x N := by
  rcases pk_ix x hN with h | h | ⟨j, hj, rfl⟩
  · exact absurd h h0
  · exact absurd h h1
  · exact vp_in_nI hj hN
section Reg
variable {mn ri tr sh rr mo dy : List va_E} {n N ch : Nat} {b bn : Nat → Nat}
theorem c_rg_hasT {s : Nat} (hs : s < N) (hN : N ≤ 512) : AMet M_rg_has [.ref 1, .int (nI s)] [mn, RG n N ch b bn, ri, tr, sh, rr, mo, dy] (Ex (some (.int (nI 1))) [mn, RG n N ch b bn, ri, tr, sh, rr, mo, dy]) 0 0 := by
  refine AMet.of [(0, .ref 1), (1, .int (nI s))] (by decide +kernel) rfl (Nat.le_of_ble_eq_true rfl) ?_
  refine aw_iload_n 1 D_rg_has_0 rfl rfl ?_
  refine aw_if_ltN D_rg_has_1 (by omega) ?_
  refine aw_iload_n 1 D_rg_has_4 rfl rfl ?_
  refine aw_aload_n 0 D_rg_has_5 rfl rfl ?_
  refine aw_get D_rg_has_6 rfl rfl ?_
  refine aw_icmp_geN D_rg_has_9 (by omega) (by omega) (fun h => absurd h (by omega)) (fun h => ?_)
  refine aw_iconst (nI 1) D_rg_has_12 rfl ?_
  refine aw_goto D_rg_has_13 ?_
  refine aw_ireturn D_rg_has_17 rfl rfl ?_
  exact ⟨rfl, rfl⟩
theorem c_rg_hasF {x : Int32} (hx : ¬ vp_in x N) (hN : N ≤ 512) : AMet M_rg_has [.ref 1, .int x] [mn, RG n N ch b bn, ri, tr, sh, rr, mo, dy] (Ex (some (.int (nI 0))) [mn, RG n N ch b bn, ri, tr, sh, rr, mo, dy]) 0 0 := by
  refine AMet.of [(0, .ref 1), (1, .int x)] (by decide +kernel) rfl (Nat.le_of_ble_eq_true rfl) ?_
  refine aw_iload_n 1 D_rg_has_0 rfl rfl ?_
  refine aw_if_lt D_rg_has_1 (fun h => ?_) (fun h => ?_)
  · refine aw_iconst (nI 0) D_rg_has_16 rfl ?_
    refine aw_ireturn D_rg_has_17 rfl rfl ?_
    exact ⟨rfl, rfl⟩
  · refine aw_iload_n 1 D_rg_has_4 rfl rfl ?_
    refine aw_aload_n 0 D_rg_has_5 rfl rfl ?_
    refine aw_get D_rg_has_6 rfl rfl ?_
    refine aw_icmp_ge D_rg_has_9 (fun h1 => ?_) (fun h1 => ?_)
    · refine aw_iconst (nI 0) D_rg_has_16 rfl ?_
      refine aw_ireturn D_rg_has_17 rfl rfl ?_
      exact ⟨rfl, rfl⟩
    · exact absurd (vp_of h h1 (by omega)) hx
theorem c_rg_hasRun {s k : Nat} (hs : s < 2 ^ 31) (hk : k < 2 ^ 31) (hN : N ≤ 512) : AMet M_rg_hasRun [.ref 1, .int (nI s), .int (nI k)] [mn, RG n N ch b bn, ri, tr, sh, rr, mo, dy] (Ex (some (.int (nI (if s + k ≤ N then 1 else 0)))) [mn, RG n N ch b bn, ri, tr, sh, rr, mo, dy]) 0 0 := by
  refine AMet.of [(0, .ref 1), (1, .int (nI s)), (2, .int (nI k))] (by decide +kernel) rfl (Nat.le_of_ble_eq_true rfl) ?_
  refine aw_iload_n 1 D_rg_hasRun_0 rfl rfl ?_
  refine aw_if_ltN D_rg_hasRun_1 (by omega) ?_
  refine aw_iload_n 1 D_rg_hasRun_4 rfl rfl ?_
  first | with_reducible refine aw_i2lN D_rg_hasRun_5 (by omega) ?_ | refine aw_i2l D_rg_hasRun_5 ?_
  refine aw_iload_n 2 D_rg_hasRun_6 rfl rfl ?_
  first | with_reducible refine aw_i2lN D_rg_hasRun_7 (by omega) ?_ | refine aw_i2l D_rg_hasRun_7 ?_
  first | with_reducible refine aw_laddN D_rg_hasRun_8 ?_ | refine aw_ladd D_rg_hasRun_8 ?_
  refine aw_aload_n 0 D_rg_hasRun_9 rfl rfl ?_
  refine aw_get D_rg_hasRun_10 rfl rfl ?_
  first | with_reducible refine aw_i2lN D_rg_hasRun_13 (by omega) ?_ | refine aw_i2l D_rg_hasRun_13 ?_
  refine aw_lcmp D_rg_hasRun_14 ?_
  refine aw_if_gt D_rg_hasRun_15 (fun h => ?_) (fun h => ?_)
  · rw [lg_cmp_gt, pk_lLT (by omega) (by omega)] at h
    refine aw_iconst (nI 0) D_rg_hasRun_22 rfl ?_
    rw [if_neg (by omega)]
    refine aw_ireturn D_rg_hasRun_23 rfl rfl ?_
    exact ⟨rfl, rfl⟩
  · rw [lg_cmp_gt, pk_lLT (by omega) (by omega)] at h
    refine aw_iconst (nI 1) D_rg_hasRun_18 rfl ?_
    refine aw_goto D_rg_hasRun_19 ?_
    rw [if_pos (by omega)]
    refine aw_ireturn D_rg_hasRun_23 rfl rfl ?_
    exact ⟨rfl, rfl⟩
theorem c_rg_write {s x : Nat} (hs : s < 512) : AMet M_rg_write [.ref 1, .int (nI s), .int (nI x)] [mn, RG n N ch b bn, ri, tr, sh, rr, mo, dy] (Ex none [mn, RG n N 1 (va_up b s x) bn, ri, tr, sh, rr, mo, dy]) 0 0 := by
  refine AMet.of [(0, .ref 1), (1, .int (nI s)), (2, .int (nI x))] (by decide +kernel) rfl (Nat.le_of_ble_eq_true rfl) ?_
  refine aw_aload_n 0 D_rg_write_0 rfl rfl ?_
  refine aw_get D_rg_write_1 rfl rfl ?_
  refine aw_iload_n 1 D_rg_write_4 rfl rfl ?_
  refine aw_iload_n 2 D_rg_write_5 rfl rfl ?_
  refine aw_iastN D_rg_write_6 rfl (by omega) (by omega) ?_
  refine aw_aload_n 0 D_rg_write_7 rfl rfl ?_
  refine aw_iconst (nI 1) D_rg_write_8 rfl ?_
  refine aw_put tc_rg D_rg_write_9 rfl (Nat.le_of_ble_eq_true rfl) rfl rfl ?_
  refine aw_return D_rg_write_12 rfl ?_
  exact ⟨rfl, rfl⟩
theorem c_rg_restart {k : Nat} (hk : k ≤ 9) : AMet M_rg_restart [.ref 1, .int (nI k)] [mn, RG n N ch b bn, ri, tr, sh, rr, mo, dy] (Ex none [mn, RG k (2 ^ k) 1 (fun _ => 0) bn, ri, tr, sh, rr, mo, dy]) 0 0 := by
  have hp := pow_le9 hk
  refine AMet.of [(0, .ref 1), (1, .int (nI k))] (by decide +kernel) rfl (Nat.le_of_ble_eq_true rfl) ?_
  refine aw_aload_n 0 D_rg_restart_0 rfl rfl ?_
  refine aw_iload_n 1 D_rg_restart_1 rfl rfl ?_
  refine aw_put tc_rg D_rg_restart_2 rfl (Nat.le_of_ble_eq_true rfl) rfl rfl ?_
  refine aw_aload_n 0 D_rg_restart_5 rfl rfl ?_
  refine aw_iconst (nI 1) D_rg_restart_6 rfl ?_
  refine aw_iload_n 1 D_rg_restart_7 rfl rfl ?_
  first | with_reducible refine aw_ishlN D_rg_restart_8 (by omega) (by omega) ?_ | refine aw_ishl D_rg_restart_8 ?_
  refine aw_put tc_rg D_rg_restart_9 rfl (Nat.le_of_ble_eq_true rfl) rfl rfl ?_
  refine aw_aload_n 0 D_rg_restart_12 rfl rfl ?_
  refine aw_get D_rg_restart_13 rfl rfl ?_
  refine aw_iconst (nI 0) D_rg_restart_16 rfl ?_
  refine aw_callSv (As := [_, _]) D_rg_restart_17 kv_ja_fillI (c_fillI (q := 17) (N := 512) (by decide) rfl) rfl rfl (Nat.le_of_ble_eq_true rfl) (Nat.zero_le _) (Nat.zero_le _) ?_
  refine aw_row (q := 17) (g := nF (fun _ => 0)) rfl (fun j hj => by rw [if_pos hj]) ?_
  refine aw_aload_n 0 D_rg_restart_20 rfl rfl ?_
  refine aw_iconst (nI 1) D_rg_restart_21 rfl ?_
  refine aw_put tc_rg D_rg_restart_22 rfl (Nat.le_of_ble_eq_true rfl) rfl rfl ?_
  rw [Nat.one_mul]
  refine aw_return D_rg_restart_25 rfl ?_
  exact ⟨rfl, rfl⟩
theorem c_rg_lead {s x : Nat} (hn : 1 ≤ n) (hn9 : n ≤ 9) (hs : s < 2 ^ n) (hx : x ≤ 1) : AMet M_rg_lead [.ref 1, .int (nI s), .int (nI x)] [mn, RG n N ch b bn, ri, tr, sh, rr, mo, dy] (Ex (some (.int (nI (ld n s x)))) [mn, RG n N ch b bn, ri, tr, sh, rr, mo, dy]) 0 0 := by
  have hp := pow_le9 hn9
  have hh := pow_half hn
  have h1 : x * 2 ^ (n - 1) ≤ 1 * 2 ^ (n - 1) := Nat.mul_le_mul_right _ hx
  refine AMet.of [(0, .ref 1), (1, .int (nI s)), (2, .int (nI x))] (by decide +kernel) rfl (Nat.le_of_ble_eq_true rfl) ?_
  refine aw_iload_n 1 D_rg_lead_0 rfl rfl ?_
  refine aw_iconst (nI 1) D_rg_lead_1 rfl ?_
  first | with_reducible refine aw_ishrN D_rg_lead_2 (by omega) (by omega) ?_ | refine aw_ishr D_rg_lead_2 ?_
  refine aw_iload_n 2 D_rg_lead_3 rfl rfl ?_
  refine aw_aload_n 0 D_rg_lead_4 rfl rfl ?_
  refine aw_get D_rg_lead_5 rfl rfl ?_
  refine aw_iconst (nI 1) D_rg_lead_8 rfl ?_
  first | with_reducible refine aw_isubN D_rg_lead_9 (by omega) ?_ | refine aw_isub D_rg_lead_9 ?_
  first | with_reducible refine aw_ishlN D_rg_lead_10 (by omega) (by omega) ?_ | refine aw_ishl D_rg_lead_10 ?_
  first | with_reducible refine aw_iorN D_rg_lead_11 ?_ | refine aw_ior D_rg_lead_11 ?_
  rw [or_ld hn hs]
  refine aw_ireturn D_rg_lead_12 rfl rfl ?_
  exact ⟨rfl, rfl⟩
theorem c_rg_next {s : Nat} (hn : 1 ≤ n) (hn9 : n ≤ 9) (hs : s < 2 ^ n) (hb : ∀ k, b k ≤ 1) : AMet M_rg_next [.ref 1, .int (nI s)] [mn, RG n N ch b bn, ri, tr, sh, rr, mo, dy] (Ex (some (.int (nI (nx n b s)))) [mn, RG n N ch b bn, ri, tr, sh, rr, mo, dy]) 0 0 := by
  have hp := pow_le9 hn9
  refine AMet.of [(0, .ref 1), (1, .int (nI s))] (by decide +kernel) rfl (Nat.le_of_ble_eq_true rfl) ?_
  refine aw_aload_n 0 D_rg_next_0 rfl rfl ?_
  refine aw_iload_n 1 D_rg_next_1 rfl rfl ?_
  refine aw_aload_n 0 D_rg_next_2 rfl rfl ?_
  refine aw_get D_rg_next_3 rfl rfl ?_
  refine aw_iload_n 1 D_rg_next_6 rfl rfl ?_
  refine aw_ialdN D_rg_next_7 rfl (by omega) (by omega) ?_
  refine aw_callV1 (As := [_, _]) D_rg_next_8 kv_rg_lead (c_rg_lead (x := b s) hn hn9 hs (hb s)) rfl rfl rfl rfl rfl (Nat.le_of_ble_eq_true rfl) (Nat.zero_le _) (Nat.zero_le _) ?_
  refine aw_ireturn D_rg_next_11 rfl rfl ?_
  exact ⟨rfl, rfl⟩
theorem c_rg_walk {s k : Nat} (hn : 1 ≤ n) (hn9 : n ≤ 9) (hs : s < 2 ^ n) (hb : ∀ k, b k ≤ 1) (hk : k < 2 ^ 31) : AMet M_rg_walk [.ref 1, .int (nI s), .int (nI k)] [mn, RG n N ch b bn, ri, tr, sh, rr, mo, dy] (Ex (some (.int (nI (itr (nx n b) k s)))) [mn, RG n N ch b bn, ri, tr, sh, rr, mo, dy]) 0 0 := by
  refine AMet.of [(0, .ref 1), (1, .int (nI s)), (2, .int (nI k))] (by decide +kernel) rfl (Nat.le_of_ble_eq_true rfl) ?_
  have key : ∀ (m i t : Nat), i + m = k → t < 2 ^ n → AW M_rg_walk noP (Zp (Ex (some (.int (nI (itr (nx n b) m t)))) [mn, RG n N ch b bn, ri, tr, sh, rr, mo, dy])) 0 0 5 [(0, .ref 1), (1, .int (nI s)), (2, .int (nI k)), (3, .int (nI t)), (4, .int (nI i))] [] [mn, RG n N ch b bn, ri, tr, sh, rr, mo, dy] 0 0 := by
    intro m
    induction m with
    | zero =>
      intro i t hi ht
      refine aw_iload D_rg_walk_5 rfl ?_
      refine aw_iload_n 2 D_rg_walk_7 rfl rfl ?_
      refine aw_icmp_geN D_rg_walk_8 (by omega) (by omega) (fun h => ?_) (fun h => absurd h (by omega))
      refine aw_iload_n 3 D_rg_walk_23 rfl rfl ?_
      refine aw_ireturn D_rg_walk_24 rfl rfl ?_
      exact ⟨rfl, rfl⟩
    | succ m ih =>
      intro i t hi ht
      refine aw_iload D_rg_walk_5 rfl ?_
      refine aw_iload_n 2 D_rg_walk_7 rfl rfl ?_
      refine aw_icmp_geN D_rg_walk_8 (by omega) (by omega) (fun h => absurd h (by omega)) (fun h => ?_)
      refine aw_aload_n 0 D_rg_walk_11 rfl rfl ?_
      refine aw_iload_n 3 D_rg_walk_12 rfl rfl ?_
      refine aw_callV1 (As := [_]) D_rg_walk_13 kv_rg_next (c_rg_next hn hn9 ht hb) rfl rfl rfl rfl rfl (Nat.le_of_ble_eq_true rfl) (Nat.zero_le _) (Nat.zero_le _) ?_
      refine aw_istore_n 3 D_rg_walk_16 rfl (Nat.le_of_ble_eq_true rfl) rfl ?_
      first | refine aw_incN D_rg_walk_17 rfl (Nat.le_of_ble_eq_true rfl) rfl ?_ | refine aw_inc D_rg_walk_17 rfl (Nat.le_of_ble_eq_true rfl) rfl ?_
      refine aw_goto D_rg_walk_20 ?_
      exact ih (i + 1) (nx n b t) (by omega) (nx_lt hn ht hb)
  refine aw_iload_n 1 D_rg_walk_0 rfl rfl ?_
  refine aw_istore_n 3 D_rg_walk_1 rfl (Nat.le_of_ble_eq_true rfl) rfl ?_
  refine aw_iconst (nI 0) D_rg_walk_2 rfl ?_
  refine aw_istore D_rg_walk_3 (Nat.le_of_ble_eq_true rfl) rfl ?_
  exact key k 0 s (by omega) hs
theorem c_rg_even {s : Nat} (hn9 : n ≤ 9) (hs : s < 2 ^ n) (hN : N = 2 ^ n) : AMet M_rg_evenBefore [.ref 1, .int (nI s)] [mn, RG n N ch b bn, ri, tr, sh, rr, mo, dy] (Ex (some (.int (nI (2 * s % 2 ^ n)))) [mn, RG n N ch b bn, ri, tr, sh, rr, mo, dy]) 0 0 := by
  have hp := pow_le9 hn9
  have h0 : 0 < 2 ^ n := Nat.two_pow_pos n
  subst hN
  refine AMet.of [(0, .ref 1), (1, .int (nI s))] (by decide +kernel) rfl (Nat.le_of_ble_eq_true rfl) ?_
  refine aw_iload_n 1 D_rg_evenBefore_0 rfl rfl ?_
  refine aw_iconst (nI 1) D_rg_evenBefore_1 rfl ?_
  first | with_reducible refine aw_ishlN D_rg_evenBefore_2 (by omega) (by omega) ?_ | refine aw_ishl D_rg_evenBefore_2 ?_
  refine aw_aload_n 0 D_rg_evenBefore_3 rfl rfl ?_
  refine aw_get D_rg_evenBefore_4 rfl rfl ?_
  refine aw_iconst (nI 1) D_rg_evenBefore_7 rfl ?_
  first | with_reducible refine aw_isubN D_rg_evenBefore_8 (by omega) ?_ | refine aw_isub D_rg_evenBefore_8 ?_
  first | with_reducible refine aw_iandN D_rg_evenBefore_9 ?_ | refine aw_iand D_rg_evenBefore_9 ?_
  rw [Nat.and_two_pow_sub_one_eq_mod, show s * 2 ^ 1 = 2 * s by omega]
  refine aw_ireturn D_rg_evenBefore_10 rfl rfl ?_
  exact ⟨rfl, rfl⟩
def cb (n : Nat) (b : Nat → Nat) (s : Nat) : Nat := (if b (2 * s % 2 ^ n) = s / 2 ^ (n - 1) then 1 else 0) + (if b (2 * s % 2 ^ n + 1) = s / 2 ^ (n - 1) then 1 else 0)
theorem even_lt {n s : Nat} (hn : 1 ≤ n) : 2 * s % 2 ^ n + 1 < 2 ^ n := by
  have hh := pow_half hn
  have h1 : 2 * s % 2 ^ n = 2 * (s % 2 ^ (n - 1)) := by rw [← hh, Nat.mul_mod_mul_left]
  have h2 : s % 2 ^ (n - 1) < 2 ^ (n - 1) := Nat.mod_lt _ (Nat.two_pow_pos _)
  omega
theorem c_rg_cb {s : Nat} (hn : 1 ≤ n) (hn9 : n ≤ 9) (hs : s < 2 ^ n) (hN : N = 2 ^ n) (hb : ∀ k, b k ≤ 1) : AMet M_rg_countBefore [.ref 1, .int (nI s)] [mn, RG n N ch b bn, ri, tr, sh, rr, mo, dy] (Ex (some (.int (nI (cb n b s)))) [mn, RG n N ch b bn, ri, tr, sh, rr, mo, dy]) 0 0 := by
  have hp := pow_le9 hn9
  have he := even_lt (s := s) hn
  have hdiv : s / 2 ^ (n - 1) ≤ s := Nat.div_le_self _ _
  have hb1 := hb (2 * s % 2 ^ n)
  have hb2 := hb (2 * s % 2 ^ n + 1)
  refine AMet.of [(0, .ref 1), (1, .int (nI s))] (by decide +kernel) rfl (Nat.le_of_ble_eq_true rfl) ?_
  refine aw_aload_n 0 D_rg_countBefore_0 rfl rfl ?_
  refine aw_iload_n 1 D_rg_countBefore_1 rfl rfl ?_
  refine aw_callV1 (As := [_]) D_rg_countBefore_2 kv_rg_evenBefore (c_rg_even hn9 hs hN) rfl rfl rfl rfl rfl (Nat.le_of_ble_eq_true rfl) (Nat.zero_le _) (Nat.zero_le _) ?_
  refine aw_istore_n 2 D_rg_countBefore_5 rfl (Nat.le_of_ble_eq_true rfl) rfl ?_
  refine aw_iload_n 1 D_rg_countBefore_6 rfl rfl ?_
  refine aw_aload_n 0 D_rg_countBefore_7 rfl rfl ?_
  refine aw_get D_rg_countBefore_8 rfl rfl ?_
  refine aw_iconst (nI 1) D_rg_countBefore_11 rfl ?_
  first | with_reducible refine aw_isubN D_rg_countBefore_12 (by omega) ?_ | refine aw_isub D_rg_countBefore_12 ?_
  first | with_reducible refine aw_ishrN D_rg_countBefore_13 (by omega) (by omega) ?_ | refine aw_ishr D_rg_countBefore_13 ?_
  refine aw_istore_n 3 D_rg_countBefore_14 rfl (Nat.le_of_ble_eq_true rfl) rfl ?_
  refine aw_aload_n 0 D_rg_countBefore_15 rfl rfl ?_
  refine aw_get D_rg_countBefore_16 rfl rfl ?_
  refine aw_iload_n 2 D_rg_countBefore_19 rfl rfl ?_
  refine aw_ialdN D_rg_countBefore_20 rfl (by omega) (by omega) ?_
  refine aw_iload_n 3 D_rg_countBefore_21 rfl rfl ?_
  unfold cb
  refine aw_icmp_neN D_rg_countBefore_22 (by omega) (by omega) (fun h => ?_) (fun h => ?_)
  · rw [if_neg h]
    refine aw_iconst (nI 0) D_rg_countBefore_29 rfl ?_
    refine aw_aload_n 0 D_rg_countBefore_30 rfl rfl ?_
    refine aw_get D_rg_countBefore_31 rfl rfl ?_
    refine aw_iload_n 2 D_rg_countBefore_34 rfl rfl ?_
    refine aw_iconst (nI 1) D_rg_countBefore_35 rfl ?_
    first | with_reducible refine aw_iaddN D_rg_countBefore_36 ?_ | refine aw_iadd D_rg_countBefore_36 ?_
    refine aw_ialdN D_rg_countBefore_37 rfl (by omega) (by omega) ?_
    refine aw_iload_n 3 D_rg_countBefore_38 rfl rfl ?_
    refine aw_icmp_neN D_rg_countBefore_39 (by omega) (by omega) (fun h2 => ?_) (fun h2 => ?_)
    · rw [if_neg h2]
      refine aw_iconst (nI 0) D_rg_countBefore_46 rfl ?_
      first | with_reducible refine aw_iaddN D_rg_countBefore_47 ?_ | refine aw_iadd D_rg_countBefore_47 ?_
      refine aw_ireturn D_rg_countBefore_48 rfl rfl ?_
      exact ⟨rfl, rfl⟩
    · rw [if_pos h2]
      refine aw_iconst (nI 1) D_rg_countBefore_42 rfl ?_
      refine aw_goto D_rg_countBefore_43 ?_
      first | with_reducible refine aw_iaddN D_rg_countBefore_47 ?_ | refine aw_iadd D_rg_countBefore_47 ?_
      refine aw_ireturn D_rg_countBefore_48 rfl rfl ?_
      exact ⟨rfl, rfl⟩
  · rw [if_pos h]
    refine aw_iconst (nI 1) D_rg_countBefore_25 rfl ?_
    refine aw_goto D_rg_countBefore_26 ?_
    refine aw_aload_n 0 D_rg_countBefore_30 rfl rfl ?_
    refine aw_get D_rg_countBefore_31 rfl rfl ?_
    refine aw_iload_n 2 D_rg_countBefore_34 rfl rfl ?_
    refine aw_iconst (nI 1) D_rg_countBefore_35 rfl ?_
    first | with_reducible refine aw_iaddN D_rg_countBefore_36 ?_ | refine aw_iadd D_rg_countBefore_36 ?_
    refine aw_ialdN D_rg_countBefore_37 rfl (by omega) (by omega) ?_
    refine aw_iload_n 3 D_rg_countBefore_38 rfl rfl ?_
    refine aw_icmp_neN D_rg_countBefore_39 (by omega) (by omega) (fun h2 => ?_) (fun h2 => ?_)
    · rw [if_neg h2]
      refine aw_iconst (nI 0) D_rg_countBefore_46 rfl ?_
      first | with_reducible refine aw_iaddN D_rg_countBefore_47 ?_ | refine aw_iadd D_rg_countBefore_47 ?_
      refine aw_ireturn D_rg_countBefore_48 rfl rfl ?_
      exact ⟨rfl, rfl⟩
    · rw [if_pos h2]
      refine aw_iconst (nI 1) D_rg_countBefore_42 rfl ?_
      refine aw_goto D_rg_countBefore_43 ?_
      first | with_reducible refine aw_iaddN D_rg_countBefore_47 ?_ | refine aw_iadd D_rg_countBefore_47 ?_
      refine aw_ireturn D_rg_countBefore_48 rfl rfl ?_
      exact ⟨rfl, rfl⟩
theorem c_rg_ones (hN : N ≤ 512) (hb : ∀ k, b k ≤ 1) : AMet M_rg_countOnes [.ref 1] [mn, RG n N ch b bn, ri, tr, sh, rr, mo, dy] (Ex (some (.int (nI (fb_sm b N)))) [mn, RG n N ch b bn, ri, tr, sh, rr, mo, dy]) 0 0 := by
  refine AMet.of [(0, .ref 1)] (by decide +kernel) rfl (Nat.le_of_ble_eq_true rfl) ?_
  have key : ∀ (m i : Nat), i + m = N → AW M_rg_countOnes noP (Zp (Ex (some (.int (nI (fb_sm b N)))) [mn, RG n N ch b bn, ri, tr, sh, rr, mo, dy])) 0 0 4 [(0, .ref 1), (1, .int (nI (fb_sm b i))), (2, .int (nI i))] [] [mn, RG n N ch b bn, ri, tr, sh, rr, mo, dy] 0 0 := by
    intro m
    induction m with
    | zero =>
      intro i hi
      refine aw_iload_n 2 D_rg_countOnes_4 rfl rfl ?_
      refine aw_aload_n 0 D_rg_countOnes_5 rfl rfl ?_
      refine aw_get D_rg_countOnes_6 rfl rfl ?_
      refine aw_icmp_geN D_rg_countOnes_9 (by omega) (by omega) (fun h => ?_) (fun h => absurd h (by omega))
      refine aw_iload_n 1 D_rg_countOnes_27 rfl rfl ?_
      refine aw_ireturn D_rg_countOnes_28 rfl rfl ?_
      exact ⟨by rw [show i = N by omega], rfl⟩
    | succ m ih =>
      intro i hi
      refine aw_iload_n 2 D_rg_countOnes_4 rfl rfl ?_
      refine aw_aload_n 0 D_rg_countOnes_5 rfl rfl ?_
      refine aw_get D_rg_countOnes_6 rfl rfl ?_
      refine aw_icmp_geN D_rg_countOnes_9 (by omega) (by omega) (fun h => absurd h (by omega)) (fun h => ?_)
      refine aw_iload_n 1 D_rg_countOnes_12 rfl rfl ?_
      refine aw_aload_n 0 D_rg_countOnes_13 rfl rfl ?_
      refine aw_get D_rg_countOnes_14 rfl rfl ?_
      refine aw_iload_n 2 D_rg_countOnes_17 rfl rfl ?_
      refine aw_ialdN D_rg_countOnes_18 rfl (by omega) (by omega) ?_
      first | with_reducible refine aw_iaddN D_rg_countOnes_19 ?_ | refine aw_iadd D_rg_countOnes_19 ?_
      refine aw_istore_n 1 D_rg_countOnes_20 rfl (Nat.le_of_ble_eq_true rfl) rfl ?_
      first | refine aw_incN D_rg_countOnes_21 rfl (Nat.le_of_ble_eq_true rfl) rfl ?_ | refine aw_inc D_rg_countOnes_21 rfl (Nat.le_of_ble_eq_true rfl) rfl ?_
      refine aw_goto D_rg_countOnes_24 ?_
      exact ih (i + 1) (by omega)
  refine aw_iconst (nI 0) D_rg_countOnes_0 rfl ?_
  refine aw_istore_n 1 D_rg_countOnes_1 rfl (Nat.le_of_ble_eq_true rfl) rfl ?_
  refine aw_iconst (nI 0) D_rg_countOnes_2 rfl ?_
  refine aw_istore_n 2 D_rg_countOnes_3 rfl (Nat.le_of_ble_eq_true rfl) rfl ?_
  exact key N 0 (by omega)
def pureTo (b : Nat → Nat) : Nat → Bool
  | 0 => true
  | k + 1 => pureTo b k && b (2 * k) != b (2 * k + 1)
theorem pureTo_iff (b : Nat → Nat) : ∀ k, pureTo b k = true ↔ ∀ t, t < k → b (2 * t) ≠ b (2 * t + 1)
  | 0 => ⟨fun _ t ht => absurd ht (by omega), fun _ => rfl⟩
  | k + 1 => by
    unfold pureTo
    rw [Bool.and_eq_true, pureTo_iff b k, bne_iff_ne]
    constructor
    · intro h t ht
      rcases Nat.lt_or_ge t k with q | q
      · exact h.1 t q
      · rw [show t = k by omega]; exact h.2
    · exact fun h => ⟨fun t ht => h t (by omega), h k (by omega)⟩
theorem c_rg_pure (hN : N ≤ 512) (h2 : N % 2 = 0) (hb : ∀ k, b k ≤ 1) : AMet M_rg_isPure [.ref 1] [mn, RG n N ch b bn, ri, tr, sh, rr, mo, dy] (Ex (some (.int (nI (if pureTo b (N / 2) then 1 else 0)))) [mn, RG n N ch b bn, ri, tr, sh, rr, mo, dy]) 0 0 := by
  refine AMet.of [(0, .ref 1)] (by decide +kernel) rfl (Nat.le_of_ble_eq_true rfl) ?_
  have key : ∀ (m i : Nat), i + m = N / 2 → pureTo b i = true → AW M_rg_isPure noP (Zp (Ex (some (.int (nI (if pureTo b (N / 2) then 1 else 0)))) [mn, RG n N ch b bn, ri, tr, sh, rr, mo, dy])) 0 0 2 [(0, .ref 1), (1, .int (nI (2 * i)))] [] [mn, RG n N ch b bn, ri, tr, sh, rr, mo, dy] 0 0 := by
    intro m
    induction m with
    | zero =>
      intro i hi hpu
      refine aw_iload_n 1 D_rg_isPure_2 rfl rfl ?_
      refine aw_aload_n 0 D_rg_isPure_3 rfl rfl ?_
      refine aw_get D_rg_isPure_4 rfl rfl ?_
      refine aw_icmp_geN D_rg_isPure_7 (by omega) (by omega) (fun h => ?_) (fun h => absurd h (by omega))
      refine aw_iconst (nI 1) D_rg_isPure_35 rfl ?_
      refine aw_ireturn D_rg_isPure_36 rfl rfl ?_
      exact ⟨by rw [show N / 2 = i by omega, hpu]; rfl, rfl⟩
    | succ m ih =>
      intro i hi hpu
      have hb1 := hb (2 * i)
      have hb2 := hb (2 * i + 1)
      refine aw_iload_n 1 D_rg_isPure_2 rfl rfl ?_
      refine aw_aload_n 0 D_rg_isPure_3 rfl rfl ?_
      refine aw_get D_rg_isPure_4 rfl rfl ?_
      refine aw_icmp_geN D_rg_isPure_7 (by omega) (by omega) (fun h => absurd h (by omega)) (fun h => ?_)
      refine aw_aload_n 0 D_rg_isPure_10 rfl rfl ?_
      refine aw_get D_rg_isPure_11 rfl rfl ?_
      refine aw_iload_n 1 D_rg_isPure_14 rfl rfl ?_
      refine aw_ialdN D_rg_isPure_15 rfl (by omega) (by omega) ?_
      refine aw_aload_n 0 D_rg_isPure_16 rfl rfl ?_
      refine aw_get D_rg_isPure_17 rfl rfl ?_
      refine aw_iload_n 1 D_rg_isPure_20 rfl rfl ?_
      refine aw_iconst (nI 1) D_rg_isPure_21 rfl ?_
      first | with_reducible refine aw_iaddN D_rg_isPure_22 ?_ | refine aw_iadd D_rg_isPure_22 ?_
      refine aw_ialdN D_rg_isPure_23 rfl (by omega) (by omega) ?_
      refine aw_icmp_neN D_rg_isPure_24 (by omega) (by omega) (fun h => ?_) (fun h => ?_)
      · refine aw_inc2N D_rg_isPure_29 rfl (Nat.le_of_ble_eq_true rfl) rfl ?_
        refine aw_goto D_rg_isPure_32 ?_
        exact ih (i + 1) (by omega) (by unfold pureTo; rw [hpu, Bool.true_and, bne_iff_ne]; exact h)
      · refine aw_iconst (nI 0) D_rg_isPure_27 rfl ?_
        have hf : ¬ pureTo b (N / 2) = true := fun e => (pureTo_iff b _).mp e i (by omega) h
        refine aw_ireturn D_rg_isPure_28 rfl rfl ?_
        exact ⟨by rw [if_neg hf], rfl⟩
  refine aw_iconst (nI 0) D_rg_isPure_0 rfl ?_
  refine aw_istore_n 1 D_rg_isPure_1 rfl (Nat.le_of_ble_eq_true rfl) rfl ?_
  exact key (N / 2) 0 (by omega) rfl
theorem c_rg_turn {t : Nat} (ht : 2 * t + 1 < 512) (hb : ∀ k, b k ≤ 1) : AMet M_rg_turnPair [.ref 1, .int (nI t)] [mn, RG n N ch b bn, ri, tr, sh, rr, mo, dy] (Ex none [mn, RG n N 1 (va_up (va_up b (2 * t) (1 - b (2 * t))) (2 * t + 1) (1 - b (2 * t + 1))) bn, ri, tr, sh, rr, mo, dy]) 0 0 := by
  have hb1 := hb (2 * t)
  have hb2 := hb (2 * t + 1)
  refine AMet.of [(0, .ref 1), (1, .int (nI t))] (by decide +kernel) rfl (Nat.le_of_ble_eq_true rfl) ?_
  refine aw_aload_n 0 D_rg_turnPair_0 rfl rfl ?_
  refine aw_iconst (nI 2) D_rg_turnPair_1 rfl ?_
  refine aw_iload_n 1 D_rg_turnPair_2 rfl rfl ?_
  first | with_reducible refine aw_imulN D_rg_turnPair_3 ?_ | refine aw_imul D_rg_turnPair_3 ?_
  refine aw_iconst (nI 1) D_rg_turnPair_4 rfl ?_
  refine aw_aload_n 0 D_rg_turnPair_5 rfl rfl ?_
  refine aw_get D_rg_turnPair_6 rfl rfl ?_
  refine aw_iconst (nI 2) D_rg_turnPair_9 rfl ?_
  refine aw_iload_n 1 D_rg_turnPair_10 rfl rfl ?_
  first | with_reducible refine aw_imulN D_rg_turnPair_11 ?_ | refine aw_imul D_rg_turnPair_11 ?_
  refine aw_ialdN D_rg_turnPair_12 rfl (by omega) (by omega) ?_
  first | with_reducible refine aw_isubN D_rg_turnPair_13 (by omega) ?_ | refine aw_isub D_rg_turnPair_13 ?_
  refine aw_callVv (As := [_, _]) D_rg_turnPair_14 kv_rg_write (c_rg_write (by omega)) rfl rfl rfl rfl rfl (Nat.le_of_ble_eq_true rfl) (Nat.zero_le _) (Nat.zero_le _) ?_
  refine aw_aload_n 0 D_rg_turnPair_17 rfl rfl ?_
  refine aw_iconst (nI 2) D_rg_turnPair_18 rfl ?_
  refine aw_iload_n 1 D_rg_turnPair_19 rfl rfl ?_
  first | with_reducible refine aw_imulN D_rg_turnPair_20 ?_ | refine aw_imul D_rg_turnPair_20 ?_
  refine aw_iconst (nI 1) D_rg_turnPair_21 rfl ?_
  first | with_reducible refine aw_iaddN D_rg_turnPair_22 ?_ | refine aw_iadd D_rg_turnPair_22 ?_
  refine aw_iconst (nI 1) D_rg_turnPair_23 rfl ?_
  refine aw_aload_n 0 D_rg_turnPair_24 rfl rfl ?_
  refine aw_get D_rg_turnPair_25 rfl rfl ?_
  refine aw_iconst (nI 2) D_rg_turnPair_28 rfl ?_
  refine aw_iload_n 1 D_rg_turnPair_29 rfl rfl ?_
  first | with_reducible refine aw_imulN D_rg_turnPair_30 ?_ | refine aw_imul D_rg_turnPair_30 ?_
  refine aw_iconst (nI 1) D_rg_turnPair_31 rfl ?_
  first | with_reducible refine aw_iaddN D_rg_turnPair_32 ?_ | refine aw_iadd D_rg_turnPair_32 ?_
  refine aw_ialdN D_rg_turnPair_33 rfl (by omega) (by omega) ?_
  rw [show nF (va_up b (2 * t) (1 - b (2 * t))) (2 * t + 1) = nI (b (2 * t + 1)) by show nI _ = nI _; rw [vu_ne (by omega)]]
  first | with_reducible refine aw_isubN D_rg_turnPair_34 (by omega) ?_ | refine aw_isub D_rg_turnPair_34 ?_
  refine aw_callVv (As := [_, _]) D_rg_turnPair_35 kv_rg_write (c_rg_write (by omega)) rfl rfl rfl rfl rfl (Nat.le_of_ble_eq_true rfl) (Nat.zero_le _) (Nat.zero_le _) ?_
  refine aw_return D_rg_turnPair_38 rfl ?_
  exact ⟨rfl, rfl⟩
end Reg
end
section
/-! ### a sheet -/
def bt (x : Int64) : Nat := x.toBitVec.toNat % 2
theorem lN_of (x : Int64) : x = lN x.toBitVec.toNat := by
  apply Int64.toBitVec_inj.mp
  show x.toBitVec = BitVec.ofNat 64 x.toBitVec.toNat
  exact (BitVec.ofNat_toNat 64 x.toBitVec ▸ by simp)
theorem bt_le (x : Int64) : bt x ≤ 1 := by unfold bt; omega
theorem bt_lt (x : Int64) : bt x < 2 := by unfold bt; omega
theorem land1 (x : Int64) : x &&& lN 1 = lN (bt x) := by
  unfold bt
  generalize hm : x.toBitVec.toNat = m
  have := lN_of x
  rw [hm] at this
  rw [this, fb_andL, Nat.and_one_is_mod]
theorem bt_lN {m : Nat} (h : m < 2 ^ 64) : bt (lN m) = m % 2 := by
  unfold bt
  show (BitVec.ofNat 64 m).toNat % 2 = m % 2
  rw [BitVec.toNat_ofNat, Nat.mod_eq_of_lt h]
/-- what comes to a cell is cut to its lane -/
def cut (la : Int32) (v : Int64) : Int64 := if la = 0 then v.toInt32.toInt8.toInt32.toInt64 else if la = nI 1 then v.toInt32.toInt64 else v
section Sheet
variable {w : Wd} {q qc : Nat} {la : Int32} {sz : Nat} {ce : Nat → Int64}
theorem c_sh_nothing (hq : look w q = some (.inr (3, [.int la, .int (nI sz), .ref qc]))) : AMet M_sh_isNothing [.ref q] w (Ex (some (.int (nI (if la = -nI 1 then 1 else 0)))) w) 0 0 := by
  refine AMet.of [(0, .ref q)] (by decide +kernel) rfl (Nat.le_of_ble_eq_true rfl) ?_
  refine aw_aload_n 0 D_sh_isNothing_0 rfl rfl ?_
  refine aw_get D_sh_isNothing_1 (hq) rfl ?_
  refine aw_iconst (-nI 1) D_sh_isNothing_4 rfl ?_
  refine aw_icmp_ne D_sh_isNothing_5 (fun h => ?_) (fun h => ?_)
  · refine aw_iconst (nI 0) D_sh_isNothing_12 rfl ?_
    rw [if_neg h]
    refine aw_ireturn D_sh_isNothing_13 rfl rfl ?_
    exact ⟨rfl, rfl⟩
  · refine aw_iconst (nI 1) D_sh_isNothing_8 rfl ?_
    refine aw_goto D_sh_isNothing_9 ?_
    rw [if_pos h]
    refine aw_ireturn D_sh_isNothing_13 rfl rfl ?_
    exact ⟨rfl, rfl⟩
theorem c_sh_other {x : Int32} (hq : look w q = some (.inr (3, [.int la, .int (nI sz), .ref qc]))) : AMet M_sh_isOfOtherLane [.ref q, .int x] w (Ex (some (.int (nI (if la ≠ -nI 1 ∧ la ≠ x then 1 else 0)))) w) 0 0 := by
  refine AMet.of [(0, .ref q), (1, .int x)] (by decide +kernel) rfl (Nat.le_of_ble_eq_true rfl) ?_
  refine aw_aload_n 0 D_sh_isOfOtherLane_0 rfl rfl ?_
  refine aw_get D_sh_isOfOtherLane_1 (hq) rfl ?_
  refine aw_iconst (-nI 1) D_sh_isOfOtherLane_4 rfl ?_
  refine aw_icmp_eq D_sh_isOfOtherLane_5 (fun h => ?_) (fun h => ?_)
  · refine aw_iconst (nI 0) D_sh_isOfOtherLane_20 rfl ?_
    rw [if_neg (fun e => e.1 h)]
    refine aw_ireturn D_sh_isOfOtherLane_21 rfl rfl ?_
    exact ⟨rfl, rfl⟩
  · refine aw_aload_n 0 D_sh_isOfOtherLane_8 rfl rfl ?_
    refine aw_get D_sh_isOfOtherLane_9 (hq) rfl ?_
    refine aw_iload_n 1 D_sh_isOfOtherLane_12 rfl rfl ?_
    refine aw_icmp_eq D_sh_isOfOtherLane_13 (fun h2 => ?_) (fun h2 => ?_)
    · refine aw_iconst (nI 0) D_sh_isOfOtherLane_20 rfl ?_
      rw [if_neg (fun e => e.2 h2)]
      refine aw_ireturn D_sh_isOfOtherLane_21 rfl rfl ?_
      exact ⟨rfl, rfl⟩
    · refine aw_iconst (nI 1) D_sh_isOfOtherLane_16 rfl ?_
      refine aw_goto D_sh_isOfOtherLane_17 ?_
      rw [if_pos ⟨h, h2⟩]
      refine aw_ireturn D_sh_isOfOtherLane_21 rfl rfl ?_
      exact ⟨rfl, rfl⟩
theorem c_sh_hasN {i k : Nat} (hi : i < 2 ^ 31) (hk : k < 2 ^ 31) (hs : sz ≤ 600) (hq : look w q = some (.inr (3, [.int la, .int (nI sz), .ref qc]))) : AMet M_sh_hasCells [.ref q, .int (nI i), .int (nI k)] w (Ex (some (.int (nI (if i + k ≤ sz then 1 else 0)))) w) 0 0 := by
  refine AMet.of [(0, .ref q), (1, .int (nI i)), (2, .int (nI k))] (by decide +kernel) rfl (Nat.le_of_ble_eq_true rfl) ?_
  refine aw_iload_n 1 D_sh_hasCells_0 rfl rfl ?_
  refine aw_if_ltN D_sh_hasCells_1 (by omega) ?_
  refine aw_iload_n 1 D_sh_hasCells_4 rfl rfl ?_
  first | with_reducible refine aw_i2lN D_sh_hasCells_5 (by omega) ?_ | refine aw_i2l D_sh_hasCells_5 ?_
  refine aw_iload_n 2 D_sh_hasCells_6 rfl rfl ?_
  first | with_reducible refine aw_i2lN D_sh_hasCells_7 (by omega) ?_ | refine aw_i2l D_sh_hasCells_7 ?_
  first | with_reducible refine aw_laddN D_sh_hasCells_8 ?_ | refine aw_ladd D_sh_hasCells_8 ?_
  refine aw_aload_n 0 D_sh_hasCells_9 rfl rfl ?_
  refine aw_get D_sh_hasCells_10 (hq) rfl ?_
  first | with_reducible refine aw_i2lN D_sh_hasCells_13 (by omega) ?_ | refine aw_i2l D_sh_hasCells_13 ?_
  refine aw_lcmp D_sh_hasCells_14 ?_
  refine aw_if_gt D_sh_hasCells_15 (fun h => ?_) (fun h => ?_)
  · rw [lg_cmp_gt, pk_lLT (by omega) (by omega)] at h
    refine aw_iconst (nI 0) D_sh_hasCells_22 rfl ?_
    rw [if_neg (by omega)]
    refine aw_ireturn D_sh_hasCells_23 rfl rfl ?_
    exact ⟨rfl, rfl⟩
  · rw [lg_cmp_gt, pk_lLT (by omega) (by omega)] at h
    refine aw_iconst (nI 1) D_sh_hasCells_18 rfl ?_
    refine aw_goto D_sh_hasCells_19 ?_
    rw [if_pos (by omega)]
    refine aw_ireturn D_sh_hasCells_23 rfl rfl ?_
    exact ⟨rfl, rfl⟩
theorem c_sh_hasNeg {x y : Int32} (hx : x < 0) : AMet M_sh_hasCells [.ref q, .int x, .int y] w (Ex (some (.int (nI 0))) w) 0 0 := by
  refine AMet.of [(0, .ref q), (1, .int x), (2, .int y)] (by decide +kernel) rfl (Nat.le_of_ble_eq_true rfl) ?_
  refine aw_iload_n 1 D_sh_hasCells_0 rfl rfl ?_
  refine aw_if_lt D_sh_hasCells_1 (fun h => ?_) (fun h => absurd hx h)
  refine aw_iconst (nI 0) D_sh_hasCells_22 rfl ?_
  refine aw_ireturn D_sh_hasCells_23 rfl rfl ?_
  exact ⟨rfl, rfl⟩
theorem c_sh_renew {l : Int32} {k : Nat} (hne : qc ≠ q) (hq : look w q = some (.inr (3, [.int la, .int (nI sz), .ref qc]))) (hc : look w qc = some (.inl (1, 600, .inr (.inl ce)))) : AMet M_sh_renew [.ref q, .int l, .int (nI k)] w (Ex none (updw (updw w q (.inr (3, [.int l, .int (nI k), .ref qc]))) qc (.inl (1, 600, .inr (.inl (fun _ => 0)))))) 0 0 := by
  refine AMet.of [(0, .ref q), (1, .int l), (2, .int (nI k))] (by decide +kernel) rfl (Nat.le_of_ble_eq_true rfl) ?_
  refine aw_aload_n 0 D_sh_renew_0 rfl rfl ?_
  refine aw_iload_n 1 D_sh_renew_1 rfl rfl ?_
  refine aw_put tc_sh D_sh_renew_2 (hq) (Nat.le_of_ble_eq_true rfl) rfl rfl ?_
  have h1 : look (updw w q (.inr (3, [.int l, .int (nI sz), .ref qc]))) q = some (.inr (3, [.int l, .int (nI sz), .ref qc])) := by rw [look_updw hq, if_pos rfl]
  refine aw_aload_n 0 D_sh_renew_5 rfl rfl ?_
  refine aw_iload_n 2 D_sh_renew_6 rfl rfl ?_
  refine aw_put tc_sh D_sh_renew_7 (h1) (Nat.le_of_ble_eq_true rfl) rfl rfl ?_
  show AW _ _ _ _ _ _ _ _ (updw (updw w q (.inr (3, [.int l, .int (nI sz), .ref qc]))) q (.inr (3, [.int l, .int (nI k), .ref qc]))) _ _
  rw [updw_twice hq]
  have h2 : look (updw w q (.inr (3, [.int l, .int (nI k), .ref qc]))) q = some (.inr (3, [.int l, .int (nI k), .ref qc])) := by rw [look_updw hq, if_pos rfl]
  have h3 : look (updw w q (.inr (3, [.int l, .int (nI k), .ref qc]))) qc = some (.inl (1, 600, .inr (.inl ce))) := by rw [look_updw hq, if_neg hne]; exact hc
  refine aw_aload_n 0 D_sh_renew_10 rfl rfl ?_
  refine aw_get D_sh_renew_11 (h2) rfl ?_
  refine aw_lconst (lN 0) D_sh_renew_14 rfl ?_
  refine aw_callSv (As := [_, _]) D_sh_renew_15 kv_ja_fillJ (c_fillJ (by decide) h3) rfl rfl (Nat.le_of_ble_eq_true rfl) (Nat.zero_le _) (Nat.zero_le _) ?_
  refine aw_rowL (q := qc) (t := 1) (N := 600) (f := fun j => if j < 600 then lN 0 else ce j) (g := fun _ => 0) (by rw [look_updw h3, if_pos rfl]) (fun j hj => by rw [if_pos hj]; rfl) ?_
  rw [updw_twice h3]
  refine aw_return D_sh_renew_18 rfl ?_
  exact ⟨rfl, rfl⟩
theorem c_sh_drop (hq : look w q = some (.inr (3, [.int la, .int (nI sz), .ref qc]))) : AMet M_sh_drop [.ref q] w (Ex none (updw w q (.inr (3, [.int (-nI 1), .int (nI 0), .ref qc])))) 0 0 := by
  refine AMet.of [(0, .ref q)] (by decide +kernel) rfl (Nat.le_of_ble_eq_true rfl) ?_
  refine aw_aload_n 0 D_sh_drop_0 rfl rfl ?_
  refine aw_iconst (-nI 1) D_sh_drop_1 rfl ?_
  refine aw_put tc_sh D_sh_drop_2 (hq) (Nat.le_of_ble_eq_true rfl) rfl rfl ?_
  have h1 : look (updw w q (.inr (3, [.int (-nI 1), .int (nI sz), .ref qc]))) q = some (.inr (3, [.int (-nI 1), .int (nI sz), .ref qc])) := by rw [look_updw hq, if_pos rfl]
  refine aw_aload_n 0 D_sh_drop_5 rfl rfl ?_
  refine aw_iconst (nI 0) D_sh_drop_6 rfl ?_
  refine aw_put tc_sh D_sh_drop_7 (h1) (Nat.le_of_ble_eq_true rfl) rfl rfl ?_
  show AW _ _ _ _ _ _ _ _ (updw (updw w q (.inr (3, [.int (-nI 1), .int (nI sz), .ref qc]))) q (.inr (3, [.int (-nI 1), .int (nI 0), .ref qc]))) _ _
  rw [updw_twice hq]
  refine aw_return D_sh_drop_10 rfl ?_
  exact ⟨rfl, rfl⟩
theorem c_sh_write {i : Nat} {v : Int64} (hi : i < 600) (hq : look w q = some (.inr (3, [.int la, .int (nI sz), .ref qc]))) (hc : look w qc = some (.inl (1, 600, .inr (.inl ce)))) : AMet M_sh_write [.ref q, .int (nI i), .long v] w (Ex none (updw w qc (.inl (1, 600, .inr (.inl (va_up ce i (cut la v))))))) 0 0 := by
  refine AMet.of [(0, .ref q), (1, .int (nI i)), (2, .long v)] (by decide +kernel) rfl (Nat.le_of_ble_eq_true rfl) ?_
  unfold cut
  refine aw_aload_n 0 D_sh_write_0 rfl rfl ?_
  refine aw_get D_sh_write_1 (hq) rfl ?_
  refine aw_if_ne D_sh_write_4 (fun h => ?_) (fun h => ?_)
  · rw [if_neg h]
    refine aw_aload_n 0 D_sh_write_20 rfl rfl ?_
    refine aw_get D_sh_write_21 (hq) rfl ?_
    refine aw_iconst (nI 1) D_sh_write_24 rfl ?_
    refine aw_icmp_ne D_sh_write_25 (fun h2 => ?_) (fun h2 => ?_)
    · rw [if_neg h2]
      refine aw_aload_n 0 D_sh_write_40 rfl rfl ?_
      refine aw_get D_sh_write_41 (hq) rfl ?_
      refine aw_iload_n 1 D_sh_write_44 rfl rfl ?_
      refine aw_lload_n 2 D_sh_write_45 rfl rfl ?_
      refine aw_lastJ D_sh_write_46 (hc) (by omega) (by omega) ?_
      refine aw_return D_sh_write_47 rfl ?_
      exact ⟨rfl, rfl⟩
    · rw [if_pos h2]
      refine aw_aload_n 0 D_sh_write_28 rfl rfl ?_
      refine aw_get D_sh_write_29 (hq) rfl ?_
      refine aw_iload_n 1 D_sh_write_32 rfl rfl ?_
      refine aw_lload_n 2 D_sh_write_33 rfl rfl ?_
      first | with_reducible refine aw_l2iN D_sh_write_34 ?_ | refine aw_l2i D_sh_write_34 ?_
      first | with_reducible refine aw_i2lN D_sh_write_35 (by omega) ?_ | refine aw_i2l D_sh_write_35 ?_
      refine aw_lastJ D_sh_write_36 (hc) (by omega) (by omega) ?_
      refine aw_goto D_sh_write_37 ?_
      refine aw_return D_sh_write_47 rfl ?_
      exact ⟨rfl, rfl⟩
  · rw [if_pos h]
    refine aw_aload_n 0 D_sh_write_7 rfl rfl ?_
    refine aw_get D_sh_write_8 (hq) rfl ?_
    refine aw_iload_n 1 D_sh_write_11 rfl rfl ?_
    refine aw_lload_n 2 D_sh_write_12 rfl rfl ?_
    first | with_reducible refine aw_l2iN D_sh_write_13 ?_ | refine aw_l2i D_sh_write_13 ?_
    refine aw_i2b D_sh_write_14 ?_
    first | with_reducible refine aw_i2lN D_sh_write_15 (by omega) ?_ | refine aw_i2l D_sh_write_15 ?_
    refine aw_lastJ D_sh_write_16 (hc) (by omega) (by omega) ?_
    refine aw_goto D_sh_write_17 ?_
    refine aw_return D_sh_write_47 rfl ?_
    exact ⟨rfl, rfl⟩
theorem c_sh_bit {i : Nat} (hi : i < 600) (hq : look w q = some (.inr (3, [.int la, .int (nI sz), .ref qc]))) (hc : look w qc = some (.inl (1, 600, .inr (.inl ce)))) : AMet M_sh_bitAt [.ref q, .int (nI i)] w (Ex (some (.int (nI (bt (ce i))))) w) 0 0 := by
  refine AMet.of [(0, .ref q), (1, .int (nI i))] (by decide +kernel) rfl (Nat.le_of_ble_eq_true rfl) ?_
  refine aw_aload_n 0 D_sh_bitAt_0 rfl rfl ?_
  refine aw_get D_sh_bitAt_1 (hq) rfl ?_
  refine aw_iload_n 1 D_sh_bitAt_4 rfl rfl ?_
  refine aw_laldN D_sh_bitAt_5 (hc) (by omega) (by omega) ?_
  refine aw_lconst (lN 1) D_sh_bitAt_6 rfl ?_
  refine aw_land D_sh_bitAt_7 ?_
  rw [land1]
  first | with_reducible refine aw_l2iN D_sh_bitAt_8 ?_ | refine aw_l2i D_sh_bitAt_8 ?_
  refine aw_ireturn D_sh_bitAt_9 rfl rfl ?_
  exact ⟨rfl, rfl⟩
end Sheet
end
section
/-! ### two sheets, or one with itself -/
def opn (how x y : Nat) : Nat := if how = 0 then x ^^^ y else x &&& y
theorem xor_le1 {x y : Nat} (hx : x ≤ 1) (hy : y ≤ 1) : x ^^^ y ≤ 1 := by
  rcases (show x = 0 ∨ x = 1 by omega) with rfl | rfl <;> rcases (show y = 0 ∨ y = 1 by omega) with rfl | rfl <;> decide
theorem and_le1 {x y : Nat} (hx : x ≤ 1) (hy : y ≤ 1) : x &&& y ≤ 1 := by
  rcases (show x = 0 ∨ x = 1 by omega) with rfl | rfl <;> rcases (show y = 0 ∨ y = 1 by omega) with rfl | rfl <;> decide
theorem opn_le {how x y : Nat} (hx : x ≤ 1) (hy : y ≤ 1) : opn how x y ≤ 1 := by
  unfold opn
  by_cases h : how = 0
  · rw [if_pos h]; exact xor_le1 hx hy
  · rw [if_neg h]; exact and_le1 hx hy
theorem cut_small {la : Int32} {x : Nat} (hx : x ≤ 1) : cut la (lN x) = lN x := by
  unfold cut
  have h1 : (lN x).toInt32.toInt8.toInt32.toInt64 = lN x := by
    rcases (show x = 0 ∨ x = 1 by omega) with rfl | rfl <;> decide
  have h2 : (lN x).toInt32.toInt64 = lN x := by
    rcases (show x = 0 ∨ x = 1 by omega) with rfl | rfl <;> decide
  by_cases e1 : la = 0
  · rw [if_pos e1, h1]
  · rw [if_neg e1]
    by_cases e2 : la = nI 1
    · rw [if_pos e2, h2]
    · rw [if_neg e2]
section Sheet2
variable {w : Wd} {q qc p pc : Nat} {la lb : Int32} {sa sb : Nat} {ca cb : Nat → Int64}
def mixC (how : Nat) (ca cb : Nat → Int64) (i : Nat) : Nat → Int64 := fun j => if j < i then lN (opn how (bt (ca j)) (bt (cb j))) else ca j
theorem mixC_up (how : Nat) (ca cb : Nat → Int64) (i : Nat) : va_up (mixC how ca cb i) i (lN (opn how (bt (ca i)) (bt (cb i)))) = mixC how ca cb (i + 1) := by
  funext j
  unfold va_up mixC
  by_cases e : j = i
  · rw [if_pos e, if_pos (by omega), e]
  · rw [if_neg e]
    by_cases e2 : j < i
    · rw [if_pos e2, if_pos (by omega)]
    · rw [if_neg e2, if_neg (by omega)]
theorem c_sh_mix {how : Nat} (X : Nat → Nat → Int64) (h1 : how ≤ 1) (hsa : sa ≤ 600) (hsb : sb ≤ 600)
    (hq : look w q = some (.inr (3, [.int la, .int (nI sa), .ref qc]))) (hc : look w qc = some (.inl (1, 600, .inr (.inl ca)))) (hp : look w p = some (.inr (3, [.int lb, .int (nI sb), .ref pc])))
    (hqi : ∀ i, look (updw w qc (.inl (1, 600, .inr (.inl (mixC how ca cb i))))) q = some (.inr (3, [.int la, .int (nI sa), .ref qc])))
    (hpi : ∀ i, look (updw w qc (.inl (1, 600, .inr (.inl (mixC how ca cb i))))) p = some (.inr (3, [.int lb, .int (nI sb), .ref pc])))
    (hci : ∀ i, look (updw w qc (.inl (1, 600, .inr (.inl (mixC how ca cb i))))) pc = some (.inl (1, 600, .inr (.inl (X i)))))
    (hX : ∀ i, X i i = cb i) :
    AMet M_sh_mixWith [.ref q, .ref p, .int (nI how)] w (Ex (some (.int (nI (min sa sb)))) (updw w qc (.inl (1, 600, .inr (.inl (mixC how ca cb (min sa sb))))))) 0 0 := by
  refine AMet.of [(0, .ref q), (1, .ref p), (2, .int (nI how))] (by decide +kernel) rfl (Nat.le_of_ble_eq_true rfl) ?_
  have key : ∀ (m i : Nat), i + m = min sa sb → AW M_sh_mixWith noP (Zp (Ex (some (.int (nI (min sa sb)))) (updw w qc (.inl (1, 600, .inr (.inl (mixC how ca cb (min sa sb)))))))) 0 0 15 [(0, .ref q), (1, .ref p), (2, .int (nI how)), (3, .int (nI (min sa sb))), (4, .int (nI i))] [] (updw w qc (.inl (1, 600, .inr (.inl (mixC how ca cb i))))) 0 0 := by
    intro m
    induction m with
    | zero =>
      intro i hi
      refine aw_iload D_sh_mixWith_15 rfl ?_
      refine aw_iload_n 3 D_sh_mixWith_17 rfl rfl ?_
      refine aw_icmp_geN D_sh_mixWith_18 (by omega) (by omega) (fun h => ?_) (fun h => absurd h (by omega))
      refine aw_iload_n 3 D_sh_mixWith_68 rfl rfl ?_
      rw [show i = min sa sb by omega]
      refine aw_ireturn D_sh_mixWith_69 rfl rfl ?_
      exact ⟨rfl, rfl⟩
    | succ m ih =>
      intro i hi
      have hcc : look (updw w qc (.inl (1, 600, .inr (.inl (mixC how ca cb i))))) qc = some (.inl (1, 600, .inr (.inl (mixC how ca cb i)))) := by rw [look_updw hc, if_pos rfl]
      have e1 : bt (mixC how ca cb i i) = bt (ca i) := by unfold mixC; rw [if_neg (Nat.lt_irrefl i)]
      have e2 : bt (X i i) = bt (cb i) := by rw [hX]
      have b1 := bt_le (ca i)
      have b2 := bt_le (cb i)
      refine aw_iload D_sh_mixWith_15 rfl ?_
      refine aw_iload_n 3 D_sh_mixWith_17 rfl rfl ?_
      refine aw_icmp_geN D_sh_mixWith_18 (by omega) (by omega) (fun h => absurd h (by omega)) (fun h => ?_)
      refine aw_aload_n 0 D_sh_mixWith_21 rfl rfl ?_
      refine aw_iload D_sh_mixWith_22 rfl ?_
      refine aw_callV1 (As := [_]) D_sh_mixWith_24 kv_sh_bitAt (c_sh_bit (i := i) (by omega) (hqi i) hcc) rfl rfl (hqi i) rfl rfl (Nat.le_of_ble_eq_true rfl) (Nat.zero_le _) (Nat.zero_le _) ?_
      rw [e1]
      refine aw_istore D_sh_mixWith_27 (Nat.le_of_ble_eq_true rfl) rfl ?_
      refine aw_aload_n 1 D_sh_mixWith_29 rfl rfl ?_
      refine aw_iload D_sh_mixWith_30 rfl ?_
      refine aw_callV1 (As := [_]) D_sh_mixWith_32 kv_sh_bitAt (c_sh_bit (i := i) (by omega) (hpi i) (hci i)) rfl rfl (hpi i) rfl rfl (Nat.le_of_ble_eq_true rfl) (Nat.zero_le _) (Nat.zero_le _) ?_
      rw [e2]
      refine aw_istore D_sh_mixWith_35 (Nat.le_of_ble_eq_true rfl) rfl ?_
      refine aw_aload_n 0 D_sh_mixWith_37 rfl rfl ?_
      refine aw_iload D_sh_mixWith_38 rfl ?_
      refine aw_iload_n 2 D_sh_mixWith_40 rfl rfl ?_
      have hend : ∀ z : Nat, z = opn how (bt (ca i)) (bt (cb i)) → AW M_sh_mixWith noP (Zp (Ex (some (.int (nI (min sa sb)))) (updw w qc (.inl (1, 600, .inr (.inl (mixC how ca cb (min sa sb)))))))) 0 0 59 [(0, .ref q), (1, .ref p), (2, .int (nI how)), (3, .int (nI (min sa sb))), (4, .int (nI i)), (5, .int (nI (bt (ca i)))), (6, .int (nI (bt (cb i))))] [.long (lN z), .int (nI i), .ref q] (updw w qc (.inl (1, 600, .inr (.inl (mixC how ca cb i))))) 0 0 := by
        intro z hz
        refine aw_callVv (As := [_, _]) D_sh_mixWith_59 kv_sh_write (c_sh_write (i := i) (v := lN z) (by omega) (hqi i) hcc) rfl rfl (hqi i) rfl rfl (Nat.le_of_ble_eq_true rfl) (Nat.zero_le _) (Nat.zero_le _) ?_
        rw [hz, cut_small (opn_le b1 b2), mixC_up, updw_twice hc]
        first | refine aw_incN D_sh_mixWith_62 rfl (Nat.le_of_ble_eq_true rfl) rfl ?_ | refine aw_inc D_sh_mixWith_62 rfl (Nat.le_of_ble_eq_true rfl) rfl ?_
        refine aw_goto D_sh_mixWith_65 ?_
        refine aw_take 5 ?_
        exact ih (i + 1) (by omega)
      refine aw_if_neN D_sh_mixWith_41 (by omega) (fun h => ?_) (fun h => ?_)
      · have := and_le1 b1 b2
        refine aw_iload D_sh_mixWith_53 rfl ?_
        refine aw_iload D_sh_mixWith_55 rfl ?_
        first | with_reducible refine aw_iandN D_sh_mixWith_57 ?_ | refine aw_iand D_sh_mixWith_57 ?_
        first | with_reducible refine aw_i2lN D_sh_mixWith_58 (by omega) ?_ | refine aw_i2l D_sh_mixWith_58 ?_
        exact hend _ (by unfold opn; rw [if_neg (by omega)])
      · have := xor_le1 b1 b2
        refine aw_iload D_sh_mixWith_44 rfl ?_
        refine aw_iload D_sh_mixWith_46 rfl ?_
        first | with_reducible refine aw_ixorN D_sh_mixWith_48 ?_ | refine aw_ixor D_sh_mixWith_48 ?_
        first | with_reducible refine aw_i2lN D_sh_mixWith_49 (by omega) ?_ | refine aw_i2l D_sh_mixWith_49 ?_
        refine aw_goto D_sh_mixWith_50 ?_
        exact hend _ (by unfold opn; rw [if_pos h])
  refine aw_aload_n 0 D_sh_mixWith_0 rfl rfl ?_
  refine aw_get D_sh_mixWith_1 (hq) rfl ?_
  refine aw_aload_n 1 D_sh_mixWith_4 rfl rfl ?_
  refine aw_get D_sh_mixWith_5 (hp) rfl ?_
  refine aw_minN D_sh_mixWith_8 (by omega) (by omega) (Nat.le_of_ble_eq_true rfl) ?_
  refine aw_istore_n 3 D_sh_mixWith_11 rfl (Nat.le_of_ble_eq_true rfl) rfl ?_
  refine aw_iconst (nI 0) D_sh_mixWith_12 rfl ?_
  refine aw_istore D_sh_mixWith_13 (Nat.le_of_ble_eq_true rfl) rfl ?_
  have := key (min sa sb) 0 (by omega)
  rw [show mixC how ca cb 0 = ca from funext fun j => if_neg (by omega), updw_same hc] at this
  exact this
def thinC (cs ct : Nat → Int64) (d i : Nat) : Nat → Int64 := fun j => if j < i then cs (j * d) else ct j
theorem thinC_up (cs ct : Nat → Int64) (d i : Nat) : va_up (thinC cs ct d i) i (cs (i * d)) = thinC cs ct d (i + 1) := by
  funext j
  unfold va_up thinC
  by_cases e : j = i
  · rw [if_pos e, if_pos (by omega), e]
  · rw [if_neg e]
    by_cases e2 : j < i
    · rw [if_pos e2, if_pos (by omega)]
    · rw [if_neg e2, if_neg (by omega)]
theorem thin_in {sb d i : Nat} (hd : 1 ≤ d) (hi : i < (sb + d - 1) / d) : i * d < sb := by
  have h1 : (i + 1) * d ≤ (sb + d - 1) / d * d := Nat.mul_le_mul_right _ hi
  have h2 : (sb + d - 1) / d * d ≤ sb + d - 1 := Nat.div_mul_le_self _ _
  rw [Nat.add_mul, Nat.one_mul] at h1
  omega
theorem thin_le {sb d : Nat} (hd : 1 ≤ d) : (sb + d - 1) / d ≤ sb := by
  rcases Nat.lt_or_ge sb ((sb + d - 1) / d) with h | h
  · have := thin_in hd h
    have h2 : sb * 1 ≤ sb * d := Nat.mul_le_mul_left _ hd
    omega
  · exact h
/-- q becomes each d-th cell of p (also q itself) -/
theorem c_sh_thin {d : Nat} (X : Nat → Nat → Int64) (hd1 : 1 ≤ d) (hd : d ≤ 600) (hsb : sb ≤ 600)
    (hq : look w q = some (.inr (3, [.int la, .int (nI sa), .ref qc]))) (hc : look w qc = some (.inl (1, 600, .inr (.inl ca)))) (hp : look w p = some (.inr (3, [.int lb, .int (nI sb), .ref pc])))
    (hqi : ∀ i, look (updw w qc (.inl (1, 600, .inr (.inl (thinC cb ca d i))))) q = some (.inr (3, [.int la, .int (nI sa), .ref qc])))
    (hpi : ∀ i, look (updw w qc (.inl (1, 600, .inr (.inl (thinC cb ca d i))))) p = some (.inr (3, [.int lb, .int (nI sb), .ref pc])))
    (hci : ∀ i, look (updw w qc (.inl (1, 600, .inr (.inl (thinC cb ca d i))))) pc = some (.inl (1, 600, .inr (.inl (X i)))))
    (hX : ∀ i, X i (i * d) = cb (i * d)) :
    AMet M_sh_becomeThinned [.ref q, .ref p, .int (nI d)] w (Ex none (updw (updw w qc (.inl (1, 600, .inr (.inl (thinC cb ca d ((sb + d - 1) / d)))))) q (.inr (3, [.int lb, .int (nI ((sb + d - 1) / d)), .ref qc])))) 0 0 := by
  refine AMet.of [(0, .ref q), (1, .ref p), (2, .int (nI d))] (by decide +kernel) rfl (Nat.le_of_ble_eq_true rfl) ?_
  have hle := thin_le (sb := sb) hd1
  generalize hK : (sb + d - 1) / d = K at hle ⊢
  have key : ∀ (m i : Nat), i + m = K → AW M_sh_becomeThinned noP (Zp (Ex none (updw (updw w qc (.inl (1, 600, .inr (.inl (thinC cb ca d K))))) q (.inr (3, [.int lb, .int (nI K), .ref qc]))))) 0 0 23 [(0, .ref q), (1, .ref p), (2, .int (nI d)), (3, .int (nI K)), (4, .int (nI i))] [] (updw w qc (.inl (1, 600, .inr (.inl (thinC cb ca d i))))) 0 0 := by
    intro m
    induction m with
    | zero =>
      intro i hi
      refine aw_iload D_sh_becomeThinned_23 rfl ?_
      refine aw_iload_n 3 D_sh_becomeThinned_25 rfl rfl ?_
      refine aw_icmp_geN D_sh_becomeThinned_26 (by omega) (by omega) (fun h => ?_) (fun h => absurd h (by omega))
      rw [show i = K by omega]
      generalize hW : updw w qc (.inl (1, 600, .inr (.inl (thinC cb ca d K)))) = W
      have hqK := hqi K
      have hpK := hpi K
      rw [hW] at hqK hpK
      refine aw_aload_n 0 D_sh_becomeThinned_51 rfl rfl ?_
      refine aw_aload_n 1 D_sh_becomeThinned_52 rfl rfl ?_
      refine aw_get D_sh_becomeThinned_53 (hpK) rfl ?_
      refine aw_put tc_sh D_sh_becomeThinned_56 (hqK) (Nat.le_of_ble_eq_true rfl) rfl rfl ?_
      have h1 : look (updw W q (.inr (3, [.int lb, .int (nI sa), .ref qc]))) q = some (.inr (3, [.int lb, .int (nI sa), .ref qc])) := by rw [look_updw hqK, if_pos rfl]
      refine aw_aload_n 0 D_sh_becomeThinned_59 rfl rfl ?_
      refine aw_iload_n 3 D_sh_becomeThinned_60 rfl rfl ?_
      refine aw_put tc_sh D_sh_becomeThinned_61 (h1) (Nat.le_of_ble_eq_true rfl) rfl rfl ?_
      show AW _ _ _ _ _ _ _ _ (updw (updw W q (.inr (3, [.int lb, .int (nI sa), .ref qc]))) q (.inr (3, [.int lb, .int (nI K), .ref qc]))) _ _
      rw [updw_twice hqK]
      refine aw_return D_sh_becomeThinned_64 rfl ?_
      exact ⟨rfl, rfl⟩
    | succ m ih =>
      intro i hi
      have hid := thin_in (sb := sb) (i := i) hd1 (by omega)
      have hcc : look (updw w qc (.inl (1, 600, .inr (.inl (thinC cb ca d i))))) qc = some (.inl (1, 600, .inr (.inl (thinC cb ca d i)))) := by rw [look_updw hc, if_pos rfl]
      refine aw_iload D_sh_becomeThinned_23 rfl ?_
      refine aw_iload_n 3 D_sh_becomeThinned_25 rfl rfl ?_
      refine aw_icmp_geN D_sh_becomeThinned_26 (by omega) (by omega) (fun h => absurd h (by omega)) (fun h => ?_)
      refine aw_aload_n 0 D_sh_becomeThinned_29 rfl rfl ?_
      refine aw_get D_sh_becomeThinned_30 ((hqi i)) rfl ?_
      refine aw_iload D_sh_becomeThinned_33 rfl ?_
      refine aw_aload_n 1 D_sh_becomeThinned_35 rfl rfl ?_
      refine aw_get D_sh_becomeThinned_36 ((hpi i)) rfl ?_
      refine aw_iload D_sh_becomeThinned_39 rfl ?_
      refine aw_iload_n 2 D_sh_becomeThinned_41 rfl rfl ?_
      first | with_reducible refine aw_imulN D_sh_becomeThinned_42 ?_ | refine aw_imul D_sh_becomeThinned_42 ?_
      refine aw_laldN D_sh_becomeThinned_43 ((hci i)) (by omega) (by omega) ?_
      rw [hX]
      refine aw_lastJ D_sh_becomeThinned_44 (hcc) (by omega) (by omega) ?_
      first | refine aw_incN D_sh_becomeThinned_45 rfl (Nat.le_of_ble_eq_true rfl) rfl ?_ | refine aw_inc D_sh_becomeThinned_45 rfl (Nat.le_of_ble_eq_true rfl) rfl ?_
      refine aw_goto D_sh_becomeThinned_48 ?_
      rw [updL_va, updw_twice hc, thinC_up]
      exact ih (i + 1) (by omega)
  refine aw_iload_n 2 D_sh_becomeThinned_0 rfl rfl ?_
  refine aw_iconst (nI 1) D_sh_becomeThinned_1 rfl ?_
  refine aw_icmp_geN D_sh_becomeThinned_2 (by omega) (by omega) (fun h => ?_) (fun h => absurd h (by omega))
  refine aw_aload_n 1 D_sh_becomeThinned_9 rfl rfl ?_
  refine aw_get D_sh_becomeThinned_10 (hp) rfl ?_
  refine aw_iload_n 2 D_sh_becomeThinned_13 rfl rfl ?_
  first | with_reducible refine aw_iaddN D_sh_becomeThinned_14 ?_ | refine aw_iadd D_sh_becomeThinned_14 ?_
  refine aw_iconst (nI 1) D_sh_becomeThinned_15 rfl ?_
  first | with_reducible refine aw_isubN D_sh_becomeThinned_16 (by omega) ?_ | refine aw_isub D_sh_becomeThinned_16 ?_
  refine aw_iload_n 2 D_sh_becomeThinned_17 rfl rfl ?_
  first | with_reducible refine aw_idivN D_sh_becomeThinned_18 (by omega) (by omega) (by omega) ?_ | refine aw_idiv D_sh_becomeThinned_18 (by decide) ?_
  refine aw_istore_n 3 D_sh_becomeThinned_19 rfl (Nat.le_of_ble_eq_true rfl) rfl ?_
  refine aw_iconst (nI 0) D_sh_becomeThinned_20 rfl ?_
  refine aw_istore D_sh_becomeThinned_21 (Nat.le_of_ble_eq_true rfl) rfl ?_
  rw [hK]
  have := key K 0 (by omega)
  rw [show thinC cb ca d 0 = ca from funext fun j => if_neg (by omega), updw_same hc] at this
  exact this
end Sheet2
end
section
/-! ### the register, filled -/
def pop (m : Nat) : Nat → Nat
  | 0 => 0
  | k + 1 => pop m k + m / 2 ^ k % 2
theorem pop_le (m : Nat) : ∀ k, pop m k ≤ k
  | 0 => Nat.le_refl _
  | k + 1 => by
    have := pop_le m k
    unfold pop
    omega
theorem pcI_pop : ∀ m, m < 512 → pcI (nI m) = nI (pop m 9) := by decide +kernel
def lin (mask one s : Nat) : Nat := (pop (s &&& mask) 9 + one) % 2
theorem look4 {mn rg ri tr sh rr mo dy : List va_E} {q : Nat} (hq : q % 16 = 4) : look [mn, rg, ri, tr, sh, rr, mo, dy] q = sh[q / 16]? := by
  unfold look
  rw [hq]
  rfl
section Reg2
variable {mn ri tr sh rr mo dy : List va_E} {n N ch : Nat} {b bn : Nat → Nat}
def linB (b : Nat → Nat) (mask one i : Nat) : Nat → Nat := fun s => if s < i then lin mask one s else b s
theorem linB_up (b : Nat → Nat) (mask one i : Nat) : va_up (linB b mask one i) i (lin mask one i) = linB b mask one (i + 1) := by
  funext j
  unfold va_up linB
  by_cases e : j = i
  · rw [if_pos e, if_pos (by omega), e]
  · rw [if_neg e]
    by_cases e2 : j < i
    · rw [if_pos e2, if_pos (by omega)]
    · rw [if_neg e2, if_neg (by omega)]
theorem c_rg_linear {mask one : Nat} (hN : N ≤ 512) (hN0 : 0 < N) (hm : mask < 512) (ho : one ≤ 1) : AMet M_rg_fillLinear [.ref 1, .int (nI mask), .int (nI one)] [mn, RG n N ch b bn, ri, tr, sh, rr, mo, dy] (Ex none [mn, RG n N 1 (linB b mask one N) bn, ri, tr, sh, rr, mo, dy]) 0 0 := by
  refine AMet.of [(0, .ref 1), (1, .int (nI mask)), (2, .int (nI one))] (by decide +kernel) rfl (Nat.le_of_ble_eq_true rfl) ?_
  have key : ∀ (m i c : Nat), i + m = N → (i = 0 ∨ c = 1) → AW M_rg_fillLinear noP (Zp (Ex none [mn, RG n N 1 (linB b mask one N) bn, ri, tr, sh, rr, mo, dy])) 0 0 2 [(0, .ref 1), (1, .int (nI mask)), (2, .int (nI one)), (3, .int (nI i))] [] [mn, RG n N c (linB b mask one i) bn, ri, tr, sh, rr, mo, dy] 0 0 := by
    intro m
    induction m with
    | zero =>
      intro i c hi hc
      refine aw_iload_n 3 D_rg_fillLinear_2 rfl rfl ?_
      refine aw_aload_n 0 D_rg_fillLinear_3 rfl rfl ?_
      refine aw_get D_rg_fillLinear_4 rfl rfl ?_
      refine aw_icmp_geN D_rg_fillLinear_7 (by omega) (by omega) (fun h => ?_) (fun h => absurd h (by omega))
      rw [show i = N by omega, show c = 1 by omega]
      refine aw_return D_rg_fillLinear_31 rfl ?_
      exact ⟨rfl, rfl⟩
    | succ m ih =>
      intro i c hi hc
      have hand : i &&& mask < 512 := Nat.lt_of_le_of_lt Nat.and_le_right hm
      have hpl := pop_le (i &&& mask) 9
      refine aw_iload_n 3 D_rg_fillLinear_2 rfl rfl ?_
      refine aw_aload_n 0 D_rg_fillLinear_3 rfl rfl ?_
      refine aw_get D_rg_fillLinear_4 rfl rfl ?_
      refine aw_icmp_geN D_rg_fillLinear_7 (by omega) (by omega) (fun h => absurd h (by omega)) (fun h => ?_)
      refine aw_aload_n 0 D_rg_fillLinear_10 rfl rfl ?_
      refine aw_iload_n 3 D_rg_fillLinear_11 rfl rfl ?_
      refine aw_iload_n 3 D_rg_fillLinear_12 rfl rfl ?_
      refine aw_iload_n 1 D_rg_fillLinear_13 rfl rfl ?_
      first | with_reducible refine aw_iandN D_rg_fillLinear_14 ?_ | refine aw_iand D_rg_fillLinear_14 ?_
      refine aw_callS1 (As := [_]) D_rg_fillLinear_15 kv_ji_bitCount (c_bitI) rfl rfl (Nat.le_of_ble_eq_true rfl) (Nat.zero_le _) (Nat.zero_le _) ?_
      rw [pcI_pop _ hand]
      refine aw_iload_n 2 D_rg_fillLinear_18 rfl rfl ?_
      first | with_reducible refine aw_iaddN D_rg_fillLinear_19 ?_ | refine aw_iadd D_rg_fillLinear_19 ?_
      refine aw_iconst (nI 1) D_rg_fillLinear_20 rfl ?_
      first | with_reducible refine aw_iandN D_rg_fillLinear_21 ?_ | refine aw_iand D_rg_fillLinear_21 ?_
      rw [Nat.and_one_is_mod]
      refine aw_callVv (As := [_, _]) D_rg_fillLinear_22 kv_rg_write (c_rg_write (s := i) (by omega)) rfl rfl rfl rfl rfl (Nat.le_of_ble_eq_true rfl) (Nat.zero_le _) (Nat.zero_le _) ?_
      rw [show (pop (i &&& mask) 9 + one) % 2 = lin mask one i from rfl, linB_up]
      first | refine aw_incN D_rg_fillLinear_25 rfl (Nat.le_of_ble_eq_true rfl) rfl ?_ | refine aw_inc D_rg_fillLinear_25 rfl (Nat.le_of_ble_eq_true rfl) rfl ?_
      refine aw_goto D_rg_fillLinear_28 ?_
      exact ih (i + 1) 1 (by omega) (Or.inr rfl)
  refine aw_iconst (nI 0) D_rg_fillLinear_0 rfl ?_
  refine aw_istore_n 3 D_rg_fillLinear_1 rfl (Nat.le_of_ble_eq_true rfl) rfl ?_
  have := key N 0 ch (by omega) (Or.inl rfl)
  rw [show linB b mask one 0 = b from funext fun j => if_neg (by omega)] at this
  exact this
/-- a step of the one that prefers p: where it is, where it has been, the feedback -/
def pst (n p : Nat) (t : Nat × (Nat → Nat) × (Nat → Nat)) : Nat × (Nat → Nat) × (Nat → Nat) :=
  let bn := va_up t.2.1 t.1 1
  let x := if bn (ld n t.1 p) = 1 then 1 - p else p
  (ld n t.1 x, bn, va_up t.2.2 t.1 x)
def pfr (n p : Nat) (t : Nat × (Nat → Nat) × (Nat → Nat)) : Nat → Nat × (Nat → Nat) × (Nat → Nat)
  | 0 => t
  | k + 1 => pst n p (pfr n p t k)
theorem pfr_lt {n p : Nat} (hn : 1 ≤ n) (hp : p ≤ 1) {t : Nat × (Nat → Nat) × (Nat → Nat)} (ht : t.1 < 2 ^ n) : ∀ k, (pfr n p t k).1 < 2 ^ n
  | 0 => ht
  | k + 1 => by
    have := pfr_lt hn hp ht k
    show ld n _ _ < _
    refine ld_lt hn this ?_
    split <;> omega
theorem pfr_bn {n p : Nat} {t : Nat × (Nat → Nat) × (Nat → Nat)} (ht : ∀ k, t.2.1 k ≤ 1) : ∀ i k, (pfr n p t i).2.1 k ≤ 1
  | 0, k => ht k
  | i + 1, k => by
    show va_up (pfr n p t i).2.1 _ 1 k ≤ 1
    unfold va_up
    split
    · exact Nat.le_refl _
    · exact pfr_bn ht i k
def pf0 (N p : Nat) (b : Nat → Nat) : Nat × (Nat → Nat) × (Nat → Nat) := (if p = 1 then 0 else N - 1, fun _ => 0, b)
theorem c_rg_prefer {p : Nat} (hn : 2 ≤ n) (hn9 : n ≤ 9) (hN : N = 2 ^ n) (hp : p ≤ 1) : AMet M_rg_fillPreferring [.ref 1, .int (nI p)] [mn, RG n N ch b bn, ri, tr, sh, rr, mo, dy] (Ex none [mn, RG n N 1 (pfr n p (pf0 N p b) N).2.2 (pfr n p (pf0 N p b) N).2.1, ri, tr, sh, rr, mo, dy]) 0 0 := by
  have hp9 := pow_le9 hn9
  have h4 : 0 < 2 ^ n := Nat.two_pow_pos n
  subst hN
  refine AMet.of [(0, .ref 1), (1, .int (nI p))] (by decide +kernel) rfl (Nat.le_of_ble_eq_true rfl) ?_
  have h00 : (pf0 (2 ^ n) p b).1 < 2 ^ n := by
    show (if p = 1 then 0 else 2 ^ n - 1) < 2 ^ n
    split <;> omega
  have key : ∀ (m i c : Nat), i + m = 2 ^ n → (i = 0 ∨ c = 1) → AW M_rg_fillPreferring noP (Zp (Ex none [mn, RG n (2 ^ n) 1 (pfr n p (pf0 (2 ^ n) p b) (2 ^ n)).2.2 (pfr n p (pf0 (2 ^ n) p b) (2 ^ n)).2.1, ri, tr, sh, rr, mo, dy])) 0 0 26 [(0, .ref 1), (1, .int (nI p)), (2, .int (nI (pfr n p (pf0 (2 ^ n) p b) i).1)), (3, .int (nI i))] [] [mn, RG n (2 ^ n) c (pfr n p (pf0 (2 ^ n) p b) i).2.2 (pfr n p (pf0 (2 ^ n) p b) i).2.1, ri, tr, sh, rr, mo, dy] 0 0 := by
    intro m
    induction m with
    | zero =>
      intro i c hi hc
      refine aw_iload_n 3 D_rg_fillPreferring_26 rfl rfl ?_
      refine aw_aload_n 0 D_rg_fillPreferring_27 rfl rfl ?_
      refine aw_get D_rg_fillPreferring_28 rfl rfl ?_
      refine aw_icmp_geN D_rg_fillPreferring_31 (by omega) (by omega) (fun h => ?_) (fun h => absurd h (by omega))
      rw [show i = 2 ^ n by omega, show c = 1 by omega]
      refine aw_return D_rg_fillPreferring_86 rfl ?_
      exact ⟨rfl, rfl⟩
    | succ m ih =>
      intro i c hi hc
      have hlt := pfr_lt (by omega) hp h00 i
      have hbn := pfr_bn (n := n) (p := p) (t := pf0 (2 ^ n) p b) (fun _ => Nat.zero_le 1) (i + 1)
      have hs : pfr n p (pf0 (2 ^ n) p b) (i + 1) = pst n p (pfr n p (pf0 (2 ^ n) p b) i) := rfl
      have ih' := ih (i + 1) 1 (by omega) (Or.inr rfl)
      rw [hs] at ih' hbn
      generalize pfr n p (pf0 (2 ^ n) p b) i = t at hlt hbn ih' ⊢
      obtain ⟨h, u, f⟩ := t
      dsimp only at hlt hbn ih' ⊢
      have hbl := hbn (ld n h p)
      change va_up u h 1 (ld n h p) ≤ 1 at hbl
      have hld := ld_lt (n := n) (by omega) hlt hp
      refine aw_iload_n 3 D_rg_fillPreferring_26 rfl rfl ?_
      refine aw_aload_n 0 D_rg_fillPreferring_27 rfl rfl ?_
      refine aw_get D_rg_fillPreferring_28 rfl rfl ?_
      refine aw_icmp_geN D_rg_fillPreferring_31 (by omega) (by omega) (fun h9 => absurd h9 (by omega)) (fun h9 => ?_)
      refine aw_aload_n 0 D_rg_fillPreferring_34 rfl rfl ?_
      refine aw_get D_rg_fillPreferring_35 rfl rfl ?_
      refine aw_iload_n 2 D_rg_fillPreferring_38 rfl rfl ?_
      refine aw_iconst (nI 1) D_rg_fillPreferring_39 rfl ?_
      refine aw_iastN D_rg_fillPreferring_40 rfl (by omega) (by omega) ?_
      refine aw_aload_n 0 D_rg_fillPreferring_41 rfl rfl ?_
      refine aw_get D_rg_fillPreferring_42 rfl rfl ?_
      refine aw_aload_n 0 D_rg_fillPreferring_45 rfl rfl ?_
      refine aw_iload_n 2 D_rg_fillPreferring_46 rfl rfl ?_
      refine aw_iload_n 1 D_rg_fillPreferring_47 rfl rfl ?_
      refine aw_callV1 (As := [_, _]) D_rg_fillPreferring_48 kv_rg_lead (c_rg_lead (s := h) (x := p) (by omega) hn9 hlt hp) rfl rfl rfl rfl rfl (Nat.le_of_ble_eq_true rfl) (Nat.zero_le _) (Nat.zero_le _) ?_
      refine aw_ialdN D_rg_fillPreferring_51 rfl (by omega) (by omega) ?_
      refine aw_iconst (nI 1) D_rg_fillPreferring_52 rfl ?_
      have hend : ∀ z : Nat, z ≤ 1 → z = (if va_up u h 1 (ld n h p) = 1 then 1 - p else p) → AW M_rg_fillPreferring noP (Zp (Ex none [mn, RG n (2 ^ n) 1 (pfr n p (pf0 (2 ^ n) p b) (2 ^ n)).2.2 (pfr n p (pf0 (2 ^ n) p b) (2 ^ n)).2.1, ri, tr, sh, rr, mo, dy])) 0 0 63 [(0, .ref 1), (1, .int (nI p)), (2, .int (nI h)), (3, .int (nI i))] [.int (nI z)] [mn, RG n (2 ^ n) c f (va_up u h 1), ri, tr, sh, rr, mo, dy] 0 0 := by
        intro z hz1 hz
        refine aw_istore D_rg_fillPreferring_63 (Nat.le_of_ble_eq_true rfl) rfl ?_
        refine aw_aload_n 0 D_rg_fillPreferring_65 rfl rfl ?_
        refine aw_iload_n 2 D_rg_fillPreferring_66 rfl rfl ?_
        refine aw_iload D_rg_fillPreferring_67 rfl ?_
        refine aw_callVv (As := [_, _]) D_rg_fillPreferring_69 kv_rg_write (c_rg_write (s := h) (x := z) (by omega)) rfl rfl rfl rfl rfl (Nat.le_of_ble_eq_true rfl) (Nat.zero_le _) (Nat.zero_le _) ?_
        refine aw_aload_n 0 D_rg_fillPreferring_72 rfl rfl ?_
        refine aw_iload_n 2 D_rg_fillPreferring_73 rfl rfl ?_
        refine aw_iload D_rg_fillPreferring_74 rfl ?_
        refine aw_callV1 (As := [_, _]) D_rg_fillPreferring_76 kv_rg_lead (c_rg_lead (s := h) (x := z) (by omega) hn9 hlt hz1) rfl rfl rfl rfl rfl (Nat.le_of_ble_eq_true rfl) (Nat.zero_le _) (Nat.zero_le _) ?_
        refine aw_istore_n 2 D_rg_fillPreferring_79 rfl (Nat.le_of_ble_eq_true rfl) rfl ?_
        first | refine aw_incN D_rg_fillPreferring_80 rfl (Nat.le_of_ble_eq_true rfl) rfl ?_ | refine aw_inc D_rg_fillPreferring_80 rfl (Nat.le_of_ble_eq_true rfl) rfl ?_
        refine aw_goto D_rg_fillPreferring_83 ?_
        refine aw_take 4 ?_
        have e : pst n p (h, u, f) = (ld n h z, va_up u h 1, va_up f h z) := by
          rw [hz]
          rfl
        rw [e] at ih'
        exact ih'
      refine aw_icmp_neN D_rg_fillPreferring_53 (by omega) (by omega) (fun h2 => ?_) (fun h2 => ?_)
      · refine aw_iload_n 1 D_rg_fillPreferring_62 rfl rfl ?_
        exact hend p hp (by rw [if_neg h2])
      · refine aw_iconst (nI 1) D_rg_fillPreferring_56 rfl ?_
        refine aw_iload_n 1 D_rg_fillPreferring_57 rfl rfl ?_
        first | with_reducible refine aw_isubN D_rg_fillPreferring_58 (by omega) ?_ | refine aw_isub D_rg_fillPreferring_58 ?_
        refine aw_goto D_rg_fillPreferring_59 ?_
        exact hend (1 - p) (by omega) (by rw [if_pos h2])
  refine aw_aload_n 0 D_rg_fillPreferring_0 rfl rfl ?_
  refine aw_get D_rg_fillPreferring_1 rfl rfl ?_
  refine aw_iconst (nI 0) D_rg_fillPreferring_4 rfl ?_
  refine aw_callSv (As := [_, _]) D_rg_fillPreferring_5 kv_ja_fillI (c_fillI (q := 33) (N := 512) (by decide) rfl) rfl rfl (Nat.le_of_ble_eq_true rfl) (Nat.zero_le _) (Nat.zero_le _) ?_
  refine aw_row (q := 33) (g := nF (fun _ => 0)) rfl (fun j hj => by rw [if_pos hj]) ?_
  refine aw_iload_n 1 D_rg_fillPreferring_8 rfl rfl ?_
  refine aw_iconst (nI 1) D_rg_fillPreferring_9 rfl ?_
  have k0 := key (2 ^ n) 0 ch (by omega) (Or.inl rfl)
  refine aw_icmp_neN D_rg_fillPreferring_10 (by omega) (by omega) (fun h => ?_) (fun h => ?_)
  · refine aw_aload_n 0 D_rg_fillPreferring_17 rfl rfl ?_
    refine aw_get D_rg_fillPreferring_18 rfl rfl ?_
    refine aw_iconst (nI 1) D_rg_fillPreferring_21 rfl ?_
    first | with_reducible refine aw_isubN D_rg_fillPreferring_22 (by omega) ?_ | refine aw_isub D_rg_fillPreferring_22 ?_
    refine aw_istore_n 2 D_rg_fillPreferring_23 rfl (Nat.le_of_ble_eq_true rfl) rfl ?_
    refine aw_iconst (nI 0) D_rg_fillPreferring_24 rfl ?_
    refine aw_istore_n 3 D_rg_fillPreferring_25 rfl (Nat.le_of_ble_eq_true rfl) rfl ?_
    have e : pfr n p (pf0 (2 ^ n) p b) 0 = (2 ^ n - 1, fun _ => 0, b) := by
      show (if p = 1 then 0 else 2 ^ n - 1, (fun _ => 0), b) = _
      rw [if_neg h]
    rw [e] at k0
    exact k0
  · refine aw_iconst (nI 0) D_rg_fillPreferring_13 rfl ?_
    refine aw_goto D_rg_fillPreferring_14 ?_
    refine aw_istore_n 2 D_rg_fillPreferring_23 rfl (Nat.le_of_ble_eq_true rfl) rfl ?_
    refine aw_iconst (nI 0) D_rg_fillPreferring_24 rfl ?_
    refine aw_istore_n 3 D_rg_fillPreferring_25 rfl (Nat.le_of_ble_eq_true rfl) rfl ?_
    have e : pfr n p (pf0 (2 ^ n) p b) 0 = (0, fun _ => 0, b) := by
      show (if p = 1 then 0 else 2 ^ n - 1, (fun _ => 0), b) = _
      rw [if_pos h]
    rw [e] at k0
    exact k0
def ffw (n : Nat) (c : Nat → Nat) (b : Nat → Nat) : Nat → Nat × (Nat → Nat)
  | 0 => (0, b)
  | i + 1 => (ld n (ffw n c b i).1 (c i), if n ≤ i then va_up (ffw n c b i).2 (ffw n c b i).1 (c i) else (ffw n c b i).2)
theorem ffw_lt {n : Nat} {c b : Nat → Nat} (hn : 1 ≤ n) (hc : ∀ i, c i ≤ 1) : ∀ i, (ffw n c b i).1 < 2 ^ n
  | 0 => Nat.two_pow_pos n
  | i + 1 => ld_lt hn (ffw_lt hn hc i) (hc i)
theorem c_rg_from {q qc sz : Nat} {la : Int32} {cs : Nat → Int64} (hn : 2 ≤ n) (hn9 : n ≤ 9) (hsz : sz ≤ 600) (hq4 : q % 16 = 4) (hc4 : qc % 16 = 4) (hq : sh[q / 16]? = some (.inr (3, [.int la, .int (nI sz), .ref qc]))) (hc : sh[qc / 16]? = some (.inl (1, 600, .inr (.inl cs)))) : AMet M_rg_fillFrom [.ref 1, .ref q] [mn, RG n N 1 b bn, ri, tr, sh, rr, mo, dy] (Ex none [mn, RG n N 1 (ffw n (fun i => bt (cs i)) b sz).2 bn, ri, tr, sh, rr, mo, dy]) 0 0 := by
  have hp9 := pow_le9 hn9
  refine AMet.of [(0, .ref 1), (1, .ref q)] (by decide +kernel) rfl (Nat.le_of_ble_eq_true rfl) ?_
  have key : ∀ (m i : Nat), i + m = sz → AW M_rg_fillFrom noP (Zp (Ex none [mn, RG n N 1 (ffw n (fun i => bt (cs i)) b sz).2 bn, ri, tr, sh, rr, mo, dy])) 0 0 4 [(0, .ref 1), (1, .ref q), (2, .int (nI (ffw n (fun i => bt (cs i)) b i).1)), (3, .int (nI i))] [] [mn, RG n N 1 (ffw n (fun i => bt (cs i)) b i).2 bn, ri, tr, sh, rr, mo, dy] 0 0 := by
    intro m
    induction m with
    | zero =>
      intro i hi
      refine aw_iload_n 3 D_rg_fillFrom_4 rfl rfl ?_
      refine aw_aload_n 1 D_rg_fillFrom_5 rfl rfl ?_
      refine aw_get D_rg_fillFrom_6 ((look4 hq4).trans hq) rfl ?_
      refine aw_icmp_geN D_rg_fillFrom_9 (by omega) (by omega) (fun h => ?_) (fun h => absurd h (by omega))
      rw [show i = sz by omega]
      refine aw_return D_rg_fillFrom_48 rfl ?_
      exact ⟨rfl, rfl⟩
    | succ m ih =>
      intro i hi
      have hlt := ffw_lt (n := n) (c := fun i => bt (cs i)) (b := b) (by omega) (fun i => bt_le _) i
      have hb1 := bt_le (cs i)
      refine aw_iload_n 3 D_rg_fillFrom_4 rfl rfl ?_
      refine aw_aload_n 1 D_rg_fillFrom_5 rfl rfl ?_
      refine aw_get D_rg_fillFrom_6 ((look4 hq4).trans hq) rfl ?_
      refine aw_icmp_geN D_rg_fillFrom_9 (by omega) (by omega) (fun h => absurd h (by omega)) (fun h => ?_)
      refine aw_aload_n 1 D_rg_fillFrom_12 rfl rfl ?_
      refine aw_iload_n 3 D_rg_fillFrom_13 rfl rfl ?_
      refine aw_callV1 (As := [_]) D_rg_fillFrom_14 kv_sh_bitAt (c_sh_bit (i := i) (by omega) ((look4 hq4).trans hq) ((look4 hc4).trans hc)) rfl rfl ((look4 hq4).trans hq) rfl rfl (Nat.le_of_ble_eq_true rfl) (Nat.zero_le _) (Nat.zero_le _) ?_
      refine aw_istore D_rg_fillFrom_17 (Nat.le_of_ble_eq_true rfl) rfl ?_
      refine aw_iload_n 3 D_rg_fillFrom_19 rfl rfl ?_
      refine aw_aload_n 0 D_rg_fillFrom_20 rfl rfl ?_
      refine aw_get D_rg_fillFrom_21 rfl rfl ?_
      have hend : ∀ (f : Nat → Nat), f = (ffw n (fun i => bt (cs i)) b (i + 1)).2 → AW M_rg_fillFrom noP (Zp (Ex none [mn, RG n N 1 (ffw n (fun i => bt (cs i)) b sz).2 bn, ri, tr, sh, rr, mo, dy])) 0 0 34 [(0, .ref 1), (1, .ref q), (2, .int (nI (ffw n (fun i => bt (cs i)) b i).1)), (3, .int (nI i)), (4, .int (nI (bt (cs i))))] [] [mn, RG n N 1 f bn, ri, tr, sh, rr, mo, dy] 0 0 := by
        intro f hf
        refine aw_aload_n 0 D_rg_fillFrom_34 rfl rfl ?_
        refine aw_iload_n 2 D_rg_fillFrom_35 rfl rfl ?_
        refine aw_iload D_rg_fillFrom_36 rfl ?_
        refine aw_callV1 (As := [_, _]) D_rg_fillFrom_38 kv_rg_lead (c_rg_lead (x := bt (cs i)) (by omega) hn9 hlt hb1) rfl rfl rfl rfl rfl (Nat.le_of_ble_eq_true rfl) (Nat.zero_le _) (Nat.zero_le _) ?_
        refine aw_istore_n 2 D_rg_fillFrom_41 rfl (Nat.le_of_ble_eq_true rfl) rfl ?_
        first | refine aw_incN D_rg_fillFrom_42 rfl (Nat.le_of_ble_eq_true rfl) rfl ?_ | refine aw_inc D_rg_fillFrom_42 rfl (Nat.le_of_ble_eq_true rfl) rfl ?_
        refine aw_goto D_rg_fillFrom_45 ?_
        refine aw_take 4 ?_
        rw [hf]
        exact ih (i + 1) (by omega)
      refine aw_icmp_ltN D_rg_fillFrom_24 (by omega) (by omega) (fun h2 => ?_) (fun h2 => ?_)
      · exact hend _ (by show _ = if n ≤ i then _ else _; rw [if_neg (by omega)])
      · refine aw_aload_n 0 D_rg_fillFrom_27 rfl rfl ?_
        refine aw_iload_n 2 D_rg_fillFrom_28 rfl rfl ?_
        refine aw_iload D_rg_fillFrom_29 rfl ?_
        refine aw_callVv (As := [_, _]) D_rg_fillFrom_31 kv_rg_write (c_rg_write (x := bt (cs i)) (by omega)) rfl rfl rfl rfl rfl (Nat.le_of_ble_eq_true rfl) (Nat.zero_le _) (Nat.zero_le _) ?_
        exact hend _ (by show _ = if n ≤ i then _ else _; rw [if_pos h2])
  refine aw_iconst (nI 0) D_rg_fillFrom_0 rfl ?_
  refine aw_istore_n 2 D_rg_fillFrom_1 rfl (Nat.le_of_ble_eq_true rfl) rfl ?_
  refine aw_iconst (nI 0) D_rg_fillFrom_2 rfl ?_
  refine aw_istore_n 3 D_rg_fillFrom_3 rfl (Nat.le_of_ble_eq_true rfl) rfl ?_
  exact key sz 0 (by omega)
end Reg2
end
section
/-! ### plain numbers: states of a map f below N, peeled -/
theorem itr_succ (f : Nat → Nat) : ∀ k s, itr f (k + 1) s = f (itr f k s)
  | 0, _ => rfl
  | k + 1, s => itr_succ f k (f s)
theorem itr_add (f : Nat → Nat) : ∀ a b s, itr f (a + b) s = itr f b (itr f a s)
  | 0, b, s => by rw [Nat.zero_add]; rfl
  | a + 1, b, s => by
    rw [show a + 1 + b = (a + b) + 1 by omega]
    exact itr_add f a b (f s)
def inQ (qu : Nat → Nat) : Nat → Nat → Bool
  | 0, _ => false
  | k + 1, s => inQ qu k s || decide (qu k = s)
theorem inQ_iff (qu : Nat → Nat) (s : Nat) : ∀ k, inQ qu k s = true ↔ ∃ j, j < k ∧ qu j = s
  | 0 => ⟨fun h => (by cases h), fun ⟨j, hj, _⟩ => absurd hj (by omega)⟩
  | k + 1 => by
    unfold inQ
    rw [Bool.or_eq_true, inQ_iff qu s k, decide_eq_true_iff]
    constructor
    · rintro (⟨j, h1, h2⟩ | h)
      · exact ⟨j, by omega, h2⟩
      · exact ⟨k, by omega, h⟩
    · rintro ⟨j, h1, h2⟩
      rcases Nat.lt_or_ge j k with q | q
      · exact Or.inl ⟨j, q, h2⟩
      · exact Or.inr (by rw [← h2, show j = k by omega])
/-- how many states lead to t that aren't among the first q of the queue -/
def ctQ (f : Nat → Nat) (N : Nat) (qu : Nat → Nat) (q t : Nat) : Nat := fb_ct (fun s => decide (f s = t) && !inQ qu q s) N
def PI (f : Nat → Nat) (N : Nat) (wt qu : Nat → Nat) (pl q : Nat) : Prop :=
  q ≤ pl ∧ (∀ j, j < pl → qu j < N) ∧ (∀ i j, i < j → j < pl → qu i ≠ qu j) ∧ (∀ t, t < N → wt t = ctQ f N qu q t) ∧ (∀ t, t < N → (wt t = 0 ↔ ∃ j, j < pl ∧ qu j = t)) ∧ (∀ j, j < q → ∀ i, i < pl → f (qu j) = qu i → j < i)
theorem PI.le {f : Nat → Nat} {N : Nat} {wt qu : Nat → Nat} {pl q : Nat} (h : PI f N wt qu pl q) : pl ≤ N := fb_holes N pl qu h.2.1 h.2.2.1
theorem inQ_congr {qu qu' : Nat → Nat} {k : Nat} (h : ∀ j, j < k → qu j = qu' j) (s : Nat) : inQ qu k s = inQ qu' k s := by
  rw [Bool.eq_iff_iff, inQ_iff, inQ_iff]
  constructor <;> rintro ⟨j, h1, h2⟩
  · exact ⟨j, h1, by rw [← h j h1]; exact h2⟩
  · exact ⟨j, h1, by rw [h j h1]; exact h2⟩
/-- one more of the queue is done: its successor waits for one less -/
theorem ctQ_succ {f : Nat → Nat} {N : Nat} {qu : Nat → Nat} {q t : Nat} (hs : qu q < N) (hn : inQ qu q (qu q) = false) : ctQ f N qu (q + 1) t + (if f (qu q) = t then 1 else 0) = ctQ f N qu q t := by
  unfold ctQ
  have e : (fun s => decide (f s = t) && !inQ qu (q + 1) s) = (fun k => if k = qu q then false else (fun s => decide (f s = t) && !inQ qu q s) k) := by
    funext s
    by_cases h : s = qu q
    · rw [if_pos h]
      have : inQ qu (q + 1) s = true := (inQ_iff qu s (q + 1)).mpr ⟨q, by omega, h.symm⟩
      rw [this]; simp
    · rw [if_neg h]
      have : inQ qu (q + 1) s = inQ qu q s := by
        show (inQ qu q s || decide (qu q = s)) = _
        rw [show decide (qu q = s) = false from decide_eq_false (fun e => h e.symm), Bool.or_false]
      rw [this]
  rw [e]
  have := fb_ct_upd (fun s => decide (f s = t) && !inQ qu q s) false (i := qu q) hs
  have e2 : (decide (f (qu q) = t) && !inQ qu q (qu q)) = decide (f (qu q) = t) := by rw [hn]; simp
  rw [e2] at this
  by_cases h : f (qu q) = t
  · rw [if_pos h]; simp [h] at this ⊢; omega
  · rw [if_neg h]; simp [h] at this ⊢; omega
theorem PI.step {f : Nat → Nat} {N : Nat} {wt qu : Nat → Nat} {pl q : Nat} (hf : ∀ s, s < N → f s < N) (h : PI f N wt qu pl q) (hq : q < pl) :
    0 < wt (f (qu q)) ∧ (wt (f (qu q)) - 1 = 0 → pl < N ∧ PI f N (va_up wt (f (qu q)) (wt (f (qu q)) - 1)) (va_up qu pl (f (qu q))) (pl + 1) (q + 1)) ∧ (wt (f (qu q)) - 1 ≠ 0 → PI f N (va_up wt (f (qu q)) (wt (f (qu q)) - 1)) qu pl (q + 1)) := by
  obtain ⟨h1, h2, h3, h4, h5, h6⟩ := h
  have hs := h2 q hq
  have ht := hf _ hs
  have hn : inQ qu q (qu q) = false := by
    rw [Bool.eq_false_iff]
    intro e
    obtain ⟨j, hj, e⟩ := (inQ_iff qu _ q).mp e
    exact h3 j q hj hq e
  have hc := fun t => ctQ_succ (f := f) (t := t) hs hn
  have hpos : 0 < wt (f (qu q)) := by
    have := hc (f (qu q))
    rw [if_pos rfl] at this
    rw [h4 _ ht]; omega
  have hnq : ¬ ∃ j, j < pl ∧ qu j = f (qu q) := fun e => by
    have := (h5 _ ht).mpr e
    omega
  have hw : ∀ t, t < N → va_up wt (f (qu q)) (wt (f (qu q)) - 1) t = ctQ f N qu (q + 1) t := by
    intro t htN
    have := hc t
    by_cases e : t = f (qu q)
    · subst e
      rw [vu_at, h4 _ ht]
      rw [if_pos rfl] at this
      omega
    · rw [vu_ne e, h4 _ htN]
      rw [if_neg (fun z => e z.symm)] at this
      omega
  have hord : ∀ j, j < q + 1 → ∀ i, i < pl → f (qu j) = qu i → j < i := by
    intro j hj i hi e
    rcases Nat.lt_or_ge j q with z | z
    · exact h6 j z i hi e
    · have : j = q := by omega
      subst this
      exact absurd ⟨i, hi, e.symm⟩ hnq
  refine ⟨hpos, fun h0 => ?_, fun h0 => ?_⟩
  · have d1 : ∀ j, j < pl + 1 → va_up qu pl (f (qu q)) j < N := by
      intro j hj
      by_cases e : j = pl
      · rw [e, vu_at]; exact ht
      · rw [vu_ne e]; exact h2 j (by omega)
    have d2 : ∀ i j, i < j → j < pl + 1 → va_up qu pl (f (qu q)) i ≠ va_up qu pl (f (qu q)) j := by
      intro i j hij hj
      rw [vu_ne (show i ≠ pl by omega)]
      by_cases e : j = pl
      · rw [e, vu_at]
        exact fun z => hnq ⟨i, by omega, z⟩
      · rw [vu_ne e]; exact h3 i j hij (by omega)
    have hle := fb_holes N (pl + 1) _ d1 d2
    refine ⟨by omega, by omega, d1, d2, fun t htN => ?_, fun t htN => ?_, fun j hj i hi e => ?_⟩
    · rw [hw t htN]
      unfold ctQ
      have : ∀ s, inQ qu (q + 1) s = inQ (va_up qu pl (f (qu q))) (q + 1) s := fun s => inQ_congr (fun j hj => (vu_ne (by omega)).symm) s
      exact fb_ct_cong (fun s _ => by rw [this])
    · by_cases e : t = f (qu q)
      · subst e
        rw [vu_at]
        exact ⟨fun _ => ⟨pl, by omega, vu_at _ _ _⟩, fun _ => h0⟩
      · rw [vu_ne e, h5 t htN]
        constructor
        · rintro ⟨j, hj, z⟩
          exact ⟨j, by omega, by rw [vu_ne (by omega)]; exact z⟩
        · rintro ⟨j, hj, z⟩
          by_cases e2 : j = pl
          · rw [e2, vu_at] at z; exact absurd z.symm e
          · rw [vu_ne e2] at z; exact ⟨j, by omega, z⟩
    · rw [vu_ne (show j ≠ pl by omega)] at e
      by_cases e2 : i = pl
      · omega
      · rw [vu_ne e2] at e; exact hord j hj i (by omega) e
  · refine ⟨by omega, h2, h3, hw, fun t htN => ?_, hord⟩
    by_cases e : t = f (qu q)
    · subst e
      rw [vu_at]
      exact ⟨fun z => absurd z h0, fun z => absurd z hnq⟩
    · rw [vu_ne e]; exact h5 t htN
/-- the first walk: what none leads to -/
def P1 (N : Nat) (wt qu : Nat → Nat) (pl i : Nat) : Prop := (∀ j, j < pl → qu j < i ∧ wt (qu j) = 0) ∧ (∀ i j, i < j → j < pl → qu i ≠ qu j) ∧ (∀ t, t < i → wt t = 0 → ∃ j, j < pl ∧ qu j = t) ∧ pl = fb_ct (fun t => decide (wt t = 0)) i
theorem P1.zero (N : Nat) (wt qu : Nat → Nat) : P1 N wt qu 0 0 := ⟨fun j hj => absurd hj (by omega), fun i j _ hj => absurd hj (by omega), fun t ht => absurd ht (by omega), rfl⟩
theorem P1.le {N : Nat} {wt qu : Nat → Nat} {pl i : Nat} (h : P1 N wt qu pl i) : pl ≤ i := by
  rw [h.2.2.2]; exact fb_ct_le _ _
theorem P1.yes {N : Nat} {wt qu : Nat → Nat} {pl i : Nat} (h : P1 N wt qu pl i) (h0 : wt i = 0) : P1 N wt (va_up qu pl i) (pl + 1) (i + 1) := by
  obtain ⟨h1, h2, h3, h4⟩ := h
  refine ⟨fun j hj => ?_, fun a j haj hj => ?_, fun t ht hw => ?_, ?_⟩
  · by_cases e : j = pl
    · rw [e, vu_at]; exact ⟨by omega, h0⟩
    · rw [vu_ne e]
      obtain ⟨a, b⟩ := h1 j (by omega)
      exact ⟨by omega, b⟩
  · rw [vu_ne (show a ≠ pl by omega)]
    by_cases e : j = pl
    · rw [e, vu_at]
      have := (h1 a (by omega)).1
      omega
    · rw [vu_ne e]; exact h2 a j haj (by omega)
  · by_cases e : t = i
    · exact ⟨pl, by omega, by rw [vu_at, e]⟩
    · obtain ⟨j, hj, z⟩ := h3 t (by omega) hw
      exact ⟨j, by omega, by rw [vu_ne (by omega)]; exact z⟩
  · rw [fb_ct_succ, ← h4, if_pos (decide_eq_true h0)]
theorem P1.no {N : Nat} {wt qu : Nat → Nat} {pl i : Nat} (h : P1 N wt qu pl i) (h0 : wt i ≠ 0) : P1 N wt qu pl (i + 1) := by
  obtain ⟨h1, h2, h3, h4⟩ := h
  refine ⟨fun j hj => ⟨by have := (h1 j hj).1; omega, (h1 j hj).2⟩, h2, fun t ht hw => ?_, ?_⟩
  · by_cases e : t = i
    · rw [e] at hw; exact absurd hw h0
    · exact h3 t (by omega) hw
  · rw [fb_ct_succ, ← h4, if_neg (by simp [h0])]; rfl
theorem P1.done {f : Nat → Nat} {N : Nat} {wt qu : Nat → Nat} {pl : Nat} (h : P1 N wt qu pl N) (hw : ∀ t, t < N → wt t = fb_ct (fun s => decide (f s = t)) N) : PI f N wt qu pl 0 := by
  obtain ⟨h1, h2, h3, h4⟩ := h
  refine ⟨Nat.zero_le _, fun j hj => (h1 j hj).1, h2, fun t ht => ?_, fun t ht => ⟨h3 t ht, ?_⟩, fun j hj => absurd hj (by omega)⟩
  · rw [hw t ht]
    unfold ctQ
    exact fb_ct_cong (fun s _ => by simp [inQ])
  · rintro ⟨j, hj, e⟩
    rw [← e]; exact (h1 j hj).2
theorem P1.congr {N : Nat} {wt wt' qu : Nat → Nat} {pl i : Nat} (h : P1 N wt qu pl i) (he : ∀ t, t < i → wt' t = wt t) : P1 N wt' qu pl i := by
  obtain ⟨h1, h2, h3, h4⟩ := h
  refine ⟨fun j hj => ⟨(h1 j hj).1, by rw [he _ (h1 j hj).1]; exact (h1 j hj).2⟩, h2, fun t ht hw => h3 t ht (by rw [← he t ht]; exact hw), ?_⟩
  rw [h4]
  exact fb_ct_cong (fun t ht => by rw [he t ht])
/-- what is left when all is peeled: f goes round on it -/
theorem PI.stay {f : Nat → Nat} {N : Nat} {wt qu : Nat → Nat} {pl : Nat} (hf : ∀ s, s < N → f s < N) (h : PI f N wt qu pl pl) :
    (∀ t, t < N → wt t ≠ 0 → wt (f t) ≠ 0) ∧ (∀ s t, s < N → t < N → wt s ≠ 0 → wt t ≠ 0 → f s = f t → s = t) := by
  obtain ⟨h1, h2, h3, h4, h5, h6⟩ := h
  have hout : ∀ t, t < N → (wt t ≠ 0 ↔ inQ qu pl t = false) := by
    intro t ht
    rw [Ne, h5 t ht, ← inQ_iff, Bool.not_eq_true]
  have a1 : ∀ t, t < N → wt t ≠ 0 → wt (f t) ≠ 0 := by
    intro t ht hw
    rw [h4 _ (hf t ht)]
    have : 0 < ctQ f N qu pl (f t) := fb_ct_pos.mpr ⟨t, ht, by rw [(hout t ht).mp hw]; simp⟩
    omega
  have a2 : ∀ t, t < N → wt t ≠ 0 → ∃ s, s < N ∧ wt s ≠ 0 ∧ f s = t := by
    intro t ht hw
    rw [h4 t ht] at hw
    obtain ⟨s, hs, z⟩ := fb_ct_pos.mp (Nat.pos_of_ne_zero hw)
    simp only [Bool.and_eq_true, decide_eq_true_eq, Bool.not_eq_true'] at z
    exact ⟨s, hs, (hout s hs).mpr z.2, z.1⟩
  refine ⟨a1, ?_⟩
  have hg : ∀ t, ∃ s, (t < N → s < N) ∧ (t < N → wt t ≠ 0 → wt s ≠ 0 ∧ f s = t) ∧ (wt t = 0 → s = t) := by
    intro t
    by_cases hw : wt t = 0
    · exact ⟨t, fun h => h, fun _ z => absurd hw z, fun _ => rfl⟩
    · by_cases ht : t < N
      · obtain ⟨s, b1, b2, b3⟩ := a2 t ht hw
        exact ⟨s, fun _ => b1, fun _ _ => ⟨b2, b3⟩, fun z => absurd z hw⟩
      · exact ⟨t, fun h => h, fun z => absurd z ht, fun _ => rfl⟩
  have hex : ∃ g : Nat → Nat, ∀ t, (t < N → g t < N) ∧ (t < N → wt t ≠ 0 → wt (g t) ≠ 0 ∧ f (g t) = t) ∧ (wt t = 0 → g t = t) := ⟨fun t => Classical.choose (hg t), fun t => Classical.choose_spec (hg t)⟩
  obtain ⟨g, hg⟩ := hex
  have ginj : ∀ i j, i < j → j < N → g i ≠ g j := by
    intro i j hij hj e
    by_cases wi : wt i = 0 <;> by_cases wj : wt j = 0
    · rw [(hg i).2.2 wi, (hg j).2.2 wj] at e; omega
    · have := ((hg j).2.1 hj wj).1
      rw [← e, (hg i).2.2 wi] at this
      exact this wi
    · have := ((hg i).2.1 (by omega) wi).1
      rw [e, (hg j).2.2 wj] at this
      exact this wj
    · have z1 := ((hg i).2.1 (by omega) wi).2
      have z2 := ((hg j).2.1 hj wj).2
      rw [e] at z1
      omega
  have gon : ∀ s, s < N → wt s ≠ 0 → s = g (f s) := by
    intro s hs hw
    obtain ⟨t, ht, e⟩ := fb_onto (fun i hi => (hg i).1 hi) ginj hs
    by_cases wt0 : wt t = 0
    · rw [(hg t).2.2 wt0] at e
      rw [e] at wt0
      exact absurd wt0 hw
    · have := ((hg t).2.1 ht wt0).2
      rw [e] at this
      rw [this]; exact e.symm
  intro s t hs ht ws wt' e
  rw [gon s hs ws, gon t ht wt', e]
end
section
/-! ### plain numbers: rings named -/
/-- the tables of all rings: which ring, how far behind, which place; the rings' least states and lengths; how many -/
def VT (f : Nat → Nat) (N : Nat) (ro be pc le sz : Nat → Nat) (R : Nat) : Prop :=
  (∀ s, s < N → ro s < R) ∧ (∀ s, s < N → be s = 0 → be (f s) = 0 ∧ ro (f s) = ro s) ∧ (∀ s, s < N → 0 < be s → be (f s) + 1 = be s ∧ ro (f s) = ro s ∧ pc (f s) = pc s) ∧
  (∀ r, r < R → le r < N ∧ 1 ≤ sz r ∧ itr f (sz r) (le r) = le r ∧ ∀ j, j < sz r → be (itr f j (le r)) = 0 ∧ ro (itr f j (le r)) = r ∧ pc (itr f j (le r)) = j) ∧
  (∀ s, s < N → be s = 0 → pc s < sz (ro s) ∧ itr f (pc s) (le (ro s)) = s ∧ le (ro s) ≤ s) ∧ (∀ r r', r < r' → r' < R → le r < le r')
/-- the rings below i are named -/
def NI (f : Nat → Nat) (N : Nat) (wt : Nat → Nat) (o : Nat → Option Nat) (be pc le sz : Nat → Nat) (c i : Nat) : Prop :=
  (∀ t, t < N → wt t = 0 → o t = none) ∧ (∀ t r, t < N → o t = some r → r < c ∧ wt t ≠ 0 ∧ be t = 0 ∧ pc t < sz r ∧ itr f (pc t) (le r) = t ∧ o (f t) = some r ∧ le r ≤ t) ∧
  (∀ r, r < c → le r < i ∧ le r < N ∧ 1 ≤ sz r ∧ itr f (sz r) (le r) = le r ∧ ∀ j, j < sz r → o (itr f j (le r)) = some r ∧ pc (itr f j (le r)) = j) ∧
  (∀ r r', r < r' → r' < c → le r < le r') ∧ (∀ t, t < i → t < N → wt t ≠ 0 → o t ≠ none)
theorem NI.zero {f : Nat → Nat} {N : Nat} {wt : Nat → Nat} {o : Nat → Option Nat} {be pc le sz : Nat → Nat} (h : ∀ t, t < N → o t = none) : NI f N wt o be pc le sz 0 0 :=
  ⟨fun t ht _ => h t ht, fun t r ht e => (by rw [h t ht] at e; cases e), fun r hr => absurd hr (by omega), fun r r' _ hr => absurd hr (by omega), fun t ht => absurd ht (by omega)⟩
theorem NI.skip {f : Nat → Nat} {N : Nat} {wt : Nat → Nat} {o : Nat → Option Nat} {be pc le sz : Nat → Nat} {c i : Nat} (h : NI f N wt o be pc le sz c i) (hi : wt i = 0 ∨ o i ≠ none) : NI f N wt o be pc le sz c (i + 1) := by
  obtain ⟨h1, h2, h3, h4, h5⟩ := h
  refine ⟨h1, h2, fun r hr => ⟨by have := (h3 r hr).1; omega, (h3 r hr).2⟩, h4, fun t ht htN hw => ?_⟩
  by_cases e : t = i
  · subst e
    exact hi.elim (fun z => absurd z hw) (fun z => z)
  · exact h5 t (by omega) htN hw
/-- a walk from s, j steps done: what it met had no name -/
def WI (f : Nat → Nat) (N : Nat) (o : Nat → Option Nat) (be pc : Nat → Nat) (c s j : Nat) (o' : Nat → Option Nat) (be' pc' : Nat → Nat) : Prop :=
  (∀ a, a < j → o (itr f a s) = none) ∧ (∀ a b, a < b → b < j → itr f a s ≠ itr f b s) ∧
  (∀ a, a < j → o' (itr f a s) = some c ∧ be' (itr f a s) = 0 ∧ pc' (itr f a s) = a) ∧ (∀ t, (∀ a, a < j → itr f a s ≠ t) → o' t = o t ∧ be' t = be t ∧ pc' t = pc t)
theorem WI.zero (f : Nat → Nat) (N : Nat) (o : Nat → Option Nat) (be pc : Nat → Nat) (c s : Nat) : WI f N o be pc c s 0 o be pc :=
  ⟨fun a ha => absurd ha (by omega), fun a b _ hb => absurd hb (by omega), fun a ha => absurd ha (by omega), fun _ _ => ⟨rfl, rfl, rfl⟩⟩
theorem WI.un {f : Nat → Nat} {N : Nat} {o o' : Nat → Option Nat} {be pc be' pc' : Nat → Nat} {c s j t : Nat} (h : WI f N o be pc c s j o' be' pc') (e : o' t = none) : o t = none ∧ ∀ a, a < j → itr f a s ≠ t := by
  have h2 : ∀ a, a < j → itr f a s ≠ t := fun a ha z => by
    have := (h.2.2.1 a ha).1
    rw [z, e] at this; cases this
  exact ⟨by rw [← (h.2.2.2 t h2).1]; exact e, h2⟩
theorem WI.step {f : Nat → Nat} {N : Nat} {o o' : Nat → Option Nat} {be pc be' pc' : Nat → Nat} {c s j : Nat} (h : WI f N o be pc c s j o' be' pc') (e : o' (itr f j s) = none) :
    WI f N o be pc c s (j + 1) (va_up o' (itr f j s) (some c)) (va_up be' (itr f j s) 0) (va_up pc' (itr f j s) j) := by
  obtain ⟨e1, e2⟩ := h.un e
  obtain ⟨h1, h2, h3, h4⟩ := h
  refine ⟨fun a ha => ?_, fun a b hab hb => ?_, fun a ha => ?_, fun t ht => ?_⟩
  · rcases Nat.lt_or_ge a j with q | q
    · exact h1 a q
    · rw [show a = j by omega]; exact e1
  · rcases Nat.lt_or_ge b j with q | q
    · exact h2 a b hab q
    · rw [show b = j by omega]; exact e2 a (by omega)
  · rcases Nat.lt_or_ge a j with q | q
    · rw [vu_ne (e2 a q), vu_ne (e2 a q), vu_ne (e2 a q)]; exact h3 a q
    · rw [show a = j by omega, vu_at, vu_at, vu_at]; exact ⟨rfl, rfl, rfl⟩
  · have hne : t ≠ itr f j s := fun z => ht j (by omega) z.symm
    rw [vu_ne hne, vu_ne hne, vu_ne hne]
    exact h4 t (fun a ha => ht a (by omega))
theorem WI.le {f : Nat → Nat} {N : Nat} {o o' : Nat → Option Nat} {be pc be' pc' : Nat → Nat} {c s j : Nat} (hf : ∀ s, s < N → f s < N) (hs : s < N) (h : WI f N o be pc c s j o' be' pc') : j ≤ N :=
  fb_holes N j (fun a => itr f a s) (fun a _ => itr_lt hf a s hs) h.2.1
/-- with all N states met, the walk is at its end -/
theorem WI.full {f : Nat → Nat} {N : Nat} {o o' : Nat → Option Nat} {be pc be' pc' : Nat → Nat} {c s j : Nat} (hf : ∀ s, s < N → f s < N) (hs : s < N) (h : WI f N o be pc c s j o' be' pc') (e : o' (itr f j s) = none) : j < N := by
  have := (h.step e).le hf hs
  omega
/-- the walk's end: it has come back to s -/
theorem WI.back {f : Nat → Nat} {N : Nat} {wt : Nat → Nat} {o o' : Nat → Option Nat} {be pc le sz be' pc' : Nat → Nat} {c s j : Nat} (hf : ∀ s, s < N → f s < N) (hst : ∀ t, t < N → wt t ≠ 0 → wt (f t) ≠ 0) (hinj : ∀ s t, s < N → t < N → wt s ≠ 0 → wt t ≠ 0 → f s = f t → s = t)
    (hN : NI f N wt o be pc le sz c s) (hs : s < N) (hw : wt s ≠ 0) (hos : o s = none) (h : WI f N o be pc c s j o' be' pc') (e : o' (itr f j s) ≠ none) : 1 ≤ j ∧ itr f j s = s ∧ ∀ a, wt (itr f a s) ≠ 0 := by
  have hU : ∀ a, wt (itr f a s) ≠ 0 := by
    intro a
    induction a with
    | zero => exact hw
    | succ a ih => rw [itr_succ]; exact hst _ (itr_lt hf a s hs) ih
  obtain ⟨h1, h2, h3, h4⟩ := h
  have hj : 1 ≤ j := by
    rcases Nat.eq_zero_or_pos j with z | z
    · subst z
      have := (h4 s (fun a ha => absurd ha (by omega))).1
      rw [show itr f 0 s = s from rfl, this] at e
      exact absurd hos e
    · exact z
  refine ⟨hj, ?_, hU⟩
  have hpre : itr f j s = f (itr f (j - 1) s) := by
    rw [← itr_succ f, show j - 1 + 1 = j by omega]
  by_cases hm : ∃ a, a < j ∧ itr f a s = itr f j s
  · obtain ⟨a, ha, z⟩ := hm
    rcases Nat.eq_zero_or_pos a with q | q
    · rw [q] at z; exact z.symm
    · exfalso
      have e1 : itr f a s = f (itr f (a - 1) s) := by rw [← itr_succ f, show a - 1 + 1 = a by omega]
      rw [e1, hpre] at z
      have := hinj _ _ (itr_lt hf _ s hs) (itr_lt hf _ s hs) (hU _) (hU _) z
      exact h2 (a - 1) (j - 1) (by omega) (by omega) this
  · exfalso
    have z := (h4 (itr f j s) (fun a ha q => hm ⟨a, ha, q⟩)).1
    rw [z] at e
    cases hr : o (itr f j s) with
    | none => exact e hr
    | some r =>
      have hjN := itr_lt hf j s hs
      obtain ⟨r1, r2, r3, r4, r5, r6, r7⟩ := hN.2.1 _ r hjN hr
      obtain ⟨l1, l2, l3, l4, l5⟩ := hN.2.2.1 r r1
      -- the one ahead of it on its ring
      have hp : ∃ y, y < N ∧ o y = some r ∧ f y = itr f j s := by
        rcases Nat.eq_zero_or_pos (pc (itr f j s)) with q | q
        · refine ⟨itr f (sz r - 1) (le r), itr_lt hf _ _ l2, (l5 _ (by omega)).1, ?_⟩
          rw [← itr_succ f, show sz r - 1 + 1 = sz r by omega, l4, ← r5, q]
          rfl
        · refine ⟨itr f (pc (itr f j s) - 1) (le r), itr_lt hf _ _ l2, (l5 _ (by omega)).1, ?_⟩
          rw [← itr_succ f, show pc (itr f j s) - 1 + 1 = pc (itr f j s) by omega, r5]
      obtain ⟨y, y1, y2, y3⟩ := hp
      rw [hpre] at y3
      have := hinj y _ y1 (itr_lt hf _ s hs) (hN.2.1 y r y1 y2).2.1 (hU _) y3
      rw [this, h1 (j - 1) (by omega)] at y2
      cases y2
theorem NI.ring {f : Nat → Nat} {N : Nat} {wt : Nat → Nat} {o o' : Nat → Option Nat} {be pc le sz be' pc' : Nat → Nat} {c s j : Nat} (hf : ∀ s, s < N → f s < N) (hst : ∀ t, t < N → wt t ≠ 0 → wt (f t) ≠ 0) (hinj : ∀ s t, s < N → t < N → wt s ≠ 0 → wt t ≠ 0 → f s = f t → s = t)
    (hN : NI f N wt o be pc le sz c s) (hs : s < N) (hw : wt s ≠ 0) (hos : o s = none) (h : WI f N o be pc c s j o' be' pc') (e : o' (itr f j s) ≠ none) : NI f N wt o' be' pc' (va_up le c s) (va_up sz c j) (c + 1) (s + 1) := by
  obtain ⟨hj, hback, hU⟩ := h.back hf hst hinj hN hs hw hos e
  obtain ⟨h1, h2, h3, h4⟩ := h
  obtain ⟨n1, n2, n3, n4, n5⟩ := hN
  have hle : ∀ a, a < j → s ≤ itr f a s := by
    intro a ha
    rcases Nat.lt_or_ge (itr f a s) s with q | q
    · exact absurd (h1 a ha) (n5 _ q (itr_lt hf a s hs) (hU a))
    · exact q
  have hsame : ∀ t, (o t ≠ none) → o' t = o t ∧ be' t = be t ∧ pc' t = pc t := fun t ht => h4 t (fun a ha z => ht (by rw [← z]; exact h1 a ha))
  have hold : ∀ t r, t < N → o' t = some r → (∃ a, a < j ∧ itr f a s = t ∧ r = c) ∨ (o t = some r ∧ be' t = be t ∧ pc' t = pc t) := by
    intro t r ht q
    by_cases hm : ∃ a, a < j ∧ itr f a s = t
    · obtain ⟨a, ha, z⟩ := hm
      have := (h3 a ha).1
      rw [z, q] at this
      exact Or.inl ⟨a, ha, z, Option.some.inj this⟩
    · have := h4 t (fun a ha z => hm ⟨a, ha, z⟩)
      exact Or.inr ⟨by rw [← this.1]; exact q, this.2⟩
  refine ⟨fun t ht q => ?_, fun t r ht q => ?_, fun r hr => ?_, fun r r' hrr hr => ?_, fun t ht htN q => ?_⟩
  · have hz : ∀ a, a < j → itr f a s ≠ t := fun a ha z => by have := hU a; rw [z] at this; exact this q
    rw [(h4 t hz).1]; exact n1 t ht q
  · rcases hold t r ht q with ⟨a, ha, z, rfl⟩ | ⟨z1, z2, z3⟩
    · rw [vu_at, vu_at]
      have := h3 a ha
      rw [z] at this
      refine ⟨by omega, by rw [← z]; exact hU a, this.2.1, by rw [this.2.2]; exact ha, by rw [this.2.2]; exact z, ?_, by rw [← z]; exact hle a ha⟩
      rcases Nat.lt_or_ge (a + 1) j with y | y
      · have := (h3 (a + 1) y).1
        rw [itr_succ, z] at this; exact this
      · have e1 : f t = s := by
          rw [← z, ← itr_succ f, show a + 1 = j by omega]; exact hback
        rw [e1]; exact (h3 0 (by omega)).1
    · obtain ⟨r1, r2, r3, r4, r5, r6, r7⟩ := n2 t r ht z1
      rw [vu_ne (by omega), vu_ne (by omega), z2, z3]
      exact ⟨by omega, r2, r3, r4, r5, by rw [(hsame (f t) (by rw [r6]; exact fun y => by cases y)).1]; exact r6, r7⟩
  · by_cases q : r = c
    · subst q
      rw [vu_at, vu_at]
      exact ⟨by omega, hs, hj, hback, fun a ha => ⟨(h3 a ha).1, (h3 a ha).2.2⟩⟩
    · rw [vu_ne q, vu_ne q]
      obtain ⟨l1, l2, l3, l4, l5⟩ := n3 r (by omega)
      refine ⟨by omega, l2, l3, l4, fun a ha => ?_⟩
      obtain ⟨m1, m2⟩ := l5 a ha
      have := hsame (itr f a (le r)) (by rw [m1]; exact fun y => by cases y)
      rw [this.1, this.2.2]; exact ⟨m1, m2⟩
  · rw [vu_ne (show r ≠ c by omega)]
    by_cases q : r' = c
    · rw [q, vu_at]; exact (n3 r (by omega)).1
    · rw [vu_ne q]; exact n4 r r' hrr (by omega)
  · by_cases q2 : t = s
    · subst q2
      rw [show o' t = some c from (h3 0 (by omega)).1]
      exact fun y => by cases y
    · have := n5 t (by omega) htN q
      rw [(hsame t this).1]; exact this
/-- those behind, from the queue's end on: k of them are still to come -/
def BI (f : Nat → Nat) (N : Nat) (wt qu : Nat → Nat) (pl k : Nat) (o : Nat → Option Nat) (be pc : Nat → Nat) (o' : Nat → Option Nat) (be' pc' : Nat → Nat) : Prop :=
  (∀ t, t < N → (∀ j, k ≤ j → j < pl → qu j ≠ t) → o' t = o t ∧ be' t = be t ∧ pc' t = pc t) ∧ (∀ j, k ≤ j → j < pl → o' (qu j) = o' (f (qu j)) ∧ be' (qu j) = be' (f (qu j)) + 1 ∧ pc' (qu j) = pc' (f (qu j)) ∧ o' (qu j) ≠ none)
theorem BI.start (f : Nat → Nat) (N : Nat) (wt qu : Nat → Nat) (pl : Nat) (o : Nat → Option Nat) (be pc : Nat → Nat) : BI f N wt qu pl pl o be pc o be pc := ⟨fun _ _ _ => ⟨rfl, rfl, rfl⟩, fun j h1 h2 => absurd h1 (by omega)⟩
/-- the successor of the one that comes next has its name -/
theorem BI.named {f : Nat → Nat} {N : Nat} {wt qu : Nat → Nat} {pl k : Nat} {o o' : Nat → Option Nat} {be pc le sz be' pc' : Nat → Nat} {c : Nat} (hf : ∀ s, s < N → f s < N) (hPI : PI f N wt qu pl pl) (hN : NI f N wt o be pc le sz c N) (h : BI f N wt qu pl (k + 1) o be pc o' be' pc') (hk : k < pl) : o' (f (qu k)) ≠ none := by
  have hs := hPI.2.1 k hk
  have ht := hf _ hs
  by_cases hw : wt (f (qu k)) = 0
  · obtain ⟨i, hi, z⟩ := (hPI.2.2.2.2.1 _ ht).mp hw
    have := hPI.2.2.2.2.2 k hk i hi z.symm
    rw [← z]
    exact (h.2 i (by omega) hi).2.2.2
  · have h1 := hN.2.2.2.2 _ ht ht hw
    have : ∀ j, k + 1 ≤ j → j < pl → qu j ≠ f (qu k) := fun j _ hj z => hw ((hPI.2.2.2.2.1 _ ht).mpr ⟨j, hj, z⟩)
    rw [(h.1 _ ht this).1]; exact h1
theorem BI.step {f : Nat → Nat} {N : Nat} {wt qu : Nat → Nat} {pl k : Nat} {o o' : Nat → Option Nat} {be pc le sz be' pc' : Nat → Nat} {c : Nat} (hf : ∀ s, s < N → f s < N) (hPI : PI f N wt qu pl pl) (hN : NI f N wt o be pc le sz c N) (h : BI f N wt qu pl (k + 1) o be pc o' be' pc') (hk : k < pl) :
    BI f N wt qu pl k o be pc (va_up o' (qu k) (o' (f (qu k)))) (va_up be' (qu k) (be' (f (qu k)) + 1)) (va_up pc' (qu k) (pc' (f (qu k)))) := by
  have hnm := h.named hf hPI hN hk
  obtain ⟨h1, h2⟩ := h
  have hs := hPI.2.1 k hk
  have hne : f (qu k) ≠ qu k := fun z => by
    have := hPI.2.2.2.2.2 k hk k hk z
    omega
  refine ⟨fun t ht hj => ?_, fun j hj hjp => ?_⟩
  · have e : t ≠ qu k := fun z => hj k (Nat.le_refl _) hk z.symm
    rw [vu_ne e, vu_ne e, vu_ne e]
    exact h1 t ht (fun j a b => hj j (by omega) b)
  · by_cases e : j = k
    · subst e
      rw [vu_at, vu_at, vu_at, vu_ne hne, vu_ne hne, vu_ne hne]
      exact ⟨rfl, rfl, rfl, hnm⟩
    · have d : qu j ≠ qu k := fun z => hPI.2.2.1 k j (by omega) hjp z.symm
      have d2 : f (qu j) ≠ qu k := fun z => by
        have := hPI.2.2.2.2.2 j hjp k hk z
        omega
      rw [vu_ne d, vu_ne d, vu_ne d, vu_ne d2, vu_ne d2, vu_ne d2]
      exact h2 j (by omega) hjp
theorem BI.done {f : Nat → Nat} {N : Nat} {wt qu : Nat → Nat} {pl : Nat} {o o' : Nat → Option Nat} {be pc le sz be' pc' : Nat → Nat} {c : Nat} (hf : ∀ s, s < N → f s < N) (hPI : PI f N wt qu pl pl) (hN : NI f N wt o be pc le sz c N) (h : BI f N wt qu pl 0 o be pc o' be' pc') :
    (∀ s, s < N → o' s ≠ none) ∧ VT f N (fun s => (o' s).getD 0) be' pc' le sz c ∧ ∀ s, s < N → (be' s = 0 ↔ wt s ≠ 0) := by
  obtain ⟨h1, h2⟩ := h
  have hst := (hPI.stay hf).1
  obtain ⟨n1, n2, n3, n4, n5⟩ := hN
  have hU : ∀ t, t < N → wt t ≠ 0 → o' t = o t ∧ be' t = be t ∧ pc' t = pc t := fun t ht hw => h1 t ht (fun j _ hj z => hw ((hPI.2.2.2.2.1 t ht).mpr ⟨j, hj, z⟩))
  have hUn : ∀ t, t < N → wt t ≠ 0 → ∃ r, o' t = some r ∧ o t = some r := by
    intro t ht hw
    have := n5 t ht ht hw
    cases hr : o t with
    | none => exact absurd hr this
    | some r => exact ⟨r, (hU t ht hw).1.trans hr, rfl⟩
  have hQ : ∀ t, t < N → wt t = 0 → o' t = o' (f t) ∧ be' t = be' (f t) + 1 ∧ pc' t = pc' (f t) ∧ o' t ≠ none := by
    intro t ht hw
    obtain ⟨j, hj, z⟩ := (hPI.2.2.2.2.1 t ht).mp hw
    rw [← z]; exact h2 j (Nat.zero_le _) hj
  have hnn : ∀ s, s < N → o' s ≠ none := by
    intro s hs
    by_cases hw : wt s = 0
    · exact (hQ s hs hw).2.2.2
    · obtain ⟨r, e, -⟩ := hUn s hs hw
      rw [e]; exact fun z => by cases z
  have hb : ∀ s, s < N → (be' s = 0 ↔ wt s ≠ 0) := by
    intro s hs
    by_cases hw : wt s = 0
    · have := (hQ s hs hw).2.1
      exact ⟨fun z => absurd z (by omega), fun z => absurd hw z⟩
    · obtain ⟨r, e1, e2⟩ := hUn s hs hw
      exact ⟨fun _ => hw, fun _ => by rw [(hU s hs hw).2.1]; exact (n2 s r hs e2).2.2.1⟩
  -- every ring's number is below c
  have hlt : ∀ m, ∀ s, s < N → be' s = m → ∀ r, o' s = some r → r < c := by
    intro m
    induction m with
    | zero =>
      intro s hs hm r hr
      obtain ⟨r2, e1, e2⟩ := hUn s hs ((hb s hs).mp hm)
      rw [e1] at hr
      cases hr
      exact (n2 s r hs e2).1
    | succ m ih =>
      intro s hs hm r hr
      have hw : wt s = 0 := by
        by_cases hw : wt s = 0
        · exact hw
        · have := (hb s hs).mpr hw
          omega
      obtain ⟨q1, q2, q3, q4⟩ := hQ s hs hw
      exact ih (f s) (hf s hs) (by omega) r (by rw [← q1]; exact hr)
  refine ⟨hnn, ⟨fun s hs => ?_, fun s hs hz => ?_, fun s hs hz => ?_, fun r hr => ?_, fun s hs hz => ?_, n4⟩, hb⟩
  · cases hr : o' s with
    | none => exact absurd hr (hnn s hs)
    | some r =>
      show (o' s).getD 0 < c
      rw [hr]; exact hlt _ s hs rfl r hr
  · have hw := (hb s hs).mp hz
    have hw2 := hst s hs hw
    obtain ⟨r, e1, e2⟩ := hUn s hs hw
    refine ⟨(hb _ (hf s hs)).mpr hw2, ?_⟩
    show (o' (f s)).getD 0 = (o' s).getD 0
    rw [(hU _ (hf s hs) hw2).1, (n2 s r hs e2).2.2.2.2.2.1, e1]
  · have hw : wt s = 0 := by
      by_cases hw : wt s = 0
      · exact hw
      · have := (hb s hs).mpr hw
        omega
    obtain ⟨q1, q2, q3, q4⟩ := hQ s hs hw
    exact ⟨q2.symm, by show (o' (f s)).getD 0 = (o' s).getD 0; rw [q1], q3.symm⟩
  · obtain ⟨l1, l2, l3, l4, l5⟩ := n3 r hr
    refine ⟨l2, l3, l4, fun j hj => ?_⟩
    have hx := itr_lt hf j _ l2
    obtain ⟨m1, m2⟩ := l5 j hj
    have m := n2 _ r hx m1
    have := hU _ hx m.2.1
    refine ⟨by rw [this.2.1]; exact m.2.2.1, ?_, by rw [this.2.2]; exact m2⟩
    show (o' _).getD 0 = r
    rw [this.1, m1]; rfl
  · have hw := (hb s hs).mp hz
    obtain ⟨r, e1, e2⟩ := hUn s hs hw
    have m := n2 s r hs e2
    have er : (o' s).getD 0 = r := by rw [e1]; rfl
    show pc' s < sz ((o' s).getD 0) ∧ itr f (pc' s) (le ((o' s).getD 0)) = s ∧ le ((o' s).getD 0) ≤ s
    rw [er, (hU s hs hw).2.2]
    exact ⟨m.2.2.2.1, m.2.2.2.2.1, m.2.2.2.2.2.2⟩
end
section
/-! ### the rings are found -/
def oI (z : Int32) : Option Nat → Int32
  | none => z
  | some r => nI r
abbrev oF (z : Int32) (o : Nat → Option Nat) : Nat → Int32 := fun k => oI z (o k)
theorem oF_upd (z : Int32) (o : Nat → Option Nat) (k : Nat) (x : Option Nat) : upd (oF z o) k (oI z x) = oF z (va_up o k x) := by
  funext j
  show (if j = k then oI z x else oI z (o j)) = oI z (if j = k then x else o j)
  by_cases h : j = k
  · rw [if_pos h, if_pos h]
  · rw [if_neg h, if_neg h]
theorem oF_upd1 (z : Int32) (o : Nat → Option Nat) (k r : Nat) : upd (oF z o) k (nI r) = oF z (va_up o k (some r)) := oF_upd z o k (some r)
theorem oF_upd0 (z : Int32) (o : Nat → Option Nat) (k : Nat) : upd (oF z o) k z = oF z (va_up o k none) := oF_upd z o k none
theorem nF_at (b : Nat → Nat) (k x : Nat) : nF (va_up b k x) k = nI x := congrArg nI (vu_at b k x)
theorem oI_m1 {x : Option Nat} (h : ∀ r, x = some r → r < 2 ^ 31) : oI (-nI 1) x = -nI 1 ↔ x = none := by
  cases x with
  | none => exact ⟨fun _ => rfl, fun _ => rfl⟩
  | some r =>
    have hr := h r rfl
    refine ⟨fun e => ?_, fun e => by cases e⟩
    have e2 : nI r = -nI 1 := e
    have := nI_toInt hr
    rw [e2, show (-nI 1 : Int32).toInt = -1 by decide] at this
    omega
theorem oI_m9 {x : Option Nat} (h : ∀ r, x = some r → r < 2 ^ 31) : oI (-nI 9) x = -nI 9 ↔ x = none := by
  cases x with
  | none => exact ⟨fun _ => rfl, fun _ => rfl⟩
  | some r =>
    have hr := h r rfl
    refine ⟨fun e => ?_, fun e => by cases e⟩
    have e2 : nI r = -nI 9 := e
    have := nI_toInt hr
    rw [e2, show (-nI 9 : Int32).toInt = -9 by decide] at this
    omega
/-- two at most lead to a state: those that share its other bits -/
theorem ct_two {p : Nat → Bool} {e : Nat} (h : ∀ s, p s = true → s = e ∨ s = e + 1) : ∀ N, e + 1 < N → fb_ct p N = (if p e then 1 else 0) + (if p (e + 1) then 1 else 0) := by
  have lo : ∀ k, k ≤ e → fb_ct p k = 0 := fun k hk => fb_ct_zero.mpr (fun j hj => by
    rw [Bool.eq_false_iff]
    intro z
    rcases h j z with q | q <;> omega)
  have hi : ∀ m, fb_ct p (e + 2 + m) = fb_ct p (e + 2) := by
    intro m
    induction m with
    | zero => rfl
    | succ m ih =>
      rw [show e + 2 + (m + 1) = (e + 2 + m) + 1 by omega, fb_ct_succ, ih, if_neg]
      · rfl
      · intro z
        rcases h _ z with q | q <;> omega
  intro N hN
  rw [show N = e + 2 + (N - (e + 2)) by omega, hi, show e + 2 = (e + 1) + 1 from rfl, fb_ct_succ, fb_ct_succ, lo e (Nat.le_refl e)]
  omega
theorem nx_pre {n : Nat} {b : Nat → Nat} {s t : Nat} (hn : 1 ≤ n) (hs : s < 2 ^ n) (hb : ∀ k, b k ≤ 1) : nx n b s = t ↔ (s = 2 * t % 2 ^ n ∨ s = 2 * t % 2 ^ n + 1) ∧ b s = t / 2 ^ (n - 1) ∧ t < 2 ^ n := by
  have hh := pow_half hn
  have hP := Nat.two_pow_pos (n - 1)
  generalize hPp : 2 ^ (n - 1) = P at hh hP ⊢
  rw [← hh] at hs ⊢
  have hbs := hb s
  unfold nx ld
  rw [hPp]
  have h2 : 2 * t % (2 * P) = 2 * (t % P) := Nat.mul_mod_mul_left 2 t P
  rw [h2]
  have key : b s * P = 0 ∧ b s = 0 ∨ b s * P = P ∧ b s = 1 := by
    rcases (show b s = 0 ∨ b s = 1 by omega) with q | q
    · left; rw [q]; exact ⟨Nat.zero_mul P, rfl⟩
    · right; rw [q]; exact ⟨Nat.one_mul P, rfl⟩
  constructor
  · intro e
    have ht : t < 2 * P := by omega
    rcases key with ⟨q1, q2⟩ | ⟨q1, q2⟩
    · have t1 : t = s / 2 := by omega
      have t2 : t < P := by omega
      rw [Nat.mod_eq_of_lt t2, Nat.div_eq_of_lt t2]
      exact ⟨by omega, q2, ht⟩
    · have t1 : t = s / 2 + P := by omega
      have t2 : s / 2 < P := by omega
      have m1 : t % P = s / 2 := by rw [t1, Nat.add_mod_right, Nat.mod_eq_of_lt t2]
      have m2 : t / P = 1 := by rw [t1, Nat.add_div_right _ hP, Nat.div_eq_of_lt t2]
      rw [m1, m2]
      exact ⟨by omega, q2, ht⟩
  · rintro ⟨e1, e2, e3⟩
    have hd := Nat.div_add_mod t P
    have : s / 2 = t % P := by omega
    rw [this, e2]
    have := Nat.mul_comm P (t / P)
    omega
theorem cb_ct {n : Nat} {b : Nat → Nat} {t : Nat} (hn : 1 ≤ n) (ht : t < 2 ^ n) (hb : ∀ k, b k ≤ 1) : cb n b t = fb_ct (fun s => decide (nx n b s = t)) (2 ^ n) := by
  have he := even_lt (s := t) hn
  have e1 : fb_ct (fun s => decide (nx n b s = t)) (2 ^ n) = fb_ct (fun s => decide (s < 2 ^ n) && decide (nx n b s = t)) (2 ^ n) := fb_ct_cong (fun k hk => by simp [hk])
  rw [e1, ct_two (e := 2 * t % 2 ^ n) (fun s hs => ?_) _ he]
  · unfold cb
    have a1 : (decide (2 * t % 2 ^ n < 2 ^ n) && decide (nx n b (2 * t % 2 ^ n) = t)) = decide (b (2 * t % 2 ^ n) = t / 2 ^ (n - 1)) := by
      rw [Bool.eq_iff_iff]
      simp only [Bool.and_eq_true, decide_eq_true_eq]
      constructor
      · rintro ⟨q1, q2⟩; exact ((nx_pre hn q1 hb).mp q2).2.1
      · intro q; exact ⟨by omega, (nx_pre hn (by omega) hb).mpr ⟨Or.inl rfl, q, ht⟩⟩
    have a2 : (decide (2 * t % 2 ^ n + 1 < 2 ^ n) && decide (nx n b (2 * t % 2 ^ n + 1) = t)) = decide (b (2 * t % 2 ^ n + 1) = t / 2 ^ (n - 1)) := by
      rw [Bool.eq_iff_iff]
      simp only [Bool.and_eq_true, decide_eq_true_eq]
      constructor
      · rintro ⟨q1, q2⟩; exact ((nx_pre hn q1 hb).mp q2).2.1
      · intro q; exact ⟨by omega, (nx_pre hn (by omega) hb).mpr ⟨Or.inr rfl, q, ht⟩⟩
    rw [a1, a2]
    simp only [decide_eq_true_eq]
  · simp only [Bool.and_eq_true, decide_eq_true_eq] at hs
    exact ((nx_pre hn hs.1 hb).mp hs.2).1
theorem cb_le (n : Nat) (b : Nat → Nat) (s : Nat) : cb n b s ≤ 2 := by
  unfold cb
  split <;> split <;> omega
abbrev RI (c pd st fa : Nat) (o : Nat → Option Nat) (be pc le sz wt qu : Nat → Nat) : List va_E := [.inr (1, [.int (nI c), .int (nI pd), .int (nI st), .int (nI fa), .ref 18, .ref 34, .ref 50, .ref 66, .ref 82, .ref 98, .ref 114]), .inl (0, 512, .inl (oF (-nI 1) o)), .inl (0, 512, .inl (nF be)), .inl (0, 512, .inl (nF pc)), .inl (0, 512, .inl (nF le)), .inl (0, 512, .inl (nF sz)), .inl (0, 512, .inl (nF wt)), .inl (0, 512, .inl (nF qu))]
/-- how many states none leads to -/
def strt (n : Nat) (b : Nat → Nat) : Nat := fb_ct (fun t => decide (cb n b t = 0)) (2 ^ n)
section Rings
variable {mn tr sh rr mo dy : List va_E} {n N ch : Nat} {b bn : Nat → Nat} {c pd st fa : Nat} {o : Nat → Option Nat} {be pc le sz wt qu : Nat → Nat}
theorem c_ri_peel (hn : 2 ≤ n) (hn9 : n ≤ 9) (hN : N = 2 ^ n) (hb : ∀ k, b k ≤ 1) : AMet M_ri_peel [.ref 2, .ref 1] [mn, RG n N ch b bn, RI c pd st fa o be pc le sz wt qu, tr, sh, rr, mo, dy]
    (fun r w' => r = none ∧ ∃ (o' : Nat → Option Nat) (wt' qu' : Nat → Nat) (pl : Nat), w' = [mn, RG n N ch b bn, RI c pl (strt n b) fa o' be pc le sz wt' qu', tr, sh, rr, mo, dy] ∧ (∀ t, t < N → o' t = none) ∧ PI (nx n b) N wt' qu' pl pl) 0 0 := by
  have hp9 := pow_le9 hn9
  subst hN
  have hf : ∀ s, s < 2 ^ n → nx n b s < 2 ^ n := fun s hs => nx_lt (by omega) hs hb
  refine AMet.of [(0, .ref 2), (1, .ref 1)] (by decide +kernel) rfl (Nat.le_of_ble_eq_true rfl) ?_
  generalize hZ : (fun (r : Option Value) (w' : Wd) => r = none ∧ ∃ (o' : Nat → Option Nat) (wt' qu' : Nat → Nat) (pl : Nat), w' = [mn, RG n (2 ^ n) ch b bn, RI c pl (strt n b) fa o' be pc le sz wt' qu', tr, sh, rr, mo, dy] ∧ (∀ t, t < 2 ^ n → o' t = none) ∧ PI (nx n b) (2 ^ n) wt' qu' pl pl) = Post
  have loop2 : ∀ (m q : Nat) (wt qu : Nat → Nat) (pl : Nat) (o : Nat → Option Nat), 2 ^ n - q = m → (∀ t, t < 2 ^ n → o t = none) → PI (nx n b) (2 ^ n) wt qu pl q → AW M_ri_peel noP (Zp Post) 0 0 78 [(0, .ref 2), (1, .ref 1), (2, .int (nI q))] [] [mn, RG n (2 ^ n) ch b bn, RI c pl (strt n b) fa o be pc le sz wt qu, tr, sh, rr, mo, dy] 0 0 := by
    intro m
    induction m with
    | zero =>
      intro q wt qu pl o hm ho hI
      have hle := hI.le
      have h0 := hI.1
      refine aw_iload_n 2 D_ri_peel_78 rfl rfl ?_
      refine aw_aload_n 0 D_ri_peel_79 rfl rfl ?_
      refine aw_get D_ri_peel_80 rfl rfl ?_
      refine aw_icmp_geN D_ri_peel_83 (by omega) (by omega) (fun h => ?_) (fun h => absurd h (by omega))
      have : q = pl := by omega
      subst this
      refine aw_return D_ri_peel_161 rfl ?_
      rw [← hZ]; exact ⟨rfl, o, wt, qu, q, rfl, ho, hI⟩
    | succ m ih =>
      intro q wt qu pl o hm ho hI
      have hle := hI.le
      have h0 := hI.1
      refine aw_iload_n 2 D_ri_peel_78 rfl rfl ?_
      refine aw_aload_n 0 D_ri_peel_79 rfl rfl ?_
      refine aw_get D_ri_peel_80 rfl rfl ?_
      refine aw_icmp_geN D_ri_peel_83 (by omega) (by omega) (fun h => ?_) (fun h => ?_)
      · have : q = pl := by omega
        subst this
        refine aw_return D_ri_peel_161 rfl ?_
        rw [← hZ]; exact ⟨rfl, o, wt, qu, q, rfl, ho, hI⟩
      · have hs := hI.2.1 q h
        obtain ⟨s1, s2, s3⟩ := hI.step hf h
        have ht := hf _ hs
        have hwle : wt (nx n b (qu q)) ≤ 2 ^ n := by rw [hI.2.2.2.1 _ ht]; exact fb_ct_le _ _
        refine aw_iload_n 2 D_ri_peel_86 rfl rfl ?_
        refine aw_aload_n 1 D_ri_peel_87 rfl rfl ?_
        refine aw_get D_ri_peel_88 rfl rfl ?_
        refine aw_icmp_geN D_ri_peel_91 (by omega) (by omega) (fun h => absurd h (by omega)) (fun h => ?_)
        refine aw_aload_n 1 D_ri_peel_94 rfl rfl ?_
        refine aw_aload_n 0 D_ri_peel_95 rfl rfl ?_
        refine aw_get D_ri_peel_96 rfl rfl ?_
        refine aw_iload_n 2 D_ri_peel_99 rfl rfl ?_
        refine aw_ialdN D_ri_peel_100 rfl (by omega) (by omega) ?_
        refine aw_callV1 (As := [_]) D_ri_peel_101 kv_rg_next (c_rg_next (s := qu q) (by omega) hn9 hs hb) rfl rfl rfl rfl rfl (Nat.le_of_ble_eq_true rfl) (Nat.zero_le _) (Nat.zero_le _) ?_
        refine aw_istore_n 3 D_ri_peel_104 rfl (Nat.le_of_ble_eq_true rfl) rfl ?_
        refine aw_aload_n 0 D_ri_peel_105 rfl rfl ?_
        refine aw_get D_ri_peel_106 rfl rfl ?_
        refine aw_iload_n 3 D_ri_peel_109 rfl rfl ?_
        refine aw_dup2_11 D_ri_peel_110 rfl rfl ?_
        refine aw_ialdN D_ri_peel_111 rfl (by omega) (by omega) ?_
        refine aw_iconst (nI 1) D_ri_peel_112 rfl ?_
        first | with_reducible refine aw_isubN D_ri_peel_113 (by omega) ?_ | refine aw_isub D_ri_peel_113 ?_
        refine aw_iastN D_ri_peel_114 rfl (by omega) (by omega) ?_
        refine aw_aload_n 0 D_ri_peel_115 rfl rfl ?_
        refine aw_get D_ri_peel_116 rfl rfl ?_
        refine aw_iload_n 3 D_ri_peel_119 rfl rfl ?_
        refine aw_ialdN D_ri_peel_120 rfl (by omega) (by omega) ?_
        rw [nF_at]
        refine aw_if_neN D_ri_peel_121 (by omega) (fun h2 => ?_) (fun h2 => ?_)
        · first | refine aw_incN D_ri_peel_155 rfl (Nat.le_of_ble_eq_true rfl) rfl ?_ | refine aw_inc D_ri_peel_155 rfl (Nat.le_of_ble_eq_true rfl) rfl ?_
          refine aw_goto D_ri_peel_158 ?_
          refine aw_take 3 ?_
          exact ih (q + 1) _ _ _ _ (by omega) ho (s3 (by omega))
        · obtain ⟨s4, s5⟩ := s2 h2
          refine aw_aload_n 0 D_ri_peel_124 rfl rfl ?_
          refine aw_get D_ri_peel_125 rfl rfl ?_
          refine aw_aload_n 1 D_ri_peel_128 rfl rfl ?_
          refine aw_get D_ri_peel_129 rfl rfl ?_
          refine aw_icmp_geN D_ri_peel_132 (by omega) (by omega) (fun h => absurd h (by omega)) (fun h => ?_)
          refine aw_aload_n 0 D_ri_peel_135 rfl rfl ?_
          refine aw_get D_ri_peel_136 rfl rfl ?_
          refine aw_aload_n 0 D_ri_peel_139 rfl rfl ?_
          refine aw_get D_ri_peel_140 rfl rfl ?_
          refine aw_iload_n 3 D_ri_peel_143 rfl rfl ?_
          refine aw_iastN D_ri_peel_144 rfl (by omega) (by omega) ?_
          refine aw_aload_n 0 D_ri_peel_145 rfl rfl ?_
          refine aw_dup D_ri_peel_146 rfl ?_
          refine aw_get D_ri_peel_147 rfl rfl ?_
          refine aw_iconst (nI 1) D_ri_peel_150 rfl ?_
          first | with_reducible refine aw_iaddN D_ri_peel_151 ?_ | refine aw_iadd D_ri_peel_151 ?_
          refine aw_put tc_ri D_ri_peel_152 rfl (Nat.le_of_ble_eq_true rfl) rfl rfl ?_
          first | refine aw_incN D_ri_peel_155 rfl (Nat.le_of_ble_eq_true rfl) rfl ?_ | refine aw_inc D_ri_peel_155 rfl (Nat.le_of_ble_eq_true rfl) rfl ?_
          refine aw_goto D_ri_peel_158 ?_
          refine aw_take 3 ?_
          exact ih (q + 1) _ _ _ _ (by omega) ho s5
  have loop1 : ∀ (m i : Nat) (wt qu : Nat → Nat) (pl : Nat) (o : Nat → Option Nat), i + m = 2 ^ n → (∀ t, t < i → o t = none) → (∀ t, t < i → wt t = cb n b t) → P1 (2 ^ n) (cb n b) qu pl i → AW M_ri_peel noP (Zp Post) 0 0 7 [(0, .ref 2), (1, .ref 1), (2, .int (nI i))] [] [mn, RG n (2 ^ n) ch b bn, RI c pl st fa o be pc le sz wt qu, tr, sh, rr, mo, dy] 0 0 := by
    intro m
    induction m with
    | zero =>
      intro i wt qu pl o hi ho hw hP
      have hi' : i = 2 ^ n := by omega
      rw [hi'] at ho hw hP
      have hpl : pl = strt n b := hP.2.2.2
      refine aw_iload_n 2 D_ri_peel_7 rfl rfl ?_
      refine aw_aload_n 1 D_ri_peel_8 rfl rfl ?_
      refine aw_get D_ri_peel_9 rfl rfl ?_
      refine aw_icmp_geN D_ri_peel_12 (by omega) (by omega) (fun h => ?_) (fun h => absurd h (by omega))
      refine aw_aload_n 0 D_ri_peel_68 rfl rfl ?_
      refine aw_aload_n 0 D_ri_peel_69 rfl rfl ?_
      refine aw_get D_ri_peel_70 rfl rfl ?_
      refine aw_put tc_ri D_ri_peel_73 rfl (Nat.le_of_ble_eq_true rfl) rfl rfl ?_
      refine aw_iconst (nI 0) D_ri_peel_76 rfl ?_
      refine aw_istore_n 2 D_ri_peel_77 rfl (Nat.le_of_ble_eq_true rfl) rfl ?_
      have hI := (hP.congr hw).done (f := nx n b) (fun t ht => by rw [hw t ht]; exact cb_ct (by omega) ht hb)
      have := loop2 (2 ^ n) 0 wt qu pl o (by omega) ho hI
      rw [← hpl] at this
      exact this
    | succ m ih =>
      intro i wt qu pl o hi ho hw hP
      have hple := hP.le
      have hcb := cb_le n b i
      refine aw_iload_n 2 D_ri_peel_7 rfl rfl ?_
      refine aw_aload_n 1 D_ri_peel_8 rfl rfl ?_
      refine aw_get D_ri_peel_9 rfl rfl ?_
      refine aw_icmp_geN D_ri_peel_12 (by omega) (by omega) (fun h => absurd h (by omega)) (fun h => ?_)
      refine aw_aload_n 0 D_ri_peel_15 rfl rfl ?_
      refine aw_get D_ri_peel_16 rfl rfl ?_
      refine aw_iload_n 2 D_ri_peel_19 rfl rfl ?_
      refine aw_iconst (-nI 1) D_ri_peel_20 rfl ?_
      refine aw_iastJ D_ri_peel_21 rfl (by omega) (by omega) ?_
      refine aw_aload_n 0 D_ri_peel_22 rfl rfl ?_
      refine aw_get D_ri_peel_23 rfl rfl ?_
      refine aw_iload_n 2 D_ri_peel_26 rfl rfl ?_
      refine aw_aload_n 1 D_ri_peel_27 rfl rfl ?_
      refine aw_iload_n 2 D_ri_peel_28 rfl rfl ?_
      rw [oF_upd0]
      refine aw_callV1 (As := [_]) D_ri_peel_29 kv_rg_countBefore (c_rg_cb (s := i) (by omega) hn9 (by omega) rfl hb) rfl rfl rfl rfl rfl (Nat.le_of_ble_eq_true rfl) (Nat.zero_le _) (Nat.zero_le _) ?_
      refine aw_iastN D_ri_peel_32 rfl (by omega) (by omega) ?_
      refine aw_aload_n 0 D_ri_peel_33 rfl rfl ?_
      refine aw_get D_ri_peel_34 rfl rfl ?_
      refine aw_iload_n 2 D_ri_peel_37 rfl rfl ?_
      refine aw_ialdN D_ri_peel_38 rfl (by omega) (by omega) ?_
      rw [nF_at]
      have ho' : ∀ t, t < i + 1 → va_up o i none t = none := by
        intro t ht
        by_cases e : t = i
        · rw [e, vu_at]
        · rw [vu_ne e]; exact ho t (by omega)
      have hw' : ∀ t, t < i + 1 → va_up wt i (cb n b i) t = cb n b t := by
        intro t ht
        by_cases e : t = i
        · rw [e, vu_at]
        · rw [vu_ne e]; exact hw t (by omega)
      refine aw_if_neN D_ri_peel_39 (by omega) (fun h2 => ?_) (fun h2 => ?_)
      · first | refine aw_incN D_ri_peel_62 rfl (Nat.le_of_ble_eq_true rfl) rfl ?_ | refine aw_inc D_ri_peel_62 rfl (Nat.le_of_ble_eq_true rfl) rfl ?_
        refine aw_goto D_ri_peel_65 ?_
        exact ih (i + 1) _ _ _ _ (by omega) ho' hw' (hP.no (by omega))
      · refine aw_aload_n 0 D_ri_peel_42 rfl rfl ?_
        refine aw_get D_ri_peel_43 rfl rfl ?_
        refine aw_aload_n 0 D_ri_peel_46 rfl rfl ?_
        refine aw_get D_ri_peel_47 rfl rfl ?_
        refine aw_iload_n 2 D_ri_peel_50 rfl rfl ?_
        refine aw_iastN D_ri_peel_51 rfl (by omega) (by omega) ?_
        refine aw_aload_n 0 D_ri_peel_52 rfl rfl ?_
        refine aw_dup D_ri_peel_53 rfl ?_
        refine aw_get D_ri_peel_54 rfl rfl ?_
        refine aw_iconst (nI 1) D_ri_peel_57 rfl ?_
        first | with_reducible refine aw_iaddN D_ri_peel_58 ?_ | refine aw_iadd D_ri_peel_58 ?_
        refine aw_put tc_ri D_ri_peel_59 rfl (Nat.le_of_ble_eq_true rfl) rfl rfl ?_
        first | refine aw_incN D_ri_peel_62 rfl (Nat.le_of_ble_eq_true rfl) rfl ?_ | refine aw_inc D_ri_peel_62 rfl (Nat.le_of_ble_eq_true rfl) rfl ?_
        refine aw_goto D_ri_peel_65 ?_
        exact ih (i + 1) _ _ _ _ (by omega) ho' hw' (hP.yes h2)
  refine aw_aload_n 0 D_ri_peel_0 rfl rfl ?_
  refine aw_iconst (nI 0) D_ri_peel_1 rfl ?_
  refine aw_put tc_ri D_ri_peel_2 rfl (Nat.le_of_ble_eq_true rfl) rfl rfl ?_
  refine aw_iconst (nI 0) D_ri_peel_5 rfl ?_
  refine aw_istore_n 2 D_ri_peel_6 rfl (Nat.le_of_ble_eq_true rfl) rfl ?_
  exact loop1 (2 ^ n) 0 wt qu 0 o (by omega) (fun t ht => absurd ht (by omega)) (fun t ht => absurd ht (by omega)) (P1.zero _ _ _)
end Rings
end
section
/-! ### the rings get their names -/
theorem NI.cle {f : Nat → Nat} {N : Nat} {wt : Nat → Nat} {o : Nat → Option Nat} {be pc le sz : Nat → Nat} {c i : Nat} (h : NI f N wt o be pc le sz c i) : c ≤ i :=
  fb_holes i c le (fun r hr => (h.2.2.1 r hr).1) (fun r r' a b => Nat.ne_of_lt (h.2.2.2.1 r r' a b))
theorem WI.val {f : Nat → Nat} {N : Nat} {wt : Nat → Nat} {o o' : Nat → Option Nat} {be pc le sz be' pc' : Nat → Nat} {c i s j : Nat} (hN : NI f N wt o be pc le sz c i) (h : WI f N o be pc c s j o' be' pc') {t r : Nat} (ht : t < N) (e : o' t = some r) : r ≤ c := by
  by_cases hm : ∃ a, a < j ∧ itr f a s = t
  · obtain ⟨a, ha, z⟩ := hm
    have := (h.2.2.1 a ha).1
    rw [z, e] at this
    cases this; exact Nat.le_refl _
  · have := (h.2.2.2 t (fun a ha z => hm ⟨a, ha, z⟩)).1
    rw [e] at this
    have := (hN.2.1 t r ht this.symm).1
    omega
theorem ct_inQ {qu : Nat → Nat} {N : Nat} : ∀ k, (∀ j, j < k → qu j < N) → (∀ i j, i < j → j < k → qu i ≠ qu j) → fb_ct (fun s => inQ qu k s) N = k
  | 0, _, _ => fb_ct_zero.mpr (fun _ _ => rfl)
  | k + 1, h1, h2 => by
    have ih := ct_inQ k (fun j hj => h1 j (by omega)) (fun i j a b => h2 i j a (by omega))
    have hn : inQ qu k (qu k) = false := by
      rw [Bool.eq_false_iff]
      intro e
      obtain ⟨j, hj, e⟩ := (inQ_iff qu _ k).mp e
      exact h2 j k hj (by omega) e
    have e : (fun s => inQ qu (k + 1) s) = (fun s => if s = qu k then true else inQ qu k s) := by
      funext s
      show (inQ qu k s || decide (qu k = s)) = _
      by_cases q : s = qu k
      · rw [if_pos q, q]; simp
      · rw [if_neg q, show decide (qu k = s) = false from decide_eq_false (fun z => q z.symm), Bool.or_false]
    have := fb_ct_upd (fun s => inQ qu k s) true (i := qu k) (h1 k (by omega))
    rw [e]
    have e0 : (if inQ qu k (qu k) = true then 1 else 0) = 0 := by rw [hn]; rfl
    have e1 : (if true = true then 1 else 0) = 1 := rfl
    change _ + (if inQ qu k (qu k) = true then 1 else 0) = _ at this
    rw [e0, e1, ih] at this
    omega
theorem PI.count {f : Nat → Nat} {N : Nat} {wt qu : Nat → Nat} {pl q : Nat} (h : PI f N wt qu pl q) : fb_ct (fun t => decide (wt t = 0)) N = pl := by
  rw [← ct_inQ pl h.2.1 h.2.2.1]
  refine fb_ct_cong (fun t ht => ?_)
  rw [Bool.eq_iff_iff, decide_eq_true_iff, h.2.2.2.2.1 t ht, inQ_iff]
/-- all that is found of a register -/
def FT (n : Nat) (b : Nat → Nat) (c pd st fa : Nat) (o : Nat → Option Nat) (be pc le sz : Nat → Nat) : Prop :=
  (∀ s, s < 2 ^ n → o s ≠ none) ∧ VT (nx n b) (2 ^ n) (fun s => (o s).getD 0) be pc le sz c ∧ pd = fb_ct (fun s => decide (0 < be s)) (2 ^ n) ∧ st = strt n b ∧ (∀ s, s < 2 ^ n → be s ≤ fa) ∧ (fa = 0 ∨ ∃ s, s < 2 ^ n ∧ be s = fa) ∧ fa ≤ 2 ^ n
section Rings2
variable {mn tr sh rr mo dy : List va_E} {n N ch : Nat} {b bn : Nat → Nat} {c pd st fa : Nat} {o : Nat → Option Nat} {be pc le sz wt qu : Nat → Nat}
theorem c_ri_nameRing {s pl : Nat} (hn : 2 ≤ n) (hn9 : n ≤ 9) (hN : N = 2 ^ n) (hb : ∀ k, b k ≤ 1) (hI : PI (nx n b) N wt qu pl pl) (hNI : NI (nx n b) N wt o be pc le sz c s) (hs : s < N) (hw : wt s ≠ 0) (hos : o s = none) : AMet M_ri_nameRing [.ref 2, .ref 1, .int (nI s)] [mn, RG n N ch b bn, RI c pd st fa o be pc le sz wt qu, tr, sh, rr, mo, dy]
    (fun r w' => r = none ∧ ∃ (o' : Nat → Option Nat) (be' pc' le' sz' : Nat → Nat), w' = [mn, RG n N ch b bn, RI (c + 1) pd st fa o' be' pc' le' sz' wt qu, tr, sh, rr, mo, dy] ∧ NI (nx n b) N wt o' be' pc' le' sz' (c + 1) (s + 1)) 0 0 := by
  have hp9 := pow_le9 hn9
  subst hN
  have hf : ∀ s, s < 2 ^ n → nx n b s < 2 ^ n := fun s hs => nx_lt (by omega) hs hb
  obtain ⟨hst, hinj⟩ := hI.stay hf
  have hcle := hNI.cle
  refine AMet.of [(0, .ref 2), (1, .ref 1), (2, .int (nI s))] (by decide +kernel) rfl (Nat.le_of_ble_eq_true rfl) ?_
  generalize hZ : (fun (r : Option Value) (w' : Wd) => r = none ∧ ∃ (o' : Nat → Option Nat) (be' pc' le' sz' : Nat → Nat), w' = [mn, RG n (2 ^ n) ch b bn, RI (c + 1) pd st fa o' be' pc' le' sz' wt qu, tr, sh, rr, mo, dy] ∧ NI (nx n b) (2 ^ n) wt o' be' pc' le' sz' (c + 1) (s + 1)) = Post
  have hend : ∀ (j : Nat) (o' : Nat → Option Nat) (be' pc' : Nat → Nat), WI (nx n b) (2 ^ n) o be pc c s j o' be' pc' → o' (itr (nx n b) j s) ≠ none → AW M_ri_nameRing noP (Zp Post) 0 0 61 [(0, .ref 2), (1, .ref 1), (2, .int (nI s)), (3, .int (nI (itr (nx n b) j s))), (4, .int (nI j))] [] [mn, RG n (2 ^ n) ch b bn, RI c pd st fa o' be' pc' le sz wt qu, tr, sh, rr, mo, dy] 0 0 := by
    intro j o' be' pc' hW he
    refine aw_aload_n 0 D_ri_nameRing_61 rfl rfl ?_
    refine aw_get D_ri_nameRing_62 rfl rfl ?_
    refine aw_aload_n 0 D_ri_nameRing_65 rfl rfl ?_
    refine aw_get D_ri_nameRing_66 rfl rfl ?_
    refine aw_iload_n 2 D_ri_nameRing_69 rfl rfl ?_
    refine aw_iastN D_ri_nameRing_70 rfl (by omega) (by omega) ?_
    refine aw_aload_n 0 D_ri_nameRing_71 rfl rfl ?_
    refine aw_get D_ri_nameRing_72 rfl rfl ?_
    refine aw_aload_n 0 D_ri_nameRing_75 rfl rfl ?_
    refine aw_get D_ri_nameRing_76 rfl rfl ?_
    refine aw_iload D_ri_nameRing_79 rfl ?_
    refine aw_iastN D_ri_nameRing_81 rfl (by omega) (by omega) ?_
    refine aw_aload_n 0 D_ri_nameRing_82 rfl rfl ?_
    refine aw_dup D_ri_nameRing_83 rfl ?_
    refine aw_get D_ri_nameRing_84 rfl rfl ?_
    refine aw_iconst (nI 1) D_ri_nameRing_87 rfl ?_
    first | with_reducible refine aw_iaddN D_ri_nameRing_88 ?_ | refine aw_iadd D_ri_nameRing_88 ?_
    refine aw_put tc_ri D_ri_nameRing_89 rfl (Nat.le_of_ble_eq_true rfl) rfl rfl ?_
    refine aw_return D_ri_nameRing_92 rfl ?_
    rw [← hZ]; exact ⟨rfl, o', be', pc', va_up le c s, va_up sz c j, rfl, hNI.ring hf hst hinj hs hw hos hW he⟩
  have loop : ∀ (m j : Nat) (o' : Nat → Option Nat) (be' pc' : Nat → Nat), 2 ^ n - j = m → WI (nx n b) (2 ^ n) o be pc c s j o' be' pc' → AW M_ri_nameRing noP (Zp Post) 0 0 5 [(0, .ref 2), (1, .ref 1), (2, .int (nI s)), (3, .int (nI (itr (nx n b) j s))), (4, .int (nI j))] [] [mn, RG n (2 ^ n) ch b bn, RI c pd st fa o' be' pc' le sz wt qu, tr, sh, rr, mo, dy] 0 0 := by
    intro m
    induction m with
    | zero =>
      intro j o' be' pc' hm hW
      have hjle := hW.le hf hs
      have he : o' (itr (nx n b) j s) ≠ none := fun z => by have := hW.full hf hs z; omega
      refine aw_iload D_ri_nameRing_5 rfl ?_
      refine aw_aload_n 1 D_ri_nameRing_7 rfl rfl ?_
      refine aw_get D_ri_nameRing_8 rfl rfl ?_
      refine aw_icmp_geN D_ri_nameRing_11 (by omega) (by omega) (fun h => ?_) (fun h => absurd h (by omega))
      exact hend j o' be' pc' hW he
    | succ m ih =>
      intro j o' be' pc' hm hW
      have hx := itr_lt hf j s hs
      have hv : ∀ r, o' (itr (nx n b) j s) = some r → r < 2 ^ 31 := fun r e => by have := hW.val hNI hx e; omega
      refine aw_iload D_ri_nameRing_5 rfl ?_
      refine aw_aload_n 1 D_ri_nameRing_7 rfl rfl ?_
      refine aw_get D_ri_nameRing_8 rfl rfl ?_
      refine aw_icmp_geN D_ri_nameRing_11 (by omega) (by omega) (fun h => absurd h (by omega)) (fun h => ?_)
      refine aw_aload_n 0 D_ri_nameRing_14 rfl rfl ?_
      refine aw_get D_ri_nameRing_15 rfl rfl ?_
      refine aw_iload_n 3 D_ri_nameRing_18 rfl rfl ?_
      refine aw_ialdN D_ri_nameRing_19 rfl (by omega) (by omega) ?_
      refine aw_iconst (-nI 1) D_ri_nameRing_20 rfl ?_
      refine aw_icmp_ne D_ri_nameRing_21 (fun h2 => ?_) (fun h2 => ?_)
      · exact hend j o' be' pc' hW (fun z => h2 ((oI_m1 hv).mpr z))
      · have h3 := (oI_m1 hv).mp h2
        refine aw_aload_n 0 D_ri_nameRing_24 rfl rfl ?_
        refine aw_get D_ri_nameRing_25 rfl rfl ?_
        refine aw_iload_n 3 D_ri_nameRing_28 rfl rfl ?_
        refine aw_aload_n 0 D_ri_nameRing_29 rfl rfl ?_
        refine aw_get D_ri_nameRing_30 rfl rfl ?_
        refine aw_iastJ D_ri_nameRing_33 rfl (by omega) (by omega) ?_
        rw [oF_upd1]
        refine aw_aload_n 0 D_ri_nameRing_34 rfl rfl ?_
        refine aw_get D_ri_nameRing_35 rfl rfl ?_
        refine aw_iload_n 3 D_ri_nameRing_38 rfl rfl ?_
        refine aw_iconst (nI 0) D_ri_nameRing_39 rfl ?_
        refine aw_iastN D_ri_nameRing_40 rfl (by omega) (by omega) ?_
        refine aw_aload_n 0 D_ri_nameRing_41 rfl rfl ?_
        refine aw_get D_ri_nameRing_42 rfl rfl ?_
        refine aw_iload_n 3 D_ri_nameRing_45 rfl rfl ?_
        refine aw_iload D_ri_nameRing_46 rfl ?_
        refine aw_iastN D_ri_nameRing_48 rfl (by omega) (by omega) ?_
        refine aw_aload_n 1 D_ri_nameRing_49 rfl rfl ?_
        refine aw_iload_n 3 D_ri_nameRing_50 rfl rfl ?_
        refine aw_callV1 (As := [_]) D_ri_nameRing_51 kv_rg_next (c_rg_next (by omega) hn9 hx hb) rfl rfl rfl rfl rfl (Nat.le_of_ble_eq_true rfl) (Nat.zero_le _) (Nat.zero_le _) ?_
        refine aw_istore_n 3 D_ri_nameRing_54 rfl (Nat.le_of_ble_eq_true rfl) rfl ?_
        first | refine aw_incN D_ri_nameRing_55 rfl (Nat.le_of_ble_eq_true rfl) rfl ?_ | refine aw_inc D_ri_nameRing_55 rfl (Nat.le_of_ble_eq_true rfl) rfl ?_
        refine aw_goto D_ri_nameRing_58 ?_
        rw [← itr_succ (nx n b)]
        exact ih (j + 1) _ _ _ (by omega) (hW.step h3)
  refine aw_iload_n 2 D_ri_nameRing_0 rfl rfl ?_
  refine aw_istore_n 3 D_ri_nameRing_1 rfl (Nat.le_of_ble_eq_true rfl) rfl ?_
  refine aw_iconst (nI 0) D_ri_nameRing_2 rfl ?_
  refine aw_istore D_ri_nameRing_3 (Nat.le_of_ble_eq_true rfl) rfl ?_
  exact loop (2 ^ n) 0 o be pc (by omega) (WI.zero _ _ _ _ _ _ _)
theorem c_ri_nameRings {pl : Nat} (hn : 2 ≤ n) (hn9 : n ≤ 9) (hN : N = 2 ^ n) (hb : ∀ k, b k ≤ 1) (hI : PI (nx n b) N wt qu pl pl) (ho : ∀ t, t < N → o t = none) : AMet M_ri_nameRings [.ref 2, .ref 1] [mn, RG n N ch b bn, RI c pd st fa o be pc le sz wt qu, tr, sh, rr, mo, dy]
    (fun r w' => r = none ∧ ∃ (o' : Nat → Option Nat) (be' pc' le' sz' : Nat → Nat) (c' : Nat), w' = [mn, RG n N ch b bn, RI c' pd st fa o' be' pc' le' sz' wt qu, tr, sh, rr, mo, dy] ∧ NI (nx n b) N wt o' be' pc' le' sz' c' N) 0 0 := by
  have hp9 := pow_le9 hn9
  refine AMet.of [(0, .ref 2), (1, .ref 1)] (by decide +kernel) rfl (Nat.le_of_ble_eq_true rfl) ?_
  generalize hZ : (fun (r : Option Value) (w' : Wd) => r = none ∧ ∃ (o' : Nat → Option Nat) (be' pc' le' sz' : Nat → Nat) (c' : Nat), w' = [mn, RG n N ch b bn, RI c' pd st fa o' be' pc' le' sz' wt qu, tr, sh, rr, mo, dy] ∧ NI (nx n b) N wt o' be' pc' le' sz' c' N) = Post
  have hwle : ∀ t, t < N → wt t ≤ N := fun t ht => by rw [hI.2.2.2.1 t ht]; exact fb_ct_le _ _
  have loop : ∀ (m i : Nat) (o' : Nat → Option Nat) (be' pc' le' sz' : Nat → Nat) (c' : Nat), i + m = N → NI (nx n b) N wt o' be' pc' le' sz' c' i → AW M_ri_nameRings noP (Zp Post) 0 0 7 [(0, .ref 2), (1, .ref 1), (2, .int (nI i))] [] [mn, RG n N ch b bn, RI c' pd st fa o' be' pc' le' sz' wt qu, tr, sh, rr, mo, dy] 0 0 := by
    intro m
    induction m with
    | zero =>
      intro i o' be' pc' le' sz' c' hi hNI
      refine aw_iload_n 2 D_ri_nameRings_7 rfl rfl ?_
      refine aw_aload_n 1 D_ri_nameRings_8 rfl rfl ?_
      refine aw_get D_ri_nameRings_9 rfl rfl ?_
      refine aw_icmp_geN D_ri_nameRings_12 (by omega) (by omega) (fun h => ?_) (fun h => absurd h (by omega))
      rw [show i = N by omega] at hNI
      refine aw_return D_ri_nameRings_46 rfl ?_
      rw [← hZ]; exact ⟨rfl, o', be', pc', le', sz', c', rfl, hNI⟩
    | succ m ih =>
      intro i o' be' pc' le' sz' c' hi hNI
      have hwi := hwle i (by omega)
      have hcl := hNI.cle
      refine aw_iload_n 2 D_ri_nameRings_7 rfl rfl ?_
      refine aw_aload_n 1 D_ri_nameRings_8 rfl rfl ?_
      refine aw_get D_ri_nameRings_9 rfl rfl ?_
      refine aw_icmp_geN D_ri_nameRings_12 (by omega) (by omega) (fun h => absurd h (by omega)) (fun h => ?_)
      refine aw_aload_n 0 D_ri_nameRings_15 rfl rfl ?_
      refine aw_get D_ri_nameRings_16 rfl rfl ?_
      refine aw_iload_n 2 D_ri_nameRings_19 rfl rfl ?_
      refine aw_ialdN D_ri_nameRings_20 rfl (by omega) (by omega) ?_
      refine aw_if_leN D_ri_nameRings_21 (by omega) (fun h2 => ?_) (fun h2 => ?_)
      · first | refine aw_incN D_ri_nameRings_40 rfl (Nat.le_of_ble_eq_true rfl) rfl ?_ | refine aw_inc D_ri_nameRings_40 rfl (Nat.le_of_ble_eq_true rfl) rfl ?_
        refine aw_goto D_ri_nameRings_43 ?_
        exact ih (i + 1) _ _ _ _ _ _ (by omega) (hNI.skip (Or.inl h2))
      · have hv : ∀ r, o' i = some r → r < 2 ^ 31 := fun r e => by have := (hNI.2.1 i r (by omega) e).1; omega
        refine aw_aload_n 0 D_ri_nameRings_24 rfl rfl ?_
        refine aw_get D_ri_nameRings_25 rfl rfl ?_
        refine aw_iload_n 2 D_ri_nameRings_28 rfl rfl ?_
        refine aw_ialdN D_ri_nameRings_29 rfl (by omega) (by omega) ?_
        refine aw_iconst (-nI 1) D_ri_nameRings_30 rfl ?_
        refine aw_icmp_ne D_ri_nameRings_31 (fun h3 => ?_) (fun h3 => ?_)
        · first | refine aw_incN D_ri_nameRings_40 rfl (Nat.le_of_ble_eq_true rfl) rfl ?_ | refine aw_inc D_ri_nameRings_40 rfl (Nat.le_of_ble_eq_true rfl) rfl ?_
          refine aw_goto D_ri_nameRings_43 ?_
          exact ih (i + 1) _ _ _ _ _ _ (by omega) (hNI.skip (Or.inr (fun z => h3 ((oI_m1 hv).mpr z))))
        · refine aw_aload_n 0 D_ri_nameRings_34 rfl rfl ?_
          refine aw_aload_n 1 D_ri_nameRings_35 rfl rfl ?_
          refine aw_iload_n 2 D_ri_nameRings_36 rfl rfl ?_
          refine aw_callV (As := [_, _]) D_ri_nameRings_37 kv_ri_nameRing (c_ri_nameRing (s := i) hn hn9 hN hb hI hNI (by omega) (by omega) ((oI_m1 hv).mp h3)) rfl rfl rfl rfl rfl (Nat.le_of_ble_eq_true rfl) (Nat.zero_le _) (Nat.zero_le _) (fun r w' hp => ?_)
          obtain ⟨rfl, o2, be2, pc2, le2, sz2, rfl, h4⟩ := hp
          first | refine aw_incN D_ri_nameRings_40 rfl (Nat.le_of_ble_eq_true rfl) rfl ?_ | refine aw_inc D_ri_nameRings_40 rfl (Nat.le_of_ble_eq_true rfl) rfl ?_
          refine aw_goto D_ri_nameRings_43 ?_
          exact ih (i + 1) _ _ _ _ _ _ (by omega) h4
  refine aw_aload_n 0 D_ri_nameRings_0 rfl rfl ?_
  refine aw_iconst (nI 0) D_ri_nameRings_1 rfl ?_
  refine aw_put tc_ri D_ri_nameRings_2 rfl (Nat.le_of_ble_eq_true rfl) rfl rfl ?_
  refine aw_iconst (nI 0) D_ri_nameRings_5 rfl ?_
  refine aw_istore_n 2 D_ri_nameRings_6 rfl (Nat.le_of_ble_eq_true rfl) rfl ?_
  exact loop N 0 o be pc le sz 0 (by omega) (NI.zero ho)
theorem c_ri_nameBehind (hn : 2 ≤ n) (hn9 : n ≤ 9) (hN : N = 2 ^ n) (hb : ∀ k, b k ≤ 1) (hI : PI (nx n b) N wt qu pd pd) (hNI : NI (nx n b) N wt o be pc le sz c N) : AMet M_ri_nameBehind [.ref 2, .ref 1] [mn, RG n N ch b bn, RI c pd (strt n b) fa o be pc le sz wt qu, tr, sh, rr, mo, dy]
    (fun r w' => r = none ∧ ∃ (fa' : Nat) (o' : Nat → Option Nat) (be' pc' : Nat → Nat), w' = [mn, RG n N ch b bn, RI c pd (strt n b) fa' o' be' pc' le sz wt qu, tr, sh, rr, mo, dy] ∧ FT n b c pd (strt n b) fa' o' be' pc' le sz) 0 0 := by
  have hp9 := pow_le9 hn9
  subst hN
  have hf : ∀ s, s < 2 ^ n → nx n b s < 2 ^ n := fun s hs => nx_lt (by omega) hs hb
  have hple := hI.le
  refine AMet.of [(0, .ref 2), (1, .ref 1)] (by decide +kernel) rfl (Nat.le_of_ble_eq_true rfl) ?_
  generalize hZ : (fun (r : Option Value) (w' : Wd) => r = none ∧ ∃ (fa' : Nat) (o' : Nat → Option Nat) (be' pc' : Nat → Nat), w' = [mn, RG n (2 ^ n) ch b bn, RI c pd (strt n b) fa' o' be' pc' le sz wt qu, tr, sh, rr, mo, dy] ∧ FT n b c pd (strt n b) fa' o' be' pc' le sz) = Post
  have loop : ∀ (k : Nat) (fa : Nat) (o' : Nat → Option Nat) (be' pc' : Nat → Nat), k ≤ pd → BI (nx n b) (2 ^ n) wt qu pd k o be pc o' be' pc' → (∀ t, t < 2 ^ n → o' t ≠ none → be' t ≤ pd - k) → (∀ j, k ≤ j → j < pd → be' (qu j) ≤ fa) → (fa = 0 ∨ ∃ j, k ≤ j ∧ j < pd ∧ be' (qu j) = fa) → fa ≤ pd - k →
      AW M_ri_nameBehind noP (Zp Post) 0 0 12 [(0, .ref 2), (1, .ref 1), (2, .int (nI k - nI 1))] [] [mn, RG n (2 ^ n) ch b bn, RI c pd (strt n b) fa o' be' pc' le sz wt qu, tr, sh, rr, mo, dy] 0 0 := by
    intro k
    induction k with
    | zero =>
      intro fa o' be' pc' hk hB hbd h1 h2 h3
      refine aw_iload_n 2 D_ri_nameBehind_12 rfl rfl ?_
      refine aw_if_lt D_ri_nameBehind_13 (fun h => ?_) (fun h => absurd (show nI 0 - nI 1 < 0 by decide) h)
      obtain ⟨d1, d2, d3⟩ := hB.done hf hI hNI
      have hq : ∀ s, s < 2 ^ n → (∃ j, j < pd ∧ qu j = s) ∨ be' s = 0 := by
        intro s hs
        by_cases q : wt s = 0
        · exact Or.inl ((hI.2.2.2.2.1 s hs).mp q)
        · exact Or.inr ((d3 s hs).mpr q)
      have hFT : FT n b c pd (strt n b) fa o' be' pc' le sz := by
        refine ⟨d1, d2, ?_, rfl, fun s hs => ?_, ?_, by omega⟩
        · rw [← hI.count]
          refine fb_ct_cong (fun s hs => ?_)
          rw [Bool.eq_iff_iff, decide_eq_true_iff, decide_eq_true_iff]
          have := d3 s hs
          omega
        · rcases hq s hs with ⟨j, hj, rfl⟩ | q
          · exact h1 j (Nat.zero_le _) hj
          · omega
        · rcases h2 with q | ⟨j, -, hj, q⟩
          · exact Or.inl q
          · exact Or.inr ⟨qu j, hI.2.1 j hj, q⟩
      refine aw_return D_ri_nameBehind_94 rfl ?_
      rw [← hZ]; exact ⟨rfl, fa, o', be', pc', rfl, hFT⟩
    | succ k ih =>
      intro fa o' be' pc' hk hB hbd h1 h2 h3
      rw [pk_sub (show 1 ≤ k + 1 by omega), show k + 1 - 1 = k from rfl]
      have hs := hI.2.1 k (by omega)
      have ht := hf _ hs
      have hnm := hB.named hf hI hNI (by omega)
      have hbt := hbd _ ht hnm
      have hd : ∀ j, k + 1 ≤ j → j < pd → qu j ≠ qu k := fun j a1 a2 z => hI.2.2.1 k j (by omega) a2 z.symm
      refine aw_iload_n 2 D_ri_nameBehind_12 rfl rfl ?_
      refine aw_if_ltN D_ri_nameBehind_13 (by omega) ?_
      refine aw_aload_n 0 D_ri_nameBehind_16 rfl rfl ?_
      refine aw_get D_ri_nameBehind_17 rfl rfl ?_
      refine aw_iload_n 2 D_ri_nameBehind_20 rfl rfl ?_
      refine aw_ialdN D_ri_nameBehind_21 rfl (by omega) (by omega) ?_
      refine aw_istore_n 3 D_ri_nameBehind_22 rfl (Nat.le_of_ble_eq_true rfl) rfl ?_
      refine aw_aload_n 1 D_ri_nameBehind_23 rfl rfl ?_
      refine aw_iload_n 3 D_ri_nameBehind_24 rfl rfl ?_
      refine aw_callV1 (As := [_]) D_ri_nameBehind_25 kv_rg_next (c_rg_next (s := qu k) (by omega) hn9 hs hb) rfl rfl rfl rfl rfl (Nat.le_of_ble_eq_true rfl) (Nat.zero_le _) (Nat.zero_le _) ?_
      refine aw_istore D_ri_nameBehind_28 (Nat.le_of_ble_eq_true rfl) rfl ?_
      refine aw_aload_n 0 D_ri_nameBehind_30 rfl rfl ?_
      refine aw_get D_ri_nameBehind_31 rfl rfl ?_
      refine aw_iload_n 3 D_ri_nameBehind_34 rfl rfl ?_
      refine aw_aload_n 0 D_ri_nameBehind_35 rfl rfl ?_
      refine aw_get D_ri_nameBehind_36 rfl rfl ?_
      refine aw_iload D_ri_nameBehind_39 rfl ?_
      refine aw_ialdN D_ri_nameBehind_41 rfl (by omega) (by omega) ?_
      refine aw_iastJ D_ri_nameBehind_42 rfl (by omega) (by omega) ?_
      rw [oF_upd]
      refine aw_aload_n 0 D_ri_nameBehind_43 rfl rfl ?_
      refine aw_get D_ri_nameBehind_44 rfl rfl ?_
      refine aw_iload_n 3 D_ri_nameBehind_47 rfl rfl ?_
      refine aw_aload_n 0 D_ri_nameBehind_48 rfl rfl ?_
      refine aw_get D_ri_nameBehind_49 rfl rfl ?_
      refine aw_iload D_ri_nameBehind_52 rfl ?_
      refine aw_ialdN D_ri_nameBehind_54 rfl (by omega) (by omega) ?_
      refine aw_iastN D_ri_nameBehind_55 rfl (by omega) (by omega) ?_
      refine aw_aload_n 0 D_ri_nameBehind_56 rfl rfl ?_
      refine aw_get D_ri_nameBehind_57 rfl rfl ?_
      refine aw_iload_n 3 D_ri_nameBehind_60 rfl rfl ?_
      refine aw_aload_n 0 D_ri_nameBehind_61 rfl rfl ?_
      refine aw_get D_ri_nameBehind_62 rfl rfl ?_
      refine aw_iload D_ri_nameBehind_65 rfl ?_
      refine aw_ialdN D_ri_nameBehind_67 rfl (by omega) (by omega) ?_
      refine aw_iconst (nI 1) D_ri_nameBehind_68 rfl ?_
      first | with_reducible refine aw_iaddN D_ri_nameBehind_69 ?_ | refine aw_iadd D_ri_nameBehind_69 ?_
      refine aw_iastN D_ri_nameBehind_70 rfl (by omega) (by omega) ?_
      refine aw_aload_n 0 D_ri_nameBehind_71 rfl rfl ?_
      refine aw_aload_n 0 D_ri_nameBehind_72 rfl rfl ?_
      refine aw_get D_ri_nameBehind_73 rfl rfl ?_
      refine aw_aload_n 0 D_ri_nameBehind_76 rfl rfl ?_
      refine aw_get D_ri_nameBehind_77 rfl rfl ?_
      refine aw_iload_n 3 D_ri_nameBehind_80 rfl rfl ?_
      refine aw_ialdN D_ri_nameBehind_81 rfl (by omega) (by omega) ?_
      rw [nF_at]
      refine aw_maxN D_ri_nameBehind_82 (by omega) (by omega) (Nat.le_of_ble_eq_true rfl) ?_
      refine aw_put tc_ri D_ri_nameBehind_85 rfl (Nat.le_of_ble_eq_true rfl) rfl rfl ?_
      first | refine aw_decN D_ri_nameBehind_88 rfl (by omega) (Nat.le_of_ble_eq_true rfl) rfl ?_ | refine aw_dec D_ri_nameBehind_88 rfl (Nat.le_of_ble_eq_true rfl) rfl ?_
      refine aw_goto D_ri_nameBehind_91 ?_
      refine aw_take 3 ?_
      refine ih (max fa (be' (nx n b (qu k)) + 1)) _ _ _ (by omega) (hB.step hf hI hNI (by omega)) (fun t ht2 hne => ?_) (fun j hj hjp => ?_) ?_ (by omega)
      · by_cases e : t = qu k
        · rw [e, vu_at]; omega
        · rw [vu_ne e] at hne ⊢
          have := hbd t ht2 hne
          omega
      · by_cases e : j = k
        · rw [e, vu_at]; omega
        · rw [vu_ne (hd j (by omega) hjp)]
          have := h1 j (by omega) hjp
          omega
      · right
        rcases Nat.le_total fa (be' (nx n b (qu k)) + 1) with q | q
        · exact ⟨k, Nat.le_refl _, by omega, by rw [vu_at]; omega⟩
        · rcases h2 with z | ⟨j, j1, j2, j3⟩
          · omega
          · exact ⟨j, by omega, j2, by rw [vu_ne (hd j j1 j2)]; omega⟩
  refine aw_aload_n 0 D_ri_nameBehind_0 rfl rfl ?_
  refine aw_iconst (nI 0) D_ri_nameBehind_1 rfl ?_
  refine aw_put tc_ri D_ri_nameBehind_2 rfl (Nat.le_of_ble_eq_true rfl) rfl rfl ?_
  refine aw_aload_n 0 D_ri_nameBehind_5 rfl rfl ?_
  refine aw_get D_ri_nameBehind_6 rfl rfl ?_
  refine aw_iconst (nI 1) D_ri_nameBehind_9 rfl ?_
  refine aw_isub D_ri_nameBehind_10 ?_
  refine aw_istore_n 2 D_ri_nameBehind_11 rfl (Nat.le_of_ble_eq_true rfl) rfl ?_
  refine loop pd 0 o be pc (Nat.le_refl _) (BI.start _ _ _ _ _ _ _ _) (fun t ht hne => ?_) (fun j a1 a2 => absurd a1 (by omega)) (Or.inl rfl) (Nat.zero_le _)
  cases hr : o t with
  | none => exact absurd hr hne
  | some r => rw [(hNI.2.1 t r ht hr).2.2.1]; exact Nat.zero_le _
theorem c_ri_find (hn : 2 ≤ n) (hn9 : n ≤ 9) (hN : N = 2 ^ n) (hb : ∀ k, b k ≤ 1) : AMet M_ri_find [.ref 2, .ref 1] [mn, RG n N ch b bn, RI c pd st fa o be pc le sz wt qu, tr, sh, rr, mo, dy]
    (fun r w' => r = none ∧ ∃ (c' pd' st' fa' : Nat) (o' : Nat → Option Nat) (be' pc' le' sz' wt' qu' : Nat → Nat), w' = [mn, RG n N ch b bn, RI c' pd' st' fa' o' be' pc' le' sz' wt' qu', tr, sh, rr, mo, dy] ∧ FT n b c' pd' st' fa' o' be' pc' le' sz') 0 0 := by
  refine AMet.of [(0, .ref 2), (1, .ref 1)] (by decide +kernel) rfl (Nat.le_of_ble_eq_true rfl) ?_
  refine aw_aload_n 0 D_ri_find_0 rfl rfl ?_
  refine aw_aload_n 1 D_ri_find_1 rfl rfl ?_
  refine aw_callV (As := [_]) D_ri_find_2 kv_ri_peel (c_ri_peel hn hn9 hN hb) rfl rfl rfl rfl rfl (Nat.le_of_ble_eq_true rfl) (Nat.zero_le _) (Nat.zero_le _) (fun r w' hp => ?_)
  obtain ⟨rfl, o1, wt1, qu1, pl, rfl, ho, hI⟩ := hp
  refine aw_aload_n 0 D_ri_find_5 rfl rfl ?_
  refine aw_aload_n 1 D_ri_find_6 rfl rfl ?_
  refine aw_callV (As := [_]) D_ri_find_7 kv_ri_nameRings (c_ri_nameRings hn hn9 hN hb hI ho) rfl rfl rfl rfl rfl (Nat.le_of_ble_eq_true rfl) (Nat.zero_le _) (Nat.zero_le _) (fun r w' hp => ?_)
  obtain ⟨rfl, o2, be2, pc2, le2, sz2, c2, rfl, hNI⟩ := hp
  refine aw_aload_n 0 D_ri_find_10 rfl rfl ?_
  refine aw_aload_n 1 D_ri_find_11 rfl rfl ?_
  refine aw_callV (As := [_]) D_ri_find_12 kv_ri_nameBehind (c_ri_nameBehind hn hn9 hN hb hI hNI) rfl rfl rfl rfl rfl (Nat.le_of_ble_eq_true rfl) (Nat.zero_le _) (Nat.zero_le _) (fun r w' hp => ?_)
  obtain ⟨rfl, fa3, o3, be3, pc3, rfl, hFT⟩ := hp
  refine aw_return D_ri_find_15 rfl ?_
  exact ⟨rfl, c2, pl, strt n b, fa3, o3, be3, pc3, le2, sz2, wt1, qu1, rfl, hFT⟩
end Rings2
end
section
/-! ### plain numbers: what the tables of the rings say -/
section Vt
variable {f : Nat → Nat} {N : Nat} {ro be pc le sz ro' be' pc' le' sz' : Nat → Nat} {R R' : Nat}
theorem VT.be_itr (hf : ∀ s, s < N → f s < N) (h : VT f N ro be pc le sz R) {s : Nat} (hs : s < N) : ∀ j, be (itr f j s) = be s - j ∧ ro (itr f j s) = ro s
  | 0 => ⟨rfl, rfl⟩
  | j + 1 => by
    obtain ⟨h1, h2⟩ := h.be_itr hf hs j
    have hx := itr_lt hf j s hs
    rw [itr_succ]
    rcases Nat.eq_zero_or_pos (be (itr f j s)) with q | q
    · obtain ⟨a, c⟩ := h.2.1 _ hx q
      exact ⟨by omega, by omega⟩
    · obtain ⟨a, c, -⟩ := h.2.2.1 _ hx q
      exact ⟨by omega, by omega⟩
theorem VT.pc_itr (hf : ∀ s, s < N → f s < N) (h : VT f N ro be pc le sz R) {s : Nat} (hs : s < N) : ∀ j, j ≤ be s → pc (itr f j s) = pc s
  | 0, _ => rfl
  | j + 1, hj => by
    have h1 := h.pc_itr hf hs j (by omega)
    have h2 := (h.be_itr hf hs j).1
    rw [itr_succ, (h.2.2.1 _ (itr_lt hf j s hs) (by omega)).2.2, h1]
theorem VT.period (h : VT f N ro be pc le sz R) {s : Nat} (hs : s < N) (hb : be s = 0) : itr f (sz (ro s)) s = s := by
  obtain ⟨-, h2, -⟩ := h.2.2.2.2.1 s hs hb
  have h3 := (h.2.2.2.1 _ (h.1 s hs)).2.2.1
  have : itr f (sz (ro s)) (itr f (pc s) (le (ro s))) = itr f (pc s) (itr f (sz (ro s)) (le (ro s))) := by
    rw [← itr_add, ← itr_add, Nat.add_comm]
  rw [h3, h2] at this
  exact this
theorem itr_mul {f : Nat → Nat} {p s : Nat} (h : itr f p s = s) : ∀ k, itr f (k * p) s = s
  | 0 => by rw [Nat.zero_mul]; rfl
  | k + 1 => by rw [Nat.succ_mul, itr_add, itr_mul h k, h]
theorem itr_mod {f : Nat → Nat} {p s : Nat} (h : itr f p s = s) (k : Nat) : itr f (k % p) s = itr f k s := by
  have e : k = k / p * p + k % p := by rw [Nat.mul_comm]; exact (Nat.div_add_mod k p).symm
  rw [show itr f k s = itr f (k / p * p + k % p) s from congrArg (fun z => itr f z s) e, itr_add, itr_mul h]
theorem VT.sz_pos (h : VT f N ro be pc le sz R) {s : Nat} (hs : s < N) : 1 ≤ sz (ro s) := (h.2.2.2.1 _ (h.1 s hs)).2.1
theorem VT.sz_le (hf : ∀ s, s < N → f s < N) (h : VT f N ro be pc le sz R) {r : Nat} (hr : r < R) : sz r ≤ N := by
  obtain ⟨h1, h2, h3, h4⟩ := h.2.2.2.1 r hr
  refine fb_holes N (sz r) (fun j => itr f j (le r)) (fun j _ => itr_lt hf j _ h1) (fun i j hij hj e => ?_)
  have a1 := (h4 i (by omega)).2.2
  have a2 := (h4 j hj).2.2
  have e : itr f i (le r) = itr f j (le r) := e
  rw [e] at a1
  omega
theorem VT.be_le (hf : ∀ s, s < N → f s < N) (h : VT f N ro be pc le sz R) {s : Nat} (hs : s < N) : be s ≤ N := by
  refine fb_holes N (be s) (fun j => itr f j s) (fun j _ => itr_lt hf j _ hs) (fun i j hij hj e => ?_)
  have a1 := (h.be_itr hf hs i).1
  have a2 := (h.be_itr hf hs j).1
  have e : itr f i s = itr f j s := e
  rw [e] at a1
  omega
theorem VT.R_le (h : VT f N ro be pc le sz R) : R ≤ N := fb_holes N R le (fun r hr => (h.2.2.2.1 r hr).1) (fun r r' a b => Nat.ne_of_lt (h.2.2.2.2.2 r r' a b))
/-- k steps, with whole rounds left out -/
theorem VT.steps (hf : ∀ s, s < N → f s < N) (h : VT f N ro be pc le sz R) {s k : Nat} (hs : s < N) (hk : be s ≤ k) : itr f (be s + (k - be s) % sz (ro s)) s = itr f k s := by
  have h1 := h.be_itr hf hs (be s)
  have hx := itr_lt hf (be s) s hs
  have h2 := h.period hx (by omega)
  rw [h1.2] at h2
  rw [itr_add, itr_mod h2, ← itr_add]
  congr 1
  omega
theorem VT.per (hf : ∀ s, s < N → f s < N) (h : VT f N ro be pc le sz R) {s : Nat} (hs : s < N) : be s = 0 ↔ ∃ k, 1 ≤ k ∧ itr f k s = s := by
  constructor
  · intro hb
    exact ⟨sz (ro s), h.sz_pos hs, h.period hs hb⟩
  · rintro ⟨k, hk, e⟩
    have := (h.be_itr hf hs k).1
    rw [e] at this
    omega
theorem VT.be_one (hf : ∀ s, s < N → f s < N) (h : VT f N ro be pc le sz R) (h' : VT f N ro' be' pc' le' sz' R') {s : Nat} (hs : s < N) : be s = be' s := by
  have key : ∀ j, be s - j = 0 ↔ be' s - j = 0 := by
    intro j
    rw [← (h.be_itr hf hs j).1, ← (h'.be_itr hf hs j).1, h.per hf (itr_lt hf j s hs), h'.per hf (itr_lt hf j s hs)]
  have k1 := key (be s)
  have k2 := key (be' s)
  omega
/-- the least state of a ring is met on it -/
theorem VT.least_met (h : VT f N ro be pc le sz R) {s : Nat} (hs : s < N) (hb : be s = 0) : ∃ j, itr f j s = le (ro s) := by
  obtain ⟨h1, h2, -⟩ := h.2.2.2.2.1 s hs hb
  have h3 := (h.2.2.2.1 _ (h.1 s hs)).2.2.1
  refine ⟨sz (ro s) - pc s, ?_⟩
  have : itr f (sz (ro s) - pc s) (itr f (pc s) (le (ro s))) = itr f (sz (ro s)) (le (ro s)) := by
    rw [← itr_add]; congr 1; omega
  rw [h2, h3] at this
  exact this
theorem VT.least_le (hf : ∀ s, s < N → f s < N) (h : VT f N ro be pc le sz R) {s : Nat} (hs : s < N) (hb : be s = 0) (j : Nat) : le (ro s) ≤ itr f j s := by
  obtain ⟨h1, h2⟩ := h.be_itr hf hs j
  have := (h.2.2.2.2.1 _ (itr_lt hf j s hs) (by omega)).2.2
  rw [h2] at this
  exact this
theorem VT.least_one (hf : ∀ s, s < N → f s < N) (h : VT f N ro be pc le sz R) (h' : VT f N ro' be' pc' le' sz' R') {s : Nat} (hs : s < N) (hb : be s = 0) : le (ro s) = le' (ro' s) := by
  have hb' : be' s = 0 := by rw [← h.be_one hf h' hs]; exact hb
  obtain ⟨j, e⟩ := h.least_met hs hb
  obtain ⟨j', e'⟩ := h'.least_met hs hb'
  have a1 := h'.least_le hf hs hb' j
  have a2 := h.least_le hf hs hb j'
  omega
theorem inc_rank {le : Nat → Nat} {R : Nat} (hi : ∀ r r', r < r' → r' < R → le r < le r') {r : Nat} (hr : r < R) : fb_ct (fun x => inQ le R x) (le r) = r := by
  have e : fb_ct (fun x => inQ le R x) (le r) = fb_ct (fun x => inQ le r x) (le r) := fb_ct_cong (fun x hx => by
    rw [Bool.eq_iff_iff, inQ_iff, inQ_iff]
    constructor
    · rintro ⟨j, hj, z⟩
      refine ⟨j, ?_, z⟩
      rcases Nat.lt_or_ge j r with q | q
      · exact q
      · rcases Nat.eq_or_lt_of_le q with q | q
        · rw [← q] at z; omega
        · have := hi r j q hj; omega
    · rintro ⟨j, hj, z⟩
      exact ⟨j, by omega, z⟩)
  rw [e]
  exact ct_inQ r (fun j hj => hi j r hj hr) (fun i j a b => Nat.ne_of_lt (hi i j a (by omega)))
/-- the tables are as they must be: two of them are one -/
theorem VT.one (hf : ∀ s, s < N → f s < N) (h : VT f N ro be pc le sz R) (h' : VT f N ro' be' pc' le' sz' R') : R = R' ∧ (∀ r, r < R → le r = le' r ∧ sz r = sz' r) ∧ ∀ s, s < N → ro s = ro' s ∧ be s = be' s ∧ pc s = pc' s := by
  have img : ∀ x, inQ le R x = inQ le' R' x := by
    intro x
    rw [Bool.eq_iff_iff, inQ_iff, inQ_iff]
    constructor
    · rintro ⟨r, hr, e⟩
      obtain ⟨l1, l2, l3, l4⟩ := h.2.2.2.1 r hr
      have l5 := l4 0 (by omega)
      rw [show itr f 0 (le r) = le r from rfl] at l5
      have := h.least_one hf h' l1 l5.1
      rw [l5.2.1] at this
      exact ⟨ro' (le r), h'.1 _ l1, by rw [← this]; exact e⟩
    · rintro ⟨r, hr, e⟩
      obtain ⟨l1, l2, l3, l4⟩ := h'.2.2.2.1 r hr
      have l5 := l4 0 (by omega)
      rw [show itr f 0 (le' r) = le' r from rfl] at l5
      have := h'.least_one hf h l1 l5.1
      rw [l5.2.1] at this
      exact ⟨ro (le' r), h.1 _ l1, by rw [← this]; exact e⟩
  have hR : R = R' := by
    have a1 := ct_inQ (qu := le) (N := N) R (fun r hr => (h.2.2.2.1 r hr).1) (fun r r' a b => Nat.ne_of_lt (h.2.2.2.2.2 r r' a b))
    have a2 := ct_inQ (qu := le') (N := N) R' (fun r hr => (h'.2.2.2.1 r hr).1) (fun r r' a b => Nat.ne_of_lt (h'.2.2.2.2.2 r r' a b))
    rw [fb_ct_cong (fun k _ => img k), a2] at a1
    exact a1.symm
  have hro0 : ∀ s, s < N → be s = 0 → ro s = ro' s := by
    intro s hs hb
    have e := h.least_one hf h' hs hb
    have a1 := inc_rank h.2.2.2.2.2 (h.1 s hs)
    have a2 := inc_rank h'.2.2.2.2.2 (h'.1 s hs)
    rw [e, fb_ct_cong (fun k _ => img k), a2] at a1
    exact a1.symm
  have hle : ∀ r, r < R → le r = le' r := by
    intro r hr
    obtain ⟨l1, l2, l3, l4⟩ := h.2.2.2.1 r hr
    have l5 := l4 0 (by omega)
    rw [show itr f 0 (le r) = le r from rfl] at l5
    have e := h.least_one hf h' l1 l5.1
    rw [← hro0 _ l1 l5.1, l5.2.1] at e
    exact e
  have hsz : ∀ r, r < R → sz r = sz' r := by
    intro r hr
    obtain ⟨l1, l2, l3, l4⟩ := h.2.2.2.1 r hr
    obtain ⟨m1, m2, m3, m4⟩ := h'.2.2.2.1 r (by omega)
    have e := hle r hr
    rw [← e] at m3 m4
    rcases Nat.lt_trichotomy (sz r) (sz' r) with q | q | q
    · have a1 := (m4 (sz r) q).2.2
      have a2 := (m4 0 (by omega)).2.2
      rw [l3] at a1
      rw [show itr f 0 (le r) = le r from rfl] at a2
      omega
    · exact q
    · have a1 := (l4 (sz' r) q).2.2
      have a2 := (l4 0 (by omega)).2.2
      rw [m3] at a1
      rw [show itr f 0 (le r) = le r from rfl] at a2
      omega
  have hpc0 : ∀ s, s < N → be s = 0 → pc s = pc' s := by
    intro s hs hb
    have hb' : be' s = 0 := by rw [← h.be_one hf h' hs]; exact hb
    obtain ⟨p1, p2, -⟩ := h.2.2.2.2.1 s hs hb
    have e := hro0 s hs hb
    have a := ((h'.2.2.2.1 _ (h'.1 s hs)).2.2.2 (pc s) (by rw [← e, ← hsz _ (h.1 s hs)]; exact p1)).2.2
    rw [← e, ← hle _ (h.1 s hs), p2] at a
    exact a.symm
  refine ⟨hR, fun r hr => ⟨hle r hr, hsz r hr⟩, fun s hs => ?_⟩
  have hb := h.be_one hf h' hs
  have hx := itr_lt hf (be s) s hs
  have h0 : be (itr f (be s) s) = 0 := by rw [(h.be_itr hf hs (be s)).1]; omega
  refine ⟨?_, hb, ?_⟩
  · rw [← (h.be_itr hf hs (be s)).2, ← (h'.be_itr hf hs (be s)).2]
    exact hro0 _ hx h0
  · rw [← h.pc_itr hf hs (be s) (Nat.le_refl _), ← h'.pc_itr hf hs (be s) (by omega)]
    exact hpc0 _ hx h0
/-- a sum along different places is a sum over what they meet -/
theorem sm_inQ {g : Nat → Nat} {N : Nat} (v : Nat → Nat) : ∀ m, (∀ j, j < m → g j < N) → (∀ i j, i < j → j < m → g i ≠ g j) → fb_sm (fun j => v (g j)) m = fb_sm (fun s => if inQ g m s then v s else 0) N
  | 0, _, _ => by
    symm
    have : ∀ k, fb_sm (fun s => if inQ g 0 s = true then v s else 0) k = 0 := by
      intro k
      induction k with
      | zero => rfl
      | succ k ih => rw [fb_sm_succ, ih]; rfl
    exact this N
  | m + 1, h1, h2 => by
    rw [fb_sm_succ, sm_inQ v m (fun j hj => h1 j (by omega)) (fun i j a b => h2 i j a (by omega))]
    have hn : inQ g m (g m) = false := by
      rw [Bool.eq_false_iff]
      intro e
      obtain ⟨j, hj, e⟩ := (inQ_iff g _ m).mp e
      exact h2 j m hj (by omega) e
    have e : (fun s => if inQ g (m + 1) s = true then v s else 0) = (fun k => if k = g m then v (g m) else (fun s => if inQ g m s = true then v s else 0) k) := by
      funext s
      by_cases q : s = g m
      · rw [if_pos q, if_pos ((inQ_iff g s (m + 1)).mpr ⟨m, by omega, q.symm⟩), q]
      · rw [if_neg q]
        have : inQ g (m + 1) s = inQ g m s := by
          show (inQ g m s || decide (g m = s)) = _
          rw [show decide (g m = s) = false from decide_eq_false (fun z => q z.symm), Bool.or_false]
        rw [this]
    have := fb_sm_upd (fun s => if inQ g m s = true then v s else 0) (v (g m)) (i := g m) (h1 m (by omega))
    rw [e]
    have e0 : (if inQ g m (g m) = true then v (g m) else 0) = 0 := by rw [hn]; rfl
    dsimp only at this ⊢
    rw [e0] at this
    omega
theorem VT.on_ring (hf : ∀ s, s < N → f s < N) (h : VT f N ro be pc le sz R) {r : Nat} (hr : r < R) {s : Nat} (hs : s < N) : inQ (fun j => itr f j (le r)) (sz r) s = true ↔ ro s = r ∧ be s = 0 := by
  obtain ⟨l1, l2, l3, l4⟩ := h.2.2.2.1 r hr
  rw [inQ_iff]
  constructor
  · rintro ⟨j, hj, rfl⟩
    exact ⟨(l4 j hj).2.1, (l4 j hj).1⟩
  · rintro ⟨rfl, hb⟩
    obtain ⟨p1, p2, -⟩ := h.2.2.2.2.1 s hs hb
    exact ⟨pc s, p1, p2⟩
/-- along a ring once -/
theorem VT.sum_ring (hf : ∀ s, s < N → f s < N) (h : VT f N ro be pc le sz R) {r : Nat} (hr : r < R) (v : Nat → Nat) : fb_sm (fun j => v (itr f j (le r))) (sz r) = fb_sm (fun s => if ro s = r ∧ be s = 0 then v s else 0) N := by
  obtain ⟨l1, l2, l3, l4⟩ := h.2.2.2.1 r hr
  rw [sm_inQ (g := fun j => itr f j (le r)) (N := N) v (sz r) (fun j _ => itr_lt hf j _ l1) (fun i j hij hj e => ?_)]
  · refine fb_sm_cong (fun s hs => ?_)
    by_cases q : ro s = r ∧ be s = 0
    · rw [if_pos q, if_pos ((h.on_ring hf hr hs).mpr q)]
    · rw [if_neg q, if_neg (fun z => q ((h.on_ring hf hr hs).mp z))]
  · have a1 := (l4 i (by omega)).2.2
    have a2 := (l4 j hj).2.2
    have e : itr f i (le r) = itr f j (le r) := e
    rw [e] at a1
    omega
theorem VT.sum_sz (hf : ∀ s, s < N → f s < N) (h : VT f N ro be pc le sz R) : fb_sm sz R + fb_ct (fun s => decide (0 < be s)) N = N := by
  have key : ∀ m, m ≤ R → fb_sm sz m = fb_ct (fun s => decide (ro s < m ∧ be s = 0)) N := by
    intro m
    induction m with
    | zero => intro _; symm; exact fb_ct_zero.mpr (fun k _ => by simp)
    | succ m ih =>
      intro hm
      have h1 := h.sum_ring hf (r := m) (by omega) (fun _ => 1)
      have h2 : ∀ k, fb_sm (fun s => if ro s = m ∧ be s = 0 then 1 else 0) k = fb_ct (fun s => decide (ro s = m ∧ be s = 0)) k := by
        intro k
        induction k with
        | zero => rfl
        | succ k ih2 =>
          rw [fb_sm_succ, fb_ct_succ, ih2]
          by_cases q : ro k = m ∧ be k = 0
          · rw [if_pos q, if_pos (decide_eq_true q)]
          · rw [if_neg q, if_neg (by simpa using q)]
      rw [h2, fb_sm_const, Nat.mul_one] at h1
      rw [fb_sm_succ, ih (by omega), h1, ← fb_ct_or (fun k _ => by simp; omega)]
      exact fb_ct_cong (fun s _ => by
        rw [Bool.eq_iff_iff]
        simp only [Bool.or_eq_true, decide_eq_true_eq]
        omega)
  rw [key R (Nat.le_refl _)]
  have := fb_ct_not (fun s => decide (0 < be s)) N
  have e : fb_ct (fun s => decide (ro s < R ∧ be s = 0)) N = fb_ct (fun k => !decide (0 < be k)) N := fb_ct_cong (fun s hs => by
    rw [Bool.eq_iff_iff]
    have := h.1 s hs
    simp only [decide_eq_true_eq, Bool.not_eq_true', decide_eq_false_iff_not]
    omega)
  rw [e]
  omega
end Vt
end
section
/-! ### what is asked of the rings -/
section Rings3
variable {mn tr sh rr mo dy : List va_E} {n N ch : Nat} {b bn : Nat → Nat} {c pd st fa : Nat} {o : Nat → Option Nat} {be pc le sz wt qu : Nat → Nat}
theorem oI_get {z : Int32} {x : Option Nat} (h : x ≠ none) : oI z x = nI (x.getD 0) := by
  cases x with
  | none => exact absurd rfl h
  | some r => rfl
theorem FT.hf {n : Nat} {b : Nat → Nat} (hn : 1 ≤ n) (hb : ∀ k, b k ≤ 1) : ∀ s, s < 2 ^ n → nx n b s < 2 ^ n := fun s hs => nx_lt hn hs hb
theorem c_ri_hasT {r : Nat} (hr : r < c) (hc : c ≤ 512) : AMet M_ri_has [.ref 2, .int (nI r)] [mn, RG n N ch b bn, RI c pd st fa o be pc le sz wt qu, tr, sh, rr, mo, dy] (Ex (some (.int (nI 1))) [mn, RG n N ch b bn, RI c pd st fa o be pc le sz wt qu, tr, sh, rr, mo, dy]) 0 0 := by
  refine AMet.of [(0, .ref 2), (1, .int (nI r))] (by decide +kernel) rfl (Nat.le_of_ble_eq_true rfl) ?_
  refine aw_iload_n 1 D_ri_has_0 rfl rfl ?_
  refine aw_if_ltN D_ri_has_1 (by omega) ?_
  refine aw_iload_n 1 D_ri_has_4 rfl rfl ?_
  refine aw_aload_n 0 D_ri_has_5 rfl rfl ?_
  refine aw_get D_ri_has_6 rfl rfl ?_
  refine aw_icmp_geN D_ri_has_9 (by omega) (by omega) (fun h => absurd h (by omega)) (fun h => ?_)
  refine aw_iconst (nI 1) D_ri_has_12 rfl ?_
  refine aw_goto D_ri_has_13 ?_
  refine aw_ireturn D_ri_has_17 rfl rfl ?_
  exact ⟨rfl, rfl⟩
theorem c_ri_hasF {x : Int32} (hx : ¬ vp_in x c) (hc : c ≤ 512) : AMet M_ri_has [.ref 2, .int x] [mn, RG n N ch b bn, RI c pd st fa o be pc le sz wt qu, tr, sh, rr, mo, dy] (Ex (some (.int (nI 0))) [mn, RG n N ch b bn, RI c pd st fa o be pc le sz wt qu, tr, sh, rr, mo, dy]) 0 0 := by
  refine AMet.of [(0, .ref 2), (1, .int x)] (by decide +kernel) rfl (Nat.le_of_ble_eq_true rfl) ?_
  refine aw_iload_n 1 D_ri_has_0 rfl rfl ?_
  refine aw_if_lt D_ri_has_1 (fun h => ?_) (fun h => ?_)
  · refine aw_iconst (nI 0) D_ri_has_16 rfl ?_
    refine aw_ireturn D_ri_has_17 rfl rfl ?_
    exact ⟨rfl, rfl⟩
  · refine aw_iload_n 1 D_ri_has_4 rfl rfl ?_
    refine aw_aload_n 0 D_ri_has_5 rfl rfl ?_
    refine aw_get D_ri_has_6 rfl rfl ?_
    refine aw_icmp_ge D_ri_has_9 (fun h1 => ?_) (fun h1 => ?_)
    · refine aw_iconst (nI 0) D_ri_has_16 rfl ?_
      refine aw_ireturn D_ri_has_17 rfl rfl ?_
      exact ⟨rfl, rfl⟩
    · exact absurd (vp_of h h1 (by omega)) hx
theorem c_ri_around {s : Nat} (hn : 2 ≤ n) (hn9 : n ≤ 9) (hb : ∀ k, b k ≤ 1) (hF : FT n b c pd st fa o be pc le sz) (hs : s < 2 ^ n) : AMet M_ri_sizeAround [.ref 2, .int (nI s)] [mn, RG n N ch b bn, RI c pd st fa o be pc le sz wt qu, tr, sh, rr, mo, dy] (Ex (some (.int (nI (sz ((o s).getD 0))))) [mn, RG n N ch b bn, RI c pd st fa o be pc le sz wt qu, tr, sh, rr, mo, dy]) 0 0 := by
  have hp9 := pow_le9 hn9
  have hf := FT.hf (n := n) (b := b) (by omega) hb
  have hV := hF.2.1
  have hR := hV.R_le
  have hr := hV.1 s hs
  have h1 := hV.sz_pos hs
  have h2 := hV.sz_le hf hr
  have ho := oI_get (z := -nI 1) (hF.1 s hs)
  dsimp only at hr h1 h2
  refine AMet.of [(0, .ref 2), (1, .int (nI s))] (by decide +kernel) rfl (Nat.le_of_ble_eq_true rfl) ?_
  refine aw_aload_n 0 D_ri_sizeAround_0 rfl rfl ?_
  refine aw_get D_ri_sizeAround_1 rfl rfl ?_
  refine aw_iload_n 1 D_ri_sizeAround_4 rfl rfl ?_
  refine aw_ialdN D_ri_sizeAround_5 rfl (by omega) (by omega) ?_
  rw [show oF (-nI 1) o s = nI ((o s).getD 0) from ho]
  refine aw_istore_n 2 D_ri_sizeAround_6 rfl (Nat.le_of_ble_eq_true rfl) rfl ?_
  refine aw_aload_n 0 D_ri_sizeAround_7 rfl rfl ?_
  refine aw_iload_n 2 D_ri_sizeAround_8 rfl rfl ?_
  refine aw_callV1 (As := [_]) D_ri_sizeAround_9 kv_ri_has (c_ri_hasT hr (by omega)) rfl rfl rfl rfl rfl (Nat.le_of_ble_eq_true rfl) (Nat.zero_le _) (Nat.zero_le _) ?_
  refine aw_if_eqN D_ri_sizeAround_12 (by omega) (fun h => absurd h (by omega)) (fun h => ?_)
  refine aw_iconst (nI 1) D_ri_sizeAround_15 rfl ?_
  refine aw_aload_n 0 D_ri_sizeAround_16 rfl rfl ?_
  refine aw_get D_ri_sizeAround_17 rfl rfl ?_
  refine aw_iload_n 2 D_ri_sizeAround_20 rfl rfl ?_
  refine aw_ialdN D_ri_sizeAround_21 rfl (by omega) (by omega) ?_
  refine aw_maxN D_ri_sizeAround_22 (by omega) (by omega) (Nat.le_of_ble_eq_true rfl) ?_
  refine aw_goto D_ri_sizeAround_25 ?_
  rw [Nat.max_eq_right h1]
  refine aw_ireturn D_ri_sizeAround_29 rfl rfl ?_
  exact ⟨rfl, rfl⟩
def kind (n : Nat) (o : Nat → Option Nat) (be sz : Nat → Nat) (s : Nat) : Nat := if 0 < be s then 2 else if sz ((o s).getD 0) = 1 then 0 else 1
theorem c_ri_kind {s : Nat} (hn : 2 ≤ n) (hn9 : n ≤ 9) (hb : ∀ k, b k ≤ 1) (hF : FT n b c pd st fa o be pc le sz) (hs : s < 2 ^ n) : AMet M_ri_kindOf [.ref 2, .int (nI s)] [mn, RG n N ch b bn, RI c pd st fa o be pc le sz wt qu, tr, sh, rr, mo, dy] (Ex (some (.int (nI (kind n o be sz s)))) [mn, RG n N ch b bn, RI c pd st fa o be pc le sz wt qu, tr, sh, rr, mo, dy]) 0 0 := by
  have hp9 := pow_le9 hn9
  have hf := FT.hf (n := n) (b := b) (by omega) hb
  have hV := hF.2.1
  have hbl := hV.be_le hf hs
  have h2 := hV.sz_le hf (hV.1 s hs)
  dsimp only at h2
  unfold kind
  refine AMet.of [(0, .ref 2), (1, .int (nI s))] (by decide +kernel) rfl (Nat.le_of_ble_eq_true rfl) ?_
  refine aw_aload_n 0 D_ri_kindOf_0 rfl rfl ?_
  refine aw_get D_ri_kindOf_1 rfl rfl ?_
  refine aw_iload_n 1 D_ri_kindOf_4 rfl rfl ?_
  refine aw_ialdN D_ri_kindOf_5 rfl (by omega) (by omega) ?_
  refine aw_if_leN D_ri_kindOf_6 (by omega) (fun h => ?_) (fun h => ?_)
  · rw [if_neg (by omega)]
    refine aw_aload_n 0 D_ri_kindOf_11 rfl rfl ?_
    refine aw_iload_n 1 D_ri_kindOf_12 rfl rfl ?_
    refine aw_callV1 (As := [_]) D_ri_kindOf_13 kv_ri_sizeAround (c_ri_around hn hn9 hb hF hs) rfl rfl rfl rfl rfl (Nat.le_of_ble_eq_true rfl) (Nat.zero_le _) (Nat.zero_le _) ?_
    refine aw_iconst (nI 1) D_ri_kindOf_16 rfl ?_
    refine aw_icmp_neN D_ri_kindOf_17 (by omega) (by omega) (fun h3 => ?_) (fun h3 => ?_)
    · rw [if_neg h3]
      refine aw_iconst (nI 1) D_ri_kindOf_24 rfl ?_
      refine aw_ireturn D_ri_kindOf_25 rfl rfl ?_
      exact ⟨rfl, rfl⟩
    · rw [if_pos h3]
      refine aw_iconst (nI 0) D_ri_kindOf_20 rfl ?_
      refine aw_goto D_ri_kindOf_21 ?_
      refine aw_ireturn D_ri_kindOf_25 rfl rfl ?_
      exact ⟨rfl, rfl⟩
  · rw [if_pos h]
    refine aw_iconst (nI 2) D_ri_kindOf_9 rfl ?_
    refine aw_ireturn D_ri_kindOf_10 rfl rfl ?_
    exact ⟨rfl, rfl⟩
theorem c_ri_steps {s k : Nat} (hn : 2 ≤ n) (hn9 : n ≤ 9) (hb : ∀ k, b k ≤ 1) (hF : FT n b c pd st fa o be pc le sz) (hs : s < 2 ^ n) (hk : k < 2 ^ 63) : AMet M_ri_stepsThatMatter [.ref 2, .int (nI s), .long (lN k)] [mn, RG n N ch b bn, RI c pd st fa o be pc le sz wt qu, tr, sh, rr, mo, dy] (Ex (some (.int (nI (if k ≤ be s then k else be s + (k - be s) % sz ((o s).getD 0))))) [mn, RG n N ch b bn, RI c pd st fa o be pc le sz wt qu, tr, sh, rr, mo, dy]) 0 0 := by
  have hp9 := pow_le9 hn9
  have hf := FT.hf (n := n) (b := b) (by omega) hb
  have hV := hF.2.1
  have hbl := hV.be_le hf hs
  have h2 := hV.sz_le hf (hV.1 s hs)
  have h1 := hV.sz_pos hs
  dsimp only at h1 h2
  refine AMet.of [(0, .ref 2), (1, .int (nI s)), (2, .long (lN k))] (by decide +kernel) rfl (Nat.le_of_ble_eq_true rfl) ?_
  refine aw_lload_n 2 D_ri_stepsThatMatter_0 rfl rfl ?_
  refine aw_aload_n 0 D_ri_stepsThatMatter_1 rfl rfl ?_
  refine aw_get D_ri_stepsThatMatter_2 rfl rfl ?_
  refine aw_iload_n 1 D_ri_stepsThatMatter_5 rfl rfl ?_
  refine aw_ialdN D_ri_stepsThatMatter_6 rfl (by omega) (by omega) ?_
  first | with_reducible refine aw_i2lN D_ri_stepsThatMatter_7 (by omega) ?_ | refine aw_i2l D_ri_stepsThatMatter_7 ?_
  refine aw_lcmp D_ri_stepsThatMatter_8 ?_
  refine aw_if_gt D_ri_stepsThatMatter_9 (fun h => ?_) (fun h => ?_)
  · rw [lg_cmp_gt, pk_lLT (by omega) (by omega)] at h
    rw [if_neg (by omega)]
    refine aw_aload_n 0 D_ri_stepsThatMatter_15 rfl rfl ?_
    refine aw_get D_ri_stepsThatMatter_16 rfl rfl ?_
    refine aw_iload_n 1 D_ri_stepsThatMatter_19 rfl rfl ?_
    refine aw_ialdN D_ri_stepsThatMatter_20 rfl (by omega) (by omega) ?_
    refine aw_lload_n 2 D_ri_stepsThatMatter_21 rfl rfl ?_
    refine aw_aload_n 0 D_ri_stepsThatMatter_22 rfl rfl ?_
    refine aw_get D_ri_stepsThatMatter_23 rfl rfl ?_
    refine aw_iload_n 1 D_ri_stepsThatMatter_26 rfl rfl ?_
    refine aw_ialdN D_ri_stepsThatMatter_27 rfl (by omega) (by omega) ?_
    first | with_reducible refine aw_i2lN D_ri_stepsThatMatter_28 (by omega) ?_ | refine aw_i2l D_ri_stepsThatMatter_28 ?_
    first | with_reducible refine aw_lsubN D_ri_stepsThatMatter_29 (by omega) ?_ | refine aw_lsub D_ri_stepsThatMatter_29 ?_
    refine aw_aload_n 0 D_ri_stepsThatMatter_30 rfl rfl ?_
    refine aw_iload_n 1 D_ri_stepsThatMatter_31 rfl rfl ?_
    refine aw_callV1 (As := [_]) D_ri_stepsThatMatter_32 kv_ri_sizeAround (c_ri_around hn hn9 hb hF hs) rfl rfl rfl rfl rfl (Nat.le_of_ble_eq_true rfl) (Nat.zero_le _) (Nat.zero_le _) ?_
    first | with_reducible refine aw_i2lN D_ri_stepsThatMatter_35 (by omega) ?_ | refine aw_i2l D_ri_stepsThatMatter_35 ?_
    first | with_reducible refine aw_lremN D_ri_stepsThatMatter_36 (by omega) (by omega) (by omega) ?_ | refine aw_lrem D_ri_stepsThatMatter_36 (by decide) ?_
    first | with_reducible refine aw_l2iN D_ri_stepsThatMatter_37 ?_ | refine aw_l2i D_ri_stepsThatMatter_37 ?_
    first | with_reducible refine aw_iaddN D_ri_stepsThatMatter_38 ?_ | refine aw_iadd D_ri_stepsThatMatter_38 ?_
    refine aw_ireturn D_ri_stepsThatMatter_39 rfl rfl ?_
    exact ⟨rfl, rfl⟩
  · rw [lg_cmp_gt, pk_lLT (by omega) (by omega)] at h
    rw [if_pos (by omega)]
    refine aw_lload_n 2 D_ri_stepsThatMatter_12 rfl rfl ?_
    first | with_reducible refine aw_l2iN D_ri_stepsThatMatter_13 ?_ | refine aw_l2i D_ri_stepsThatMatter_13 ?_
    refine aw_ireturn D_ri_stepsThatMatter_14 rfl rfl ?_
    exact ⟨rfl, rfl⟩
theorem c_ri_onesOut {r : Nat} (hn : 2 ≤ n) (hn9 : n ≤ 9) (hb : ∀ k, b k ≤ 1) (hF : FT n b c pd st fa o be pc le sz) (hr : r < c) : AMet M_ri_countOnesOut [.ref 2, .ref 1, .int (nI r)] [mn, RG n N ch b bn, RI c pd st fa o be pc le sz wt qu, tr, sh, rr, mo, dy] (Ex (some (.int (nI (fb_sm (fun j => itr (nx n b) j (le r) % 2) (sz r))))) [mn, RG n N ch b bn, RI c pd st fa o be pc le sz wt qu, tr, sh, rr, mo, dy]) 0 0 := by
  have hp9 := pow_le9 hn9
  have hf := FT.hf (n := n) (b := b) (by omega) hb
  have hV := hF.2.1
  have hR := hV.R_le
  have h2 := hV.sz_le hf hr
  have hl := (hV.2.2.2.1 r hr).1
  refine AMet.of [(0, .ref 2), (1, .ref 1), (2, .int (nI r))] (by decide +kernel) rfl (Nat.le_of_ble_eq_true rfl) ?_
  have key : ∀ (m i : Nat), i + m = sz r → AW M_ri_countOnesOut noP (Zp (Ex (some (.int (nI (fb_sm (fun j => itr (nx n b) j (le r) % 2) (sz r))))) [mn, RG n N ch b bn, RI c pd st fa o be pc le sz wt qu, tr, sh, rr, mo, dy])) 0 0 13 [(0, .ref 2), (1, .ref 1), (2, .int (nI r)), (3, .int (nI (fb_sm (fun j => itr (nx n b) j (le r) % 2) i))), (4, .int (nI (itr (nx n b) i (le r)))), (5, .int (nI i))] [] [mn, RG n N ch b bn, RI c pd st fa o be pc le sz wt qu, tr, sh, rr, mo, dy] 0 0 := by
    intro m
    induction m with
    | zero =>
      intro i hi
      refine aw_iload D_ri_countOnesOut_13 rfl ?_
      refine aw_aload_n 0 D_ri_countOnesOut_15 rfl rfl ?_
      refine aw_get D_ri_countOnesOut_16 rfl rfl ?_
      refine aw_iload_n 2 D_ri_countOnesOut_19 rfl rfl ?_
      refine aw_ialdN D_ri_countOnesOut_20 rfl (by omega) (by omega) ?_
      refine aw_icmp_geN D_ri_countOnesOut_21 (by omega) (by omega) (fun h => ?_) (fun h => absurd h (by omega))
      refine aw_iload_n 3 D_ri_countOnesOut_45 rfl rfl ?_
      rw [show i = sz r by omega]
      refine aw_ireturn D_ri_countOnesOut_46 rfl rfl ?_
      exact ⟨rfl, rfl⟩
    | succ m ih =>
      intro i hi
      have hx := itr_lt hf i _ hl
      refine aw_iload D_ri_countOnesOut_13 rfl ?_
      refine aw_aload_n 0 D_ri_countOnesOut_15 rfl rfl ?_
      refine aw_get D_ri_countOnesOut_16 rfl rfl ?_
      refine aw_iload_n 2 D_ri_countOnesOut_19 rfl rfl ?_
      refine aw_ialdN D_ri_countOnesOut_20 rfl (by omega) (by omega) ?_
      refine aw_icmp_geN D_ri_countOnesOut_21 (by omega) (by omega) (fun h => absurd h (by omega)) (fun h => ?_)
      refine aw_iload_n 3 D_ri_countOnesOut_24 rfl rfl ?_
      refine aw_iload D_ri_countOnesOut_25 rfl ?_
      refine aw_iconst (nI 1) D_ri_countOnesOut_27 rfl ?_
      first | with_reducible refine aw_iandN D_ri_countOnesOut_28 ?_ | refine aw_iand D_ri_countOnesOut_28 ?_
      first | with_reducible refine aw_iaddN D_ri_countOnesOut_29 ?_ | refine aw_iadd D_ri_countOnesOut_29 ?_
      rw [Nat.and_one_is_mod]
      refine aw_istore_n 3 D_ri_countOnesOut_30 rfl (Nat.le_of_ble_eq_true rfl) rfl ?_
      refine aw_aload_n 1 D_ri_countOnesOut_31 rfl rfl ?_
      refine aw_iload D_ri_countOnesOut_32 rfl ?_
      refine aw_callV1 (As := [_]) D_ri_countOnesOut_34 kv_rg_next (c_rg_next (by omega) hn9 hx hb) rfl rfl rfl rfl rfl (Nat.le_of_ble_eq_true rfl) (Nat.zero_le _) (Nat.zero_le _) ?_
      refine aw_istore D_ri_countOnesOut_37 (Nat.le_of_ble_eq_true rfl) rfl ?_
      first | refine aw_incN D_ri_countOnesOut_39 rfl (Nat.le_of_ble_eq_true rfl) rfl ?_ | refine aw_inc D_ri_countOnesOut_39 rfl (Nat.le_of_ble_eq_true rfl) rfl ?_
      refine aw_goto D_ri_countOnesOut_42 ?_
      rw [← itr_succ (nx n b)]
      exact ih (i + 1) (by omega)
  refine aw_iconst (nI 0) D_ri_countOnesOut_0 rfl ?_
  refine aw_istore_n 3 D_ri_countOnesOut_1 rfl (Nat.le_of_ble_eq_true rfl) rfl ?_
  refine aw_aload_n 0 D_ri_countOnesOut_2 rfl rfl ?_
  refine aw_get D_ri_countOnesOut_3 rfl rfl ?_
  refine aw_iload_n 2 D_ri_countOnesOut_6 rfl rfl ?_
  refine aw_ialdN D_ri_countOnesOut_7 rfl (by omega) (by omega) ?_
  refine aw_istore D_ri_countOnesOut_8 (Nat.le_of_ble_eq_true rfl) rfl ?_
  refine aw_iconst (nI 0) D_ri_countOnesOut_10 rfl ?_
  refine aw_istore D_ri_countOnesOut_11 (Nat.le_of_ble_eq_true rfl) rfl ?_
  exact key (sz r) 0 (by omega)
theorem c_ri_behind {r : Nat} (hn : 2 ≤ n) (hn9 : n ≤ 9) (hN : N = 2 ^ n) (hb : ∀ k, b k ≤ 1) (hF : FT n b c pd st fa o be pc le sz) (hr : r < c) : AMet M_ri_countBehind [.ref 2, .ref 1, .int (nI r)] [mn, RG n N ch b bn, RI c pd st fa o be pc le sz wt qu, tr, sh, rr, mo, dy] (Ex (some (.int (nI (fb_ct (fun s => decide ((o s).getD 0 = r ∧ 0 < be s)) (2 ^ n))))) [mn, RG n N ch b bn, RI c pd st fa o be pc le sz wt qu, tr, sh, rr, mo, dy]) 0 0 := by
  have hp9 := pow_le9 hn9
  have hf := FT.hf (n := n) (b := b) (by omega) hb
  have hV := hF.2.1
  have hR := hV.R_le
  subst hN
  refine AMet.of [(0, .ref 2), (1, .ref 1), (2, .int (nI r))] (by decide +kernel) rfl (Nat.le_of_ble_eq_true rfl) ?_
  have key : ∀ (m i : Nat), i + m = 2 ^ n → AW M_ri_countBehind noP (Zp (Ex (some (.int (nI (fb_ct (fun s => decide ((o s).getD 0 = r ∧ 0 < be s)) (2 ^ n))))) [mn, RG n (2 ^ n) ch b bn, RI c pd st fa o be pc le sz wt qu, tr, sh, rr, mo, dy])) 0 0 5 [(0, .ref 2), (1, .ref 1), (2, .int (nI r)), (3, .int (nI (fb_ct (fun s => decide ((o s).getD 0 = r ∧ 0 < be s)) i))), (4, .int (nI i))] [] [mn, RG n (2 ^ n) ch b bn, RI c pd st fa o be pc le sz wt qu, tr, sh, rr, mo, dy] 0 0 := by
    intro m
    induction m with
    | zero =>
      intro i hi
      refine aw_iload D_ri_countBehind_5 rfl ?_
      refine aw_aload_n 1 D_ri_countBehind_7 rfl rfl ?_
      refine aw_get D_ri_countBehind_8 rfl rfl ?_
      refine aw_icmp_geN D_ri_countBehind_11 (by omega) (by omega) (fun h => ?_) (fun h => absurd h (by omega))
      refine aw_iload_n 3 D_ri_countBehind_44 rfl rfl ?_
      rw [show i = 2 ^ n by omega]
      refine aw_ireturn D_ri_countBehind_45 rfl rfl ?_
      exact ⟨rfl, rfl⟩
    | succ m ih =>
      intro i hi
      have hi2 : i < 2 ^ n := by omega
      have ho := oI_get (z := -nI 1) (hF.1 i hi2)
      have hri := hV.1 i hi2
      have hbl := hV.be_le hf hi2
      dsimp only at hri
      have hno : ¬ ((o i).getD 0 = r ∧ 0 < be i) → fb_ct (fun s => decide ((o s).getD 0 = r ∧ 0 < be s)) (i + 1) = fb_ct (fun s => decide ((o s).getD 0 = r ∧ 0 < be s)) i := fun z => by
        rw [fb_ct_succ, if_neg (by simpa using z)]; rfl
      refine aw_iload D_ri_countBehind_5 rfl ?_
      refine aw_aload_n 1 D_ri_countBehind_7 rfl rfl ?_
      refine aw_get D_ri_countBehind_8 rfl rfl ?_
      refine aw_icmp_geN D_ri_countBehind_11 (by omega) (by omega) (fun h => absurd h (by omega)) (fun h => ?_)
      refine aw_aload_n 0 D_ri_countBehind_14 rfl rfl ?_
      refine aw_get D_ri_countBehind_15 rfl rfl ?_
      refine aw_iload D_ri_countBehind_18 rfl ?_
      refine aw_ialdN D_ri_countBehind_20 rfl (by omega) (by omega) ?_
      refine aw_iload_n 2 D_ri_countBehind_21 rfl rfl ?_
      rw [show oF (-nI 1) o i = nI ((o i).getD 0) from ho]
      refine aw_icmp_neN D_ri_countBehind_22 (by omega) (by omega) (fun h3 => ?_) (fun h3 => ?_)
      · first | refine aw_incN D_ri_countBehind_38 rfl (Nat.le_of_ble_eq_true rfl) rfl ?_ | refine aw_inc D_ri_countBehind_38 rfl (Nat.le_of_ble_eq_true rfl) rfl ?_
        refine aw_goto D_ri_countBehind_41 ?_
        have := ih (i + 1) (by omega)
        rw [hno (fun z => h3 z.1)] at this
        exact this
      · refine aw_aload_n 0 D_ri_countBehind_25 rfl rfl ?_
        refine aw_get D_ri_countBehind_26 rfl rfl ?_
        refine aw_iload D_ri_countBehind_29 rfl ?_
        refine aw_ialdN D_ri_countBehind_31 rfl (by omega) (by omega) ?_
        refine aw_if_leN D_ri_countBehind_32 (by omega) (fun h4 => ?_) (fun h4 => ?_)
        · first | refine aw_incN D_ri_countBehind_38 rfl (Nat.le_of_ble_eq_true rfl) rfl ?_ | refine aw_inc D_ri_countBehind_38 rfl (Nat.le_of_ble_eq_true rfl) rfl ?_
          refine aw_goto D_ri_countBehind_41 ?_
          have := ih (i + 1) (by omega)
          rw [hno (fun z => by omega)] at this
          exact this
        · first | refine aw_incN D_ri_countBehind_35 rfl (Nat.le_of_ble_eq_true rfl) rfl ?_ | refine aw_inc D_ri_countBehind_35 rfl (Nat.le_of_ble_eq_true rfl) rfl ?_
          first | refine aw_incN D_ri_countBehind_38 rfl (Nat.le_of_ble_eq_true rfl) rfl ?_ | refine aw_inc D_ri_countBehind_38 rfl (Nat.le_of_ble_eq_true rfl) rfl ?_
          refine aw_goto D_ri_countBehind_41 ?_
          have := ih (i + 1) (by omega)
          rw [fb_ct_succ, if_pos (decide_eq_true ⟨h3, h4⟩)] at this
          exact this
  refine aw_iconst (nI 0) D_ri_countBehind_0 rfl ?_
  refine aw_istore_n 3 D_ri_countBehind_1 rfl (Nat.le_of_ble_eq_true rfl) rfl ?_
  refine aw_iconst (nI 0) D_ri_countBehind_2 rfl ?_
  refine aw_istore D_ri_countBehind_3 (Nat.le_of_ble_eq_true rfl) rfl ?_
  exact key (2 ^ n) 0 (by omega)
/-- how far a ring goes with itself, j steps on -/
def alike (f : Nat → Nat) (a d : Nat) : Nat → Int32
  | 0 => nI 0
  | i + 1 => alike f a d i + (if itr f i a % 2 = itr f i d % 2 then nI 1 else -nI 1)
theorem c_ri_like {r d : Nat} (hn : 2 ≤ n) (hn9 : n ≤ 9) (hb : ∀ k, b k ≤ 1) (hF : FT n b c pd st fa o be pc le sz) (hr : r < c) (hd : d < 2 ^ 31) : AMet M_ri_likeness [.ref 2, .ref 1, .int (nI r), .int (nI d)] [mn, RG n N ch b bn, RI c pd st fa o be pc le sz wt qu, tr, sh, rr, mo, dy] (Ex (some (.int (alike (nx n b) (le r) (itr (nx n b) d (le r)) (sz r)))) [mn, RG n N ch b bn, RI c pd st fa o be pc le sz wt qu, tr, sh, rr, mo, dy]) 0 0 := by
  have hp9 := pow_le9 hn9
  have hf := FT.hf (n := n) (b := b) (by omega) hb
  have hV := hF.2.1
  have hR := hV.R_le
  have h2 := hV.sz_le hf hr
  obtain ⟨hl, h1, h3, h4⟩ := hV.2.2.2.1 r hr
  have hro : (o (le r)).getD 0 = r := (h4 0 (by omega)).2.1
  have hmod := itr_mod h3 d
  have hdl := itr_lt hf d _ hl
  have hml := Nat.mod_lt d (show 0 < sz r by omega)
  refine AMet.of [(0, .ref 2), (1, .ref 1), (2, .int (nI r)), (3, .int (nI d))] (by decide +kernel) rfl (Nat.le_of_ble_eq_true rfl) ?_
  have key : ∀ (m i : Nat), i + m = sz r → AW M_ri_likeness noP (Zp (Ex (some (.int (alike (nx n b) (le r) (itr (nx n b) d (le r)) (sz r)))) [mn, RG n N ch b bn, RI c pd st fa o be pc le sz wt qu, tr, sh, rr, mo, dy])) 0 0 30 [(0, .ref 2), (1, .ref 1), (2, .int (nI r)), (3, .int (nI d)), (4, .int (nI (itr (nx n b) i (le r)))), (5, .int (nI (itr (nx n b) i (itr (nx n b) d (le r))))), (6, .int (alike (nx n b) (le r) (itr (nx n b) d (le r)) i)), (7, .int (nI i))] [] [mn, RG n N ch b bn, RI c pd st fa o be pc le sz wt qu, tr, sh, rr, mo, dy] 0 0 := by
    intro m
    induction m with
    | zero =>
      intro i hi
      refine aw_iload D_ri_likeness_30 rfl ?_
      refine aw_aload_n 0 D_ri_likeness_32 rfl rfl ?_
      refine aw_get D_ri_likeness_33 rfl rfl ?_
      refine aw_iload_n 2 D_ri_likeness_36 rfl rfl ?_
      refine aw_ialdN D_ri_likeness_37 rfl (by omega) (by omega) ?_
      refine aw_icmp_geN D_ri_likeness_38 (by omega) (by omega) (fun h => ?_) (fun h => absurd h (by omega))
      refine aw_iload D_ri_likeness_84 rfl ?_
      rw [show i = sz r by omega]
      refine aw_ireturn D_ri_likeness_86 rfl rfl ?_
      exact ⟨rfl, rfl⟩
    | succ m ih =>
      intro i hi
      have hx := itr_lt hf i _ hl
      have hy := itr_lt hf i _ hdl
      refine aw_iload D_ri_likeness_30 rfl ?_
      refine aw_aload_n 0 D_ri_likeness_32 rfl rfl ?_
      refine aw_get D_ri_likeness_33 rfl rfl ?_
      refine aw_iload_n 2 D_ri_likeness_36 rfl rfl ?_
      refine aw_ialdN D_ri_likeness_37 rfl (by omega) (by omega) ?_
      refine aw_icmp_geN D_ri_likeness_38 (by omega) (by omega) (fun h => absurd h (by omega)) (fun h => ?_)
      refine aw_iload D_ri_likeness_41 rfl ?_
      refine aw_iload D_ri_likeness_43 rfl ?_
      refine aw_iconst (nI 1) D_ri_likeness_45 rfl ?_
      first | with_reducible refine aw_iandN D_ri_likeness_46 ?_ | refine aw_iand D_ri_likeness_46 ?_
      refine aw_iload D_ri_likeness_47 rfl ?_
      refine aw_iconst (nI 1) D_ri_likeness_49 rfl ?_
      first | with_reducible refine aw_iandN D_ri_likeness_50 ?_ | refine aw_iand D_ri_likeness_50 ?_
      rw [Nat.and_one_is_mod, Nat.and_one_is_mod]
      have hend : ∀ z : Int32, z = (if itr (nx n b) i (le r) % 2 = itr (nx n b) i (itr (nx n b) d (le r)) % 2 then nI 1 else -nI 1) → AW M_ri_likeness noP (Zp (Ex (some (.int (alike (nx n b) (le r) (itr (nx n b) d (le r)) (sz r)))) [mn, RG n N ch b bn, RI c pd st fa o be pc le sz wt qu, tr, sh, rr, mo, dy])) 0 0 59 [(0, .ref 2), (1, .ref 1), (2, .int (nI r)), (3, .int (nI d)), (4, .int (nI (itr (nx n b) i (le r)))), (5, .int (nI (itr (nx n b) i (itr (nx n b) d (le r))))), (6, .int (alike (nx n b) (le r) (itr (nx n b) d (le r)) i)), (7, .int (nI i))] [.int z, .int (alike (nx n b) (le r) (itr (nx n b) d (le r)) i)] [mn, RG n N ch b bn, RI c pd st fa o be pc le sz wt qu, tr, sh, rr, mo, dy] 0 0 := by
        intro z hz
        refine aw_iadd D_ri_likeness_59 ?_
        refine aw_istore D_ri_likeness_60 (Nat.le_of_ble_eq_true rfl) rfl ?_
        refine aw_aload_n 1 D_ri_likeness_62 rfl rfl ?_
        refine aw_iload D_ri_likeness_63 rfl ?_
        refine aw_callV1 (As := [_]) D_ri_likeness_65 kv_rg_next (c_rg_next (by omega) hn9 hx hb) rfl rfl rfl rfl rfl (Nat.le_of_ble_eq_true rfl) (Nat.zero_le _) (Nat.zero_le _) ?_
        refine aw_istore D_ri_likeness_68 (Nat.le_of_ble_eq_true rfl) rfl ?_
        refine aw_aload_n 1 D_ri_likeness_70 rfl rfl ?_
        refine aw_iload D_ri_likeness_71 rfl ?_
        refine aw_callV1 (As := [_]) D_ri_likeness_73 kv_rg_next (c_rg_next (by omega) hn9 hy hb) rfl rfl rfl rfl rfl (Nat.le_of_ble_eq_true rfl) (Nat.zero_le _) (Nat.zero_le _) ?_
        refine aw_istore D_ri_likeness_76 (Nat.le_of_ble_eq_true rfl) rfl ?_
        first | refine aw_incN D_ri_likeness_78 rfl (Nat.le_of_ble_eq_true rfl) rfl ?_ | refine aw_inc D_ri_likeness_78 rfl (Nat.le_of_ble_eq_true rfl) rfl ?_
        refine aw_goto D_ri_likeness_81 ?_
        rw [← itr_succ (nx n b), ← itr_succ (nx n b), hz]
        exact ih (i + 1) (by omega)
      refine aw_icmp_neN D_ri_likeness_51 (by omega) (by omega) (fun h5 => ?_) (fun h5 => ?_)
      · refine aw_iconst (-nI 1) D_ri_likeness_58 rfl ?_
        exact hend _ (by rw [if_neg h5])
      · refine aw_iconst (nI 1) D_ri_likeness_54 rfl ?_
        refine aw_goto D_ri_likeness_55 ?_
        exact hend _ (by rw [if_pos h5])
  refine aw_aload_n 0 D_ri_likeness_0 rfl rfl ?_
  refine aw_get D_ri_likeness_1 rfl rfl ?_
  refine aw_iload_n 2 D_ri_likeness_4 rfl rfl ?_
  refine aw_ialdN D_ri_likeness_5 rfl (by omega) (by omega) ?_
  refine aw_istore D_ri_likeness_6 (Nat.le_of_ble_eq_true rfl) rfl ?_
  refine aw_aload_n 1 D_ri_likeness_8 rfl rfl ?_
  refine aw_iload D_ri_likeness_9 rfl ?_
  refine aw_iload_n 3 D_ri_likeness_11 rfl rfl ?_
  refine aw_aload_n 0 D_ri_likeness_12 rfl rfl ?_
  refine aw_iload D_ri_likeness_13 rfl ?_
  refine aw_callV1 (As := [_]) D_ri_likeness_15 kv_ri_sizeAround (c_ri_around hn hn9 hb hF hl) rfl rfl rfl rfl rfl (Nat.le_of_ble_eq_true rfl) (Nat.zero_le _) (Nat.zero_le _) ?_
  rw [hro]
  first | with_reducible refine aw_iremN D_ri_likeness_18 (by omega) (by omega) (by omega) ?_ | refine aw_irem D_ri_likeness_18 (by decide) ?_
  refine aw_callV1 (As := [_, _]) D_ri_likeness_19 kv_rg_walk (c_rg_walk (by omega) hn9 hl hb (by omega)) rfl rfl rfl rfl rfl (Nat.le_of_ble_eq_true rfl) (Nat.zero_le _) (Nat.zero_le _) ?_
  rw [hmod]
  refine aw_istore D_ri_likeness_22 (Nat.le_of_ble_eq_true rfl) rfl ?_
  refine aw_iconst (nI 0) D_ri_likeness_24 rfl ?_
  refine aw_istore D_ri_likeness_25 (Nat.le_of_ble_eq_true rfl) rfl ?_
  refine aw_iconst (nI 0) D_ri_likeness_27 rfl ?_
  refine aw_istore D_ri_likeness_28 (Nat.le_of_ble_eq_true rfl) rfl ?_
  exact key (sz r) 0 (by omega)
end Rings3
end
