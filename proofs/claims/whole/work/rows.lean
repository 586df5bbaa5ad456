section
-- ===== PART A: goes FIRST, ahead of the names: the tables' words, and 'selects' of the private methods out of them =====
/-- a private method of a class that the tables say can be made, by its rows of tables_1 -/
def lw_okq (q : MethodName × Nat) : Prop := (q.1.cls ≠ "java/lang/invoke/MethodHandle" ∧ q.1.cls ≠ "java/lang/invoke/VarHandle") ∧ Cond.instantiable q.1.cls q.2 ∈ tables_1 ∧ Cond.privateMethod q.1 ∈ tables_1 ∧ Cond.instanceMethod q.1 ∈ tables_1
theorem lw_p0 : lw_okq (⟨"BitRings", "faulted", "(I)I"⟩, 7) := ⟨⟨by decide +kernel, by decide +kernel⟩, List.mem_of_getElem? (i := 13) (by decide +kernel), List.mem_of_getElem? (i := 243) (by decide +kernel), List.mem_of_getElem? (i := 244) (by decide +kernel)⟩
theorem lw_p1 : lw_okq (⟨"BitRings", "foundRings", "()LBitRings$Rings;"⟩, 7) := ⟨⟨by decide +kernel, by decide +kernel⟩, List.mem_of_getElem? (i := 13) (by decide +kernel), List.mem_of_getElem? (i := 271) (by decide +kernel), List.mem_of_getElem? (i := 272) (by decide +kernel)⟩
theorem lw_p2 : lw_okq (⟨"BitRings$Rings", "peel", "(LBitRings$Register;)V"⟩, 11) := ⟨⟨by decide +kernel, by decide +kernel⟩, List.mem_of_getElem? (i := 50) (by decide +kernel), List.mem_of_getElem? (i := 279) (by decide +kernel), List.mem_of_getElem? (i := 280) (by decide +kernel)⟩
theorem lw_p3 : lw_okq (⟨"BitRings$Rings", "nameRings", "(LBitRings$Register;)V"⟩, 11) := ⟨⟨by decide +kernel, by decide +kernel⟩, List.mem_of_getElem? (i := 50) (by decide +kernel), List.mem_of_getElem? (i := 299) (by decide +kernel), List.mem_of_getElem? (i := 300) (by decide +kernel)⟩
theorem lw_p4 : lw_okq (⟨"BitRings$Rings", "nameRing", "(LBitRings$Register;I)V"⟩, 11) := ⟨⟨by decide +kernel, by decide +kernel⟩, List.mem_of_getElem? (i := 50) (by decide +kernel), List.mem_of_getElem? (i := 303) (by decide +kernel), List.mem_of_getElem? (i := 304) (by decide +kernel)⟩
theorem lw_p5 : lw_okq (⟨"BitRings$Rings", "nameBehind", "(LBitRings$Register;)V"⟩, 11) := ⟨⟨by decide +kernel, by decide +kernel⟩, List.mem_of_getElem? (i := 50) (by decide +kernel), List.mem_of_getElem? (i := 307) (by decide +kernel), List.mem_of_getElem? (i := 308) (by decide +kernel)⟩
theorem lw_p6 : lw_okq (⟨"BitRings$Trees", "clear", "()V"⟩, 2) := ⟨⟨by decide +kernel, by decide +kernel⟩, List.mem_of_getElem? (i := 101) (by decide +kernel), List.mem_of_getElem? (i := 391) (by decide +kernel), List.mem_of_getElem? (i := 392) (by decide +kernel)⟩
theorem lw_p7 : lw_okq (⟨"BitRings$Trees", "addPair", "(II)V"⟩, 2) := ⟨⟨by decide +kernel, by decide +kernel⟩, List.mem_of_getElem? (i := 101) (by decide +kernel), List.mem_of_getElem? (i := 398) (by decide +kernel), List.mem_of_getElem? (i := 399) (by decide +kernel)⟩
theorem lw_p8 : lw_okq (⟨"BitRings$Trees", "add", "(IIJ)V"⟩, 2) := ⟨⟨by decide +kernel, by decide +kernel⟩, List.mem_of_getElem? (i := 101) (by decide +kernel), List.mem_of_getElem? (i := 402) (by decide +kernel), List.mem_of_getElem? (i := 403) (by decide +kernel)⟩
theorem lw_p9 : lw_okq (⟨"BitRings$Trees", "determinant", "()J"⟩, 2) := ⟨⟨by decide +kernel, by decide +kernel⟩, List.mem_of_getElem? (i := 101) (by decide +kernel), List.mem_of_getElem? (i := 408) (by decide +kernel), List.mem_of_getElem? (i := 409) (by decide +kernel)⟩
theorem lw_p10 : lw_okq (⟨"BitRings$Trees", "pivotRow", "(I)I"⟩, 2) := ⟨⟨by decide +kernel, by decide +kernel⟩, List.mem_of_getElem? (i := 101) (by decide +kernel), List.mem_of_getElem? (i := 412) (by decide +kernel), List.mem_of_getElem? (i := 413) (by decide +kernel)⟩
theorem lw_p11 : lw_okq (⟨"BitRings$Trees", "swapRows", "(II)V"⟩, 2) := ⟨⟨by decide +kernel, by decide +kernel⟩, List.mem_of_getElem? (i := 101) (by decide +kernel), List.mem_of_getElem? (i := 416) (by decide +kernel), List.mem_of_getElem? (i := 417) (by decide +kernel)⟩
theorem lw_p12 : lw_okq (⟨"BitRings$Trees", "clearBelow", "(IJ)V"⟩, 2) := ⟨⟨by decide +kernel, by decide +kernel⟩, List.mem_of_getElem? (i := 101) (by decide +kernel), List.mem_of_getElem? (i := 424) (by decide +kernel), List.mem_of_getElem? (i := 425) (by decide +kernel)⟩
theorem lw_p13 : lw_okq (⟨"BitRings", "refusedBits", "(II)I"⟩, 7) := ⟨⟨by decide +kernel, by decide +kernel⟩, List.mem_of_getElem? (i := 13) (by decide +kernel), List.mem_of_getElem? (i := 495) (by decide +kernel), List.mem_of_getElem? (i := 496) (by decide +kernel)⟩
theorem lw_p14 : lw_okq (⟨"BitRings", "refusedRow", "(I)I"⟩, 7) := ⟨⟨by decide +kernel, by decide +kernel⟩, List.mem_of_getElem? (i := 13) (by decide +kernel), List.mem_of_getElem? (i := 499) (by decide +kernel), List.mem_of_getElem? (i := 500) (by decide +kernel)⟩
theorem lw_p15 : lw_okq (⟨"BitRings$RowReader", "ruleFails", "()Z"⟩, 6) := ⟨⟨by decide +kernel, by decide +kernel⟩, List.mem_of_getElem? (i := 137) (by decide +kernel), List.mem_of_getElem? (i := 512) (by decide +kernel), List.mem_of_getElem? (i := 513) (by decide +kernel)⟩
def lw_privs_1 : List (MethodName × Nat) := [(⟨"BitRings", "faulted", "(I)I"⟩, 7), (⟨"BitRings", "foundRings", "()LBitRings$Rings;"⟩, 7), (⟨"BitRings$Rings", "peel", "(LBitRings$Register;)V"⟩, 11), (⟨"BitRings$Rings", "nameRings", "(LBitRings$Register;)V"⟩, 11), (⟨"BitRings$Rings", "nameRing", "(LBitRings$Register;I)V"⟩, 11), (⟨"BitRings$Rings", "nameBehind", "(LBitRings$Register;)V"⟩, 11), (⟨"BitRings$Trees", "clear", "()V"⟩, 2), (⟨"BitRings$Trees", "addPair", "(II)V"⟩, 2), (⟨"BitRings$Trees", "add", "(IIJ)V"⟩, 2), (⟨"BitRings$Trees", "determinant", "()J"⟩, 2), (⟨"BitRings$Trees", "pivotRow", "(I)I"⟩, 2), (⟨"BitRings$Trees", "swapRows", "(II)V"⟩, 2), (⟨"BitRings$Trees", "clearBelow", "(IJ)V"⟩, 2), (⟨"BitRings", "refusedBits", "(II)I"⟩, 7), (⟨"BitRings", "refusedRow", "(I)I"⟩, 7), (⟨"BitRings$RowReader", "ruleFails", "()Z"⟩, 6)]
theorem lw_r1 : ∀ q ∈ lw_privs_1, lw_okq q := List.forall_mem_cons.mpr ⟨lw_p0, List.forall_mem_cons.mpr ⟨lw_p1, List.forall_mem_cons.mpr ⟨lw_p2, List.forall_mem_cons.mpr ⟨lw_p3, List.forall_mem_cons.mpr ⟨lw_p4, List.forall_mem_cons.mpr ⟨lw_p5, List.forall_mem_cons.mpr ⟨lw_p6, List.forall_mem_cons.mpr ⟨lw_p7, List.forall_mem_cons.mpr ⟨lw_p8, List.forall_mem_cons.mpr ⟨lw_p9, List.forall_mem_cons.mpr ⟨lw_p10, List.forall_mem_cons.mpr ⟨lw_p11, List.forall_mem_cons.mpr ⟨lw_p12, List.forall_mem_cons.mpr ⟨lw_p13, List.forall_mem_cons.mpr ⟨lw_p14, List.forall_mem_cons.mpr ⟨lw_p15, fun _ h => absurd h List.not_mem_nil⟩⟩⟩⟩⟩⟩⟩⟩⟩⟩⟩⟩⟩⟩⟩⟩
theorem lw_p16 : lw_okq (⟨"BitRings$RowReader", "correctRule", "(Z)V"⟩, 6) := ⟨⟨by decide +kernel, by decide +kernel⟩, List.mem_of_getElem? (i := 137) (by decide +kernel), List.mem_of_getElem? (i := 522) (by decide +kernel), List.mem_of_getElem? (i := 523) (by decide +kernel)⟩
theorem lw_p17 : lw_okq (⟨"BitRings$RowReader", "splitMarks", "(LBitRings$Sheet;II)Z"⟩, 6) := ⟨⟨by decide +kernel, by decide +kernel⟩, List.mem_of_getElem? (i := 137) (by decide +kernel), List.mem_of_getElem? (i := 535) (by decide +kernel), List.mem_of_getElem? (i := 536) (by decide +kernel)⟩
theorem lw_p18 : lw_okq (⟨"BitRings", "tellBehind", "(I)I"⟩, 7) := ⟨⟨by decide +kernel, by decide +kernel⟩, List.mem_of_getElem? (i := 13) (by decide +kernel), List.mem_of_getElem? (i := 580) (by decide +kernel), List.mem_of_getElem? (i := 581) (by decide +kernel)⟩
theorem lw_p19 : lw_okq (⟨"BitRings", "leave", "(I)V"⟩, 7) := ⟨⟨by decide +kernel, by decide +kernel⟩, List.mem_of_getElem? (i := 13) (by decide +kernel), List.mem_of_getElem? (i := 584) (by decide +kernel), List.mem_of_getElem? (i := 585) (by decide +kernel)⟩
theorem lw_p20 : lw_okq (⟨"BitRings", "tellAlone", "()I"⟩, 7) := ⟨⟨by decide +kernel, by decide +kernel⟩, List.mem_of_getElem? (i := 13) (by decide +kernel), List.mem_of_getElem? (i := 588) (by decide +kernel), List.mem_of_getElem? (i := 589) (by decide +kernel)⟩
theorem lw_p21 : lw_okq (⟨"BitRings", "tellLonger", "(I)I"⟩, 7) := ⟨⟨by decide +kernel, by decide +kernel⟩, List.mem_of_getElem? (i := 13) (by decide +kernel), List.mem_of_getElem? (i := 593) (by decide +kernel), List.mem_of_getElem? (i := 594) (by decide +kernel)⟩
theorem lw_p22 : lw_okq (⟨"BitRings", "weighBehind", "()I"⟩, 7) := ⟨⟨by decide +kernel, by decide +kernel⟩, List.mem_of_getElem? (i := 13) (by decide +kernel), List.mem_of_getElem? (i := 601) (by decide +kernel), List.mem_of_getElem? (i := 602) (by decide +kernel)⟩
theorem lw_p23 : lw_okq (⟨"BitRings", "weighLent", "(I)I"⟩, 7) := ⟨⟨by decide +kernel, by decide +kernel⟩, List.mem_of_getElem? (i := 13) (by decide +kernel), List.mem_of_getElem? (i := 605) (by decide +kernel), List.mem_of_getElem? (i := 606) (by decide +kernel)⟩
theorem lw_p24 : lw_okq (⟨"BitRingsModel", "isState", "(I)Z"⟩, 21) := ⟨⟨by decide +kernel, by decide +kernel⟩, List.mem_of_getElem? (i := 621) (by decide +kernel), List.mem_of_getElem? (i := 705) (by decide +kernel), List.mem_of_getElem? (i := 706) (by decide +kernel)⟩
theorem lw_p25 : lw_okq (⟨"BitRingsModel", "states", "()I"⟩, 21) := ⟨⟨by decide +kernel, by decide +kernel⟩, List.mem_of_getElem? (i := 621) (by decide +kernel), List.mem_of_getElem? (i := 709) (by decide +kernel), List.mem_of_getElem? (i := 710) (by decide +kernel)⟩
theorem lw_p26 : lw_okq (⟨"BitRingsModel", "ones", "()I"⟩, 21) := ⟨⟨by decide +kernel, by decide +kernel⟩, List.mem_of_getElem? (i := 621) (by decide +kernel), List.mem_of_getElem? (i := 717) (by decide +kernel), List.mem_of_getElem? (i := 718) (by decide +kernel)⟩
theorem lw_p27 : lw_okq (⟨"BitRingsModel", "fails", "(I)I"⟩, 21) := ⟨⟨by decide +kernel, by decide +kernel⟩, List.mem_of_getElem? (i := 621) (by decide +kernel), List.mem_of_getElem? (i := 728) (by decide +kernel), List.mem_of_getElem? (i := 729) (by decide +kernel)⟩
theorem lw_p28 : lw_okq (⟨"BitRingsModel", "bit", "(II)I"⟩, 21) := ⟨⟨by decide +kernel, by decide +kernel⟩, List.mem_of_getElem? (i := 621) (by decide +kernel), List.mem_of_getElem? (i := 732) (by decide +kernel), List.mem_of_getElem? (i := 733) (by decide +kernel)⟩
theorem lw_p29 : lw_okq (⟨"BitRingsModel", "find", "()V"⟩, 21) := ⟨⟨by decide +kernel, by decide +kernel⟩, List.mem_of_getElem? (i := 621) (by decide +kernel), List.mem_of_getElem? (i := 744) (by decide +kernel), List.mem_of_getElem? (i := 745) (by decide +kernel)⟩
theorem lw_p30 : lw_okq (⟨"BitRingsModel", "next", "(I)I"⟩, 21) := ⟨⟨by decide +kernel, by decide +kernel⟩, List.mem_of_getElem? (i := 621) (by decide +kernel), List.mem_of_getElem? (i := 748) (by decide +kernel), List.mem_of_getElem? (i := 749) (by decide +kernel)⟩
theorem lw_p31 : lw_okq (⟨"BitRingsModel", "isPure", "()Z"⟩, 21) := ⟨⟨by decide +kernel, by decide +kernel⟩, List.mem_of_getElem? (i := 621) (by decide +kernel), List.mem_of_getElem? (i := 769) (by decide +kernel), List.mem_of_getElem? (i := 770) (by decide +kernel)⟩
def lw_privs_2 : List (MethodName × Nat) := [(⟨"BitRings$RowReader", "correctRule", "(Z)V"⟩, 6), (⟨"BitRings$RowReader", "splitMarks", "(LBitRings$Sheet;II)Z"⟩, 6), (⟨"BitRings", "tellBehind", "(I)I"⟩, 7), (⟨"BitRings", "leave", "(I)V"⟩, 7), (⟨"BitRings", "tellAlone", "()I"⟩, 7), (⟨"BitRings", "tellLonger", "(I)I"⟩, 7), (⟨"BitRings", "weighBehind", "()I"⟩, 7), (⟨"BitRings", "weighLent", "(I)I"⟩, 7), (⟨"BitRingsModel", "isState", "(I)Z"⟩, 21), (⟨"BitRingsModel", "states", "()I"⟩, 21), (⟨"BitRingsModel", "ones", "()I"⟩, 21), (⟨"BitRingsModel", "fails", "(I)I"⟩, 21), (⟨"BitRingsModel", "bit", "(II)I"⟩, 21), (⟨"BitRingsModel", "find", "()V"⟩, 21), (⟨"BitRingsModel", "next", "(I)I"⟩, 21), (⟨"BitRingsModel", "isPure", "()Z"⟩, 21)]
theorem lw_r2 : ∀ q ∈ lw_privs_2, lw_okq q := List.forall_mem_cons.mpr ⟨lw_p16, List.forall_mem_cons.mpr ⟨lw_p17, List.forall_mem_cons.mpr ⟨lw_p18, List.forall_mem_cons.mpr ⟨lw_p19, List.forall_mem_cons.mpr ⟨lw_p20, List.forall_mem_cons.mpr ⟨lw_p21, List.forall_mem_cons.mpr ⟨lw_p22, List.forall_mem_cons.mpr ⟨lw_p23, List.forall_mem_cons.mpr ⟨lw_p24, List.forall_mem_cons.mpr ⟨lw_p25, List.forall_mem_cons.mpr ⟨lw_p26, List.forall_mem_cons.mpr ⟨lw_p27, List.forall_mem_cons.mpr ⟨lw_p28, List.forall_mem_cons.mpr ⟨lw_p29, List.forall_mem_cons.mpr ⟨lw_p30, List.forall_mem_cons.mpr ⟨lw_p31, fun _ h => absurd h List.not_mem_nil⟩⟩⟩⟩⟩⟩⟩⟩⟩⟩⟩⟩⟩⟩⟩⟩
theorem lw_p32 : lw_okq (⟨"BitRingsModel", "turnPair", "(I)V"⟩, 21) := ⟨⟨by decide +kernel, by decide +kernel⟩, List.mem_of_getElem? (i := 621) (by decide +kernel), List.mem_of_getElem? (i := 778) (by decide +kernel), List.mem_of_getElem? (i := 779) (by decide +kernel)⟩
theorem lw_p33 : lw_okq (⟨"BitRingsModel", "addTo", "(IIIJ)V"⟩, 21) := ⟨⟨by decide +kernel, by decide +kernel⟩, List.mem_of_getElem? (i := 621) (by decide +kernel), List.mem_of_getElem? (i := 790) (by decide +kernel), List.mem_of_getElem? (i := 791) (by decide +kernel)⟩
theorem lw_p34 : lw_okq (⟨"BitRingsModel", "determinant", "(I)I"⟩, 21) := ⟨⟨by decide +kernel, by decide +kernel⟩, List.mem_of_getElem? (i := 621) (by decide +kernel), List.mem_of_getElem? (i := 795) (by decide +kernel), List.mem_of_getElem? (i := 796) (by decide +kernel)⟩
theorem lw_p35 : lw_okq (⟨"BitRingsModel", "lost", "(I)J"⟩, 21) := ⟨⟨by decide +kernel, by decide +kernel⟩, List.mem_of_getElem? (i := 621) (by decide +kernel), List.mem_of_getElem? (i := 824) (by decide +kernel), List.mem_of_getElem? (i := 825) (by decide +kernel)⟩
theorem lw_p36 : lw_okq (⟨"BitRingsModel", "againstBits", "(II)I"⟩, 21) := ⟨⟨by decide +kernel, by decide +kernel⟩, List.mem_of_getElem? (i := 621) (by decide +kernel), List.mem_of_getElem? (i := 845) (by decide +kernel), List.mem_of_getElem? (i := 846) (by decide +kernel)⟩
theorem lw_p37 : lw_okq (⟨"BitRingsModel", "greatestOf", "(II)I"⟩, 21) := ⟨⟨by decide +kernel, by decide +kernel⟩, List.mem_of_getElem? (i := 621) (by decide +kernel), List.mem_of_getElem? (i := 853) (by decide +kernel), List.mem_of_getElem? (i := 854) (by decide +kernel)⟩
theorem lw_p38 : lw_okq (⟨"BitRingsModel", "begins", "(I)V"⟩, 21) := ⟨⟨by decide +kernel, by decide +kernel⟩, List.mem_of_getElem? (i := 621) (by decide +kernel), List.mem_of_getElem? (i := 875) (by decide +kernel), List.mem_of_getElem? (i := 876) (by decide +kernel)⟩
def lw_privs_3 : List (MethodName × Nat) := [(⟨"BitRingsModel", "turnPair", "(I)V"⟩, 21), (⟨"BitRingsModel", "addTo", "(IIIJ)V"⟩, 21), (⟨"BitRingsModel", "determinant", "(I)I"⟩, 21), (⟨"BitRingsModel", "lost", "(I)J"⟩, 21), (⟨"BitRingsModel", "againstBits", "(II)I"⟩, 21), (⟨"BitRingsModel", "greatestOf", "(II)I"⟩, 21), (⟨"BitRingsModel", "begins", "(I)V"⟩, 21)]
theorem lw_r3 : ∀ q ∈ lw_privs_3, lw_okq q := List.forall_mem_cons.mpr ⟨lw_p32, List.forall_mem_cons.mpr ⟨lw_p33, List.forall_mem_cons.mpr ⟨lw_p34, List.forall_mem_cons.mpr ⟨lw_p35, List.forall_mem_cons.mpr ⟨lw_p36, List.forall_mem_cons.mpr ⟨lw_p37, List.forall_mem_cons.mpr ⟨lw_p38, fun _ h => absurd h List.not_mem_nil⟩⟩⟩⟩⟩⟩⟩
def lw_privs : List (MethodName × Nat) := lw_privs_1 ++ (lw_privs_2 ++ (lw_privs_3))
def lw_tbl : List Cond := k2_sels lw_privs ++ tables_1
theorem lw_privs_ok : ∀ q ∈ lw_privs, lw_okq q := by
  show ∀ q ∈ lw_privs_1 ++ (lw_privs_2 ++ (lw_privs_3)), lw_okq q
  exact List.forall_mem_append.mpr ⟨lw_r1, List.forall_mem_append.mpr ⟨lw_r2, lw_r3⟩⟩
end
section
/-! names, tables and methods, by program (wip/whole/gennames.py) out of claim/NAMES.whole.lean.txt -/
abbrev R_rg : String := "BitRings$Register"
def T_rg : u_T := fun k => match k with
  | 0 => ("BitRings$Register", "bitCount", "I", false)
  | 1 => ("BitRings$Register", "states", "I", false)
  | 2 => ("BitRings$Register", "changed", "Z", false)
  | 3 => ("BitRings$Register", "bits", "[I", true)
  | _ => ("BitRings$Register", "been", "[I", true)
def ty_rg : Nat → FieldType := fun k => match k with
  | 0 => .int
  | 1 => .int
  | 2 => .boolean
  | 3 => .array .int
  | _ => .array .int
theorem nm_rg : ∀ a, a < 5 → ∀ b, b < 5 → a ≠ b → (T_rg a).2.1 ≠ (T_rg b).2.1 := by decide +kernel
theorem ty_rg_ok : ∀ k, k < 5 → parseFieldDescriptor (T_rg k).2.2.1 = some (ty_rg k) := by decide +kernel
abbrev R_ri : String := "BitRings$Rings"
def T_ri : u_T := fun k => match k with
  | 0 => ("BitRings$Rings", "count", "I", false)
  | 1 => ("BitRings$Rings", "peeled", "I", false)
  | 2 => ("BitRings$Rings", "starts", "I", false)
  | 3 => ("BitRings$Rings", "farthest", "I", false)
  | 4 => ("BitRings$Rings", "ringOf", "[I", true)
  | 5 => ("BitRings$Rings", "behind", "[I", true)
  | 6 => ("BitRings$Rings", "place", "[I", true)
  | 7 => ("BitRings$Rings", "least", "[I", true)
  | 8 => ("BitRings$Rings", "size", "[I", true)
  | 9 => ("BitRings$Rings", "waits", "[I", true)
  | _ => ("BitRings$Rings", "queue", "[I", true)
def ty_ri : Nat → FieldType := fun k => match k with
  | 0 => .int
  | 1 => .int
  | 2 => .int
  | 3 => .int
  | 4 => .array .int
  | 5 => .array .int
  | 6 => .array .int
  | 7 => .array .int
  | 8 => .array .int
  | 9 => .array .int
  | _ => .array .int
theorem nm_ri : ∀ a, a < 11 → ∀ b, b < 11 → a ≠ b → (T_ri a).2.1 ≠ (T_ri b).2.1 := by decide +kernel
theorem ty_ri_ok : ∀ k, k < 11 → parseFieldDescriptor (T_ri k).2.2.1 = some (ty_ri k) := by decide +kernel
abbrev R_rr : String := "BitRings$RowReader"
def T_rr : u_T := fun k => match k with
  | 0 => ("BitRings$RowReader", "rule", "[J", true)
  | 1 => ("BitRings$RowReader", "olderRule", "[J", true)
  | 2 => ("BitRings$RowReader", "recent", "[J", true)
  | 3 => ("BitRings$RowReader", "marks", "[I", true)
  | 4 => ("BitRings$RowReader", "split", "[I", true)
  | _ => ("BitRings$RowReader", "markCount", "I", false)
def ty_rr : Nat → FieldType := fun k => match k with
  | 0 => .array .long
  | 1 => .array .long
  | 2 => .array .long
  | 3 => .array .int
  | 4 => .array .int
  | _ => .int
theorem nm_rr : ∀ a, a < 6 → ∀ b, b < 6 → a ≠ b → (T_rr a).2.1 ≠ (T_rr b).2.1 := by decide +kernel
theorem ty_rr_ok : ∀ k, k < 6 → parseFieldDescriptor (T_rr k).2.2.1 = some (ty_rr k) := by decide +kernel
abbrev R_sh : String := "BitRings$Sheet"
def T_sh : u_T := fun k => match k with
  | 0 => ("BitRings$Sheet", "lane", "I", false)
  | 1 => ("BitRings$Sheet", "size", "I", false)
  | _ => ("BitRings$Sheet", "cells", "[J", true)
def ty_sh : Nat → FieldType := fun k => match k with
  | 0 => .int
  | 1 => .int
  | _ => .array .long
theorem nm_sh : ∀ a, a < 3 → ∀ b, b < 3 → a ≠ b → (T_sh a).2.1 ≠ (T_sh b).2.1 := by decide +kernel
theorem ty_sh_ok : ∀ k, k < 3 → parseFieldDescriptor (T_sh k).2.2.1 = some (ty_sh k) := by decide +kernel
abbrev R_tr : String := "BitRings$Trees"
def T_tr : u_T := fun k => match k with
  | 0 => ("BitRings$Trees", "cells", "[J", false)
  | _ => ("BitRings$Trees", "width", "I", false)
def ty_tr : Nat → FieldType := fun k => match k with
  | 0 => .array .long
  | _ => .int
theorem nm_tr : ∀ a, a < 2 → ∀ b, b < 2 → a ≠ b → (T_tr a).2.1 ≠ (T_tr b).2.1 := by decide +kernel
theorem ty_tr_ok : ∀ k, k < 2 → parseFieldDescriptor (T_tr k).2.2.1 = some (ty_tr k) := by decide +kernel
abbrev R_br : String := "BitRings"
def T_br : u_T := fun k => match k with
  | 0 => ("BitRings", "register", "LBitRings$Register;", true)
  | 1 => ("BitRings", "rings", "LBitRings$Rings;", true)
  | 2 => ("BitRings", "trees", "LBitRings$Trees;", true)
  | 3 => ("BitRings", "sheets", "[LBitRings$Sheet;", true)
  | 4 => ("BitRings", "reader", "LBitRings$RowReader;", true)
  | 5 => ("BitRings", "traceLeft", "I", false)
  | _ => ("BitRings", "latestFault", "I", false)
def ty_br : Nat → FieldType := fun k => match k with
  | 0 => .object "BitRings$Register"
  | 1 => .object "BitRings$Rings"
  | 2 => .object "BitRings$Trees"
  | 3 => .array (.object "BitRings$Sheet")
  | 4 => .object "BitRings$RowReader"
  | 5 => .int
  | _ => .int
theorem nm_br : ∀ a, a < 7 → ∀ b, b < 7 → a ≠ b → (T_br a).2.1 ≠ (T_br b).2.1 := by decide +kernel
theorem ty_br_ok : ∀ k, k < 7 → parseFieldDescriptor (T_br k).2.2.1 = some (ty_br k) := by decide +kernel
abbrev R_mo : String := "BitRingsModel"
def T_mo : u_T := fun k => match k with
  | 0 => ("BitRingsModel", "fault", "I", false)
  | 1 => ("BitRingsModel", "trace", "I", false)
  | 2 => ("BitRingsModel", "n", "I", false)
  | 3 => ("BitRingsModel", "feedback", "[I", true)
  | 4 => ("BitRingsModel", "isFound", "Z", false)
  | 5 => ("BitRingsModel", "rings", "I", false)
  | 6 => ("BitRingsModel", "ringLeast", "[I", true)
  | 7 => ("BitRingsModel", "ringLong", "[I", true)
  | 8 => ("BitRingsModel", "ringOf", "[I", true)
  | 9 => ("BitRingsModel", "behind", "[I", true)
  | 10 => ("BitRingsModel", "placeOf", "[I", true)
  | 11 => ("BitRingsModel", "ledTo", "[I", true)
  | 12 => ("BitRingsModel", "queue", "[I", true)
  | 13 => ("BitRingsModel", "lanes", "[I", true)
  | 14 => ("BitRingsModel", "sheetLong", "[I", true)
  | 15 => ("BitRingsModel", "cells", "[J", true)
  | 16 => ("BitRingsModel", "table", "[J", true)
  | 17 => ("BitRingsModel", "met", "[Z", true)
  | 18 => ("BitRingsModel", "rule", "[I", true)
  | 19 => ("BitRingsModel", "before", "[I", true)
  | _ => ("BitRingsModel", "kept", "[I", true)
def ty_mo : Nat → FieldType := fun k => match k with
  | 0 => .int
  | 1 => .int
  | 2 => .int
  | 3 => .array .int
  | 4 => .boolean
  | 5 => .int
  | 6 => .array .int
  | 7 => .array .int
  | 8 => .array .int
  | 9 => .array .int
  | 10 => .array .int
  | 11 => .array .int
  | 12 => .array .int
  | 13 => .array .int
  | 14 => .array .int
  | 15 => .array .long
  | 16 => .array .long
  | 17 => .array .boolean
  | 18 => .array .int
  | 19 => .array .int
  | _ => .array .int
theorem nm_mo : ∀ a, a < 21 → ∀ b, b < 21 → a ≠ b → (T_mo a).2.1 ≠ (T_mo b).2.1 := by decide +kernel
theorem ty_mo_ok : ∀ k, k < 21 → parseFieldDescriptor (T_mo k).2.2.1 = some (ty_mo k) := by decide +kernel
abbrev R_ji : String := "java/lang/Integer"
abbrev R_jl : String := "java/lang/Long"
abbrev R_jm : String := "java/lang/Math"
abbrev R_ja : String := "java/util/Arrays"
abbrev R_law : String := "BitRingsLaw"
abbrev classes : List vw_C := [(R_rg, T_rg, 5), (R_ri, T_ri, 11), (R_rr, T_rr, 6), (R_sh, T_sh, 3), (R_tr, T_tr, 2), (R_br, T_br, 7), (R_mo, T_mo, 21)]
/-- the words that go over every call -/
def gtb : List Cond := lw_tbl.filter goodWord
theorem in_rg : ∀ w ∈ u_ws R_rg T_rg 5, w ∈ gtb := by decide +kernel
theorem in_ri : ∀ w ∈ u_ws R_ri T_ri 11, w ∈ gtb := by decide +kernel
theorem in_rr : ∀ w ∈ u_ws R_rr T_rr 6, w ∈ gtb := by decide +kernel
theorem in_sh : ∀ w ∈ u_ws R_sh T_sh 3, w ∈ gtb := by decide +kernel
theorem in_tr : ∀ w ∈ u_ws R_tr T_tr 2, w ∈ gtb := by decide +kernel
theorem in_br : ∀ w ∈ u_ws R_br T_br 7, w ∈ gtb := by decide +kernel
theorem in_mo : ∀ w ∈ u_ws R_mo T_mo 21, w ∈ gtb := by decide +kernel
/-- a method: its name, code, locals, answer; the frames and locals that its calls need -/
abbrev MI : Type := MethodName × ByteArray × Nat × Option FieldType × Nat × Nat
def M_rg_init : MI := (⟨R_rg, "<init>", "()V"⟩, prog_2_method_1_code, 1, none, 1, 12)
def M_rg_has : MI := (⟨R_rg, "has", "(I)Z"⟩, prog_2_method_2_code, 2, (some .boolean), 0, 0)
def M_rg_hasRun : MI := (⟨R_rg, "hasRun", "(II)Z"⟩, prog_2_method_3_code, 3, (some .boolean), 0, 0)
def M_rg_restart : MI := (⟨R_rg, "restart", "(I)V"⟩, prog_2_method_4_code, 2, none, 1, 23)
def M_rg_write : MI := (⟨R_rg, "write", "(II)V"⟩, prog_2_method_5_code, 3, none, 0, 0)
def M_rg_lead : MI := (⟨R_rg, "lead", "(II)I"⟩, prog_2_method_6_code, 3, (some .int), 0, 0)
def M_rg_next : MI := (⟨R_rg, "next", "(I)I"⟩, prog_2_method_7_code, 2, (some .int), 1, 22)
def M_rg_walk : MI := (⟨R_rg, "walk", "(II)I"⟩, prog_2_method_8_code, 5, (some .int), 2, 43)
def M_rg_evenBefore : MI := (⟨R_rg, "evenBefore", "(I)I"⟩, prog_2_method_9_code, 2, (some .int), 0, 0)
def M_rg_countBefore : MI := (⟨R_rg, "countBefore", "(I)I"⟩, prog_2_method_10_code, 4, (some .int), 1, 21)
def M_rg_isPure : MI := (⟨R_rg, "isPure", "()Z"⟩, prog_2_method_11_code, 2, (some .boolean), 0, 0)
def M_rg_countOnes : MI := (⟨R_rg, "countOnes", "()I"⟩, prog_2_method_12_code, 3, (some .int), 0, 0)
def M_rg_turnPair : MI := (⟨R_rg, "turnPair", "(I)V"⟩, prog_2_method_13_code, 2, none, 1, 22)
def M_rg_fillLinear : MI := (⟨R_rg, "fillLinear", "(II)V"⟩, prog_2_method_14_code, 4, none, 1, 22)
def M_rg_fillPreferring : MI := (⟨R_rg, "fillPreferring", "(I)V"⟩, prog_2_method_15_code, 5, none, 1, 23)
def M_rg_fillFrom : MI := (⟨R_rg, "fillFrom", "(LBitRings$Sheet;)V"⟩, prog_2_method_16_code, 5, none, 1, 22)
def M_ri_init : MI := (⟨R_ri, "<init>", "()V"⟩, prog_3_method_1_code, 1, none, 1, 12)
def M_ri_has : MI := (⟨R_ri, "has", "(I)Z"⟩, prog_3_method_2_code, 2, (some .boolean), 0, 0)
def M_ri_find : MI := (⟨R_ri, "find", "(LBitRings$Register;)V"⟩, prog_3_method_3_code, 2, none, 4, 89)
def M_ri_peel : MI := (⟨R_ri, "peel", "(LBitRings$Register;)V"⟩, prog_3_method_4_code, 4, none, 2, 44)
def M_ri_nameRings : MI := (⟨R_ri, "nameRings", "(LBitRings$Register;)V"⟩, prog_3_method_5_code, 3, none, 3, 67)
def M_ri_nameRing : MI := (⟨R_ri, "nameRing", "(LBitRings$Register;I)V"⟩, prog_3_method_6_code, 5, none, 2, 43)
def M_ri_nameBehind : MI := (⟨R_ri, "nameBehind", "(LBitRings$Register;)V"⟩, prog_3_method_7_code, 5, none, 2, 43)
def M_ri_sizeAround : MI := (⟨R_ri, "sizeAround", "(I)I"⟩, prog_3_method_8_code, 3, (some .int), 1, 21)
def M_ri_kindOf : MI := (⟨R_ri, "kindOf", "(I)I"⟩, prog_3_method_9_code, 2, (some .int), 2, 43)
def M_ri_stepsThatMatter : MI := (⟨R_ri, "stepsThatMatter", "(IJ)I"⟩, prog_3_method_10_code, 4, (some .int), 2, 43)
def M_ri_countOnesOut : MI := (⟨R_ri, "countOnesOut", "(LBitRings$Register;I)I"⟩, prog_3_method_11_code, 6, (some .int), 2, 43)
def M_ri_countBehind : MI := (⟨R_ri, "countBehind", "(LBitRings$Register;I)I"⟩, prog_3_method_12_code, 5, (some .int), 0, 0)
def M_ri_likeness : MI := (⟨R_ri, "likeness", "(LBitRings$Register;II)I"⟩, prog_3_method_13_code, 8, (some .int), 3, 67)
def M_ri_joinAll : MI := (⟨R_ri, "joinAll", "(LBitRings$Register;)I"⟩, prog_3_method_14_code, 7, (some .int), 2, 43)
def M_ri_regroup : MI := (⟨R_ri, "regroup", "([III)V"⟩, prog_3_method_15_code, 4, none, 0, 0)
def M_rr_init : MI := (⟨R_rr, "<init>", "()V"⟩, prog_4_method_1_code, 1, none, 1, 12)
def M_rr_linearOrder : MI := (⟨R_rr, "linearOrder", "(LBitRings$Sheet;I)I"⟩, prog_4_method_2_code, 6, (some .int), 2, 44)
def M_rr_shiftIn : MI := (⟨R_rr, "shiftIn", "([JJ)V"⟩, prog_4_method_3_code, 8, none, 0, 0)
def M_rr_ruleFails : MI := (⟨R_rr, "ruleFails", "()Z"⟩, prog_4_method_4_code, 4, (some .boolean), 1, 21)
def M_rr_correctRule : MI := (⟨R_rr, "correctRule", "(Z)V"⟩, prog_4_method_5_code, 5, none, 0, 0)
def M_rr_greatestOrder : MI := (⟨R_rr, "greatestOrder", "(LBitRings$Sheet;I)I"⟩, prog_4_method_6_code, 4, (some .int), 3, 73)
def M_rr_splitMarks : MI := (⟨R_rr, "splitMarks", "(LBitRings$Sheet;II)Z"⟩, prog_4_method_7_code, 8, (some .boolean), 2, 46)
def M_rr_leastPeriod : MI := (⟨R_rr, "leastPeriod", "(LBitRings$Sheet;)I"⟩, prog_4_method_8_code, 6, (some .int), 1, 21)
def M_sh_init : MI := (⟨R_sh, "<init>", "()V"⟩, prog_5_method_1_code, 1, none, 1, 12)
def M_sh_isNothing : MI := (⟨R_sh, "isNothing", "()Z"⟩, prog_5_method_2_code, 1, (some .boolean), 0, 0)
def M_sh_isOfOtherLane : MI := (⟨R_sh, "isOfOtherLane", "(I)Z"⟩, prog_5_method_3_code, 2, (some .boolean), 0, 0)
def M_sh_hasCells : MI := (⟨R_sh, "hasCells", "(II)Z"⟩, prog_5_method_4_code, 3, (some .boolean), 0, 0)
def M_sh_renew : MI := (⟨R_sh, "renew", "(II)V"⟩, prog_5_method_5_code, 3, none, 1, 24)
def M_sh_drop : MI := (⟨R_sh, "drop", "()V"⟩, prog_5_method_6_code, 1, none, 0, 0)
def M_sh_write : MI := (⟨R_sh, "write", "(IJ)V"⟩, prog_5_method_7_code, 4, none, 0, 0)
def M_sh_bitAt : MI := (⟨R_sh, "bitAt", "(I)I"⟩, prog_5_method_8_code, 2, (some .int), 0, 0)
def M_sh_becomeThinned : MI := (⟨R_sh, "becomeThinned", "(LBitRings$Sheet;I)V"⟩, prog_5_method_9_code, 5, none, 0, 0)
def M_sh_mixWith : MI := (⟨R_sh, "mixWith", "(LBitRings$Sheet;I)I"⟩, prog_5_method_10_code, 7, (some .int), 1, 23)
def M_tr_init : MI := (⟨R_tr, "<init>", "()V"⟩, prog_6_method_1_code, 1, none, 1, 12)
def M_tr_count : MI := (⟨R_tr, "count", "(LBitRings$Register;LBitRings$Rings;)I"⟩, prog_6_method_2_code, 6, (some .int), 2, 54)
def M_tr_clear : MI := (⟨R_tr, "clear", "()V"⟩, prog_6_method_3_code, 1, none, 1, 24)
def M_tr_addPair : MI := (⟨R_tr, "addPair", "(II)V"⟩, prog_6_method_4_code, 3, none, 1, 25)
def M_tr_add : MI := (⟨R_tr, "add", "(IIJ)V"⟩, prog_6_method_5_code, 6, none, 0, 0)
def M_tr_determinant : MI := (⟨R_tr, "determinant", "()J"⟩, prog_6_method_6_code, 7, (some .long), 1, 28)
def M_tr_pivotRow : MI := (⟨R_tr, "pivotRow", "(I)I"⟩, prog_6_method_7_code, 3, (some .int), 0, 0)
def M_tr_swapRows : MI := (⟨R_tr, "swapRows", "(II)V"⟩, prog_6_method_8_code, 6, none, 0, 0)
def M_tr_clearBelow : MI := (⟨R_tr, "clearBelow", "(IJ)V"⟩, prog_6_method_9_code, 9, none, 0, 0)
def M_tr_inverse : MI := (⟨R_tr, "inverse", "(J)J"⟩, prog_6_method_10_code, 7, (some .long), 0, 0)
def M_br_init : MI := (⟨R_br, "<init>", "()V"⟩, prog_1_method_1_code, 2, none, 2, 32)
def M_br_length : MI := (⟨R_br, "length", "(I)I"⟩, prog_1_method_2_code, 3, (some .int), 2, 44)
def M_br_set : MI := (⟨R_br, "set", "(II)I"⟩, prog_1_method_3_code, 4, (some .int), 1, 22)
def M_br_linear : MI := (⟨R_br, "linear", "(II)I"⟩, prog_1_method_4_code, 3, (some .int), 2, 45)
def M_br_take : MI := (⟨R_br, "take", "(IIIII)I"⟩, prog_1_method_5_code, 8, (some .int), 1, 22)
def M_br_feedback : MI := (⟨R_br, "feedback", "(I)I"⟩, prog_1_method_6_code, 2, (some .int), 1, 21)
def M_br_step : MI := (⟨R_br, "step", "(IJ)I"⟩, prog_1_method_7_code, 4, (some .int), 6, 130)
def M_br_back : MI := (⟨R_br, "back", "(II)I"⟩, prog_1_method_8_code, 6, (some .int), 2, 44)
def M_br_about : MI := (⟨R_br, "about", "(II)I"⟩, prog_1_method_9_code, 3, (some .int), 6, 130)
def M_br_ring : MI := (⟨R_br, "ring", "(II)I"⟩, prog_1_method_10_code, 4, (some .int), 6, 130)
def M_br_told : MI := (⟨R_br, "told", "(I)I"⟩, prog_1_method_11_code, 2, (some .int), 6, 130)
def M_br_turn : MI := (⟨R_br, "turn", "(I)I"⟩, prog_1_method_12_code, 2, (some .int), 6, 130)
def M_br_join : MI := (⟨R_br, "join", "()I"⟩, prog_1_method_13_code, 1, (some .int), 6, 130)
def M_br_ways : MI := (⟨R_br, "ways", "()I"⟩, prog_1_method_14_code, 1, (some .int), 6, 130)
def M_br_prefer : MI := (⟨R_br, "prefer", "(I)I"⟩, prog_1_method_15_code, 2, (some .int), 2, 47)
def M_br_sheet : MI := (⟨R_br, "sheet", "(III)I"⟩, prog_1_method_16_code, 4, (some .int), 2, 46)
def M_br_lose : MI := (⟨R_br, "lose", "(I)I"⟩, prog_1_method_17_code, 3, (some .int), 1, 20)
def M_br_put : MI := (⟨R_br, "put", "(IIJ)I"⟩, prog_1_method_18_code, 6, (some .int), 1, 23)
def M_br_at : MI := (⟨R_br, "at", "(III)J"⟩, prog_1_method_19_code, 5, (some .long), 1, 22)
def M_br_out : MI := (⟨R_br, "out", "(IIII)I"⟩, prog_1_method_20_code, 8, (some .int), 2, 43)
def M_br_thin : MI := (⟨R_br, "thin", "(III)I"⟩, prog_1_method_21_code, 4, (some .int), 1, 24)
def M_br_mix : MI := (⟨R_br, "mix", "(III)I"⟩, prog_1_method_22_code, 6, (some .int), 2, 49)
def M_br_order : MI := (⟨R_br, "order", "(II)I"⟩, prog_1_method_23_code, 4, (some .int), 3, 69)
def M_br_greatest : MI := (⟨R_br, "greatest", "(II)I"⟩, prog_1_method_24_code, 4, (some .int), 4, 96)
def M_br_period : MI := (⟨R_br, "period", "(I)I"⟩, prog_1_method_25_code, 3, (some .int), 2, 46)
def M_br_learn : MI := (⟨R_br, "learn", "(I)I"⟩, prog_1_method_26_code, 5, (some .int), 4, 96)
def M_br_along : MI := (⟨R_br, "along", "(II)I"⟩, prog_1_method_27_code, 4, (some .int), 6, 130)
def M_br_tell : MI := (⟨R_br, "tell", "(I)I"⟩, prog_1_method_28_code, 3, (some .int), 6, 130)
def M_br_weigh : MI := (⟨R_br, "weigh", "(I)I"⟩, prog_1_method_29_code, 2, (some .int), 6, 130)
def M_br_as : MI := (⟨R_br, "as", "(II)I"⟩, prog_1_method_30_code, 5, (some .int), 6, 130)
def M_br_trace : MI := (⟨R_br, "trace", "()I"⟩, prog_1_method_31_code, 1, (some .int), 0, 0)
def M_br_fault : MI := (⟨R_br, "fault", "()I"⟩, prog_1_method_32_code, 1, (some .int), 0, 0)
def M_br_isBit : MI := (⟨R_br, "isBit", "(I)Z"⟩, prog_1_method_33_code, 1, (some .boolean), 0, 0)
def M_br_isSheet : MI := (⟨R_br, "isSheet", "(I)Z"⟩, prog_1_method_34_code, 1, (some .boolean), 0, 0)
def M_br_isLane : MI := (⟨R_br, "isLane", "(I)Z"⟩, prog_1_method_35_code, 1, (some .boolean), 0, 0)
def M_br_faulted : MI := (⟨R_br, "faulted", "(I)I"⟩, prog_1_method_36_code, 2, (some .int), 0, 0)
def M_br_foundRings : MI := (⟨R_br, "foundRings", "()LBitRings$Rings;"⟩, prog_1_method_37_code, 1, (some (.object "BitRings$Rings")), 5, 110)
def M_br_refusedRow : MI := (⟨R_br, "refusedRow", "(I)I"⟩, prog_1_method_38_code, 2, (some .int), 1, 21)
def M_br_refusedBits : MI := (⟨R_br, "refusedBits", "(II)I"⟩, prog_1_method_39_code, 4, (some .int), 2, 42)
def M_br_leave : MI := (⟨R_br, "leave", "(I)V"⟩, prog_1_method_40_code, 2, none, 0, 0)
def M_br_tellAlone : MI := (⟨R_br, "tellAlone", "()I"⟩, prog_1_method_41_code, 1, (some .int), 1, 21)
def M_br_tellLonger : MI := (⟨R_br, "tellLonger", "(I)I"⟩, prog_1_method_42_code, 2, (some .int), 2, 41)
def M_br_tellBehind : MI := (⟨R_br, "tellBehind", "(I)I"⟩, prog_1_method_43_code, 2, (some .int), 2, 41)
def M_br_weighLent : MI := (⟨R_br, "weighLent", "(I)I"⟩, prog_1_method_44_code, 2, (some .int), 1, 21)
def M_br_weighBehind : MI := (⟨R_br, "weighBehind", "()I"⟩, prog_1_method_45_code, 1, (some .int), 1, 21)
def M_mo_init : MI := (⟨R_mo, "<init>", "()V"⟩, prog_8_method_1_code, 1, none, 1, 12)
def M_mo_fails : MI := (⟨R_mo, "fails", "(I)I"⟩, prog_8_method_3_code, 2, (some .int), 0, 0)
def M_mo_lost : MI := (⟨R_mo, "lost", "(I)J"⟩, prog_8_method_4_code, 2, (some .long), 0, 0)
def M_mo_within : MI := (⟨R_mo, "within", "(JJJ)Z"⟩, prog_8_method_5_code, 6, (some .boolean), 0, 0)
def M_mo_states : MI := (⟨R_mo, "states", "()I"⟩, prog_8_method_6_code, 1, (some .int), 0, 0)
def M_mo_isState : MI := (⟨R_mo, "isState", "(I)Z"⟩, prog_8_method_7_code, 2, (some .boolean), 1, 20)
def M_mo_next : MI := (⟨R_mo, "next", "(I)I"⟩, prog_8_method_8_code, 2, (some .int), 1, 20)
def M_mo_find : MI := (⟨R_mo, "find", "()V"⟩, prog_8_method_9_code, 6, none, 2, 41)
def M_mo_length : MI := (⟨R_mo, "length", "(I)I"⟩, prog_8_method_10_code, 4, (some .int), 1, 25)
def M_mo_set : MI := (⟨R_mo, "set", "(II)I"⟩, prog_8_method_11_code, 4, (some .int), 2, 41)
def M_mo_ones : MI := (⟨R_mo, "ones", "()I"⟩, prog_8_method_12_code, 3, (some .int), 1, 20)
def M_mo_linear : MI := (⟨R_mo, "linear", "(II)I"⟩, prog_8_method_13_code, 6, (some .int), 2, 42)
def M_mo_bit : MI := (⟨R_mo, "bit", "(II)I"⟩, prog_8_method_14_code, 3, (some .int), 0, 0)
def M_mo_isSheet : MI := (⟨R_mo, "isSheet", "(I)Z"⟩, prog_8_method_15_code, 1, (some .boolean), 0, 0)
def M_mo_take : MI := (⟨R_mo, "take", "(IIIII)I"⟩, prog_8_method_16_code, 7, (some .int), 2, 41)
def M_mo_feedback : MI := (⟨R_mo, "feedback", "(I)I"⟩, prog_8_method_17_code, 2, (some .int), 2, 41)
def M_mo_step : MI := (⟨R_mo, "step", "(IJ)I"⟩, prog_8_method_18_code, 7, (some .int), 3, 66)
def M_mo_back : MI := (⟨R_mo, "back", "(II)I"⟩, prog_8_method_19_code, 6, (some .int), 2, 41)
def M_mo_about : MI := (⟨R_mo, "about", "(II)I"⟩, prog_8_method_20_code, 3, (some .int), 3, 66)
def M_mo_ring : MI := (⟨R_mo, "ring", "(II)I"⟩, prog_8_method_21_code, 5, (some .int), 3, 66)
def M_mo_isPure : MI := (⟨R_mo, "isPure", "()Z"⟩, prog_8_method_22_code, 3, (some .boolean), 1, 20)
def M_mo_told : MI := (⟨R_mo, "told", "(I)I"⟩, prog_8_method_23_code, 4, (some .int), 3, 66)
def M_mo_turnPair : MI := (⟨R_mo, "turnPair", "(I)V"⟩, prog_8_method_24_code, 2, none, 3, 66)
def M_mo_turn : MI := (⟨R_mo, "turn", "(I)I"⟩, prog_8_method_25_code, 2, (some .int), 4, 87)
def M_mo_join : MI := (⟨R_mo, "join", "()I"⟩, prog_8_method_26_code, 3, (some .int), 4, 87)
def M_mo_inverse : MI := (⟨R_mo, "inverse", "(J)J"⟩, prog_8_method_27_code, 7, (some .long), 0, 0)
def M_mo_addTo : MI := (⟨R_mo, "addTo", "(IIIJ)V"⟩, prog_8_method_28_code, 6, none, 0, 0)
def M_mo_determinant : MI := (⟨R_mo, "determinant", "(I)I"⟩, prog_8_method_29_code, 12, (some .int), 1, 26)
def M_mo_ways : MI := (⟨R_mo, "ways", "()I"⟩, prog_8_method_30_code, 5, (some .int), 3, 66)
def M_mo_prefer : MI := (⟨R_mo, "prefer", "(I)I"⟩, prog_8_method_31_code, 8, (some .int), 2, 42)
def M_mo_sheet : MI := (⟨R_mo, "sheet", "(III)I"⟩, prog_8_method_32_code, 5, (some .int), 1, 25)
def M_mo_lose : MI := (⟨R_mo, "lose", "(I)I"⟩, prog_8_method_33_code, 3, (some .int), 1, 20)
def M_mo_put : MI := (⟨R_mo, "put", "(IIJ)I"⟩, prog_8_method_34_code, 5, (some .int), 1, 21)
def M_mo_at : MI := (⟨R_mo, "at", "(III)J"⟩, prog_8_method_35_code, 4, (some .long), 1, 25)
def M_mo_out : MI := (⟨R_mo, "out", "(IIII)I"⟩, prog_8_method_36_code, 7, (some .int), 2, 41)
def M_mo_thin : MI := (⟨R_mo, "thin", "(III)I"⟩, prog_8_method_37_code, 6, (some .int), 1, 25)
def M_mo_mix : MI := (⟨R_mo, "mix", "(III)I"⟩, prog_8_method_38_code, 8, (some .int), 1, 25)
def M_mo_againstBits : MI := (⟨R_mo, "againstBits", "(II)I"⟩, prog_8_method_39_code, 3, (some .int), 1, 21)
def M_mo_order : MI := (⟨R_mo, "order", "(II)I"⟩, prog_8_method_40_code, 10, (some .int), 2, 43)
def M_mo_greatestOf : MI := (⟨R_mo, "greatestOf", "(II)I"⟩, prog_8_method_41_code, 7, (some .int), 1, 22)
def M_mo_greatest : MI := (⟨R_mo, "greatest", "(II)I"⟩, prog_8_method_42_code, 4, (some .int), 2, 48)
def M_mo_period : MI := (⟨R_mo, "period", "(I)I"⟩, prog_8_method_43_code, 5, (some .int), 1, 22)
def M_mo_learn : MI := (⟨R_mo, "learn", "(I)I"⟩, prog_8_method_44_code, 6, (some .int), 2, 48)
def M_mo_along : MI := (⟨R_mo, "along", "(II)I"⟩, prog_8_method_45_code, 7, (some .int), 4, 92)
def M_mo_begins : MI := (⟨R_mo, "begins", "(I)V"⟩, prog_8_method_46_code, 2, none, 0, 0)
def M_mo_tell : MI := (⟨R_mo, "tell", "(I)I"⟩, prog_8_method_47_code, 3, (some .int), 3, 66)
def M_mo_weigh : MI := (⟨R_mo, "weigh", "(I)I"⟩, prog_8_method_48_code, 2, (some .int), 3, 66)
def M_mo_as : MI := (⟨R_mo, "as", "(II)I"⟩, prog_8_method_49_code, 4, (some .int), 3, 66)
def M_mo_trace : MI := (⟨R_mo, "trace", "()I"⟩, prog_8_method_50_code, 1, (some .int), 0, 0)
def M_mo_fault : MI := (⟨R_mo, "fault", "()I"⟩, prog_8_method_51_code, 1, (some .int), 0, 0)
def M_ji_bitCount : MI := (⟨R_ji, "bitCount", "(I)I"⟩, prog_9_method_49_code, 1, (some .int), 0, 0)
def M_jl_bitCount : MI := (⟨R_jl, "bitCount", "(J)I"⟩, prog_10_method_50_code, 2, (some .int), 0, 0)
def M_jm_max : MI := (⟨R_jm, "max", "(II)I"⟩, prog_11_method_65_code, 2, (some .int), 0, 0)
def M_jm_min : MI := (⟨R_jm, "min", "(II)I"⟩, prog_11_method_69_code, 2, (some .int), 0, 0)
def M_ja_rangeCheck : MI := (⟨R_ja, "rangeCheck", "(III)V"⟩, prog_12_method_30_code, 3, none, 0, 0)
def M_ja_fillJ : MI := (⟨R_ja, "fill", "([JJ)V"⟩, prog_12_method_101_code, 5, none, 0, 0)
def M_ja_fillI : MI := (⟨R_ja, "fill", "([II)V"⟩, prog_12_method_103_code, 4, none, 0, 0)
def M_ja_fillR : MI := (⟨R_ja, "fill", "([IIII)V"⟩, prog_12_method_104_code, 5, none, 1, 22)
def M_law_law : MI := (⟨R_law, "law", "([I)Z"⟩, code, 4, (some .boolean), 9, 312)
end
section
/-! THE ABSTRACT MACHINE: worlds are lists of regions of cells; a reference is 16 * place + region; 'ad' says where it lies -/
abbrev Wd : Type := List (List va_E)
def look (w : Wd) (k : Nat) : Option va_E := (w.getD (k % 16) [])[k / 16]?
def updw (w : Wd) (k : Nat) (e : va_E) : Wd := w.set (k % 16) ((w.getD (k % 16) []).set (k / 16) e)
def pushw (w : Wd) (r : Nat) (e : va_E) : Wd := w.set r (w.getD r [] ++ [e])
def keyw (w : Wd) (r : Nat) : Nat := 16 * (w.getD r []).length + r
def domw (w : Wd) (k : Nat) : Prop := (∃ e, look w k = some e) ∨ k = 8
def cv (ad : Nat → Nat) : Value → Value
  | .ref k => .ref (ad k)
  | v => v
def ca (ad : Nat → Nat) (x : vp_A) : vp_A := match x with
  | (n, .inr (.inr (.inr (.inr f)))) => (n, .inr (.inr (.inr (.inr (fun i => (f i).map ad)))))
  | x => x
def ce (dA : Nat → ClassId) (ad : Nat → Nat) : va_E → va_E
  | .inl (t, x) => .inl (dA t, ca ad x)
  | .inr (ci, fs) => .inr (ci, fs.map (cv ad))
def okv (w : Wd) : Value → Prop
  | .ref k => domw w k
  | _ => True
def oke (w : Wd) : va_E → Prop
  | .inl (_, (_, .inr (.inr (.inr (.inr f))))) => ∀ i k, f i = some k → domw w k
  | .inl _ => True
  | .inr (_, fs) => ∀ v ∈ fs, okv w v
/-- the heap holds the world -/
def AP (D : va_G) (dA : Nat → ClassId) (ad : Nat → Nat) (w : Wd) (H : Heap) : Prop := ∀ k e, look w k = some e → va_at D classes (ad k, ce dA ad e) H ∧ oke w e
/-- its cells are apart, and of a kind -/
def AD (A : Nat → Prop) (ad : Nat → Nat) (w : Wd) : Prop := (∀ i j e f, look w i = some e → look w j = some f → ad i = ad j → i = j) ∧ ∀ k e, look w k = some e → A (ad k)
def AE (w : Wd) (ad : Nat → Nat) (w' : Wd) (ad' : Nat → Nat) : Prop := ∀ k, domw w k → ad' k = ad k ∧ domw w' k
def AA (ad : Nat → Nat) (w : Wd) (sz : Nat) : Nat → Prop := fun q => (∃ k e, look w k = some e ∧ q = ad k) ∨ sz ≤ q
def tysA (dA : Nat → ClassId) : List (ClassId × FieldType) := [(dA 0, .int), (dA 1, .long), (dA 2, .boolean), (dA 3, .object "BitRings$Sheet")]
def nests : List Cond := [.methodLinkNest R_br 11 M_rg_init.1 R_br, .methodLinkNest R_br 20 M_ri_init.1 R_br, .methodLinkNest R_br 27 M_tr_init.1 R_br, .methodLinkNest R_br 38 M_sh_init.1 R_br, .methodLinkNest R_br 41 M_rr_init.1 R_br]
/-- what is known of the tables -/
def AK (D : va_G) (dA : Nat → ClassId) (s : State) : Prop := va_K D classes (tysA dA) s ∧ va_AO "BitRings$Sheet" s ∧ ∀ w ∈ nests, va_Nw w s
theorem nests_form : ∀ w ∈ nests, ∃ a i x h, w = .methodLinkNest a i x h := by
  intro w hw
  simp only [nests, List.mem_cons, List.not_mem_nil, or_false] at hw
  rcases hw with rfl | rfl | rfl | rfl | rfl <;> exact ⟨_, _, _, _, rfl⟩
theorem AK.warm {D : va_G} {dA : Nat → ClassId} {s U : State} (hW : s.WarmedH U.vm) (h : AK D dA s) : AK D dA U := by
  refine ⟨va_K.moved hW.alike h.1, va_AO.moved hW.alike h.2.1, fun w hw => ?_⟩
  have h3 := h.2.2 w hw
  obtain ⟨a, i, x, hh, rfl⟩ := nests_form w hw
  exact va_Nw.warmM hW h3
theorem AK.same {D : va_G} {dA : Nat → ClassId} {s U : State} (hv : s.vm = U.vm) (h : AK D dA s) : AK D dA U := by
  have ha : s.vm.Alike U.vm := by rw [hv]; exact Vm.Alike.refl _
  refine ⟨va_K.moved ha h.1, va_AO.moved ha h.2.1, fun w hw => ?_⟩
  have h3 := h.2.2 w hw
  obtain ⟨a, i, x, hh, rfl⟩ := nests_form w hw
  exact va_Nw.same rfl hv h3
/-! ### plain facts of worlds -/
theorem getD_set {α : Type} (l : List (List α)) (i j : Nat) (x : List α) (h : i < l.length) : (l.set i x).getD j [] = if i = j then x else l.getD j [] := by
  by_cases e : i = j
  · subst e
    simp [List.getD_eq_getElem?_getD, h]
  · simp [List.getD_eq_getElem?_getD, e, List.getElem?_set_ne]
theorem getD_lt {α : Type} {l : List (List α)} {i j : Nat} {e : α} (h : (l.getD i [])[j]? = some e) : i < l.length := by
  rcases Nat.lt_or_ge i l.length with q | q
  · exact q
  · rw [List.getD_eq_getElem?_getD, List.getElem?_eq_none q] at h
    simp at h
theorem look_updw {w : Wd} {k : Nat} {e0 : va_E} (h : look w k = some e0) (e : va_E) (j : Nat) : look (updw w k e) j = if j = k then some e else look w j := by
  unfold look updw
  have hl : k % 16 < w.length := getD_lt h
  have hl2 : k / 16 < (w.getD (k % 16) []).length := (List.getElem?_eq_some_iff.mp h).1
  rw [getD_set _ _ _ _ hl]
  by_cases hj : j = k
  · subst hj
    rw [if_pos rfl, if_pos rfl, List.getElem?_set_self hl2]
  · rw [if_neg hj]
    by_cases hr : k % 16 = j % 16
    · rw [if_pos hr, List.getElem?_set_ne (by omega), hr]
    · rw [if_neg hr]
theorem look_pushw {w : Wd} {r : Nat} (hr : r < 16) (hl : r < w.length) (e : va_E) (j : Nat) : look (pushw w r e) j = if j = keyw w r then some e else look w j := by
  unfold look pushw keyw
  rw [getD_set _ _ _ _ hl]
  by_cases hj : j = 16 * (w.getD r []).length + r
  · have h1 : j % 16 = r := by omega
    have h2 : j / 16 = (w.getD r []).length := by omega
    rw [if_pos hj, h1, if_pos rfl, h2, List.getElem?_append_right (Nat.le_refl _)]
    simp
  · rw [if_neg hj]
    by_cases hq : r = j % 16
    · rw [if_pos hq]
      have h3 : j / 16 ≠ (w.getD r []).length := by omega
      rcases Nat.lt_or_ge (j / 16) (w.getD r []).length with q | q
      · rw [List.getElem?_append_left q, hq]
      · rw [List.getElem?_append_right q, ← hq, List.getElem?_eq_none (l := w.getD r []) q]
        rw [List.getElem?_eq_none]
        show 1 ≤ _
        omega
    · rw [if_neg hq]
theorem look_key {w : Wd} {r : Nat} (hr : r < 16) : look w (keyw w r) = none := by
  unfold look keyw
  rw [show (16 * (w.getD r []).length + r) % 16 = r by omega, show (16 * (w.getD r []).length + r) / 16 = (w.getD r []).length by omega]
  simp
theorem domw_updw {w : Wd} {k : Nat} {e0 e : va_E} (h : look w k = some e0) {j : Nat} (hj : domw w j) : domw (updw w k e) j := by
  rcases hj with ⟨f, hf⟩ | hj
  · refine Or.inl ?_
    rw [look_updw h]
    by_cases q : j = k
    · rw [if_pos q]; exact ⟨_, rfl⟩
    · rw [if_neg q]; exact ⟨f, hf⟩
  · exact Or.inr hj
theorem domw_pushw {w : Wd} {r : Nat} (hr : r < 16) (hl : r < w.length) {e : va_E} {j : Nat} (hj : domw w j) : domw (pushw w r e) j := by
  rcases hj with ⟨f, hf⟩ | hj
  · refine Or.inl ?_
    rw [look_pushw hr hl]
    by_cases q : j = keyw w r
    · rw [if_pos q]; exact ⟨_, rfl⟩
    · rw [if_neg q]; exact ⟨f, hf⟩
  · exact Or.inr hj
theorem okv_mono {w w' : Wd} (h : ∀ k, domw w k → domw w' k) {v : Value} (hv : okv w v) : okv w' v := by
  cases v <;> first | exact h _ hv | exact True.intro
theorem oke_mono {w w' : Wd} (h : ∀ k, domw w k → domw w' k) {e : va_E} (he : oke w e) : oke w' e := by
  rcases e with ⟨t, n, f | f | f | f | f⟩ | ⟨ci, fs⟩
  · exact True.intro
  · exact True.intro
  · exact True.intro
  · exact True.intro
  · exact fun i k hk => h k (he i k hk)
  · exact fun v hv => okv_mono h (he v hv)
theorem cv_ext {ad ad' : Nat → Nat} {w : Wd} (h : ∀ k, domw w k → ad' k = ad k) {v : Value} (hv : okv w v) : cv ad' v = cv ad v := by
  cases v <;> first | rfl | (show Value.ref _ = Value.ref _; rw [h _ hv])
theorem cv_cat (ad : Nat → Nat) (v : Value) : (cv ad v).category = v.category := by cases v <;> rfl
theorem ce_ext {dA : Nat → ClassId} {ad ad' : Nat → Nat} {w : Wd} (h : ∀ k, domw w k → ad' k = ad k) {e : va_E} (he : oke w e) : ce dA ad' e = ce dA ad e := by
  rcases e with ⟨t, n, f | f | f | f | f⟩ | ⟨ci, fs⟩
  · rfl
  · rfl
  · rfl
  · rfl
  · show Sum.inl (dA t, (n, _)) = Sum.inl (dA t, (n, _))
    have : (fun i => (f i).map ad') = (fun i => (f i).map ad) := by
      funext i
      cases hf : f i with
      | none => rfl
      | some k => show some (ad' k) = some (ad k); rw [h k (he i k hf)]
    rw [this]
  · show Sum.inr (ci, fs.map (cv ad')) = Sum.inr (ci, fs.map (cv ad))
    rw [List.map_congr_left (fun v hv => cv_ext h (he v hv))]
theorem map_ext {ad ad' : Nat → Nat} {w : Wd} (h : ∀ k, domw w k → ad' k = ad k) {st : List Value} (hs : ∀ v ∈ st, okv w v) : st.map (cv ad') = st.map (cv ad) := List.map_congr_left (fun v hv => cv_ext h (hs v hv))
theorem AP.upd {D : va_G} {dA : Nat → ClassId} {ad : Nat → Nat} {w : Wd} {H H1 : Heap} {A : Nat → Prop} (hP : AP D dA ad w H) (hD : AD A ad w) {k : Nat} {e0 e : va_E} (h : look w k = some e0) (he : va_at D classes (ad k, ce dA ad e) H1) (ho : oke w e) (oq : ∀ q : Nat, q ≠ ad k → H1[q]? = H[q]?) : AP D dA ad (updw w k e) H1 := by
  intro j f hf
  rw [look_updw h] at hf
  have hm : ∀ j, domw w j → domw (updw w k e) j := fun j => domw_updw h
  by_cases q : j = k
  · rw [if_pos q] at hf
    cases hf
    subst q
    exact ⟨he, oke_mono hm ho⟩
  · rw [if_neg q] at hf
    obtain ⟨h1, h2⟩ := hP j f hf
    exact ⟨h1.kept (oq _ (fun z => q (hD.1 j k f e0 hf h z))), oke_mono hm h2⟩
theorem AD.upd {ad : Nat → Nat} {w : Wd} {A : Nat → Prop} (hD : AD A ad w) {k : Nat} {e0 e : va_E} (h : look w k = some e0) : AD A ad (updw w k e) := by
  have key : ∀ j f, look (updw w k e) j = some f → ∃ g, look w j = some g := by
    intro j f hf
    rw [look_updw h] at hf
    by_cases q : j = k
    · subst q; exact ⟨e0, h⟩
    · rw [if_neg q] at hf; exact ⟨f, hf⟩
  refine ⟨fun i j a b hi hj hij => ?_, fun j a hj => ?_⟩
  · obtain ⟨a', ha⟩ := key i a hi
    obtain ⟨b', hb⟩ := key j b hj
    exact hD.1 i j a' b' ha hb hij
  · obtain ⟨a', ha⟩ := key j a hj
    exact hD.2 j a' ha
theorem AP.lt {D : va_G} {dA : Nat → ClassId} {ad : Nat → Nat} {w : Wd} {H : Heap} (hP : AP D dA ad w H) {k : Nat} {e : va_E} (h : look w k = some e) : ad k < H.size := (hP k e h).1.lt
/-- a new cell at the heap's end -/
def adn (ad : Nat → Nat) (k q : Nat) : Nat → Nat := fun j => if j = k then q else ad j
theorem adn_dom {ad : Nat → Nat} {w : Wd} {r q : Nat} (hr : r < 16) (h8 : r ≠ 8) {j : Nat} (hj : domw w j) : adn ad (keyw w r) q j = ad j := by
  unfold adn
  rw [if_neg]
  rintro rfl
  rcases hj with ⟨e, he⟩ | hj
  · rw [look_key hr] at he; cases he
  · unfold keyw at hj; omega
theorem adn_self {ad : Nat → Nat} {k q : Nat} : adn ad k q k = q := if_pos rfl
theorem AP.push {D : va_G} {dA : Nat → ClassId} {ad : Nat → Nat} {w : Wd} {H H1 : Heap} (hP : AP D dA ad w H) {r : Nat} (hr : r < 16) (h8 : r ≠ 8) (hl : r < w.length) {e : va_E} (he : va_at D classes (H.size, ce dA ad e) H1) (ho : oke w e) (oq : ∀ q : Nat, q < H.size → H1[q]? = H[q]?) : AP D dA (adn ad (keyw w r) H.size) (pushw w r e) H1 := by
  have hm : ∀ j, domw w j → domw (pushw w r e) j := fun j => domw_pushw hr hl
  have hx : ∀ j, domw w j → adn ad (keyw w r) H.size j = ad j := fun j => adn_dom hr h8
  intro j f hf
  rw [look_pushw hr hl] at hf
  by_cases q : j = keyw w r
  · rw [if_pos q] at hf
    cases hf
    subst q
    rw [adn_self, ce_ext hx ho]
    exact ⟨he, oke_mono hm ho⟩
  · rw [if_neg q] at hf
    obtain ⟨h1, h2⟩ := hP j f hf
    rw [hx j (Or.inl ⟨f, hf⟩), ce_ext hx h2]
    exact ⟨h1.kept (oq _ h1.lt), oke_mono hm h2⟩
theorem AD.push {D : va_G} {dA : Nat → ClassId} {ad : Nat → Nat} {w : Wd} {H : Heap} {A : Nat → Prop} (hD : AD A ad w) (hP : AP D dA ad w H) {r : Nat} (hr : r < 16) (h8 : r ≠ 8) (hl : r < w.length) {e : va_E} (hA : A H.size) : AD A (adn ad (keyw w r) H.size) (pushw w r e) := by
  have hx : ∀ j, domw w j → adn ad (keyw w r) H.size j = ad j := fun j => adn_dom hr h8
  have key : ∀ j f, look (pushw w r e) j = some f → (j = keyw w r ∧ adn ad (keyw w r) H.size j = H.size) ∨ (∃ g, look w j = some g ∧ adn ad (keyw w r) H.size j = ad j ∧ ad j < H.size) := by
    intro j f hf
    rw [look_pushw hr hl] at hf
    by_cases q : j = keyw w r
    · exact Or.inl ⟨q, by rw [q, adn_self]⟩
    · rw [if_neg q] at hf
      exact Or.inr ⟨f, hf, hx j (Or.inl ⟨f, hf⟩), hP.lt hf⟩
  refine ⟨fun i j a b hi hj hij => ?_, fun j a hj => ?_⟩
  · rcases key i a hi with ⟨i1, i2⟩ | ⟨g, i1, i2, i3⟩ <;> rcases key j b hj with ⟨j1, j2⟩ | ⟨g', j1, j2, j3⟩
    · rw [i1, j1]
    · omega
    · omega
    · exact hD.1 i j g g' i1 j1 (by rw [← i2, ← j2]; exact hij)
  · rcases key j a hj with ⟨i1, i2⟩ | ⟨g, i1, i2, i3⟩
    · rw [i2]; exact hA
    · rw [i2]; exact hD.2 j g i1
theorem AE.rf (w : Wd) (ad : Nat → Nat) : AE w ad w ad := fun _ h => ⟨rfl, h⟩
theorem AE.trans {w0 w w' : Wd} {ad0 ad ad' : Nat → Nat} (h1 : AE w0 ad0 w ad) (h2 : AE w ad w' ad') : AE w0 ad0 w' ad' := fun k hk => by
  obtain ⟨a1, a2⟩ := h1 k hk
  obtain ⟨b1, b2⟩ := h2 k a2
  exact ⟨b1.trans a1, b2⟩
theorem AE.upd {w : Wd} {ad : Nat → Nat} {k : Nat} {e0 e : va_E} (h : look w k = some e0) : AE w ad (updw w k e) ad := fun _ hj => ⟨rfl, domw_updw h hj⟩
theorem AE.push {w : Wd} {ad : Nat → Nat} {r q : Nat} {e : va_E} (hr : r < 16) (h8 : r ≠ 8) (hl : r < w.length) : AE w ad (pushw w r e) (adn ad (keyw w r) q) := fun _ hj => ⟨adn_dom hr h8 hj, domw_pushw hr hl hj⟩
end
section
/-! ### locals -/
def lk : List (Nat × Value) → Nat → Option Value
  | [], _ => none
  | q :: l, i => bif Nat.beq q.1 i then some q.2 else lk l i
def lset : List (Nat × Value) → Nat → Value → List (Nat × Value)
  | [], i, v => [(i, v)]
  | q :: l, i, v => bif Nat.beq q.1 i then (i, v) :: l else q :: lset l i v
/-- nothing that a store into i (and i + 1) would spoil, but i itself once -/
def lbad (q : Nat × Value) (i : Nat) (two : Bool) : Bool := (Nat.beq (q.1 + 1) i && Nat.beq q.2.category 2) || (two && Nat.beq q.1 (i + 1))
def lsok : List (Nat × Value) → Nat → Bool → Bool
  | [], _, _ => true
  | q :: l, i, two => bif Nat.beq q.1 i then l.all (fun q => !Nat.beq q.1 i && !lbad q i two) else (!lbad q i two && lsok l i two)
def lc (ad : Nat → Nat) (q : Nat × Value) : Nat × Value := (q.1, cv ad q.2)
theorem lk_mem {L : List (Nat × Value)} {i : Nat} {v : Value} (h : lk L i = some v) : (i, v) ∈ L := by
  induction L with
  | nil => cases h
  | cons q l ih =>
    unfold lk at h
    cases hb : Nat.beq q.1 i with
    | true =>
      rw [hb] at h
      have e := Nat.eq_of_beq_eq_true hb
      cases h
      subst e
      exact List.mem_cons_self
    | false =>
      rw [hb] at h
      exact List.mem_cons_of_mem _ (ih h)
theorem lset_mem {L : List (Nat × Value)} {i : Nat} {v : Value} {two : Bool} (hok : lsok L i two = true) {q : Nat × Value} (h : q ∈ lset L i v) : q = (i, v) ∨ (q ∈ L ∧ q.1 ≠ i ∧ lbad q i two = false) := by
  induction L with
  | nil => exact Or.inl (List.mem_singleton.mp h)
  | cons a l ih =>
    unfold lset at h
    unfold lsok at hok
    cases hb : Nat.beq a.1 i with
    | true =>
      rw [hb] at h hok
      rcases List.mem_cons.mp h with h | h
      · exact Or.inl h
      · have h2 := List.all_eq_true.mp hok q h
        simp only [Bool.and_eq_true, Bool.not_eq_true'] at h2
        exact Or.inr ⟨List.mem_cons_of_mem _ h, Nat.ne_of_beq_eq_false h2.1, h2.2⟩
    | false =>
      rw [hb] at h hok
      simp only [cond_false, Bool.and_eq_true, Bool.not_eq_true'] at hok
      rcases List.mem_cons.mp h with h | h
      · subst h
        exact Or.inr ⟨List.mem_cons_self, Nat.ne_of_beq_eq_false hb, hok.1⟩
      · rcases ih hok.2 h with h | ⟨h1, h2⟩
        · exact Or.inl h
        · exact Or.inr ⟨List.mem_cons_of_mem _ h1, h2⟩
theorem beqq (a b : Nat) : Nat.beq a b = (a == b) := by
  cases h : Nat.beq a b with
  | true => have := Nat.eq_of_beq_eq_true h; simp [this]
  | false => have := Nat.ne_of_beq_eq_false h; simp [this]
theorem lv_put {ls : Array Slot} {n : Nat} {ad : Nat → Nat} {L : List (Nat × Value)} {i : Nat} {v : Value} (hok : lsok L i false = true)
    (h : lv_has ls n ((i, cv ad v) :: (L.map (lc ad)).filter (fun q => !(q.1 == i) && !(q.1 + 1 == i && q.2.category == 2)))) : lv_has ls n ((lset L i v).map (lc ad)) := by
  refine ⟨h.1, h.2.1, fun q hq => ?_⟩
  obtain ⟨q', hq', rfl⟩ := List.mem_map.mp hq
  rcases lset_mem hok hq' with rfl | ⟨h1, h2, h3⟩
  · exact h.2.2 _ List.mem_cons_self
  · refine h.2.2 _ (List.mem_cons_of_mem _ (List.mem_filter.mpr ⟨List.mem_map.mpr ⟨q', h1, rfl⟩, ?_⟩))
    have e2 : (cv ad q'.2).category = q'.2.category := cv_cat ad q'.2
    unfold lbad at h3
    simp only [Bool.false_and, Bool.or_false] at h3
    show (!((lc ad q').1 == i) && !((lc ad q').1 + 1 == i && (lc ad q').2.category == 2)) = true
    show (!(q'.1 == i) && !(q'.1 + 1 == i && (cv ad q'.2).category == 2)) = true
    rw [e2]
    simp only [Bool.and_eq_true, Bool.not_eq_true', beq_eq_false_iff_ne, ne_eq]
    rw [beqq, beqq] at h3
    exact ⟨h2, h3⟩
theorem lv_put2 {ls : Array Slot} {n : Nat} {ad : Nat → Nat} {L : List (Nat × Value)} {i : Nat} {v : Value} (hok : lsok L i true = true)
    (h : lv_has ls n ((i, cv ad v) :: (L.map (lc ad)).filter (fun q => !(q.1 == i) && (!(q.1 == i + 1) && !(q.1 + 1 == i && q.2.category == 2))))) : lv_has ls n ((lset L i v).map (lc ad)) := by
  refine ⟨h.1, h.2.1, fun q hq => ?_⟩
  obtain ⟨q', hq', rfl⟩ := List.mem_map.mp hq
  rcases lset_mem hok hq' with rfl | ⟨h1, h2, h3⟩
  · exact h.2.2 _ List.mem_cons_self
  · refine h.2.2 _ (List.mem_cons_of_mem _ (List.mem_filter.mpr ⟨List.mem_map.mpr ⟨q', h1, rfl⟩, ?_⟩))
    have e2 : (cv ad q'.2).category = q'.2.category := cv_cat ad q'.2
    unfold lbad at h3
    simp only [Bool.true_and, Bool.or_eq_false_iff] at h3
    show (!(q'.1 == i) && (!(q'.1 == i + 1) && !(q'.1 + 1 == i && (cv ad q'.2).category == 2))) = true
    rw [e2]
    simp only [Bool.and_eq_true, Bool.not_eq_true', beq_eq_false_iff_ne, ne_eq]
    obtain ⟨h4, h5⟩ := h3
    rw [beqq, beqq] at h4
    exact ⟨h2, Nat.ne_of_beq_eq_false h5, h4⟩
/-! ### the judgement -/
abbrev Cx (mi : MI) (p : Program) (s : State) (m : MethodId) (args : Array Value) (meth : Method) (c : Code) (D : va_G) (dA : Nat → ClassId) (A : Nat → Prop) : Prop :=
  p.tables.exec = Jvm.exec ∧ c.code = mi.2.1 ∧ meth.sig.returnType = mi.2.2.2.1 ∧ c.maxLocals = mi.2.2.1 ∧ s.vm.findClass mi.1.cls = some m.cls ∧ (∀ w ∈ gtb, w.before args s = true) ∧ meth.locks = false ∧ meth.name = mi.1.name ∧ AK D dA s ∧ (∀ q, s.heap.size ≤ q → A q)
def rtOK (ret : Option FieldType) (r : Option Value) (i : Instr) : Prop :=
  (ret = none ∧ r = none ∧ i = .return_) ∨ (∃ ty v, ret = some ty ∧ r = some (.int v) ∧ i = .ireturn ∧ narrow ty (.int v) = .int v) ∨ (∃ v, ret = some .long ∧ r = some (.long v) ∧ i = .lreturn) ∨ (∃ n k, ret = some (.object n) ∧ r = some (.ref k) ∧ i = .areturn)
abbrev rmOf (mi : MI) (MC MS : Nat) : Room := { frames := mi.2.2.2.2.1, cells := MC, slots := MS, locals := mi.2.2.2.2.2 }
abbrev Zt : Type := Option Value → Wd → Nat → Nat → Prop
abbrev Pst : Type := State → (Nat → Prop) → Nat → Prop
def Rx (mi : MI) (Z : Zt) (MC MS : Nat) (l : Launch) (p : Program) (e : Env) (s : State) (m : MethodId) (args : Array Value) (below : List Frame) (meth : Method) (c : Code) (Q : State → Prop) (D : va_G) (dA : Nat → ClassId) (A : Nat → Prop) (w0 : Wd) (ad0 : Nat → Nat) : Prop :=
  ∀ (r : Option Value) (w' : Wd) (ad' : Nat → Nat) (H' : Heap) (locs' : List Loc) (nc' ns' pc' : Nat) (ls' : Array Slot) (i : Instr), Z r w' nc' ns' → AP D dA ad' w' H' → AD A ad' w' → va_S A s.heap H' locs' → AE w0 ad0 w' ad' → (∀ v, r = some v → okv w' v) → rtOK mi.2.2.2.1 r i → decode mi.2.1 pc' = .ok (i, 1) → nc' ≤ MC → ns' ≤ MS →
    W p l e (rmOf mi MC MS) s m args below meth c H' locs' nc' ns' Q (F0 m pc' ls' (r.toList.map (cv ad')))
abbrev SR (mi : MI) (Ψ : Pst) (MC MS : Nat) (s : State) (D : va_G) (dA : Nat → ClassId) (A : Nat → Prop) (w0 : Wd) (ad0 ad : Nat → Nat) (H : Heap) (locs : List Loc) (ls : Array Slot) (L : List (Nat × Value)) (st : List Value) (w : Wd) (nc ns : Nat) : Prop :=
  Ψ s A (ad 8) ∧ AE w0 ad0 w ad ∧ AP D dA ad w H ∧ AD A ad w ∧ va_S A s.heap H locs ∧ lv_has ls mi.2.2.1 (L.map (lc ad)) ∧ (∀ q ∈ L, okv w q.2) ∧ (∀ v ∈ st, okv w v) ∧ nc ≤ MC ∧ ns ≤ MS
/-- from the abstract state the method comes to an end that Z allows -/
def AW (mi : MI) (Ψ : Pst) (Z : Zt) (MC MS : Nat) (pc : Nat) (L : List (Nat × Value)) (st : List Value) (w : Wd) (nc ns : Nat) : Prop :=
  ∀ (l : Launch) (p : Program) (e : Env) (s : State) (m : MethodId) (args : Array Value) (below : List Frame) (meth : Method) (c : Code) (Q : State → Prop) (D : va_G) (dA : Nat → ClassId) (A : Nat → Prop) (w0 : Wd) (ad0 : Nat → Nat),
    Cx mi p s m args meth c D dA A → Rx mi Z MC MS l p e s m args below meth c Q D dA A w0 ad0 → ∀ (ad : Nat → Nat) (H : Heap) (locs : List Loc) (ls : Array Slot), SR mi Ψ MC MS s D dA A w0 ad0 ad H locs ls L st w nc ns →
      W p l e (rmOf mi MC MS) s m args below meth c H locs nc ns Q (F0 m pc ls (st.map (cv ad)))
/-! ### rows: decoded instructions -/
abbrev Dc (mi : MI) (pc : Nat) (i : Instr) (n pc' : Nat) : Prop := decode mi.2.1 pc = .ok (i, n) ∧ pc + n = pc'
abbrev Dj (mi : MI) (pc : Nat) (i : Int → Instr) (pc' tgt : Nat) : Prop := ∃ off : Int, decode mi.2.1 pc = .ok (i off, 3) ∧ pc + 3 = pc' ∧ (pc : Int) + off = (tgt : Int)
abbrev Dg (mi : MI) (pc pc' ci k : Nat) (C : String) (T : u_T) (N : Nat) : Prop := ∃ idx : Nat, decode mi.2.1 pc = .ok (.getfield idx, 3) ∧ pc + 3 = pc' ∧ classes[ci]? = some (C, T, N) ∧ k < N ∧ Cond.fieldLink mi.1.cls idx (T k).1 (T k).2.1 (T k).2.2.1 ∈ gtb ∧ (∀ w ∈ u_ws C T N, w ∈ gtb)
abbrev Dp (mi : MI) (pc pc' ci k : Nat) (C : String) (T : u_T) (N : Nat) : Prop := ∃ idx : Nat, decode mi.2.1 pc = .ok (.putfield idx, 3) ∧ pc + 3 = pc' ∧ classes[ci]? = some (C, T, N) ∧ k < N ∧ Cond.fieldLink mi.1.cls idx (T k).1 (T k).2.1 (T k).2.2.1 ∈ gtb ∧ (∀ w ∈ u_ws C T N, w ∈ gtb) ∧ (T k).2.2.2 = false
abbrev Df (mi : MI) (pc pc' ci k : Nat) (C : String) (T : u_T) (N : Nat) : Prop := ∃ idx : Nat, decode mi.2.1 pc = .ok (.putfield idx, 3) ∧ pc + 3 = pc' ∧ classes[ci]? = some (C, T, N) ∧ k < N ∧ Cond.fieldLink mi.1.cls idx (T k).1 (T k).2.1 (T k).2.2.1 ∈ gtb ∧ (∀ w ∈ u_ws C T N, w ∈ gtb) ∧ (T k).2.2.2 = true
abbrev Do (mi : MI) (pc pc' : Nat) : Prop := ∃ idx : Nat, decode mi.2.1 pc = .ok (.invokespecial idx, 3) ∧ pc + 3 = pc' ∧ Cond.methodLink mi.1.cls idx objectInit ∈ gtb ∧ Cond.instanceMethod objectInit ∈ gtb ∧ Cond.code objectInit ⟨#[0xb1]⟩ 1 none ∈ gtb ∧ 1 ≤ mi.2.2.2.2.1 ∧ 12 ≤ mi.2.2.2.2.2
abbrev Dn (mi : MI) (pc pc' ci : Nat) (C : String) (T : u_T) (N : Nat) : Prop := ∃ idx : Nat, decode mi.2.1 pc = .ok (.new idx, 3) ∧ pc + 3 = pc' ∧ classes[ci]? = some (C, T, N) ∧ Cond.classLink mi.1.cls idx C ∈ gtb ∧ Cond.instantiable C N ∈ gtb ∧ Cond.initialized C ∈ gtb ∧ (∀ w ∈ u_ws C T N, w ∈ gtb)
abbrev Da (mi : MI) (pc pc' : Nat) (C : String) : Prop := ∃ idx : Nat, decode mi.2.1 pc = .ok (.anewarray idx, 3) ∧ pc + 3 = pc' ∧ Cond.classLink mi.1.cls idx C ∈ gtb
abbrev Dk (mi : MI) (pc pc' : Nat) (v : Int32) : Prop := ∃ idx : Nat, (decode mi.2.1 pc = .ok (.ldc idx, 2) ∧ pc + 2 = pc' ∨ decode mi.2.1 pc = .ok (.ldc_w idx, 3) ∧ pc + 3 = pc') ∧ Cond.constant mi.1.cls idx v ∈ gtb
abbrev Dl (mi : MI) (pc pc' : Nat) (v : Int64) : Prop := ∃ idx : Nat, decode mi.2.1 pc = .ok (.ldc2_w idx, 3) ∧ pc + 3 = pc' ∧ Cond.constantLong mi.1.cls idx v ∈ gtb
abbrev rmFit (mi mi' : MI) : Prop := mi'.2.2.2.2.1 + 1 ≤ mi.2.2.2.2.1 ∧ 8 + (mi'.2.2.1 + 11) + mi'.2.2.2.2.2 ≤ mi.2.2.2.2.2
abbrev DcV (mi mi' : MI) (pc pc' : Nat) : Prop := ∃ idx : Nat, decode mi.2.1 pc = .ok (.invokevirtual idx, 3) ∧ pc + 3 = pc' ∧ Cond.methodLink mi.1.cls idx mi'.1 ∈ gtb ∧ rmFit mi mi'
abbrev DcS (mi mi' : MI) (pc pc' : Nat) : Prop := ∃ idx : Nat, decode mi.2.1 pc = .ok (.invokestatic idx, 3) ∧ pc + 3 = pc' ∧ Cond.methodLink mi.1.cls idx mi'.1 ∈ gtb ∧ rmFit mi mi'
abbrev DcI (mi mi' : MI) (pc pc' : Nat) : Prop := ∃ idx : Nat, decode mi.2.1 pc = .ok (.invokespecial idx, 3) ∧ pc + 3 = pc' ∧ Cond.methodLink mi.1.cls idx mi'.1 ∈ gtb ∧ rmFit mi mi'
abbrev DcN (mi mi' : MI) (pc pc' : Nat) : Prop := ∃ idx : Nat, decode mi.2.1 pc = .ok (.invokespecial idx, 3) ∧ pc + 3 = pc' ∧ Cond.methodLinkNest mi.1.cls idx mi'.1 R_br ∈ nests ∧ rmFit mi mi'
abbrev Kb (mi : MI) (n : Nat) : Prop := Cond.initialized mi.1.cls ∈ gtb ∧ Cond.code mi.1 mi.2.1 mi.2.2.1 mi.2.2.2.1 ∈ gtb ∧ mi.1.cls ≠ "java/lang/invoke/MethodHandle" ∧ mi.1.cls ≠ "java/lang/invoke/VarHandle" ∧ (parseMethodDescriptor mi.1.desc).map (fun d => d.parameters.length) = some n
abbrev KV (mi : MI) (n : Nat) : Prop := Cond.instanceMethod mi.1 ∈ gtb ∧ Cond.selects mi.1.cls mi.1 mi.1 ∈ gtb ∧ Kb mi n
abbrev KS (mi : MI) (n : Nat) : Prop := Cond.static mi.1 ∈ gtb ∧ Kb mi n
abbrev KI (mi : MI) (n : Nat) : Prop := Cond.instanceMethod mi.1 ∈ gtb ∧ mi.1.name = "<init>" ∧ mi.2.2.2.1 = none ∧ Kb mi n
theorem good_gtb {w : Cond} (h : w ∈ gtb) : (w.onTables && w.keeps) = true ∨ ∃ ty, w = .arrayClass ty := good_of_word (List.mem_filter.mp h).2
/-- the words of a method: its own code, and those that all have -/
def mws (mi : MI) : List Cond := Cond.code mi.1 mi.2.1 mi.2.2.1 mi.2.2.2.1 :: gtb
theorem mws_good {mi : MI} (h : Cond.code mi.1 mi.2.1 mi.2.2.1 mi.2.2.2.1 ∈ gtb) : GoodIn gtb (mws mi) := fun w hw => by
  rcases List.mem_cons.mp hw with rfl | hw
  · exact ⟨h, good_gtb h⟩
  · exact ⟨hw, good_gtb hw⟩
end
section
/-! ### a rule for each instruction (by program: wip/whole/genrules.py) -/
section Rules
variable {mi : MI} {Ψ : Pst} {Z : Zt} {MC MS : Nat} {pc pc' tgt : Nat} {L : List (Nat × Value)} {st st' : List Value} {w : Wd} {nc ns : Nat}
theorem aw_st (hst : (∀ v ∈ st, okv w v) → ∀ v ∈ st', okv w v)
    (hw : ∀ (l : Launch) (p : Program) (e : Env) (s : State) (m : MethodId) (args : Array Value) (below : List Frame) (meth : Method) (c : Code) (H : Heap) (locs : List Loc) (Q : State → Prop) (ls : Array Slot) (ad : Nat → Nat), p.tables.exec = Jvm.exec → c.code = mi.2.1 →
      W p l e (rmOf mi MC MS) s m args below meth c H locs nc ns Q (F0 m pc' ls (st'.map (cv ad))) → W p l e (rmOf mi MC MS) s m args below meth c H locs nc ns Q (F0 m pc ls (st.map (cv ad))))
    (k : AW mi Ψ Z MC MS pc' L st' w nc ns) : AW mi Ψ Z MC MS pc L st w nc ns := by
  intro l p e s m args below meth c Q D dA A w0 ad0 C R ad H locs ls h
  obtain ⟨h1, h2, h3, h4, h5, h6, h7, h8, h9, h10⟩ := h
  exact hw l p e s m args below meth c H locs Q ls ad C.1 C.2.1 (k l p e s m args below meth c Q D dA A w0 ad0 C R ad H locs ls ⟨h1, h2, h3, h4, h5, h6, h7, hst h8, h9, h10⟩)
theorem ok01 {a : Value} (ha : okv w a) (h : ∀ v ∈ st, okv w v) : ∀ v ∈ a :: st, okv w v := List.forall_mem_cons.mpr ⟨ha, h⟩
theorem okI {x : Int32} : okv w (.int x) := True.intro
theorem okL {x : Int64} : okv w (.long x) := True.intro
theorem ok1 {a : Value} (h : ∀ v ∈ a :: st, okv w v) : ∀ v ∈ st, okv w v := (List.forall_mem_cons.mp h).2
theorem ok1a {a : Value} (h : ∀ v ∈ a :: st, okv w v) : okv w a := (List.forall_mem_cons.mp h).1
theorem aw_iadd {x y : Int32} (d : Dc mi pc .iadd 1 pc') (k : AW mi Ψ Z MC MS pc' L (.int (x + y) :: st) w nc ns) : AW mi Ψ Z MC MS pc L (.int y :: .int x :: st) w nc ns := by
  obtain ⟨d, rfl⟩ := d
  exact aw_st (fun h => ok01 okI (ok1 (ok1 h))) (fun _ _ _ _ _ _ _ _ _ _ _ _ _ _ hx hb kk => lv_iadd hx hb d kk) k
theorem aw_isub {x y : Int32} (d : Dc mi pc .isub 1 pc') (k : AW mi Ψ Z MC MS pc' L (.int (x - y) :: st) w nc ns) : AW mi Ψ Z MC MS pc L (.int y :: .int x :: st) w nc ns := by
  obtain ⟨d, rfl⟩ := d
  exact aw_st (fun h => ok01 okI (ok1 (ok1 h))) (fun _ _ _ _ _ _ _ _ _ _ _ _ _ _ hx hb kk => lv_isub hx hb d kk) k
theorem aw_imul {x y : Int32} (d : Dc mi pc .imul 1 pc') (k : AW mi Ψ Z MC MS pc' L (.int (x * y) :: st) w nc ns) : AW mi Ψ Z MC MS pc L (.int y :: .int x :: st) w nc ns := by
  obtain ⟨d, rfl⟩ := d
  exact aw_st (fun h => ok01 okI (ok1 (ok1 h))) (fun _ _ _ _ _ _ _ _ _ _ _ _ _ _ hx hb kk => lv_imul hx hb d kk) k
theorem aw_iand {x y : Int32} (d : Dc mi pc .iand 1 pc') (k : AW mi Ψ Z MC MS pc' L (.int (x &&& y) :: st) w nc ns) : AW mi Ψ Z MC MS pc L (.int y :: .int x :: st) w nc ns := by
  obtain ⟨d, rfl⟩ := d
  exact aw_st (fun h => ok01 okI (ok1 (ok1 h))) (fun _ _ _ _ _ _ _ _ _ _ _ _ _ _ hx hb kk => lv_iand hx hb d kk) k
theorem aw_ior {x y : Int32} (d : Dc mi pc .ior 1 pc') (k : AW mi Ψ Z MC MS pc' L (.int (x ||| y) :: st) w nc ns) : AW mi Ψ Z MC MS pc L (.int y :: .int x :: st) w nc ns := by
  obtain ⟨d, rfl⟩ := d
  exact aw_st (fun h => ok01 okI (ok1 (ok1 h))) (fun _ _ _ _ _ _ _ _ _ _ _ _ _ _ hx hb kk => lv_ior hx hb d kk) k
theorem aw_ixor {x y : Int32} (d : Dc mi pc .ixor 1 pc') (k : AW mi Ψ Z MC MS pc' L (.int (x ^^^ y) :: st) w nc ns) : AW mi Ψ Z MC MS pc L (.int y :: .int x :: st) w nc ns := by
  obtain ⟨d, rfl⟩ := d
  exact aw_st (fun h => ok01 okI (ok1 (ok1 h))) (fun _ _ _ _ _ _ _ _ _ _ _ _ _ _ hx hb kk => lv_ixor hx hb d kk) k
theorem aw_ishl {x y : Int32} (d : Dc mi pc .ishl 1 pc') (k : AW mi Ψ Z MC MS pc' L (.int (x <<< (y &&& 31)) :: st) w nc ns) : AW mi Ψ Z MC MS pc L (.int y :: .int x :: st) w nc ns := by
  obtain ⟨d, rfl⟩ := d
  exact aw_st (fun h => ok01 okI (ok1 (ok1 h))) (fun _ _ _ _ _ _ _ _ _ _ _ _ _ _ hx hb kk => lv_ishl hx hb d kk) k
theorem aw_ishr {x y : Int32} (d : Dc mi pc .ishr 1 pc') (k : AW mi Ψ Z MC MS pc' L (.int (x >>> (y &&& 31)) :: st) w nc ns) : AW mi Ψ Z MC MS pc L (.int y :: .int x :: st) w nc ns := by
  obtain ⟨d, rfl⟩ := d
  exact aw_st (fun h => ok01 okI (ok1 (ok1 h))) (fun _ _ _ _ _ _ _ _ _ _ _ _ _ _ hx hb kk => lv_ishr hx hb d kk) k
theorem aw_idiv {x y : Int32} (d : Dc mi pc .idiv 1 pc') (hne : ¬ y = 0) (k : AW mi Ψ Z MC MS pc' L (.int (x / y) :: st) w nc ns) : AW mi Ψ Z MC MS pc L (.int y :: .int x :: st) w nc ns := by
  obtain ⟨d, rfl⟩ := d
  exact aw_st (fun h => ok01 okI (ok1 (ok1 h))) (fun _ _ _ _ _ _ _ _ _ _ _ _ _ _ hx hb kk => lv_idiv hx hb d hne kk) k
theorem aw_irem {x y : Int32} (d : Dc mi pc .irem 1 pc') (hne : ¬ y = 0) (k : AW mi Ψ Z MC MS pc' L (.int (x - x / y * y) :: st) w nc ns) : AW mi Ψ Z MC MS pc L (.int y :: .int x :: st) w nc ns := by
  obtain ⟨d, rfl⟩ := d
  exact aw_st (fun h => ok01 okI (ok1 (ok1 h))) (fun _ _ _ _ _ _ _ _ _ _ _ _ _ _ hx hb kk => lv_irem hx hb d hne kk) k
theorem aw_iushr {x y : Int32} (d : Dc mi pc .iushr 1 pc') (k : AW mi Ψ Z MC MS pc' L (.int ((x.toUInt32 >>> (y.toUInt32 &&& Int32.toUInt32 31)).toInt32) :: st) w nc ns) : AW mi Ψ Z MC MS pc L (.int y :: .int x :: st) w nc ns := by
  obtain ⟨d, rfl⟩ := d
  exact aw_st (fun h => ok01 okI (ok1 (ok1 h))) (fun _ _ _ _ _ _ _ _ _ _ _ _ _ _ hx hb kk => lv_iushr hx hb d rfl kk) k
theorem aw_ladd {x y : Int64} (d : Dc mi pc .ladd 1 pc') (k : AW mi Ψ Z MC MS pc' L (.long (x + y) :: st) w nc ns) : AW mi Ψ Z MC MS pc L (.long y :: .long x :: st) w nc ns := by
  obtain ⟨d, rfl⟩ := d
  exact aw_st (fun h => ok01 okL (ok1 (ok1 h))) (fun _ _ _ _ _ _ _ _ _ _ _ _ _ _ hx hb kk => lv_ladd hx hb d kk) k
theorem aw_lsub {x y : Int64} (d : Dc mi pc .lsub 1 pc') (k : AW mi Ψ Z MC MS pc' L (.long (x - y) :: st) w nc ns) : AW mi Ψ Z MC MS pc L (.long y :: .long x :: st) w nc ns := by
  obtain ⟨d, rfl⟩ := d
  exact aw_st (fun h => ok01 okL (ok1 (ok1 h))) (fun _ _ _ _ _ _ _ _ _ _ _ _ _ _ hx hb kk => lv_lsub hx hb d kk) k
theorem aw_lmul {x y : Int64} (d : Dc mi pc .lmul 1 pc') (k : AW mi Ψ Z MC MS pc' L (.long (x * y) :: st) w nc ns) : AW mi Ψ Z MC MS pc L (.long y :: .long x :: st) w nc ns := by
  obtain ⟨d, rfl⟩ := d
  exact aw_st (fun h => ok01 okL (ok1 (ok1 h))) (fun _ _ _ _ _ _ _ _ _ _ _ _ _ _ hx hb kk => lv_lmul hx hb d kk) k
theorem aw_land {x y : Int64} (d : Dc mi pc .land 1 pc') (k : AW mi Ψ Z MC MS pc' L (.long (x &&& y) :: st) w nc ns) : AW mi Ψ Z MC MS pc L (.long y :: .long x :: st) w nc ns := by
  obtain ⟨d, rfl⟩ := d
  exact aw_st (fun h => ok01 okL (ok1 (ok1 h))) (fun _ _ _ _ _ _ _ _ _ _ _ _ _ _ hx hb kk => lv_land hx hb d kk) k
theorem aw_lor {x y : Int64} (d : Dc mi pc .lor 1 pc') (k : AW mi Ψ Z MC MS pc' L (.long (x ||| y) :: st) w nc ns) : AW mi Ψ Z MC MS pc L (.long y :: .long x :: st) w nc ns := by
  obtain ⟨d, rfl⟩ := d
  exact aw_st (fun h => ok01 okL (ok1 (ok1 h))) (fun _ _ _ _ _ _ _ _ _ _ _ _ _ _ hx hb kk => lv_lor hx hb d kk) k
theorem aw_lxor {x y : Int64} (d : Dc mi pc .lxor 1 pc') (k : AW mi Ψ Z MC MS pc' L (.long (x ^^^ y) :: st) w nc ns) : AW mi Ψ Z MC MS pc L (.long y :: .long x :: st) w nc ns := by
  obtain ⟨d, rfl⟩ := d
  exact aw_st (fun h => ok01 okL (ok1 (ok1 h))) (fun _ _ _ _ _ _ _ _ _ _ _ _ _ _ hx hb kk => lv_lxor hx hb d kk) k
theorem aw_lrem {x y : Int64} (d : Dc mi pc .lrem 1 pc') (hne : ¬ y = 0) (k : AW mi Ψ Z MC MS pc' L (.long (x - x / y * y) :: st) w nc ns) : AW mi Ψ Z MC MS pc L (.long y :: .long x :: st) w nc ns := by
  obtain ⟨d, rfl⟩ := d
  exact aw_st (fun h => ok01 okL (ok1 (ok1 h))) (fun _ _ _ _ _ _ _ _ _ _ _ _ _ _ hx hb kk => lv_lrem hx hb d hne kk) k
theorem aw_ldiv {x y : Int64} (d : Dc mi pc .ldiv 1 pc') (hne : ¬ y = 0) (k : AW mi Ψ Z MC MS pc' L (.long (x / y) :: st) w nc ns) : AW mi Ψ Z MC MS pc L (.long y :: .long x :: st) w nc ns := by
  obtain ⟨d, rfl⟩ := d
  exact aw_st (fun h => ok01 okL (ok1 (ok1 h))) (fun _ _ _ _ _ _ _ _ _ _ _ _ _ _ hx hb kk => lv_ldiv hx hb d hne kk) k
theorem aw_lshl {x : Int64} {y : Int32} (d : Dc mi pc .lshl 1 pc') (k : AW mi Ψ Z MC MS pc' L (.long (x <<< (y.toInt64 &&& 63)) :: st) w nc ns) : AW mi Ψ Z MC MS pc L (.int y :: .long x :: st) w nc ns := by
  obtain ⟨d, rfl⟩ := d
  exact aw_st (fun h => ok01 okL (ok1 (ok1 h))) (fun _ _ _ _ _ _ _ _ _ _ _ _ _ _ hx hb kk => lv_lshl hx hb d rfl kk) k
theorem aw_lushr {x : Int64} {y : Int32} (d : Dc mi pc .lushr 1 pc') (k : AW mi Ψ Z MC MS pc' L (.long ((x.toUInt64 >>> (y.toInt64.toUInt64 &&& Int64.toUInt64 63)).toInt64) :: st) w nc ns) : AW mi Ψ Z MC MS pc L (.int y :: .long x :: st) w nc ns := by
  obtain ⟨d, rfl⟩ := d
  exact aw_st (fun h => ok01 okL (ok1 (ok1 h))) (fun _ _ _ _ _ _ _ _ _ _ _ _ _ _ hx hb kk => lv_lushr hx hb d rfl kk) k
theorem aw_i2l {x : Int32} (d : Dc mi pc .i2l 1 pc') (k : AW mi Ψ Z MC MS pc' L (.long (x.toInt64) :: st) w nc ns) : AW mi Ψ Z MC MS pc L (.int x :: st) w nc ns := by
  obtain ⟨d, rfl⟩ := d
  exact aw_st (fun h => ok01 okL (ok1 h)) (fun _ _ _ _ _ _ _ _ _ _ _ _ _ _ hx hb kk => lv_i2l hx hb d rfl kk) k
theorem aw_l2i {x : Int64} (d : Dc mi pc .l2i 1 pc') (k : AW mi Ψ Z MC MS pc' L (.int (x.toInt32) :: st) w nc ns) : AW mi Ψ Z MC MS pc L (.long x :: st) w nc ns := by
  obtain ⟨d, rfl⟩ := d
  exact aw_st (fun h => ok01 okI (ok1 h)) (fun _ _ _ _ _ _ _ _ _ _ _ _ _ _ hx hb kk => lv_l2i hx hb d rfl kk) k
theorem aw_i2b {x : Int32} (d : Dc mi pc .i2b 1 pc') (k : AW mi Ψ Z MC MS pc' L (.int (x.toInt8.toInt32) :: st) w nc ns) : AW mi Ψ Z MC MS pc L (.int x :: st) w nc ns := by
  obtain ⟨d, rfl⟩ := d
  exact aw_st (fun h => ok01 okI (ok1 h)) (fun _ _ _ _ _ _ _ _ _ _ _ _ _ _ hx hb kk => lv_i2b hx hb d rfl kk) k
theorem aw_lcmp {x y : Int64} (d : Dc mi pc .lcmp 1 pc') (k : AW mi Ψ Z MC MS pc' L (.int (lg_cmp x y) :: st) w nc ns) : AW mi Ψ Z MC MS pc L (.long y :: .long x :: st) w nc ns := by
  obtain ⟨d, rfl⟩ := d
  exact aw_st (fun h => ok01 okI (ok1 (ok1 h))) (fun _ _ _ _ _ _ _ _ _ _ _ _ _ _ hx hb kk => W.lcmp hx hb d kk) k
theorem aw_iconst (v : Int32) {n : Int} (d : Dc mi pc (.iconst n) 1 pc') (hv : Int32.ofInt n = v) (k : AW mi Ψ Z MC MS pc' L (.int v :: st) w nc ns) : AW mi Ψ Z MC MS pc L st w nc ns := by
  obtain ⟨d, rfl⟩ := d
  exact aw_st (fun h => ok01 okI h) (fun _ _ _ _ _ _ _ _ _ _ _ _ _ _ hx hb kk => lv_iconst hx hb d hv kk) k
theorem aw_bipush (v : Int32) {n : Int} (d : Dc mi pc (.bipush n) 2 pc') (hv : (Int8.ofInt n).toInt32 = v) (k : AW mi Ψ Z MC MS pc' L (.int v :: st) w nc ns) : AW mi Ψ Z MC MS pc L st w nc ns := by
  obtain ⟨d, rfl⟩ := d
  exact aw_st (fun h => ok01 okI h) (fun _ _ _ _ _ _ _ _ _ _ _ _ _ _ hx hb kk => lv_bipush hx hb d hv kk) k
theorem aw_sipush (v : Int32) {n : Int} (d : Dc mi pc (.sipush n) 3 pc') (hv : (Int16.ofInt n).toInt32 = v) (k : AW mi Ψ Z MC MS pc' L (.int v :: st) w nc ns) : AW mi Ψ Z MC MS pc L st w nc ns := by
  obtain ⟨d, rfl⟩ := d
  exact aw_st (fun h => ok01 okI h) (fun _ _ _ _ _ _ _ _ _ _ _ _ _ _ hx hb kk => lv_sipush hx hb d hv kk) k
theorem aw_lconst (v : Int64) {n : Fin 2} (d : Dc mi pc (.lconst n) 1 pc') (hv : Int64.ofNat (n : Nat) = v) (k : AW mi Ψ Z MC MS pc' L (.long v :: st) w nc ns) : AW mi Ψ Z MC MS pc L st w nc ns := by
  obtain ⟨d, rfl⟩ := d
  exact aw_st (fun h => ok01 okL h) (fun _ _ _ _ _ _ _ _ _ _ _ _ _ _ hx hb kk => lv_lconst hx hb d hv kk) k
theorem aw_dup {a : Value} (d : Dc mi pc .dup 1 pc') (ha : a.category = 1) (k : AW mi Ψ Z MC MS pc' L (a :: a :: st) w nc ns) : AW mi Ψ Z MC MS pc L (a :: st) w nc ns := by
  obtain ⟨d, rfl⟩ := d
  exact aw_st (fun h => ok01 (ok1a h) h) (fun _ _ _ _ _ _ _ _ _ _ _ _ _ ad hx hb kk => lv_dup hx hb d (by rw [cv_cat]; exact ha) kk) k
theorem aw_pop {a : Value} (d : Dc mi pc .pop 1 pc') (ha : a.category = 1) (k : AW mi Ψ Z MC MS pc' L st w nc ns) : AW mi Ψ Z MC MS pc L (a :: st) w nc ns := by
  obtain ⟨d, rfl⟩ := d
  exact aw_st (fun h => ok1 h) (fun _ _ _ _ _ _ _ _ _ _ _ _ _ ad hx hb kk => lv_pop hx hb d (by rw [cv_cat]; exact ha) kk) k
theorem aw_dup2_11 {a b : Value} (d : Dc mi pc .dup2 1 pc') (ha : a.category = 1) (hb' : b.category = 1) (k : AW mi Ψ Z MC MS pc' L (a :: b :: a :: b :: st) w nc ns) : AW mi Ψ Z MC MS pc L (a :: b :: st) w nc ns := by
  obtain ⟨d, rfl⟩ := d
  exact aw_st (fun h => ok01 (ok1a h) (ok01 (ok1a (ok1 h)) h)) (fun _ _ _ _ _ _ _ _ _ _ _ _ _ ad hx hb kk => lv_dup2_11 hx hb d (by rw [cv_cat]; exact ha) (by rw [cv_cat]; exact hb') kk) k
theorem aw_ldc {v : Int32} (d : Dk mi pc pc' v) (k : AW mi Ψ Z MC MS pc' L (.int v :: st) w nc ns) : AW mi Ψ Z MC MS pc L st w nc ns := by
  obtain ⟨idx, d, hk⟩ := d
  intro l p e s m args below meth c Q D dA A w0 ad0 C R ad H locs ls h
  have kk := k l p e s m args below meth c Q D dA A w0 ad0 C R ad H locs ls ⟨h.1, h.2.1, h.2.2.1, h.2.2.2.1, h.2.2.2.2.1, h.2.2.2.2.2.1, h.2.2.2.2.2.2.1, ok01 True.intro h.2.2.2.2.2.2.2.1, h.2.2.2.2.2.2.2.2⟩
  rcases d with ⟨d, rfl⟩ | ⟨d, rfl⟩
  · exact lv_ldc C.1 C.2.1 C.2.2.2.2.1 (C.2.2.2.2.2.1 _ hk) d kk
  · exact lv_ldcw C.1 C.2.1 C.2.2.2.2.1 (C.2.2.2.2.2.1 _ hk) d kk
theorem aw_ldc2 {v : Int64} (d : Dl mi pc pc' v) (k : AW mi Ψ Z MC MS pc' L (.long v :: st) w nc ns) : AW mi Ψ Z MC MS pc L st w nc ns := by
  obtain ⟨idx, d, rfl, hk⟩ := d
  intro l p e s m args below meth c Q D dA A w0 ad0 C R ad H locs ls h
  exact lv_ldc2 C.1 C.2.1 C.2.2.2.2.1 (C.2.2.2.2.2.1 _ hk) d (k l p e s m args below meth c Q D dA A w0 ad0 C R ad H locs ls ⟨h.1, h.2.1, h.2.2.1, h.2.2.2.1, h.2.2.2.2.1, h.2.2.2.2.2.1, h.2.2.2.2.2.2.1, ok01 True.intro h.2.2.2.2.2.2.2.1, h.2.2.2.2.2.2.2.2⟩)
theorem aw_if_eq {x : Int32} (d : Dj mi pc (.ifCond .eq) pc' tgt) (kt : x = 0 → AW mi Ψ Z MC MS tgt L st w nc ns) (kf : ¬ x = 0 → AW mi Ψ Z MC MS pc' L st w nc ns) : AW mi Ψ Z MC MS pc L (.int x :: st) w nc ns := by
  obtain ⟨off, d, rfl, ht⟩ := d
  intro l p e s m args below meth c Q D dA A w0 ad0 C R ad H locs ls h
  have h' : SR mi Ψ MC MS s D dA A w0 ad0 ad H locs ls L st w nc ns := ⟨h.1, h.2.1, h.2.2.1, h.2.2.2.1, h.2.2.2.2.1, h.2.2.2.2.2.1, h.2.2.2.2.2.2.1, ok1 h.2.2.2.2.2.2.2.1, h.2.2.2.2.2.2.2.2⟩
  exact lv_if_eq C.1 C.2.1 d ht (fun q => kt q l p e s m args below meth c Q D dA A w0 ad0 C R ad H locs ls h') (fun q => kf q l p e s m args below meth c Q D dA A w0 ad0 C R ad H locs ls h')
theorem aw_icmp_eq {x y : Int32} (d : Dj mi pc (.if_icmp .eq) pc' tgt) (kt : x = y → AW mi Ψ Z MC MS tgt L st w nc ns) (kf : ¬ x = y → AW mi Ψ Z MC MS pc' L st w nc ns) : AW mi Ψ Z MC MS pc L (.int y :: .int x :: st) w nc ns := by
  obtain ⟨off, d, rfl, ht⟩ := d
  intro l p e s m args below meth c Q D dA A w0 ad0 C R ad H locs ls h
  have h' : SR mi Ψ MC MS s D dA A w0 ad0 ad H locs ls L st w nc ns := ⟨h.1, h.2.1, h.2.2.1, h.2.2.2.1, h.2.2.2.2.1, h.2.2.2.2.2.1, h.2.2.2.2.2.2.1, ok1 (ok1 h.2.2.2.2.2.2.2.1), h.2.2.2.2.2.2.2.2⟩
  exact lv_icmp_eq C.1 C.2.1 d ht (fun q => kt q l p e s m args below meth c Q D dA A w0 ad0 C R ad H locs ls h') (fun q => kf q l p e s m args below meth c Q D dA A w0 ad0 C R ad H locs ls h')
theorem aw_if_ne {x : Int32} (d : Dj mi pc (.ifCond .ne) pc' tgt) (kt : ¬ x = 0 → AW mi Ψ Z MC MS tgt L st w nc ns) (kf : x = 0 → AW mi Ψ Z MC MS pc' L st w nc ns) : AW mi Ψ Z MC MS pc L (.int x :: st) w nc ns := by
  obtain ⟨off, d, rfl, ht⟩ := d
  intro l p e s m args below meth c Q D dA A w0 ad0 C R ad H locs ls h
  have h' : SR mi Ψ MC MS s D dA A w0 ad0 ad H locs ls L st w nc ns := ⟨h.1, h.2.1, h.2.2.1, h.2.2.2.1, h.2.2.2.2.1, h.2.2.2.2.2.1, h.2.2.2.2.2.2.1, ok1 h.2.2.2.2.2.2.2.1, h.2.2.2.2.2.2.2.2⟩
  exact lv_if_ne C.1 C.2.1 d ht (fun q => kt q l p e s m args below meth c Q D dA A w0 ad0 C R ad H locs ls h') (fun q => kf q l p e s m args below meth c Q D dA A w0 ad0 C R ad H locs ls h')
theorem aw_icmp_ne {x y : Int32} (d : Dj mi pc (.if_icmp .ne) pc' tgt) (kt : ¬ x = y → AW mi Ψ Z MC MS tgt L st w nc ns) (kf : x = y → AW mi Ψ Z MC MS pc' L st w nc ns) : AW mi Ψ Z MC MS pc L (.int y :: .int x :: st) w nc ns := by
  obtain ⟨off, d, rfl, ht⟩ := d
  intro l p e s m args below meth c Q D dA A w0 ad0 C R ad H locs ls h
  have h' : SR mi Ψ MC MS s D dA A w0 ad0 ad H locs ls L st w nc ns := ⟨h.1, h.2.1, h.2.2.1, h.2.2.2.1, h.2.2.2.2.1, h.2.2.2.2.2.1, h.2.2.2.2.2.2.1, ok1 (ok1 h.2.2.2.2.2.2.2.1), h.2.2.2.2.2.2.2.2⟩
  exact lv_icmp_ne C.1 C.2.1 d ht (fun q => kt q l p e s m args below meth c Q D dA A w0 ad0 C R ad H locs ls h') (fun q => kf q l p e s m args below meth c Q D dA A w0 ad0 C R ad H locs ls h')
theorem aw_if_lt {x : Int32} (d : Dj mi pc (.ifCond .lt) pc' tgt) (kt : x < 0 → AW mi Ψ Z MC MS tgt L st w nc ns) (kf : ¬ x < 0 → AW mi Ψ Z MC MS pc' L st w nc ns) : AW mi Ψ Z MC MS pc L (.int x :: st) w nc ns := by
  obtain ⟨off, d, rfl, ht⟩ := d
  intro l p e s m args below meth c Q D dA A w0 ad0 C R ad H locs ls h
  have h' : SR mi Ψ MC MS s D dA A w0 ad0 ad H locs ls L st w nc ns := ⟨h.1, h.2.1, h.2.2.1, h.2.2.2.1, h.2.2.2.2.1, h.2.2.2.2.2.1, h.2.2.2.2.2.2.1, ok1 h.2.2.2.2.2.2.2.1, h.2.2.2.2.2.2.2.2⟩
  exact lv_if_lt C.1 C.2.1 d ht (fun q => kt q l p e s m args below meth c Q D dA A w0 ad0 C R ad H locs ls h') (fun q => kf q l p e s m args below meth c Q D dA A w0 ad0 C R ad H locs ls h')
theorem aw_icmp_lt {x y : Int32} (d : Dj mi pc (.if_icmp .lt) pc' tgt) (kt : x < y → AW mi Ψ Z MC MS tgt L st w nc ns) (kf : ¬ x < y → AW mi Ψ Z MC MS pc' L st w nc ns) : AW mi Ψ Z MC MS pc L (.int y :: .int x :: st) w nc ns := by
  obtain ⟨off, d, rfl, ht⟩ := d
  intro l p e s m args below meth c Q D dA A w0 ad0 C R ad H locs ls h
  have h' : SR mi Ψ MC MS s D dA A w0 ad0 ad H locs ls L st w nc ns := ⟨h.1, h.2.1, h.2.2.1, h.2.2.2.1, h.2.2.2.2.1, h.2.2.2.2.2.1, h.2.2.2.2.2.2.1, ok1 (ok1 h.2.2.2.2.2.2.2.1), h.2.2.2.2.2.2.2.2⟩
  exact lv_icmp_lt C.1 C.2.1 d ht (fun q => kt q l p e s m args below meth c Q D dA A w0 ad0 C R ad H locs ls h') (fun q => kf q l p e s m args below meth c Q D dA A w0 ad0 C R ad H locs ls h')
theorem aw_if_ge {x : Int32} (d : Dj mi pc (.ifCond .ge) pc' tgt) (kt : 0 ≤ x → AW mi Ψ Z MC MS tgt L st w nc ns) (kf : ¬ 0 ≤ x → AW mi Ψ Z MC MS pc' L st w nc ns) : AW mi Ψ Z MC MS pc L (.int x :: st) w nc ns := by
  obtain ⟨off, d, rfl, ht⟩ := d
  intro l p e s m args below meth c Q D dA A w0 ad0 C R ad H locs ls h
  have h' : SR mi Ψ MC MS s D dA A w0 ad0 ad H locs ls L st w nc ns := ⟨h.1, h.2.1, h.2.2.1, h.2.2.2.1, h.2.2.2.2.1, h.2.2.2.2.2.1, h.2.2.2.2.2.2.1, ok1 h.2.2.2.2.2.2.2.1, h.2.2.2.2.2.2.2.2⟩
  exact lv_if_ge C.1 C.2.1 d ht (fun q => kt q l p e s m args below meth c Q D dA A w0 ad0 C R ad H locs ls h') (fun q => kf q l p e s m args below meth c Q D dA A w0 ad0 C R ad H locs ls h')
theorem aw_icmp_ge {x y : Int32} (d : Dj mi pc (.if_icmp .ge) pc' tgt) (kt : y ≤ x → AW mi Ψ Z MC MS tgt L st w nc ns) (kf : ¬ y ≤ x → AW mi Ψ Z MC MS pc' L st w nc ns) : AW mi Ψ Z MC MS pc L (.int y :: .int x :: st) w nc ns := by
  obtain ⟨off, d, rfl, ht⟩ := d
  intro l p e s m args below meth c Q D dA A w0 ad0 C R ad H locs ls h
  have h' : SR mi Ψ MC MS s D dA A w0 ad0 ad H locs ls L st w nc ns := ⟨h.1, h.2.1, h.2.2.1, h.2.2.2.1, h.2.2.2.2.1, h.2.2.2.2.2.1, h.2.2.2.2.2.2.1, ok1 (ok1 h.2.2.2.2.2.2.2.1), h.2.2.2.2.2.2.2.2⟩
  exact lv_icmp_ge C.1 C.2.1 d ht (fun q => kt q l p e s m args below meth c Q D dA A w0 ad0 C R ad H locs ls h') (fun q => kf q l p e s m args below meth c Q D dA A w0 ad0 C R ad H locs ls h')
theorem aw_if_gt {x : Int32} (d : Dj mi pc (.ifCond .gt) pc' tgt) (kt : 0 < x → AW mi Ψ Z MC MS tgt L st w nc ns) (kf : ¬ 0 < x → AW mi Ψ Z MC MS pc' L st w nc ns) : AW mi Ψ Z MC MS pc L (.int x :: st) w nc ns := by
  obtain ⟨off, d, rfl, ht⟩ := d
  intro l p e s m args below meth c Q D dA A w0 ad0 C R ad H locs ls h
  have h' : SR mi Ψ MC MS s D dA A w0 ad0 ad H locs ls L st w nc ns := ⟨h.1, h.2.1, h.2.2.1, h.2.2.2.1, h.2.2.2.2.1, h.2.2.2.2.2.1, h.2.2.2.2.2.2.1, ok1 h.2.2.2.2.2.2.2.1, h.2.2.2.2.2.2.2.2⟩
  exact lv_if_gt C.1 C.2.1 d ht (fun q => kt q l p e s m args below meth c Q D dA A w0 ad0 C R ad H locs ls h') (fun q => kf q l p e s m args below meth c Q D dA A w0 ad0 C R ad H locs ls h')
theorem aw_icmp_gt {x y : Int32} (d : Dj mi pc (.if_icmp .gt) pc' tgt) (kt : y < x → AW mi Ψ Z MC MS tgt L st w nc ns) (kf : ¬ y < x → AW mi Ψ Z MC MS pc' L st w nc ns) : AW mi Ψ Z MC MS pc L (.int y :: .int x :: st) w nc ns := by
  obtain ⟨off, d, rfl, ht⟩ := d
  intro l p e s m args below meth c Q D dA A w0 ad0 C R ad H locs ls h
  have h' : SR mi Ψ MC MS s D dA A w0 ad0 ad H locs ls L st w nc ns := ⟨h.1, h.2.1, h.2.2.1, h.2.2.2.1, h.2.2.2.2.1, h.2.2.2.2.2.1, h.2.2.2.2.2.2.1, ok1 (ok1 h.2.2.2.2.2.2.2.1), h.2.2.2.2.2.2.2.2⟩
  exact lv_icmp_gt C.1 C.2.1 d ht (fun q => kt q l p e s m args below meth c Q D dA A w0 ad0 C R ad H locs ls h') (fun q => kf q l p e s m args below meth c Q D dA A w0 ad0 C R ad H locs ls h')
theorem aw_if_le {x : Int32} (d : Dj mi pc (.ifCond .le) pc' tgt) (kt : x ≤ 0 → AW mi Ψ Z MC MS tgt L st w nc ns) (kf : ¬ x ≤ 0 → AW mi Ψ Z MC MS pc' L st w nc ns) : AW mi Ψ Z MC MS pc L (.int x :: st) w nc ns := by
  obtain ⟨off, d, rfl, ht⟩ := d
  intro l p e s m args below meth c Q D dA A w0 ad0 C R ad H locs ls h
  have h' : SR mi Ψ MC MS s D dA A w0 ad0 ad H locs ls L st w nc ns := ⟨h.1, h.2.1, h.2.2.1, h.2.2.2.1, h.2.2.2.2.1, h.2.2.2.2.2.1, h.2.2.2.2.2.2.1, ok1 h.2.2.2.2.2.2.2.1, h.2.2.2.2.2.2.2.2⟩
  exact lv_if_le C.1 C.2.1 d ht (fun q => kt q l p e s m args below meth c Q D dA A w0 ad0 C R ad H locs ls h') (fun q => kf q l p e s m args below meth c Q D dA A w0 ad0 C R ad H locs ls h')
theorem aw_icmp_le {x y : Int32} (d : Dj mi pc (.if_icmp .le) pc' tgt) (kt : x ≤ y → AW mi Ψ Z MC MS tgt L st w nc ns) (kf : ¬ x ≤ y → AW mi Ψ Z MC MS pc' L st w nc ns) : AW mi Ψ Z MC MS pc L (.int y :: .int x :: st) w nc ns := by
  obtain ⟨off, d, rfl, ht⟩ := d
  intro l p e s m args below meth c Q D dA A w0 ad0 C R ad H locs ls h
  have h' : SR mi Ψ MC MS s D dA A w0 ad0 ad H locs ls L st w nc ns := ⟨h.1, h.2.1, h.2.2.1, h.2.2.2.1, h.2.2.2.2.1, h.2.2.2.2.2.1, h.2.2.2.2.2.2.1, ok1 (ok1 h.2.2.2.2.2.2.2.1), h.2.2.2.2.2.2.2.2⟩
  exact lv_icmp_le C.1 C.2.1 d ht (fun q => kt q l p e s m args below meth c Q D dA A w0 ad0 C R ad H locs ls h') (fun q => kf q l p e s m args below meth c Q D dA A w0 ad0 C R ad H locs ls h')
theorem aw_goto (d : Dj mi pc .goto pc' tgt) (k : AW mi Ψ Z MC MS tgt L st w nc ns) : AW mi Ψ Z MC MS pc L st w nc ns := by
  obtain ⟨off, d, rfl, ht⟩ := d
  intro l p e s m args below meth c Q D dA A w0 ad0 C R ad H locs ls h
  exact lv_goto C.1 C.2.1 d ht (k l p e s m args below meth c Q D dA A w0 ad0 C R ad H locs ls h)
theorem aw_tableOut {dflt lo hi : Int} {offs : Array Int} {n : Nat} {x : Int32} (d : Dc mi pc (.tableswitch dflt lo hi offs) n pc') (h : x.toInt < lo ∨ hi < x.toInt) (ht : (pc : Int) + dflt = (tgt : Int)) (k : AW mi Ψ Z MC MS tgt L st w nc ns) : AW mi Ψ Z MC MS pc L (.int x :: st) w nc ns := by
  obtain ⟨d, -⟩ := d
  exact aw_st (fun h => ok1 h) (fun _ _ _ _ _ _ _ _ _ _ _ _ _ _ hx hb kk => lv_tableOut hx hb d h ht kk) k
theorem aw_tableIn {dflt lo hi : Int} {offs : Array Int} {n : Nat} {x : Int32} {off : Int} (d : Dc mi pc (.tableswitch dflt lo hi offs) n pc') (h1 : ¬ x.toInt < lo) (h2 : ¬ hi < x.toInt) (ho : offs[(x.toInt - lo).toNat]? = some off) (ht : (pc : Int) + off = (tgt : Int)) (k : AW mi Ψ Z MC MS tgt L st w nc ns) : AW mi Ψ Z MC MS pc L (.int x :: st) w nc ns := by
  obtain ⟨d, -⟩ := d
  exact aw_st (fun h => ok1 h) (fun _ _ _ _ _ _ _ _ _ _ _ _ _ _ hx hb kk => lv_tableIn hx hb d h1 h2 ho ht kk) k
theorem aw_lookup {dflt : Int} {ps : Array (Int × Int)} {n : Nat} {x : Int32} {off : Int} (d : Dc mi pc (.lookupswitch dflt ps) n pc') (hp : (ps.toList.zip (ps.toList.drop 1)).all (fun (a, next) => a.1 < next.1) = true) (ho : Op.lookupswitch.offset ps.toList dflt x.toInt = off) (ht : (pc : Int) + off = (tgt : Int)) (k : AW mi Ψ Z MC MS tgt L st w nc ns) : AW mi Ψ Z MC MS pc L (.int x :: st) w nc ns := by
  obtain ⟨d, -⟩ := d
  exact aw_st (fun h => ok1 h) (fun _ _ _ _ _ _ _ _ _ _ _ _ _ _ hx hb kk => lv_lookup hx hb d hp ho ht kk) k
theorem aw_iload_n (i : Nat) {j : Fin 4} {x : Int32} (d : Dc mi pc (.iload_n j) 1 pc') (hi : (j : Nat) = i) (hl : lk L i = some (.int x)) (k : AW mi Ψ Z MC MS pc' L (.int x :: st) w nc ns) : AW mi Ψ Z MC MS pc L st w nc ns := by
  obtain ⟨d, rfl⟩ := d
  intro l p e s m args below meth c Q D dA A w0 ad0 C R ad H locs ls h
  have hm := lk_mem hl
  exact lv_iload_n C.1 C.2.1 d hi (h.2.2.2.2.2.1.2.2 _ (List.mem_map.mpr ⟨_, hm, rfl⟩)) (k l p e s m args below meth c Q D dA A w0 ad0 C R ad H locs ls ⟨h.1, h.2.1, h.2.2.1, h.2.2.2.1, h.2.2.2.2.1, h.2.2.2.2.2.1, h.2.2.2.2.2.2.1, ok01 (h.2.2.2.2.2.2.1 _ hm) h.2.2.2.2.2.2.2.1, h.2.2.2.2.2.2.2.2⟩)
theorem aw_iload {i : Nat} {x : Int32} (d : Dc mi pc (.iload i) 2 pc') (hl : lk L i = some (.int x)) (k : AW mi Ψ Z MC MS pc' L (.int x :: st) w nc ns) : AW mi Ψ Z MC MS pc L st w nc ns := by
  obtain ⟨d, rfl⟩ := d
  intro l p e s m args below meth c Q D dA A w0 ad0 C R ad H locs ls h
  have hm := lk_mem hl
  exact lv_iload C.1 C.2.1 d (h.2.2.2.2.2.1.2.2 _ (List.mem_map.mpr ⟨_, hm, rfl⟩)) (k l p e s m args below meth c Q D dA A w0 ad0 C R ad H locs ls ⟨h.1, h.2.1, h.2.2.1, h.2.2.2.1, h.2.2.2.2.1, h.2.2.2.2.2.1, h.2.2.2.2.2.2.1, ok01 (h.2.2.2.2.2.2.1 _ hm) h.2.2.2.2.2.2.2.1, h.2.2.2.2.2.2.2.2⟩)
theorem aw_istore_n (i : Nat) {j : Fin 4} {x : Int32} (d : Dc mi pc (.istore_n j) 1 pc') (hi : (j : Nat) = i) (hn : i < mi.2.2.1) (hok : lsok L i false = true) (k : AW mi Ψ Z MC MS pc' (lset L i (.int x)) st w nc ns) : AW mi Ψ Z MC MS pc L (.int x :: st) w nc ns := by
  obtain ⟨d, rfl⟩ := d
  intro l p e s m args below meth c Q D dA A w0 ad0 C R ad H locs ls h
  exact lv_istore_n C.1 C.2.1 d hi h.2.2.2.2.2.1 hn rfl (fun ls' hl' => k l p e s m args below meth c Q D dA A w0 ad0 C R ad H locs ls' ⟨h.1, h.2.1, h.2.2.1, h.2.2.2.1, h.2.2.2.2.1, lv_put (v := .int x) hok hl', (fun q hq => (lset_mem hok hq).elim (fun e => by rw [e]; exact ok1a h.2.2.2.2.2.2.2.1) (fun e => h.2.2.2.2.2.2.1 q e.1)), ok1 h.2.2.2.2.2.2.2.1, h.2.2.2.2.2.2.2.2⟩)
theorem aw_istore {i : Nat} {x : Int32} (d : Dc mi pc (.istore i) 2 pc') (hn : i < mi.2.2.1) (hok : lsok L i false = true) (k : AW mi Ψ Z MC MS pc' (lset L i (.int x)) st w nc ns) : AW mi Ψ Z MC MS pc L (.int x :: st) w nc ns := by
  obtain ⟨d, rfl⟩ := d
  intro l p e s m args below meth c Q D dA A w0 ad0 C R ad H locs ls h
  exact lv_istore C.1 C.2.1 d h.2.2.2.2.2.1 hn rfl (fun ls' hl' => k l p e s m args below meth c Q D dA A w0 ad0 C R ad H locs ls' ⟨h.1, h.2.1, h.2.2.1, h.2.2.2.1, h.2.2.2.2.1, lv_put (v := .int x) hok hl', (fun q hq => (lset_mem hok hq).elim (fun e => by rw [e]; exact ok1a h.2.2.2.2.2.2.2.1) (fun e => h.2.2.2.2.2.2.1 q e.1)), ok1 h.2.2.2.2.2.2.2.1, h.2.2.2.2.2.2.2.2⟩)
theorem aw_lload_n (i : Nat) {j : Fin 4} {x : Int64} (d : Dc mi pc (.lload_n j) 1 pc') (hi : (j : Nat) = i) (hl : lk L i = some (.long x)) (k : AW mi Ψ Z MC MS pc' L (.long x :: st) w nc ns) : AW mi Ψ Z MC MS pc L st w nc ns := by
  obtain ⟨d, rfl⟩ := d
  intro l p e s m args below meth c Q D dA A w0 ad0 C R ad H locs ls h
  have hm := lk_mem hl
  exact lv_lload_n C.1 C.2.1 d hi (h.2.2.2.2.2.1.2.2 _ (List.mem_map.mpr ⟨_, hm, rfl⟩)) (k l p e s m args below meth c Q D dA A w0 ad0 C R ad H locs ls ⟨h.1, h.2.1, h.2.2.1, h.2.2.2.1, h.2.2.2.2.1, h.2.2.2.2.2.1, h.2.2.2.2.2.2.1, ok01 (h.2.2.2.2.2.2.1 _ hm) h.2.2.2.2.2.2.2.1, h.2.2.2.2.2.2.2.2⟩)
theorem aw_lload {i : Nat} {x : Int64} (d : Dc mi pc (.lload i) 2 pc') (hl : lk L i = some (.long x)) (k : AW mi Ψ Z MC MS pc' L (.long x :: st) w nc ns) : AW mi Ψ Z MC MS pc L st w nc ns := by
  obtain ⟨d, rfl⟩ := d
  intro l p e s m args below meth c Q D dA A w0 ad0 C R ad H locs ls h
  have hm := lk_mem hl
  exact lv_lload C.1 C.2.1 d (h.2.2.2.2.2.1.2.2 _ (List.mem_map.mpr ⟨_, hm, rfl⟩)) (k l p e s m args below meth c Q D dA A w0 ad0 C R ad H locs ls ⟨h.1, h.2.1, h.2.2.1, h.2.2.2.1, h.2.2.2.2.1, h.2.2.2.2.2.1, h.2.2.2.2.2.2.1, ok01 (h.2.2.2.2.2.2.1 _ hm) h.2.2.2.2.2.2.2.1, h.2.2.2.2.2.2.2.2⟩)
theorem aw_lstore_n (i : Nat) {j : Fin 4} {x : Int64} (d : Dc mi pc (.lstore_n j) 1 pc') (hi : (j : Nat) = i) (hn : i + 1 < mi.2.2.1) (hok : lsok L i true = true) (k : AW mi Ψ Z MC MS pc' (lset L i (.long x)) st w nc ns) : AW mi Ψ Z MC MS pc L (.long x :: st) w nc ns := by
  obtain ⟨d, rfl⟩ := d
  intro l p e s m args below meth c Q D dA A w0 ad0 C R ad H locs ls h
  exact lv_lstore_n C.1 C.2.1 d hi h.2.2.2.2.2.1 hn rfl (fun ls' hl' => k l p e s m args below meth c Q D dA A w0 ad0 C R ad H locs ls' ⟨h.1, h.2.1, h.2.2.1, h.2.2.2.1, h.2.2.2.2.1, lv_put2 (v := .long x) hok hl', (fun q hq => (lset_mem hok hq).elim (fun e => by rw [e]; exact ok1a h.2.2.2.2.2.2.2.1) (fun e => h.2.2.2.2.2.2.1 q e.1)), ok1 h.2.2.2.2.2.2.2.1, h.2.2.2.2.2.2.2.2⟩)
theorem aw_lstore {i : Nat} {x : Int64} (d : Dc mi pc (.lstore i) 2 pc') (hn : i + 1 < mi.2.2.1) (hok : lsok L i true = true) (k : AW mi Ψ Z MC MS pc' (lset L i (.long x)) st w nc ns) : AW mi Ψ Z MC MS pc L (.long x :: st) w nc ns := by
  obtain ⟨d, rfl⟩ := d
  intro l p e s m args below meth c Q D dA A w0 ad0 C R ad H locs ls h
  exact lv_lstore C.1 C.2.1 d h.2.2.2.2.2.1 hn rfl (fun ls' hl' => k l p e s m args below meth c Q D dA A w0 ad0 C R ad H locs ls' ⟨h.1, h.2.1, h.2.2.1, h.2.2.2.1, h.2.2.2.2.1, lv_put2 (v := .long x) hok hl', (fun q hq => (lset_mem hok hq).elim (fun e => by rw [e]; exact ok1a h.2.2.2.2.2.2.2.1) (fun e => h.2.2.2.2.2.2.1 q e.1)), ok1 h.2.2.2.2.2.2.2.1, h.2.2.2.2.2.2.2.2⟩)
theorem aw_aload_n (i : Nat) {j : Fin 4} {x : Nat} (d : Dc mi pc (.aload_n j) 1 pc') (hi : (j : Nat) = i) (hl : lk L i = some (.ref x)) (k : AW mi Ψ Z MC MS pc' L (.ref x :: st) w nc ns) : AW mi Ψ Z MC MS pc L st w nc ns := by
  obtain ⟨d, rfl⟩ := d
  intro l p e s m args below meth c Q D dA A w0 ad0 C R ad H locs ls h
  have hm := lk_mem hl
  exact lv_aload_n C.1 C.2.1 d hi (h.2.2.2.2.2.1.2.2 _ (List.mem_map.mpr ⟨_, hm, rfl⟩)) (k l p e s m args below meth c Q D dA A w0 ad0 C R ad H locs ls ⟨h.1, h.2.1, h.2.2.1, h.2.2.2.1, h.2.2.2.2.1, h.2.2.2.2.2.1, h.2.2.2.2.2.2.1, ok01 (h.2.2.2.2.2.2.1 _ hm) h.2.2.2.2.2.2.2.1, h.2.2.2.2.2.2.2.2⟩)
theorem aw_aload {i : Nat} {x : Nat} (d : Dc mi pc (.aload i) 2 pc') (hl : lk L i = some (.ref x)) (k : AW mi Ψ Z MC MS pc' L (.ref x :: st) w nc ns) : AW mi Ψ Z MC MS pc L st w nc ns := by
  obtain ⟨d, rfl⟩ := d
  intro l p e s m args below meth c Q D dA A w0 ad0 C R ad H locs ls h
  have hm := lk_mem hl
  exact lv_aload C.1 C.2.1 d (h.2.2.2.2.2.1.2.2 _ (List.mem_map.mpr ⟨_, hm, rfl⟩)) (k l p e s m args below meth c Q D dA A w0 ad0 C R ad H locs ls ⟨h.1, h.2.1, h.2.2.1, h.2.2.2.1, h.2.2.2.2.1, h.2.2.2.2.2.1, h.2.2.2.2.2.2.1, ok01 (h.2.2.2.2.2.2.1 _ hm) h.2.2.2.2.2.2.2.1, h.2.2.2.2.2.2.2.2⟩)
theorem aw_astore_n (i : Nat) {j : Fin 4} {x : Nat} (d : Dc mi pc (.astore_n j) 1 pc') (hi : (j : Nat) = i) (hn : i < mi.2.2.1) (hok : lsok L i false = true) (k : AW mi Ψ Z MC MS pc' (lset L i (.ref x)) st w nc ns) : AW mi Ψ Z MC MS pc L (.ref x :: st) w nc ns := by
  obtain ⟨d, rfl⟩ := d
  intro l p e s m args below meth c Q D dA A w0 ad0 C R ad H locs ls h
  exact lv_astore_n C.1 C.2.1 d hi h.2.2.2.2.2.1 hn rfl (fun ls' hl' => k l p e s m args below meth c Q D dA A w0 ad0 C R ad H locs ls' ⟨h.1, h.2.1, h.2.2.1, h.2.2.2.1, h.2.2.2.2.1, lv_put (v := .ref x) hok hl', (fun q hq => (lset_mem hok hq).elim (fun e => by rw [e]; exact ok1a h.2.2.2.2.2.2.2.1) (fun e => h.2.2.2.2.2.2.1 q e.1)), ok1 h.2.2.2.2.2.2.2.1, h.2.2.2.2.2.2.2.2⟩)
theorem aw_astore {i : Nat} {x : Nat} (d : Dc mi pc (.astore i) 2 pc') (hn : i < mi.2.2.1) (hok : lsok L i false = true) (k : AW mi Ψ Z MC MS pc' (lset L i (.ref x)) st w nc ns) : AW mi Ψ Z MC MS pc L (.ref x :: st) w nc ns := by
  obtain ⟨d, rfl⟩ := d
  intro l p e s m args below meth c Q D dA A w0 ad0 C R ad H locs ls h
  exact lv_astore C.1 C.2.1 d h.2.2.2.2.2.1 hn rfl (fun ls' hl' => k l p e s m args below meth c Q D dA A w0 ad0 C R ad H locs ls' ⟨h.1, h.2.1, h.2.2.1, h.2.2.2.1, h.2.2.2.2.1, lv_put (v := .ref x) hok hl', (fun q hq => (lset_mem hok hq).elim (fun e => by rw [e]; exact ok1a h.2.2.2.2.2.2.2.1) (fun e => h.2.2.2.2.2.2.1 q e.1)), ok1 h.2.2.2.2.2.2.2.1, h.2.2.2.2.2.2.2.2⟩)
theorem aw_iinc {i : Nat} {n : Int} {x : Int32} (v : Int32) (d : Dc mi pc (.iinc i n) 3 pc') (hl : lk L i = some (.int x)) (hv : x + Int32.ofInt n = v) (hn : i < mi.2.2.1) (hok : lsok L i false = true) (k : AW mi Ψ Z MC MS pc' (lset L i (.int v)) st w nc ns) : AW mi Ψ Z MC MS pc L st w nc ns := by
  obtain ⟨d, rfl⟩ := d
  intro l p e s m args below meth c Q D dA A w0 ad0 C R ad H locs ls h
  have hm : (i, Value.int x) ∈ L.map (lc ad) := List.mem_map.mpr ⟨_, lk_mem hl, rfl⟩
  obtain ⟨kx, hkx⟩ := List.getElem?_of_mem hm
  exact lv_iinc C.1 C.2.1 d h.2.2.2.2.2.1 hkx hv hn rfl (fun ls' hl' => k l p e s m args below meth c Q D dA A w0 ad0 C R ad H locs ls' ⟨h.1, h.2.1, h.2.2.1, h.2.2.2.1, h.2.2.2.2.1, lv_put (v := .int v) hok hl', (fun q hq => (lset_mem hok hq).elim (fun e => by rw [e]; exact True.intro) (fun e => h.2.2.2.2.2.2.1 q e.1)), h.2.2.2.2.2.2.2.1, h.2.2.2.2.2.2.2.2⟩)
/-- fewer locals -/
theorem aw_locs {L' : List (Nat × Value)} (hs : ∀ q ∈ L', q ∈ L) (k : AW mi Ψ Z MC MS pc L' st w nc ns) : AW mi Ψ Z MC MS pc L st w nc ns := by
  intro l p e s m args below meth c Q D dA A w0 ad0 C R ad H locs ls h
  refine k l p e s m args below meth c Q D dA A w0 ad0 C R ad H locs ls ⟨h.1, h.2.1, h.2.2.1, h.2.2.2.1, h.2.2.2.2.1, ⟨h.2.2.2.2.2.1.1, h.2.2.2.2.2.1.2.1, fun q hq => ?_⟩, fun q hq => h.2.2.2.2.2.2.1 q (hs q hq), h.2.2.2.2.2.2.2⟩
  obtain ⟨q', hq', rfl⟩ := List.mem_map.mp hq
  exact h.2.2.2.2.2.1.2.2 _ (List.mem_map.mpr ⟨q', hs q' hq', rfl⟩)
theorem aw_take (n : Nat) (k : AW mi Ψ Z MC MS pc (L.take n) st w nc ns) : AW mi Ψ Z MC MS pc L st w nc ns := aw_locs (fun _ hq => List.mem_of_mem_take hq) k
/-- room that isn't used -/
theorem aw_widen {nc' ns' : Nat} (h1 : nc ≤ nc') (h2 : ns ≤ ns') (h3 : nc' ≤ MC) (h4 : ns' ≤ MS) (k : AW mi Ψ Z MC MS pc L st w nc' ns') : AW mi Ψ Z MC MS pc L st w nc ns := by
  intro l p e s m args below meth c Q D dA A w0 ad0 C R ad H locs ls h
  exact W.widen h1 h2 (k l p e s m args below meth c Q D dA A w0 ad0 C R ad H locs ls ⟨h.1, h.2.1, h.2.2.1, h.2.2.2.1, h.2.2.2.2.1, h.2.2.2.2.2.1, h.2.2.2.2.2.2.1, h.2.2.2.2.2.2.2.1, h3, h4⟩)
end Rules
end
section
/-! ### the heap's rules -/
abbrev Tc (T : u_T) (N : Nat) (ty : Nat → FieldType) : Prop := (∀ k, k < N → parseFieldDescriptor (T k).2.2.1 = some (ty k)) ∧ (∀ a, a < N → ∀ b, b < N → a ≠ b → (T a).2.1 ≠ (T b).2.1)
theorem tc_rg : Tc T_rg 5 ty_rg := ⟨ty_rg_ok, nm_rg⟩
theorem tc_ri : Tc T_ri 11 ty_ri := ⟨ty_ri_ok, nm_ri⟩
theorem tc_rr : Tc T_rr 6 ty_rr := ⟨ty_rr_ok, nm_rr⟩
theorem tc_sh : Tc T_sh 3 ty_sh := ⟨ty_sh_ok, nm_sh⟩
theorem tc_tr : Tc T_tr 2 ty_tr := ⟨ty_tr_ok, nm_tr⟩
theorem tc_br : Tc T_br 7 ty_br := ⟨ty_br_ok, nm_br⟩
theorem tc_mo : Tc T_mo 21 ty_mo := ⟨ty_mo_ok, nm_mo⟩
theorem narrow_cv {ty : FieldType} {v : Value} (ad : Nat → Nat) (h : narrow ty v = v) : narrow ty (cv ad v) = cv ad v := by
  cases v <;> first | exact h | (cases ty <;> rfl)
theorem fits_cv {ty : FieldType} {v : Value} (ad : Nat → Nat) (h : fits ty v = true) : fits ty (cv ad v) = true := by
  cases v <;> first | exact h | (cases ty <;> first | rfl | cases h)
theorem ce_arr {dA : Nat → ClassId} {ad : Nat → Nat} {t n : Nat} {f : Nat → Int32} : ce dA ad (.inl (t, n, .inl f)) = .inl (dA t, n, .inl f) := rfl
section Heap
variable {mi : MI} {Ψ : Pst} {Z : Zt} {MC MS : Nat} {pc pc' : Nat} {L : List (Nat × Value)} {st : List Value} {w : Wd} {nc ns : Nat}
theorem aw_get {q ci k : Nat} {C : String} {T : u_T} {N : Nat} {fs : List Value} {v : Value} (d : Dg mi pc pc' ci k C T N) (hq : look w q = some (.inr (ci, fs))) (hv : fs[k]? = some v) (kk : AW mi Ψ Z MC MS pc' L (v :: st) w nc ns) : AW mi Ψ Z MC MS pc L (.ref q :: st) w nc ns := by
  obtain ⟨idx, d, rfl, hc, hk, hlink, hin⟩ := d
  intro l p e s m args below meth c Q D dA A w0 ad0 C0 R ad H locs ls h
  obtain ⟨hx, hb, hr, hml, hown, hts, hlocks, hnm, hK, hA⟩ := C0
  obtain ⟨g1, g2, hP, hD, hS, hl, hwl, hws, g9, g10⟩ := h
  obtain ⟨a1, a2⟩ := hP q _ hq
  have hP' : va_P D classes [(ad q, .inr (ci, fs.map (cv ad)))] H := by
    intro j x hj
    match j, hj with
    | 0, hj => cases hj; exact a1
    | j + 1, hj => simp at hj
  have hv' : (fs.map (cv ad))[k]? = some (cv ad v) := by rw [List.getElem?_map, hv]; rfl
  exact va_get (D := D) (ci := ci) (C := C) (T := T) (N := N) hx hb hts hin hown hK.1 hP' 0 rfl hc k hk (hts _ hlink) (fun _ h => h) hv' d
    (kk l p e s m args below meth c Q D dA A w0 ad0 ⟨hx, hb, hr, hml, hown, hts, hlocks, hnm, hK, hA⟩ R ad H locs ls ⟨g1, g2, hP, hD, hS, hl, hwl, ok01 (a2 v (List.mem_of_getElem? hv)) (ok1 hws), g9, g10⟩)
theorem aw_put {q ci k : Nat} {C : String} {T : u_T} {N : Nat} {ty : Nat → FieldType} {fs : List Value} {v : Value} (tc : Tc T N ty) (d : Dp mi pc pc' ci k C T N) (hq : look w q = some (.inr (ci, fs))) (hl0 : k < fs.length) (hn : narrow (ty k) v = v) (hf : fits (ty k) v = true) (kk : AW mi Ψ Z MC MS pc' L st (updw w q (.inr (ci, fs.set k v))) nc ns) : AW mi Ψ Z MC MS pc L (v :: .ref q :: st) w nc ns := by
  obtain ⟨idx, d, rfl, hc, hk, hlink, hin, hfin⟩ := d
  intro l p e s m args below meth c Q D dA A w0 ad0 C0 R ad H locs ls h
  obtain ⟨hx, hb, hr, hml, hown, hts, hlocks, hnm, hK, hA⟩ := C0
  obtain ⟨g1, g2, hP, hD, hS, hl, hwl, hws, g9, g10⟩ := h
  have hq0 := hP q _ hq
  have hap := va_apart (own := mi.1.cls) hts hin ty tc.1 tc.2 hK.1 hc
  obtain ⟨⟨r, h1, cell, q1, q2, q3, q4⟩, hok⟩ := hq0
  have hr' : r = (C, T, N) := Option.some.inj (h1.symm.trans hc)
  subst hr'
  obtain ⟨hSl, hfc, kC, hkC, hkind⟩ := hK.1.1 ci _ hc
  obtain ⟨cf, kf, fi, f, hi, hsl⟩ := hSl k hk
  have hlay := hts _ (hin _ (u_in_lay hk))
  unfold u_lay at hlay
  rw [if_neg (by rw [hfin]; decide)] at hlay
  have hst := (u_facts hfc hkC (u_lays hts hin hk) hi).1
  have h6 := u_store hfc hkC hkind hlay hi (tc.1 k hk) (narrow_cv ad hn) (fits_cv ad hf)
  have hmv : ∀ j, domw w j → domw (updw w q (.inr (ci, fs.set k v))) j := fun j => domw_updw hq
  refine W.putK hx hb (f := f) ⟨hown, hts _ hlink, ⟨_, _, _, hi⟩, hst⟩ (by rw [q2]; exact h6) q1 q3 (by rw [hsl]; exact k2_hasslot (q4 k hk)) rfl rfl d fun H' e1 e2 e3 => ?_
  rw [hsl] at e1 ⊢
  have hset : (fs.set k v).map (cv ad) = (fs.map (cv ad)).set k (cv ad v) := List.map_set
  have hoke : oke w (.inr (ci, fs.set k v)) := by
    intro u hu
    rcases List.mem_or_eq_of_mem_set hu with hu | hu
    · exact hok u hu
    · rw [hu]; exact ok1a hws
  have hP' := hP.upd hD hq (e := .inr (ci, fs.set k v)) (H1 := H') ⟨_, hc, t_OB.to (V := updV (vp_V (fs.map (cv ad))) k (cv ad v)) ⟨_, e1, q2, q3, t_set q4 hap hk (cv ad v)⟩ (fun j _ => by rw [vp_updV_set (by rw [List.length_map]; exact hl0)]; show _ = vp_V ((fs.set k v).map (cv ad)) j; rw [hset])⟩ hoke e3
  exact kk l p e s m args below meth c Q D dA A w0 ad0 ⟨hx, hb, hr, hml, hown, hts, hlocks, hnm, hK, hA⟩ R ad H' _ ls ⟨g1, g2.trans (AE.upd hq), hP', hD.upd hq, hS.put e2 e3 (hD.2 q _ hq), hl, fun x hx => okv_mono hmv (hwl x hx), fun x hx => okv_mono hmv (ok1 (ok1 hws) x hx), g9, g10⟩
theorem aw_putF {q ci k : Nat} {C : String} {T : u_T} {N : Nat} {ty : Nat → FieldType} {fs : List Value} {v : Value} (tc : Tc T N ty) (d : Df mi pc pc' ci k C T N) (hi0 : mi.1.name = "<init>") (ho0 : (T k).1 = mi.1.cls) (hq : look w q = some (.inr (ci, fs))) (hl0 : k < fs.length) (hn : narrow (ty k) v = v) (hf : fits (ty k) v = true) (kk : AW mi Ψ Z MC MS pc' L st (updw w q (.inr (ci, fs.set k v))) nc ns) : AW mi Ψ Z MC MS pc L (v :: .ref q :: st) w nc ns := by
  obtain ⟨idx, d, rfl, hc, hk, hlink, hin, hfin⟩ := d
  intro l p e s m args below meth c Q D dA A w0 ad0 C0 R ad H locs ls h
  obtain ⟨hx, hb, hr, hml, hown, hts, hlocks, hnm, hK, hA⟩ := C0
  obtain ⟨g1, g2, hP, hD, hS, hl, hwl, hws, g9, g10⟩ := h
  have hq0 := hP q _ hq
  have hap := va_apart (own := mi.1.cls) hts hin ty tc.1 tc.2 hK.1 hc
  obtain ⟨⟨r, h1, cell, q1, q2, q3, q4⟩, hok⟩ := hq0
  have hr' : r = (C, T, N) := Option.some.inj (h1.symm.trans hc)
  subst hr'
  obtain ⟨hSl, hfc, kC, hkC, hkind⟩ := hK.1.1 ci _ hc
  obtain ⟨cf, kf, fi, f, hi, hsl⟩ := hSl k hk
  have hlay := hts _ (hin _ (u_in_lay hk))
  unfold u_lay at hlay
  rw [if_pos hfin] at hlay
  have hst := (u_facts hfc hkC (u_lays hts hin hk) hi).1
  have hcf : m.cls = cf := by
    obtain ⟨_, _, c', _, _, _, -, -, hf', -, -, -, hown2, -⟩ := Cond.laysFinal_spec hlay
    have e1 : c' = cf := by have := hi.symm.trans hf'; simp at this; exact this.1.symm
    rw [ho0] at hown2
    rw [← e1]; exact Option.some.inj (hown.symm.trans hown2)
  have h6 := u_fits hfc hkC hkind (Or.inr hlay) hi (tc.1 k hk) (narrow_cv ad hn) (fits_cv ad hf)
  have hmv : ∀ j, domw w j → domw (updw w q (.inr (ci, fs.set k v))) j := fun j => domw_updw hq
  refine W.putFinK hx hb hown (hts _ hlink) hi hst hcf (hnm.trans hi0) (by rw [q2]; exact h6) q1 q3 (by rw [hsl]; exact k2_hasslot (q4 k hk)) rfl rfl d fun H' e1 e2 e3 => ?_
  rw [hsl] at e1 ⊢
  have hset : (fs.set k v).map (cv ad) = (fs.map (cv ad)).set k (cv ad v) := List.map_set
  have hoke : oke w (.inr (ci, fs.set k v)) := by
    intro u hu
    rcases List.mem_or_eq_of_mem_set hu with hu | hu
    · exact hok u hu
    · rw [hu]; exact ok1a hws
  have hP' := hP.upd hD hq (e := .inr (ci, fs.set k v)) (H1 := H') ⟨_, hc, t_OB.to (V := updV (vp_V (fs.map (cv ad))) k (cv ad v)) ⟨_, e1, q2, q3, t_set q4 hap hk (cv ad v)⟩ (fun j _ => by rw [vp_updV_set (by rw [List.length_map]; exact hl0)]; show _ = vp_V ((fs.set k v).map (cv ad)) j; rw [hset])⟩ hoke e3
  exact kk l p e s m args below meth c Q D dA A w0 ad0 ⟨hx, hb, hr, hml, hown, hts, hlocks, hnm, hK, hA⟩ R ad H' _ ls ⟨g1, g2.trans (AE.upd hq), hP', hD.upd hq, hS.put e2 e3 (hD.2 q _ hq), hl, fun x hx => okv_mono hmv (hwl x hx), fun x hx => okv_mono hmv (ok1 (ok1 hws) x hx), g9, g10⟩
theorem aw_iald {q n : Nat} {i : Int32} {f : Nat → Int32} (d : Dc mi pc .iaload 1 pc') (hq : look w q = some (.inl (0, n, .inl f))) (hin : vp_in i n) (kk : AW mi Ψ Z MC MS pc' L (.int (f i.toNatClampNeg) :: st) w nc ns) : AW mi Ψ Z MC MS pc L (.int i :: .ref q :: st) w nc ns := by
  obtain ⟨d, rfl⟩ := d
  intro l p e s m args below meth c Q D dA A w0 ad0 C0 R ad H locs ls h
  have a1 : H[ad q]? = some (vp_cell (dA 0) (n, .inl f)) := (h.2.2.1 q _ hq).1
  have hlt : i.toNatClampNeg < n := Nat.not_le.mp fun q => hin (Or.inr q)
  exact W.iald (v := .int (f i.toNatClampNeg)) C0.1 C0.2.1 a1 ((C0.2.2.2.2.2.2.2.2.1.1.2 0 _ rfl).1 n (fun j => .int (f j))) (fun q => by cases q) (by show ¬ (i < 0 ∨ (arrV _ _ _).slots.size ≤ _); rw [arrV_size]; exact hin) (by show (arrV _ _ _).slots[_]? = _; rw [arrV_read _ _ hlt]) rfl rfl d
    (kk l p e s m args below meth c Q D dA A w0 ad0 C0 R ad H locs ls ⟨h.1, h.2.1, h.2.2.1, h.2.2.2.1, h.2.2.2.2.1, h.2.2.2.2.2.1, h.2.2.2.2.2.2.1, ok01 okI (ok1 (ok1 h.2.2.2.2.2.2.2.1)), h.2.2.2.2.2.2.2.2⟩)
theorem aw_zald {q n : Nat} {i : Int32} {f : Nat → Int32} (d : Dc mi pc .baload 1 pc') (hq : look w q = some (.inl (2, n, .inl f))) (hin : vp_in i n) (kk : AW mi Ψ Z MC MS pc' L (.int (f i.toNatClampNeg) :: st) w nc ns) : AW mi Ψ Z MC MS pc L (.int i :: .ref q :: st) w nc ns := by
  obtain ⟨d, rfl⟩ := d
  intro l p e s m args below meth c Q D dA A w0 ad0 C0 R ad H locs ls h
  have a1 : H[ad q]? = some (vp_cell (dA 2) (n, .inl f)) := (h.2.2.1 q _ hq).1
  have hlt : i.toNatClampNeg < n := Nat.not_le.mp fun q => hin (Or.inr q)
  exact W.zald (v := .int (f i.toNatClampNeg)) C0.1 C0.2.1 a1 ((C0.2.2.2.2.2.2.2.2.1.1.2 2 _ rfl).1 n (fun j => .int (f j))) (fun q => by cases q) (by show ¬ (i < 0 ∨ (arrV _ _ _).slots.size ≤ _); rw [arrV_size]; exact hin) (by show (arrV _ _ _).slots[_]? = _; rw [arrV_read _ _ hlt]) rfl rfl d
    (kk l p e s m args below meth c Q D dA A w0 ad0 C0 R ad H locs ls ⟨h.1, h.2.1, h.2.2.1, h.2.2.2.1, h.2.2.2.2.1, h.2.2.2.2.2.1, h.2.2.2.2.2.2.1, ok01 okI (ok1 (ok1 h.2.2.2.2.2.2.2.1)), h.2.2.2.2.2.2.2.2⟩)
theorem aw_lald {q n : Nat} {i : Int32} {f : Nat → Int64} (d : Dc mi pc .laload 1 pc') (hq : look w q = some (.inl (1, n, .inr (.inl f)))) (hin : vp_in i n) (kk : AW mi Ψ Z MC MS pc' L (.long (f i.toNatClampNeg) :: st) w nc ns) : AW mi Ψ Z MC MS pc L (.int i :: .ref q :: st) w nc ns := by
  obtain ⟨d, rfl⟩ := d
  intro l p e s m args below meth c Q D dA A w0 ad0 C0 R ad H locs ls h
  have a1 : H[ad q]? = some (vp_cell (dA 1) (n, .inr (.inl f))) := (h.2.2.1 q _ hq).1
  have hlt : i.toNatClampNeg < n := Nat.not_le.mp fun q => hin (Or.inr q)
  exact W.lald (v := .long (f i.toNatClampNeg)) C0.1 C0.2.1 a1 ((C0.2.2.2.2.2.2.2.2.1.1.2 1 _ rfl).1 n (fun j => .long (f j))) (fun q => by cases q) (by show ¬ (i < 0 ∨ (arrV _ _ _).slots.size ≤ _); rw [arrV_size]; exact hin) (by show (arrV _ _ _).slots[_]? = _; rw [arrV_read _ _ hlt]) rfl rfl d
    (kk l p e s m args below meth c Q D dA A w0 ad0 C0 R ad H locs ls ⟨h.1, h.2.1, h.2.2.1, h.2.2.2.1, h.2.2.2.2.1, h.2.2.2.2.2.1, h.2.2.2.2.2.2.1, ok01 okL (ok1 (ok1 h.2.2.2.2.2.2.2.1)), h.2.2.2.2.2.2.2.2⟩)
theorem aw_aald {q n k : Nat} {i : Int32} {f : Nat → Option Nat} (d : Dc mi pc .aaload 1 pc') (hq : look w q = some (.inl (3, n, .inr (.inr (.inr (.inr f)))))) (hin : vp_in i n) (hk : f i.toNatClampNeg = some k) (kk : AW mi Ψ Z MC MS pc' L (.ref k :: st) w nc ns) : AW mi Ψ Z MC MS pc L (.int i :: .ref q :: st) w nc ns := by
  obtain ⟨d, rfl⟩ := d
  intro l p e s m args below meth c Q D dA A w0 ad0 C0 R ad H locs ls h
  obtain ⟨a1, a2⟩ := h.2.2.1 q _ hq
  have a1 : H[ad q]? = some (vp_cell (dA 3) (n, .inr (.inr (.inr (.inr (fun j => (f j).map ad)))))) := a1
  have hlt : i.toNatClampNeg < n := Nat.not_le.mp fun q => hin (Or.inr q)
  exact W.aald (v := .ref (ad k)) (ty := .object "BitRings$Sheet") C0.1 C0.2.1 a1 ((C0.2.2.2.2.2.2.2.2.1.1.2 3 _ rfl).1 n (fun j => va_rf ((f j).map ad))) rfl (fun q => by cases q) (by show ¬ (i < 0 ∨ (arrV _ _ _).slots.size ≤ _); rw [arrV_size]; exact hin) (by show (arrV _ _ _).slots[_]? = _; rw [arrV_read _ _ hlt]; show some (va_rf ((f i.toNatClampNeg).map ad)) = _; rw [hk]; rfl) rfl rfl d
    (kk l p e s m args below meth c Q D dA A w0 ad0 C0 R ad H locs ls ⟨h.1, h.2.1, h.2.2.1, h.2.2.2.1, h.2.2.2.2.1, h.2.2.2.2.2.1, h.2.2.2.2.2.2.1, ok01 (a := .ref k) (a2 _ _ hk) (ok1 (ok1 h.2.2.2.2.2.2.2.1)), h.2.2.2.2.2.2.2.2⟩)
theorem aw_alen {q t : Nat} {x : vp_A} (d : Dc mi pc .arraylength 1 pc') (hq : look w q = some (.inl (t, x))) (ht : t < 4) (kk : AW mi Ψ Z MC MS pc' L (.int (nI x.1) :: st) w nc ns) : AW mi Ψ Z MC MS pc L (.ref q :: st) w nc ns := by
  obtain ⟨d, rfl⟩ := d
  intro l p e s m args below meth c Q D dA A w0 ad0 C0 R ad H locs ls h
  obtain ⟨a1, a2⟩ := h.2.2.1 q _ hq
  have hP' : va_P D classes [(ad q, .inl (dA t, ca ad x))] H := by
    intro j y hj
    match j, hj with
    | 0, hj => cases hj; exact a1
    | j + 1, hj => simp at hj
  obtain ⟨ty, hty⟩ : ∃ ty, (tysA dA)[t]? = some (dA t, ty) := by
    match t, ht with
    | 0, _ => exact ⟨_, rfl⟩
    | 1, _ => exact ⟨_, rfl⟩
    | 2, _ => exact ⟨_, rfl⟩
    | 3, _ => exact ⟨_, rfl⟩
  have hx1 : (ca ad x).1 = x.1 := by
    rcases x with ⟨n, f | f | f | f | f⟩ <;> rfl
  exact va_alen (D := D) (cl := classes) C0.1 C0.2.1 C0.2.2.2.2.2.2.2.2.1.1 hP' 0 t rfl hty (v := nI x.1) (by rw [hx1]; rfl) d
    (kk l p e s m args below meth c Q D dA A w0 ad0 C0 R ad H locs ls ⟨h.1, h.2.1, h.2.2.1, h.2.2.2.1, h.2.2.2.2.1, h.2.2.2.2.2.1, h.2.2.2.2.2.2.1, ok01 okI (ok1 h.2.2.2.2.2.2.2.1), h.2.2.2.2.2.2.2.2⟩)
theorem aw_iast {q n : Nat} {i x : Int32} {f : Nat → Int32} (d : Dc mi pc .iastore 1 pc') (hq : look w q = some (.inl (0, n, .inl f))) (hin : vp_in i n) (kk : AW mi Ψ Z MC MS pc' L st (updw w q (.inl (0, n, .inl (upd f i.toNatClampNeg x)))) nc ns) : AW mi Ψ Z MC MS pc L (.int x :: .int i :: .ref q :: st) w nc ns := by
  obtain ⟨d, rfl⟩ := d
  intro l p e s m args below meth c Q D dA A w0 ad0 C0 R ad H locs ls h
  obtain ⟨g1, g2, hP, hD, hS, hl, hwl, hws, g9, g10⟩ := h
  have a1 : H[ad q]? = some (vp_cell (dA 0) (n, .inl f)) := (hP q _ hq).1
  have hmv : ∀ j, domw w j → domw (updw w q (.inl (0, n, .inl (upd f i.toNatClampNeg x)))) j := fun j => domw_updw hq
  refine W.iast C0.1 C0.2.1 a1 ((C0.2.2.2.2.2.2.2.2.1.1.2 0 _ rfl).1 n (fun j => .int (f j))) (fun q => by cases q) (by show ¬ (i < 0 ∨ (arrV _ _ _).slots.size ≤ _); rw [arrV_size]; exact hin) rfl rfl d fun H1 e1 e2 e3 => ?_
  have hP' := hP.upd hD hq (e := .inl (0, n, .inl (upd f i.toNatClampNeg x))) (H1 := H1) (by
    show H1[ad q]? = some (vp_cell _ _)
    rw [e1]
    show some ((vp_cell (dA 0) (n, .inl f)).setSlot _ _) = some (vp_cell (dA 0) (n, .inl (upd f i.toNatClampNeg x)))
    rw [vp_cell_i, vp_cell_i, arrV_store]
    congr 2
    funext z
    unfold updV upd
    by_cases hz : z = i.toNatClampNeg
    · rw [if_pos hz, if_pos hz]
    · rw [if_neg hz, if_neg hz]) True.intro e3
  exact kk l p e s m args below meth c Q D dA A w0 ad0 C0 R ad H1 _ ls ⟨g1, g2.trans (AE.upd hq), hP', hD.upd hq, hS.put e2 e3 (hD.2 q _ hq), hl, fun x hx => okv_mono hmv (hwl x hx), fun x hx => okv_mono hmv (ok1 (ok1 (ok1 hws)) x hx), g9, g10⟩
theorem aw_zast {q n : Nat} {i x : Int32} {f : Nat → Int32} (d : Dc mi pc .bastore 1 pc') (hq : look w q = some (.inl (2, n, .inl f))) (hin : vp_in i n) (hx : vp_nar .boolean x = x) (kk : AW mi Ψ Z MC MS pc' L st (updw w q (.inl (2, n, .inl (upd f i.toNatClampNeg x)))) nc ns) : AW mi Ψ Z MC MS pc L (.int x :: .int i :: .ref q :: st) w nc ns := by
  obtain ⟨d, rfl⟩ := d
  intro l p e s m args below meth c Q D dA A w0 ad0 C0 R ad H locs ls h
  obtain ⟨g1, g2, hP, hD, hS, hl, hwl, hws, g9, g10⟩ := h
  have a1 : H[ad q]? = some (vp_cell (dA 2) (n, .inl f)) := (hP q _ hq).1
  have hmv : ∀ j, domw w j → domw (updw w q (.inl (2, n, .inl (upd f i.toNatClampNeg x)))) j := fun j => domw_updw hq
  refine W.zast C0.1 C0.2.1 a1 ((C0.2.2.2.2.2.2.2.2.1.1.2 2 _ rfl).1 n (fun j => .int (f j))) (fun q => by cases q) (by show ¬ (i < 0 ∨ (arrV _ _ _).slots.size ≤ _); rw [arrV_size]; exact hin) rfl rfl d fun H1 e1 e2 e3 => ?_
  have hP' := hP.upd hD hq (e := .inl (2, n, .inl (upd f i.toNatClampNeg x))) (H1 := H1) (by
    show H1[ad q]? = some (vp_cell _ _)
    rw [e1]
    show some ((vp_cell (dA 2) (n, .inl f)).setSlot _ _) = some (vp_cell (dA 2) (n, .inl (upd f i.toNatClampNeg x)))
    rw [vp_cell_i, vp_cell_i, arrV_store]
    congr 2
    funext z
    unfold updV upd
    by_cases hz : z = i.toNatClampNeg
    · rw [if_pos hz, if_pos hz]
      have : Value.int (vp_nar .boolean x) = .int x := by rw [hx]
      exact this
    · rw [if_neg hz, if_neg hz]) True.intro e3
  exact kk l p e s m args below meth c Q D dA A w0 ad0 C0 R ad H1 _ ls ⟨g1, g2.trans (AE.upd hq), hP', hD.upd hq, hS.put e2 e3 (hD.2 q _ hq), hl, fun x hx => okv_mono hmv (hwl x hx), fun x hx => okv_mono hmv (ok1 (ok1 (ok1 hws)) x hx), g9, g10⟩
theorem aw_last {q n : Nat} {i : Int32} {x : Int64} {f : Nat → Int64} (d : Dc mi pc .lastore 1 pc') (hq : look w q = some (.inl (1, n, .inr (.inl f)))) (hin : vp_in i n) (kk : AW mi Ψ Z MC MS pc' L st (updw w q (.inl (1, n, .inr (.inl (vp_updL f i.toNatClampNeg x))))) nc ns) : AW mi Ψ Z MC MS pc L (.long x :: .int i :: .ref q :: st) w nc ns := by
  obtain ⟨d, rfl⟩ := d
  intro l p e s m args below meth c Q D dA A w0 ad0 C0 R ad H locs ls h
  obtain ⟨g1, g2, hP, hD, hS, hl, hwl, hws, g9, g10⟩ := h
  have a1 : H[ad q]? = some (vp_cell (dA 1) (n, .inr (.inl f))) := (hP q _ hq).1
  have hmv : ∀ j, domw w j → domw (updw w q (.inl (1, n, .inr (.inl (vp_updL f i.toNatClampNeg x))))) j := fun j => domw_updw hq
  refine W.last C0.1 C0.2.1 a1 ((C0.2.2.2.2.2.2.2.2.1.1.2 1 _ rfl).1 n (fun j => .long (f j))) (fun q => by cases q) (by show ¬ (i < 0 ∨ (arrV _ _ _).slots.size ≤ _); rw [arrV_size]; exact hin) rfl rfl d fun H1 e1 e2 e3 => ?_
  have hP' := hP.upd hD hq (e := .inl (1, n, .inr (.inl (vp_updL f i.toNatClampNeg x)))) (H1 := H1) (by
    show H1[ad q]? = some (vp_cell _ _)
    rw [e1]
    show some ((vp_cell (dA 1) (n, .inr (.inl f))).setSlot _ _) = some (vp_cell (dA 1) (n, .inr (.inl (vp_updL f i.toNatClampNeg x))))
    rw [vp_cell_l, vp_cell_l, arrV_store]
    congr 2
    funext z
    unfold updV vp_updL
    by_cases hz : z = i.toNatClampNeg
    · rw [if_pos hz, if_pos hz]
    · rw [if_neg hz, if_neg hz]) True.intro e3
  exact kk l p e s m args below meth c Q D dA A w0 ad0 C0 R ad H1 _ ls ⟨g1, g2.trans (AE.upd hq), hP', hD.upd hq, hS.put e2 e3 (hD.2 q _ hq), hl, fun x hx => okv_mono hmv (hwl x hx), fun x hx => okv_mono hmv (ok1 (ok1 (ok1 hws)) x hx), g9, g10⟩
theorem aw_aast {q n k : Nat} {i : Int32} {f : Nat → Option Nat} {fs : List Value} (d : Dc mi pc .aastore 1 pc') (hq : look w q = some (.inl (3, n, .inr (.inr (.inr (.inr f)))))) (hk : look w k = some (.inr (3, fs))) (hin : vp_in i n) (kk : AW mi Ψ Z MC MS pc' L st (updw w q (.inl (3, n, .inr (.inr (.inr (.inr (va_up f i.toNatClampNeg (some k)))))))) nc ns) : AW mi Ψ Z MC MS pc L (.ref k :: .int i :: .ref q :: st) w nc ns := by
  obtain ⟨d, rfl⟩ := d
  intro l p e s m args below meth c Q D dA A w0 ad0 C0 R ad H locs ls h
  obtain ⟨g1, g2, hP, hD, hS, hl, hwl, hws, g9, g10⟩ := h
  obtain ⟨a1, a2⟩ := hP q _ hq
  have a1 : H[ad q]? = some (vp_cell (dA 3) (n, .inr (.inr (.inr (.inr (fun j => (f j).map ad)))))) := a1
  have hK := C0.2.2.2.2.2.2.2.2.1.1
  have hmv : ∀ j, domw w j → domw (updw w q (.inl (3, n, .inr (.inr (.inr (.inr (va_up f i.toNatClampNeg (some k)))))))) j := fun j => domw_updw hq
  have hlt : i.toNatClampNeg < n := Nat.not_le.mp fun q => hin (Or.inr q)
  have h0 : ¬ i < 0 := fun q => hin (Or.inl q)
  obtain ⟨⟨r', hr', cellV, v1, v2, v3, -⟩, -⟩ := hP k _ hk
  cases hr'
  have hcls := (hK.1 3 (R_sh, T_sh, 3) rfl).2
  obtain ⟨kA, comp, k1, k2, k3, -⟩ := (hK.2 3 _ rfl).2
  have hcomp : comp = D.1 3 := Option.some.inj (k3.symm.trans hcls.1)
  subst hcomp
  obtain ⟨kC, hkC, -⟩ := hcls.2
  refine W.aast C0.1 C0.2.1 a1 (fun q h => by cases h) (fun h => by cases h) k1 k2 rfl hkC ⟨h0, by show _ < (arrV _ _ _).slots.size; rw [arrV_size]; exact hlt⟩ v1 (fun q h => by rw [v3] at h; cases h) (by rw [v2]; exact hkC) (by rw [v2]; exact va_assign hcls) rfl rfl d fun H1 e1 e2 e3 => ?_
  have hP' := hP.upd hD hq (e := .inl (3, n, .inr (.inr (.inr (.inr (va_up f i.toNatClampNeg (some k))))))) (H1 := H1) (by
    show H1[ad q]? = some (vp_cell _ _)
    rw [e1]
    show some ((vp_cell (dA 3) (n, .inr (.inr (.inr (.inr (fun j => (f j).map ad)))))).setSlot _ _) = some (vp_cell (dA 3) (n, .inr (.inr (.inr (.inr (fun j => (va_up f i.toNatClampNeg (some k) j).map ad))))))
    rw [vp_cell_q, vp_cell_q, arrV_store]
    congr 2
    funext z
    unfold updV va_up
    by_cases hz : z = i.toNatClampNeg
    · rw [if_pos hz, if_pos hz]; rfl
    · rw [if_neg hz, if_neg hz]) (by
    intro j k' hj
    unfold va_up at hj
    by_cases hz : j = i.toNatClampNeg
    · rw [if_pos hz] at hj; cases hj; exact Or.inl ⟨_, hk⟩
    · rw [if_neg hz] at hj; exact a2 j k' hj) e3
  exact kk l p e s m args below meth c Q D dA A w0 ad0 C0 R ad H1 _ ls ⟨g1, g2.trans (AE.upd hq), hP', hD.upd hq, hS.put e2 e3 (hD.2 q _ hq), hl, fun x hx => okv_mono hmv (hwl x hx), fun x hx => okv_mono hmv (ok1 (ok1 (ok1 hws)) x hx), g9, g10⟩
end Heap
end
section
/-! ### new cells, calls, ends -/
section Make
variable {mi : MI} {Ψ : Pst} {Z : Zt} {MC MS : Nat} {pc pc' : Nat} {L : List (Nat × Value)} {st : List Value} {w : Wd} {nc ns : Nat}
theorem okv_new {r : Nat} (hr : r < 16) (hl : r < w.length) {e : va_E} : okv (pushw w r e) (.ref (keyw w r)) := Or.inl ⟨e, by rw [look_pushw hr hl, if_pos rfl]⟩
theorem sr_push {s : State} {D : va_G} {dA : Nat → ClassId} {A : Nat → Prop} {w0 : Wd} {ad0 ad : Nat → Nat} {H H1 : Heap} {locs : List Loc} {ls : Array Slot} {r n1 n2 : Nat} {e : va_E} (h : SR mi Ψ MC MS s D dA A w0 ad0 ad H locs ls L st w nc ns) (hA : ∀ q, s.heap.size ≤ q → A q)
    (hr : r < 16) (h8 : r ≠ 8) (hl : r < w.length) (he : va_at D classes (H.size, ce dA ad e) H1) (ho : oke w e) (hz : H1.size = H.size + 1) (oq : ∀ q : Nat, q < H.size → H1[q]? = H[q]?) (h1 : nc + n1 ≤ MC) (h2 : ns + n2 ≤ MS) :
    SR mi Ψ MC MS s D dA A w0 ad0 (adn ad (keyw w r) H.size) H1 locs ls L (.ref (keyw w r) :: st) (pushw w r e) (nc + n1) (ns + n2) ∧ (st.map (cv (adn ad (keyw w r) H.size)) = st.map (cv ad)) := by
  obtain ⟨g1, g2, hP, hD, hS, hlv, hwl, hws, g9, g10⟩ := h
  have hx : ∀ j, domw w j → adn ad (keyw w r) H.size j = ad j := fun j => adn_dom hr h8
  have hmv : ∀ j, domw w j → domw (pushw w r e) j := fun j => domw_pushw hr hl
  have hL : L.map (lc (adn ad (keyw w r) H.size)) = L.map (lc ad) := List.map_congr_left (fun q hq => by unfold lc; rw [cv_ext hx (hwl q hq)])
  refine ⟨⟨?_, g2.trans (AE.push hr h8 hl), hP.push hr h8 hl he ho oq, hD.push hP hr h8 hl (hA _ hS.1), ⟨by rw [hz]; exact Nat.le_succ_of_le hS.1, fun q q1 q2 => (oq q (Nat.lt_of_lt_of_le q1 hS.1)).trans (hS.2.1 q q1 q2), hS.2.2⟩, by rw [hL]; exact hlv, fun q hq => okv_mono hmv (hwl q hq), ok01 (okv_new hr hl) (fun v hv => okv_mono hmv (hws v hv)), h1, h2⟩, map_ext hx hws⟩
  rw [hx 8 (Or.inr rfl)]
  exact g1
theorem aw_new (r : Nat) {ci : Nat} {C : String} {T : u_T} {N : Nat} {ty : Nat → FieldType} (fs : List Value) (tc : Tc T N ty) (d : Dn mi pc pc' ci C T N) (hfs : ∀ j, j < N → defaultValue (ty j) = vp_V (fs.map (cv fun x => x)) j) (hfo : ∀ v ∈ fs, ∀ k, v ≠ .ref k) (hr : r < 16 ∧ r ≠ 8 ∧ r < w.length) (h1 : nc + 1 ≤ MC) (h2 : ns + N ≤ MS)
    (kk : AW mi Ψ Z MC MS pc' L (.ref (keyw w r) :: st) (pushw w r (.inr (ci, fs))) (nc + 1) (ns + N)) : AW mi Ψ Z MC MS pc L st w nc ns := by
  obtain ⟨idx, d, rfl, hc, hcl, hins, hini, hin⟩ := d
  intro l p e s m args below meth c Q D dA A w0 ad0 C0 R ad H locs ls h
  have C1 := C0
  obtain ⟨hx, hb, hrt, hml, hown, hts, hlocks, hnm, hK, hA⟩ := C0
  have hKn := hK.1.1 ci _ hc
  have hcv : ∀ ad1 ad2 : Nat → Nat, fs.map (cv ad1) = fs.map (cv ad2) := fun ad1 ad2 => List.map_congr_left (fun v hv => by
    cases v <;> first | rfl | exact absurd rfl (hfo _ hv _))
  refine W.newcK hx hb hown (hts _ hcl) (hts _ hins) (hts _ hini) rfl d h1 h2 hKn.2.1 rfl fun H1 kC hkC e1 z1 o1 => ?_
  have hob : va_at D classes (H.size, ce dA ad (.inr (ci, fs))) H1 := ⟨_, hc, (u_born ty hts hin hKn hkC e1 tc.1).to (fun j hj => by rw [hfs j hj, hcv (fun x => x) ad])⟩
  have hok : oke w (.inr (ci, fs)) := fun v hv => by
    cases v <;> first | exact True.intro | exact absurd rfl (hfo _ hv _)
  obtain ⟨hs, hm⟩ := sr_push h hA hr.1 hr.2.1 hr.2.2 hob hok z1 o1 h1 h2
  have := kk l p e s m args below meth c Q D dA A w0 ad0 C1 R _ H1 locs ls hs
  rw [List.map_cons, hm] at this
  have e3 : cv (adn ad (keyw w r) H.size) (.ref (keyw w r)) = .ref H.size := by show Value.ref _ = _; rw [adn_self]
  rw [e3] at this
  exact this
theorem dA_find {D : va_G} {dA : Nat → ClassId} {s : State} (hK : AK D dA s) {t : Nat} {ty : FieldType} (ht : (tysA dA)[t]? = some (dA t, ty)) (hty : ty = .int ∨ ty = .long ∨ ty = .boolean) : s.vm.findClass ("[" ++ ty.toString) = some (dA t) := by
  have h := (hK.1.2 t _ ht).2
  rcases hty with rfl | rfl | rfl <;> exact h
theorem aw_newa (r : Nat) {t N' : Nat} {at' : ArrayType} {n : Int32} {ty : FieldType} (a0 : vp_A) (d : Dc mi pc (.newarray at') 2 pc') (hty : newarray.typeOf at' = ty) (ht3 : ty = .int ∨ ty = .long ∨ ty = .boolean) (hword : Cond.arrayClass ty ∈ gtb) (htt : ∀ dA : Nat → ClassId, (tysA dA)[t]? = some (dA t, ty)) (ha : ∀ cA : ClassId, vp_cell cA a0 = arrV cA N' (fun _ => defaultValue ty)) (hca : ∀ ad : Nat → Nat, ca ad a0 = a0) (hoa : ∀ w : Wd, oke w (.inl (t, a0))) (hn : ¬ n < 0) (hN : n.toNatClampNeg = N') (hbytes : N' * componentBytes ty ≤ 536870912) (hr : r < 16 ∧ r ≠ 8 ∧ r < w.length) (h1 : nc + 1 ≤ MC) (h2 : ns + N' ≤ MS)
    (kk : AW mi Ψ Z MC MS pc' L (.ref (keyw w r) :: st) (pushw w r (.inl (t, a0))) (nc + 1) (ns + N')) : AW mi Ψ Z MC MS pc L (.int n :: st) w nc ns := by
  obtain ⟨d, rfl⟩ := d
  subst hty
  intro l p e s m args below meth c Q D dA A w0 ad0 C0 R ad H locs ls h
  have C1 := C0
  obtain ⟨hx, hb, hrt, hml, hown, hts, hlocks, hnm, hK, hA⟩ := C0
  refine va_newaK hx hb (hts _ hword) rfl d rfl hn hN hbytes h1 h2 rfl fun H1 cA e1 z1 o1 hAr hNm => ?_
  have hcA : cA = dA t := Option.some.inj (hNm.symm.trans (dA_find hK (htt dA) ht3))
  subst hcA
  have hob : va_at D classes (H.size, ce dA ad (.inl (t, a0))) H1 := by
    show H1[H.size]? = some (vp_cell (dA t) (ca ad a0))
    rw [hca, ha]
    exact e1
  have h' : SR mi Ψ MC MS s D dA A w0 ad0 ad H locs ls L st w nc ns := ⟨h.1, h.2.1, h.2.2.1, h.2.2.2.1, h.2.2.2.2.1, h.2.2.2.2.2.1, h.2.2.2.2.2.2.1, ok1 h.2.2.2.2.2.2.2.1, h.2.2.2.2.2.2.2.2⟩
  obtain ⟨hs, hm⟩ := sr_push h' hA hr.1 hr.2.1 hr.2.2 hob (hoa w) z1 o1 h1 h2
  have := kk l p e s m args below meth c Q D dA A w0 ad0 C1 R _ H1 locs ls hs
  rw [List.map_cons, hm] at this
  have e3 : cv (adn ad (keyw w r) H.size) (.ref (keyw w r)) = .ref H.size := by show Value.ref _ = _; rw [adn_self]
  rw [e3] at this
  exact this
theorem w_int : Cond.arrayClass .int ∈ gtb := by decide +kernel
theorem w_long : Cond.arrayClass .long ∈ gtb := by decide +kernel
theorem w_bool : Cond.arrayClass .boolean ∈ gtb := by decide +kernel
/-- a new row of n ints, longs, booleans: all 0 -/
theorem aw_newI (r N : Nat) {n : Int32} (d : Dc mi pc (.newarray .int) 2 pc') (hn : n = nI N) (hN : N ≤ 65536) (hr : r < 16 ∧ r ≠ 8 ∧ r < w.length) (h1 : nc + 1 ≤ MC) (h2 : ns + N ≤ MS) (kk : AW mi Ψ Z MC MS pc' L (.ref (keyw w r) :: st) (pushw w r (.inl (0, N, .inl (fun _ => 0)))) (nc + 1) (ns + N)) : AW mi Ψ Z MC MS pc L (.int n :: st) w nc ns :=
  aw_newa r (t := 0) (N' := N) (ty := .int) (N, .inl (fun _ => 0)) d rfl (Or.inl rfl) w_int (fun _ => rfl) (fun _ => rfl) (fun _ => rfl) (fun _ => True.intro) (by rw [hn]; exact nI_pos (by omega)) (by rw [hn]; exact nI_clamp (by omega)) (by show N * 4 ≤ _; omega) hr h1 h2 kk
theorem aw_newL (r N : Nat) {n : Int32} (d : Dc mi pc (.newarray .long) 2 pc') (hn : n = nI N) (hN : N ≤ 65536) (hr : r < 16 ∧ r ≠ 8 ∧ r < w.length) (h1 : nc + 1 ≤ MC) (h2 : ns + N ≤ MS) (kk : AW mi Ψ Z MC MS pc' L (.ref (keyw w r) :: st) (pushw w r (.inl (1, N, .inr (.inl (fun _ => 0))))) (nc + 1) (ns + N)) : AW mi Ψ Z MC MS pc L (.int n :: st) w nc ns :=
  aw_newa r (t := 1) (N' := N) (ty := .long) (N, .inr (.inl (fun _ => 0))) d rfl (Or.inr (Or.inl rfl)) w_long (fun _ => rfl) (fun _ => rfl) (fun _ => rfl) (fun _ => True.intro) (by rw [hn]; exact nI_pos (by omega)) (by rw [hn]; exact nI_clamp (by omega)) (by show N * 8 ≤ _; omega) hr h1 h2 kk
theorem aw_newZ (r N : Nat) {n : Int32} (d : Dc mi pc (.newarray .boolean) 2 pc') (hn : n = nI N) (hN : N ≤ 65536) (hr : r < 16 ∧ r ≠ 8 ∧ r < w.length) (h1 : nc + 1 ≤ MC) (h2 : ns + N ≤ MS) (kk : AW mi Ψ Z MC MS pc' L (.ref (keyw w r) :: st) (pushw w r (.inl (2, N, .inl (fun _ => 0)))) (nc + 1) (ns + N)) : AW mi Ψ Z MC MS pc L (.int n :: st) w nc ns :=
  aw_newa r (t := 2) (N' := N) (ty := .boolean) (N, .inl (fun _ => 0)) d rfl (Or.inr (Or.inr rfl)) w_bool (fun _ => rfl) (fun _ => rfl) (fun _ => rfl) (fun _ => True.intro) (by rw [hn]; exact nI_pos (by omega)) (by rw [hn]; exact nI_clamp (by omega)) (by show N * 1 ≤ _; omega) hr h1 h2 kk
theorem aw_newq (r N : Nat) {n : Int32} (d : Da mi pc pc' "BitRings$Sheet") (hn : n = nI N) (hN : N ≤ 65536) (hr : r < 16 ∧ r ≠ 8 ∧ r < w.length) (h1 : nc + 1 ≤ MC) (h2 : ns + N ≤ MS) (kk : AW mi Ψ Z MC MS pc' L (.ref (keyw w r) :: st) (pushw w r (.inl (3, N, .inr (.inr (.inr (.inr (fun _ => none))))))) (nc + 1) (ns + N)) : AW mi Ψ Z MC MS pc L (.int n :: st) w nc ns := by
  obtain ⟨idx, d, rfl, hcl⟩ := d
  intro l p e s m args below meth c Q D dA A w0 ad0 C0 R ad H locs ls h
  have C1 := C0
  obtain ⟨hx, hb, hrt, hml, hown, hts, hlocks, hnm, hK, hA⟩ := C0
  have hcl' : n.toNatClampNeg = N := by rw [hn]; exact nI_clamp (by omega)
  refine W.anew hx hb hown (hts _ hcl) (va_AO.use hK.2.1) rfl d rfl (by rw [hn]; exact nI_pos (by omega)) (by rw [hcl']; omega) h1 (by rw [hcl']; exact h2) fun cA kA comp f1 f2 f3 f4 => ?_
  obtain ⟨kA', comp', -, -, -, hNm⟩ := (hK.1.2 3 _ rfl).2
  have hcA : cA = dA 3 := Option.some.inj (f1.symm.trans hNm)
  subst hcA
  rw [hcl']
  generalize hH1 : H.push ({ cls := dA 3, slots := Array.replicate N .null, vm := .none } : Cell) = H1
  have z1 : H1.size = H.size + 1 := by rw [← hH1, Array.size_push]
  have e1 : H1[H.size]? = some (arrV (dA 3) N (fun _ => .null)) := by rw [← hH1, Array.getElem?_push_size, ← arrV_new]
  have o1 : ∀ q : Nat, q < H.size → H1[q]? = H[q]? := fun q hq => by rw [← hH1, Array.getElem?_push, if_neg (Nat.ne_of_lt hq)]
  have hob : va_at D classes (H.size, ce dA ad (.inl (3, N, .inr (.inr (.inr (.inr (fun _ => none))))))) H1 := e1
  have h' : SR mi Ψ MC MS s D dA A w0 ad0 ad H locs ls L st w nc ns := ⟨h.1, h.2.1, h.2.2.1, h.2.2.2.1, h.2.2.2.2.1, h.2.2.2.2.2.1, h.2.2.2.2.2.2.1, ok1 h.2.2.2.2.2.2.2.1, h.2.2.2.2.2.2.2.2⟩
  obtain ⟨hs, hm⟩ := sr_push h' hA hr.1 hr.2.1 hr.2.2 hob (fun i k hk => by cases hk) z1 o1 h1 h2
  have := kk l p e s m args below meth c Q D dA A w0 ad0 C1 R _ H1 locs ls hs
  rw [List.map_cons, hm] at this
  have e3 : cv (adn ad (keyw w r) H.size) (.ref (keyw w r)) = .ref H.size := by show Value.ref _ = _; rw [adn_self]
  rw [e3] at this
  exact this
end Make
end
section
/-! ### contracts -/
abbrev Pq : Type := Option Value → Wd → Prop
def APc (D : va_G) (dA : Nat → ClassId) (ad : Nat → Nat) (as : List Value) (w : Wd) (sz : Nat) : Array Value → State → Prop := va_Pc (as.map (cv ad)) (fun U => U.heap.size = sz ∧ AP D dA ad w U.heap ∧ AK D dA U ∧ AD (fun _ => True) ad w ∧ ∀ v ∈ as, okv w v)
def AQc (D : va_G) (dA : Nat → ClassId) (ad : Nat → Nat) (w : Wd) (sz : Nat) (Post : Pq) : Array Value → State → Outcome → State → Prop := fun _ st oc t =>
  (∃ (r : Option Value) (w' : Wd) (ad' : Nat → Nat), Post r w' ∧ AE w ad w' ad' ∧ (∀ v, r = some v → okv w' v) ∧ oc = .returned (r.map (cv ad')) ∧ AP D dA ad' w' t.heap ∧ AD (AA ad w sz) ad' w') ∧ va_F (AA ad w sz) st t
/-- from the world w, with the arguments as, the method comes to an end that Post allows; at most mc cells of ms slots are new -/
def AMet (mi : MI) (as : List Value) (w : Wd) (Post : Pq) (mc ms : Nat) : Prop :=
  ∀ (l : Launch) (D : va_G) (dA : Nat → ClassId) (ad : Nat → Nat) (sz : Nat), Met l mi.1 (mws mi) (rmOf mi mc ms) (APc D dA ad as w sz) (AQc D dA ad w sz Post) mc ms (AA ad w sz)
abbrev Zp (Post : Pq) : Zt := fun r w' _ _ => Post r w'
abbrev Ex (r : Option Value) (w : Wd) : Pq := fun r' w' => r' = r ∧ w' = w
abbrev noP : Pst := fun _ _ _ => True
theorem lg_sl_len (ad : Nat → Nat) (as : List Value) : (lg_sl (as.map (cv ad))).length = (lg_sl as).length := by
  induction as with
  | nil => rfl
  | cons v t ih =>
    have e : ∀ u (x : List Value), lg_sl (u :: x) = (if u.category = 2 then [.val u, .second] else [.val u]) ++ lg_sl x := fun u x => rfl
    rw [List.map_cons, e, e, List.length_append, List.length_append, ih, cv_cat]
    by_cases h : v.category = 2
    · rw [if_pos h, if_pos h]; rfl
    · rw [if_neg h, if_neg h]; rfl
theorem lv_args_cv (ad : Nat → Nat) (as : List Value) : ∀ i, lv_args i (as.map (cv ad)) = (lv_args i as).map (lc ad) := by
  induction as with
  | nil => intro i; rfl
  | cons v t ih =>
    intro i
    show (i, cv ad v) :: lv_args (if (cv ad v).category = 2 then i + 2 else i + 1) (t.map (cv ad)) = lc ad (i, v) :: (lv_args (if v.category = 2 then i + 2 else i + 1) t).map (lc ad)
    rw [cv_cat, ih]
    rfl
theorem lv_args_mem (as : List Value) : ∀ i, ∀ q ∈ lv_args i as, q.2 ∈ as := by
  induction as with
  | nil => intro i q hq; cases hq
  | cons v t ih =>
    intro i q hq
    rcases List.mem_cons.mp hq with rfl | hq
    · exact List.mem_cons_self
    · exact List.mem_cons_of_mem _ (ih _ q hq)
theorem AMet.of {mi : MI} {as : List Value} {w : Wd} {Post : Pq} {mc ms : Nat} (L : List (Nat × Value)) (hp : plainName mi.1.cls = true) (hL : lv_args 0 as = L) (hfit : (lg_sl as).length ≤ mi.2.2.1) (k : AW mi noP (Zp Post) mc ms 0 L [] w 0 0) : AMet mi as w Post mc ms := by
  subst hL
  intro l D dA ad sz
  refine Met.ofW (cc := mi.2.1) (maxL := mi.2.2.1) (ret := mi.2.2.2.1) hp rfl ?_
  intro p e s m args below meth c s₁ B hml hv
  obtain ⟨rfl, hsz, hP, hK, hD0, hwf⟩ := hv
  have hx := B.exec
  have hb := B.bytes
  have hr := B.returns
  have hts := atoms_spec (ws := mws mi) B.pre
  have hown : s.vm.findClass mi.1.cls = some m.cls := findClass_of_methodNamed B.named
  have hlocks := B.notSynchronized
  have hin : meth.name = mi.1.name := (name_of_methodNamed B.named B.method).1
  subst hsz
  have hlv := lv_entry (as.map (cv ad)) (n := mi.2.2.1) (by rw [lg_sl_len]; exact hfit)
  rw [lg_entry_eq]
  rw [lv_args_cv] at hlv
  refine k l p e s m _ below meth c (MQ below (AQc D dA ad w s.heap.size Post) _ s mc ms (AA ad w s.heap.size)) D dA (AA ad w s.heap.size) w ad
    ⟨hx, hb, hr, hml, hown, fun x h => hts x (List.mem_cons_of_mem _ h), hlocks, hin, hK, fun q h => Or.inr h⟩ ?_ ad s.heap [] _
    ⟨True.intro, AE.rf w ad, hP, ⟨hD0.1, fun k e h => Or.inl ⟨k, e, h, rfl⟩⟩, va_S.rf, hlv, fun q hq => hwf _ (lv_args_mem as 0 q hq), fun v hv => absurd hv List.not_mem_nil, Nat.zero_le _, Nat.zero_le _⟩
  intro r w' ad' H' locs' nc' ns' pc' ls' i hz hP' hD' hS' hE' hok' hrt hdec hc hs
  refine W.widen (k := mc) (n := ms) hc hs ?_
  have hq : ∀ t : State, t.heap = H' → s.WarmedH t.vm → AQc D dA ad w s.heap.size Post (List.map (cv ad) as).toArray s (.returned (r.map (cv ad'))) t := fun t ht _ => ⟨⟨r, w', ad', hz, hE', hok', rfl, by rw [ht]; exact hP', hD'⟩, hS'.F ht⟩
  rcases hrt with ⟨h1, rfl, rfl⟩ | ⟨ty, v, h1, rfl, rfl, hn⟩ | ⟨v, h1, rfl, rfl⟩ | ⟨n, k, h1, rfl, rfl⟩
  · exact W.vret hx hb (hr.trans h1) hq hS'.2.2 hdec
  · exact W.zret (v := v) hx hb (hr.trans h1) hn hq hS'.2.2 hdec
  · exact W.lret (v := v) hx hb (hr.trans h1) hq hS'.2.2 hdec
  · exact W.aret (v := .ref (ad' k)) hx hb (hr.trans h1) (Or.inl ⟨n, rfl⟩) (Or.inr ⟨_, rfl⟩) hq hS'.2.2 hdec
theorem AMet.mono {mi : MI} {as : List Value} {w : Wd} {P P' : Pq} {mc ms : Nat} (h : AMet mi as w P mc ms) (hp : ∀ r w', P r w' → P' r w') : AMet mi as w P' mc ms := by
  intro l D dA ad sz
  refine MetFree.mono (h l D dA ad sz) (fun _ _ h => h) (fun _ _ _ _ _ _ => True.intro) ?_
  intro a s o t _ h
  obtain ⟨⟨⟨r, w', ad', h1, h2⟩, h3⟩, h4⟩ := h
  exact ⟨⟨⟨r, w', ad', hp _ _ h1, h2⟩, h3⟩, h4⟩
section Ends
variable {mi : MI} {Ψ : Pst} {Z : Zt} {MC MS : Nat} {pc pc' : Nat} {L : List (Nat × Value)} {st : List Value} {w : Wd} {nc ns : Nat}
theorem aw_ireturn {ty : FieldType} {v : Int32} (d : Dc mi pc .ireturn 1 pc') (hr : mi.2.2.2.1 = some ty) (hn : narrow ty (.int v) = .int v) (hz : Z (some (.int v)) w nc ns) : AW mi Ψ Z MC MS pc L [.int v] w nc ns := by
  intro l p e s m args below meth c Q D dA A w0 ad0 C R ad H locs ls h
  exact R (some (.int v)) w ad H locs nc ns pc ls .ireturn hz h.2.2.1 h.2.2.2.1 h.2.2.2.2.1 h.2.1 (fun v hv => by cases hv; exact True.intro) (Or.inr (Or.inl ⟨ty, v, hr, rfl, rfl, hn⟩)) d.1 h.2.2.2.2.2.2.2.2.1 h.2.2.2.2.2.2.2.2.2
theorem aw_lreturn {v : Int64} (d : Dc mi pc .lreturn 1 pc') (hr : mi.2.2.2.1 = some .long) (hz : Z (some (.long v)) w nc ns) : AW mi Ψ Z MC MS pc L [.long v] w nc ns := by
  intro l p e s m args below meth c Q D dA A w0 ad0 C R ad H locs ls h
  exact R (some (.long v)) w ad H locs nc ns pc ls .lreturn hz h.2.2.1 h.2.2.2.1 h.2.2.2.2.1 h.2.1 (fun v hv => by cases hv; exact True.intro) (Or.inr (Or.inr (Or.inl ⟨v, hr, rfl, rfl⟩))) d.1 h.2.2.2.2.2.2.2.2.1 h.2.2.2.2.2.2.2.2.2
theorem aw_areturn {n : String} {k : Nat} (d : Dc mi pc .areturn 1 pc') (hr : mi.2.2.2.1 = some (.object n)) (hz : Z (some (.ref k)) w nc ns) : AW mi Ψ Z MC MS pc L [.ref k] w nc ns := by
  intro l p e s m args below meth c Q D dA A w0 ad0 C R ad H locs ls h
  exact R (some (.ref k)) w ad H locs nc ns pc ls .areturn hz h.2.2.1 h.2.2.2.1 h.2.2.2.2.1 h.2.1 (fun v hv => by cases hv; exact ok1a h.2.2.2.2.2.2.2.1) (Or.inr (Or.inr (Or.inr ⟨n, k, hr, rfl, rfl⟩))) d.1 h.2.2.2.2.2.2.2.2.1 h.2.2.2.2.2.2.2.2.2
theorem aw_return (d : Dc mi pc .return_ 1 pc') (hr : mi.2.2.2.1 = none) (hz : Z none w nc ns) : AW mi Ψ Z MC MS pc L [] w nc ns := by
  intro l p e s m args below meth c Q D dA A w0 ad0 C R ad H locs ls h
  exact R none w ad H locs nc ns pc ls .return_ hz h.2.2.1 h.2.2.2.1 h.2.2.2.2.1 h.2.1 (fun v hv => by cases hv) (Or.inl ⟨hr, rfl, rfl⟩) d.1 h.2.2.2.2.2.2.2.2.1 h.2.2.2.2.2.2.2.2.2
theorem aw_obj {q : Nat} (d : Do mi pc pc') (k : AW mi Ψ Z MC MS pc' L [] w nc ns) : AW mi Ψ Z MC MS pc L [.ref q] w nc ns := by
  obtain ⟨idx, d, rfl, w1, w2, w3, h1, h2⟩ := d
  intro l p e s m args below meth c Q D dA A w0 ad0 C R ad H locs ls h
  refine W.objInit C.1 C.2.1 C.2.2.2.2.1 (C.2.2.2.2.2.1 _ w1) (C.2.2.2.2.2.1 _ w2) (C.2.2.2.2.2.1 _ w3) rfl (h.2.2.2.2.2.1.1.trans C.2.2.2.1.symm) rfl d h1 (Nat.le_trans (by show 2 * 0 + 0 + 12 ≤ 12; decide) h2) ?_
  exact k l p e s m args below meth c Q D dA A w0 ad0 C R ad H locs ls ⟨h.1, h.2.1, h.2.2.1, h.2.2.2.1, h.2.2.2.2.1, h.2.2.2.2.2.1, h.2.2.2.2.2.2.1, ok1 h.2.2.2.2.2.2.2.1, h.2.2.2.2.2.2.2.2⟩
end Ends
section Calls
variable {mi mi' : MI} {Ψ : Pst} {Z : Zt} {MC MS : Nat} {pc pc' n mc ms : Nat} {L : List (Nat × Value)} {st rest : List Value} {w : Wd} {nc ns : Nat} {Post : Pq}
theorem blindA {D : va_G} {dA : Nat → ClassId} {ad : Nat → Nat} {as : List Value} {sz : Nat} : FrameBlind (APc D dA ad as w sz) := fun a U g mk h => by
  obtain ⟨h0, h1, h2, h3, h4, h5⟩ := h
  exact ⟨h0, h1, h2, AK.same (s := U) (U := U.calling g mk a) rfl h3, h4, h5⟩
theorem preA {D : va_G} {dA : Nat → ClassId} {ad : Nat → Nat} {as : List Value} {s : State} {H : Heap} {A : Nat → Prop} (hP : AP D dA ad w H) (hK : AK D dA s) (hD : AD A ad w) (ho : ∀ v ∈ as, okv w v) : ∀ U : State, U.heap = H → s.WarmedH U.vm → APc D dA ad as w H.size (as.map (cv ad)).toArray U := fun U hU hW =>
  ⟨rfl, by rw [hU], by rw [hU]; exact hP, hK.warm hW, ⟨hD.1, fun _ _ _ => True.intro⟩, ho⟩
theorem cat_rest (ad : Nat → Nat) (rest : List Value) : ((rest.map (cv ad)).map fun v => v.category).sum = (rest.map fun v => v.category).sum := by
  rw [List.map_map]
  congr 1
  exact List.map_congr_left (fun v _ => cv_cat ad v)
/-- behind a call -/
theorem aw_back {l : Launch} {p : Program} {e : Env} {s : State} {m : MethodId} {args : Array Value} {below : List Frame} {meth : Method} {c : Code} {Q : State → Prop} {D : va_G} {dA : Nat → ClassId} {A : Nat → Prop} {w0 : Wd} {ad0 ad : Nat → Nat} {H : Heap} {locs : List Loc} {ls : Array Slot} {a : Array Value} {st0 : List Value}
    (C : Cx mi p s m args meth c D dA A) (R : Rx mi Z MC MS l p e s m args below meth c Q D dA A w0 ad0) (h : SR mi Ψ MC MS s D dA A w0 ad0 ad H locs ls L rest w nc ns) (h1 : nc + mc ≤ MC) (h2 : ns + ms ≤ MS)
    (hr : va_Run p l e (rmOf mi MC MS) s m args below meth c H locs nc ns mc ms (F0 m pc ls st0) (rest.map (cv ad)) (AQc D dA ad w H.size Post a) (AA ad w H.size))
    (kk : ∀ r w', Post r w' → AW mi Ψ Z MC MS (pc + 3) L (r.toList ++ rest) w' (nc + mc) (ns + ms)) : W p l e (rmOf mi MC MS) s m args below meth c H locs nc ns Q (F0 m pc ls st0) := by
  obtain ⟨g1, g2, hP, hD, hS, hlv, hwl, hws, g9, g10⟩ := h
  have hA := C.2.2.2.2.2.2.2.2.2
  intro T hT X
  obtain ⟨v, st₀, t, T', Lc, q0, X', hLc, e1, e2, ⟨⟨r, w', ad', hpost, hE, hok, hv, hP', hD'⟩, hz, hk⟩, stp⟩ := hr T hT X
  cases hv
  have hx : ∀ j, domw w j → ad' j = ad j := fun j hj => (hE j hj).1
  have hmv : ∀ j, domw w j → domw w' j := fun j hj => (hE j hj).2
  have hAA : ∀ q, AA ad w H.size q → A q := fun q hq => by
    rcases hq with ⟨k, e, h, rfl⟩ | h
    · exact hD.2 k e h
    · exact hA q (Nat.le_trans hS.1 h)
  rw [q0] at hz hk
  rw [← e1] at hz hk hP'
  have hL2 : L.map (lc ad') = L.map (lc ad) := List.map_congr_left (fun q hq => by unfold lc; rw [cv_ext hx (hwl q hq)])
  have hs : SR mi Ψ MC MS s D dA A w0 ad0 ad' T'.heap (locs ++ Lc) ls L (r.toList ++ rest) w' (nc + mc) (ns + ms) := by
    refine ⟨by rw [hx 8 (Or.inr rfl)]; exact g1, g2.trans hE, hP', ⟨hD'.1, fun k e h => hAA _ (hD'.2 k e h)⟩, ⟨Nat.le_trans hS.1 hz, fun q q1 q2 => (hk q (Nat.lt_of_lt_of_le q1 hS.1) (fun z => q2 (hAA q z))).trans (hS.2.1 q q1 q2), fun q hq => ?_⟩, by rw [hL2]; exact hlv, fun q hq => okv_mono hmv (hwl q hq), fun u hu => ?_, h1, h2⟩
    · rcases List.mem_append.mp hq with h | h
      · exact hS.2.2 q h
      · exact hAA _ (hLc q h)
    · rcases List.mem_append.mp hu with h | h
      · cases r with
        | none => cases h
        | some x => cases List.mem_singleton.mp h; exact hok _ rfl
      · exact okv_mono hmv (hws u h)
  obtain ⟨t2, a1, b1⟩ := kk r w' hpost l p e s m args below meth c Q D dA A w0 ad0 C R ad' T'.heap (locs ++ Lc) ls hs T' rfl X'
  refine ⟨t2, stp t2 ?_, b1⟩
  have e5 : (r.toList ++ rest).map (cv ad') = (r.map (cv ad')).toList ++ rest.map (cv ad) := by
    rw [List.map_append, map_ext hx hws]
    cases r <;> rfl
  rw [e5] at a1
  exact a1
theorem aw_callV {As : List Value} {b ci : Nat} {fs : List Value} {q : vw_C} (d : DcV mi mi' pc pc') (kv : KV mi' n) (hM : AMet mi' (.ref b :: As) w Post mc ms) (hst : st = As.reverse ++ .ref b :: rest) (hn : As.length = n) (hb : look w b = some (.inr (ci, fs))) (hc : classes[ci]? = some q) (hq : q.1 = mi'.1.cls) (hcat : (rest.map fun v => v.category).sum ≤ 8) (h1 : nc + mc ≤ MC) (h2 : ns + ms ≤ MS)
    (kk : ∀ r w', Post r w' → AW mi Ψ Z MC MS pc' L (r.toList ++ rest) w' (nc + mc) (ns + ms)) : AW mi Ψ Z MC MS pc L st w nc ns := by
  obtain ⟨idx, d, rfl, hlink, hfit⟩ := d
  obtain ⟨k1, k2, k3, k4, k5⟩ := kv
  subst hst
  intro l p e s m args below meth c Q D dA A w0 ad0 C R ad H locs ls h
  have hokA : ∀ v ∈ (Value.ref b :: As), okv w v := fun v hv => h.2.2.2.2.2.2.2.1 v (by
    rcases List.mem_cons.mp hv with rfl | hv
    · exact List.mem_append_right _ List.mem_cons_self
    · exact List.mem_append_left _ (List.mem_reverse.mpr hv))
  have hr : SR mi Ψ MC MS s D dA A w0 ad0 ad H locs ls L rest w nc ns := ⟨h.1, h.2.1, h.2.2.1, h.2.2.2.1, h.2.2.2.2.1, h.2.2.2.2.2.1, h.2.2.2.2.2.2.1, fun v hv => h.2.2.2.2.2.2.2.1 v (List.mem_append_right _ (List.mem_cons_of_mem _ hv)), h.2.2.2.2.2.2.2.2⟩
  have hK := C.2.2.2.2.2.2.2.2.1
  have hts := C.2.2.2.2.2.1
  obtain ⟨⟨r', e1, cell, e2, e3, e4, -⟩, -⟩ := h.2.2.1 b _ hb
  have hr' : r' = q := Option.some.inj (e1.symm.trans hc)
  subst hr'
  have hrecv : ∃ cellB : Cell, H[ad b]? = some cellB ∧ cellB.vm.isStatics = false ∧ s.vm.findClass mi'.1.cls = some cellB.cls := ⟨cell, e2, by rw [e4]; rfl, by rw [e3, ← hq]; exact (hK.1.1 ci r' hc).2.1⟩
  have hG : GoodIn gtb (wsV mi.1.cls idx mi'.1.cls mi'.1 (mws mi')) := by
    intro x hx
    rcases List.mem_append.mp hx with hx | hx
    · simp only [List.mem_cons, List.not_mem_nil, or_false] at hx
      rcases hx with rfl | rfl | rfl | rfl
      · exact ⟨hlink, good_gtb hlink⟩
      · exact ⟨k1, good_gtb k1⟩
      · exact ⟨k2, good_gtb k2⟩
      · exact ⟨k3, good_gtb k3⟩
    · exact mws_good k4 x hx
  refine aw_back C R hr h1 h2 (va_runV (As := As.map (cv ad)) (rest := rest.map (cv ad)) (Ts := gtb) ⟨C.1, C.2.1, C.2.2.2.1, C.2.2.2.2.1, hts⟩ (hM l D dA ad H.size) (cwV n hts hG rfl rfl rfl ⟨rfl, k5⟩ hfit) ⟨blindA, hrecv, preA h.2.2.1 hK h.2.2.2.1 hokA⟩ rfl (by rw [List.length_map]; exact hn) h.2.2.2.2.2.1.1 ?_ (lv_room (by rw [cat_rest]; exact hcat)) d ⟨h1, h2⟩) kk
  show (As.reverse ++ .ref b :: rest).map (cv ad) = _
  rw [List.map_append, List.map_reverse]
  rfl
theorem aw_callS {As : List Value} (d : DcS mi mi' pc pc') (kv : KS mi' n) (hM : AMet mi' As w Post mc ms) (hst : st = As.reverse ++ rest) (hn : As.length = n) (hcat : (rest.map fun v => v.category).sum ≤ 8) (h1 : nc + mc ≤ MC) (h2 : ns + ms ≤ MS)
    (kk : ∀ r w', Post r w' → AW mi Ψ Z MC MS pc' L (r.toList ++ rest) w' (nc + mc) (ns + ms)) : AW mi Ψ Z MC MS pc L st w nc ns := by
  obtain ⟨idx, d, rfl, hlink, hfit⟩ := d
  obtain ⟨k1, k3, k4, k5⟩ := kv
  subst hst
  intro l p e s m args below meth c Q D dA A w0 ad0 C R ad H locs ls h
  have hokA : ∀ v ∈ As, okv w v := fun v hv => h.2.2.2.2.2.2.2.1 v (List.mem_append_left _ (List.mem_reverse.mpr hv))
  have hr : SR mi Ψ MC MS s D dA A w0 ad0 ad H locs ls L rest w nc ns := ⟨h.1, h.2.1, h.2.2.1, h.2.2.2.1, h.2.2.2.2.1, h.2.2.2.2.2.1, h.2.2.2.2.2.2.1, fun v hv => h.2.2.2.2.2.2.2.1 v (List.mem_append_right _ hv), h.2.2.2.2.2.2.2.2⟩
  have hK := C.2.2.2.2.2.2.2.2.1
  have hts := C.2.2.2.2.2.1
  refine aw_back C R hr h1 h2 (va_runS (As := As.map (cv ad)) (rest := rest.map (cv ad)) (Ts := gtb) ⟨C.1, C.2.1, C.2.2.2.1, C.2.2.2.2.1, hts⟩ (hM l D dA ad H.size) ⟨callB_of n hts (mws_good k4) rfl rfl rfl (hts _ k3) (hts _ hlink) k5 hfit, hts _ k1⟩ ⟨blindA, preA h.2.2.1 hK h.2.2.2.1 hokA⟩ rfl (by rw [List.length_map]; exact hn) h.2.2.2.2.2.1.1 ?_ (lv_room (by rw [cat_rest]; exact hcat)) d ⟨h1, h2⟩) kk
  show (As.reverse ++ rest).map (cv ad) = _
  rw [List.map_append, List.map_reverse]
theorem mi_none (h : mi'.2.2.2.1 = none) : mi' = (mi'.1, mi'.2.1, mi'.2.2.1, none, mi'.2.2.2.2) := by rw [← h]
theorem aw_callI {As : List Value} {b : Nat} (d : DcI mi mi' pc pc') (kv : KI mi' n) (hM : AMet mi' (.ref b :: As) w Post mc ms) (hst : st = As.reverse ++ .ref b :: rest) (hn : As.length = n) (hcat : (rest.map fun v => v.category).sum ≤ 8) (h1 : nc + mc ≤ MC) (h2 : ns + ms ≤ MS)
    (kk : ∀ r w', Post r w' → AW mi Ψ Z MC MS pc' L (r.toList ++ rest) w' (nc + mc) (ns + ms)) : AW mi Ψ Z MC MS pc L st w nc ns := by
  obtain ⟨idx, d, rfl, hlink, hfit⟩ := d
  obtain ⟨k1, k2, k6, k3, k4, k5⟩ := kv
  subst hst
  intro l p e s m args below meth c Q D dA A w0 ad0 C R ad H locs ls h
  have hokA : ∀ v ∈ (Value.ref b :: As), okv w v := fun v hv => h.2.2.2.2.2.2.2.1 v (by
    rcases List.mem_cons.mp hv with rfl | hv
    · exact List.mem_append_right _ List.mem_cons_self
    · exact List.mem_append_left _ (List.mem_reverse.mpr hv))
  have hr : SR mi Ψ MC MS s D dA A w0 ad0 ad H locs ls L rest w nc ns := ⟨h.1, h.2.1, h.2.2.1, h.2.2.2.1, h.2.2.2.2.1, h.2.2.2.2.2.1, h.2.2.2.2.2.2.1, fun v hv => h.2.2.2.2.2.2.2.1 v (List.mem_append_right _ (List.mem_cons_of_mem _ hv)), h.2.2.2.2.2.2.2.2⟩
  have hK := C.2.2.2.2.2.2.2.2.1
  have hts := C.2.2.2.2.2.1
  have cb := callB_of (own := mi.1.cls) (index := idx) (R := rmOf mi MC MS) (rm := rmOf mi' mc ms) n hts (mws_good k4) rfl rfl rfl (hts _ k3) (hts _ hlink) k5 hfit
  rw [k6] at cb
  refine aw_back C R hr h1 h2 (va_runI (As := As.map (cv ad)) (rest := rest.map (cv ad)) (Ts := gtb) (b := ad b) ⟨C.1, C.2.1, C.2.2.2.1, C.2.2.2.2.1, hts⟩ (hM l D dA ad H.size) ⟨cb, k2, hts _ k1⟩ ⟨blindA, preA h.2.2.1 hK h.2.2.2.1 hokA⟩ rfl (by rw [List.length_map]; exact hn) h.2.2.2.2.2.1.1 ?_ (lv_room (by rw [cat_rest]; exact hcat)) d ⟨h1, h2⟩) kk
  show (As.reverse ++ .ref b :: rest).map (cv ad) = _
  rw [List.map_append, List.map_reverse]
  rfl
theorem aw_callN {As : List Value} {b : Nat} (d : DcN mi mi' pc pc') (kv : KI mi' n) (hM : AMet mi' (.ref b :: As) w Post mc ms) (hst : st = As.reverse ++ .ref b :: rest) (hn : As.length = n) (hcat : (rest.map fun v => v.category).sum ≤ 8) (h1 : nc + mc ≤ MC) (h2 : ns + ms ≤ MS)
    (kk : ∀ r w', Post r w' → AW mi Ψ Z MC MS pc' L (r.toList ++ rest) w' (nc + mc) (ns + ms)) : AW mi Ψ Z MC MS pc L st w nc ns := by
  obtain ⟨idx, d, rfl, hlink, hfit⟩ := d
  obtain ⟨k1, k2, k6, k3, k4, k5⟩ := kv
  subst hst
  intro l p e s m args below meth c Q D dA A w0 ad0 C R ad H locs ls h
  have hokA : ∀ v ∈ (Value.ref b :: As), okv w v := fun v hv => h.2.2.2.2.2.2.2.1 v (by
    rcases List.mem_cons.mp hv with rfl | hv
    · exact List.mem_append_right _ List.mem_cons_self
    · exact List.mem_append_left _ (List.mem_reverse.mpr hv))
  have hr : SR mi Ψ MC MS s D dA A w0 ad0 ad H locs ls L rest w nc ns := ⟨h.1, h.2.1, h.2.2.1, h.2.2.2.1, h.2.2.2.2.1, h.2.2.2.2.2.1, h.2.2.2.2.2.2.1, fun v hv => h.2.2.2.2.2.2.2.1 v (List.mem_append_right _ (List.mem_cons_of_mem _ hv)), h.2.2.2.2.2.2.2.2⟩
  have hK := C.2.2.2.2.2.2.2.2.1
  have hts := C.2.2.2.2.2.1
  have cb := va_cnB (args := args) (R := rmOf mi MC MS) (rm := rmOf mi' mc ms) n hts (mws_good k4) rfl rfl rfl (hK.2.2 _ hlink) (hts _ k3) k5 hfit
  rw [k6] at cb
  refine aw_back C R hr h1 h2 (va_runIN (As := As.map (cv ad)) (rest := rest.map (cv ad)) (Ts := gtb) (b := ad b) ⟨C.1, C.2.1, C.2.2.2.1, C.2.2.2.2.1, hts⟩ (hM l D dA ad H.size) ⟨cb, k2, hts _ k1⟩ ⟨blindA, preA h.2.2.1 hK h.2.2.2.1 hokA⟩ rfl (by rw [List.length_map]; exact hn) h.2.2.2.2.2.1.1 ?_ (lv_room (by rw [cat_rest]; exact hcat)) d ⟨h1, h2⟩) kk
  show (As.reverse ++ .ref b :: rest).map (cv ad) = _
  rw [List.map_append, List.map_reverse]
  rfl
end Calls
end
