section
-- ===== PART A: goes FIRST, ahead of the names: the tables' words, and 'selects' of the private methods out of them =====
/-- a private method of a class that the tables say can be made, by its rows of tables_1 -/
def lw_okq (q : MethodName × Nat) : Prop := (q.1.cls ≠ "java/lang/invoke/MethodHandle" ∧ q.1.cls ≠ "java/lang/invoke/VarHandle") ∧ Cond.instantiable q.1.cls q.2 ∈ tables_1 ∧ Cond.privateMethod q.1 ∈ tables_1 ∧ Cond.instanceMethod q.1 ∈ tables_1
theorem lw_p0 : lw_okq (⟨"PearlMother", "whoSeesHerLook", "(LPearlMother$State;)I"⟩, 13) := ⟨⟨by decide +kernel, by decide +kernel⟩, List.mem_of_getElem? (i := 14) (by decide +kernel), List.mem_of_getElem? (i := 299) (by decide +kernel), List.mem_of_getElem? (i := 300) (by decide +kernel)⟩
theorem lw_p1 : lw_okq (⟨"PearlMother", "partsSeen", "(LPearlMother$State;II)I"⟩, 13) := ⟨⟨by decide +kernel, by decide +kernel⟩, List.mem_of_getElem? (i := 14) (by decide +kernel), List.mem_of_getElem? (i := 303) (by decide +kernel), List.mem_of_getElem? (i := 304) (by decide +kernel)⟩
theorem lw_p2 : lw_okq (⟨"PearlMother", "showsAfter", "(LPearlMother$State;III)Z"⟩, 13) := ⟨⟨by decide +kernel, by decide +kernel⟩, List.mem_of_getElem? (i := 14) (by decide +kernel), List.mem_of_getElem? (i := 307) (by decide +kernel), List.mem_of_getElem? (i := 308) (by decide +kernel)⟩
theorem lw_p3 : lw_okq (⟨"PearlMother", "partsSeenTogether", "()I"⟩, 13) := ⟨⟨by decide +kernel, by decide +kernel⟩, List.mem_of_getElem? (i := 14) (by decide +kernel), List.mem_of_getElem? (i := 347) (by decide +kernel), List.mem_of_getElem? (i := 348) (by decide +kernel)⟩
theorem lw_p4 : lw_okq (⟨"PearlMother", "piecesOf", "(I)I"⟩, 13) := ⟨⟨by decide +kernel, by decide +kernel⟩, List.mem_of_getElem? (i := 14) (by decide +kernel), List.mem_of_getElem? (i := 356) (by decide +kernel), List.mem_of_getElem? (i := 357) (by decide +kernel)⟩
theorem lw_p5 : lw_okq (⟨"PearlMother", "takeBack", "(I)V"⟩, 13) := ⟨⟨by decide +kernel, by decide +kernel⟩, List.mem_of_getElem? (i := 14) (by decide +kernel), List.mem_of_getElem? (i := 405) (by decide +kernel), List.mem_of_getElem? (i := 406) (by decide +kernel)⟩
theorem lw_p6 : lw_okq (⟨"PearlMother", "fewestTilts", "(II)I"⟩, 13) := ⟨⟨by decide +kernel, by decide +kernel⟩, List.mem_of_getElem? (i := 14) (by decide +kernel), List.mem_of_getElem? (i := 417) (by decide +kernel), List.mem_of_getElem? (i := 418) (by decide +kernel)⟩
theorem lw_p7 : lw_okq (⟨"PearlMother", "fewestTiltsToSee", "(II)I"⟩, 13) := ⟨⟨by decide +kernel, by decide +kernel⟩, List.mem_of_getElem? (i := 14) (by decide +kernel), List.mem_of_getElem? (i := 425) (by decide +kernel), List.mem_of_getElem? (i := 426) (by decide +kernel)⟩
theorem lw_p8 : lw_okq (⟨"PearlMother", "partsHeld", "(I)I"⟩, 13) := ⟨⟨by decide +kernel, by decide +kernel⟩, List.mem_of_getElem? (i := 14) (by decide +kernel), List.mem_of_getElem? (i := 433) (by decide +kernel), List.mem_of_getElem? (i := 434) (by decide +kernel)⟩
theorem lw_p9 : lw_okq (⟨"PearlMother", "hoursUntilSeen", "(II)I"⟩, 13) := ⟨⟨by decide +kernel, by decide +kernel⟩, List.mem_of_getElem? (i := 14) (by decide +kernel), List.mem_of_getElem? (i := 441) (by decide +kernel), List.mem_of_getElem? (i := 442) (by decide +kernel)⟩
theorem lw_p10 : lw_okq (⟨"PearlMother", "canBeDone", "(I)Z"⟩, 13) := ⟨⟨by decide +kernel, by decide +kernel⟩, List.mem_of_getElem? (i := 14) (by decide +kernel), List.mem_of_getElem? (i := 499) (by decide +kernel), List.mem_of_getElem? (i := 500) (by decide +kernel)⟩
theorem lw_p11 : lw_okq (⟨"PearlMother", "piecesThatShow", "(I)I"⟩, 13) := ⟨⟨by decide +kernel, by decide +kernel⟩, List.mem_of_getElem? (i := 14) (by decide +kernel), List.mem_of_getElem? (i := 510) (by decide +kernel), List.mem_of_getElem? (i := 511) (by decide +kernel)⟩
theorem lw_p12 : lw_okq (⟨"PearlMother", "staysWith", "(IIII)Z"⟩, 13) := ⟨⟨by decide +kernel, by decide +kernel⟩, List.mem_of_getElem? (i := 14) (by decide +kernel), List.mem_of_getElem? (i := 561) (by decide +kernel), List.mem_of_getElem? (i := 562) (by decide +kernel)⟩
theorem lw_p13 : lw_okq (⟨"PearlMother", "worth", "(IIII)I"⟩, 13) := ⟨⟨by decide +kernel, by decide +kernel⟩, List.mem_of_getElem? (i := 14) (by decide +kernel), List.mem_of_getElem? (i := 565) (by decide +kernel), List.mem_of_getElem? (i := 566) (by decide +kernel)⟩
theorem lw_p14 : lw_okq (⟨"PearlMother", "spreadChances", "(II)I"⟩, 13) := ⟨⟨by decide +kernel, by decide +kernel⟩, List.mem_of_getElem? (i := 14) (by decide +kernel), List.mem_of_getElem? (i := 573) (by decide +kernel), List.mem_of_getElem? (i := 574) (by decide +kernel)⟩
theorem lw_p15 : lw_okq (⟨"PearlMother", "befall", "(I)V"⟩, 13) := ⟨⟨by decide +kernel, by decide +kernel⟩, List.mem_of_getElem? (i := 14) (by decide +kernel), List.mem_of_getElem? (i := 588) (by decide +kernel), List.mem_of_getElem? (i := 589) (by decide +kernel)⟩
def lw_privs_1 : List (MethodName × Nat) := [(⟨"PearlMother", "whoSeesHerLook", "(LPearlMother$State;)I"⟩, 13), (⟨"PearlMother", "partsSeen", "(LPearlMother$State;II)I"⟩, 13), (⟨"PearlMother", "showsAfter", "(LPearlMother$State;III)Z"⟩, 13), (⟨"PearlMother", "partsSeenTogether", "()I"⟩, 13), (⟨"PearlMother", "piecesOf", "(I)I"⟩, 13), (⟨"PearlMother", "takeBack", "(I)V"⟩, 13), (⟨"PearlMother", "fewestTilts", "(II)I"⟩, 13), (⟨"PearlMother", "fewestTiltsToSee", "(II)I"⟩, 13), (⟨"PearlMother", "partsHeld", "(I)I"⟩, 13), (⟨"PearlMother", "hoursUntilSeen", "(II)I"⟩, 13), (⟨"PearlMother", "canBeDone", "(I)Z"⟩, 13), (⟨"PearlMother", "piecesThatShow", "(I)I"⟩, 13), (⟨"PearlMother", "staysWith", "(IIII)Z"⟩, 13), (⟨"PearlMother", "worth", "(IIII)I"⟩, 13), (⟨"PearlMother", "spreadChances", "(II)I"⟩, 13), (⟨"PearlMother", "befall", "(I)V"⟩, 13)]
theorem lw_r1 : ∀ q ∈ lw_privs_1, lw_okq q := List.forall_mem_cons.mpr ⟨lw_p0, List.forall_mem_cons.mpr ⟨lw_p1, List.forall_mem_cons.mpr ⟨lw_p2, List.forall_mem_cons.mpr ⟨lw_p3, List.forall_mem_cons.mpr ⟨lw_p4, List.forall_mem_cons.mpr ⟨lw_p5, List.forall_mem_cons.mpr ⟨lw_p6, List.forall_mem_cons.mpr ⟨lw_p7, List.forall_mem_cons.mpr ⟨lw_p8, List.forall_mem_cons.mpr ⟨lw_p9, List.forall_mem_cons.mpr ⟨lw_p10, List.forall_mem_cons.mpr ⟨lw_p11, List.forall_mem_cons.mpr ⟨lw_p12, List.forall_mem_cons.mpr ⟨lw_p13, List.forall_mem_cons.mpr ⟨lw_p14, List.forall_mem_cons.mpr ⟨lw_p15, fun _ h => absurd h List.not_mem_nil⟩⟩⟩⟩⟩⟩⟩⟩⟩⟩⟩⟩⟩⟩⟩⟩
theorem lw_p16 : lw_okq (⟨"PearlMotherModel", "readCoast", "()I"⟩, 31) := ⟨⟨by decide +kernel, by decide +kernel⟩, List.mem_of_getElem? (i := 600) (by decide +kernel), List.mem_of_getElem? (i := 716) (by decide +kernel), List.mem_of_getElem? (i := 717) (by decide +kernel)⟩
theorem lw_p17 : lw_okq (⟨"PearlMotherModel", "figure", "(I)I"⟩, 31) := ⟨⟨by decide +kernel, by decide +kernel⟩, List.mem_of_getElem? (i := 600) (by decide +kernel), List.mem_of_getElem? (i := 720) (by decide +kernel), List.mem_of_getElem? (i := 721) (by decide +kernel)⟩
theorem lw_p18 : lw_okq (⟨"PearlMotherModel", "readThing", "()Z"⟩, 31) := ⟨⟨by decide +kernel, by decide +kernel⟩, List.mem_of_getElem? (i := 600) (by decide +kernel), List.mem_of_getElem? (i := 724) (by decide +kernel), List.mem_of_getElem? (i := 725) (by decide +kernel)⟩
theorem lw_p19 : lw_okq (⟨"PearlMotherModel", "readOneHolder", "()Z"⟩, 31) := ⟨⟨by decide +kernel, by decide +kernel⟩, List.mem_of_getElem? (i := 600) (by decide +kernel), List.mem_of_getElem? (i := 728) (by decide +kernel), List.mem_of_getElem? (i := 729) (by decide +kernel)⟩
theorem lw_p20 : lw_okq (⟨"PearlMotherModel", "readOnePiece", "()Z"⟩, 31) := ⟨⟨by decide +kernel, by decide +kernel⟩, List.mem_of_getElem? (i := 600) (by decide +kernel), List.mem_of_getElem? (i := 732) (by decide +kernel), List.mem_of_getElem? (i := 733) (by decide +kernel)⟩
theorem lw_p21 : lw_okq (⟨"PearlMotherModel", "lookers", "([I)I"⟩, 31) := ⟨⟨by decide +kernel, by decide +kernel⟩, List.mem_of_getElem? (i := 600) (by decide +kernel), List.mem_of_getElem? (i := 744) (by decide +kernel), List.mem_of_getElem? (i := 745) (by decide +kernel)⟩
theorem lw_p22 : lw_okq (⟨"PearlMotherModel", "seesOf", "([III)I"⟩, 31) := ⟨⟨by decide +kernel, by decide +kernel⟩, List.mem_of_getElem? (i := 600) (by decide +kernel), List.mem_of_getElem? (i := 748) (by decide +kernel), List.mem_of_getElem? (i := 749) (by decide +kernel)⟩
theorem lw_p23 : lw_okq (⟨"PearlMotherModel", "isShown", "([II)Z"⟩, 31) := ⟨⟨by decide +kernel, by decide +kernel⟩, List.mem_of_getElem? (i := 600) (by decide +kernel), List.mem_of_getElem? (i := 755) (by decide +kernel), List.mem_of_getElem? (i := 756) (by decide +kernel)⟩
theorem lw_p24 : lw_okq (⟨"PearlMotherModel", "showsTo", "(III)Z"⟩, 31) := ⟨⟨by decide +kernel, by decide +kernel⟩, List.mem_of_getElem? (i := 600) (by decide +kernel), List.mem_of_getElem? (i := 762) (by decide +kernel), List.mem_of_getElem? (i := 763) (by decide +kernel)⟩
theorem lw_p25 : lw_okq (⟨"PearlMotherModel", "together", "([II)I"⟩, 31) := ⟨⟨by decide +kernel, by decide +kernel⟩, List.mem_of_getElem? (i := 600) (by decide +kernel), List.mem_of_getElem? (i := 772) (by decide +kernel), List.mem_of_getElem? (i := 773) (by decide +kernel)⟩
theorem lw_p26 : lw_okq (⟨"PearlMotherModel", "noHolder", "(I)Z"⟩, 31) := ⟨⟨by decide +kernel, by decide +kernel⟩, List.mem_of_getElem? (i := 600) (by decide +kernel), List.mem_of_getElem? (i := 780) (by decide +kernel), List.mem_of_getElem? (i := 781) (by decide +kernel)⟩
theorem lw_p27 : lw_okq (⟨"PearlMotherModel", "heldBy", "([II)I"⟩, 31) := ⟨⟨by decide +kernel, by decide +kernel⟩, List.mem_of_getElem? (i := 600) (by decide +kernel), List.mem_of_getElem? (i := 784) (by decide +kernel), List.mem_of_getElem? (i := 785) (by decide +kernel)⟩
theorem lw_p28 : lw_okq (⟨"PearlMotherModel", "noPiece", "(I)Z"⟩, 31) := ⟨⟨by decide +kernel, by decide +kernel⟩, List.mem_of_getElem? (i := 600) (by decide +kernel), List.mem_of_getElem? (i := 792) (by decide +kernel), List.mem_of_getElem? (i := 793) (by decide +kernel)⟩
theorem lw_p29 : lw_okq (⟨"PearlMotherModel", "note", "()V"⟩, 31) := ⟨⟨by decide +kernel, by decide +kernel⟩, List.mem_of_getElem? (i := 600) (by decide +kernel), List.mem_of_getElem? (i := 805) (by decide +kernel), List.mem_of_getElem? (i := 806) (by decide +kernel)⟩
theorem lw_p30 : lw_okq (⟨"PearlMotherModel", "tiltsOf", "(II)I"⟩, 31) := ⟨⟨by decide +kernel, by decide +kernel⟩, List.mem_of_getElem? (i := 600) (by decide +kernel), List.mem_of_getElem? (i := 831) (by decide +kernel), List.mem_of_getElem? (i := 832) (by decide +kernel)⟩
theorem lw_p31 : lw_okq (⟨"PearlMotherModel", "findsOf", "(II)I"⟩, 31) := ⟨⟨by decide +kernel, by decide +kernel⟩, List.mem_of_getElem? (i := 600) (by decide +kernel), List.mem_of_getElem? (i := 840) (by decide +kernel), List.mem_of_getElem? (i := 841) (by decide +kernel)⟩
def lw_privs_2 : List (MethodName × Nat) := [(⟨"PearlMotherModel", "readCoast", "()I"⟩, 31), (⟨"PearlMotherModel", "figure", "(I)I"⟩, 31), (⟨"PearlMotherModel", "readThing", "()Z"⟩, 31), (⟨"PearlMotherModel", "readOneHolder", "()Z"⟩, 31), (⟨"PearlMotherModel", "readOnePiece", "()Z"⟩, 31), (⟨"PearlMotherModel", "lookers", "([I)I"⟩, 31), (⟨"PearlMotherModel", "seesOf", "([III)I"⟩, 31), (⟨"PearlMotherModel", "isShown", "([II)Z"⟩, 31), (⟨"PearlMotherModel", "showsTo", "(III)Z"⟩, 31), (⟨"PearlMotherModel", "together", "([II)I"⟩, 31), (⟨"PearlMotherModel", "noHolder", "(I)Z"⟩, 31), (⟨"PearlMotherModel", "heldBy", "([II)I"⟩, 31), (⟨"PearlMotherModel", "noPiece", "(I)Z"⟩, 31), (⟨"PearlMotherModel", "note", "()V"⟩, 31), (⟨"PearlMotherModel", "tiltsOf", "(II)I"⟩, 31), (⟨"PearlMotherModel", "findsOf", "(II)I"⟩, 31)]
theorem lw_r2 : ∀ q ∈ lw_privs_2, lw_okq q := List.forall_mem_cons.mpr ⟨lw_p16, List.forall_mem_cons.mpr ⟨lw_p17, List.forall_mem_cons.mpr ⟨lw_p18, List.forall_mem_cons.mpr ⟨lw_p19, List.forall_mem_cons.mpr ⟨lw_p20, List.forall_mem_cons.mpr ⟨lw_p21, List.forall_mem_cons.mpr ⟨lw_p22, List.forall_mem_cons.mpr ⟨lw_p23, List.forall_mem_cons.mpr ⟨lw_p24, List.forall_mem_cons.mpr ⟨lw_p25, List.forall_mem_cons.mpr ⟨lw_p26, List.forall_mem_cons.mpr ⟨lw_p27, List.forall_mem_cons.mpr ⟨lw_p28, List.forall_mem_cons.mpr ⟨lw_p29, List.forall_mem_cons.mpr ⟨lw_p30, List.forall_mem_cons.mpr ⟨lw_p31, fun _ h => absurd h List.not_mem_nil⟩⟩⟩⟩⟩⟩⟩⟩⟩⟩⟩⟩⟩⟩⟩⟩
theorem lw_p32 : lw_okq (⟨"PearlMotherModel", "partsHeld", "(I)I"⟩, 31) := ⟨⟨by decide +kernel, by decide +kernel⟩, List.mem_of_getElem? (i := 600) (by decide +kernel), List.mem_of_getElem? (i := 848) (by decide +kernel), List.mem_of_getElem? (i := 849) (by decide +kernel)⟩
theorem lw_p33 : lw_okq (⟨"PearlMotherModel", "begin", "()V"⟩, 31) := ⟨⟨by decide +kernel, by decide +kernel⟩, List.mem_of_getElem? (i := 600) (by decide +kernel), List.mem_of_getElem? (i := 856) (by decide +kernel), List.mem_of_getElem? (i := 857) (by decide +kernel)⟩
theorem lw_p34 : lw_okq (⟨"PearlMotherModel", "isLaid", "(II)Z"⟩, 31) := ⟨⟨by decide +kernel, by decide +kernel⟩, List.mem_of_getElem? (i := 600) (by decide +kernel), List.mem_of_getElem? (i := 867) (by decide +kernel), List.mem_of_getElem? (i := 868) (by decide +kernel)⟩
theorem lw_p35 : lw_okq (⟨"PearlMotherModel", "mayBeOne", "(II)Z"⟩, 31) := ⟨⟨by decide +kernel, by decide +kernel⟩, List.mem_of_getElem? (i := 600) (by decide +kernel), List.mem_of_getElem? (i := 871) (by decide +kernel), List.mem_of_getElem? (i := 872) (by decide +kernel)⟩
theorem lw_p36 : lw_okq (⟨"PearlMotherModel", "does", "(I)Z"⟩, 31) := ⟨⟨by decide +kernel, by decide +kernel⟩, List.mem_of_getElem? (i := 600) (by decide +kernel), List.mem_of_getElem? (i := 890) (by decide +kernel), List.mem_of_getElem? (i := 891) (by decide +kernel)⟩
theorem lw_p37 : lw_okq (⟨"PearlMotherModel", "mayBe", "(I)Z"⟩, 31) := ⟨⟨by decide +kernel, by decide +kernel⟩, List.mem_of_getElem? (i := 600) (by decide +kernel), List.mem_of_getElem? (i := 920) (by decide +kernel), List.mem_of_getElem? (i := 921) (by decide +kernel)⟩
theorem lw_p38 : lw_okq (⟨"PearlMotherModel", "greatest", "(I)I"⟩, 31) := ⟨⟨by decide +kernel, by decide +kernel⟩, List.mem_of_getElem? (i := 600) (by decide +kernel), List.mem_of_getElem? (i := 931) (by decide +kernel), List.mem_of_getElem? (i := 932) (by decide +kernel)⟩
def lw_privs_3 : List (MethodName × Nat) := [(⟨"PearlMotherModel", "partsHeld", "(I)I"⟩, 31), (⟨"PearlMotherModel", "begin", "()V"⟩, 31), (⟨"PearlMotherModel", "isLaid", "(II)Z"⟩, 31), (⟨"PearlMotherModel", "mayBeOne", "(II)Z"⟩, 31), (⟨"PearlMotherModel", "does", "(I)Z"⟩, 31), (⟨"PearlMotherModel", "mayBe", "(I)Z"⟩, 31), (⟨"PearlMotherModel", "greatest", "(I)I"⟩, 31)]
theorem lw_r3 : ∀ q ∈ lw_privs_3, lw_okq q := List.forall_mem_cons.mpr ⟨lw_p32, List.forall_mem_cons.mpr ⟨lw_p33, List.forall_mem_cons.mpr ⟨lw_p34, List.forall_mem_cons.mpr ⟨lw_p35, List.forall_mem_cons.mpr ⟨lw_p36, List.forall_mem_cons.mpr ⟨lw_p37, List.forall_mem_cons.mpr ⟨lw_p38, fun _ h => absurd h List.not_mem_nil⟩⟩⟩⟩⟩⟩⟩
def lw_privs : List (MethodName × Nat) := lw_privs_1 ++ (lw_privs_2 ++ (lw_privs_3))
def lw_tbl : List Cond := k2_sels lw_privs ++ tables_1
theorem lw_privs_ok : ∀ q ∈ lw_privs, lw_okq q := by
  show ∀ q ∈ lw_privs_1 ++ (lw_privs_2 ++ (lw_privs_3)), lw_okq q
  exact List.forall_mem_append.mpr ⟨lw_r1, List.forall_mem_append.mpr ⟨lw_r2, lw_r3⟩⟩
-- ===== names =====
def TB : List Cond := lw_tbl.filter goodWord
theorem tb_mem {w : Cond} (i : Nat) (h : lw_tbl[i]? = some w) (hg : goodWord w = true) : w ∈ TB := List.mem_filter.mpr ⟨List.mem_of_getElem? h, hg⟩
abbrev MR : Type := MethodName × ByteArray × Nat × Option FieldType
def CN_Ac : String := "PearlMother$Acts"
def CT_Ac : u_T := fun k => match k with
  | 0 => ("PearlMother$Acts", "row", "[I", true)
  | _ => ("PearlMother$Acts", "count", "I", false)
def Cy_Ac : Nat → FieldType := fun k => match k with
  | 0 => .array .int
  | _ => .int
theorem Cn_Ac : ∀ a, a < 2 → ∀ b, b < 2 → a ≠ b → (CT_Ac a).2.1 ≠ (CT_Ac b).2.1 := by decide +kernel
theorem Ck_Ac : ∀ k, k < 2 → parseFieldDescriptor (CT_Ac k).2.2.1 = some (Cy_Ac k) := by decide +kernel
set_option maxRecDepth 20000 in
theorem Ci_Ac : ∀ w ∈ u_ws CN_Ac CT_Ac 2, w ∈ TB := by
  have h : u_ws CN_Ac CT_Ac 2 = [156, 158].filterMap (fun i => lw_tbl[i]?) := by decide +kernel
  have hg : (u_ws CN_Ac CT_Ac 2).all goodWord = true := by decide +kernel
  intro w hw
  have h1 := List.all_eq_true.mp hg w hw
  rw [h] at hw
  obtain ⟨i, -, hi⟩ := List.mem_filterMap.mp hw
  exact tb_mem i hi h1
def CN_Co : String := "PearlMother$Coast"
def CT_Co : u_T := fun k => match k with
  | 0 => ("PearlMother$Coast", "holderKind", "[I", true)
  | 1 => ("PearlMother$Coast", "part", "[I", true)
  | 2 => ("PearlMother$Coast", "angle", "[I", true)
  | 3 => ("PearlMother$Coast", "kind", "[I", true)
  | 4 => ("PearlMother$Coast", "heldBy", "[I", true)
  | 5 => ("PearlMother$Coast", "light", "I", false)
  | 6 => ("PearlMother$Coast", "holders", "I", false)
  | _ => ("PearlMother$Coast", "pieces", "I", false)
def Cy_Co : Nat → FieldType := fun k => match k with
  | 0 => .array .int
  | 1 => .array .int
  | 2 => .array .int
  | 3 => .array .int
  | 4 => .array .int
  | 5 => .int
  | 6 => .int
  | _ => .int
theorem Cn_Co : ∀ a, a < 8 → ∀ b, b < 8 → a ≠ b → (CT_Co a).2.1 ≠ (CT_Co b).2.1 := by decide +kernel
theorem Ck_Co : ∀ k, k < 8 → parseFieldDescriptor (CT_Co k).2.2.1 = some (Cy_Co k) := by decide +kernel
set_option maxRecDepth 20000 in
theorem Ci_Co : ∀ w ∈ u_ws CN_Co CT_Co 8, w ∈ TB := by
  have h : u_ws CN_Co CT_Co 8 = [103, 105, 107, 109, 111, 113, 115, 117].filterMap (fun i => lw_tbl[i]?) := by decide +kernel
  have hg : (u_ws CN_Co CT_Co 8).all goodWord = true := by decide +kernel
  intro w hw
  have h1 := List.all_eq_true.mp hg w hw
  rw [h] at hw
  obtain ⟨i, -, hi⟩ := List.mem_filterMap.mp hw
  exact tb_mem i hi h1
def CN_Gi : String := "PearlMother$Givings"
def CT_Gi : u_T := fun k => match k with
  | 0 => ("PearlMother$Givings", "part", "[I", true)
  | 1 => ("PearlMother$Givings", "seers", "[I", true)
  | 2 => ("PearlMother$Givings", "hope", "[I", true)
  | 3 => ("PearlMother$Givings", "holders", "I", false)
  | 4 => ("PearlMother$Givings", "pieces", "I", false)
  | 5 => ("PearlMother$Givings", "most", "I", false)
  | _ => ("PearlMother$Givings", "way", "I", false)
def Cy_Gi : Nat → FieldType := fun k => match k with
  | 0 => .array .int
  | 1 => .array .int
  | 2 => .array .int
  | 3 => .int
  | 4 => .int
  | 5 => .int
  | _ => .int
theorem Cn_Gi : ∀ a, a < 7 → ∀ b, b < 7 → a ≠ b → (CT_Gi a).2.1 ≠ (CT_Gi b).2.1 := by decide +kernel
theorem Ck_Gi : ∀ k, k < 7 → parseFieldDescriptor (CT_Gi k).2.2.1 = some (Cy_Gi k) := by decide +kernel
set_option maxRecDepth 20000 in
theorem Ci_Gi : ∀ w ∈ u_ws CN_Gi CT_Gi 7, w ∈ TB := by
  have h : u_ws CN_Gi CT_Gi 7 = [209, 211, 213, 215, 217, 219, 221].filterMap (fun i => lw_tbl[i]?) := by decide +kernel
  have hg : (u_ws CN_Gi CT_Gi 7).all goodWord = true := by decide +kernel
  intro w hw
  have h1 := List.all_eq_true.mp hg w hw
  rw [h] at hw
  obtain ⟨i, -, hi⟩ := List.mem_filterMap.mp hw
  exact tb_mem i hi h1
def CN_Mo : String := "PearlMother$Mothers"
def CT_Mo : u_T := fun k => match k with
  | 0 => ("PearlMother$Mothers", "isRow", "[Z", true)
  | _ => ("PearlMother$Mothers", "fewest", "[I", true)
def Cy_Mo : Nat → FieldType := fun k => match k with
  | 0 => .array .boolean
  | _ => .array .int
theorem Cn_Mo : ∀ a, a < 2 → ∀ b, b < 2 → a ≠ b → (CT_Mo a).2.1 ≠ (CT_Mo b).2.1 := by decide +kernel
theorem Ck_Mo : ∀ k, k < 2 → parseFieldDescriptor (CT_Mo k).2.2.1 = some (Cy_Mo k) := by decide +kernel
set_option maxRecDepth 20000 in
theorem Ci_Mo : ∀ w ∈ u_ws CN_Mo CT_Mo 2, w ∈ TB := by
  have h : u_ws CN_Mo CT_Mo 2 = [233, 235].filterMap (fun i => lw_tbl[i]?) := by decide +kernel
  have hg : (u_ws CN_Mo CT_Mo 2).all goodWord = true := by decide +kernel
  intro w hw
  have h1 := List.all_eq_true.mp hg w hw
  rw [h] at hw
  obtain ⟨i, -, hi⟩ := List.mem_filterMap.mp hw
  exact tb_mem i hi h1
def CN_St : String := "PearlMother$State"
def CT_St : u_T := fun k => match k with
  | 0 => ("PearlMother$State", "tilt", "[I", true)
  | 1 => ("PearlMother$State", "heldBy", "[I", true)
  | 2 => ("PearlMother$State", "light", "I", false)
  | 3 => ("PearlMother$State", "hour", "I", false)
  | _ => ("PearlMother$State", "kept", "Z", false)
def Cy_St : Nat → FieldType := fun k => match k with
  | 0 => .array .int
  | 1 => .array .int
  | 2 => .int
  | 3 => .int
  | _ => .boolean
theorem Cn_St : ∀ a, a < 5 → ∀ b, b < 5 → a ≠ b → (CT_St a).2.1 ≠ (CT_St b).2.1 := by decide +kernel
theorem Ck_St : ∀ k, k < 5 → parseFieldDescriptor (CT_St k).2.2.1 = some (Cy_St k) := by decide +kernel
set_option maxRecDepth 20000 in
theorem Ci_St : ∀ w ∈ u_ws CN_St CT_St 5, w ∈ TB := by
  have h : u_ws CN_St CT_St 5 = [135, 137, 139, 141, 143].filterMap (fun i => lw_tbl[i]?) := by decide +kernel
  have hg : (u_ws CN_St CT_St 5).all goodWord = true := by decide +kernel
  intro w hw
  have h1 := List.all_eq_true.mp hg w hw
  rw [h] at hw
  obtain ⟨i, -, hi⟩ := List.mem_filterMap.mp hw
  exact tb_mem i hi h1
def CN_Te : String := "PearlMother$Text"
def CT_Te : u_T := fun k => match k with
  | 0 => ("PearlMother$Text", "bytes", "[I", true)
  | _ => ("PearlMother$Text", "length", "I", false)
def Cy_Te : Nat → FieldType := fun k => match k with
  | 0 => .array .int
  | _ => .int
theorem Cn_Te : ∀ a, a < 2 → ∀ b, b < 2 → a ≠ b → (CT_Te a).2.1 ≠ (CT_Te b).2.1 := by decide +kernel
theorem Ck_Te : ∀ k, k < 2 → parseFieldDescriptor (CT_Te k).2.2.1 = some (Cy_Te k) := by decide +kernel
set_option maxRecDepth 20000 in
theorem Ci_Te : ∀ w ∈ u_ws CN_Te CT_Te 2, w ∈ TB := by
  have h : u_ws CN_Te CT_Te 2 = [69, 71].filterMap (fun i => lw_tbl[i]?) := by decide +kernel
  have hg : (u_ws CN_Te CT_Te 2).all goodWord = true := by decide +kernel
  intro w hw
  have h1 := List.all_eq_true.mp hg w hw
  rw [h] at hw
  obtain ⟨i, -, hi⟩ := List.mem_filterMap.mp hw
  exact tb_mem i hi h1
def CN_Tu : String := "PearlMother$Turned"
def CT_Tu : u_T := fun k => match k with
  | 0 => ("PearlMother$Turned", "angles", "[I", true)
  | 1 => ("PearlMother$Turned", "answers", "[I", true)
  | 2 => ("PearlMother$Turned", "count", "I", false)
  | 3 => ("PearlMother$Turned", "fitting", "I", false)
  | 4 => ("PearlMother$Turned", "first", "I", false)
  | _ => ("PearlMother$Turned", "alike", "[I", true)
def Cy_Tu : Nat → FieldType := fun k => match k with
  | 0 => .array .int
  | 1 => .array .int
  | 2 => .int
  | 3 => .int
  | 4 => .int
  | _ => .array .int
theorem Cn_Tu : ∀ a, a < 6 → ∀ b, b < 6 → a ≠ b → (CT_Tu a).2.1 ≠ (CT_Tu b).2.1 := by decide +kernel
theorem Ck_Tu : ∀ k, k < 6 → parseFieldDescriptor (CT_Tu k).2.2.1 = some (Cy_Tu k) := by decide +kernel
set_option maxRecDepth 20000 in
theorem Ci_Tu : ∀ w ∈ u_ws CN_Tu CT_Tu 6, w ∈ TB := by
  have h : u_ws CN_Tu CT_Tu 6 = [176, 178, 180, 182, 184, 186].filterMap (fun i => lw_tbl[i]?) := by decide +kernel
  have hg : (u_ws CN_Tu CT_Tu 6).all goodWord = true := by decide +kernel
  intro w hw
  have h1 := List.all_eq_true.mp hg w hw
  rw [h] at hw
  obtain ⟨i, -, hi⟩ := List.mem_filterMap.mp hw
  exact tb_mem i hi h1
def CN_PM : String := "PearlMother"
def CT_PM : u_T := fun k => match k with
  | 0 => ("PearlMother", "text", "LPearlMother$Text;", true)
  | 1 => ("PearlMother", "told", "LPearlMother$Coast;", false)
  | 2 => ("PearlMother", "draft", "LPearlMother$Coast;", false)
  | 3 => ("PearlMother", "now", "LPearlMother$State;", true)
  | 4 => ("PearlMother", "trial", "LPearlMother$State;", true)
  | 5 => ("PearlMother", "slots", "[LPearlMother$State;", true)
  | 6 => ("PearlMother", "acts", "LPearlMother$Acts;", true)
  | 7 => ("PearlMother", "turned", "LPearlMother$Turned;", true)
  | 8 => ("PearlMother", "givings", "LPearlMother$Givings;", true)
  | 9 => ("PearlMother", "rows", "LPearlMother$Mothers;", true)
  | 10 => ("PearlMother", "doings", "[I", true)
  | 11 => ("PearlMother", "chances", "[I", true)
  | _ => ("PearlMother", "theSeed", "J", false)
def Cy_PM : Nat → FieldType := fun k => match k with
  | 0 => .object "PearlMother$Text"
  | 1 => .object "PearlMother$Coast"
  | 2 => .object "PearlMother$Coast"
  | 3 => .object "PearlMother$State"
  | 4 => .object "PearlMother$State"
  | 5 => .array (.object "PearlMother$State")
  | 6 => .object "PearlMother$Acts"
  | 7 => .object "PearlMother$Turned"
  | 8 => .object "PearlMother$Givings"
  | 9 => .object "PearlMother$Mothers"
  | 10 => .array .int
  | 11 => .array .int
  | _ => .long
theorem Cn_PM : ∀ a, a < 13 → ∀ b, b < 13 → a ≠ b → (CT_PM a).2.1 ≠ (CT_PM b).2.1 := by decide +kernel
theorem Ck_PM : ∀ k, k < 13 → parseFieldDescriptor (CT_PM k).2.2.1 = some (Cy_PM k) := by decide +kernel
set_option maxRecDepth 20000 in
theorem Ci_PM : ∀ w ∈ u_ws CN_PM CT_PM 13, w ∈ TB := by
  have h : u_ws CN_PM CT_PM 13 = [252, 254, 256, 258, 260, 262, 264, 266, 268, 270, 272, 274, 276].filterMap (fun i => lw_tbl[i]?) := by decide +kernel
  have hg : (u_ws CN_PM CT_PM 13).all goodWord = true := by decide +kernel
  intro w hw
  have h1 := List.all_eq_true.mp hg w hw
  rw [h] at hw
  obtain ⟨i, -, hi⟩ := List.mem_filterMap.mp hw
  exact tb_mem i hi h1
def CN_Rf : String := "PearlMotherModel"
def CT_Rf : u_T := fun k => match k with
  | 0 => ("PearlMotherModel", "thrown", "I", false)
  | 1 => ("PearlMotherModel", "text", "[I", true)
  | 2 => ("PearlMotherModel", "textSize", "I", false)
  | 3 => ("PearlMotherModel", "place", "I", false)
  | 4 => ("PearlMotherModel", "holders", "I", false)
  | 5 => ("PearlMotherModel", "holder", "[I", true)
  | 6 => ("PearlMotherModel", "pieces", "I", false)
  | 7 => ("PearlMotherModel", "piece", "[I", true)
  | 8 => ("PearlMotherModel", "readLight", "I", false)
  | 9 => ("PearlMotherModel", "readHolders", "I", false)
  | 10 => ("PearlMotherModel", "readHolder", "[I", true)
  | 11 => ("PearlMotherModel", "readPieces", "I", false)
  | 12 => ("PearlMotherModel", "readPiece", "[I", true)
  | 13 => ("PearlMotherModel", "page", "[I", true)
  | 14 => ("PearlMotherModel", "trial", "[I", true)
  | 15 => ("PearlMotherModel", "book", "[I", true)
  | 16 => ("PearlMotherModel", "acts", "I", false)
  | 17 => ("PearlMotherModel", "kept", "[I", true)
  | 18 => ("PearlMotherModel", "isKept", "[Z", true)
  | 19 => ("PearlMotherModel", "turned", "I", false)
  | 20 => ("PearlMotherModel", "turnedAngle", "[I", true)
  | 21 => ("PearlMotherModel", "turnedPart", "[I", true)
  | 22 => ("PearlMotherModel", "seed", "J", false)
  | 23 => ("PearlMotherModel", "mayMany", "I", false)
  | 24 => ("PearlMotherModel", "mayFirst", "I", false)
  | 25 => ("PearlMotherModel", "restMany", "I", false)
  | 26 => ("PearlMotherModel", "restFirst", "I", false)
  | 27 => ("PearlMotherModel", "gains", "[I", true)
  | 28 => ("PearlMotherModel", "groups", "[I", true)
  | 29 => ("PearlMotherModel", "value", "[I", true)
  | _ => ("PearlMotherModel", "rows", "[I", true)
def Cy_Rf : Nat → FieldType := fun k => match k with
  | 0 => .int
  | 1 => .array .int
  | 2 => .int
  | 3 => .int
  | 4 => .int
  | 5 => .array .int
  | 6 => .int
  | 7 => .array .int
  | 8 => .int
  | 9 => .int
  | 10 => .array .int
  | 11 => .int
  | 12 => .array .int
  | 13 => .array .int
  | 14 => .array .int
  | 15 => .array .int
  | 16 => .int
  | 17 => .array .int
  | 18 => .array .boolean
  | 19 => .int
  | 20 => .array .int
  | 21 => .array .int
  | 22 => .long
  | 23 => .int
  | 24 => .int
  | 25 => .int
  | 26 => .int
  | 27 => .array .int
  | 28 => .array .int
  | 29 => .array .int
  | _ => .array .int
theorem Cn_Rf : ∀ a, a < 31 → ∀ b, b < 31 → a ≠ b → (CT_Rf a).2.1 ≠ (CT_Rf b).2.1 := by decide +kernel
theorem Ck_Rf : ∀ k, k < 31 → parseFieldDescriptor (CT_Rf k).2.2.1 = some (Cy_Rf k) := by decide +kernel
set_option maxRecDepth 20000 in
theorem Ci_Rf : ∀ w ∈ u_ws CN_Rf CT_Rf 31, w ∈ TB := by
  have h : u_ws CN_Rf CT_Rf 31 = [675, 677, 679, 681, 683, 685, 687, 689, 691, 693, 695, 697, 699, 701, 703, 705, 707, 709, 711, 713, 715, 717, 719, 721, 723, 725, 727, 729, 731, 733, 735].filterMap (fun i => lw_tbl[i]?) := by decide +kernel
  have hg : (u_ws CN_Rf CT_Rf 31).all goodWord = true := by decide +kernel
  intro w hw
  have h1 := List.all_eq_true.mp hg w hw
  rw [h] at hw
  obtain ⟨i, -, hi⟩ := List.mem_filterMap.mp hw
  exact tb_mem i hi h1
abbrev KL : List vw_C := [(CN_Ac, CT_Ac, 2), (CN_Co, CT_Co, 8), (CN_Gi, CT_Gi, 7), (CN_Mo, CT_Mo, 2), (CN_St, CT_St, 5), (CN_Te, CT_Te, 2), (CN_Tu, CT_Tu, 6), (CN_PM, CT_PM, 13), (CN_Rf, CT_Rf, 31)]
def M_PM_init : MR := (⟨"PearlMother", "<init>", "()V"⟩, prog_1_method_1_code, 2, none)
def M_PM_write : MR := (⟨"PearlMother", "write", "(I)I"⟩, prog_1_method_2_code, 2, (some .int))
def M_PM_wipe : MR := (⟨"PearlMother", "wipe", "()I"⟩, prog_1_method_3_code, 2, (some .int))
def M_PM_fault : MR := (⟨"PearlMother", "fault", "()I"⟩, prog_1_method_4_code, 1, (some .int))
def M_PM_coast : MR := (⟨"PearlMother", "coast", "()I"⟩, prog_1_method_5_code, 3, (some .int))
def M_PM_about : MR := (⟨"PearlMother", "about", "(I)I"⟩, prog_1_method_6_code, 2, (some .int))
def M_PM_holder : MR := (⟨"PearlMother", "holder", "(II)I"⟩, prog_1_method_7_code, 3, (some .int))
def M_PM_piece : MR := (⟨"PearlMother", "piece", "(II)I"⟩, prog_1_method_8_code, 3, (some .int))
def M_PM_shows : MR := (⟨"PearlMother", "shows", "(III)I"⟩, prog_1_method_9_code, 4, (some .int))
def M_PM_tilt : MR := (⟨"PearlMother", "tilt", "(IZ)I"⟩, prog_1_method_10_code, 3, (some .int))
def M_PM_give : MR := (⟨"PearlMother", "give", "(II)I"⟩, prog_1_method_11_code, 4, (some .int))
def M_PM_hour : MR := (⟨"PearlMother", "hour", "()I"⟩, prog_1_method_12_code, 1, (some .int))
def M_PM_undo : MR := (⟨"PearlMother", "undo", "()I"⟩, prog_1_method_13_code, 1, (some .int))
def M_PM_tilts : MR := (⟨"PearlMother", "tilts", "(II)I"⟩, prog_1_method_14_code, 3, (some .int))
def M_PM_finds : MR := (⟨"PearlMother", "finds", "(II)I"⟩, prog_1_method_15_code, 3, (some .int))
def M_PM_all : MR := (⟨"PearlMother", "all", "(I)I"⟩, prog_1_method_16_code, 6, (some .int))
def M_PM_when : MR := (⟨"PearlMother", "when", "(II)I"⟩, prog_1_method_17_code, 3, (some .int))
def M_PM_mothers : MR := (⟨"PearlMother", "mothers", "()I"⟩, prog_1_method_18_code, 1, (some .int))
def M_PM_giving : MR := (⟨"PearlMother", "giving", "(Z)I"⟩, prog_1_method_19_code, 2, (some .int))
def M_PM_judge : MR := (⟨"PearlMother", "judge", "(IJ)I"⟩, prog_1_method_20_code, 7, (some .int))
def M_PM_share : MR := (⟨"PearlMother", "share", "(IZ)I"⟩, prog_1_method_21_code, 3, (some .int))
def M_PM_turn : MR := (⟨"PearlMother", "turn", "(II)I"⟩, prog_1_method_22_code, 3, (some .int))
def M_PM_unturn : MR := (⟨"PearlMother", "unturn", "()I"⟩, prog_1_method_23_code, 2, (some .int))
def M_PM_may : MR := (⟨"PearlMother", "may", "(I)I"⟩, prog_1_method_24_code, 2, (some .int))
def M_PM_next : MR := (⟨"PearlMother", "next", "()I"⟩, prog_1_method_25_code, 1, (some .int))
def M_PM_rests : MR := (⟨"PearlMother", "rests", "(IIII)I"⟩, prog_1_method_26_code, 9, (some .int))
def M_PM_glints : MR := (⟨"PearlMother", "glints", "(IIIIZ)I"⟩, prog_1_method_27_code, 10, (some .int))
def M_PM_seed : MR := (⟨"PearlMother", "seed", "(J)J"⟩, prog_1_method_28_code, 5, (some .long))
def M_PM_years : MR := (⟨"PearlMother", "years", "(I)I"⟩, prog_1_method_29_code, 4, (some .int))
def M_PM_keep : MR := (⟨"PearlMother", "keep", "(I)I"⟩, prog_1_method_30_code, 2, (some .int))
def M_PM_again : MR := (⟨"PearlMother", "again", "(I)I"⟩, prog_1_method_31_code, 2, (some .int))
def M_PM_isBelow : MR := (⟨"PearlMother", "isBelow", "(II)Z"⟩, prog_1_method_32_code, 2, (some .boolean))
def M_PM_hasBit : MR := (⟨"PearlMother", "hasBit", "(II)Z"⟩, prog_1_method_33_code, 2, (some .boolean))
def M_PM_byEight : MR := (⟨"PearlMother", "byEight", "(I)I"⟩, prog_1_method_34_code, 1, (some .int))
def M_PM_apart : MR := (⟨"PearlMother", "apart", "(II)I"⟩, prog_1_method_35_code, 3, (some .int))
def M_PM_reachOf : MR := (⟨"PearlMother", "reachOf", "(I)I"⟩, prog_1_method_36_code, 1, (some .int))
def M_PM_isShown : MR := (⟨"PearlMother", "isShown", "(IIIII)Z"⟩, prog_1_method_37_code, 6, (some .boolean))
def M_PM_inLeastTerms : MR := (⟨"PearlMother", "inLeastTerms", "(IIZ)I"⟩, prog_1_method_38_code, 7, (some .int))
def M_PM_showsAfter : MR := (⟨"PearlMother", "showsAfter", "(LPearlMother$State;III)Z"⟩, prog_1_method_39_code, 5, (some .boolean))
def M_PM_partsSeen : MR := (⟨"PearlMother", "partsSeen", "(LPearlMother$State;II)I"⟩, prog_1_method_40_code, 6, (some .int))
def M_PM_partsSeenTogether : MR := (⟨"PearlMother", "partsSeenTogether", "()I"⟩, prog_1_method_41_code, 3, (some .int))
def M_PM_whoSeesHerLook : MR := (⟨"PearlMother", "whoSeesHerLook", "(LPearlMother$State;)I"⟩, prog_1_method_42_code, 4, (some .int))
def M_PM_piecesOf : MR := (⟨"PearlMother", "piecesOf", "(I)I"⟩, prog_1_method_43_code, 4, (some .int))
def M_PM_partsHeld : MR := (⟨"PearlMother", "partsHeld", "(I)I"⟩, prog_1_method_44_code, 4, (some .int))
def M_PM_piecesThatShow : MR := (⟨"PearlMother", "piecesThatShow", "(I)I"⟩, prog_1_method_45_code, 4, (some .int))
def M_PM_takeBack : MR := (⟨"PearlMother", "takeBack", "(I)V"⟩, prog_1_method_46_code, 4, none)
def M_PM_fewestTilts : MR := (⟨"PearlMother", "fewestTilts", "(II)I"⟩, prog_1_method_47_code, 4, (some .int))
def M_PM_fewestTiltsToSee : MR := (⟨"PearlMother", "fewestTiltsToSee", "(II)I"⟩, prog_1_method_48_code, 6, (some .int))
def M_PM_hoursUntilSeen : MR := (⟨"PearlMother", "hoursUntilSeen", "(II)I"⟩, prog_1_method_49_code, 4, (some .int))
def M_PM_canBeDone : MR := (⟨"PearlMother", "canBeDone", "(I)Z"⟩, prog_1_method_50_code, 4, (some .boolean))
def M_PM_tryGivings : MR := (⟨"PearlMother", "tryGivings", "(LPearlMother$Givings;III)V"⟩, prog_1_method_51_code, 7, none)
def M_PM_worth : MR := (⟨"PearlMother", "worth", "(IIII)I"⟩, prog_1_method_52_code, 5, (some .int))
def M_PM_staysWith : MR := (⟨"PearlMother", "staysWith", "(IIII)Z"⟩, prog_1_method_53_code, 6, (some .boolean))
def M_PM_spreadChances : MR := (⟨"PearlMother", "spreadChances", "(II)I"⟩, prog_1_method_54_code, 6, (some .int))
def M_PM_befall : MR := (⟨"PearlMother", "befall", "(I)V"⟩, prog_1_method_55_code, 2, none)
def M_Rf_init : MR := (⟨"PearlMotherModel", "<init>", "()V"⟩, prog_10_method_1_code, 1, none)
def M_Rf_in : MR := (⟨"PearlMotherModel", "in", "(JJJ)Z"⟩, prog_10_method_3_code, 6, (some .boolean))
def M_Rf_has : MR := (⟨"PearlMotherModel", "has", "(II)Z"⟩, prog_10_method_4_code, 2, (some .boolean))
def M_Rf_many : MR := (⟨"PearlMotherModel", "many", "(I)I"⟩, prog_10_method_5_code, 3, (some .int))
def M_Rf_power : MR := (⟨"PearlMotherModel", "power", "(II)I"⟩, prog_10_method_6_code, 4, (some .int))
def M_Rf_noHolder : MR := (⟨"PearlMotherModel", "noHolder", "(I)Z"⟩, prog_10_method_7_code, 2, (some .boolean))
def M_Rf_noPiece : MR := (⟨"PearlMotherModel", "noPiece", "(I)Z"⟩, prog_10_method_8_code, 2, (some .boolean))
def M_Rf_write : MR := (⟨"PearlMotherModel", "write", "(I)I"⟩, prog_10_method_9_code, 2, (some .int))
def M_Rf_wipe : MR := (⟨"PearlMotherModel", "wipe", "()I"⟩, prog_10_method_10_code, 2, (some .int))
def M_Rf_figure : MR := (⟨"PearlMotherModel", "figure", "(I)I"⟩, prog_10_method_11_code, 2, (some .int))
def M_Rf_readOneHolder : MR := (⟨"PearlMotherModel", "readOneHolder", "()Z"⟩, prog_10_method_12_code, 2, (some .boolean))
def M_Rf_readOnePiece : MR := (⟨"PearlMotherModel", "readOnePiece", "()Z"⟩, prog_10_method_13_code, 4, (some .boolean))
def M_Rf_readThing : MR := (⟨"PearlMotherModel", "readThing", "()Z"⟩, prog_10_method_14_code, 2, (some .boolean))
def M_Rf_readCoast : MR := (⟨"PearlMotherModel", "readCoast", "()I"⟩, prog_10_method_15_code, 1, (some .int))
def M_Rf_fault : MR := (⟨"PearlMotherModel", "fault", "()I"⟩, prog_10_method_16_code, 1, (some .int))
def M_Rf_coast : MR := (⟨"PearlMotherModel", "coast", "()I"⟩, prog_10_method_17_code, 3, (some .int))
def M_Rf_apart : MR := (⟨"PearlMotherModel", "apart", "(II)I"⟩, prog_10_method_18_code, 3, (some .int))
def M_Rf_showsBy : MR := (⟨"PearlMotherModel", "showsBy", "(IIIII)Z"⟩, prog_10_method_19_code, 6, (some .boolean))
def M_Rf_showsTo : MR := (⟨"PearlMotherModel", "showsTo", "(III)Z"⟩, prog_10_method_20_code, 4, (some .boolean))
def M_Rf_angleOf : MR := (⟨"PearlMotherModel", "angleOf", "([II)I"⟩, prog_10_method_21_code, 2, (some .int))
def M_Rf_isShown : MR := (⟨"PearlMotherModel", "isShown", "([II)Z"⟩, prog_10_method_22_code, 3, (some .boolean))
def M_Rf_seesOf : MR := (⟨"PearlMotherModel", "seesOf", "([III)I"⟩, prog_10_method_23_code, 6, (some .int))
def M_Rf_heldBy : MR := (⟨"PearlMotherModel", "heldBy", "([II)I"⟩, prog_10_method_24_code, 5, (some .int))
def M_Rf_lookers : MR := (⟨"PearlMotherModel", "lookers", "([I)I"⟩, prog_10_method_25_code, 4, (some .int))
def M_Rf_together : MR := (⟨"PearlMotherModel", "together", "([II)I"⟩, prog_10_method_26_code, 5, (some .int))
def M_Rf_about : MR := (⟨"PearlMotherModel", "about", "(I)I"⟩, prog_10_method_27_code, 2, (some .int))
def M_Rf_holder : MR := (⟨"PearlMotherModel", "holder", "(II)I"⟩, prog_10_method_28_code, 3, (some .int))
def M_Rf_piece : MR := (⟨"PearlMotherModel", "piece", "(II)I"⟩, prog_10_method_29_code, 3, (some .int))
def M_Rf_shows : MR := (⟨"PearlMotherModel", "shows", "(III)I"⟩, prog_10_method_30_code, 4, (some .int))
def M_Rf_note : MR := (⟨"PearlMotherModel", "note", "()V"⟩, prog_10_method_31_code, 2, none)
def M_Rf_goTilt : MR := (⟨"PearlMotherModel", "goTilt", "([IIZ)V"⟩, prog_10_method_32_code, 3, none)
def M_Rf_tilt : MR := (⟨"PearlMotherModel", "tilt", "(IZ)I"⟩, prog_10_method_33_code, 3, (some .int))
def M_Rf_give : MR := (⟨"PearlMotherModel", "give", "(II)I"⟩, prog_10_method_34_code, 4, (some .int))
def M_Rf_goHour : MR := (⟨"PearlMotherModel", "goHour", "([I)V"⟩, prog_10_method_35_code, 1, none)
def M_Rf_hour : MR := (⟨"PearlMotherModel", "hour", "()I"⟩, prog_10_method_36_code, 1, (some .int))
def M_Rf_undo : MR := (⟨"PearlMotherModel", "undo", "()I"⟩, prog_10_method_37_code, 2, (some .int))
def M_Rf_tiltsOf : MR := (⟨"PearlMotherModel", "tiltsOf", "(II)I"⟩, prog_10_method_38_code, 7, (some .int))
def M_Rf_tilts : MR := (⟨"PearlMotherModel", "tilts", "(II)I"⟩, prog_10_method_39_code, 3, (some .int))
def M_Rf_findsOf : MR := (⟨"PearlMotherModel", "findsOf", "(II)I"⟩, prog_10_method_40_code, 6, (some .int))
def M_Rf_finds : MR := (⟨"PearlMotherModel", "finds", "(II)I"⟩, prog_10_method_41_code, 3, (some .int))
def M_Rf_partsHeld : MR := (⟨"PearlMotherModel", "partsHeld", "(I)I"⟩, prog_10_method_42_code, 4, (some .int))
def M_Rf_all : MR := (⟨"PearlMotherModel", "all", "(I)I"⟩, prog_10_method_43_code, 6, (some .int))
def M_Rf_begin : MR := (⟨"PearlMotherModel", "begin", "()V"⟩, prog_10_method_44_code, 2, none)
def M_Rf_when : MR := (⟨"PearlMotherModel", "when", "(II)I"⟩, prog_10_method_45_code, 4, (some .int))
def M_Rf_mayBeOne : MR := (⟨"PearlMotherModel", "mayBeOne", "(II)Z"⟩, prog_10_method_46_code, 3, (some .boolean))
def M_Rf_isLaid : MR := (⟨"PearlMotherModel", "isLaid", "(II)Z"⟩, prog_10_method_47_code, 6, (some .boolean))
def M_Rf_mothers : MR := (⟨"PearlMotherModel", "mothers", "()I"⟩, prog_10_method_48_code, 3, (some .int))
def M_Rf_giving : MR := (⟨"PearlMotherModel", "giving", "(Z)I"⟩, prog_10_method_49_code, 8, (some .int))
def M_Rf_longPower : MR := (⟨"PearlMotherModel", "longPower", "(JI)J"⟩, prog_10_method_50_code, 6, (some .long))
def M_Rf_does : MR := (⟨"PearlMotherModel", "does", "(I)Z"⟩, prog_10_method_51_code, 5, (some .boolean))
def M_Rf_judge : MR := (⟨"PearlMotherModel", "judge", "(IJ)I"⟩, prog_10_method_52_code, 5, (some .int))
def M_Rf_ways : MR := (⟨"PearlMotherModel", "ways", "(I)I"⟩, prog_10_method_53_code, 3, (some .int))
def M_Rf_divisor : MR := (⟨"PearlMotherModel", "divisor", "(II)I"⟩, prog_10_method_54_code, 5, (some .int))
def M_Rf_fraction : MR := (⟨"PearlMotherModel", "fraction", "(IIZ)I"⟩, prog_10_method_55_code, 4, (some .int))
def M_Rf_share : MR := (⟨"PearlMotherModel", "share", "(IZ)I"⟩, prog_10_method_56_code, 6, (some .int))
def M_Rf_turn : MR := (⟨"PearlMotherModel", "turn", "(II)I"⟩, prog_10_method_57_code, 3, (some .int))
def M_Rf_unturn : MR := (⟨"PearlMotherModel", "unturn", "()I"⟩, prog_10_method_58_code, 2, (some .int))
def M_Rf_answer : MR := (⟨"PearlMotherModel", "answer", "(II)I"⟩, prog_10_method_59_code, 3, (some .int))
def M_Rf_mayBe : MR := (⟨"PearlMotherModel", "mayBe", "(I)Z"⟩, prog_10_method_60_code, 4, (some .boolean))
def M_Rf_may : MR := (⟨"PearlMotherModel", "may", "(I)I"⟩, prog_10_method_61_code, 4, (some .int))
def M_Rf_greatest : MR := (⟨"PearlMotherModel", "greatest", "(I)I"⟩, prog_10_method_62_code, 5, (some .int))
def M_Rf_next : MR := (⟨"PearlMotherModel", "next", "()I"⟩, prog_10_method_63_code, 5, (some .int))
def M_Rf_rests : MR := (⟨"PearlMotherModel", "rests", "(IIII)I"⟩, prog_10_method_64_code, 7, (some .int))
def M_Rf_glints : MR := (⟨"PearlMotherModel", "glints", "(IIIIZ)I"⟩, prog_10_method_65_code, 10, (some .int))
def M_Rf_seed : MR := (⟨"PearlMotherModel", "seed", "(J)J"⟩, prog_10_method_66_code, 5, (some .long))
def M_Rf_years : MR := (⟨"PearlMotherModel", "years", "(I)I"⟩, prog_10_method_67_code, 5, (some .int))
def M_Rf_keep : MR := (⟨"PearlMotherModel", "keep", "(I)I"⟩, prog_10_method_68_code, 3, (some .int))
def M_Rf_again : MR := (⟨"PearlMotherModel", "again", "(I)I"⟩, prog_10_method_69_code, 3, (some .int))
def M_Ac_init : MR := (⟨"PearlMother$Acts", "<init>", "()V"⟩, prog_2_method_1_code, 1, none)
def M_Ac_add : MR := (⟨"PearlMother$Acts", "add", "(III)V"⟩, prog_2_method_2_code, 4, none)
def M_Ac_removeLast : MR := (⟨"PearlMother$Acts", "removeLast", "()I"⟩, prog_2_method_3_code, 1, (some .int))
def M_Co_init : MR := (⟨"PearlMother$Coast", "<init>", "()V"⟩, prog_3_method_1_code, 1, none)
def M_Co_hasHolder : MR := (⟨"PearlMother$Coast", "hasHolder", "(I)Z"⟩, prog_3_method_2_code, 2, (some .boolean))
def M_Co_hasPiece : MR := (⟨"PearlMother$Coast", "hasPiece", "(I)Z"⟩, prog_3_method_3_code, 2, (some .boolean))
def M_Co_showsAt : MR := (⟨"PearlMother$Coast", "showsAt", "(III)Z"⟩, prog_3_method_4_code, 4, (some .boolean))
def M_Co_clear : MR := (⟨"PearlMother$Coast", "clear", "()V"⟩, prog_3_method_5_code, 1, none)
def M_Co_take : MR := (⟨"PearlMother$Coast", "take", "(II)I"⟩, prog_3_method_6_code, 4, (some .int))
def M_Co_takeThing : MR := (⟨"PearlMother$Coast", "takeThing", "(I)I"⟩, prog_3_method_7_code, 2, (some .int))
def M_Co_takeFigure : MR := (⟨"PearlMother$Coast", "takeFigure", "([IIII)Z"⟩, prog_3_method_8_code, 4, (some .boolean))
def M_Co_endHolder : MR := (⟨"PearlMother$Coast", "endHolder", "()I"⟩, prog_3_method_9_code, 1, (some .int))
def M_Co_endPiece : MR := (⟨"PearlMother$Coast", "endPiece", "()I"⟩, prog_3_method_10_code, 1, (some .int))
def M_Gi_init : MR := (⟨"PearlMother$Givings", "<init>", "()V"⟩, prog_4_method_1_code, 1, none)
def M_Gi_begin : MR := (⟨"PearlMother$Givings", "begin", "(LPearlMother$Coast;LPearlMother$State;)V"⟩, prog_4_method_2_code, 4, none)
def M_Gi_seersOf : MR := (⟨"PearlMother$Givings", "seersOf", "(LPearlMother$Coast;II)I"⟩, prog_4_method_3_code, 5, (some .int))
def M_Mo_init : MR := (⟨"PearlMother$Mothers", "<init>", "()V"⟩, prog_5_method_1_code, 1, none)
def M_Mo_find : MR := (⟨"PearlMother$Mothers", "find", "(LPearlMother$Coast;)V"⟩, prog_5_method_2_code, 5, none)
def M_Mo_goesWith : MR := (⟨"PearlMother$Mothers", "goesWith", "(LPearlMother$Coast;II)Z"⟩, prog_5_method_3_code, 4, (some .boolean))
def M_Mo_fewestOf : MR := (⟨"PearlMother$Mothers", "fewestOf", "(II)I"⟩, prog_5_method_4_code, 5, (some .int))
def M_St_init : MR := (⟨"PearlMother$State", "<init>", "()V"⟩, prog_6_method_1_code, 1, none)
def M_St_begin : MR := (⟨"PearlMother$State", "begin", "(LPearlMother$Coast;)V"⟩, prog_6_method_2_code, 3, none)
def M_St_copyFrom : MR := (⟨"PearlMother$State", "copyFrom", "(LPearlMother$State;)V"⟩, prog_6_method_3_code, 2, none)
def M_St_angleOf : MR := (⟨"PearlMother$State", "angleOf", "(I)I"⟩, prog_6_method_4_code, 2, (some .int))
def M_St_tiltBy : MR := (⟨"PearlMother$State", "tiltBy", "(II)V"⟩, prog_6_method_5_code, 3, none)
def M_St_giveTo : MR := (⟨"PearlMother$State", "giveTo", "(II)V"⟩, prog_6_method_6_code, 3, none)
def M_St_passHours : MR := (⟨"PearlMother$State", "passHours", "(I)V"⟩, prog_6_method_7_code, 2, none)
def M_Te_init : MR := (⟨"PearlMother$Text", "<init>", "()V"⟩, prog_7_method_1_code, 1, none)
def M_Te_add : MR := (⟨"PearlMother$Text", "add", "(I)Z"⟩, prog_7_method_2_code, 2, (some .boolean))
def M_Te_readInto : MR := (⟨"PearlMother$Text", "readInto", "(LPearlMother$Coast;)I"⟩, prog_7_method_3_code, 4, (some .int))
def M_Tu_init : MR := (⟨"PearlMother$Turned", "<init>", "()V"⟩, prog_8_method_1_code, 1, none)
def M_Tu_add : MR := (⟨"PearlMother$Turned", "add", "(II)Z"⟩, prog_8_method_2_code, 3, (some .boolean))
def M_Tu_answerOf : MR := (⟨"PearlMother$Turned", "answerOf", "(IIII)I"⟩, prog_8_method_3_code, 4, (some .int))
def M_Tu_fits : MR := (⟨"PearlMother$Turned", "fits", "(III)Z"⟩, prog_8_method_4_code, 5, (some .boolean))
def M_Tu_weigh : MR := (⟨"PearlMother$Turned", "weigh", "()V"⟩, prog_8_method_5_code, 4, none)
def M_Tu_tally : MR := (⟨"PearlMother$Turned", "tally", "(III)V"⟩, prog_8_method_6_code, 5, none)
def M_Tu_bestAngle : MR := (⟨"PearlMother$Turned", "bestAngle", "()I"⟩, prog_8_method_7_code, 6, (some .int))
def M_In_bitCount : MR := (⟨"java/lang/Integer", "bitCount", "(I)I"⟩, prog_11_method_49_code, 1, (some .int))
def M_In_numberOfLeadingZeros : MR := (⟨"java/lang/Integer", "numberOfLeadingZeros", "(I)I"⟩, prog_11_method_47_code, 2, (some .int))
def M_Ma_max : MR := (⟨"java/lang/Math", "max", "(II)I"⟩, prog_12_method_65_code, 2, (some .int))
def M_Ma_min : MR := (⟨"java/lang/Math", "min", "(II)I"⟩, prog_12_method_69_code, 2, (some .int))
def M_La_law : MR := (⟨"PearlMotherLaw", "law", "([I)Z"⟩, code, 4, some .boolean)
def NW : List Cond := [Cond.methodLinkNest "PearlMother" 11 ⟨"PearlMother$Text", "<init>", "()V"⟩ "PearlMother", Cond.methodLinkNest "PearlMother" 18 ⟨"PearlMother$Coast", "<init>", "()V"⟩ "PearlMother", Cond.methodLinkNest "PearlMother" 28 ⟨"PearlMother$State", "<init>", "()V"⟩ "PearlMother", Cond.methodLinkNest "PearlMother" 42 ⟨"PearlMother$Acts", "<init>", "()V"⟩ "PearlMother", Cond.methodLinkNest "PearlMother" 49 ⟨"PearlMother$Turned", "<init>", "()V"⟩ "PearlMother", Cond.methodLinkNest "PearlMother" 56 ⟨"PearlMother$Givings", "<init>", "()V"⟩ "PearlMother", Cond.methodLinkNest "PearlMother" 63 ⟨"PearlMother$Mothers", "<init>", "()V"⟩ "PearlMother", Cond.methodLinkNest "PearlMother$Coast" 31 ⟨"PearlMother", "isBelow", "(II)Z"⟩ "PearlMother", Cond.methodLinkNest "PearlMother$State" 35 ⟨"PearlMother", "isBelow", "(II)Z"⟩ "PearlMother", Cond.methodLinkNest "PearlMother$State" 39 ⟨"PearlMother", "byEight", "(I)I"⟩ "PearlMother", Cond.methodLinkNest "PearlMother$Coast" 45 ⟨"PearlMother", "isShown", "(IIIII)Z"⟩ "PearlMother", Cond.methodLinkNest "PearlMother$Mothers" 39 ⟨"PearlMother", "hasBit", "(II)Z"⟩ "PearlMother", Cond.methodLinkNest "PearlMother$Mothers" 49 ⟨"PearlMother", "apart", "(II)I"⟩ "PearlMother", Cond.methodLinkNest "PearlMother$Turned" 25 ⟨"PearlMother", "isShown", "(IIIII)Z"⟩ "PearlMother"]
set_option maxRecDepth 20000 in
theorem nw_in : NW = [62, 77, 122, 149, 163, 191, 226, 307, 353, 354, 369, 498, 499, 579].filterMap (fun i => lw_tbl[i]?) := by decide +kernel
theorem ob_1 : Cond.instanceMethod objectInit ∈ TB := tb_mem 58 (by decide +kernel) (by decide +kernel)
theorem ob_2 : Cond.code objectInit ⟨#[0xb1]⟩ 1 none ∈ TB := tb_mem 59 (by decide +kernel) (by decide +kernel)
theorem cp_1 : Cond.native arraycopyName ∈ TB := tb_mem 422 (by decide +kernel) (by decide +kernel)
theorem cp_2 : Cond.static arraycopyName ∈ TB := tb_mem 421 (by decide +kernel) (by decide +kernel)
theorem cp_3 : Cond.initialized "java/lang/System" ∈ TB := tb_mem 50 (by decide +kernel) (by decide +kernel)
theorem ac_int : Cond.arrayClass (newarray.typeOf .int) ∈ TB := tb_mem 74 (by decide +kernel) (by decide +kernel)
theorem ac_bool : Cond.arrayClass (newarray.typeOf .boolean) ∈ TB := tb_mem 238 (by decide +kernel) (by decide +kernel)
end
section
/-! ===== the worlds of this claim: a heap as a list of cells, references by their places (0: the script; k + 1: the cell k) ===== -/
abbrev AC : Type := (FieldType × vp_A) ⊕ (Nat × List Value)
abbrev AH : Type := List AC
/-- script's address, base, the classes' numbers and slots, the array classes -/
abbrev EV : Type := Nat × Nat × va_G × (FieldType → ClassId)
def e_ad (E : EV) (k : Nat) : Nat := match k with
  | 0 => E.1
  | k + 1 => E.2.1 + k
def e_v (E : EV) (v : Value) : Value := match v with
  | .ref k => .ref (e_ad E k)
  | v => v
def e_a (E : EV) (a : vp_A) : vp_A := match a with
  | (n, .inr (.inr (.inr (.inr f)))) => (n, .inr (.inr (.inr (.inr (fun j => (f j).map (e_ad E))))))
  | a => a
def e_c (E : EV) (c : AC) : va_E := match c with
  | .inl (ty, a) => .inl (E.2.2.2 ty, e_a E a)
  | .inr (ci, fs) => .inr (ci, fs.map (e_v E))
def e_h (E : EV) (h : AH) : va_W := h.mapIdx (fun k c => (E.2.1 + k, e_c E c))
def e_tys (E : EV) : List (ClassId × FieldType) := [(E.2.2.2 .int, .int), (E.2.2.2 .boolean, .boolean), (E.2.2.2 (.object "PearlMother$State"), .object "PearlMother$State")]
def e_A (E : EV) : Nat → Prop := fun q => E.2.1 ≤ q
/-- the heap holds the cells h; all that was made since the base is in h -/
def hpOK (E : EV) (s : State) (cells : Nat) (h : AH) (H : Heap) : Prop := s.heap.size + cells = E.2.1 + h.length ∧ va_P E.2.2.1 KL (e_h E h) H
def lvOK (E : EV) (nL : Nat) (ls : Array Slot) (L : List (Option Value)) : Prop := ls.size = nL ∧ L.length = nL ∧ lv_wf ls ∧ ∀ (i : Nat) (v : Value), L[i]? = some (some v) → ls[i]? = some (.val (e_v E v))
/-- what holds of the machine while a method runs -/
def Cx (X : Nat × (Nat → Int32)) (E : EV) (M : MR) (p : Program) (s : State) (m : MethodId) (args : Array Value) (meth : Method) (c : Code) : Prop :=
  p.tables.exec = Jvm.exec ∧ c.code = M.2.1 ∧ meth.sig.returnType = M.2.2.2 ∧ c.maxLocals = M.2.2.1 ∧ s.vm.findClass M.1.cls = some m.cls ∧ (∀ w ∈ TB, w.before args s = true) ∧ meth.locks = false ∧ meth.name = M.1.name ∧
  va_K E.2.2.1 KL (e_tys E) s ∧ (∀ w ∈ NW, va_Nw w s) ∧ va_AO "PearlMother$State" s ∧ va_X E.1 X.1 X.2 s s.heap ∧ E.1 < E.2.1 ∧ E.2.1 ≤ s.heap.size
/-- a frame that is about to return r -/
def RetAt (E : EV) (M : MR) (m : MethodId) (r : Option Value) (g : JFrame) : Prop :=
  ∃ (pc : Nat) (ls : Array Slot), (r = none ∧ g = F0 m pc ls [] ∧ decode M.2.1 pc = .ok (.return_, 1) ∧ M.2.2.2 = none) ∨
    (∃ (x : Int32) (ty : FieldType), r = some (.int x) ∧ g = F0 m pc ls [.int x] ∧ decode M.2.1 pc = .ok (.ireturn, 1) ∧ M.2.2.2 = some ty ∧ narrow ty (.int x) = .int x) ∨
    (∃ x : Int64, r = some (.long x) ∧ g = F0 m pc ls [.long x] ∧ decode M.2.1 pc = .ok (.lreturn, 1) ∧ M.2.2.2 = some .long)
/-- from pc on, with locals L, operands S and heap h, the method M returns with Q; d: frames that it may open; kc, ks: cells and slots that it may make -/
def Run (X : Nat × (Nat → Int32)) (d kc ks : Nat) (M : MR) (pc : Nat) (L : List (Option Value)) (S : List Value) (h : AH) (Q : Option Value → AH → Prop) : Prop :=
  ∀ (E : EV) (p : Program) (l : Launch) (e : Env) (R : Room) (s : State) (m : MethodId) (args : Array Value) (below : List Frame) (meth : Method) (c : Code) (H : Heap) (locs : List Loc) (cells slots : Nat) (Z : State → Prop) (ls : Array Slot),
    Cx X E M p s m args meth c → d ≤ R.frames → 60 * d ≤ R.locals → cells + kc ≤ R.cells → slots + ks ≤ R.slots → hpOK E s cells h H → va_S (e_A E) s.heap H locs → lvOK E M.2.2.1 ls L →
    (∀ (r : Option Value) (h' : AH) (H' : Heap) (locs' : List Loc) (cells' slots' : Nat) (g : JFrame), Q r h' → RetAt E M m r g → hpOK E s cells' h' H' → va_S (e_A E) s.heap H' locs' → cells' ≤ cells + kc → slots' ≤ slots + ks → W p l e R s m args below meth c H' locs' cells' slots' Z g) →
    W p l e R s m args below meth c H locs cells slots Z (F0 m pc ls (S.map (e_v E)))
/-- an instruction: its length, the next place -/
def DI (M : MR) (pc : Nat) (i : Instr) (len nx : Nat) : Prop := decode M.2.1 pc = .ok (i, len) ∧ pc + len = nx
/-- a branch: its length, the next place, the target -/
def DJ (M : MR) (pc : Nat) (i : Instr) (off : Int) (len nx tgt : Nat) : Prop := decode M.2.1 pc = .ok (i, len) ∧ pc + len = nx ∧ (pc : Int) + off = (tgt : Int)
theorem e_h_at {E : EV} {h : AH} {k : Nat} {c : AC} (hk : h[k]? = some c) : (e_h E h)[k]? = some (E.2.1 + k, e_c E c) := by
  simp [e_h, List.getElem?_mapIdx, hk]
theorem e_h_set {E : EV} {h : AH} {k : Nat} {c : AC} : e_h E (h.set k c) = (e_h E h).set k (E.2.1 + k, e_c E c) := by
  apply List.ext_getElem?
  intro i
  simp only [e_h, List.getElem?_mapIdx, List.getElem?_set, List.length_mapIdx]
  by_cases hi : k = i
  · subst hi
    by_cases hl : k < h.length
    · simp [hl]
    · simp [hl]
  · simp [hi]
theorem e_h_push {E : EV} {h : AH} {c : AC} : e_h E (h ++ [c]) = e_h E h ++ [(E.2.1 + h.length, e_c E c)] := by
  simp [e_h, List.mapIdx_append]
theorem e_D {E : EV} (h : AH) : va_D (e_A E) (e_h E h) := by
  have key : ∀ (k : Nat) (q : Nat × va_E), (e_h E h)[k]? = some q → q.1 = E.2.1 + k := by
    intro k q hq
    simp only [e_h, List.getElem?_mapIdx, Option.map_eq_some_iff] at hq
    obtain ⟨c, -, rfl⟩ := hq
    rfl
  refine ⟨fun i j x y hi hj hxy => ?_, fun k q hq => ?_⟩
  · have h1 := key i x hi
    have h2 := key j y hj
    omega
  · have h1 := key k q hq
    show E.2.1 ≤ q.1
    omega
theorem lv_of {E : EV} {nL : Nat} {ls : Array Slot} {L : List (Option Value)} (h : lvOK E nL ls L) {i : Nat} {v : Value} (hi : L[i]? = some (some v)) : ls[i]? = some (.val (e_v E v)) := h.2.2.2 i v hi
/-- the listed values, for the kit -/
def lvL (E : EV) (L : List (Option Value)) : List (Nat × Value) := (List.range L.length).filterMap (fun i => match L[i]? with
  | some (some v) => some (i, e_v E v)
  | _ => none)
theorem lvL_mem {E : EV} {L : List (Option Value)} {i : Nat} {v : Value} (h : L[i]? = some (some v)) : (i, e_v E v) ∈ lvL E L := by
  refine List.mem_filterMap.mpr ⟨i, List.mem_range.mpr (List.getElem?_eq_some_iff.mp h).1, ?_⟩
  simp [h]
theorem lvL_has {E : EV} {nL : Nat} {ls : Array Slot} {L : List (Option Value)} (h : lvOK E nL ls L) : lv_has ls nL (lvL E L) := by
  refine ⟨h.1, h.2.2.1, fun q hq => ?_⟩
  obtain ⟨i, -, hi⟩ := List.mem_filterMap.mp hq
  revert hi
  split
  · rename_i v hv
    intro hi
    cases hi
    exact h.2.2.2 i v hv
  · intro hi
    cases hi
theorem e_cat (E : EV) (v : Value) : (e_v E v).category = v.category := by cases v <;> rfl
/-- nothing of two words stands right ahead of the place -/
def freeAt (L : List (Option Value)) (i : Nat) : Bool := match i with
  | 0 => true
  | i + 1 => match L[i]? with
    | some (some v) => v.category == 1
    | _ => true
theorem freeAt_ne {L : List (Option Value)} {i j : Nat} {v : Value} (h : freeAt L i = true) (hj : L[j]? = some (some v)) (hji : j + 1 = i) : ¬ v.category = 2 := by
  subst hji
  simp only [freeAt, hj] at h
  intro q
  rw [q] at h
  cases h
theorem lvOK_1 {E : EV} {nL : Nat} {ls ls' : Array Slot} {L : List (Option Value)} {i : Nat} {v : Value} (h : lvOK E nL ls L) (hf : freeAt L i = true) (hi : i < nL)
    (h' : lv_has ls' nL ((i, e_v E v) :: (lvL E L).filter (fun q => !(q.1 == i) && !(q.1 + 1 == i && q.2.category == 2)))) : lvOK E nL ls' (L.set i (some v)) := by
  refine ⟨h'.1, by simp [h.2.1], h'.2.1, fun j w hj => ?_⟩
  by_cases hji : j = i
  · subst hji
    rw [List.getElem?_set_self (by rw [h.2.1]; exact hi)] at hj
    cases hj
    exact h'.2.2 _ List.mem_cons_self
  · rw [List.getElem?_set_ne (Ne.symm hji)] at hj
    refine h'.2.2 (j, e_v E w) (List.mem_cons_of_mem _ (List.mem_filter.mpr ⟨lvL_mem hj, ?_⟩))
    by_cases hq : j + 1 = i
    · have := freeAt_ne hf hj hq
      simp [hji, hq, e_cat, this]
    · simp [hji, hq]
theorem lvOK_2 {E : EV} {nL : Nat} {ls ls' : Array Slot} {L : List (Option Value)} {i : Nat} {v : Value} (h : lvOK E nL ls L) (hf : freeAt L i = true) (hi : i + 1 < nL)
    (h' : lv_has ls' nL ((i, e_v E v) :: (lvL E L).filter (fun q => !(q.1 == i) && (!(q.1 == i + 1) && !(q.1 + 1 == i && q.2.category == 2))))) : lvOK E nL ls' ((L.set i (some v)).set (i + 1) none) := by
  refine ⟨h'.1, by simp [h.2.1], h'.2.1, fun j w hj => ?_⟩
  by_cases hj1 : j = i + 1
  · subst hj1
    rw [List.getElem?_set_self (by simp [h.2.1]; omega)] at hj
    cases hj
  · rw [List.getElem?_set_ne (Ne.symm hj1)] at hj
    by_cases hji : j = i
    · subst hji
      rw [List.getElem?_set_self (by rw [h.2.1]; omega)] at hj
      cases hj
      exact h'.2.2 _ List.mem_cons_self
    · rw [List.getElem?_set_ne (Ne.symm hji)] at hj
      refine h'.2.2 (j, e_v E w) (List.mem_cons_of_mem _ (List.mem_filter.mpr ⟨lvL_mem hj, ?_⟩))
      by_cases hq : j + 1 = i
      · have := freeAt_ne hf hj hq
        simp [hji, hj1, hq, e_cat, this]
      · simp [hji, hj1, hq]
end
section
/-! ===== rows for Run, an instruction each ===== -/
section RUN
variable {X : Nat × (Nat → Int32)} {d kc ks : Nat} {M : MR} {pc nx tgt : Nat} {L : List (Option Value)} {S : List Value} {h : AH} {Q : Option Value → AH → Prop}
theorem Run.iadd {x y : Int32} (hd : DI M pc (.iadd) 1 nx) (k : Run X d kc ks M nx L (.int (x + y) :: S) h Q) : Run X d kc ks M pc L (.int y :: .int x :: S) h Q := by
  obtain ⟨hd, rfl⟩ := hd
  intro E p l e R s m args below meth c H locs cells slots Z ls C h1 h2 h3 h4 hH hS hl kz
  exact lv_iadd C.1 C.2.1 hd (k E p l e R s m args below meth c H locs cells slots Z ls C h1 h2 h3 h4 hH hS hl kz)
theorem Run.isub {x y : Int32} (hd : DI M pc (.isub) 1 nx) (k : Run X d kc ks M nx L (.int (x - y) :: S) h Q) : Run X d kc ks M pc L (.int y :: .int x :: S) h Q := by
  obtain ⟨hd, rfl⟩ := hd
  intro E p l e R s m args below meth c H locs cells slots Z ls C h1 h2 h3 h4 hH hS hl kz
  exact lv_isub C.1 C.2.1 hd (k E p l e R s m args below meth c H locs cells slots Z ls C h1 h2 h3 h4 hH hS hl kz)
theorem Run.imul {x y : Int32} (hd : DI M pc (.imul) 1 nx) (k : Run X d kc ks M nx L (.int (x * y) :: S) h Q) : Run X d kc ks M pc L (.int y :: .int x :: S) h Q := by
  obtain ⟨hd, rfl⟩ := hd
  intro E p l e R s m args below meth c H locs cells slots Z ls C h1 h2 h3 h4 hH hS hl kz
  exact lv_imul C.1 C.2.1 hd (k E p l e R s m args below meth c H locs cells slots Z ls C h1 h2 h3 h4 hH hS hl kz)
theorem Run.iand {x y : Int32} (hd : DI M pc (.iand) 1 nx) (k : Run X d kc ks M nx L (.int (x &&& y) :: S) h Q) : Run X d kc ks M pc L (.int y :: .int x :: S) h Q := by
  obtain ⟨hd, rfl⟩ := hd
  intro E p l e R s m args below meth c H locs cells slots Z ls C h1 h2 h3 h4 hH hS hl kz
  exact lv_iand C.1 C.2.1 hd (k E p l e R s m args below meth c H locs cells slots Z ls C h1 h2 h3 h4 hH hS hl kz)
theorem Run.ior {x y : Int32} (hd : DI M pc (.ior) 1 nx) (k : Run X d kc ks M nx L (.int (x ||| y) :: S) h Q) : Run X d kc ks M pc L (.int y :: .int x :: S) h Q := by
  obtain ⟨hd, rfl⟩ := hd
  intro E p l e R s m args below meth c H locs cells slots Z ls C h1 h2 h3 h4 hH hS hl kz
  exact lv_ior C.1 C.2.1 hd (k E p l e R s m args below meth c H locs cells slots Z ls C h1 h2 h3 h4 hH hS hl kz)
theorem Run.ixor {x y : Int32} (hd : DI M pc (.ixor) 1 nx) (k : Run X d kc ks M nx L (.int (x ^^^ y) :: S) h Q) : Run X d kc ks M pc L (.int y :: .int x :: S) h Q := by
  obtain ⟨hd, rfl⟩ := hd
  intro E p l e R s m args below meth c H locs cells slots Z ls C h1 h2 h3 h4 hH hS hl kz
  exact lv_ixor C.1 C.2.1 hd (k E p l e R s m args below meth c H locs cells slots Z ls C h1 h2 h3 h4 hH hS hl kz)
theorem Run.ishl {x y : Int32} (hd : DI M pc (.ishl) 1 nx) (k : Run X d kc ks M nx L (.int (x <<< (y &&& 31)) :: S) h Q) : Run X d kc ks M pc L (.int y :: .int x :: S) h Q := by
  obtain ⟨hd, rfl⟩ := hd
  intro E p l e R s m args below meth c H locs cells slots Z ls C h1 h2 h3 h4 hH hS hl kz
  exact lv_ishl C.1 C.2.1 hd (k E p l e R s m args below meth c H locs cells slots Z ls C h1 h2 h3 h4 hH hS hl kz)
theorem Run.ishr {x y : Int32} (hd : DI M pc (.ishr) 1 nx) (k : Run X d kc ks M nx L (.int (x >>> (y &&& 31)) :: S) h Q) : Run X d kc ks M pc L (.int y :: .int x :: S) h Q := by
  obtain ⟨hd, rfl⟩ := hd
  intro E p l e R s m args below meth c H locs cells slots Z ls C h1 h2 h3 h4 hH hS hl kz
  exact lv_ishr C.1 C.2.1 hd (k E p l e R s m args below meth c H locs cells slots Z ls C h1 h2 h3 h4 hH hS hl kz)
theorem Run.idiv {x y : Int32} (hd : DI M pc (.idiv) 1 nx) (hy : ¬ y = 0) (k : Run X d kc ks M nx L (.int (x / y) :: S) h Q) : Run X d kc ks M pc L (.int y :: .int x :: S) h Q := by
  obtain ⟨hd, rfl⟩ := hd
  intro E p l e R s m args below meth c H locs cells slots Z ls C h1 h2 h3 h4 hH hS hl kz
  exact lv_idiv C.1 C.2.1 hd hy (k E p l e R s m args below meth c H locs cells slots Z ls C h1 h2 h3 h4 hH hS hl kz)
theorem Run.irem {x y : Int32} (hd : DI M pc (.irem) 1 nx) (hy : ¬ y = 0) (k : Run X d kc ks M nx L (.int (x - x / y * y) :: S) h Q) : Run X d kc ks M pc L (.int y :: .int x :: S) h Q := by
  obtain ⟨hd, rfl⟩ := hd
  intro E p l e R s m args below meth c H locs cells slots Z ls C h1 h2 h3 h4 hH hS hl kz
  exact lv_irem C.1 C.2.1 hd hy (k E p l e R s m args below meth c H locs cells slots Z ls C h1 h2 h3 h4 hH hS hl kz)
theorem Run.ineg {x : Int32} (hd : DI M pc (.ineg) 1 nx) (k : Run X d kc ks M nx L (.int (-x) :: S) h Q) : Run X d kc ks M pc L (.int x :: S) h Q := by
  obtain ⟨hd, rfl⟩ := hd
  intro E p l e R s m args below meth c H locs cells slots Z ls C h1 h2 h3 h4 hH hS hl kz
  exact lv_ineg C.1 C.2.1 hd (k E p l e R s m args below meth c H locs cells slots Z ls C h1 h2 h3 h4 hH hS hl kz)
theorem Run.iushr {x y : Int32} (hd : DI M pc (.iushr) 1 nx) (k : Run X d kc ks M nx L (.int (x.toUInt32 >>> (y.toUInt32 &&& Int32.toUInt32 31)).toInt32 :: S) h Q) : Run X d kc ks M pc L (.int y :: .int x :: S) h Q := by
  obtain ⟨hd, rfl⟩ := hd
  intro E p l e R s m args below meth c H locs cells slots Z ls C h1 h2 h3 h4 hH hS hl kz
  exact lv_iushr C.1 C.2.1 hd rfl (k E p l e R s m args below meth c H locs cells slots Z ls C h1 h2 h3 h4 hH hS hl kz)
theorem Run.ladd {x y : Int64} (hd : DI M pc (.ladd) 1 nx) (k : Run X d kc ks M nx L (.long (x + y) :: S) h Q) : Run X d kc ks M pc L (.long y :: .long x :: S) h Q := by
  obtain ⟨hd, rfl⟩ := hd
  intro E p l e R s m args below meth c H locs cells slots Z ls C h1 h2 h3 h4 hH hS hl kz
  exact lv_ladd C.1 C.2.1 hd (k E p l e R s m args below meth c H locs cells slots Z ls C h1 h2 h3 h4 hH hS hl kz)
theorem Run.lsub {x y : Int64} (hd : DI M pc (.lsub) 1 nx) (k : Run X d kc ks M nx L (.long (x - y) :: S) h Q) : Run X d kc ks M pc L (.long y :: .long x :: S) h Q := by
  obtain ⟨hd, rfl⟩ := hd
  intro E p l e R s m args below meth c H locs cells slots Z ls C h1 h2 h3 h4 hH hS hl kz
  exact lv_lsub C.1 C.2.1 hd (k E p l e R s m args below meth c H locs cells slots Z ls C h1 h2 h3 h4 hH hS hl kz)
theorem Run.lmul {x y : Int64} (hd : DI M pc (.lmul) 1 nx) (k : Run X d kc ks M nx L (.long (x * y) :: S) h Q) : Run X d kc ks M pc L (.long y :: .long x :: S) h Q := by
  obtain ⟨hd, rfl⟩ := hd
  intro E p l e R s m args below meth c H locs cells slots Z ls C h1 h2 h3 h4 hH hS hl kz
  exact lv_lmul C.1 C.2.1 hd (k E p l e R s m args below meth c H locs cells slots Z ls C h1 h2 h3 h4 hH hS hl kz)
theorem Run.land {x y : Int64} (hd : DI M pc (.land) 1 nx) (k : Run X d kc ks M nx L (.long (x &&& y) :: S) h Q) : Run X d kc ks M pc L (.long y :: .long x :: S) h Q := by
  obtain ⟨hd, rfl⟩ := hd
  intro E p l e R s m args below meth c H locs cells slots Z ls C h1 h2 h3 h4 hH hS hl kz
  exact lv_land C.1 C.2.1 hd (k E p l e R s m args below meth c H locs cells slots Z ls C h1 h2 h3 h4 hH hS hl kz)
theorem Run.lor {x y : Int64} (hd : DI M pc (.lor) 1 nx) (k : Run X d kc ks M nx L (.long (x ||| y) :: S) h Q) : Run X d kc ks M pc L (.long y :: .long x :: S) h Q := by
  obtain ⟨hd, rfl⟩ := hd
  intro E p l e R s m args below meth c H locs cells slots Z ls C h1 h2 h3 h4 hH hS hl kz
  exact lv_lor C.1 C.2.1 hd (k E p l e R s m args below meth c H locs cells slots Z ls C h1 h2 h3 h4 hH hS hl kz)
theorem Run.ldiv {x y : Int64} (hd : DI M pc (.ldiv) 1 nx) (hy : ¬ y = 0) (k : Run X d kc ks M nx L (.long (x / y) :: S) h Q) : Run X d kc ks M pc L (.long y :: .long x :: S) h Q := by
  obtain ⟨hd, rfl⟩ := hd
  intro E p l e R s m args below meth c H locs cells slots Z ls C h1 h2 h3 h4 hH hS hl kz
  exact lv_ldiv C.1 C.2.1 hd hy (k E p l e R s m args below meth c H locs cells slots Z ls C h1 h2 h3 h4 hH hS hl kz)
theorem Run.lrem {x y : Int64} (hd : DI M pc (.lrem) 1 nx) (hy : ¬ y = 0) (k : Run X d kc ks M nx L (.long (x - x / y * y) :: S) h Q) : Run X d kc ks M pc L (.long y :: .long x :: S) h Q := by
  obtain ⟨hd, rfl⟩ := hd
  intro E p l e R s m args below meth c H locs cells slots Z ls C h1 h2 h3 h4 hH hS hl kz
  exact lv_lrem C.1 C.2.1 hd hy (k E p l e R s m args below meth c H locs cells slots Z ls C h1 h2 h3 h4 hH hS hl kz)
theorem Run.i2l {x : Int32} (hd : DI M pc (.i2l) 1 nx) (k : Run X d kc ks M nx L (.long x.toInt64 :: S) h Q) : Run X d kc ks M pc L (.int x :: S) h Q := by
  obtain ⟨hd, rfl⟩ := hd
  intro E p l e R s m args below meth c H locs cells slots Z ls C h1 h2 h3 h4 hH hS hl kz
  exact lv_i2l C.1 C.2.1 hd rfl (k E p l e R s m args below meth c H locs cells slots Z ls C h1 h2 h3 h4 hH hS hl kz)
theorem Run.l2i {x : Int64} (hd : DI M pc (.l2i) 1 nx) (k : Run X d kc ks M nx L (.int x.toInt32 :: S) h Q) : Run X d kc ks M pc L (.long x :: S) h Q := by
  obtain ⟨hd, rfl⟩ := hd
  intro E p l e R s m args below meth c H locs cells slots Z ls C h1 h2 h3 h4 hH hS hl kz
  exact lv_l2i C.1 C.2.1 hd rfl (k E p l e R s m args below meth c H locs cells slots Z ls C h1 h2 h3 h4 hH hS hl kz)
theorem Run.lushr {x : Int64} {y : Int32} (hd : DI M pc (.lushr) 1 nx) (k : Run X d kc ks M nx L (.long (x.toUInt64 >>> (y.toInt64.toUInt64 &&& Int64.toUInt64 63)).toInt64 :: S) h Q) : Run X d kc ks M pc L (.int y :: .long x :: S) h Q := by
  obtain ⟨hd, rfl⟩ := hd
  intro E p l e R s m args below meth c H locs cells slots Z ls C h1 h2 h3 h4 hH hS hl kz
  exact lv_lushr C.1 C.2.1 hd rfl (k E p l e R s m args below meth c H locs cells slots Z ls C h1 h2 h3 h4 hH hS hl kz)
theorem Run.lshl {x : Int64} {y : Int32} (hd : DI M pc (.lshl) 1 nx) (k : Run X d kc ks M nx L (.long (x <<< (y.toInt64 &&& 63)) :: S) h Q) : Run X d kc ks M pc L (.int y :: .long x :: S) h Q := by
  obtain ⟨hd, rfl⟩ := hd
  intro E p l e R s m args below meth c H locs cells slots Z ls C h1 h2 h3 h4 hH hS hl kz
  exact lv_lshl C.1 C.2.1 hd rfl (k E p l e R s m args below meth c H locs cells slots Z ls C h1 h2 h3 h4 hH hS hl kz)
theorem Run.lcmp {x y : Int64} (hd : DI M pc (.lcmp) 1 nx) (k : Run X d kc ks M nx L (.int (lg_cmp x y) :: S) h Q) : Run X d kc ks M pc L (.long y :: .long x :: S) h Q := by
  obtain ⟨hd, rfl⟩ := hd
  intro E p l e R s m args below meth c H locs cells slots Z ls C h1 h2 h3 h4 hH hS hl kz
  exact W.lcmp C.1 C.2.1 hd (k E p l e R s m args below meth c H locs cells slots Z ls C h1 h2 h3 h4 hH hS hl kz)
theorem Run.iconst {n : Int} {v : Int32} (hd : DI M pc (.iconst n) 1 nx) (hv : Int32.ofInt n = v) (k : Run X d kc ks M nx L (.int v :: S) h Q) : Run X d kc ks M pc L S h Q := by
  obtain ⟨hd, rfl⟩ := hd
  intro E p l e R s m args below meth c H locs cells slots Z ls C h1 h2 h3 h4 hH hS hl kz
  exact lv_iconst C.1 C.2.1 hd hv (k E p l e R s m args below meth c H locs cells slots Z ls C h1 h2 h3 h4 hH hS hl kz)
theorem Run.bipush {n : Int} {v : Int32} (hd : DI M pc (.bipush n) 2 nx) (hv : (Int8.ofInt n).toInt32 = v) (k : Run X d kc ks M nx L (.int v :: S) h Q) : Run X d kc ks M pc L S h Q := by
  obtain ⟨hd, rfl⟩ := hd
  intro E p l e R s m args below meth c H locs cells slots Z ls C h1 h2 h3 h4 hH hS hl kz
  exact lv_bipush C.1 C.2.1 hd hv (k E p l e R s m args below meth c H locs cells slots Z ls C h1 h2 h3 h4 hH hS hl kz)
theorem Run.sipush {n : Int} {v : Int32} (hd : DI M pc (.sipush n) 3 nx) (hv : (Int16.ofInt n).toInt32 = v) (k : Run X d kc ks M nx L (.int v :: S) h Q) : Run X d kc ks M pc L S h Q := by
  obtain ⟨hd, rfl⟩ := hd
  intro E p l e R s m args below meth c H locs cells slots Z ls C h1 h2 h3 h4 hH hS hl kz
  exact lv_sipush C.1 C.2.1 hd hv (k E p l e R s m args below meth c H locs cells slots Z ls C h1 h2 h3 h4 hH hS hl kz)
theorem Run.lconst {n : Fin 2} {v : Int64} (hd : DI M pc (.lconst n) 1 nx) (hv : Int64.ofNat (n : Nat) = v) (k : Run X d kc ks M nx L (.long v :: S) h Q) : Run X d kc ks M pc L S h Q := by
  obtain ⟨hd, rfl⟩ := hd
  intro E p l e R s m args below meth c H locs cells slots Z ls C h1 h2 h3 h4 hH hS hl kz
  exact lv_lconst C.1 C.2.1 hd hv (k E p l e R s m args below meth c H locs cells slots Z ls C h1 h2 h3 h4 hH hS hl kz)
theorem Run.ldcw {n : Nat} {v : Int32} (hd : DI M pc (.ldc_w n) 3 nx) (hc : Cond.constant M.1.cls n v ∈ TB) (k : Run X d kc ks M nx L (.int v :: S) h Q) : Run X d kc ks M pc L S h Q := by
  obtain ⟨hd, rfl⟩ := hd
  intro E p l e R s m args below meth c H locs cells slots Z ls C h1 h2 h3 h4 hH hS hl kz
  exact lv_ldcw C.1 C.2.1 C.2.2.2.2.1 (C.2.2.2.2.2.1 _ hc) hd (k E p l e R s m args below meth c H locs cells slots Z ls C h1 h2 h3 h4 hH hS hl kz)
theorem Run.ldc2 {n : Nat} {v : Int64} (hd : DI M pc (.ldc2_w n) 3 nx) (hc : Cond.constantLong M.1.cls n v ∈ TB) (k : Run X d kc ks M nx L (.long v :: S) h Q) : Run X d kc ks M pc L S h Q := by
  obtain ⟨hd, rfl⟩ := hd
  intro E p l e R s m args below meth c H locs cells slots Z ls C h1 h2 h3 h4 hH hS hl kz
  exact lv_ldc2 C.1 C.2.1 C.2.2.2.2.1 (C.2.2.2.2.2.1 _ hc) hd (k E p l e R s m args below meth c H locs cells slots Z ls C h1 h2 h3 h4 hH hS hl kz)
theorem Run.dup {v : Value} (hd : DI M pc (.dup) 1 nx) (hv : v.category = 1) (k : Run X d kc ks M nx L (v :: v :: S) h Q) : Run X d kc ks M pc L (v :: S) h Q := by
  obtain ⟨hd, rfl⟩ := hd
  intro E p l e R s m args below meth c H locs cells slots Z ls C h1 h2 h3 h4 hH hS hl kz
  exact lv_dup C.1 C.2.1 hd ((e_cat E v).trans hv) (k E p l e R s m args below meth c H locs cells slots Z ls C h1 h2 h3 h4 hH hS hl kz)
theorem Run.dup2 {v w : Value} (hd : DI M pc (.dup2) 1 nx) (hv : v.category = 1) (hw : w.category = 1) (k : Run X d kc ks M nx L (v :: w :: v :: w :: S) h Q) : Run X d kc ks M pc L (v :: w :: S) h Q := by
  obtain ⟨hd, rfl⟩ := hd
  intro E p l e R s m args below meth c H locs cells slots Z ls C h1 h2 h3 h4 hH hS hl kz
  exact lv_dup2_11 C.1 C.2.1 hd ((e_cat E v).trans hv) ((e_cat E w).trans hw) (k E p l e R s m args below meth c H locs cells slots Z ls C h1 h2 h3 h4 hH hS hl kz)
theorem Run.iload_n {i : Fin 4} {x : Int32} (hd : DI M pc (.iload_n i) 1 nx) (hi : L[(i : Nat)]? = some (some (.int x))) (k : Run X d kc ks M nx L (.int x :: S) h Q) : Run X d kc ks M pc L S h Q := by
  obtain ⟨hd, rfl⟩ := hd
  intro E p l e R s m args below meth c H locs cells slots Z ls C h1 h2 h3 h4 hH hS hl kz
  exact lv_iload_n C.1 C.2.1 hd rfl (lv_of hl hi) (k E p l e R s m args below meth c H locs cells slots Z ls C h1 h2 h3 h4 hH hS hl kz)
theorem Run.iload {i : Nat} {x : Int32} (hd : DI M pc (.iload i) 2 nx) (hi : L[i]? = some (some (.int x))) (k : Run X d kc ks M nx L (.int x :: S) h Q) : Run X d kc ks M pc L S h Q := by
  obtain ⟨hd, rfl⟩ := hd
  intro E p l e R s m args below meth c H locs cells slots Z ls C h1 h2 h3 h4 hH hS hl kz
  exact lv_iload C.1 C.2.1 hd (lv_of hl hi) (k E p l e R s m args below meth c H locs cells slots Z ls C h1 h2 h3 h4 hH hS hl kz)
theorem Run.istore_n {i : Fin 4} {x : Int32} (hd : DI M pc (.istore_n i) 1 nx) (hf : freeAt L (i : Nat) = true) (hi : (L[(i : Nat)]?).isSome = true) (k : Run X d kc ks M nx (L.set (i : Nat) (some (.int x))) S h Q) : Run X d kc ks M pc L (.int x :: S) h Q := by
  obtain ⟨hd, rfl⟩ := hd
  intro E p l e R s m args below meth c H locs cells slots Z ls C h1 h2 h3 h4 hH hS hl kz
  have hi2 : (i : Nat) < M.2.2.1 := by
    rw [← hl.2.1]
    exact (List.getElem?_eq_some_iff.mp (Option.eq_some_of_isSome hi)).1
  refine lv_istore_n C.1 C.2.1 hd rfl (lvL_has hl) hi2 rfl (fun ls2 hl2 => ?_)
  exact k E p l e R s m args below meth c H locs cells slots Z ls2 C h1 h2 h3 h4 hH hS (lvOK_1 (v := .int x) hl hf hi2 hl2) kz
theorem Run.istore {i : Nat} {x : Int32} (hd : DI M pc (.istore i) 2 nx) (hf : freeAt L i = true) (hi : (L[i]?).isSome = true) (k : Run X d kc ks M nx (L.set i (some (.int x))) S h Q) : Run X d kc ks M pc L (.int x :: S) h Q := by
  obtain ⟨hd, rfl⟩ := hd
  intro E p l e R s m args below meth c H locs cells slots Z ls C h1 h2 h3 h4 hH hS hl kz
  have hi2 : i < M.2.2.1 := by
    rw [← hl.2.1]
    exact (List.getElem?_eq_some_iff.mp (Option.eq_some_of_isSome hi)).1
  refine lv_istore C.1 C.2.1 hd (lvL_has hl) hi2 rfl (fun ls2 hl2 => ?_)
  exact k E p l e R s m args below meth c H locs cells slots Z ls2 C h1 h2 h3 h4 hH hS (lvOK_1 (v := .int x) hl hf hi2 hl2) kz
theorem Run.lload_n {i : Fin 4} {x : Int64} (hd : DI M pc (.lload_n i) 1 nx) (hi : L[(i : Nat)]? = some (some (.long x))) (k : Run X d kc ks M nx L (.long x :: S) h Q) : Run X d kc ks M pc L S h Q := by
  obtain ⟨hd, rfl⟩ := hd
  intro E p l e R s m args below meth c H locs cells slots Z ls C h1 h2 h3 h4 hH hS hl kz
  exact lv_lload_n C.1 C.2.1 hd rfl (lv_of hl hi) (k E p l e R s m args below meth c H locs cells slots Z ls C h1 h2 h3 h4 hH hS hl kz)
theorem Run.lload {i : Nat} {x : Int64} (hd : DI M pc (.lload i) 2 nx) (hi : L[i]? = some (some (.long x))) (k : Run X d kc ks M nx L (.long x :: S) h Q) : Run X d kc ks M pc L S h Q := by
  obtain ⟨hd, rfl⟩ := hd
  intro E p l e R s m args below meth c H locs cells slots Z ls C h1 h2 h3 h4 hH hS hl kz
  exact lv_lload C.1 C.2.1 hd (lv_of hl hi) (k E p l e R s m args below meth c H locs cells slots Z ls C h1 h2 h3 h4 hH hS hl kz)
theorem Run.lstore_n {i : Fin 4} {x : Int64} (hd : DI M pc (.lstore_n i) 1 nx) (hf : freeAt L (i : Nat) = true) (hi : (L[(i : Nat) + 1]?).isSome = true) (k : Run X d kc ks M nx ((L.set (i : Nat) (some (.long x))).set ((i : Nat) + 1) none) S h Q) : Run X d kc ks M pc L (.long x :: S) h Q := by
  obtain ⟨hd, rfl⟩ := hd
  intro E p l e R s m args below meth c H locs cells slots Z ls C h1 h2 h3 h4 hH hS hl kz
  have hi2 : (i : Nat) + 1 < M.2.2.1 := by
    rw [← hl.2.1]
    exact (List.getElem?_eq_some_iff.mp (Option.eq_some_of_isSome hi)).1
  refine lv_lstore_n C.1 C.2.1 hd rfl (lvL_has hl) hi2 rfl (fun ls2 hl2 => ?_)
  exact k E p l e R s m args below meth c H locs cells slots Z ls2 C h1 h2 h3 h4 hH hS (lvOK_2 (v := .long x) hl hf hi2 hl2) kz
theorem Run.lstore {i : Nat} {x : Int64} (hd : DI M pc (.lstore i) 2 nx) (hf : freeAt L i = true) (hi : (L[i + 1]?).isSome = true) (k : Run X d kc ks M nx ((L.set i (some (.long x))).set (i + 1) none) S h Q) : Run X d kc ks M pc L (.long x :: S) h Q := by
  obtain ⟨hd, rfl⟩ := hd
  intro E p l e R s m args below meth c H locs cells slots Z ls C h1 h2 h3 h4 hH hS hl kz
  have hi2 : i + 1 < M.2.2.1 := by
    rw [← hl.2.1]
    exact (List.getElem?_eq_some_iff.mp (Option.eq_some_of_isSome hi)).1
  refine lv_lstore C.1 C.2.1 hd (lvL_has hl) hi2 rfl (fun ls2 hl2 => ?_)
  exact k E p l e R s m args below meth c H locs cells slots Z ls2 C h1 h2 h3 h4 hH hS (lvOK_2 (v := .long x) hl hf hi2 hl2) kz
theorem Run.aload_n {i : Fin 4} {x : Nat} (hd : DI M pc (.aload_n i) 1 nx) (hi : L[(i : Nat)]? = some (some (.ref x))) (k : Run X d kc ks M nx L (.ref x :: S) h Q) : Run X d kc ks M pc L S h Q := by
  obtain ⟨hd, rfl⟩ := hd
  intro E p l e R s m args below meth c H locs cells slots Z ls C h1 h2 h3 h4 hH hS hl kz
  exact lv_aload_n C.1 C.2.1 hd rfl (lv_of hl hi) (k E p l e R s m args below meth c H locs cells slots Z ls C h1 h2 h3 h4 hH hS hl kz)
theorem Run.aload {i : Nat} {x : Nat} (hd : DI M pc (.aload i) 2 nx) (hi : L[i]? = some (some (.ref x))) (k : Run X d kc ks M nx L (.ref x :: S) h Q) : Run X d kc ks M pc L S h Q := by
  obtain ⟨hd, rfl⟩ := hd
  intro E p l e R s m args below meth c H locs cells slots Z ls C h1 h2 h3 h4 hH hS hl kz
  exact lv_aload C.1 C.2.1 hd (lv_of hl hi) (k E p l e R s m args below meth c H locs cells slots Z ls C h1 h2 h3 h4 hH hS hl kz)
theorem Run.astore_n {i : Fin 4} {x : Nat} (hd : DI M pc (.astore_n i) 1 nx) (hf : freeAt L (i : Nat) = true) (hi : (L[(i : Nat)]?).isSome = true) (k : Run X d kc ks M nx (L.set (i : Nat) (some (.ref x))) S h Q) : Run X d kc ks M pc L (.ref x :: S) h Q := by
  obtain ⟨hd, rfl⟩ := hd
  intro E p l e R s m args below meth c H locs cells slots Z ls C h1 h2 h3 h4 hH hS hl kz
  have hi2 : (i : Nat) < M.2.2.1 := by
    rw [← hl.2.1]
    exact (List.getElem?_eq_some_iff.mp (Option.eq_some_of_isSome hi)).1
  refine lv_astore_n C.1 C.2.1 hd rfl (lvL_has hl) hi2 rfl (fun ls2 hl2 => ?_)
  exact k E p l e R s m args below meth c H locs cells slots Z ls2 C h1 h2 h3 h4 hH hS (lvOK_1 (v := .ref x) hl hf hi2 hl2) kz
theorem Run.astore {i : Nat} {x : Nat} (hd : DI M pc (.astore i) 2 nx) (hf : freeAt L i = true) (hi : (L[i]?).isSome = true) (k : Run X d kc ks M nx (L.set i (some (.ref x))) S h Q) : Run X d kc ks M pc L (.ref x :: S) h Q := by
  obtain ⟨hd, rfl⟩ := hd
  intro E p l e R s m args below meth c H locs cells slots Z ls C h1 h2 h3 h4 hH hS hl kz
  have hi2 : i < M.2.2.1 := by
    rw [← hl.2.1]
    exact (List.getElem?_eq_some_iff.mp (Option.eq_some_of_isSome hi)).1
  refine lv_astore C.1 C.2.1 hd (lvL_has hl) hi2 rfl (fun ls2 hl2 => ?_)
  exact k E p l e R s m args below meth c H locs cells slots Z ls2 C h1 h2 h3 h4 hH hS (lvOK_1 (v := .ref x) hl hf hi2 hl2) kz
theorem Run.iinc {i : Nat} {n : Int} {x v : Int32} (hd : DI M pc (.iinc i n) 3 nx) (hx : L[i]? = some (some (.int x))) (hv : x + Int32.ofInt n = v) (hf : freeAt L i = true) (k : Run X d kc ks M nx (L.set i (some (.int v))) S h Q) : Run X d kc ks M pc L S h Q := by
  obtain ⟨hd, rfl⟩ := hd
  intro E p l e R s m args below meth c H locs cells slots Z ls C h1 h2 h3 h4 hH hS hl kz
  have hi2 : i < M.2.2.1 := by
    rw [← hl.2.1]
    exact (List.getElem?_eq_some_iff.mp hx).1
  obtain ⟨j, hj⟩ := List.getElem?_of_mem (lvL_mem (E := E) hx)
  refine lv_iinc C.1 C.2.1 hd (lvL_has hl) hj hv hi2 rfl (fun ls2 hl2 => ?_)
  exact k E p l e R s m args below meth c H locs cells slots Z ls2 C h1 h2 h3 h4 hH hS (lvOK_1 (v := .int v) hl hf hi2 hl2) kz
theorem Run.if_eq {x : Int32} {off : Int} (hd : DJ M pc (.ifCond .eq off) off 3 nx tgt) (kt : x = 0 → Run X d kc ks M tgt L S h Q) (kf : ¬ x = 0 → Run X d kc ks M nx L S h Q) : Run X d kc ks M pc L (.int x :: S) h Q := by
  obtain ⟨hd, rfl, ht⟩ := hd
  intro E p l e R s m args below meth c H locs cells slots Z ls C h1 h2 h3 h4 hH hS hl kz
  exact lv_if_eq C.1 C.2.1 hd ht (fun q => kt q E p l e R s m args below meth c H locs cells slots Z ls C h1 h2 h3 h4 hH hS hl kz) (fun q => kf q E p l e R s m args below meth c H locs cells slots Z ls C h1 h2 h3 h4 hH hS hl kz)
theorem Run.icmp_eq {x y : Int32} {off : Int} (hd : DJ M pc (.if_icmp .eq off) off 3 nx tgt) (kt : x = y → Run X d kc ks M tgt L S h Q) (kf : ¬ x = y → Run X d kc ks M nx L S h Q) : Run X d kc ks M pc L (.int y :: .int x :: S) h Q := by
  obtain ⟨hd, rfl, ht⟩ := hd
  intro E p l e R s m args below meth c H locs cells slots Z ls C h1 h2 h3 h4 hH hS hl kz
  exact lv_icmp_eq C.1 C.2.1 hd ht (fun q => kt q E p l e R s m args below meth c H locs cells slots Z ls C h1 h2 h3 h4 hH hS hl kz) (fun q => kf q E p l e R s m args below meth c H locs cells slots Z ls C h1 h2 h3 h4 hH hS hl kz)
theorem Run.if_ne {x : Int32} {off : Int} (hd : DJ M pc (.ifCond .ne off) off 3 nx tgt) (kt : ¬ x = 0 → Run X d kc ks M tgt L S h Q) (kf : x = 0 → Run X d kc ks M nx L S h Q) : Run X d kc ks M pc L (.int x :: S) h Q := by
  obtain ⟨hd, rfl, ht⟩ := hd
  intro E p l e R s m args below meth c H locs cells slots Z ls C h1 h2 h3 h4 hH hS hl kz
  exact lv_if_ne C.1 C.2.1 hd ht (fun q => kt q E p l e R s m args below meth c H locs cells slots Z ls C h1 h2 h3 h4 hH hS hl kz) (fun q => kf q E p l e R s m args below meth c H locs cells slots Z ls C h1 h2 h3 h4 hH hS hl kz)
theorem Run.icmp_ne {x y : Int32} {off : Int} (hd : DJ M pc (.if_icmp .ne off) off 3 nx tgt) (kt : ¬ x = y → Run X d kc ks M tgt L S h Q) (kf : x = y → Run X d kc ks M nx L S h Q) : Run X d kc ks M pc L (.int y :: .int x :: S) h Q := by
  obtain ⟨hd, rfl, ht⟩ := hd
  intro E p l e R s m args below meth c H locs cells slots Z ls C h1 h2 h3 h4 hH hS hl kz
  exact lv_icmp_ne C.1 C.2.1 hd ht (fun q => kt q E p l e R s m args below meth c H locs cells slots Z ls C h1 h2 h3 h4 hH hS hl kz) (fun q => kf q E p l e R s m args below meth c H locs cells slots Z ls C h1 h2 h3 h4 hH hS hl kz)
theorem Run.if_lt {x : Int32} {off : Int} (hd : DJ M pc (.ifCond .lt off) off 3 nx tgt) (kt : x < 0 → Run X d kc ks M tgt L S h Q) (kf : ¬ x < 0 → Run X d kc ks M nx L S h Q) : Run X d kc ks M pc L (.int x :: S) h Q := by
  obtain ⟨hd, rfl, ht⟩ := hd
  intro E p l e R s m args below meth c H locs cells slots Z ls C h1 h2 h3 h4 hH hS hl kz
  exact lv_if_lt C.1 C.2.1 hd ht (fun q => kt q E p l e R s m args below meth c H locs cells slots Z ls C h1 h2 h3 h4 hH hS hl kz) (fun q => kf q E p l e R s m args below meth c H locs cells slots Z ls C h1 h2 h3 h4 hH hS hl kz)
theorem Run.icmp_lt {x y : Int32} {off : Int} (hd : DJ M pc (.if_icmp .lt off) off 3 nx tgt) (kt : x < y → Run X d kc ks M tgt L S h Q) (kf : ¬ x < y → Run X d kc ks M nx L S h Q) : Run X d kc ks M pc L (.int y :: .int x :: S) h Q := by
  obtain ⟨hd, rfl, ht⟩ := hd
  intro E p l e R s m args below meth c H locs cells slots Z ls C h1 h2 h3 h4 hH hS hl kz
  exact lv_icmp_lt C.1 C.2.1 hd ht (fun q => kt q E p l e R s m args below meth c H locs cells slots Z ls C h1 h2 h3 h4 hH hS hl kz) (fun q => kf q E p l e R s m args below meth c H locs cells slots Z ls C h1 h2 h3 h4 hH hS hl kz)
theorem Run.if_ge {x : Int32} {off : Int} (hd : DJ M pc (.ifCond .ge off) off 3 nx tgt) (kt : 0 ≤ x → Run X d kc ks M tgt L S h Q) (kf : ¬ 0 ≤ x → Run X d kc ks M nx L S h Q) : Run X d kc ks M pc L (.int x :: S) h Q := by
  obtain ⟨hd, rfl, ht⟩ := hd
  intro E p l e R s m args below meth c H locs cells slots Z ls C h1 h2 h3 h4 hH hS hl kz
  exact lv_if_ge C.1 C.2.1 hd ht (fun q => kt q E p l e R s m args below meth c H locs cells slots Z ls C h1 h2 h3 h4 hH hS hl kz) (fun q => kf q E p l e R s m args below meth c H locs cells slots Z ls C h1 h2 h3 h4 hH hS hl kz)
theorem Run.icmp_ge {x y : Int32} {off : Int} (hd : DJ M pc (.if_icmp .ge off) off 3 nx tgt) (kt : y ≤ x → Run X d kc ks M tgt L S h Q) (kf : ¬ y ≤ x → Run X d kc ks M nx L S h Q) : Run X d kc ks M pc L (.int y :: .int x :: S) h Q := by
  obtain ⟨hd, rfl, ht⟩ := hd
  intro E p l e R s m args below meth c H locs cells slots Z ls C h1 h2 h3 h4 hH hS hl kz
  exact lv_icmp_ge C.1 C.2.1 hd ht (fun q => kt q E p l e R s m args below meth c H locs cells slots Z ls C h1 h2 h3 h4 hH hS hl kz) (fun q => kf q E p l e R s m args below meth c H locs cells slots Z ls C h1 h2 h3 h4 hH hS hl kz)
theorem Run.if_gt {x : Int32} {off : Int} (hd : DJ M pc (.ifCond .gt off) off 3 nx tgt) (kt : 0 < x → Run X d kc ks M tgt L S h Q) (kf : ¬ 0 < x → Run X d kc ks M nx L S h Q) : Run X d kc ks M pc L (.int x :: S) h Q := by
  obtain ⟨hd, rfl, ht⟩ := hd
  intro E p l e R s m args below meth c H locs cells slots Z ls C h1 h2 h3 h4 hH hS hl kz
  exact lv_if_gt C.1 C.2.1 hd ht (fun q => kt q E p l e R s m args below meth c H locs cells slots Z ls C h1 h2 h3 h4 hH hS hl kz) (fun q => kf q E p l e R s m args below meth c H locs cells slots Z ls C h1 h2 h3 h4 hH hS hl kz)
theorem Run.icmp_gt {x y : Int32} {off : Int} (hd : DJ M pc (.if_icmp .gt off) off 3 nx tgt) (kt : y < x → Run X d kc ks M tgt L S h Q) (kf : ¬ y < x → Run X d kc ks M nx L S h Q) : Run X d kc ks M pc L (.int y :: .int x :: S) h Q := by
  obtain ⟨hd, rfl, ht⟩ := hd
  intro E p l e R s m args below meth c H locs cells slots Z ls C h1 h2 h3 h4 hH hS hl kz
  exact lv_icmp_gt C.1 C.2.1 hd ht (fun q => kt q E p l e R s m args below meth c H locs cells slots Z ls C h1 h2 h3 h4 hH hS hl kz) (fun q => kf q E p l e R s m args below meth c H locs cells slots Z ls C h1 h2 h3 h4 hH hS hl kz)
theorem Run.if_le {x : Int32} {off : Int} (hd : DJ M pc (.ifCond .le off) off 3 nx tgt) (kt : x ≤ 0 → Run X d kc ks M tgt L S h Q) (kf : ¬ x ≤ 0 → Run X d kc ks M nx L S h Q) : Run X d kc ks M pc L (.int x :: S) h Q := by
  obtain ⟨hd, rfl, ht⟩ := hd
  intro E p l e R s m args below meth c H locs cells slots Z ls C h1 h2 h3 h4 hH hS hl kz
  exact lv_if_le C.1 C.2.1 hd ht (fun q => kt q E p l e R s m args below meth c H locs cells slots Z ls C h1 h2 h3 h4 hH hS hl kz) (fun q => kf q E p l e R s m args below meth c H locs cells slots Z ls C h1 h2 h3 h4 hH hS hl kz)
theorem Run.icmp_le {x y : Int32} {off : Int} (hd : DJ M pc (.if_icmp .le off) off 3 nx tgt) (kt : x ≤ y → Run X d kc ks M tgt L S h Q) (kf : ¬ x ≤ y → Run X d kc ks M nx L S h Q) : Run X d kc ks M pc L (.int y :: .int x :: S) h Q := by
  obtain ⟨hd, rfl, ht⟩ := hd
  intro E p l e R s m args below meth c H locs cells slots Z ls C h1 h2 h3 h4 hH hS hl kz
  exact lv_icmp_le C.1 C.2.1 hd ht (fun q => kt q E p l e R s m args below meth c H locs cells slots Z ls C h1 h2 h3 h4 hH hS hl kz) (fun q => kf q E p l e R s m args below meth c H locs cells slots Z ls C h1 h2 h3 h4 hH hS hl kz)
theorem Run.goto {off : Int} (hd : DJ M pc (.goto off) off 3 nx tgt) (k : Run X d kc ks M tgt L S h Q) : Run X d kc ks M pc L S h Q := by
  obtain ⟨hd, rfl, ht⟩ := hd
  intro E p l e R s m args below meth c H locs cells slots Z ls C h1 h2 h3 h4 hH hS hl kz
  exact lv_goto C.1 C.2.1 hd ht (k E p l e R s m args below meth c H locs cells slots Z ls C h1 h2 h3 h4 hH hS hl kz)
theorem Run.tswIn {dflt lo hi : Int} {offs : Array Int} {x : Int32} {off : Int} {len : Nat} (hd : decode M.2.1 pc = .ok (.tableswitch dflt lo hi offs, len)) (a1 : ¬ x.toInt < lo) (a2 : ¬ hi < x.toInt) (ho : offs[(x.toInt - lo).toNat]? = some off) (ht : (pc : Int) + off = (tgt : Int)) (k : Run X d kc ks M tgt L S h Q) : Run X d kc ks M pc L (.int x :: S) h Q := by
  intro E p l e R s m args below meth c H locs cells slots Z ls C h1 h2 h3 h4 hH hS hl kz
  exact lv_tableIn C.1 C.2.1 hd a1 a2 ho ht (k E p l e R s m args below meth c H locs cells slots Z ls C h1 h2 h3 h4 hH hS hl kz)
theorem Run.tswOut {dflt lo hi : Int} {offs : Array Int} {x : Int32} {len : Nat} (hd : decode M.2.1 pc = .ok (.tableswitch dflt lo hi offs, len)) (a1 : x.toInt < lo ∨ hi < x.toInt) (ht : (pc : Int) + dflt = (tgt : Int)) (k : Run X d kc ks M tgt L S h Q) : Run X d kc ks M pc L (.int x :: S) h Q := by
  intro E p l e R s m args below meth c H locs cells slots Z ls C h1 h2 h3 h4 hH hS hl kz
  exact lv_tableOut C.1 C.2.1 hd a1 ht (k E p l e R s m args below meth c H locs cells slots Z ls C h1 h2 h3 h4 hH hS hl kz)
theorem Run.lsw {dflt : Int} {ps : Array (Int × Int)} {x : Int32} {off : Int} {len : Nat} (hd : decode M.2.1 pc = .ok (.lookupswitch dflt ps, len)) (hp : (ps.toList.zip (ps.toList.drop 1)).all (fun (a, next) => a.1 < next.1) = true) (ho : Op.lookupswitch.offset ps.toList dflt x.toInt = off) (ht : (pc : Int) + off = (tgt : Int)) (k : Run X d kc ks M tgt L S h Q) : Run X d kc ks M pc L (.int x :: S) h Q := by
  intro E p l e R s m args below meth c H locs cells slots Z ls C h1 h2 h3 h4 hH hS hl kz
  exact lv_lookup C.1 C.2.1 hd hp ho ht (k E p l e R s m args below meth c H locs cells slots Z ls C h1 h2 h3 h4 hH hS hl kz)
theorem Run.iret {x : Int32} {ty : FieldType} (hd : DI M pc .ireturn 1 nx) (hr : M.2.2.2 = some ty) (hn : narrow ty (.int x) = .int x) (hq : Q (some (.int x)) h) : Run X d kc ks M pc L [.int x] h Q := by
  intro E p l e R s m args below meth c H locs cells slots Z ls C h1 h2 h3 h4 hH hS hl kz
  exact kz _ h H locs cells slots _ hq ⟨pc, ls, Or.inr (Or.inl ⟨x, ty, rfl, rfl, hd.1, hr, hn⟩)⟩ hH hS (Nat.le_add_right _ _) (Nat.le_add_right _ _)
theorem Run.lret {x : Int64} (hd : DI M pc .lreturn 1 nx) (hr : M.2.2.2 = some .long) (hq : Q (some (.long x)) h) : Run X d kc ks M pc L [.long x] h Q := by
  intro E p l e R s m args below meth c H locs cells slots Z ls C h1 h2 h3 h4 hH hS hl kz
  exact kz _ h H locs cells slots _ hq ⟨pc, ls, Or.inr (Or.inr ⟨x, rfl, rfl, hd.1, hr⟩)⟩ hH hS (Nat.le_add_right _ _) (Nat.le_add_right _ _)
theorem Run.vret (hd : DI M pc .return_ 1 nx) (hr : M.2.2.2 = none) (hq : Q none h) : Run X d kc ks M pc L [] h Q := by
  intro E p l e R s m args below meth c H locs cells slots Z ls C h1 h2 h3 h4 hH hS hl kz
  exact kz _ h H locs cells slots _ hq ⟨pc, ls, Or.inl ⟨rfl, rfl, hd.1, hr⟩⟩ hH hS (Nat.le_add_right _ _) (Nat.le_add_right _ _)
theorem Run.weaken {Q2 : Option Value → AH → Prop} (hQ : ∀ r h2, Q2 r h2 → Q r h2) (k : Run X d kc ks M pc L S h Q2) : Run X d kc ks M pc L S h Q := by
  intro E p l e R s m args below meth c H locs cells slots Z ls C h1 h2 h3 h4 hH hS hl kz
  exact k E p l e R s m args below meth c H locs cells slots Z ls C h1 h2 h3 h4 hH hS hl (fun r h9 H9 l9 c9 s9 g q => kz r h9 H9 l9 c9 s9 g (hQ _ _ q))
end RUN
end
section
/-! ===== rows for Run: fields and arrays ===== -/
theorem kl_in {ci : Nat} {C : String} {T : u_T} {N : Nat} (h : KL[ci]? = some (C, T, N)) : (∀ w ∈ u_ws C T N, w ∈ TB) ∧ (∃ ty : Nat → FieldType, ∀ k, k < N → parseFieldDescriptor (T k).2.2.1 = some (ty k)) ∧ ∀ a, a < N → ∀ b, b < N → a ≠ b → (T a).2.1 ≠ (T b).2.1 := by
  match ci, h with
  | 0, h => cases h; exact ⟨Ci_Ac, ⟨_, Ck_Ac⟩, Cn_Ac⟩
  | 1, h => cases h; exact ⟨Ci_Co, ⟨_, Ck_Co⟩, Cn_Co⟩
  | 2, h => cases h; exact ⟨Ci_Gi, ⟨_, Ck_Gi⟩, Cn_Gi⟩
  | 3, h => cases h; exact ⟨Ci_Mo, ⟨_, Ck_Mo⟩, Cn_Mo⟩
  | 4, h => cases h; exact ⟨Ci_St, ⟨_, Ck_St⟩, Cn_St⟩
  | 5, h => cases h; exact ⟨Ci_Te, ⟨_, Ck_Te⟩, Cn_Te⟩
  | 6, h => cases h; exact ⟨Ci_Tu, ⟨_, Ck_Tu⟩, Cn_Tu⟩
  | 7, h => cases h; exact ⟨Ci_PM, ⟨_, Ck_PM⟩, Cn_PM⟩
  | 8, h => cases h; exact ⟨Ci_Rf, ⟨_, Ck_Rf⟩, Cn_Rf⟩
  | k + 9, h => simp [KL] at h
/-- a field's link of a class: the object's class, the place of the field, its type, whether it is final -/
def FL (own : String) (idx ci slot : Nat) (ty : FieldType) (fin : Bool) : Prop := ∃ (C : String) (T : u_T) (N : Nat), KL[ci]? = some (C, T, N) ∧ slot < N ∧ (T slot).1 = C ∧ Cond.fieldLink own idx C (T slot).2.1 (T slot).2.2.1 ∈ TB ∧ parseFieldDescriptor (T slot).2.2.1 = some ty ∧ (T slot).2.2.2 = fin
section RUNH
variable {X : Nat × (Nat → Int32)} {d kc ks : Nat} {M : MR} {pc nx tgt : Nat} {L : List (Option Value)} {S : List Value} {h : AH} {Q : Option Value → AH → Prop}
theorem Cx.ts {E : EV} {p : Program} {s : State} {m : MethodId} {args : Array Value} {meth : Method} {c : Code} (C : Cx X E M p s m args meth c) : ∀ w ∈ TB, w.before args s = true := C.2.2.2.2.2.1
theorem Cx.own {E : EV} {p : Program} {s : State} {m : MethodId} {args : Array Value} {meth : Method} {c : Code} (C : Cx X E M p s m args meth c) : s.vm.findClass M.1.cls = some m.cls := C.2.2.2.2.1
theorem Cx.K {E : EV} {p : Program} {s : State} {m : MethodId} {args : Array Value} {meth : Method} {c : Code} (C : Cx X E M p s m args meth c) : va_K E.2.2.1 KL (e_tys E) s := C.2.2.2.2.2.2.2.2.1
theorem Cx.hA {E : EV} {p : Program} {s : State} {m : MethodId} {args : Array Value} {meth : Method} {c : Code} (C : Cx X E M p s m args meth c) : ∀ q, s.heap.size ≤ q → e_A E q := fun q h => Nat.le_trans C.2.2.2.2.2.2.2.2.2.2.2.2.2 h
theorem hpOK.set {E : EV} {s : State} {cells : Nat} {H1 : Heap} {k : Nat} {c : AC} (hs : s.heap.size + cells = E.2.1 + h.length) (hP : va_P E.2.2.1 KL ((e_h E h).set k (E.2.1 + k, e_c E c)) H1) : hpOK E s cells (h.set k c) H1 := ⟨by rw [List.length_set]; exact hs, by rw [e_h_set]; exact hP⟩
theorem Run.getf {idx ci slot k : Nat} {ty : FieldType} {fin : Bool} {fs : List Value} {v : Value} (hd : DI M pc (.getfield idx) 3 nx) (fl : FL M.1.cls idx ci slot ty fin) (hk : h[k]? = some (.inr (ci, fs))) (hv : fs[slot]? = some v) (kk : Run X d kc ks M nx L (v :: S) h Q) : Run X d kc ks M pc L (.ref (k + 1) :: S) h Q := by
  obtain ⟨hd, rfl⟩ := hd
  obtain ⟨C0, T, N, hc, hs, hC, hlk, -, -⟩ := fl
  intro E p l e R s m args below meth c H locs cells slots Z ls C h1 h2 h3 h4 hH hS hl kz
  exact va_get (D := E.2.2.1) (cl := KL) C.1 C.2.1 C.ts (kl_in hc).1 C.own C.K hH.2 k (e_h_at hk) hc slot hs (C.ts _ hlk) (by rw [hC]; exact fun _ q => q) (by rw [List.getElem?_map, hv]; rfl) hd (kk E p l e R s m args below meth c H locs cells slots Z ls C h1 h2 h3 h4 hH hS hl kz)
theorem Run.putf {idx ci slot k : Nat} {ty : FieldType} {fs : List Value} {v : Value} (hd : DI M pc (.putfield idx) 3 nx) (fl : FL M.1.cls idx ci slot ty false) (hn : ∀ E, narrow ty (e_v E v) = e_v E v) (hf : ∀ E, fits ty (e_v E v) = true) (hk : h[k]? = some (.inr (ci, fs))) (hsl : slot < fs.length) (kk : Run X d kc ks M nx L S (h.set k (.inr (ci, fs.set slot v))) Q) : Run X d kc ks M pc L (v :: .ref (k + 1) :: S) h Q := by
  obtain ⟨hd, rfl⟩ := hd
  obtain ⟨C0, T, N, hc, hs, hC, hlk, hty, hfin⟩ := fl
  obtain ⟨q1, ⟨tyf, q2⟩, q3⟩ := kl_in hc
  intro E p l e R s m args below meth c H locs cells slots Z ls C h1 h2 h3 h4 hH hS hl kz
  refine va_put (D := E.2.2.1) (cl := KL) C.1 C.2.1 C.ts q1 tyf q2 q3 C.own C.K hH.2 (e_D h) hS k (e_h_at hk) hc slot hs (C.ts _ hlk) (by rw [hC]; exact fun _ q => q) hfin hty (hn E) (hf E) (by simpa using hsl) hd (fun H1 locs1 hP1 _ hS1 => ?_)
  rw [← List.map_set] at hP1
  exact kk E p l e R s m args below meth c H1 locs1 cells slots Z ls C h1 h2 h3 h4 (hpOK.set hH.1 hP1) hS1 hl kz
theorem Run.putF {idx ci slot k : Nat} {ty : FieldType} {fs : List Value} {v : Value} (hd : DI M pc (.putfield idx) 3 nx) (fl : FL M.1.cls idx ci slot ty true) (hn : ∀ E, narrow ty (e_v E v) = e_v E v) (hf : ∀ E, fits ty (e_v E v) = true) (hi : M.1.name = "<init>") (hcl : (KL[ci]?).map (fun q => q.1) = some M.1.cls) (hk : h[k]? = some (.inr (ci, fs))) (hsl : slot < fs.length) (kk : Run X d kc ks M nx L S (h.set k (.inr (ci, fs.set slot v))) Q) : Run X d kc ks M pc L (v :: .ref (k + 1) :: S) h Q := by
  obtain ⟨hd, rfl⟩ := hd
  obtain ⟨C0, T, N, hc, hs, hC, hlk, hty, hfin⟩ := fl
  obtain ⟨q1, ⟨tyf, q2⟩, q3⟩ := kl_in hc
  rw [hc] at hcl
  have hcl2 : C0 = M.1.cls := Option.some.inj hcl
  intro E p l e R s m args below meth c H locs cells slots Z ls C h1 h2 h3 h4 hH hS hl kz
  refine va_putF (D := E.2.2.1) (cl := KL) C.1 C.2.1 C.ts q1 tyf q2 q3 C.own C.K hH.2 (e_D h) hS k (e_h_at hk) hc slot hs (C.ts _ hlk) (by rw [hC]; exact fun _ q => q) hfin (C.2.2.2.2.2.2.2.1.trans hi) (hC.trans hcl2) hty (hn E) (hf E) (by simpa using hsl) hd (fun H1 locs1 hP1 _ hS1 => ?_)
  rw [← List.map_set] at hP1
  exact kk E p l e R s m args below meth c H1 locs1 cells slots Z ls C h1 h2 h3 h4 (hpOK.set hH.1 hP1) hS1 hl kz
theorem Run.iald {k n : Nat} {f : Nat → Int32} {i : Int32} (hd : DI M pc .iaload 1 nx) (hk : h[k]? = some (.inl (.int, n, .inl f))) (hi : vp_in i n) (kk : Run X d kc ks M nx L (.int (f i.toNatClampNeg) :: S) h Q) : Run X d kc ks M pc L (.int i :: .ref (k + 1) :: S) h Q := by
  obtain ⟨hd, rfl⟩ := hd
  intro E p l e R s m args below meth c H locs cells slots Z ls C h1 h2 h3 h4 hH hS hl kz
  exact va_iald (D := E.2.2.1) (cl := KL) C.1 C.2.1 C.K hH.2 k 0 (e_h_at hk) rfl hi hd (kk E p l e R s m args below meth c H locs cells slots Z ls C h1 h2 h3 h4 hH hS hl kz)
theorem Run.zald {k n : Nat} {f : Nat → Int32} {i : Int32} (hd : DI M pc .baload 1 nx) (hk : h[k]? = some (.inl (.boolean, n, .inl f))) (hi : vp_in i n) (kk : Run X d kc ks M nx L (.int (f i.toNatClampNeg) :: S) h Q) : Run X d kc ks M pc L (.int i :: .ref (k + 1) :: S) h Q := by
  obtain ⟨hd, rfl⟩ := hd
  intro E p l e R s m args below meth c H locs cells slots Z ls C h1 h2 h3 h4 hH hS hl kz
  exact va_zald (D := E.2.2.1) (cl := KL) C.1 C.2.1 C.K hH.2 k 1 (e_h_at hk) rfl hi hd (kk E p l e R s m args below meth c H locs cells slots Z ls C h1 h2 h3 h4 hH hS hl kz)
theorem Run.aald {k n r : Nat} {f : Nat → Option Nat} {i : Int32} (hd : DI M pc .aaload 1 nx) (hk : h[k]? = some (.inl (.object "PearlMother$State", n, .inr (.inr (.inr (.inr f)))))) (hi : vp_in i n) (hr : f i.toNatClampNeg = some r) (kk : Run X d kc ks M nx L (.ref r :: S) h Q) : Run X d kc ks M pc L (.int i :: .ref (k + 1) :: S) h Q := by
  obtain ⟨hd, rfl⟩ := hd
  intro E p l e R s m args below meth c H locs cells slots Z ls C h1 h2 h3 h4 hH hS hl kz
  refine va_aldq (D := E.2.2.1) (cl := KL) (C := "PearlMother$State") C.1 C.2.1 C.K hH.2 k 2 (e_h_at hk) rfl hi hd ?_
  have := kk E p l e R s m args below meth c H locs cells slots Z ls C h1 h2 h3 h4 hH hS hl kz
  rw [hr]
  exact this
theorem Run.iast {k n : Nat} {f : Nat → Int32} {i x : Int32} (hd : DI M pc .iastore 1 nx) (hk : h[k]? = some (.inl (.int, n, .inl f))) (hi : vp_in i n) (kk : Run X d kc ks M nx L S (h.set k (.inl (.int, n, .inl (upd f i.toNatClampNeg x)))) Q) : Run X d kc ks M pc L (.int x :: .int i :: .ref (k + 1) :: S) h Q := by
  obtain ⟨hd, rfl⟩ := hd
  intro E p l e R s m args below meth c H locs cells slots Z ls C h1 h2 h3 h4 hH hS hl kz
  exact va_iast (D := E.2.2.1) (cl := KL) C.1 C.2.1 C.K hH.2 (e_D h) hS k 0 (e_h_at hk) rfl hi hd (fun H1 locs1 hP1 _ hS1 => kk E p l e R s m args below meth c H1 locs1 cells slots Z ls C h1 h2 h3 h4 (hpOK.set (c := .inl (.int, n, .inl (upd f i.toNatClampNeg x))) hH.1 hP1) hS1 hl kz)
theorem Run.zast {k n : Nat} {f : Nat → Int32} {i x : Int32} (hd : DI M pc .bastore 1 nx) (hk : h[k]? = some (.inl (.boolean, n, .inl f))) (hi : vp_in i n) (hx : vp_nar .boolean x = x) (kk : Run X d kc ks M nx L S (h.set k (.inl (.boolean, n, .inl (upd f i.toNatClampNeg x)))) Q) : Run X d kc ks M pc L (.int x :: .int i :: .ref (k + 1) :: S) h Q := by
  obtain ⟨hd, rfl⟩ := hd
  intro E p l e R s m args below meth c H locs cells slots Z ls C h1 h2 h3 h4 hH hS hl kz
  refine va_zast (D := E.2.2.1) (cl := KL) C.1 C.2.1 C.K hH.2 (e_D h) hS k 1 (e_h_at hk) rfl hi hd (fun H1 locs1 hP1 _ hS1 => ?_)
  rw [hx] at hP1
  exact kk E p l e R s m args below meth c H1 locs1 cells slots Z ls C h1 h2 h3 h4 (hpOK.set (c := .inl (.boolean, n, .inl (upd f i.toNatClampNeg x))) hH.1 hP1) hS1 hl kz
theorem Run.aast {k n r ci : Nat} {fs : List Value} {f : Nat → Option Nat} {i : Int32} (hd : DI M pc .aastore 1 nx) (hk : h[k]? = some (.inl (.object "PearlMother$State", n, .inr (.inr (.inr (.inr f)))))) (hr : h[r]? = some (.inr (4, fs))) (hi : vp_in i n) (kk : Run X d kc ks M nx L S (h.set k (.inl (.object "PearlMother$State", n, .inr (.inr (.inr (.inr (va_up f i.toNatClampNeg (some (r + 1)))))))) ) Q) : Run X d kc ks M pc L (.ref (r + 1) :: .int i :: .ref (k + 1) :: S) h Q := by
  obtain ⟨hd, rfl⟩ := hd
  intro E p l e R s m args below meth c H locs cells slots Z ls C h1 h2 h3 h4 hH hS hl kz
  refine va_astq (D := E.2.2.1) (cl := KL) C.1 C.2.1 C.K hH.2 (e_D h) hS k 2 r 4 (e_h_at hk) (r := (CN_St, CT_St, 5)) rfl (e_h_at hr) rfl hi hd (fun H1 locs1 hP1 _ hS1 => ?_)
  refine kk E p l e R s m args below meth c H1 locs1 cells slots Z ls C h1 h2 h3 h4 (hpOK.set hH.1 ?_) hS1 hl kz
  have e1 : (fun j => (va_up f i.toNatClampNeg (some (r + 1)) j).map (e_ad E)) = va_up (fun j => (f j).map (e_ad E)) i.toNatClampNeg (some (E.2.1 + r)) := by
    funext j
    simp only [va_up]
    split
    · rfl
    · rfl
  show va_P E.2.2.1 KL ((e_h E h).set k (E.2.1 + k, .inl (E.2.2.2 (.object "PearlMother$State"), n, .inr (.inr (.inr (.inr (fun j => (va_up f i.toNatClampNeg (some (r + 1)) j).map (e_ad E)))))))) H1
  rw [e1]
  exact hP1
theorem Run.alen {k n : Nat} {f : Nat → Int32} {v : Int32} (hd : DI M pc .arraylength 1 nx) (hk : h[k]? = some (.inl (.int, n, .inl f))) (hv : Int32.ofNat n = v) (kk : Run X d kc ks M nx L (.int v :: S) h Q) : Run X d kc ks M pc L (.ref (k + 1) :: S) h Q := by
  obtain ⟨hd, rfl⟩ := hd
  intro E p l e R s m args below meth c H locs cells slots Z ls C h1 h2 h3 h4 hH hS hl kz
  exact va_alen (D := E.2.2.1) (cl := KL) C.1 C.2.1 C.K hH.2 k 0 (e_h_at hk) (ty := .int) rfl hv hd (kk E p l e R s m args below meth c H locs cells slots Z ls C h1 h2 h3 h4 hH hS hl kz)
theorem Run.sld {i : Int32} (hd : DI M pc .iaload 1 nx) (hi : vp_in i X.1) (kk : Run X d kc ks M nx L (.int (X.2 i.toNatClampNeg) :: S) h Q) : Run X d kc ks M pc L (.int i :: .ref 0 :: S) h Q := by
  obtain ⟨hd, rfl⟩ := hd
  intro E p l e R s m args below meth c H locs cells slots Z ls C h1 h2 h3 h4 hH hS hl kz
  have hb : E.1 < E.2.1 := C.2.2.2.2.2.2.2.2.2.2.2.2.1
  exact va_sld C.1 C.2.1 C.2.2.2.2.2.2.2.2.2.2.2.1 (Nat.lt_of_lt_of_le hb C.2.2.2.2.2.2.2.2.2.2.2.2.2) (A := e_A E) (Nat.not_le.mpr hb) hS hi hd (kk E p l e R s m args below meth c H locs cells slots Z ls C h1 h2 h3 h4 hH hS hl kz)
theorem Run.slen (hd : DI M pc .arraylength 1 nx) (kk : Run X d kc ks M nx L (.int (nI X.1) :: S) h Q) : Run X d kc ks M pc L (.ref 0 :: S) h Q := by
  obtain ⟨hd, rfl⟩ := hd
  intro E p l e R s m args below meth c H locs cells slots Z ls C h1 h2 h3 h4 hH hS hl kz
  have hb : E.1 < E.2.1 := C.2.2.2.2.2.2.2.2.2.2.2.2.1
  exact va_slen C.1 C.2.1 C.2.2.2.2.2.2.2.2.2.2.2.1 (Nat.lt_of_lt_of_le hb C.2.2.2.2.2.2.2.2.2.2.2.2.2) (A := e_A E) (Nat.not_le.mpr hb) hS hd (kk E p l e R s m args below meth c H locs cells slots Z ls C h1 h2 h3 h4 hH hS hl kz)
end RUNH
end
section
/-! ===== rows for Run: what is made, calls ===== -/
def enA (vs : List Value) : List (Option Value) := vs.flatMap (fun v => if v.category = 2 then [some v, none] else [some v])
def enL (n : Nat) (vs : List Value) : List (Option Value) := enA vs ++ List.replicate (n - (enA vs).length) none
def Call (X : Nat × (Nat → Int32)) (d kc ks : Nat) (M : MR) (As : List Value) (h : AH) (Q : Option Value → AH → Prop) : Prop := Run X d kc ks M 0 (enL M.2.2.1 As) [] h Q
theorem enA_args (E : EV) : ∀ (vs : List Value) (off i : Nat) (v : Value), (enA vs)[i]? = some (some v) → (off + i, e_v E v) ∈ lv_args off (vs.map (e_v E))
  | [], off, i, v, h => by simp [enA] at h
  | w :: vs, off, i, v, h => by
    have ih := enA_args E vs
    by_cases hw : w.category = 2
    · have h' : (some w :: none :: enA vs)[i]? = some (some v) := by simpa [enA, hw] using h
      have e1 : lv_args off ((w :: vs).map (e_v E)) = (off, e_v E w) :: lv_args (off + 2) (vs.map (e_v E)) := by simp [lv_args, e_cat, hw]
      rw [e1]
      match i, h' with
      | 0, h' => cases h'; exact List.mem_cons_self
      | 1, h' => simp at h'
      | i + 2, h' =>
        have := ih (off + 2) i v (by simpa using h')
        rw [show off + 2 + i = off + (i + 2) by omega] at this
        exact List.mem_cons_of_mem _ this
    · have h' : (some w :: enA vs)[i]? = some (some v) := by simpa [enA, hw] using h
      have e1 : lv_args off ((w :: vs).map (e_v E)) = (off, e_v E w) :: lv_args (off + 1) (vs.map (e_v E)) := by simp [lv_args, e_cat, hw]
      rw [e1]
      match i, h' with
      | 0, h' => cases h'; exact List.mem_cons_self
      | i + 1, h' =>
        have := ih (off + 1) i v (by simpa using h')
        rw [show off + 1 + i = off + (i + 1) by omega] at this
        exact List.mem_cons_of_mem _ this
theorem enA_len (E : EV) (vs : List Value) : (lg_sl (vs.map (e_v E))).length = (enA vs).length := by
  induction vs with
  | nil => rfl
  | cons w vs ih =>
    by_cases hw : w.category = 2
    · simp [lg_sl, enA, e_cat, hw] at ih ⊢
      exact ih
    · simp [lg_sl, enA, e_cat, hw] at ih ⊢
      exact ih
theorem lvOK_entry {E : EV} {n : Nat} {As : List Value} {ls : Array Slot} (hn : (enA As).length ≤ n) (hl : lv_has ls n (lv_args 0 (As.map (e_v E)))) : lvOK E n ls (enL n As) := by
  refine ⟨hl.1, by simp [enL]; omega, hl.2.1, fun i v hi => ?_⟩
  by_cases hlt : i < (enA As).length
  · rw [enL, List.getElem?_append_left hlt] at hi
    have := enA_args E As 0 i v hi
    rw [Nat.zero_add] at this
    exact hl.2.2 _ this
  · rw [enL, List.getElem?_append_right (by omega), List.getElem?_replicate] at hi
    split at hi
    · cases hi
    · cases hi
theorem fresh_eq {E : EV} {h : AH} {q : Nat} {e : va_E} (hD : va_D (e_A E) (e_h E h ++ [(q, e)])) (hq : q ≤ E.2.1 + h.length) : q = E.2.1 + h.length := by
  have hlen : (e_h E h).length = h.length := by simp [e_h]
  have h1 : (e_h E h ++ [(q, e)])[h.length]? = some (q, e) := by
    rw [List.getElem?_append_right (by omega), hlen, Nat.sub_self]; rfl
  have hB : E.2.1 ≤ q := hD.2 _ _ h1
  rcases Nat.lt_or_ge q (E.2.1 + h.length) with hlt | hge
  · exfalso
    have hj : q - E.2.1 < h.length := by omega
    have h2 : (e_h E h ++ [(q, e)])[q - E.2.1]? = some (E.2.1 + (q - E.2.1), e_c E h[q - E.2.1]) := by
      rw [List.getElem?_append_left (by omega)]
      exact e_h_at (List.getElem?_eq_getElem hj)
    have := hD.1 _ _ _ _ h1 h2 (by show q = _; omega)
    omega
  · omega
/-- a class that is made: its link, its number, its first fields -/
def NL (own : String) (idx ci : Nat) (fs : List Value) : Prop := ∃ (C : String) (T : u_T) (N : Nat) (ty : Nat → FieldType), KL[ci]? = some (C, T, N) ∧ Cond.classLink own idx C ∈ TB ∧ Cond.instantiable C N ∈ TB ∧ Cond.initialized C ∈ TB ∧ (∀ k, k < N → parseFieldDescriptor (T k).2.2.1 = some (ty k)) ∧ (∀ j, j < N → defaultValue (ty j) = vp_V fs j) ∧ fs.length = N ∧ ∀ E, fs.map (e_v E) = fs
def CM (M : MR) (n : Nat) : Prop := Cond.code M.1 M.2.1 M.2.2.1 M.2.2.2 ∈ TB ∧ Cond.initialized M.1.cls ∈ TB ∧ (M.1.cls ≠ "java/lang/invoke/MethodHandle" ∧ M.1.cls ≠ "java/lang/invoke/VarHandle" ∧ (parseMethodDescriptor M.1.desc).map (fun d => d.parameters.length) = some n) ∧ M.2.2.1 ≤ 40 ∧ plainName M.1.cls = true
def LK (own : String) (idx : Nat) (M : MR) : Prop := Cond.methodLink own idx M.1 ∈ TB ∨ ∃ host, Cond.methodLinkNest own idx M.1 host ∈ NW
def WS (M : MR) : List Cond := Cond.code M.1 M.2.1 M.2.2.1 M.2.2.2 :: TB
def RM (d mc ms : Nat) : Room := { frames := d, cells := mc, slots := ms, locals := 60 * d }
def PcR (X : Nat × (Nat → Int32)) (E : EV) (As : List Value) (h : AH) : Array Value → State → Prop := fun a U => a = (As.map (e_v E)).toArray ∧ U.heap.size = E.2.1 + h.length ∧ va_P E.2.2.1 KL (e_h E h) U.heap ∧ va_K E.2.2.1 KL (e_tys E) U ∧ (∀ w ∈ NW, va_Nw w U) ∧ va_AO "PearlMother$State" U ∧ va_X E.1 X.1 X.2 U U.heap ∧ E.1 < E.2.1
def QcR (E : EV) (h : AH) (mc : Nat) (Q1 : Option Value → AH → Prop) : Array Value → State → Outcome → State → Prop := fun _ st o t => (∃ (r : Option Value) (h1 : AH), o = .returned (r.map (e_v E)) ∧ Q1 r h1 ∧ va_P E.2.2.1 KL (e_h E h1) t.heap ∧ h.length ≤ h1.length ∧ h1.length ≤ h.length + mc) ∧ va_F (e_A E) st t
theorem nw_tab {w : Cond} (h : w ∈ NW) : w.onTables = true := by
  have h1 : NW.all (fun w => w.onTables) = true := by decide +kernel
  exact List.all_eq_true.mp h1 w h
theorem nw_nest {w : Cond} (h : w ∈ NW) : ∃ a i x b, w = .methodLinkNest a i x b := by
  have h1 : NW.all (fun w => match w with | .methodLinkNest _ _ _ _ => true | _ => false) = true := by decide +kernel
  have h2 := List.all_eq_true.mp h1 w h
  revert h2
  split
  · intro _; exact ⟨_, _, _, _, rfl⟩
  · intro q; cases q
theorem tb_good (M : MR) (h : Cond.code M.1 M.2.1 M.2.2.1 M.2.2.2 ∈ TB) : GoodIn TB (WS M) := by
  intro w hw
  have hm : w ∈ TB := by
    rcases List.mem_cons.mp hw with e | e
    · rw [e]; exact h
    · exact e
  exact ⟨hm, good_of_word (List.mem_filter.mp hm).2⟩
section RUNC
variable {X : Nat × (Nat → Int32)} {d kc ks mc ms : Nat} {M M' : MR} {pc nx n : Nat} {L : List (Option Value)} {S As : List Value} {h : AH} {Q Q1 : Option Value → AH → Prop}
theorem PcR.blind {E : EV} : FrameBlind (PcR X E As h) := by
  intro a U g mk q
  obtain ⟨q1, q2, q3, q4, q5, q6, q7, q8⟩ := q
  exact ⟨q1, q2, q3, va_K.moved (u := U) (U := U.calling g mk a) (Vm.Alike.refl U.vm) q4, fun w hw => va_Nw.same (u := U) (U := U.calling g mk a) (nw_tab hw) rfl (q5 w hw), va_AO.moved (u := U) (U := U.calling g mk a) (Vm.Alike.refl U.vm) q6, va_X.moved (u := U) (U := U.calling g mk a) (Vm.Alike.refl U.vm) q7, q8⟩
theorem PcR.at {E : EV} {p : Program} {s : State} {m : MethodId} {args : Array Value} {meth : Method} {c : Code} {H : Heap} {locs : List Loc} (C : Cx X E M p s m args meth c) (hz : H.size = E.2.1 + h.length) (hP : va_P E.2.2.1 KL (e_h E h) H) (hS : va_S (e_A E) s.heap H locs) : ∀ U : State, U.heap = H → s.WarmedH U.vm → PcR X E As h (As.map (e_v E)).toArray U := by
  obtain ⟨-, -, -, -, -, -, -, -, c9, c10, c11, c12, c13, c14⟩ := C
  intro U hU hW
  have hk : H[E.1]? = s.heap[E.1]? := hS.2.1 _ (Nat.lt_of_lt_of_le c13 c14) (Nat.not_le.mpr c13)
  refine ⟨rfl, by rw [hU]; exact hz, by rw [hU]; exact hP, va_K.moved hW.alike c9, fun w hw => ?_, va_AO.moved hW.alike c11, ?_, c13⟩
  · obtain ⟨a, i, x, b, rfl⟩ := nw_nest hw
    exact va_Nw.warmM hW (c10 _ hw)
  · rw [hU]
    exact va_X.moved hW.alike (va_X.kept c12 hk)
theorem met_of (cm : CM M' n) (hln : (enA As).length ≤ M'.2.2.1) (body : Call X d mc ms M' As h Q1) (E : EV) (l : Launch) : Met l M'.1 (WS M') (RM d mc ms) (PcR X E As h) (QcR E h mc Q1) mc ms (e_A E) := by
  refine Met.ofW (cc := M'.2.1) (maxL := M'.2.2.1) (ret := M'.2.2.2) cm.2.2.2.2 rfl ?_
  intro p e s m args below meth c s₁ B hml hv
  obtain ⟨rfl, hsz, hP, hK, hN, hAO, hX, hb⟩ := hv
  have hts := atoms_spec (ws := WS M') B.pre
  have hlk : meth.locks = false := B.notSynchronized
  have C : Cx X E M' p s m (As.map (e_v E)).toArray meth c := ⟨B.exec, B.bytes, B.returns, hml, findClass_of_methodNamed B.named, fun w hw => hts w (List.mem_cons_of_mem _ hw), hlk, (name_of_methodNamed B.named B.method).1, hK, hN, hAO, hX, hb, by omega⟩
  have hl := lv_entry (As.map (e_v E)) (n := M'.2.2.1) (by rw [enA_len]; exact hln)
  rw [lg_entry_eq]
  refine body E p l e (RM d mc ms) s m _ below meth c s.heap [] 0 0 _ _ C (Nat.le_refl _) (Nat.le_refl _) (by show 0 + mc ≤ mc; omega) (by show 0 + ms ≤ ms; omega) ⟨by omega, hP⟩ va_S.rf (lvOK_entry hln hl) (fun r h' H' locs' cells' slots' g hq hr hH hS hc hs => ?_)
  refine W.widen (k := mc) (n := ms) (by omega) (by omega) ?_
  have hQ : ∀ t : State, t.heap = H' → QcR E h mc Q1 (As.map (e_v E)).toArray s (.returned (r.map (e_v E))) t := fun t ht => by
    have e1 := hH.1
    exact ⟨⟨r, h', rfl, hq, by rw [ht]; exact hH.2, by omega, by omega⟩, hS.F ht⟩
  obtain ⟨pc, ls, hr⟩ := hr
  rcases hr with ⟨rfl, rfl, hd, hrt⟩ | ⟨x, ty, rfl, rfl, hd, hrt, hn⟩ | ⟨x, rfl, rfl, hd, hrt⟩
  · exact W.vret B.exec B.bytes (B.returns.trans hrt) (fun t ht _ => hQ t ht) hS.2.2 hd hlk
  · exact W.zret B.exec B.bytes (B.returns.trans hrt) hn (fun t ht _ => hQ t ht) hS.2.2 hd hlk
  · exact W.lret B.exec B.bytes (B.returns.trans hrt) (fun t ht _ => hQ t ht) hS.2.2 hd hlk
theorem run_go {E : EV} {p : Program} {l : Launch} {e : Env} {R : Room} {s : State} {m : MethodId} {args : Array Value} {below : List Frame} {meth : Method} {c : Code} {H : Heap} {locs : List Loc} {cells slots : Nat} {Z : State → Prop} {ls : Array Slot} {st0 rest : List Value} {a : Array Value} (hr : va_Run p l e R s m args below meth c H locs cells slots mc ms (F0 m pc ls st0) rest (QcR E h mc Q1 a) (e_A E)) (hS : va_S (e_A E) s.heap H locs)
    (kk : ∀ (r : Option Value) (h1 : AH) (H1 : Heap) (locs1 : List Loc), Q1 r h1 → va_P E.2.2.1 KL (e_h E h1) H1 → h.length ≤ h1.length → h1.length ≤ h.length + mc → va_S (e_A E) s.heap H1 locs1 → W p l e R s m args below meth c H1 locs1 (cells + mc) (slots + ms) Z (F0 m (pc + 3) ls ((r.map (e_v E)).toList ++ rest))) : W p l e R s m args below meth c H locs cells slots Z (F0 m pc ls st0) := by
  intro T hT Y
  obtain ⟨v, st₀, t, T', L2, h0, Y', hL, e1, e2, ⟨⟨r, h1, hv, hp, hb, hl1, hl2⟩, hz, hk⟩, st⟩ := hr T hT Y
  cases hv
  rw [h0] at hz hk
  obtain ⟨t2, a1, b1⟩ := kk r h1 T'.heap (locs ++ L2) hp (by rw [e1]; exact hb) hl1 hl2 ⟨Nat.le_trans hS.1 (by rw [e1]; exact hz), fun q g1 g2 => by rw [e1, hk q (Nat.lt_of_lt_of_le g1 hS.1) g2]; exact hS.2.1 q g1 g2, fun q hq => by
    rcases List.mem_append.mp hq with g | g
    · exact hS.2.2 q g
    · exact hL q g⟩ T' rfl Y'
  exact ⟨t2, st t2 a1, b1⟩
/-- the heap's size, from the frame's own count -/
theorem W.sized {E : EV} {p : Program} {l : Launch} {e : Env} {R : Room} {s : State} {m : MethodId} {args : Array Value} {below : List Frame} {meth : Method} {c : Code} {H : Heap} {locs : List Loc} {cells slots : Nat} {Z : State → Prop} {g : JFrame} (hH : hpOK E s cells h H) (hS : va_S (e_A E) s.heap H locs) (hB : E.2.1 ≤ s.heap.size) (kk : H.size = E.2.1 + h.length → W p l e R s m args below meth c H locs cells slots Z g) : W p l e R s m args below meth c H locs cells slots Z g := by
  intro T hT Y
  have h1 : T.heap.size ≤ s.heap.size + cells := Y.same.2.2.1
  rw [hT] at h1
  have h2 := hH.1
  have h3 := hS.1
  have h4 : E.2.1 + h.length ≤ H.size := by
    rcases Nat.eq_zero_or_pos h.length with hz | hz
    · omega
    · have hj : h.length - 1 < h.length := by omega
      have := (hH.2 _ _ (e_h_at (E := E) (List.getElem?_eq_getElem hj))).lt
      have h5 : E.2.1 + (h.length - 1) < H.size := this
      omega
  exact kk (by omega) T hT Y
theorem word_ok {own : String} {idx : Nat} {E : EV} {p : Program} {R : Room} {s : State} {m : MethodId} {args : Array Value} {meth : Method} {c : Code} (C : Cx X E M p s m args meth c) (hd : d + 1 ≤ R.frames) (hd2 : 60 * (d + 1) ≤ R.locals) (cm : CM M' n) (hlk : Cond.methodLink own idx M'.1 ∈ TB) : CallB R s args own idx M'.1 M'.2.1 M'.2.2.1 M'.2.2.2 (WS M') (RM d mc ms) mc ms n :=
  callB_of n C.ts (tb_good M' cm.1) rfl rfl rfl (C.ts _ cm.2.1) (C.ts _ hlk) cm.2.2.1 ⟨hd, by have := cm.2.2.2.1; show 8 + (M'.2.2.1 + 11) + 60 * d ≤ R.locals; omega⟩
theorem word_okN {own host : String} {idx : Nat} {E : EV} {p : Program} {R : Room} {s : State} {m : MethodId} {args : Array Value} {meth : Method} {c : Code} (C : Cx X E M p s m args meth c) (hd : d + 1 ≤ R.frames) (hd2 : 60 * (d + 1) ≤ R.locals) (cm : CM M' n) (hlk : Cond.methodLinkNest own idx M'.1 host ∈ NW) : va_CN R s args own idx M'.1 host M'.2.1 M'.2.2.1 M'.2.2.2 (WS M') (RM d mc ms) mc ms n :=
  va_cnB n C.ts (tb_good M' cm.1) rfl rfl rfl (C.2.2.2.2.2.2.2.2.2.1 _ hlk) (C.ts _ cm.2.1) cm.2.2.1 ⟨hd, by have := cm.2.2.2.1; show 8 + (M'.2.2.1 + 11) + 60 * d ≤ R.locals; omega⟩
theorem e_sum (E : EV) (S : List Value) : ((S.map (e_v E)).map fun v => v.category).sum = (S.map fun v => v.category).sum := by
  simp [List.map_map, Function.comp_def, e_cat]
/-- a call of a static method -/
theorem Run.callS {idx : Nat} (hd : DI M pc (.invokestatic idx) 3 nx) (lk : LK M.1.cls idx M') (cm : CM M' n) (st : Cond.static M'.1 ∈ TB) (hn : As.length = n) (hln : (enA As).length ≤ M'.2.2.1) (hw : (S.map fun v => v.category).sum ≤ 8) (body : Call X d 0 0 M' As h Q1) (kk : ∀ r h1, Q1 r h1 → Run X (d + 1) kc ks M nx L (r.toList ++ S) h1 Q) : Run X (d + 1) kc ks M pc L (As.reverse ++ S) h Q := by
  obtain ⟨hd, rfl⟩ := hd
  intro E p l e R s m args below meth c H locs cells slots Z ls C h1 h2 h3 h4 hH hS hl kz
  refine W.sized hH hS C.2.2.2.2.2.2.2.2.2.2.2.2.2 (fun hz => ?_)
  have hM := met_of cm hln body E l
  have hpre : PreS s H (PcR X E As h) (As.map (e_v E)) := ⟨PcR.blind, PcR.at C hz hH.2 hS⟩
  have hst : (F0 m pc ls ((As.reverse ++ S).map (e_v E))).stack = (As.map (e_v E)).reverse ++ S.map (e_v E) := by simp
  have hrun : va_Run p l e R s m args below meth c H locs cells slots 0 0 (F0 m pc ls ((As.reverse ++ S).map (e_v E))) (S.map (e_v E)) (QcR E h 0 Q1 (As.map (e_v E)).toArray) (e_A E) := by
    rcases lk with lk | ⟨host, lk⟩
    · exact va_runS (As := As.map (e_v E)) (rest := S.map (e_v E)) (own := M.1.cls) (Ts := TB) ⟨C.1, C.2.1, C.2.2.2.1, C.own, C.ts⟩ hM ⟨word_ok C h1 h2 cm lk, C.ts _ st⟩ hpre rfl (by simpa using hn) hl.1 hst (lv_room (by rw [e_sum]; exact hw)) hd ⟨by omega, by omega⟩
    · exact va_runSN (As := As.map (e_v E)) (rest := S.map (e_v E)) (own := M.1.cls) (Ts := TB) ⟨C.1, C.2.1, C.2.2.2.1, C.own, C.ts⟩ hM ⟨word_okN C h1 h2 cm lk, C.ts _ st, trivial⟩ hpre rfl (by simpa using hn) hl.1 hst (lv_room (by rw [e_sum]; exact hw)) hd ⟨by omega, by omega⟩
  refine run_go hrun hS (fun r h1' H1 locs1 hq hP1 hl1 hl2 hS1 => ?_)
  have := kk r h1' hq E p l e R s m args below meth c H1 locs1 (cells + 0) (slots + 0) Z ls C h1 h2 h3 h4 ⟨by have := hH.1; omega, hP1⟩ hS1 hl kz
  rw [List.map_append] at this
  have e3 : (r.map (e_v E)).toList = r.toList.map (e_v E) := by cases r <;> rfl
  rw [e3]
  exact this
/-- a call of a method of an object -/
theorem Run.callV {idx ci k : Nat} {fs : List Value} (hd : DI M pc (.invokevirtual idx) 3 nx) (lk : LK M.1.cls idx M') (cm : CM M' n) (st : Cond.instanceMethod M'.1 ∈ TB ∧ Cond.selects M'.1.cls M'.1 M'.1 ∈ TB) (hcl : (KL[ci]?).map (fun q => q.1) = some M'.1.cls) (hk : h[k]? = some (.inr (ci, fs))) (hn : As.length = n) (hln : (enA (.ref (k + 1) :: As)).length ≤ M'.2.2.1) (hw : (S.map fun v => v.category).sum ≤ 8) (body : Call X d 0 0 M' (.ref (k + 1) :: As) h Q1) (kk : ∀ r h1, Q1 r h1 → Run X (d + 1) kc ks M nx L (r.toList ++ S) h1 Q) : Run X (d + 1) kc ks M pc L (As.reverse ++ .ref (k + 1) :: S) h Q := by
  obtain ⟨hd, rfl⟩ := hd
  intro E p l e R s m args below meth c H locs cells slots Z ls C h1 h2 h3 h4 hH hS hl kz
  refine W.sized hH hS C.2.2.2.2.2.2.2.2.2.2.2.2.2 (fun hz => ?_)
  have hM := met_of cm hln body E l
  obtain ⟨q, hq0, hq1⟩ := Option.map_eq_some_iff.mp hcl
  have hrec := va_recv C.K hH.2 hq0 (e_h_at (E := E) hk)
  rw [hq1] at hrec
  have hpre : PreV s H M'.1.cls (E.2.1 + k) (PcR X E (.ref (k + 1) :: As) h) (As.map (e_v E)) := ⟨PcR.blind, hrec, PcR.at C hz hH.2 hS⟩
  have hst : (F0 m pc ls ((As.reverse ++ .ref (k + 1) :: S).map (e_v E))).stack = (As.map (e_v E)).reverse ++ .ref (E.2.1 + k) :: S.map (e_v E) := by
    show (As.reverse ++ .ref (k + 1) :: S).map (e_v E) = _
    rw [List.map_append, List.map_cons, List.map_reverse]
    rfl
  have hrun : va_Run p l e R s m args below meth c H locs cells slots 0 0 (F0 m pc ls ((As.reverse ++ .ref (k + 1) :: S).map (e_v E))) (S.map (e_v E)) (QcR E h 0 Q1 (Value.ref (E.2.1 + k) :: As.map (e_v E)).toArray) (e_A E) := by
    rcases lk with lk | ⟨host, lk⟩
    · exact va_runV (As := As.map (e_v E)) (rest := S.map (e_v E)) (own := M.1.cls) (Ts := TB) ⟨C.1, C.2.1, C.2.2.2.1, C.own, C.ts⟩ hM ⟨word_ok C h1 h2 cm lk, C.ts _ st.1, C.ts _ st.2⟩ hpre rfl (by simpa using hn) hl.1 hst (lv_room (by rw [e_sum]; exact hw)) hd ⟨by omega, by omega⟩
    · exact va_runVN (As := As.map (e_v E)) (rest := S.map (e_v E)) (own := M.1.cls) (Ts := TB) ⟨C.1, C.2.1, C.2.2.2.1, C.own, C.ts⟩ hM ⟨word_okN C h1 h2 cm lk, C.ts _ st.1, C.ts _ st.2⟩ hpre rfl (by simpa using hn) hl.1 hst (lv_room (by rw [e_sum]; exact hw)) hd ⟨by omega, by omega⟩
  refine run_go hrun hS (fun r h1' H1 locs1 hq hP1 hl1 hl2 hS1 => ?_)
  have := kk r h1' hq E p l e R s m args below meth c H1 locs1 (cells + 0) (slots + 0) Z ls C h1 h2 h3 h4 ⟨by have := hH.1; omega, hP1⟩ hS1 hl kz
  rw [List.map_append] at this
  have e3 : (r.map (e_v E)).toList = r.toList.map (e_v E) := by cases r <;> rfl
  rw [e3]
  exact this
/-- a call of a constructor: it makes exactly mc cells -/
theorem Run.callI {idx k : Nat} (hd : DI M pc (.invokespecial idx) 3 nx) (lk : LK M.1.cls idx M') (cm : CM M' n) (st : Cond.instanceMethod M'.1 ∈ TB) (hret : M'.2.2.2 = none) (hname : M'.1.name = "<init>") (hn : As.length = n) (hln : (enA (.ref (k + 1) :: As)).length ≤ M'.2.2.1) (hw : (S.map fun v => v.category).sum ≤ 8) (body : Call X d mc ms M' (.ref (k + 1) :: As) h Q1) (hmc : ∀ r h1, Q1 r h1 → h1.length = h.length + mc) (kk : ∀ r h1, Q1 r h1 → Run X (d + 1) kc ks M nx L (r.toList ++ S) h1 Q) : Run X (d + 1) (mc + kc) (ms + ks) M pc L (As.reverse ++ .ref (k + 1) :: S) h Q := by
  obtain ⟨hd, rfl⟩ := hd
  intro E p l e R s m args below meth c H locs cells slots Z ls C h1 h2 h3 h4 hH hS hl kz
  refine W.sized hH hS C.2.2.2.2.2.2.2.2.2.2.2.2.2 (fun hz => ?_)
  have hM := met_of cm hln body E l
  have hpre : PreS s H (PcR X E (.ref (k + 1) :: As) h) (.ref (E.2.1 + k) :: As.map (e_v E)) := ⟨PcR.blind, PcR.at C hz hH.2 hS⟩
  have hst : (F0 m pc ls ((As.reverse ++ .ref (k + 1) :: S).map (e_v E))).stack = (As.map (e_v E)).reverse ++ .ref (E.2.1 + k) :: S.map (e_v E) := by
    show (As.reverse ++ .ref (k + 1) :: S).map (e_v E) = _
    rw [List.map_append, List.map_cons, List.map_reverse]
    rfl
  have hrun : va_Run p l e R s m args below meth c H locs cells slots mc ms (F0 m pc ls ((As.reverse ++ .ref (k + 1) :: S).map (e_v E))) (S.map (e_v E)) (QcR E h mc Q1 (Value.ref (E.2.1 + k) :: As.map (e_v E)).toArray) (e_A E) := by
    rcases lk with lk | ⟨host, lk⟩
    · have cw := word_ok (mc := mc) (ms := ms) C h1 h2 cm lk
      rw [hret] at cw
      exact va_runI (As := As.map (e_v E)) (rest := S.map (e_v E)) (own := M.1.cls) (Ts := TB) ⟨C.1, C.2.1, C.2.2.2.1, C.own, C.ts⟩ hM ⟨cw, hname, C.ts _ st⟩ hpre rfl (by simpa using hn) hl.1 hst (lv_room (by rw [e_sum]; exact hw)) hd ⟨by omega, by omega⟩
    · have cw := word_okN (mc := mc) (ms := ms) C h1 h2 cm lk
      rw [hret] at cw
      exact va_runIN (As := As.map (e_v E)) (rest := S.map (e_v E)) (own := M.1.cls) (Ts := TB) ⟨C.1, C.2.1, C.2.2.2.1, C.own, C.ts⟩ hM ⟨cw, hname, C.ts _ st⟩ hpre rfl (by simpa using hn) hl.1 hst (lv_room (by rw [e_sum]; exact hw)) hd ⟨by omega, by omega⟩
  refine run_go hrun hS (fun r h1' H1 locs1 hq hP1 hl1 hl2 hS1 => ?_)
  have hm := hmc r h1' hq
  have := kk r h1' hq E p l e R s m args below meth c H1 locs1 (cells + mc) (slots + ms) Z ls C h1 h2 (by omega) (by omega) ⟨by have := hH.1; omega, hP1⟩ hS1 hl (fun r2 h2 H2 l2 c2 s2 g2 a1 a2 a3 a4 a5 a6 => kz r2 h2 H2 l2 c2 s2 g2 a1 a2 a3 a4 (by omega) (by omega))
  rw [List.map_append] at this
  have e3 : (r.map (e_v E)).toList = r.toList.map (e_v E) := by cases r <;> rfl
  rw [e3]
  exact this
/-- Object's constructor -/
theorem Run.objI {idx k : Nat} (hd : DI M pc (.invokespecial idx) 3 nx) (hl1 : Cond.methodLink M.1.cls idx objectInit ∈ TB) (hw : (S.map fun v => v.category).sum ≤ 8) (kk : Run X (d + 1) kc ks M nx L S h Q) : Run X (d + 1) kc ks M pc L (.ref k :: S) h Q := by
  obtain ⟨hd, rfl⟩ := hd
  intro E p l e R s m args below meth c H locs cells slots Z ls C h1 h2 h3 h4 hH hS hl kz
  refine W.objInit C.1 C.2.1 C.own (C.ts _ hl1) (C.ts _ ob_1) (C.ts _ ob_2) rfl (by rw [C.2.2.2.1]; exact hl.1) rfl hd (by omega) ?_ ?_
  · show 2 * 0 + ((S.map (e_v E)).map fun v => v.category).sum + 12 ≤ R.locals
    rw [e_sum]
    omega
  · exact kk E p l e R s m args below meth c H locs cells slots Z ls C h1 h2 h3 h4 hH hS hl kz
theorem Run.newo {idx ci k : Nat} {fs : List Value} (hd : DI M pc (.new idx) 3 nx) (nl : NL M.1.cls idx ci fs) (hk : h.length = k) (kk : Run X d kc ks M nx L (.ref (k + 1) :: S) (h ++ [.inr (ci, fs)]) Q) : Run X d (kc + 1) (ks + fs.length) M pc L S h Q := by
  obtain ⟨hd, rfl⟩ := hd
  subst hk
  obtain ⟨C0, T, N, ty, hc, g1, g2, g3, g4, g5, rfl, g6⟩ := nl
  intro E p l e R s m args below meth c H locs cells slots Z ls C h1 h2 h3 h4 hH hS hl kz
  refine va_new (D := E.2.2.1) (cl := KL) C.1 C.2.1 C.ts (kl_in hc).1 ty g4 C.own (C.ts _ g1) (C.ts _ g2) (C.ts _ g3) C.K hH.2 (e_D h) hS C.hA hc g5 (by omega) (by omega) hd (fun q H1 hP1 hD1 hS1 => ?_)
  intro T2 hT2 Y
  have b1 : T2.heap.size ≤ s.heap.size + (cells + 1) := Y.same.2.2.1
  rw [hT2] at b1
  have b2 : q < H1.size := (hP1 _ _ (show (e_h E h ++ [(q, Sum.inr (ci, fs))])[(e_h E h).length]? = some (q, Sum.inr (ci, fs)) by rw [List.getElem?_append_right (Nat.le_refl _), Nat.sub_self]; rfl)).lt
  have b3 := hH.1
  obtain rfl := fresh_eq hD1 (by omega)
  refine kk E p l e R s m args below meth c H1 locs (cells + 1) (slots + fs.length) Z ls C h1 h2 (by omega) (by omega) ⟨by simp; omega, ?_⟩ hS1 hl (fun r2 h2 H2 l2 c2 s2 g2 a1 a2 a3 a4 a5 a6 => kz r2 h2 H2 l2 c2 s2 g2 a1 a2 a3 a4 (by omega) (by omega)) T2 hT2 Y
  rw [e_h_push]
  show va_P E.2.2.1 KL (e_h E h ++ [(E.2.1 + h.length, .inr (ci, fs.map (e_v E)))]) H1
  rw [g6 E]
  exact hP1
theorem arr_of {E : EV} {s : State} {cA : ClassId} {ty : FieldType} {j : Nat} (hK : va_K E.2.2.1 KL (e_tys E) s) (hj : (e_tys E)[j]? = some (E.2.2.2 ty, ty)) (hc : s.vm.findClass ("[" ++ ty.toString) = some cA) (hty : ∀ c0, va_RA s c0 ty → s.vm.findClass ("[" ++ ty.toString) = some c0) : cA = E.2.2.2 ty :=
  Option.some.inj (hc.symm.trans (hty _ (hK.2 j _ hj).2))
theorem Run.newa {k N : Nat} {v : Int32} (hd : DI M pc (.newarray .int) 2 nx) (hk : h.length = k) (hv : v = nI N) (hN : N ≤ 100000) (kk : Run X d kc ks M nx L (.ref (k + 1) :: S) (h ++ [.inl (.int, N, .inl (fun _ => 0))]) Q) : Run X d (kc + 1) (ks + N) M pc L (.int v :: S) h Q := by
  obtain ⟨hd, rfl⟩ := hd
  subst hk
  subst hv
  intro E p l e R s m args below meth c H locs cells slots Z ls C h1 h2 h3 h4 hH hS hl kz
  refine va_newa (atype := .int) (D := E.2.2.1) (cl := KL) (a0 := (N, .inl (fun _ => 0))) C.1 C.2.1 (C.ts _ ac_int) (ty := .int) rfl C.K hH.2 (e_D h) hS C.hA (fun cA => rfl) (nI_pos (by omega)) (nI_clamp (by omega)) (by show N * 4 ≤ _; omega) (by omega) (by omega) hd (fun q cA H1 hK1 hP1 hD1 hS1 => ?_)
  intro T2 hT2 Y
  have b1 : T2.heap.size ≤ s.heap.size + (cells + 1) := Y.same.2.2.1
  rw [hT2] at b1
  have b2 : q < H1.size := (hP1 _ _ (show (e_h E h ++ [(q, Sum.inl (cA, N, Sum.inl (fun _ => (0 : Int32))))])[(e_h E h).length]? = some (q, Sum.inl (cA, N, Sum.inl (fun _ => (0 : Int32)))) by rw [List.getElem?_append_right (Nat.le_refl _), Nat.sub_self]; rfl)).lt
  have b3 := hH.1
  obtain rfl := fresh_eq hD1 (by omega)
  have hcA : cA = E.2.2.2 .int := by
    have h5 := (hK1.2 (e_tys E).length (cA, .int) (by rw [List.getElem?_append_right (Nat.le_refl _), Nat.sub_self]; rfl)).2
    exact arr_of (ty := .int) (j := 0) C.K rfl h5 (fun c0 q => q)
  subst hcA
  refine kk E p l e R s m args below meth c H1 locs (cells + 1) (slots + N) Z ls C h1 h2 (by omega) (by omega) ⟨by simp; omega, ?_⟩ hS1 hl (fun r2 h2 H2 l2 c2 s2 g2 a1 a2 a3 a4 a5 a6 => kz r2 h2 H2 l2 c2 s2 g2 a1 a2 a3 a4 (by omega) (by omega)) T2 hT2 Y
  rw [e_h_push]
  exact hP1
theorem Run.newz {k N : Nat} {v : Int32} (hd : DI M pc (.newarray .boolean) 2 nx) (hk : h.length = k) (hv : v = nI N) (hN : N ≤ 100000) (kk : Run X d kc ks M nx L (.ref (k + 1) :: S) (h ++ [.inl (.boolean, N, .inl (fun _ => 0))]) Q) : Run X d (kc + 1) (ks + N) M pc L (.int v :: S) h Q := by
  obtain ⟨hd, rfl⟩ := hd
  subst hk
  subst hv
  intro E p l e R s m args below meth c H locs cells slots Z ls C h1 h2 h3 h4 hH hS hl kz
  refine va_newa (atype := .boolean) (D := E.2.2.1) (cl := KL) (a0 := (N, .inl (fun _ => 0))) C.1 C.2.1 (C.ts _ ac_bool) (ty := .boolean) rfl C.K hH.2 (e_D h) hS C.hA (fun cA => rfl) (nI_pos (by omega)) (nI_clamp (by omega)) (by show N * 1 ≤ _; omega) (by omega) (by omega) hd (fun q cA H1 hK1 hP1 hD1 hS1 => ?_)
  intro T2 hT2 Y
  have b1 : T2.heap.size ≤ s.heap.size + (cells + 1) := Y.same.2.2.1
  rw [hT2] at b1
  have b2 : q < H1.size := (hP1 _ _ (show (e_h E h ++ [(q, Sum.inl (cA, N, Sum.inl (fun _ => (0 : Int32))))])[(e_h E h).length]? = some (q, Sum.inl (cA, N, Sum.inl (fun _ => (0 : Int32)))) by rw [List.getElem?_append_right (Nat.le_refl _), Nat.sub_self]; rfl)).lt
  have b3 := hH.1
  obtain rfl := fresh_eq hD1 (by omega)
  have hcA : cA = E.2.2.2 .boolean := by
    have h5 := (hK1.2 (e_tys E).length (cA, .boolean) (by rw [List.getElem?_append_right (Nat.le_refl _), Nat.sub_self]; rfl)).2
    exact arr_of (ty := .boolean) (j := 1) C.K rfl h5 (fun c0 q => q)
  subst hcA
  refine kk E p l e R s m args below meth c H1 locs (cells + 1) (slots + N) Z ls C h1 h2 (by omega) (by omega) ⟨by simp; omega, ?_⟩ hS1 hl (fun r2 h2 H2 l2 c2 s2 g2 a1 a2 a3 a4 a5 a6 => kz r2 h2 H2 l2 c2 s2 g2 a1 a2 a3 a4 (by omega) (by omega)) T2 hT2 Y
  rw [e_h_push]
  exact hP1
theorem Run.newq {k N idx : Nat} {v : Int32} (hd : DI M pc (.anewarray idx) 3 nx) (hcl : Cond.classLink M.1.cls idx "PearlMother$State" ∈ TB) (hk : h.length = k) (hv : v = nI N) (hN : N ≤ 100000) (kk : Run X d kc ks M nx L (.ref (k + 1) :: S) (h ++ [.inl (.object "PearlMother$State", N, .inr (.inr (.inr (.inr (fun _ => none)))))]) Q) : Run X d (kc + 1) (ks + N) M pc L (.int v :: S) h Q := by
  obtain ⟨hd, rfl⟩ := hd
  subst hk
  subst hv
  intro E p l e R s m args below meth c H locs cells slots Z ls C h1 h2 h3 h4 hH hS hl kz
  refine va_newq (D := E.2.2.1) (cl := KL) C.1 C.2.1 C.own (C.ts _ hcl) C.2.2.2.2.2.2.2.2.2.2.1 C.K hH.2 (e_D h) hS C.hA (nI_pos (by omega)) (nI_clamp (by omega)) (by omega) (by omega) (by omega) hd (fun q cA H1 hK1 hP1 hD1 hS1 => ?_)
  intro T2 hT2 Y
  have b1 : T2.heap.size ≤ s.heap.size + (cells + 1) := Y.same.2.2.1
  rw [hT2] at b1
  have b2 : q < H1.size := (hP1 _ _ (show (e_h E h ++ [(q, Sum.inl (cA, N, Sum.inr (.inr (.inr (.inr (fun _ => none))))))])[(e_h E h).length]? = some (q, Sum.inl (cA, N, Sum.inr (.inr (.inr (.inr (fun _ => none)))))) by rw [List.getElem?_append_right (Nat.le_refl _), Nat.sub_self]; rfl)).lt
  have b3 := hH.1
  obtain rfl := fresh_eq hD1 (by omega)
  have hcA : cA = E.2.2.2 (.object "PearlMother$State") := by
    obtain ⟨k5, c5, -, -, -, h5⟩ := (hK1.2 (e_tys E).length (cA, .object "PearlMother$State") (by rw [List.getElem?_append_right (Nat.le_refl _), Nat.sub_self]; rfl)).2
    exact arr_of (ty := .object "PearlMother$State") (j := 2) C.K rfl h5 (fun c0 ⟨_, _, _, _, _, q⟩ => q)
  subst hcA
  refine kk E p l e R s m args below meth c H1 locs (cells + 1) (slots + N) Z ls C h1 h2 (by omega) (by omega) ⟨by simp; omega, ?_⟩ hS1 hl (fun r2 h2 H2 l2 c2 s2 g2 a1 a2 a3 a4 a5 a6 => kz r2 h2 H2 l2 c2 s2 g2 a1 a2 a3 a4 (by omega) (by omega)) T2 hT2 Y
  rw [e_h_push]
  exact hP1
/-- System.arraycopy over ints -/
theorem Run.copyi {idx k0 k1 n0 n1 sp dp cn : Nat} {f g : Nat → Int32} (hd : DI M pc (.invokestatic idx) 3 nx) (hlk : Cond.methodLink M.1.cls idx arraycopyName ∈ TB) (hk0 : h[k0]? = some (.inl (.int, n0, .inl f))) (hk1 : h[k1]? = some (.inl (.int, n1, .inl g))) (hsp : sp + cn ≤ n0) (hdp : dp + cn ≤ n1) (hsm : n0 < 100000 ∧ n1 < 100000) (hw : (S.map fun v => v.category).sum ≤ 8) (kk : Run X (d + 1) kc ks M nx L S (h.set k1 (.inl (.int, n1, .inl (va_cpy f g sp dp cn)))) Q) : Run X (d + 1) kc ks M pc L (.int (nI cn) :: .int (nI dp) :: .ref (k1 + 1) :: .int (nI sp) :: .ref (k0 + 1) :: S) h Q := by
  obtain ⟨hd, rfl⟩ := hd
  intro E p l e R s m args below meth c H locs cells slots Z ls C h1 h2 h3 h4 hH hS hl kz
  refine va_copyi (D := E.2.2.1) (cl := KL) C.1 C.2.1 (by rw [C.2.2.2.1]; exact hl.1.symm) C.own (C.ts _ hlk) (C.ts _ cp_1) (C.ts _ cp_2) (C.ts _ cp_3) C.K hH.2 (e_D h) hS k0 k1 0 0 (ty := .int) (e_h_at hk0) (e_h_at hk1) rfl rfl rfl (nI_pos (by omega)) (nI_pos (by omega)) (nI_pos (by omega)) (by rw [nI_clamp (by omega), nI_clamp (by omega)]; exact hsp) (by rw [nI_clamp (by omega), nI_clamp (by omega)]; exact hdp) (fun i _ => rfl) (by omega) ?_ hd (fun H1 locs1 hP1 _ hS1 => ?_)
  · rw [e_sum]
    have e5 : nativeFrameWords "java/lang/System" "arraycopy" 5 + 11 ≤ 52 := by decide +kernel
    omega
  · rw [nI_clamp (by omega), nI_clamp (by omega), nI_clamp (by omega)] at hP1
    exact kk E p l e R s m args below meth c H1 locs1 cells slots Z ls C h1 h2 h3 h4 (hpOK.set (c := .inl (.int, n1, .inl (va_cpy f g sp dp cn))) hH.1 hP1) hS1 hl kz
end RUNC
end
section
/-! ===== links of fields, classes and methods, by the places of their words ===== -/
theorem fl_Te_9 : FL "PearlMother$Text" 9 5 0 (.array .int) true := ⟨_, _, _, rfl, by decide, rfl, tb_mem 66 (by decide +kernel) (by decide +kernel), Ck_Te 0 (by decide), rfl⟩
theorem fl_Te_15 : FL "PearlMother$Text" 15 5 1 (.int) false := ⟨_, _, _, rfl, by decide, rfl, tb_mem 67 (by decide +kernel) (by decide +kernel), Ck_Te 1 (by decide), rfl⟩
theorem fl_PM_79 : FL "PearlMother" 79 5 1 (.int) false := ⟨_, _, _, rfl, by decide, rfl, tb_mem 68 (by decide +kernel) (by decide +kernel), Ck_Te 1 (by decide), rfl⟩
theorem fl_Co_9 : FL "PearlMother$Coast" 9 1 0 (.array .int) true := ⟨_, _, _, rfl, by decide, rfl, tb_mem 81 (by decide +kernel) (by decide +kernel), Ck_Co 0 (by decide), rfl⟩
theorem fl_PM_122 : FL "PearlMother" 122 1 0 (.array .int) true := ⟨_, _, _, rfl, by decide, rfl, tb_mem 82 (by decide +kernel) (by decide +kernel), Ck_Co 0 (by decide), rfl⟩
theorem fl_Co_15 : FL "PearlMother$Coast" 15 1 1 (.array .int) true := ⟨_, _, _, rfl, by decide, rfl, tb_mem 83 (by decide +kernel) (by decide +kernel), Ck_Co 1 (by decide), rfl⟩
theorem fl_Gi_38 : FL "PearlMother$Givings" 38 1 1 (.array .int) true := ⟨_, _, _, rfl, by decide, rfl, tb_mem 84 (by decide +kernel) (by decide +kernel), Ck_Co 1 (by decide), rfl⟩
theorem fl_Mo_43 : FL "PearlMother$Mothers" 43 1 1 (.array .int) true := ⟨_, _, _, rfl, by decide, rfl, tb_mem 85 (by decide +kernel) (by decide +kernel), Ck_Co 1 (by decide), rfl⟩
theorem fl_PM_136 : FL "PearlMother" 136 1 1 (.array .int) true := ⟨_, _, _, rfl, by decide, rfl, tb_mem 86 (by decide +kernel) (by decide +kernel), Ck_Co 1 (by decide), rfl⟩
theorem fl_Co_18 : FL "PearlMother$Coast" 18 1 2 (.array .int) true := ⟨_, _, _, rfl, by decide, rfl, tb_mem 87 (by decide +kernel) (by decide +kernel), Ck_Co 2 (by decide), rfl⟩
theorem fl_Mo_46 : FL "PearlMother$Mothers" 46 1 2 (.array .int) true := ⟨_, _, _, rfl, by decide, rfl, tb_mem 88 (by decide +kernel) (by decide +kernel), Ck_Co 2 (by decide), rfl⟩
theorem fl_PM_139 : FL "PearlMother" 139 1 2 (.array .int) true := ⟨_, _, _, rfl, by decide, rfl, tb_mem 89 (by decide +kernel) (by decide +kernel), Ck_Co 2 (by decide), rfl⟩
theorem fl_Co_21 : FL "PearlMother$Coast" 21 1 3 (.array .int) true := ⟨_, _, _, rfl, by decide, rfl, tb_mem 90 (by decide +kernel) (by decide +kernel), Ck_Co 3 (by decide), rfl⟩
theorem fl_PM_142 : FL "PearlMother" 142 1 3 (.array .int) true := ⟨_, _, _, rfl, by decide, rfl, tb_mem 91 (by decide +kernel) (by decide +kernel), Ck_Co 3 (by decide), rfl⟩
theorem fl_Co_24 : FL "PearlMother$Coast" 24 1 4 (.array .int) true := ⟨_, _, _, rfl, by decide, rfl, tb_mem 92 (by decide +kernel) (by decide +kernel), Ck_Co 4 (by decide), rfl⟩
theorem fl_St_18 : FL "PearlMother$State" 18 1 4 (.array .int) true := ⟨_, _, _, rfl, by decide, rfl, tb_mem 93 (by decide +kernel) (by decide +kernel), Ck_Co 4 (by decide), rfl⟩
theorem fl_St_21 : FL "PearlMother$State" 21 1 5 (.int) false := ⟨_, _, _, rfl, by decide, rfl, tb_mem 94 (by decide +kernel) (by decide +kernel), Ck_Co 5 (by decide), rfl⟩
theorem fl_Co_49 : FL "PearlMother$Coast" 49 1 5 (.int) false := ⟨_, _, _, rfl, by decide, rfl, tb_mem 95 (by decide +kernel) (by decide +kernel), Ck_Co 5 (by decide), rfl⟩
theorem fl_Co_27 : FL "PearlMother$Coast" 27 1 6 (.int) false := ⟨_, _, _, rfl, by decide, rfl, tb_mem 96 (by decide +kernel) (by decide +kernel), Ck_Co 6 (by decide), rfl⟩
theorem fl_Gi_21 : FL "PearlMother$Givings" 21 1 6 (.int) false := ⟨_, _, _, rfl, by decide, rfl, tb_mem 97 (by decide +kernel) (by decide +kernel), Ck_Co 6 (by decide), rfl⟩
theorem fl_PM_98 : FL "PearlMother" 98 1 6 (.int) false := ⟨_, _, _, rfl, by decide, rfl, tb_mem 98 (by decide +kernel) (by decide +kernel), Ck_Co 6 (by decide), rfl⟩
theorem fl_Gi_28 : FL "PearlMother$Givings" 28 1 7 (.int) false := ⟨_, _, _, rfl, by decide, rfl, tb_mem 99 (by decide +kernel) (by decide +kernel), Ck_Co 7 (by decide), rfl⟩
theorem fl_Mo_19 : FL "PearlMother$Mothers" 19 1 7 (.int) false := ⟨_, _, _, rfl, by decide, rfl, tb_mem 100 (by decide +kernel) (by decide +kernel), Ck_Co 7 (by decide), rfl⟩
theorem fl_Co_35 : FL "PearlMother$Coast" 35 1 7 (.int) false := ⟨_, _, _, rfl, by decide, rfl, tb_mem 101 (by decide +kernel) (by decide +kernel), Ck_Co 7 (by decide), rfl⟩
theorem fl_PM_101 : FL "PearlMother" 101 1 7 (.int) false := ⟨_, _, _, rfl, by decide, rfl, tb_mem 102 (by decide +kernel) (by decide +kernel), Ck_Co 7 (by decide), rfl⟩
theorem fl_St_9 : FL "PearlMother$State" 9 4 0 (.array .int) true := ⟨_, _, _, rfl, by decide, rfl, tb_mem 126 (by decide +kernel) (by decide +kernel), Ck_St 0 (by decide), rfl⟩
theorem fl_PM_145 : FL "PearlMother" 145 4 0 (.array .int) true := ⟨_, _, _, rfl, by decide, rfl, tb_mem 127 (by decide +kernel) (by decide +kernel), Ck_St 0 (by decide), rfl⟩
theorem fl_St_15 : FL "PearlMother$State" 15 4 1 (.array .int) true := ⟨_, _, _, rfl, by decide, rfl, tb_mem 128 (by decide +kernel) (by decide +kernel), Ck_St 1 (by decide), rfl⟩
theorem fl_PM_148 : FL "PearlMother" 148 4 1 (.array .int) true := ⟨_, _, _, rfl, by decide, rfl, tb_mem 129 (by decide +kernel) (by decide +kernel), Ck_St 1 (by decide), rfl⟩
theorem fl_St_25 : FL "PearlMother$State" 25 4 2 (.int) false := ⟨_, _, _, rfl, by decide, rfl, tb_mem 130 (by decide +kernel) (by decide +kernel), Ck_St 2 (by decide), rfl⟩
theorem fl_PM_104 : FL "PearlMother" 104 4 2 (.int) false := ⟨_, _, _, rfl, by decide, rfl, tb_mem 131 (by decide +kernel) (by decide +kernel), Ck_St 2 (by decide), rfl⟩
theorem fl_St_26 : FL "PearlMother$State" 26 4 3 (.int) false := ⟨_, _, _, rfl, by decide, rfl, tb_mem 132 (by decide +kernel) (by decide +kernel), Ck_St 3 (by decide), rfl⟩
theorem fl_PM_107 : FL "PearlMother" 107 4 3 (.int) false := ⟨_, _, _, rfl, by decide, rfl, tb_mem 133 (by decide +kernel) (by decide +kernel), Ck_St 3 (by decide), rfl⟩
theorem fl_PM_94 : FL "PearlMother" 94 4 4 (.boolean) false := ⟨_, _, _, rfl, by decide, rfl, tb_mem 134 (by decide +kernel) (by decide +kernel), Ck_St 4 (by decide), rfl⟩
theorem fl_Ac_9 : FL "PearlMother$Acts" 9 0 0 (.array .int) true := ⟨_, _, _, rfl, by decide, rfl, tb_mem 153 (by decide +kernel) (by decide +kernel), Ck_Ac 0 (by decide), rfl⟩
theorem fl_Ac_15 : FL "PearlMother$Acts" 15 0 1 (.int) false := ⟨_, _, _, rfl, by decide, rfl, tb_mem 154 (by decide +kernel) (by decide +kernel), Ck_Ac 1 (by decide), rfl⟩
theorem fl_PM_91 : FL "PearlMother" 91 0 1 (.int) false := ⟨_, _, _, rfl, by decide, rfl, tb_mem 155 (by decide +kernel) (by decide +kernel), Ck_Ac 1 (by decide), rfl⟩
theorem fl_Tu_9 : FL "PearlMother$Turned" 9 6 0 (.array .int) true := ⟨_, _, _, rfl, by decide, rfl, tb_mem 167 (by decide +kernel) (by decide +kernel), Ck_Tu 0 (by decide), rfl⟩
theorem fl_Tu_15 : FL "PearlMother$Turned" 15 6 1 (.array .int) true := ⟨_, _, _, rfl, by decide, rfl, tb_mem 168 (by decide +kernel) (by decide +kernel), Ck_Tu 1 (by decide), rfl⟩
theorem fl_Tu_21 : FL "PearlMother$Turned" 21 6 2 (.int) false := ⟨_, _, _, rfl, by decide, rfl, tb_mem 169 (by decide +kernel) (by decide +kernel), Ck_Tu 2 (by decide), rfl⟩
theorem fl_PM_118 : FL "PearlMother" 118 6 2 (.int) false := ⟨_, _, _, rfl, by decide, rfl, tb_mem 170 (by decide +kernel) (by decide +kernel), Ck_Tu 2 (by decide), rfl⟩
theorem fl_Tu_33 : FL "PearlMother$Turned" 33 6 3 (.int) false := ⟨_, _, _, rfl, by decide, rfl, tb_mem 171 (by decide +kernel) (by decide +kernel), Ck_Tu 3 (by decide), rfl⟩
theorem fl_PM_239 : FL "PearlMother" 239 6 3 (.int) false := ⟨_, _, _, rfl, by decide, rfl, tb_mem 172 (by decide +kernel) (by decide +kernel), Ck_Tu 3 (by decide), rfl⟩
theorem fl_Tu_36 : FL "PearlMother$Turned" 36 6 4 (.int) false := ⟨_, _, _, rfl, by decide, rfl, tb_mem 173 (by decide +kernel) (by decide +kernel), Ck_Tu 4 (by decide), rfl⟩
theorem fl_PM_242 : FL "PearlMother" 242 6 4 (.int) false := ⟨_, _, _, rfl, by decide, rfl, tb_mem 174 (by decide +kernel) (by decide +kernel), Ck_Tu 4 (by decide), rfl⟩
theorem fl_Tu_18 : FL "PearlMother$Turned" 18 6 5 (.array .int) true := ⟨_, _, _, rfl, by decide, rfl, tb_mem 175 (by decide +kernel) (by decide +kernel), Ck_Tu 5 (by decide), rfl⟩
theorem fl_Gi_9 : FL "PearlMother$Givings" 9 2 0 (.array .int) true := ⟨_, _, _, rfl, by decide, rfl, tb_mem 195 (by decide +kernel) (by decide +kernel), Ck_Gi 0 (by decide), rfl⟩
theorem fl_PM_298 : FL "PearlMother" 298 2 0 (.array .int) true := ⟨_, _, _, rfl, by decide, rfl, tb_mem 196 (by decide +kernel) (by decide +kernel), Ck_Gi 0 (by decide), rfl⟩
theorem fl_Gi_15 : FL "PearlMother$Givings" 15 2 1 (.array .int) true := ⟨_, _, _, rfl, by decide, rfl, tb_mem 197 (by decide +kernel) (by decide +kernel), Ck_Gi 1 (by decide), rfl⟩
theorem fl_PM_295 : FL "PearlMother" 295 2 1 (.array .int) true := ⟨_, _, _, rfl, by decide, rfl, tb_mem 198 (by decide +kernel) (by decide +kernel), Ck_Gi 1 (by decide), rfl⟩
theorem fl_Gi_18 : FL "PearlMother$Givings" 18 2 2 (.array .int) true := ⟨_, _, _, rfl, by decide, rfl, tb_mem 199 (by decide +kernel) (by decide +kernel), Ck_Gi 2 (by decide), rfl⟩
theorem fl_PM_290 : FL "PearlMother" 290 2 2 (.array .int) true := ⟨_, _, _, rfl, by decide, rfl, tb_mem 200 (by decide +kernel) (by decide +kernel), Ck_Gi 2 (by decide), rfl⟩
theorem fl_Gi_27 : FL "PearlMother$Givings" 27 2 3 (.int) false := ⟨_, _, _, rfl, by decide, rfl, tb_mem 201 (by decide +kernel) (by decide +kernel), Ck_Gi 3 (by decide), rfl⟩
theorem fl_PM_294 : FL "PearlMother" 294 2 3 (.int) false := ⟨_, _, _, rfl, by decide, rfl, tb_mem 202 (by decide +kernel) (by decide +kernel), Ck_Gi 3 (by decide), rfl⟩
theorem fl_Gi_31 : FL "PearlMother$Givings" 31 2 4 (.int) false := ⟨_, _, _, rfl, by decide, rfl, tb_mem 203 (by decide +kernel) (by decide +kernel), Ck_Gi 4 (by decide), rfl⟩
theorem fl_PM_293 : FL "PearlMother" 293 2 4 (.int) false := ⟨_, _, _, rfl, by decide, rfl, tb_mem 204 (by decide +kernel) (by decide +kernel), Ck_Gi 4 (by decide), rfl⟩
theorem fl_Gi_32 : FL "PearlMother$Givings" 32 2 5 (.int) false := ⟨_, _, _, rfl, by decide, rfl, tb_mem 205 (by decide +kernel) (by decide +kernel), Ck_Gi 5 (by decide), rfl⟩
theorem fl_PM_215 : FL "PearlMother" 215 2 5 (.int) false := ⟨_, _, _, rfl, by decide, rfl, tb_mem 206 (by decide +kernel) (by decide +kernel), Ck_Gi 5 (by decide), rfl⟩
theorem fl_Gi_35 : FL "PearlMother$Givings" 35 2 6 (.int) false := ⟨_, _, _, rfl, by decide, rfl, tb_mem 207 (by decide +kernel) (by decide +kernel), Ck_Gi 6 (by decide), rfl⟩
theorem fl_PM_212 : FL "PearlMother" 212 2 6 (.int) false := ⟨_, _, _, rfl, by decide, rfl, tb_mem 208 (by decide +kernel) (by decide +kernel), Ck_Gi 6 (by decide), rfl⟩
theorem fl_Mo_9 : FL "PearlMother$Mothers" 9 3 0 (.array .boolean) true := ⟨_, _, _, rfl, by decide, rfl, tb_mem 230 (by decide +kernel) (by decide +kernel), Ck_Mo 0 (by decide), rfl⟩
theorem fl_Mo_15 : FL "PearlMother$Mothers" 15 3 1 (.array .int) true := ⟨_, _, _, rfl, by decide, rfl, tb_mem 231 (by decide +kernel) (by decide +kernel), Ck_Mo 1 (by decide), rfl⟩
theorem fl_PM_202 : FL "PearlMother" 202 3 1 (.array .int) true := ⟨_, _, _, rfl, by decide, rfl, tb_mem 232 (by decide +kernel) (by decide +kernel), Ck_Mo 1 (by decide), rfl⟩
theorem fl_PM_12 : FL "PearlMother" 12 7 0 (.object "PearlMother$Text") true := ⟨_, _, _, rfl, by decide, rfl, tb_mem 239 (by decide +kernel) (by decide +kernel), Ck_PM 0 (by decide), rfl⟩
theorem fl_PM_19 : FL "PearlMother" 19 7 1 (.object "PearlMother$Coast") false := ⟨_, _, _, rfl, by decide, rfl, tb_mem 240 (by decide +kernel) (by decide +kernel), Ck_PM 1 (by decide), rfl⟩
theorem fl_PM_23 : FL "PearlMother" 23 7 2 (.object "PearlMother$Coast") false := ⟨_, _, _, rfl, by decide, rfl, tb_mem 241 (by decide +kernel) (by decide +kernel), Ck_PM 2 (by decide), rfl⟩
theorem fl_PM_29 : FL "PearlMother" 29 7 3 (.object "PearlMother$State") true := ⟨_, _, _, rfl, by decide, rfl, tb_mem 242 (by decide +kernel) (by decide +kernel), Ck_PM 3 (by decide), rfl⟩
theorem fl_PM_33 : FL "PearlMother" 33 7 4 (.object "PearlMother$State") true := ⟨_, _, _, rfl, by decide, rfl, tb_mem 243 (by decide +kernel) (by decide +kernel), Ck_PM 4 (by decide), rfl⟩
theorem fl_PM_36 : FL "PearlMother" 36 7 5 (.array (.object "PearlMother$State")) true := ⟨_, _, _, rfl, by decide, rfl, tb_mem 244 (by decide +kernel) (by decide +kernel), Ck_PM 5 (by decide), rfl⟩
theorem fl_PM_43 : FL "PearlMother" 43 7 6 (.object "PearlMother$Acts") true := ⟨_, _, _, rfl, by decide, rfl, tb_mem 245 (by decide +kernel) (by decide +kernel), Ck_PM 6 (by decide), rfl⟩
theorem fl_PM_50 : FL "PearlMother" 50 7 7 (.object "PearlMother$Turned") true := ⟨_, _, _, rfl, by decide, rfl, tb_mem 246 (by decide +kernel) (by decide +kernel), Ck_PM 7 (by decide), rfl⟩
theorem fl_PM_57 : FL "PearlMother" 57 7 8 (.object "PearlMother$Givings") true := ⟨_, _, _, rfl, by decide, rfl, tb_mem 247 (by decide +kernel) (by decide +kernel), Ck_PM 8 (by decide), rfl⟩
theorem fl_PM_64 : FL "PearlMother" 64 7 9 (.object "PearlMother$Mothers") true := ⟨_, _, _, rfl, by decide, rfl, tb_mem 248 (by decide +kernel) (by decide +kernel), Ck_PM 9 (by decide), rfl⟩
theorem fl_PM_68 : FL "PearlMother" 68 7 10 (.array .int) true := ⟨_, _, _, rfl, by decide, rfl, tb_mem 249 (by decide +kernel) (by decide +kernel), Ck_PM 10 (by decide), rfl⟩
theorem fl_PM_72 : FL "PearlMother" 72 7 11 (.array .int) true := ⟨_, _, _, rfl, by decide, rfl, tb_mem 250 (by decide +kernel) (by decide +kernel), Ck_PM 11 (by decide), rfl⟩
theorem fl_PM_255 : FL "PearlMother" 255 7 12 (.long) false := ⟨_, _, _, rfl, by decide, rfl, tb_mem 251 (by decide +kernel) (by decide +kernel), Ck_PM 12 (by decide), rfl⟩
theorem fl_Rf_59 : FL "PearlMotherModel" 59 8 0 (.int) false := ⟨_, _, _, rfl, by decide, rfl, tb_mem 644 (by decide +kernel) (by decide +kernel), Ck_Rf 0 (by decide), rfl⟩
theorem fl_Rf_7 : FL "PearlMotherModel" 7 8 1 (.array .int) true := ⟨_, _, _, rfl, by decide, rfl, tb_mem 645 (by decide +kernel) (by decide +kernel), Ck_Rf 1 (by decide), rfl⟩
theorem fl_Rf_75 : FL "PearlMotherModel" 75 8 2 (.int) false := ⟨_, _, _, rfl, by decide, rfl, tb_mem 646 (by decide +kernel) (by decide +kernel), Ck_Rf 2 (by decide), rfl⟩
theorem fl_Rf_78 : FL "PearlMotherModel" 78 8 3 (.int) false := ⟨_, _, _, rfl, by decide, rfl, tb_mem 647 (by decide +kernel) (by decide +kernel), Ck_Rf 3 (by decide), rfl⟩
theorem fl_Rf_63 : FL "PearlMotherModel" 63 8 4 (.int) false := ⟨_, _, _, rfl, by decide, rfl, tb_mem 648 (by decide +kernel) (by decide +kernel), Ck_Rf 4 (by decide), rfl⟩
theorem fl_Rf_13 : FL "PearlMotherModel" 13 8 5 (.array .int) true := ⟨_, _, _, rfl, by decide, rfl, tb_mem 649 (by decide +kernel) (by decide +kernel), Ck_Rf 5 (by decide), rfl⟩
theorem fl_Rf_70 : FL "PearlMotherModel" 70 8 6 (.int) false := ⟨_, _, _, rfl, by decide, rfl, tb_mem 650 (by decide +kernel) (by decide +kernel), Ck_Rf 6 (by decide), rfl⟩
theorem fl_Rf_16 : FL "PearlMotherModel" 16 8 7 (.array .int) true := ⟨_, _, _, rfl, by decide, rfl, tb_mem 651 (by decide +kernel) (by decide +kernel), Ck_Rf 7 (by decide), rfl⟩
theorem fl_Rf_98 : FL "PearlMotherModel" 98 8 8 (.int) false := ⟨_, _, _, rfl, by decide, rfl, tb_mem 652 (by decide +kernel) (by decide +kernel), Ck_Rf 8 (by decide), rfl⟩
theorem fl_Rf_85 : FL "PearlMotherModel" 85 8 9 (.int) false := ⟨_, _, _, rfl, by decide, rfl, tb_mem 653 (by decide +kernel) (by decide +kernel), Ck_Rf 9 (by decide), rfl⟩
theorem fl_Rf_19 : FL "PearlMotherModel" 19 8 10 (.array .int) true := ⟨_, _, _, rfl, by decide, rfl, tb_mem 654 (by decide +kernel) (by decide +kernel), Ck_Rf 10 (by decide), rfl⟩
theorem fl_Rf_88 : FL "PearlMotherModel" 88 8 11 (.int) false := ⟨_, _, _, rfl, by decide, rfl, tb_mem 655 (by decide +kernel) (by decide +kernel), Ck_Rf 11 (by decide), rfl⟩
theorem fl_Rf_22 : FL "PearlMotherModel" 22 8 12 (.array .int) true := ⟨_, _, _, rfl, by decide, rfl, tb_mem 656 (by decide +kernel) (by decide +kernel), Ck_Rf 12 (by decide), rfl⟩
theorem fl_Rf_25 : FL "PearlMotherModel" 25 8 13 (.array .int) true := ⟨_, _, _, rfl, by decide, rfl, tb_mem 657 (by decide +kernel) (by decide +kernel), Ck_Rf 13 (by decide), rfl⟩
theorem fl_Rf_28 : FL "PearlMotherModel" 28 8 14 (.array .int) true := ⟨_, _, _, rfl, by decide, rfl, tb_mem 658 (by decide +kernel) (by decide +kernel), Ck_Rf 14 (by decide), rfl⟩
theorem fl_Rf_31 : FL "PearlMotherModel" 31 8 15 (.array .int) true := ⟨_, _, _, rfl, by decide, rfl, tb_mem 659 (by decide +kernel) (by decide +kernel), Ck_Rf 15 (by decide), rfl⟩
theorem fl_Rf_108 : FL "PearlMotherModel" 108 8 16 (.int) false := ⟨_, _, _, rfl, by decide, rfl, tb_mem 660 (by decide +kernel) (by decide +kernel), Ck_Rf 16 (by decide), rfl⟩
theorem fl_Rf_34 : FL "PearlMotherModel" 34 8 17 (.array .int) true := ⟨_, _, _, rfl, by decide, rfl, tb_mem 661 (by decide +kernel) (by decide +kernel), Ck_Rf 17 (by decide), rfl⟩
theorem fl_Rf_37 : FL "PearlMotherModel" 37 8 18 (.array .boolean) true := ⟨_, _, _, rfl, by decide, rfl, tb_mem 662 (by decide +kernel) (by decide +kernel), Ck_Rf 18 (by decide), rfl⟩
theorem fl_Rf_146 : FL "PearlMotherModel" 146 8 19 (.int) false := ⟨_, _, _, rfl, by decide, rfl, tb_mem 663 (by decide +kernel) (by decide +kernel), Ck_Rf 19 (by decide), rfl⟩
theorem fl_Rf_41 : FL "PearlMotherModel" 41 8 20 (.array .int) true := ⟨_, _, _, rfl, by decide, rfl, tb_mem 664 (by decide +kernel) (by decide +kernel), Ck_Rf 20 (by decide), rfl⟩
theorem fl_Rf_44 : FL "PearlMotherModel" 44 8 21 (.array .int) true := ⟨_, _, _, rfl, by decide, rfl, tb_mem 665 (by decide +kernel) (by decide +kernel), Ck_Rf 21 (by decide), rfl⟩
theorem fl_Rf_244 : FL "PearlMotherModel" 244 8 22 (.long) false := ⟨_, _, _, rfl, by decide, rfl, tb_mem 666 (by decide +kernel) (by decide +kernel), Ck_Rf 22 (by decide), rfl⟩
theorem fl_Rf_222 : FL "PearlMotherModel" 222 8 23 (.int) false := ⟨_, _, _, rfl, by decide, rfl, tb_mem 667 (by decide +kernel) (by decide +kernel), Ck_Rf 23 (by decide), rfl⟩
theorem fl_Rf_225 : FL "PearlMotherModel" 225 8 24 (.int) false := ⟨_, _, _, rfl, by decide, rfl, tb_mem 668 (by decide +kernel) (by decide +kernel), Ck_Rf 24 (by decide), rfl⟩
theorem fl_Rf_234 : FL "PearlMotherModel" 234 8 25 (.int) false := ⟨_, _, _, rfl, by decide, rfl, tb_mem 669 (by decide +kernel) (by decide +kernel), Ck_Rf 25 (by decide), rfl⟩
theorem fl_Rf_237 : FL "PearlMotherModel" 237 8 26 (.int) false := ⟨_, _, _, rfl, by decide, rfl, tb_mem 670 (by decide +kernel) (by decide +kernel), Ck_Rf 26 (by decide), rfl⟩
theorem fl_Rf_47 : FL "PearlMotherModel" 47 8 27 (.array .int) true := ⟨_, _, _, rfl, by decide, rfl, tb_mem 671 (by decide +kernel) (by decide +kernel), Ck_Rf 27 (by decide), rfl⟩
theorem fl_Rf_50 : FL "PearlMotherModel" 50 8 28 (.array .int) true := ⟨_, _, _, rfl, by decide, rfl, tb_mem 672 (by decide +kernel) (by decide +kernel), Ck_Rf 28 (by decide), rfl⟩
theorem fl_Rf_53 : FL "PearlMotherModel" 53 8 29 (.array .int) true := ⟨_, _, _, rfl, by decide, rfl, tb_mem 673 (by decide +kernel) (by decide +kernel), Ck_Rf 29 (by decide), rfl⟩
theorem fl_Rf_56 : FL "PearlMotherModel" 56 8 30 (.array .int) true := ⟨_, _, _, rfl, by decide, rfl, tb_mem 674 (by decide +kernel) (by decide +kernel), Ck_Rf 30 (by decide), rfl⟩
theorem cm_PM_init : CM M_PM_init 0 := ⟨tb_mem 56 (by decide +kernel) (by decide +kernel), tb_mem 40 (by decide +kernel) (by decide +kernel), by decide +kernel, by decide +kernel, by decide +kernel⟩
theorem iv_PM_init : Cond.instanceMethod M_PM_init.1 ∈ TB := tb_mem 55 (by decide +kernel) (by decide +kernel)
theorem cm_PM_write : CM M_PM_write 1 := ⟨tb_mem 282 (by decide +kernel) (by decide +kernel), tb_mem 40 (by decide +kernel) (by decide +kernel), by decide +kernel, by decide +kernel, by decide +kernel⟩
theorem iv_PM_write : Cond.instanceMethod M_PM_write.1 ∈ TB ∧ Cond.selects M_PM_write.1.cls M_PM_write.1 M_PM_write.1 ∈ TB := ⟨tb_mem 280 (by decide +kernel) (by decide +kernel), tb_mem 281 (by decide +kernel) (by decide +kernel)⟩
theorem cm_PM_wipe : CM M_PM_wipe 0 := ⟨tb_mem 290 (by decide +kernel) (by decide +kernel), tb_mem 40 (by decide +kernel) (by decide +kernel), by decide +kernel, by decide +kernel, by decide +kernel⟩
theorem iv_PM_wipe : Cond.instanceMethod M_PM_wipe.1 ∈ TB ∧ Cond.selects M_PM_wipe.1.cls M_PM_wipe.1 M_PM_wipe.1 ∈ TB := ⟨tb_mem 288 (by decide +kernel) (by decide +kernel), tb_mem 289 (by decide +kernel) (by decide +kernel)⟩
theorem cm_PM_fault : CM M_PM_fault 0 := ⟨tb_mem 294 (by decide +kernel) (by decide +kernel), tb_mem 40 (by decide +kernel) (by decide +kernel), by decide +kernel, by decide +kernel, by decide +kernel⟩
theorem iv_PM_fault : Cond.instanceMethod M_PM_fault.1 ∈ TB ∧ Cond.selects M_PM_fault.1.cls M_PM_fault.1 M_PM_fault.1 ∈ TB := ⟨tb_mem 292 (by decide +kernel) (by decide +kernel), tb_mem 293 (by decide +kernel) (by decide +kernel)⟩
theorem cm_PM_coast : CM M_PM_coast 0 := ⟨tb_mem 328 (by decide +kernel) (by decide +kernel), tb_mem 40 (by decide +kernel) (by decide +kernel), by decide +kernel, by decide +kernel, by decide +kernel⟩
theorem iv_PM_coast : Cond.instanceMethod M_PM_coast.1 ∈ TB ∧ Cond.selects M_PM_coast.1.cls M_PM_coast.1 M_PM_coast.1 ∈ TB := ⟨tb_mem 326 (by decide +kernel) (by decide +kernel), tb_mem 327 (by decide +kernel) (by decide +kernel)⟩
theorem cm_PM_about : CM M_PM_about 1 := ⟨tb_mem 336 (by decide +kernel) (by decide +kernel), tb_mem 40 (by decide +kernel) (by decide +kernel), by decide +kernel, by decide +kernel, by decide +kernel⟩
theorem iv_PM_about : Cond.instanceMethod M_PM_about.1 ∈ TB ∧ Cond.selects M_PM_about.1.cls M_PM_about.1 M_PM_about.1 ∈ TB := ⟨tb_mem 334 (by decide +kernel) (by decide +kernel), tb_mem 335 (by decide +kernel) (by decide +kernel)⟩
theorem cm_PM_holder : CM M_PM_holder 2 := ⟨tb_mem 392 (by decide +kernel) (by decide +kernel), tb_mem 40 (by decide +kernel) (by decide +kernel), by decide +kernel, by decide +kernel, by decide +kernel⟩
theorem iv_PM_holder : Cond.instanceMethod M_PM_holder.1 ∈ TB ∧ Cond.selects M_PM_holder.1.cls M_PM_holder.1 M_PM_holder.1 ∈ TB := ⟨tb_mem 390 (by decide +kernel) (by decide +kernel), tb_mem 391 (by decide +kernel) (by decide +kernel)⟩
theorem cm_PM_piece : CM M_PM_piece 2 := ⟨tb_mem 401 (by decide +kernel) (by decide +kernel), tb_mem 40 (by decide +kernel) (by decide +kernel), by decide +kernel, by decide +kernel, by decide +kernel⟩
theorem iv_PM_piece : Cond.instanceMethod M_PM_piece.1 ∈ TB ∧ Cond.selects M_PM_piece.1.cls M_PM_piece.1 M_PM_piece.1 ∈ TB := ⟨tb_mem 399 (by decide +kernel) (by decide +kernel), tb_mem 400 (by decide +kernel) (by decide +kernel)⟩
theorem cm_PM_shows : CM M_PM_shows 3 := ⟨tb_mem 406 (by decide +kernel) (by decide +kernel), tb_mem 40 (by decide +kernel) (by decide +kernel), by decide +kernel, by decide +kernel, by decide +kernel⟩
theorem iv_PM_shows : Cond.instanceMethod M_PM_shows.1 ∈ TB ∧ Cond.selects M_PM_shows.1.cls M_PM_shows.1 M_PM_shows.1 ∈ TB := ⟨tb_mem 404 (by decide +kernel) (by decide +kernel), tb_mem 405 (by decide +kernel) (by decide +kernel)⟩
theorem cm_PM_tilt : CM M_PM_tilt 2 := ⟨tb_mem 411 (by decide +kernel) (by decide +kernel), tb_mem 40 (by decide +kernel) (by decide +kernel), by decide +kernel, by decide +kernel, by decide +kernel⟩
theorem iv_PM_tilt : Cond.instanceMethod M_PM_tilt.1 ∈ TB ∧ Cond.selects M_PM_tilt.1.cls M_PM_tilt.1 M_PM_tilt.1 ∈ TB := ⟨tb_mem 409 (by decide +kernel) (by decide +kernel), tb_mem 410 (by decide +kernel) (by decide +kernel)⟩
theorem cm_PM_give : CM M_PM_give 2 := ⟨tb_mem 426 (by decide +kernel) (by decide +kernel), tb_mem 40 (by decide +kernel) (by decide +kernel), by decide +kernel, by decide +kernel, by decide +kernel⟩
theorem iv_PM_give : Cond.instanceMethod M_PM_give.1 ∈ TB ∧ Cond.selects M_PM_give.1.cls M_PM_give.1 M_PM_give.1 ∈ TB := ⟨tb_mem 424 (by decide +kernel) (by decide +kernel), tb_mem 425 (by decide +kernel) (by decide +kernel)⟩
theorem cm_PM_hour : CM M_PM_hour 0 := ⟨tb_mem 430 (by decide +kernel) (by decide +kernel), tb_mem 40 (by decide +kernel) (by decide +kernel), by decide +kernel, by decide +kernel, by decide +kernel⟩
theorem iv_PM_hour : Cond.instanceMethod M_PM_hour.1 ∈ TB ∧ Cond.selects M_PM_hour.1.cls M_PM_hour.1 M_PM_hour.1 ∈ TB := ⟨tb_mem 428 (by decide +kernel) (by decide +kernel), tb_mem 429 (by decide +kernel) (by decide +kernel)⟩
theorem cm_PM_undo : CM M_PM_undo 0 := ⟨tb_mem 438 (by decide +kernel) (by decide +kernel), tb_mem 40 (by decide +kernel) (by decide +kernel), by decide +kernel, by decide +kernel, by decide +kernel⟩
theorem iv_PM_undo : Cond.instanceMethod M_PM_undo.1 ∈ TB ∧ Cond.selects M_PM_undo.1.cls M_PM_undo.1 M_PM_undo.1 ∈ TB := ⟨tb_mem 436 (by decide +kernel) (by decide +kernel), tb_mem 437 (by decide +kernel) (by decide +kernel)⟩
theorem cm_PM_tilts : CM M_PM_tilts 2 := ⟨tb_mem 454 (by decide +kernel) (by decide +kernel), tb_mem 40 (by decide +kernel) (by decide +kernel), by decide +kernel, by decide +kernel, by decide +kernel⟩
theorem iv_PM_tilts : Cond.instanceMethod M_PM_tilts.1 ∈ TB ∧ Cond.selects M_PM_tilts.1.cls M_PM_tilts.1 M_PM_tilts.1 ∈ TB := ⟨tb_mem 452 (by decide +kernel) (by decide +kernel), tb_mem 453 (by decide +kernel) (by decide +kernel)⟩
theorem cm_PM_finds : CM M_PM_finds 2 := ⟨tb_mem 462 (by decide +kernel) (by decide +kernel), tb_mem 40 (by decide +kernel) (by decide +kernel), by decide +kernel, by decide +kernel, by decide +kernel⟩
theorem iv_PM_finds : Cond.instanceMethod M_PM_finds.1 ∈ TB ∧ Cond.selects M_PM_finds.1.cls M_PM_finds.1 M_PM_finds.1 ∈ TB := ⟨tb_mem 460 (by decide +kernel) (by decide +kernel), tb_mem 461 (by decide +kernel) (by decide +kernel)⟩
theorem cm_PM_all : CM M_PM_all 1 := ⟨tb_mem 470 (by decide +kernel) (by decide +kernel), tb_mem 40 (by decide +kernel) (by decide +kernel), by decide +kernel, by decide +kernel, by decide +kernel⟩
theorem iv_PM_all : Cond.instanceMethod M_PM_all.1 ∈ TB ∧ Cond.selects M_PM_all.1.cls M_PM_all.1 M_PM_all.1 ∈ TB := ⟨tb_mem 468 (by decide +kernel) (by decide +kernel), tb_mem 469 (by decide +kernel) (by decide +kernel)⟩
theorem cm_PM_when : CM M_PM_when 2 := ⟨tb_mem 478 (by decide +kernel) (by decide +kernel), tb_mem 40 (by decide +kernel) (by decide +kernel), by decide +kernel, by decide +kernel, by decide +kernel⟩
theorem iv_PM_when : Cond.instanceMethod M_PM_when.1 ∈ TB ∧ Cond.selects M_PM_when.1.cls M_PM_when.1 M_PM_when.1 ∈ TB := ⟨tb_mem 476 (by decide +kernel) (by decide +kernel), tb_mem 477 (by decide +kernel) (by decide +kernel)⟩
theorem cm_PM_mothers : CM M_PM_mothers 0 := ⟨tb_mem 486 (by decide +kernel) (by decide +kernel), tb_mem 40 (by decide +kernel) (by decide +kernel), by decide +kernel, by decide +kernel, by decide +kernel⟩
theorem iv_PM_mothers : Cond.instanceMethod M_PM_mothers.1 ∈ TB ∧ Cond.selects M_PM_mothers.1.cls M_PM_mothers.1 M_PM_mothers.1 ∈ TB := ⟨tb_mem 484 (by decide +kernel) (by decide +kernel), tb_mem 485 (by decide +kernel) (by decide +kernel)⟩
theorem cm_PM_giving : CM M_PM_giving 1 := ⟨tb_mem 508 (by decide +kernel) (by decide +kernel), tb_mem 40 (by decide +kernel) (by decide +kernel), by decide +kernel, by decide +kernel, by decide +kernel⟩
theorem iv_PM_giving : Cond.instanceMethod M_PM_giving.1 ∈ TB ∧ Cond.selects M_PM_giving.1.cls M_PM_giving.1 M_PM_giving.1 ∈ TB := ⟨tb_mem 506 (by decide +kernel) (by decide +kernel), tb_mem 507 (by decide +kernel) (by decide +kernel)⟩
theorem cm_PM_judge : CM M_PM_judge 2 := ⟨tb_mem 530 (by decide +kernel) (by decide +kernel), tb_mem 40 (by decide +kernel) (by decide +kernel), by decide +kernel, by decide +kernel, by decide +kernel⟩
theorem iv_PM_judge : Cond.instanceMethod M_PM_judge.1 ∈ TB ∧ Cond.selects M_PM_judge.1.cls M_PM_judge.1 M_PM_judge.1 ∈ TB := ⟨tb_mem 528 (by decide +kernel) (by decide +kernel), tb_mem 529 (by decide +kernel) (by decide +kernel)⟩
theorem cm_PM_share : CM M_PM_share 2 := ⟨tb_mem 544 (by decide +kernel) (by decide +kernel), tb_mem 40 (by decide +kernel) (by decide +kernel), by decide +kernel, by decide +kernel, by decide +kernel⟩
theorem iv_PM_share : Cond.instanceMethod M_PM_share.1 ∈ TB ∧ Cond.selects M_PM_share.1.cls M_PM_share.1 M_PM_share.1 ∈ TB := ⟨tb_mem 542 (by decide +kernel) (by decide +kernel), tb_mem 543 (by decide +kernel) (by decide +kernel)⟩
theorem cm_PM_turn : CM M_PM_turn 2 := ⟨tb_mem 555 (by decide +kernel) (by decide +kernel), tb_mem 40 (by decide +kernel) (by decide +kernel), by decide +kernel, by decide +kernel, by decide +kernel⟩
theorem iv_PM_turn : Cond.instanceMethod M_PM_turn.1 ∈ TB ∧ Cond.selects M_PM_turn.1.cls M_PM_turn.1 M_PM_turn.1 ∈ TB := ⟨tb_mem 553 (by decide +kernel) (by decide +kernel), tb_mem 554 (by decide +kernel) (by decide +kernel)⟩
theorem cm_PM_unturn : CM M_PM_unturn 0 := ⟨tb_mem 563 (by decide +kernel) (by decide +kernel), tb_mem 40 (by decide +kernel) (by decide +kernel), by decide +kernel, by decide +kernel, by decide +kernel⟩
theorem iv_PM_unturn : Cond.instanceMethod M_PM_unturn.1 ∈ TB ∧ Cond.selects M_PM_unturn.1.cls M_PM_unturn.1 M_PM_unturn.1 ∈ TB := ⟨tb_mem 561 (by decide +kernel) (by decide +kernel), tb_mem 562 (by decide +kernel) (by decide +kernel)⟩
theorem cm_PM_may : CM M_PM_may 1 := ⟨tb_mem 567 (by decide +kernel) (by decide +kernel), tb_mem 40 (by decide +kernel) (by decide +kernel), by decide +kernel, by decide +kernel, by decide +kernel⟩
theorem iv_PM_may : Cond.instanceMethod M_PM_may.1 ∈ TB ∧ Cond.selects M_PM_may.1.cls M_PM_may.1 M_PM_may.1 ∈ TB := ⟨tb_mem 565 (by decide +kernel) (by decide +kernel), tb_mem 566 (by decide +kernel) (by decide +kernel)⟩
theorem cm_PM_next : CM M_PM_next 0 := ⟨tb_mem 587 (by decide +kernel) (by decide +kernel), tb_mem 40 (by decide +kernel) (by decide +kernel), by decide +kernel, by decide +kernel, by decide +kernel⟩
theorem iv_PM_next : Cond.instanceMethod M_PM_next.1 ∈ TB ∧ Cond.selects M_PM_next.1.cls M_PM_next.1 M_PM_next.1 ∈ TB := ⟨tb_mem 585 (by decide +kernel) (by decide +kernel), tb_mem 586 (by decide +kernel) (by decide +kernel)⟩
theorem cm_PM_rests : CM M_PM_rests 4 := ⟨tb_mem 598 (by decide +kernel) (by decide +kernel), tb_mem 40 (by decide +kernel) (by decide +kernel), by decide +kernel, by decide +kernel, by decide +kernel⟩
theorem iv_PM_rests : Cond.instanceMethod M_PM_rests.1 ∈ TB ∧ Cond.selects M_PM_rests.1.cls M_PM_rests.1 M_PM_rests.1 ∈ TB := ⟨tb_mem 596 (by decide +kernel) (by decide +kernel), tb_mem 597 (by decide +kernel) (by decide +kernel)⟩
theorem cm_PM_glints : CM M_PM_glints 5 := ⟨tb_mem 610 (by decide +kernel) (by decide +kernel), tb_mem 40 (by decide +kernel) (by decide +kernel), by decide +kernel, by decide +kernel, by decide +kernel⟩
theorem iv_PM_glints : Cond.instanceMethod M_PM_glints.1 ∈ TB ∧ Cond.selects M_PM_glints.1.cls M_PM_glints.1 M_PM_glints.1 ∈ TB := ⟨tb_mem 608 (by decide +kernel) (by decide +kernel), tb_mem 609 (by decide +kernel) (by decide +kernel)⟩
theorem cm_PM_seed : CM M_PM_seed 1 := ⟨tb_mem 618 (by decide +kernel) (by decide +kernel), tb_mem 40 (by decide +kernel) (by decide +kernel), by decide +kernel, by decide +kernel, by decide +kernel⟩
theorem iv_PM_seed : Cond.instanceMethod M_PM_seed.1 ∈ TB ∧ Cond.selects M_PM_seed.1.cls M_PM_seed.1 M_PM_seed.1 ∈ TB := ⟨tb_mem 616 (by decide +kernel) (by decide +kernel), tb_mem 617 (by decide +kernel) (by decide +kernel)⟩
theorem cm_PM_years : CM M_PM_years 1 := ⟨tb_mem 622 (by decide +kernel) (by decide +kernel), tb_mem 40 (by decide +kernel) (by decide +kernel), by decide +kernel, by decide +kernel, by decide +kernel⟩
theorem iv_PM_years : Cond.instanceMethod M_PM_years.1 ∈ TB ∧ Cond.selects M_PM_years.1.cls M_PM_years.1 M_PM_years.1 ∈ TB := ⟨tb_mem 620 (by decide +kernel) (by decide +kernel), tb_mem 621 (by decide +kernel) (by decide +kernel)⟩
theorem cm_PM_keep : CM M_PM_keep 1 := ⟨tb_mem 633 (by decide +kernel) (by decide +kernel), tb_mem 40 (by decide +kernel) (by decide +kernel), by decide +kernel, by decide +kernel, by decide +kernel⟩
theorem iv_PM_keep : Cond.instanceMethod M_PM_keep.1 ∈ TB ∧ Cond.selects M_PM_keep.1.cls M_PM_keep.1 M_PM_keep.1 ∈ TB := ⟨tb_mem 631 (by decide +kernel) (by decide +kernel), tb_mem 632 (by decide +kernel) (by decide +kernel)⟩
theorem cm_PM_again : CM M_PM_again 1 := ⟨tb_mem 637 (by decide +kernel) (by decide +kernel), tb_mem 40 (by decide +kernel) (by decide +kernel), by decide +kernel, by decide +kernel, by decide +kernel⟩
theorem iv_PM_again : Cond.instanceMethod M_PM_again.1 ∈ TB ∧ Cond.selects M_PM_again.1.cls M_PM_again.1 M_PM_again.1 ∈ TB := ⟨tb_mem 635 (by decide +kernel) (by decide +kernel), tb_mem 636 (by decide +kernel) (by decide +kernel)⟩
theorem cm_PM_isBelow : CM M_PM_isBelow 2 := ⟨tb_mem 309 (by decide +kernel) (by decide +kernel), tb_mem 40 (by decide +kernel) (by decide +kernel), by decide +kernel, by decide +kernel, by decide +kernel⟩
theorem st_PM_isBelow : Cond.static M_PM_isBelow.1 ∈ TB := tb_mem 308 (by decide +kernel) (by decide +kernel)
theorem cm_PM_hasBit : CM M_PM_hasBit 2 := ⟨tb_mem 384 (by decide +kernel) (by decide +kernel), tb_mem 40 (by decide +kernel) (by decide +kernel), by decide +kernel, by decide +kernel, by decide +kernel⟩
theorem st_PM_hasBit : Cond.static M_PM_hasBit.1 ∈ TB := tb_mem 383 (by decide +kernel) (by decide +kernel)
theorem cm_PM_byEight : CM M_PM_byEight 1 := ⟨tb_mem 356 (by decide +kernel) (by decide +kernel), tb_mem 40 (by decide +kernel) (by decide +kernel), by decide +kernel, by decide +kernel, by decide +kernel⟩
theorem st_PM_byEight : Cond.static M_PM_byEight.1 ∈ TB := tb_mem 355 (by decide +kernel) (by decide +kernel)
theorem cm_PM_apart : CM M_PM_apart 2 := ⟨tb_mem 377 (by decide +kernel) (by decide +kernel), tb_mem 40 (by decide +kernel) (by decide +kernel), by decide +kernel, by decide +kernel, by decide +kernel⟩
theorem st_PM_apart : Cond.static M_PM_apart.1 ∈ TB := tb_mem 376 (by decide +kernel) (by decide +kernel)
theorem cm_PM_reachOf : CM M_PM_reachOf 1 := ⟨tb_mem 374 (by decide +kernel) (by decide +kernel), tb_mem 40 (by decide +kernel) (by decide +kernel), by decide +kernel, by decide +kernel, by decide +kernel⟩
theorem st_PM_reachOf : Cond.static M_PM_reachOf.1 ∈ TB := tb_mem 373 (by decide +kernel) (by decide +kernel)
theorem cm_PM_isShown : CM M_PM_isShown 5 := ⟨tb_mem 371 (by decide +kernel) (by decide +kernel), tb_mem 40 (by decide +kernel) (by decide +kernel), by decide +kernel, by decide +kernel, by decide +kernel⟩
theorem st_PM_isShown : Cond.static M_PM_isShown.1 ∈ TB := tb_mem 370 (by decide +kernel) (by decide +kernel)
theorem cm_PM_inLeastTerms : CM M_PM_inLeastTerms 3 := ⟨tb_mem 547 (by decide +kernel) (by decide +kernel), tb_mem 40 (by decide +kernel) (by decide +kernel), by decide +kernel, by decide +kernel, by decide +kernel⟩
theorem st_PM_inLeastTerms : Cond.static M_PM_inLeastTerms.1 ∈ TB := tb_mem 546 (by decide +kernel) (by decide +kernel)
theorem cm_PM_showsAfter : CM M_PM_showsAfter 4 := ⟨tb_mem 348 (by decide +kernel) (by decide +kernel), tb_mem 40 (by decide +kernel) (by decide +kernel), by decide +kernel, by decide +kernel, by decide +kernel⟩
theorem iv_PM_showsAfter : Cond.instanceMethod M_PM_showsAfter.1 ∈ TB ∧ Cond.selects M_PM_showsAfter.1.cls M_PM_showsAfter.1 M_PM_showsAfter.1 ∈ TB := ⟨tb_mem 347 (by decide +kernel) (by decide +kernel), tb_mem 2 (by decide +kernel) (by decide +kernel)⟩
theorem cm_PM_partsSeen : CM M_PM_partsSeen 3 := ⟨tb_mem 344 (by decide +kernel) (by decide +kernel), tb_mem 40 (by decide +kernel) (by decide +kernel), by decide +kernel, by decide +kernel, by decide +kernel⟩
theorem iv_PM_partsSeen : Cond.instanceMethod M_PM_partsSeen.1 ∈ TB ∧ Cond.selects M_PM_partsSeen.1.cls M_PM_partsSeen.1 M_PM_partsSeen.1 ∈ TB := ⟨tb_mem 343 (by decide +kernel) (by decide +kernel), tb_mem 1 (by decide +kernel) (by decide +kernel)⟩
theorem cm_PM_partsSeenTogether : CM M_PM_partsSeenTogether 0 := ⟨tb_mem 388 (by decide +kernel) (by decide +kernel), tb_mem 40 (by decide +kernel) (by decide +kernel), by decide +kernel, by decide +kernel, by decide +kernel⟩
theorem iv_PM_partsSeenTogether : Cond.instanceMethod M_PM_partsSeenTogether.1 ∈ TB ∧ Cond.selects M_PM_partsSeenTogether.1.cls M_PM_partsSeenTogether.1 M_PM_partsSeenTogether.1 ∈ TB := ⟨tb_mem 387 (by decide +kernel) (by decide +kernel), tb_mem 3 (by decide +kernel) (by decide +kernel)⟩
theorem cm_PM_whoSeesHerLook : CM M_PM_whoSeesHerLook 1 := ⟨tb_mem 340 (by decide +kernel) (by decide +kernel), tb_mem 40 (by decide +kernel) (by decide +kernel), by decide +kernel, by decide +kernel, by decide +kernel⟩
theorem iv_PM_whoSeesHerLook : Cond.instanceMethod M_PM_whoSeesHerLook.1 ∈ TB ∧ Cond.selects M_PM_whoSeesHerLook.1.cls M_PM_whoSeesHerLook.1 M_PM_whoSeesHerLook.1 ∈ TB := ⟨tb_mem 339 (by decide +kernel) (by decide +kernel), tb_mem 0 (by decide +kernel) (by decide +kernel)⟩
theorem cm_PM_piecesOf : CM M_PM_piecesOf 1 := ⟨tb_mem 397 (by decide +kernel) (by decide +kernel), tb_mem 40 (by decide +kernel) (by decide +kernel), by decide +kernel, by decide +kernel, by decide +kernel⟩
theorem iv_PM_piecesOf : Cond.instanceMethod M_PM_piecesOf.1 ∈ TB ∧ Cond.selects M_PM_piecesOf.1.cls M_PM_piecesOf.1 M_PM_piecesOf.1 ∈ TB := ⟨tb_mem 396 (by decide +kernel) (by decide +kernel), tb_mem 4 (by decide +kernel) (by decide +kernel)⟩
theorem cm_PM_partsHeld : CM M_PM_partsHeld 1 := ⟨tb_mem 474 (by decide +kernel) (by decide +kernel), tb_mem 40 (by decide +kernel) (by decide +kernel), by decide +kernel, by decide +kernel, by decide +kernel⟩
theorem iv_PM_partsHeld : Cond.instanceMethod M_PM_partsHeld.1 ∈ TB ∧ Cond.selects M_PM_partsHeld.1.cls M_PM_partsHeld.1 M_PM_partsHeld.1 ∈ TB := ⟨tb_mem 473 (by decide +kernel) (by decide +kernel), tb_mem 8 (by decide +kernel) (by decide +kernel)⟩
theorem cm_PM_piecesThatShow : CM M_PM_piecesThatShow 1 := ⟨tb_mem 551 (by decide +kernel) (by decide +kernel), tb_mem 40 (by decide +kernel) (by decide +kernel), by decide +kernel, by decide +kernel, by decide +kernel⟩
theorem iv_PM_piecesThatShow : Cond.instanceMethod M_PM_piecesThatShow.1 ∈ TB ∧ Cond.selects M_PM_piecesThatShow.1.cls M_PM_piecesThatShow.1 M_PM_piecesThatShow.1 ∈ TB := ⟨tb_mem 550 (by decide +kernel) (by decide +kernel), tb_mem 11 (by decide +kernel) (by decide +kernel)⟩
theorem cm_PM_takeBack : CM M_PM_takeBack 1 := ⟨tb_mem 446 (by decide +kernel) (by decide +kernel), tb_mem 40 (by decide +kernel) (by decide +kernel), by decide +kernel, by decide +kernel, by decide +kernel⟩
theorem iv_PM_takeBack : Cond.instanceMethod M_PM_takeBack.1 ∈ TB ∧ Cond.selects M_PM_takeBack.1.cls M_PM_takeBack.1 M_PM_takeBack.1 ∈ TB := ⟨tb_mem 445 (by decide +kernel) (by decide +kernel), tb_mem 5 (by decide +kernel) (by decide +kernel)⟩
theorem cm_PM_fewestTilts : CM M_PM_fewestTilts 2 := ⟨tb_mem 458 (by decide +kernel) (by decide +kernel), tb_mem 40 (by decide +kernel) (by decide +kernel), by decide +kernel, by decide +kernel, by decide +kernel⟩
theorem iv_PM_fewestTilts : Cond.instanceMethod M_PM_fewestTilts.1 ∈ TB ∧ Cond.selects M_PM_fewestTilts.1.cls M_PM_fewestTilts.1 M_PM_fewestTilts.1 ∈ TB := ⟨tb_mem 457 (by decide +kernel) (by decide +kernel), tb_mem 6 (by decide +kernel) (by decide +kernel)⟩
theorem cm_PM_fewestTiltsToSee : CM M_PM_fewestTiltsToSee 2 := ⟨tb_mem 466 (by decide +kernel) (by decide +kernel), tb_mem 40 (by decide +kernel) (by decide +kernel), by decide +kernel, by decide +kernel, by decide +kernel⟩
theorem iv_PM_fewestTiltsToSee : Cond.instanceMethod M_PM_fewestTiltsToSee.1 ∈ TB ∧ Cond.selects M_PM_fewestTiltsToSee.1.cls M_PM_fewestTiltsToSee.1 M_PM_fewestTiltsToSee.1 ∈ TB := ⟨tb_mem 465 (by decide +kernel) (by decide +kernel), tb_mem 7 (by decide +kernel) (by decide +kernel)⟩
theorem cm_PM_hoursUntilSeen : CM M_PM_hoursUntilSeen 2 := ⟨tb_mem 482 (by decide +kernel) (by decide +kernel), tb_mem 40 (by decide +kernel) (by decide +kernel), by decide +kernel, by decide +kernel, by decide +kernel⟩
theorem iv_PM_hoursUntilSeen : Cond.instanceMethod M_PM_hoursUntilSeen.1 ∈ TB ∧ Cond.selects M_PM_hoursUntilSeen.1.cls M_PM_hoursUntilSeen.1 M_PM_hoursUntilSeen.1 ∈ TB := ⟨tb_mem 481 (by decide +kernel) (by decide +kernel), tb_mem 9 (by decide +kernel) (by decide +kernel)⟩
theorem cm_PM_canBeDone : CM M_PM_canBeDone 1 := ⟨tb_mem 540 (by decide +kernel) (by decide +kernel), tb_mem 40 (by decide +kernel) (by decide +kernel), by decide +kernel, by decide +kernel, by decide +kernel⟩
theorem iv_PM_canBeDone : Cond.instanceMethod M_PM_canBeDone.1 ∈ TB ∧ Cond.selects M_PM_canBeDone.1.cls M_PM_canBeDone.1 M_PM_canBeDone.1 ∈ TB := ⟨tb_mem 539 (by decide +kernel) (by decide +kernel), tb_mem 10 (by decide +kernel) (by decide +kernel)⟩
theorem cm_PM_tryGivings : CM M_PM_tryGivings 4 := ⟨tb_mem 520 (by decide +kernel) (by decide +kernel), tb_mem 40 (by decide +kernel) (by decide +kernel), by decide +kernel, by decide +kernel, by decide +kernel⟩
theorem st_PM_tryGivings : Cond.static M_PM_tryGivings.1 ∈ TB := tb_mem 519 (by decide +kernel) (by decide +kernel)
theorem cm_PM_worth : CM M_PM_worth 4 := ⟨tb_mem 606 (by decide +kernel) (by decide +kernel), tb_mem 40 (by decide +kernel) (by decide +kernel), by decide +kernel, by decide +kernel, by decide +kernel⟩
theorem iv_PM_worth : Cond.instanceMethod M_PM_worth.1 ∈ TB ∧ Cond.selects M_PM_worth.1.cls M_PM_worth.1 M_PM_worth.1 ∈ TB := ⟨tb_mem 605 (by decide +kernel) (by decide +kernel), tb_mem 13 (by decide +kernel) (by decide +kernel)⟩
theorem cm_PM_staysWith : CM M_PM_staysWith 4 := ⟨tb_mem 602 (by decide +kernel) (by decide +kernel), tb_mem 40 (by decide +kernel) (by decide +kernel), by decide +kernel, by decide +kernel, by decide +kernel⟩
theorem iv_PM_staysWith : Cond.instanceMethod M_PM_staysWith.1 ∈ TB ∧ Cond.selects M_PM_staysWith.1.cls M_PM_staysWith.1 M_PM_staysWith.1 ∈ TB := ⟨tb_mem 601 (by decide +kernel) (by decide +kernel), tb_mem 12 (by decide +kernel) (by decide +kernel)⟩
theorem cm_PM_spreadChances : CM M_PM_spreadChances 2 := ⟨tb_mem 614 (by decide +kernel) (by decide +kernel), tb_mem 40 (by decide +kernel) (by decide +kernel), by decide +kernel, by decide +kernel, by decide +kernel⟩
theorem iv_PM_spreadChances : Cond.instanceMethod M_PM_spreadChances.1 ∈ TB ∧ Cond.selects M_PM_spreadChances.1.cls M_PM_spreadChances.1 M_PM_spreadChances.1 ∈ TB := ⟨tb_mem 613 (by decide +kernel) (by decide +kernel), tb_mem 14 (by decide +kernel) (by decide +kernel)⟩
theorem cm_PM_befall : CM M_PM_befall 1 := ⟨tb_mem 629 (by decide +kernel) (by decide +kernel), tb_mem 40 (by decide +kernel) (by decide +kernel), by decide +kernel, by decide +kernel, by decide +kernel⟩
theorem iv_PM_befall : Cond.instanceMethod M_PM_befall.1 ∈ TB ∧ Cond.selects M_PM_befall.1.cls M_PM_befall.1 M_PM_befall.1 ∈ TB := ⟨tb_mem 628 (by decide +kernel) (by decide +kernel), tb_mem 15 (by decide +kernel) (by decide +kernel)⟩
theorem cm_Rf_init : CM M_Rf_init 0 := ⟨tb_mem 642 (by decide +kernel) (by decide +kernel), tb_mem 48 (by decide +kernel) (by decide +kernel), by decide +kernel, by decide +kernel, by decide +kernel⟩
theorem iv_Rf_init : Cond.instanceMethod M_Rf_init.1 ∈ TB := tb_mem 641 (by decide +kernel) (by decide +kernel)
theorem cm_Rf_in : CM M_Rf_in 3 := ⟨tb_mem 745 (by decide +kernel) (by decide +kernel), tb_mem 48 (by decide +kernel) (by decide +kernel), by decide +kernel, by decide +kernel, by decide +kernel⟩
theorem st_Rf_in : Cond.static M_Rf_in.1 ∈ TB := tb_mem 744 (by decide +kernel) (by decide +kernel)
theorem cm_Rf_has : CM M_Rf_has 2 := ⟨tb_mem 792 (by decide +kernel) (by decide +kernel), tb_mem 48 (by decide +kernel) (by decide +kernel), by decide +kernel, by decide +kernel, by decide +kernel⟩
theorem st_Rf_has : Cond.static M_Rf_has.1 ∈ TB := tb_mem 791 (by decide +kernel) (by decide +kernel)
theorem cm_Rf_many : CM M_Rf_many 1 := ⟨tb_mem 919 (by decide +kernel) (by decide +kernel), tb_mem 48 (by decide +kernel) (by decide +kernel), by decide +kernel, by decide +kernel, by decide +kernel⟩
theorem st_Rf_many : Cond.static M_Rf_many.1 ∈ TB := tb_mem 918 (by decide +kernel) (by decide +kernel)
theorem cm_Rf_power : CM M_Rf_power 2 := ⟨tb_mem 904 (by decide +kernel) (by decide +kernel), tb_mem 48 (by decide +kernel) (by decide +kernel), by decide +kernel, by decide +kernel, by decide +kernel⟩
theorem st_Rf_power : Cond.static M_Rf_power.1 ∈ TB := tb_mem 903 (by decide +kernel) (by decide +kernel)
theorem cm_Rf_noHolder : CM M_Rf_noHolder 1 := ⟨tb_mem 821 (by decide +kernel) (by decide +kernel), tb_mem 48 (by decide +kernel) (by decide +kernel), by decide +kernel, by decide +kernel, by decide +kernel⟩
theorem iv_Rf_noHolder : Cond.instanceMethod M_Rf_noHolder.1 ∈ TB ∧ Cond.selects M_Rf_noHolder.1.cls M_Rf_noHolder.1 M_Rf_noHolder.1 ∈ TB := ⟨tb_mem 820 (by decide +kernel) (by decide +kernel), tb_mem 26 (by decide +kernel) (by decide +kernel)⟩
theorem cm_Rf_noPiece : CM M_Rf_noPiece 1 := ⟨tb_mem 833 (by decide +kernel) (by decide +kernel), tb_mem 48 (by decide +kernel) (by decide +kernel), by decide +kernel, by decide +kernel, by decide +kernel⟩
theorem iv_Rf_noPiece : Cond.instanceMethod M_Rf_noPiece.1 ∈ TB ∧ Cond.selects M_Rf_noPiece.1.cls M_Rf_noPiece.1 M_Rf_noPiece.1 ∈ TB := ⟨tb_mem 832 (by decide +kernel) (by decide +kernel), tb_mem 28 (by decide +kernel) (by decide +kernel)⟩
theorem cm_Rf_write : CM M_Rf_write 1 := ⟨tb_mem 741 (by decide +kernel) (by decide +kernel), tb_mem 48 (by decide +kernel) (by decide +kernel), by decide +kernel, by decide +kernel, by decide +kernel⟩
theorem iv_Rf_write : Cond.instanceMethod M_Rf_write.1 ∈ TB ∧ Cond.selects M_Rf_write.1.cls M_Rf_write.1 M_Rf_write.1 ∈ TB := ⟨tb_mem 739 (by decide +kernel) (by decide +kernel), tb_mem 740 (by decide +kernel) (by decide +kernel)⟩
theorem cm_Rf_wipe : CM M_Rf_wipe 0 := ⟨tb_mem 749 (by decide +kernel) (by decide +kernel), tb_mem 48 (by decide +kernel) (by decide +kernel), by decide +kernel, by decide +kernel, by decide +kernel⟩
theorem iv_Rf_wipe : Cond.instanceMethod M_Rf_wipe.1 ∈ TB ∧ Cond.selects M_Rf_wipe.1.cls M_Rf_wipe.1 M_Rf_wipe.1 ∈ TB := ⟨tb_mem 747 (by decide +kernel) (by decide +kernel), tb_mem 748 (by decide +kernel) (by decide +kernel)⟩
theorem cm_Rf_figure : CM M_Rf_figure 1 := ⟨tb_mem 761 (by decide +kernel) (by decide +kernel), tb_mem 48 (by decide +kernel) (by decide +kernel), by decide +kernel, by decide +kernel, by decide +kernel⟩
theorem iv_Rf_figure : Cond.instanceMethod M_Rf_figure.1 ∈ TB ∧ Cond.selects M_Rf_figure.1.cls M_Rf_figure.1 M_Rf_figure.1 ∈ TB := ⟨tb_mem 760 (by decide +kernel) (by decide +kernel), tb_mem 17 (by decide +kernel) (by decide +kernel)⟩
theorem cm_Rf_readOneHolder : CM M_Rf_readOneHolder 0 := ⟨tb_mem 769 (by decide +kernel) (by decide +kernel), tb_mem 48 (by decide +kernel) (by decide +kernel), by decide +kernel, by decide +kernel, by decide +kernel⟩
theorem iv_Rf_readOneHolder : Cond.instanceMethod M_Rf_readOneHolder.1 ∈ TB ∧ Cond.selects M_Rf_readOneHolder.1.cls M_Rf_readOneHolder.1 M_Rf_readOneHolder.1 ∈ TB := ⟨tb_mem 768 (by decide +kernel) (by decide +kernel), tb_mem 19 (by decide +kernel) (by decide +kernel)⟩
theorem cm_Rf_readOnePiece : CM M_Rf_readOnePiece 0 := ⟨tb_mem 773 (by decide +kernel) (by decide +kernel), tb_mem 48 (by decide +kernel) (by decide +kernel), by decide +kernel, by decide +kernel, by decide +kernel⟩
theorem iv_Rf_readOnePiece : Cond.instanceMethod M_Rf_readOnePiece.1 ∈ TB ∧ Cond.selects M_Rf_readOnePiece.1.cls M_Rf_readOnePiece.1 M_Rf_readOnePiece.1 ∈ TB := ⟨tb_mem 772 (by decide +kernel) (by decide +kernel), tb_mem 20 (by decide +kernel) (by decide +kernel)⟩
theorem cm_Rf_readThing : CM M_Rf_readThing 0 := ⟨tb_mem 765 (by decide +kernel) (by decide +kernel), tb_mem 48 (by decide +kernel) (by decide +kernel), by decide +kernel, by decide +kernel, by decide +kernel⟩
theorem iv_Rf_readThing : Cond.instanceMethod M_Rf_readThing.1 ∈ TB ∧ Cond.selects M_Rf_readThing.1.cls M_Rf_readThing.1 M_Rf_readThing.1 ∈ TB := ⟨tb_mem 764 (by decide +kernel) (by decide +kernel), tb_mem 18 (by decide +kernel) (by decide +kernel)⟩
theorem cm_Rf_readCoast : CM M_Rf_readCoast 0 := ⟨tb_mem 757 (by decide +kernel) (by decide +kernel), tb_mem 48 (by decide +kernel) (by decide +kernel), by decide +kernel, by decide +kernel, by decide +kernel⟩
theorem iv_Rf_readCoast : Cond.instanceMethod M_Rf_readCoast.1 ∈ TB ∧ Cond.selects M_Rf_readCoast.1.cls M_Rf_readCoast.1 M_Rf_readCoast.1 ∈ TB := ⟨tb_mem 756 (by decide +kernel) (by decide +kernel), tb_mem 16 (by decide +kernel) (by decide +kernel)⟩
theorem cm_Rf_fault : CM M_Rf_fault 0 := ⟨tb_mem 753 (by decide +kernel) (by decide +kernel), tb_mem 48 (by decide +kernel) (by decide +kernel), by decide +kernel, by decide +kernel, by decide +kernel⟩
theorem iv_Rf_fault : Cond.instanceMethod M_Rf_fault.1 ∈ TB ∧ Cond.selects M_Rf_fault.1.cls M_Rf_fault.1 M_Rf_fault.1 ∈ TB := ⟨tb_mem 751 (by decide +kernel) (by decide +kernel), tb_mem 752 (by decide +kernel) (by decide +kernel)⟩
theorem cm_Rf_coast : CM M_Rf_coast 0 := ⟨tb_mem 777 (by decide +kernel) (by decide +kernel), tb_mem 48 (by decide +kernel) (by decide +kernel), by decide +kernel, by decide +kernel, by decide +kernel⟩
theorem iv_Rf_coast : Cond.instanceMethod M_Rf_coast.1 ∈ TB ∧ Cond.selects M_Rf_coast.1.cls M_Rf_coast.1 M_Rf_coast.1 ∈ TB := ⟨tb_mem 775 (by decide +kernel) (by decide +kernel), tb_mem 776 (by decide +kernel) (by decide +kernel)⟩
theorem cm_Rf_apart : CM M_Rf_apart 2 := ⟨tb_mem 809 (by decide +kernel) (by decide +kernel), tb_mem 48 (by decide +kernel) (by decide +kernel), by decide +kernel, by decide +kernel, by decide +kernel⟩
theorem st_Rf_apart : Cond.static M_Rf_apart.1 ∈ TB := tb_mem 808 (by decide +kernel) (by decide +kernel)
theorem cm_Rf_showsBy : CM M_Rf_showsBy 5 := ⟨tb_mem 806 (by decide +kernel) (by decide +kernel), tb_mem 48 (by decide +kernel) (by decide +kernel), by decide +kernel, by decide +kernel, by decide +kernel⟩
theorem st_Rf_showsBy : Cond.static M_Rf_showsBy.1 ∈ TB := tb_mem 805 (by decide +kernel) (by decide +kernel)
theorem cm_Rf_showsTo : CM M_Rf_showsTo 3 := ⟨tb_mem 803 (by decide +kernel) (by decide +kernel), tb_mem 48 (by decide +kernel) (by decide +kernel), by decide +kernel, by decide +kernel, by decide +kernel⟩
theorem iv_Rf_showsTo : Cond.instanceMethod M_Rf_showsTo.1 ∈ TB ∧ Cond.selects M_Rf_showsTo.1.cls M_Rf_showsTo.1 M_Rf_showsTo.1 ∈ TB := ⟨tb_mem 802 (by decide +kernel) (by decide +kernel), tb_mem 24 (by decide +kernel) (by decide +kernel)⟩
theorem cm_Rf_angleOf : CM M_Rf_angleOf 2 := ⟨tb_mem 799 (by decide +kernel) (by decide +kernel), tb_mem 48 (by decide +kernel) (by decide +kernel), by decide +kernel, by decide +kernel, by decide +kernel⟩
theorem st_Rf_angleOf : Cond.static M_Rf_angleOf.1 ∈ TB := tb_mem 798 (by decide +kernel) (by decide +kernel)
theorem cm_Rf_isShown : CM M_Rf_isShown 2 := ⟨tb_mem 796 (by decide +kernel) (by decide +kernel), tb_mem 48 (by decide +kernel) (by decide +kernel), by decide +kernel, by decide +kernel, by decide +kernel⟩
theorem iv_Rf_isShown : Cond.instanceMethod M_Rf_isShown.1 ∈ TB ∧ Cond.selects M_Rf_isShown.1.cls M_Rf_isShown.1 M_Rf_isShown.1 ∈ TB := ⟨tb_mem 795 (by decide +kernel) (by decide +kernel), tb_mem 23 (by decide +kernel) (by decide +kernel)⟩
theorem cm_Rf_seesOf : CM M_Rf_seesOf 3 := ⟨tb_mem 789 (by decide +kernel) (by decide +kernel), tb_mem 48 (by decide +kernel) (by decide +kernel), by decide +kernel, by decide +kernel, by decide +kernel⟩
theorem iv_Rf_seesOf : Cond.instanceMethod M_Rf_seesOf.1 ∈ TB ∧ Cond.selects M_Rf_seesOf.1.cls M_Rf_seesOf.1 M_Rf_seesOf.1 ∈ TB := ⟨tb_mem 788 (by decide +kernel) (by decide +kernel), tb_mem 22 (by decide +kernel) (by decide +kernel)⟩
theorem cm_Rf_heldBy : CM M_Rf_heldBy 2 := ⟨tb_mem 825 (by decide +kernel) (by decide +kernel), tb_mem 48 (by decide +kernel) (by decide +kernel), by decide +kernel, by decide +kernel, by decide +kernel⟩
theorem iv_Rf_heldBy : Cond.instanceMethod M_Rf_heldBy.1 ∈ TB ∧ Cond.selects M_Rf_heldBy.1.cls M_Rf_heldBy.1 M_Rf_heldBy.1 ∈ TB := ⟨tb_mem 824 (by decide +kernel) (by decide +kernel), tb_mem 27 (by decide +kernel) (by decide +kernel)⟩
theorem cm_Rf_lookers : CM M_Rf_lookers 1 := ⟨tb_mem 785 (by decide +kernel) (by decide +kernel), tb_mem 48 (by decide +kernel) (by decide +kernel), by decide +kernel, by decide +kernel, by decide +kernel⟩
theorem iv_Rf_lookers : Cond.instanceMethod M_Rf_lookers.1 ∈ TB ∧ Cond.selects M_Rf_lookers.1.cls M_Rf_lookers.1 M_Rf_lookers.1 ∈ TB := ⟨tb_mem 784 (by decide +kernel) (by decide +kernel), tb_mem 21 (by decide +kernel) (by decide +kernel)⟩
theorem cm_Rf_together : CM M_Rf_together 2 := ⟨tb_mem 813 (by decide +kernel) (by decide +kernel), tb_mem 48 (by decide +kernel) (by decide +kernel), by decide +kernel, by decide +kernel, by decide +kernel⟩
theorem iv_Rf_together : Cond.instanceMethod M_Rf_together.1 ∈ TB ∧ Cond.selects M_Rf_together.1.cls M_Rf_together.1 M_Rf_together.1 ∈ TB := ⟨tb_mem 812 (by decide +kernel) (by decide +kernel), tb_mem 25 (by decide +kernel) (by decide +kernel)⟩
theorem cm_Rf_about : CM M_Rf_about 1 := ⟨tb_mem 781 (by decide +kernel) (by decide +kernel), tb_mem 48 (by decide +kernel) (by decide +kernel), by decide +kernel, by decide +kernel, by decide +kernel⟩
theorem iv_Rf_about : Cond.instanceMethod M_Rf_about.1 ∈ TB ∧ Cond.selects M_Rf_about.1.cls M_Rf_about.1 M_Rf_about.1 ∈ TB := ⟨tb_mem 779 (by decide +kernel) (by decide +kernel), tb_mem 780 (by decide +kernel) (by decide +kernel)⟩
theorem cm_Rf_holder : CM M_Rf_holder 2 := ⟨tb_mem 817 (by decide +kernel) (by decide +kernel), tb_mem 48 (by decide +kernel) (by decide +kernel), by decide +kernel, by decide +kernel, by decide +kernel⟩
theorem iv_Rf_holder : Cond.instanceMethod M_Rf_holder.1 ∈ TB ∧ Cond.selects M_Rf_holder.1.cls M_Rf_holder.1 M_Rf_holder.1 ∈ TB := ⟨tb_mem 815 (by decide +kernel) (by decide +kernel), tb_mem 816 (by decide +kernel) (by decide +kernel)⟩
theorem cm_Rf_piece : CM M_Rf_piece 2 := ⟨tb_mem 829 (by decide +kernel) (by decide +kernel), tb_mem 48 (by decide +kernel) (by decide +kernel), by decide +kernel, by decide +kernel, by decide +kernel⟩
theorem iv_Rf_piece : Cond.instanceMethod M_Rf_piece.1 ∈ TB ∧ Cond.selects M_Rf_piece.1.cls M_Rf_piece.1 M_Rf_piece.1 ∈ TB := ⟨tb_mem 827 (by decide +kernel) (by decide +kernel), tb_mem 828 (by decide +kernel) (by decide +kernel)⟩
theorem cm_Rf_shows : CM M_Rf_shows 3 := ⟨tb_mem 837 (by decide +kernel) (by decide +kernel), tb_mem 48 (by decide +kernel) (by decide +kernel), by decide +kernel, by decide +kernel, by decide +kernel⟩
theorem iv_Rf_shows : Cond.instanceMethod M_Rf_shows.1 ∈ TB ∧ Cond.selects M_Rf_shows.1.cls M_Rf_shows.1 M_Rf_shows.1 ∈ TB := ⟨tb_mem 835 (by decide +kernel) (by decide +kernel), tb_mem 836 (by decide +kernel) (by decide +kernel)⟩
theorem cm_Rf_note : CM M_Rf_note 0 := ⟨tb_mem 846 (by decide +kernel) (by decide +kernel), tb_mem 48 (by decide +kernel) (by decide +kernel), by decide +kernel, by decide +kernel, by decide +kernel⟩
theorem iv_Rf_note : Cond.instanceMethod M_Rf_note.1 ∈ TB ∧ Cond.selects M_Rf_note.1.cls M_Rf_note.1 M_Rf_note.1 ∈ TB := ⟨tb_mem 845 (by decide +kernel) (by decide +kernel), tb_mem 29 (by decide +kernel) (by decide +kernel)⟩
theorem cm_Rf_goTilt : CM M_Rf_goTilt 3 := ⟨tb_mem 849 (by decide +kernel) (by decide +kernel), tb_mem 48 (by decide +kernel) (by decide +kernel), by decide +kernel, by decide +kernel, by decide +kernel⟩
theorem st_Rf_goTilt : Cond.static M_Rf_goTilt.1 ∈ TB := tb_mem 848 (by decide +kernel) (by decide +kernel)
theorem cm_Rf_tilt : CM M_Rf_tilt 2 := ⟨tb_mem 842 (by decide +kernel) (by decide +kernel), tb_mem 48 (by decide +kernel) (by decide +kernel), by decide +kernel, by decide +kernel, by decide +kernel⟩
theorem iv_Rf_tilt : Cond.instanceMethod M_Rf_tilt.1 ∈ TB ∧ Cond.selects M_Rf_tilt.1.cls M_Rf_tilt.1 M_Rf_tilt.1 ∈ TB := ⟨tb_mem 840 (by decide +kernel) (by decide +kernel), tb_mem 841 (by decide +kernel) (by decide +kernel)⟩
theorem cm_Rf_give : CM M_Rf_give 2 := ⟨tb_mem 853 (by decide +kernel) (by decide +kernel), tb_mem 48 (by decide +kernel) (by decide +kernel), by decide +kernel, by decide +kernel, by decide +kernel⟩
theorem iv_Rf_give : Cond.instanceMethod M_Rf_give.1 ∈ TB ∧ Cond.selects M_Rf_give.1.cls M_Rf_give.1 M_Rf_give.1 ∈ TB := ⟨tb_mem 851 (by decide +kernel) (by decide +kernel), tb_mem 852 (by decide +kernel) (by decide +kernel)⟩
theorem cm_Rf_goHour : CM M_Rf_goHour 1 := ⟨tb_mem 860 (by decide +kernel) (by decide +kernel), tb_mem 48 (by decide +kernel) (by decide +kernel), by decide +kernel, by decide +kernel, by decide +kernel⟩
theorem st_Rf_goHour : Cond.static M_Rf_goHour.1 ∈ TB := tb_mem 859 (by decide +kernel) (by decide +kernel)
theorem cm_Rf_hour : CM M_Rf_hour 0 := ⟨tb_mem 857 (by decide +kernel) (by decide +kernel), tb_mem 48 (by decide +kernel) (by decide +kernel), by decide +kernel, by decide +kernel, by decide +kernel⟩
theorem iv_Rf_hour : Cond.instanceMethod M_Rf_hour.1 ∈ TB ∧ Cond.selects M_Rf_hour.1.cls M_Rf_hour.1 M_Rf_hour.1 ∈ TB := ⟨tb_mem 855 (by decide +kernel) (by decide +kernel), tb_mem 856 (by decide +kernel) (by decide +kernel)⟩
theorem cm_Rf_undo : CM M_Rf_undo 0 := ⟨tb_mem 864 (by decide +kernel) (by decide +kernel), tb_mem 48 (by decide +kernel) (by decide +kernel), by decide +kernel, by decide +kernel, by decide +kernel⟩
theorem iv_Rf_undo : Cond.instanceMethod M_Rf_undo.1 ∈ TB ∧ Cond.selects M_Rf_undo.1.cls M_Rf_undo.1 M_Rf_undo.1 ∈ TB := ⟨tb_mem 862 (by decide +kernel) (by decide +kernel), tb_mem 863 (by decide +kernel) (by decide +kernel)⟩
theorem cm_Rf_tiltsOf : CM M_Rf_tiltsOf 2 := ⟨tb_mem 872 (by decide +kernel) (by decide +kernel), tb_mem 48 (by decide +kernel) (by decide +kernel), by decide +kernel, by decide +kernel, by decide +kernel⟩
theorem iv_Rf_tiltsOf : Cond.instanceMethod M_Rf_tiltsOf.1 ∈ TB ∧ Cond.selects M_Rf_tiltsOf.1.cls M_Rf_tiltsOf.1 M_Rf_tiltsOf.1 ∈ TB := ⟨tb_mem 871 (by decide +kernel) (by decide +kernel), tb_mem 30 (by decide +kernel) (by decide +kernel)⟩
theorem cm_Rf_tilts : CM M_Rf_tilts 2 := ⟨tb_mem 868 (by decide +kernel) (by decide +kernel), tb_mem 48 (by decide +kernel) (by decide +kernel), by decide +kernel, by decide +kernel, by decide +kernel⟩
theorem iv_Rf_tilts : Cond.instanceMethod M_Rf_tilts.1 ∈ TB ∧ Cond.selects M_Rf_tilts.1.cls M_Rf_tilts.1 M_Rf_tilts.1 ∈ TB := ⟨tb_mem 866 (by decide +kernel) (by decide +kernel), tb_mem 867 (by decide +kernel) (by decide +kernel)⟩
theorem cm_Rf_findsOf : CM M_Rf_findsOf 2 := ⟨tb_mem 881 (by decide +kernel) (by decide +kernel), tb_mem 48 (by decide +kernel) (by decide +kernel), by decide +kernel, by decide +kernel, by decide +kernel⟩
theorem iv_Rf_findsOf : Cond.instanceMethod M_Rf_findsOf.1 ∈ TB ∧ Cond.selects M_Rf_findsOf.1.cls M_Rf_findsOf.1 M_Rf_findsOf.1 ∈ TB := ⟨tb_mem 880 (by decide +kernel) (by decide +kernel), tb_mem 31 (by decide +kernel) (by decide +kernel)⟩
theorem cm_Rf_finds : CM M_Rf_finds 2 := ⟨tb_mem 876 (by decide +kernel) (by decide +kernel), tb_mem 48 (by decide +kernel) (by decide +kernel), by decide +kernel, by decide +kernel, by decide +kernel⟩
theorem iv_Rf_finds : Cond.instanceMethod M_Rf_finds.1 ∈ TB ∧ Cond.selects M_Rf_finds.1.cls M_Rf_finds.1 M_Rf_finds.1 ∈ TB := ⟨tb_mem 874 (by decide +kernel) (by decide +kernel), tb_mem 875 (by decide +kernel) (by decide +kernel)⟩
theorem cm_Rf_partsHeld : CM M_Rf_partsHeld 1 := ⟨tb_mem 889 (by decide +kernel) (by decide +kernel), tb_mem 48 (by decide +kernel) (by decide +kernel), by decide +kernel, by decide +kernel, by decide +kernel⟩
theorem iv_Rf_partsHeld : Cond.instanceMethod M_Rf_partsHeld.1 ∈ TB ∧ Cond.selects M_Rf_partsHeld.1.cls M_Rf_partsHeld.1 M_Rf_partsHeld.1 ∈ TB := ⟨tb_mem 888 (by decide +kernel) (by decide +kernel), tb_mem 32 (by decide +kernel) (by decide +kernel)⟩
theorem cm_Rf_all : CM M_Rf_all 1 := ⟨tb_mem 885 (by decide +kernel) (by decide +kernel), tb_mem 48 (by decide +kernel) (by decide +kernel), by decide +kernel, by decide +kernel, by decide +kernel⟩
theorem iv_Rf_all : Cond.instanceMethod M_Rf_all.1 ∈ TB ∧ Cond.selects M_Rf_all.1.cls M_Rf_all.1 M_Rf_all.1 ∈ TB := ⟨tb_mem 883 (by decide +kernel) (by decide +kernel), tb_mem 884 (by decide +kernel) (by decide +kernel)⟩
theorem cm_Rf_begin : CM M_Rf_begin 0 := ⟨tb_mem 897 (by decide +kernel) (by decide +kernel), tb_mem 48 (by decide +kernel) (by decide +kernel), by decide +kernel, by decide +kernel, by decide +kernel⟩
theorem iv_Rf_begin : Cond.instanceMethod M_Rf_begin.1 ∈ TB ∧ Cond.selects M_Rf_begin.1.cls M_Rf_begin.1 M_Rf_begin.1 ∈ TB := ⟨tb_mem 896 (by decide +kernel) (by decide +kernel), tb_mem 33 (by decide +kernel) (by decide +kernel)⟩
theorem cm_Rf_when : CM M_Rf_when 2 := ⟨tb_mem 893 (by decide +kernel) (by decide +kernel), tb_mem 48 (by decide +kernel) (by decide +kernel), by decide +kernel, by decide +kernel, by decide +kernel⟩
theorem iv_Rf_when : Cond.instanceMethod M_Rf_when.1 ∈ TB ∧ Cond.selects M_Rf_when.1.cls M_Rf_when.1 M_Rf_when.1 ∈ TB := ⟨tb_mem 891 (by decide +kernel) (by decide +kernel), tb_mem 892 (by decide +kernel) (by decide +kernel)⟩
theorem cm_Rf_mayBeOne : CM M_Rf_mayBeOne 2 := ⟨tb_mem 912 (by decide +kernel) (by decide +kernel), tb_mem 48 (by decide +kernel) (by decide +kernel), by decide +kernel, by decide +kernel, by decide +kernel⟩
theorem iv_Rf_mayBeOne : Cond.instanceMethod M_Rf_mayBeOne.1 ∈ TB ∧ Cond.selects M_Rf_mayBeOne.1.cls M_Rf_mayBeOne.1 M_Rf_mayBeOne.1 ∈ TB := ⟨tb_mem 911 (by decide +kernel) (by decide +kernel), tb_mem 35 (by decide +kernel) (by decide +kernel)⟩
theorem cm_Rf_isLaid : CM M_Rf_isLaid 2 := ⟨tb_mem 908 (by decide +kernel) (by decide +kernel), tb_mem 48 (by decide +kernel) (by decide +kernel), by decide +kernel, by decide +kernel, by decide +kernel⟩
theorem iv_Rf_isLaid : Cond.instanceMethod M_Rf_isLaid.1 ∈ TB ∧ Cond.selects M_Rf_isLaid.1.cls M_Rf_isLaid.1 M_Rf_isLaid.1 ∈ TB := ⟨tb_mem 907 (by decide +kernel) (by decide +kernel), tb_mem 34 (by decide +kernel) (by decide +kernel)⟩
theorem cm_Rf_mothers : CM M_Rf_mothers 0 := ⟨tb_mem 901 (by decide +kernel) (by decide +kernel), tb_mem 48 (by decide +kernel) (by decide +kernel), by decide +kernel, by decide +kernel, by decide +kernel⟩
theorem iv_Rf_mothers : Cond.instanceMethod M_Rf_mothers.1 ∈ TB ∧ Cond.selects M_Rf_mothers.1.cls M_Rf_mothers.1 M_Rf_mothers.1 ∈ TB := ⟨tb_mem 899 (by decide +kernel) (by decide +kernel), tb_mem 900 (by decide +kernel) (by decide +kernel)⟩
theorem cm_Rf_giving : CM M_Rf_giving 1 := ⟨tb_mem 916 (by decide +kernel) (by decide +kernel), tb_mem 48 (by decide +kernel) (by decide +kernel), by decide +kernel, by decide +kernel, by decide +kernel⟩
theorem iv_Rf_giving : Cond.instanceMethod M_Rf_giving.1 ∈ TB ∧ Cond.selects M_Rf_giving.1.cls M_Rf_giving.1 M_Rf_giving.1 ∈ TB := ⟨tb_mem 914 (by decide +kernel) (by decide +kernel), tb_mem 915 (by decide +kernel) (by decide +kernel)⟩
theorem cm_Rf_longPower : CM M_Rf_longPower 2 := ⟨tb_mem 927 (by decide +kernel) (by decide +kernel), tb_mem 48 (by decide +kernel) (by decide +kernel), by decide +kernel, by decide +kernel, by decide +kernel⟩
theorem st_Rf_longPower : Cond.static M_Rf_longPower.1 ∈ TB := tb_mem 926 (by decide +kernel) (by decide +kernel)
theorem cm_Rf_does : CM M_Rf_does 1 := ⟨tb_mem 931 (by decide +kernel) (by decide +kernel), tb_mem 48 (by decide +kernel) (by decide +kernel), by decide +kernel, by decide +kernel, by decide +kernel⟩
theorem iv_Rf_does : Cond.instanceMethod M_Rf_does.1 ∈ TB ∧ Cond.selects M_Rf_does.1.cls M_Rf_does.1 M_Rf_does.1 ∈ TB := ⟨tb_mem 930 (by decide +kernel) (by decide +kernel), tb_mem 36 (by decide +kernel) (by decide +kernel)⟩
theorem cm_Rf_judge : CM M_Rf_judge 2 := ⟨tb_mem 923 (by decide +kernel) (by decide +kernel), tb_mem 48 (by decide +kernel) (by decide +kernel), by decide +kernel, by decide +kernel, by decide +kernel⟩
theorem iv_Rf_judge : Cond.instanceMethod M_Rf_judge.1 ∈ TB ∧ Cond.selects M_Rf_judge.1.cls M_Rf_judge.1 M_Rf_judge.1 ∈ TB := ⟨tb_mem 921 (by decide +kernel) (by decide +kernel), tb_mem 922 (by decide +kernel) (by decide +kernel)⟩
theorem cm_Rf_ways : CM M_Rf_ways 1 := ⟨tb_mem 938 (by decide +kernel) (by decide +kernel), tb_mem 48 (by decide +kernel) (by decide +kernel), by decide +kernel, by decide +kernel, by decide +kernel⟩
theorem st_Rf_ways : Cond.static M_Rf_ways.1 ∈ TB := tb_mem 937 (by decide +kernel) (by decide +kernel)
theorem cm_Rf_divisor : CM M_Rf_divisor 2 := ⟨tb_mem 944 (by decide +kernel) (by decide +kernel), tb_mem 48 (by decide +kernel) (by decide +kernel), by decide +kernel, by decide +kernel, by decide +kernel⟩
theorem st_Rf_divisor : Cond.static M_Rf_divisor.1 ∈ TB := tb_mem 943 (by decide +kernel) (by decide +kernel)
theorem cm_Rf_fraction : CM M_Rf_fraction 3 := ⟨tb_mem 941 (by decide +kernel) (by decide +kernel), tb_mem 48 (by decide +kernel) (by decide +kernel), by decide +kernel, by decide +kernel, by decide +kernel⟩
theorem st_Rf_fraction : Cond.static M_Rf_fraction.1 ∈ TB := tb_mem 940 (by decide +kernel) (by decide +kernel)
theorem cm_Rf_share : CM M_Rf_share 2 := ⟨tb_mem 935 (by decide +kernel) (by decide +kernel), tb_mem 48 (by decide +kernel) (by decide +kernel), by decide +kernel, by decide +kernel, by decide +kernel⟩
theorem iv_Rf_share : Cond.instanceMethod M_Rf_share.1 ∈ TB ∧ Cond.selects M_Rf_share.1.cls M_Rf_share.1 M_Rf_share.1 ∈ TB := ⟨tb_mem 933 (by decide +kernel) (by decide +kernel), tb_mem 934 (by decide +kernel) (by decide +kernel)⟩
theorem cm_Rf_turn : CM M_Rf_turn 2 := ⟨tb_mem 948 (by decide +kernel) (by decide +kernel), tb_mem 48 (by decide +kernel) (by decide +kernel), by decide +kernel, by decide +kernel, by decide +kernel⟩
theorem iv_Rf_turn : Cond.instanceMethod M_Rf_turn.1 ∈ TB ∧ Cond.selects M_Rf_turn.1.cls M_Rf_turn.1 M_Rf_turn.1 ∈ TB := ⟨tb_mem 946 (by decide +kernel) (by decide +kernel), tb_mem 947 (by decide +kernel) (by decide +kernel)⟩
theorem cm_Rf_unturn : CM M_Rf_unturn 0 := ⟨tb_mem 953 (by decide +kernel) (by decide +kernel), tb_mem 48 (by decide +kernel) (by decide +kernel), by decide +kernel, by decide +kernel, by decide +kernel⟩
theorem iv_Rf_unturn : Cond.instanceMethod M_Rf_unturn.1 ∈ TB ∧ Cond.selects M_Rf_unturn.1.cls M_Rf_unturn.1 M_Rf_unturn.1 ∈ TB := ⟨tb_mem 951 (by decide +kernel) (by decide +kernel), tb_mem 952 (by decide +kernel) (by decide +kernel)⟩
theorem cm_Rf_answer : CM M_Rf_answer 2 := ⟨tb_mem 964 (by decide +kernel) (by decide +kernel), tb_mem 48 (by decide +kernel) (by decide +kernel), by decide +kernel, by decide +kernel, by decide +kernel⟩
theorem st_Rf_answer : Cond.static M_Rf_answer.1 ∈ TB := tb_mem 963 (by decide +kernel) (by decide +kernel)
theorem cm_Rf_mayBe : CM M_Rf_mayBe 1 := ⟨tb_mem 961 (by decide +kernel) (by decide +kernel), tb_mem 48 (by decide +kernel) (by decide +kernel), by decide +kernel, by decide +kernel, by decide +kernel⟩
theorem iv_Rf_mayBe : Cond.instanceMethod M_Rf_mayBe.1 ∈ TB ∧ Cond.selects M_Rf_mayBe.1.cls M_Rf_mayBe.1 M_Rf_mayBe.1 ∈ TB := ⟨tb_mem 960 (by decide +kernel) (by decide +kernel), tb_mem 37 (by decide +kernel) (by decide +kernel)⟩
theorem cm_Rf_may : CM M_Rf_may 1 := ⟨tb_mem 957 (by decide +kernel) (by decide +kernel), tb_mem 48 (by decide +kernel) (by decide +kernel), by decide +kernel, by decide +kernel, by decide +kernel⟩
theorem iv_Rf_may : Cond.instanceMethod M_Rf_may.1 ∈ TB ∧ Cond.selects M_Rf_may.1.cls M_Rf_may.1 M_Rf_may.1 ∈ TB := ⟨tb_mem 955 (by decide +kernel) (by decide +kernel), tb_mem 956 (by decide +kernel) (by decide +kernel)⟩
theorem cm_Rf_greatest : CM M_Rf_greatest 1 := ⟨tb_mem 972 (by decide +kernel) (by decide +kernel), tb_mem 48 (by decide +kernel) (by decide +kernel), by decide +kernel, by decide +kernel, by decide +kernel⟩
theorem iv_Rf_greatest : Cond.instanceMethod M_Rf_greatest.1 ∈ TB ∧ Cond.selects M_Rf_greatest.1.cls M_Rf_greatest.1 M_Rf_greatest.1 ∈ TB := ⟨tb_mem 971 (by decide +kernel) (by decide +kernel), tb_mem 38 (by decide +kernel) (by decide +kernel)⟩
theorem cm_Rf_next : CM M_Rf_next 0 := ⟨tb_mem 968 (by decide +kernel) (by decide +kernel), tb_mem 48 (by decide +kernel) (by decide +kernel), by decide +kernel, by decide +kernel, by decide +kernel⟩
theorem iv_Rf_next : Cond.instanceMethod M_Rf_next.1 ∈ TB ∧ Cond.selects M_Rf_next.1.cls M_Rf_next.1 M_Rf_next.1 ∈ TB := ⟨tb_mem 966 (by decide +kernel) (by decide +kernel), tb_mem 967 (by decide +kernel) (by decide +kernel)⟩
theorem cm_Rf_rests : CM M_Rf_rests 4 := ⟨tb_mem 976 (by decide +kernel) (by decide +kernel), tb_mem 48 (by decide +kernel) (by decide +kernel), by decide +kernel, by decide +kernel, by decide +kernel⟩
theorem iv_Rf_rests : Cond.instanceMethod M_Rf_rests.1 ∈ TB ∧ Cond.selects M_Rf_rests.1.cls M_Rf_rests.1 M_Rf_rests.1 ∈ TB := ⟨tb_mem 974 (by decide +kernel) (by decide +kernel), tb_mem 975 (by decide +kernel) (by decide +kernel)⟩
theorem cm_Rf_glints : CM M_Rf_glints 5 := ⟨tb_mem 980 (by decide +kernel) (by decide +kernel), tb_mem 48 (by decide +kernel) (by decide +kernel), by decide +kernel, by decide +kernel, by decide +kernel⟩
theorem iv_Rf_glints : Cond.instanceMethod M_Rf_glints.1 ∈ TB ∧ Cond.selects M_Rf_glints.1.cls M_Rf_glints.1 M_Rf_glints.1 ∈ TB := ⟨tb_mem 978 (by decide +kernel) (by decide +kernel), tb_mem 979 (by decide +kernel) (by decide +kernel)⟩
theorem cm_Rf_seed : CM M_Rf_seed 1 := ⟨tb_mem 986 (by decide +kernel) (by decide +kernel), tb_mem 48 (by decide +kernel) (by decide +kernel), by decide +kernel, by decide +kernel, by decide +kernel⟩
theorem iv_Rf_seed : Cond.instanceMethod M_Rf_seed.1 ∈ TB ∧ Cond.selects M_Rf_seed.1.cls M_Rf_seed.1 M_Rf_seed.1 ∈ TB := ⟨tb_mem 984 (by decide +kernel) (by decide +kernel), tb_mem 985 (by decide +kernel) (by decide +kernel)⟩
theorem cm_Rf_years : CM M_Rf_years 1 := ⟨tb_mem 990 (by decide +kernel) (by decide +kernel), tb_mem 48 (by decide +kernel) (by decide +kernel), by decide +kernel, by decide +kernel, by decide +kernel⟩
theorem iv_Rf_years : Cond.instanceMethod M_Rf_years.1 ∈ TB ∧ Cond.selects M_Rf_years.1.cls M_Rf_years.1 M_Rf_years.1 ∈ TB := ⟨tb_mem 988 (by decide +kernel) (by decide +kernel), tb_mem 989 (by decide +kernel) (by decide +kernel)⟩
theorem cm_Rf_keep : CM M_Rf_keep 1 := ⟨tb_mem 998 (by decide +kernel) (by decide +kernel), tb_mem 48 (by decide +kernel) (by decide +kernel), by decide +kernel, by decide +kernel, by decide +kernel⟩
theorem iv_Rf_keep : Cond.instanceMethod M_Rf_keep.1 ∈ TB ∧ Cond.selects M_Rf_keep.1.cls M_Rf_keep.1 M_Rf_keep.1 ∈ TB := ⟨tb_mem 996 (by decide +kernel) (by decide +kernel), tb_mem 997 (by decide +kernel) (by decide +kernel)⟩
theorem cm_Rf_again : CM M_Rf_again 1 := ⟨tb_mem 1002 (by decide +kernel) (by decide +kernel), tb_mem 48 (by decide +kernel) (by decide +kernel), by decide +kernel, by decide +kernel, by decide +kernel⟩
theorem iv_Rf_again : Cond.instanceMethod M_Rf_again.1 ∈ TB ∧ Cond.selects M_Rf_again.1.cls M_Rf_again.1 M_Rf_again.1 ∈ TB := ⟨tb_mem 1000 (by decide +kernel) (by decide +kernel), tb_mem 1001 (by decide +kernel) (by decide +kernel)⟩
theorem cm_Ac_init : CM M_Ac_init 0 := ⟨tb_mem 151 (by decide +kernel) (by decide +kernel), tb_mem 44 (by decide +kernel) (by decide +kernel), by decide +kernel, by decide +kernel, by decide +kernel⟩
theorem iv_Ac_init : Cond.instanceMethod M_Ac_init.1 ∈ TB := tb_mem 150 (by decide +kernel) (by decide +kernel)
theorem cm_Ac_add : CM M_Ac_add 3 := ⟨tb_mem 419 (by decide +kernel) (by decide +kernel), tb_mem 44 (by decide +kernel) (by decide +kernel), by decide +kernel, by decide +kernel, by decide +kernel⟩
theorem iv_Ac_add : Cond.instanceMethod M_Ac_add.1 ∈ TB ∧ Cond.selects M_Ac_add.1.cls M_Ac_add.1 M_Ac_add.1 ∈ TB := ⟨tb_mem 417 (by decide +kernel) (by decide +kernel), tb_mem 418 (by decide +kernel) (by decide +kernel)⟩
theorem cm_Ac_removeLast : CM M_Ac_removeLast 0 := ⟨tb_mem 442 (by decide +kernel) (by decide +kernel), tb_mem 44 (by decide +kernel) (by decide +kernel), by decide +kernel, by decide +kernel, by decide +kernel⟩
theorem iv_Ac_removeLast : Cond.instanceMethod M_Ac_removeLast.1 ∈ TB ∧ Cond.selects M_Ac_removeLast.1.cls M_Ac_removeLast.1 M_Ac_removeLast.1 ∈ TB := ⟨tb_mem 440 (by decide +kernel) (by decide +kernel), tb_mem 441 (by decide +kernel) (by decide +kernel)⟩
theorem cm_Co_init : CM M_Co_init 0 := ⟨tb_mem 79 (by decide +kernel) (by decide +kernel), tb_mem 42 (by decide +kernel) (by decide +kernel), by decide +kernel, by decide +kernel, by decide +kernel⟩
theorem iv_Co_init : Cond.instanceMethod M_Co_init.1 ∈ TB := tb_mem 78 (by decide +kernel) (by decide +kernel)
theorem cm_Co_hasHolder : CM M_Co_hasHolder 1 := ⟨tb_mem 368 (by decide +kernel) (by decide +kernel), tb_mem 42 (by decide +kernel) (by decide +kernel), by decide +kernel, by decide +kernel, by decide +kernel⟩
theorem iv_Co_hasHolder : Cond.instanceMethod M_Co_hasHolder.1 ∈ TB ∧ Cond.selects M_Co_hasHolder.1.cls M_Co_hasHolder.1 M_Co_hasHolder.1 ∈ TB := ⟨tb_mem 366 (by decide +kernel) (by decide +kernel), tb_mem 367 (by decide +kernel) (by decide +kernel)⟩
theorem cm_Co_hasPiece : CM M_Co_hasPiece 1 := ⟨tb_mem 364 (by decide +kernel) (by decide +kernel), tb_mem 42 (by decide +kernel) (by decide +kernel), by decide +kernel, by decide +kernel, by decide +kernel⟩
theorem iv_Co_hasPiece : Cond.instanceMethod M_Co_hasPiece.1 ∈ TB ∧ Cond.selects M_Co_hasPiece.1.cls M_Co_hasPiece.1 M_Co_hasPiece.1 ∈ TB := ⟨tb_mem 362 (by decide +kernel) (by decide +kernel), tb_mem 363 (by decide +kernel) (by decide +kernel)⟩
theorem cm_Co_showsAt : CM M_Co_showsAt 3 := ⟨tb_mem 360 (by decide +kernel) (by decide +kernel), tb_mem 42 (by decide +kernel) (by decide +kernel), by decide +kernel, by decide +kernel, by decide +kernel⟩
theorem iv_Co_showsAt : Cond.instanceMethod M_Co_showsAt.1 ∈ TB ∧ Cond.selects M_Co_showsAt.1.cls M_Co_showsAt.1 M_Co_showsAt.1 ∈ TB := ⟨tb_mem 358 (by decide +kernel) (by decide +kernel), tb_mem 359 (by decide +kernel) (by decide +kernel)⟩
theorem cm_Co_clear : CM M_Co_clear 0 := ⟨tb_mem 302 (by decide +kernel) (by decide +kernel), tb_mem 42 (by decide +kernel) (by decide +kernel), by decide +kernel, by decide +kernel, by decide +kernel⟩
theorem iv_Co_clear : Cond.instanceMethod M_Co_clear.1 ∈ TB ∧ Cond.selects M_Co_clear.1.cls M_Co_clear.1 M_Co_clear.1 ∈ TB := ⟨tb_mem 300 (by decide +kernel) (by decide +kernel), tb_mem 301 (by decide +kernel) (by decide +kernel)⟩
theorem cm_Co_take : CM M_Co_take 2 := ⟨tb_mem 306 (by decide +kernel) (by decide +kernel), tb_mem 42 (by decide +kernel) (by decide +kernel), by decide +kernel, by decide +kernel, by decide +kernel⟩
theorem iv_Co_take : Cond.instanceMethod M_Co_take.1 ∈ TB ∧ Cond.selects M_Co_take.1.cls M_Co_take.1 M_Co_take.1 ∈ TB := ⟨tb_mem 304 (by decide +kernel) (by decide +kernel), tb_mem 305 (by decide +kernel) (by decide +kernel)⟩
theorem cm_Co_takeThing : CM M_Co_takeThing 1 := ⟨tb_mem 313 (by decide +kernel) (by decide +kernel), tb_mem 42 (by decide +kernel) (by decide +kernel), by decide +kernel, by decide +kernel, by decide +kernel⟩
theorem iv_Co_takeThing : Cond.instanceMethod M_Co_takeThing.1 ∈ TB ∧ Cond.selects M_Co_takeThing.1.cls M_Co_takeThing.1 M_Co_takeThing.1 ∈ TB := ⟨tb_mem 311 (by decide +kernel) (by decide +kernel), tb_mem 312 (by decide +kernel) (by decide +kernel)⟩
theorem cm_Co_takeFigure : CM M_Co_takeFigure 4 := ⟨tb_mem 316 (by decide +kernel) (by decide +kernel), tb_mem 42 (by decide +kernel) (by decide +kernel), by decide +kernel, by decide +kernel, by decide +kernel⟩
theorem st_Co_takeFigure : Cond.static M_Co_takeFigure.1 ∈ TB := tb_mem 315 (by decide +kernel) (by decide +kernel)
theorem cm_Co_endHolder : CM M_Co_endHolder 0 := ⟨tb_mem 320 (by decide +kernel) (by decide +kernel), tb_mem 42 (by decide +kernel) (by decide +kernel), by decide +kernel, by decide +kernel, by decide +kernel⟩
theorem iv_Co_endHolder : Cond.instanceMethod M_Co_endHolder.1 ∈ TB ∧ Cond.selects M_Co_endHolder.1.cls M_Co_endHolder.1 M_Co_endHolder.1 ∈ TB := ⟨tb_mem 318 (by decide +kernel) (by decide +kernel), tb_mem 319 (by decide +kernel) (by decide +kernel)⟩
theorem cm_Co_endPiece : CM M_Co_endPiece 0 := ⟨tb_mem 324 (by decide +kernel) (by decide +kernel), tb_mem 42 (by decide +kernel) (by decide +kernel), by decide +kernel, by decide +kernel, by decide +kernel⟩
theorem iv_Co_endPiece : Cond.instanceMethod M_Co_endPiece.1 ∈ TB ∧ Cond.selects M_Co_endPiece.1.cls M_Co_endPiece.1 M_Co_endPiece.1 ∈ TB := ⟨tb_mem 322 (by decide +kernel) (by decide +kernel), tb_mem 323 (by decide +kernel) (by decide +kernel)⟩
theorem cm_Gi_init : CM M_Gi_init 0 := ⟨tb_mem 193 (by decide +kernel) (by decide +kernel), tb_mem 46 (by decide +kernel) (by decide +kernel), by decide +kernel, by decide +kernel, by decide +kernel⟩
theorem iv_Gi_init : Cond.instanceMethod M_Gi_init.1 ∈ TB := tb_mem 192 (by decide +kernel) (by decide +kernel)
theorem cm_Gi_begin : CM M_Gi_begin 2 := ⟨tb_mem 512 (by decide +kernel) (by decide +kernel), tb_mem 46 (by decide +kernel) (by decide +kernel), by decide +kernel, by decide +kernel, by decide +kernel⟩
theorem iv_Gi_begin : Cond.instanceMethod M_Gi_begin.1 ∈ TB ∧ Cond.selects M_Gi_begin.1.cls M_Gi_begin.1 M_Gi_begin.1 ∈ TB := ⟨tb_mem 510 (by decide +kernel) (by decide +kernel), tb_mem 511 (by decide +kernel) (by decide +kernel)⟩
theorem cm_Gi_seersOf : CM M_Gi_seersOf 3 := ⟨tb_mem 516 (by decide +kernel) (by decide +kernel), tb_mem 46 (by decide +kernel) (by decide +kernel), by decide +kernel, by decide +kernel, by decide +kernel⟩
theorem st_Gi_seersOf : Cond.static M_Gi_seersOf.1 ∈ TB := tb_mem 515 (by decide +kernel) (by decide +kernel)
theorem cm_Mo_init : CM M_Mo_init 0 := ⟨tb_mem 228 (by decide +kernel) (by decide +kernel), tb_mem 47 (by decide +kernel) (by decide +kernel), by decide +kernel, by decide +kernel, by decide +kernel⟩
theorem iv_Mo_init : Cond.instanceMethod M_Mo_init.1 ∈ TB := tb_mem 227 (by decide +kernel) (by decide +kernel)
theorem cm_Mo_find : CM M_Mo_find 1 := ⟨tb_mem 490 (by decide +kernel) (by decide +kernel), tb_mem 47 (by decide +kernel) (by decide +kernel), by decide +kernel, by decide +kernel, by decide +kernel⟩
theorem iv_Mo_find : Cond.instanceMethod M_Mo_find.1 ∈ TB ∧ Cond.selects M_Mo_find.1.cls M_Mo_find.1 M_Mo_find.1 ∈ TB := ⟨tb_mem 488 (by decide +kernel) (by decide +kernel), tb_mem 489 (by decide +kernel) (by decide +kernel)⟩
theorem cm_Mo_goesWith : CM M_Mo_goesWith 3 := ⟨tb_mem 497 (by decide +kernel) (by decide +kernel), tb_mem 47 (by decide +kernel) (by decide +kernel), by decide +kernel, by decide +kernel, by decide +kernel⟩
theorem st_Mo_goesWith : Cond.static M_Mo_goesWith.1 ∈ TB := tb_mem 496 (by decide +kernel) (by decide +kernel)
theorem cm_Mo_fewestOf : CM M_Mo_fewestOf 2 := ⟨tb_mem 503 (by decide +kernel) (by decide +kernel), tb_mem 47 (by decide +kernel) (by decide +kernel), by decide +kernel, by decide +kernel, by decide +kernel⟩
theorem iv_Mo_fewestOf : Cond.instanceMethod M_Mo_fewestOf.1 ∈ TB ∧ Cond.selects M_Mo_fewestOf.1.cls M_Mo_fewestOf.1 M_Mo_fewestOf.1 ∈ TB := ⟨tb_mem 501 (by decide +kernel) (by decide +kernel), tb_mem 502 (by decide +kernel) (by decide +kernel)⟩
theorem cm_St_init : CM M_St_init 0 := ⟨tb_mem 124 (by decide +kernel) (by decide +kernel), tb_mem 43 (by decide +kernel) (by decide +kernel), by decide +kernel, by decide +kernel, by decide +kernel⟩
theorem iv_St_init : Cond.instanceMethod M_St_init.1 ∈ TB := tb_mem 123 (by decide +kernel) (by decide +kernel)
theorem cm_St_begin : CM M_St_begin 1 := ⟨tb_mem 332 (by decide +kernel) (by decide +kernel), tb_mem 43 (by decide +kernel) (by decide +kernel), by decide +kernel, by decide +kernel, by decide +kernel⟩
theorem iv_St_begin : Cond.instanceMethod M_St_begin.1 ∈ TB ∧ Cond.selects M_St_begin.1.cls M_St_begin.1 M_St_begin.1 ∈ TB := ⟨tb_mem 330 (by decide +kernel) (by decide +kernel), tb_mem 331 (by decide +kernel) (by decide +kernel)⟩
theorem cm_St_copyFrom : CM M_St_copyFrom 1 := ⟨tb_mem 535 (by decide +kernel) (by decide +kernel), tb_mem 43 (by decide +kernel) (by decide +kernel), by decide +kernel, by decide +kernel, by decide +kernel⟩
theorem iv_St_copyFrom : Cond.instanceMethod M_St_copyFrom.1 ∈ TB ∧ Cond.selects M_St_copyFrom.1.cls M_St_copyFrom.1 M_St_copyFrom.1 ∈ TB := ⟨tb_mem 533 (by decide +kernel) (by decide +kernel), tb_mem 534 (by decide +kernel) (by decide +kernel)⟩
theorem cm_St_angleOf : CM M_St_angleOf 1 := ⟨tb_mem 352 (by decide +kernel) (by decide +kernel), tb_mem 43 (by decide +kernel) (by decide +kernel), by decide +kernel, by decide +kernel, by decide +kernel⟩
theorem iv_St_angleOf : Cond.instanceMethod M_St_angleOf.1 ∈ TB ∧ Cond.selects M_St_angleOf.1.cls M_St_angleOf.1 M_St_angleOf.1 ∈ TB := ⟨tb_mem 350 (by decide +kernel) (by decide +kernel), tb_mem 351 (by decide +kernel) (by decide +kernel)⟩
theorem cm_St_tiltBy : CM M_St_tiltBy 2 := ⟨tb_mem 415 (by decide +kernel) (by decide +kernel), tb_mem 43 (by decide +kernel) (by decide +kernel), by decide +kernel, by decide +kernel, by decide +kernel⟩
theorem iv_St_tiltBy : Cond.instanceMethod M_St_tiltBy.1 ∈ TB ∧ Cond.selects M_St_tiltBy.1.cls M_St_tiltBy.1 M_St_tiltBy.1 ∈ TB := ⟨tb_mem 413 (by decide +kernel) (by decide +kernel), tb_mem 414 (by decide +kernel) (by decide +kernel)⟩
theorem cm_St_giveTo : CM M_St_giveTo 2 := ⟨tb_mem 450 (by decide +kernel) (by decide +kernel), tb_mem 43 (by decide +kernel) (by decide +kernel), by decide +kernel, by decide +kernel, by decide +kernel⟩
theorem iv_St_giveTo : Cond.instanceMethod M_St_giveTo.1 ∈ TB ∧ Cond.selects M_St_giveTo.1.cls M_St_giveTo.1 M_St_giveTo.1 ∈ TB := ⟨tb_mem 448 (by decide +kernel) (by decide +kernel), tb_mem 449 (by decide +kernel) (by decide +kernel)⟩
theorem cm_St_passHours : CM M_St_passHours 1 := ⟨tb_mem 434 (by decide +kernel) (by decide +kernel), tb_mem 43 (by decide +kernel) (by decide +kernel), by decide +kernel, by decide +kernel, by decide +kernel⟩
theorem iv_St_passHours : Cond.instanceMethod M_St_passHours.1 ∈ TB ∧ Cond.selects M_St_passHours.1.cls M_St_passHours.1 M_St_passHours.1 ∈ TB := ⟨tb_mem 432 (by decide +kernel) (by decide +kernel), tb_mem 433 (by decide +kernel) (by decide +kernel)⟩
theorem cm_Te_init : CM M_Te_init 0 := ⟨tb_mem 64 (by decide +kernel) (by decide +kernel), tb_mem 41 (by decide +kernel) (by decide +kernel), by decide +kernel, by decide +kernel, by decide +kernel⟩
theorem iv_Te_init : Cond.instanceMethod M_Te_init.1 ∈ TB := tb_mem 63 (by decide +kernel) (by decide +kernel)
theorem cm_Te_add : CM M_Te_add 1 := ⟨tb_mem 286 (by decide +kernel) (by decide +kernel), tb_mem 41 (by decide +kernel) (by decide +kernel), by decide +kernel, by decide +kernel, by decide +kernel⟩
theorem iv_Te_add : Cond.instanceMethod M_Te_add.1 ∈ TB ∧ Cond.selects M_Te_add.1.cls M_Te_add.1 M_Te_add.1 ∈ TB := ⟨tb_mem 284 (by decide +kernel) (by decide +kernel), tb_mem 285 (by decide +kernel) (by decide +kernel)⟩
theorem cm_Te_readInto : CM M_Te_readInto 1 := ⟨tb_mem 298 (by decide +kernel) (by decide +kernel), tb_mem 41 (by decide +kernel) (by decide +kernel), by decide +kernel, by decide +kernel, by decide +kernel⟩
theorem iv_Te_readInto : Cond.instanceMethod M_Te_readInto.1 ∈ TB ∧ Cond.selects M_Te_readInto.1.cls M_Te_readInto.1 M_Te_readInto.1 ∈ TB := ⟨tb_mem 296 (by decide +kernel) (by decide +kernel), tb_mem 297 (by decide +kernel) (by decide +kernel)⟩
theorem cm_Tu_init : CM M_Tu_init 0 := ⟨tb_mem 165 (by decide +kernel) (by decide +kernel), tb_mem 45 (by decide +kernel) (by decide +kernel), by decide +kernel, by decide +kernel, by decide +kernel⟩
theorem iv_Tu_init : Cond.instanceMethod M_Tu_init.1 ∈ TB := tb_mem 164 (by decide +kernel) (by decide +kernel)
theorem cm_Tu_add : CM M_Tu_add 2 := ⟨tb_mem 559 (by decide +kernel) (by decide +kernel), tb_mem 45 (by decide +kernel) (by decide +kernel), by decide +kernel, by decide +kernel, by decide +kernel⟩
theorem iv_Tu_add : Cond.instanceMethod M_Tu_add.1 ∈ TB ∧ Cond.selects M_Tu_add.1.cls M_Tu_add.1 M_Tu_add.1 ∈ TB := ⟨tb_mem 557 (by decide +kernel) (by decide +kernel), tb_mem 558 (by decide +kernel) (by decide +kernel)⟩
theorem cm_Tu_answerOf : CM M_Tu_answerOf 4 := ⟨tb_mem 578 (by decide +kernel) (by decide +kernel), tb_mem 45 (by decide +kernel) (by decide +kernel), by decide +kernel, by decide +kernel, by decide +kernel⟩
theorem st_Tu_answerOf : Cond.static M_Tu_answerOf.1 ∈ TB := tb_mem 577 (by decide +kernel) (by decide +kernel)
theorem cm_Tu_fits : CM M_Tu_fits 3 := ⟨tb_mem 575 (by decide +kernel) (by decide +kernel), tb_mem 45 (by decide +kernel) (by decide +kernel), by decide +kernel, by decide +kernel, by decide +kernel⟩
theorem iv_Tu_fits : Cond.instanceMethod M_Tu_fits.1 ∈ TB ∧ Cond.selects M_Tu_fits.1.cls M_Tu_fits.1 M_Tu_fits.1 ∈ TB := ⟨tb_mem 573 (by decide +kernel) (by decide +kernel), tb_mem 574 (by decide +kernel) (by decide +kernel)⟩
theorem cm_Tu_weigh : CM M_Tu_weigh 0 := ⟨tb_mem 571 (by decide +kernel) (by decide +kernel), tb_mem 45 (by decide +kernel) (by decide +kernel), by decide +kernel, by decide +kernel, by decide +kernel⟩
theorem iv_Tu_weigh : Cond.instanceMethod M_Tu_weigh.1 ∈ TB ∧ Cond.selects M_Tu_weigh.1.cls M_Tu_weigh.1 M_Tu_weigh.1 ∈ TB := ⟨tb_mem 569 (by decide +kernel) (by decide +kernel), tb_mem 570 (by decide +kernel) (by decide +kernel)⟩
theorem cm_Tu_tally : CM M_Tu_tally 3 := ⟨tb_mem 583 (by decide +kernel) (by decide +kernel), tb_mem 45 (by decide +kernel) (by decide +kernel), by decide +kernel, by decide +kernel, by decide +kernel⟩
theorem iv_Tu_tally : Cond.instanceMethod M_Tu_tally.1 ∈ TB ∧ Cond.selects M_Tu_tally.1.cls M_Tu_tally.1 M_Tu_tally.1 ∈ TB := ⟨tb_mem 581 (by decide +kernel) (by decide +kernel), tb_mem 582 (by decide +kernel) (by decide +kernel)⟩
theorem cm_Tu_bestAngle : CM M_Tu_bestAngle 0 := ⟨tb_mem 591 (by decide +kernel) (by decide +kernel), tb_mem 45 (by decide +kernel) (by decide +kernel), by decide +kernel, by decide +kernel, by decide +kernel⟩
theorem iv_Tu_bestAngle : Cond.instanceMethod M_Tu_bestAngle.1 ∈ TB ∧ Cond.selects M_Tu_bestAngle.1.cls M_Tu_bestAngle.1 M_Tu_bestAngle.1 ∈ TB := ⟨tb_mem 589 (by decide +kernel) (by decide +kernel), tb_mem 590 (by decide +kernel) (by decide +kernel)⟩
theorem cm_In_bitCount : CM M_In_bitCount 1 := ⟨tb_mem 523 (by decide +kernel) (by decide +kernel), tb_mem 51 (by decide +kernel) (by decide +kernel), by decide +kernel, by decide +kernel, by decide +kernel⟩
theorem st_In_bitCount : Cond.static M_In_bitCount.1 ∈ TB := tb_mem 522 (by decide +kernel) (by decide +kernel)
theorem cm_In_numberOfLeadingZeros : CM M_In_numberOfLeadingZeros 1 := ⟨tb_mem 493 (by decide +kernel) (by decide +kernel), tb_mem 51 (by decide +kernel) (by decide +kernel), by decide +kernel, by decide +kernel, by decide +kernel⟩
theorem st_In_numberOfLeadingZeros : Cond.static M_In_numberOfLeadingZeros.1 ∈ TB := tb_mem 492 (by decide +kernel) (by decide +kernel)
theorem lk_La_9 : LK "PearlMotherLaw" 9 M_PM_init := Or.inl (tb_mem 54 (by decide +kernel) (by decide +kernel))
theorem oi_PM_3 : Cond.methodLink "PearlMother" 3 objectInit ∈ TB := tb_mem 57 (by decide +kernel) (by decide +kernel)
theorem lk_PM_11 : LK "PearlMother" 11 M_Te_init := Or.inr ⟨_, List.mem_of_getElem? (i := 0) rfl⟩
theorem oi_Te_3 : Cond.methodLink "PearlMother$Text" 3 objectInit ∈ TB := tb_mem 65 (by decide +kernel) (by decide +kernel)
theorem lk_PM_18 : LK "PearlMother" 18 M_Co_init := Or.inr ⟨_, List.mem_of_getElem? (i := 1) rfl⟩
theorem oi_Co_3 : Cond.methodLink "PearlMother$Coast" 3 objectInit ∈ TB := tb_mem 80 (by decide +kernel) (by decide +kernel)
theorem lk_PM_28 : LK "PearlMother" 28 M_St_init := Or.inr ⟨_, List.mem_of_getElem? (i := 2) rfl⟩
theorem oi_St_3 : Cond.methodLink "PearlMother$State" 3 objectInit ∈ TB := tb_mem 125 (by decide +kernel) (by decide +kernel)
theorem lk_PM_42 : LK "PearlMother" 42 M_Ac_init := Or.inr ⟨_, List.mem_of_getElem? (i := 3) rfl⟩
theorem oi_Ac_3 : Cond.methodLink "PearlMother$Acts" 3 objectInit ∈ TB := tb_mem 152 (by decide +kernel) (by decide +kernel)
theorem lk_PM_49 : LK "PearlMother" 49 M_Tu_init := Or.inr ⟨_, List.mem_of_getElem? (i := 4) rfl⟩
theorem oi_Tu_3 : Cond.methodLink "PearlMother$Turned" 3 objectInit ∈ TB := tb_mem 166 (by decide +kernel) (by decide +kernel)
theorem lk_PM_56 : LK "PearlMother" 56 M_Gi_init := Or.inr ⟨_, List.mem_of_getElem? (i := 5) rfl⟩
theorem oi_Gi_3 : Cond.methodLink "PearlMother$Givings" 3 objectInit ∈ TB := tb_mem 194 (by decide +kernel) (by decide +kernel)
theorem lk_PM_63 : LK "PearlMother" 63 M_Mo_init := Or.inr ⟨_, List.mem_of_getElem? (i := 6) rfl⟩
theorem oi_Mo_3 : Cond.methodLink "PearlMother$Mothers" 3 objectInit ∈ TB := tb_mem 229 (by decide +kernel) (by decide +kernel)
theorem lk_La_13 : LK "PearlMotherLaw" 13 M_PM_write := Or.inl (tb_mem 279 (by decide +kernel) (by decide +kernel))
theorem lk_PM_75 : LK "PearlMother" 75 M_Te_add := Or.inl (tb_mem 283 (by decide +kernel) (by decide +kernel))
theorem lk_La_18 : LK "PearlMotherLaw" 18 M_PM_wipe := Or.inl (tb_mem 287 (by decide +kernel) (by decide +kernel))
theorem lk_La_23 : LK "PearlMotherLaw" 23 M_PM_fault := Or.inl (tb_mem 291 (by decide +kernel) (by decide +kernel))
theorem lk_PM_83 : LK "PearlMother" 83 M_Te_readInto := Or.inl (tb_mem 295 (by decide +kernel) (by decide +kernel))
theorem lk_Te_19 : LK "PearlMother$Text" 19 M_Co_clear := Or.inl (tb_mem 299 (by decide +kernel) (by decide +kernel))
theorem lk_Te_24 : LK "PearlMother$Text" 24 M_Co_take := Or.inl (tb_mem 303 (by decide +kernel) (by decide +kernel))
theorem lk_Co_31 : LK "PearlMother$Coast" 31 M_PM_isBelow := Or.inr ⟨_, List.mem_of_getElem? (i := 7) rfl⟩
theorem lk_Co_52 : LK "PearlMother$Coast" 52 M_Co_takeThing := Or.inl (tb_mem 310 (by decide +kernel) (by decide +kernel))
theorem lk_Co_56 : LK "PearlMother$Coast" 56 M_Co_takeFigure := Or.inl (tb_mem 314 (by decide +kernel) (by decide +kernel))
theorem lk_Co_60 : LK "PearlMother$Coast" 60 M_Co_endHolder := Or.inl (tb_mem 317 (by decide +kernel) (by decide +kernel))
theorem lk_Co_64 : LK "PearlMother$Coast" 64 M_Co_endPiece := Or.inl (tb_mem 321 (by decide +kernel) (by decide +kernel))
theorem lk_La_27 : LK "PearlMotherLaw" 27 M_PM_coast := Or.inl (tb_mem 325 (by decide +kernel) (by decide +kernel))
theorem lk_PM_87 : LK "PearlMother" 87 M_St_begin := Or.inl (tb_mem 329 (by decide +kernel) (by decide +kernel))
theorem lk_La_31 : LK "PearlMotherLaw" 31 M_PM_about := Or.inl (tb_mem 333 (by decide +kernel) (by decide +kernel))
theorem lk_PM_110 : LK "PearlMother" 110 M_PM_whoSeesHerLook := Or.inl (tb_mem 337 (by decide +kernel) (by decide +kernel))
theorem lk_PM_129 : LK "PearlMother" 129 M_PM_partsSeen := Or.inl (tb_mem 341 (by decide +kernel) (by decide +kernel))
theorem lk_PM_154 : LK "PearlMother" 154 M_PM_showsAfter := Or.inl (tb_mem 345 (by decide +kernel) (by decide +kernel))
theorem lk_PM_151 : LK "PearlMother" 151 M_St_angleOf := Or.inl (tb_mem 349 (by decide +kernel) (by decide +kernel))
theorem lk_St_35 : LK "PearlMother$State" 35 M_PM_isBelow := Or.inr ⟨_, List.mem_of_getElem? (i := 8) rfl⟩
theorem lk_St_39 : LK "PearlMother$State" 39 M_PM_byEight := Or.inr ⟨_, List.mem_of_getElem? (i := 9) rfl⟩
theorem lk_PM_162 : LK "PearlMother" 162 M_Co_showsAt := Or.inl (tb_mem 357 (by decide +kernel) (by decide +kernel))
theorem lk_Co_38 : LK "PearlMother$Coast" 38 M_Co_hasPiece := Or.inl (tb_mem 361 (by decide +kernel) (by decide +kernel))
theorem lk_Co_42 : LK "PearlMother$Coast" 42 M_Co_hasHolder := Or.inl (tb_mem 365 (by decide +kernel) (by decide +kernel))
theorem lk_Co_45 : LK "PearlMother$Coast" 45 M_PM_isShown := Or.inr ⟨_, List.mem_of_getElem? (i := 10) rfl⟩
theorem lk_PM_281 : LK "PearlMother" 281 M_PM_reachOf := Or.inl (tb_mem 372 (by decide +kernel) (by decide +kernel))
theorem lk_PM_284 : LK "PearlMother" 284 M_PM_apart := Or.inl (tb_mem 375 (by decide +kernel) (by decide +kernel))
theorem lk_PM_273 : LK "PearlMother" 273 M_PM_byEight := Or.inl (tb_mem 378 (by decide +kernel) (by decide +kernel))
theorem mm_PM_276 : Cond.methodLink "PearlMother" 276 Lib.Math.min.name ∈ TB := tb_mem 379 (by decide +kernel) (by decide +kernel)
theorem lk_PM_193 : LK "PearlMother" 193 M_PM_hasBit := Or.inl (tb_mem 382 (by decide +kernel) (by decide +kernel))
theorem lk_PM_114 : LK "PearlMother" 114 M_PM_partsSeenTogether := Or.inl (tb_mem 385 (by decide +kernel) (by decide +kernel))
theorem lk_La_35 : LK "PearlMotherLaw" 35 M_PM_holder := Or.inl (tb_mem 389 (by decide +kernel) (by decide +kernel))
theorem lk_PM_119 : LK "PearlMother" 119 M_Co_hasHolder := Or.inl (tb_mem 393 (by decide +kernel) (by decide +kernel))
theorem lk_PM_125 : LK "PearlMother" 125 M_PM_piecesOf := Or.inl (tb_mem 394 (by decide +kernel) (by decide +kernel))
theorem lk_La_40 : LK "PearlMotherLaw" 40 M_PM_piece := Or.inl (tb_mem 398 (by decide +kernel) (by decide +kernel))
theorem lk_PM_133 : LK "PearlMother" 133 M_Co_hasPiece := Or.inl (tb_mem 402 (by decide +kernel) (by decide +kernel))
theorem lk_La_44 : LK "PearlMotherLaw" 44 M_PM_shows := Or.inl (tb_mem 403 (by decide +kernel) (by decide +kernel))
theorem lk_PM_158 : LK "PearlMother" 158 M_PM_isBelow := Or.inl (tb_mem 407 (by decide +kernel) (by decide +kernel))
theorem lk_La_49 : LK "PearlMotherLaw" 49 M_PM_tilt := Or.inl (tb_mem 408 (by decide +kernel) (by decide +kernel))
theorem lk_PM_166 : LK "PearlMother" 166 M_St_tiltBy := Or.inl (tb_mem 412 (by decide +kernel) (by decide +kernel))
theorem lk_PM_170 : LK "PearlMother" 170 M_Ac_add := Or.inl (tb_mem 416 (by decide +kernel) (by decide +kernel))
theorem cp_Ac_19 : Cond.methodLink "PearlMother$Acts" 19 arraycopyName ∈ TB := tb_mem 420 (by decide +kernel) (by decide +kernel)
theorem lk_La_54 : LK "PearlMotherLaw" 54 M_PM_give := Or.inl (tb_mem 423 (by decide +kernel) (by decide +kernel))
theorem lk_La_58 : LK "PearlMotherLaw" 58 M_PM_hour := Or.inl (tb_mem 427 (by decide +kernel) (by decide +kernel))
theorem lk_PM_173 : LK "PearlMother" 173 M_St_passHours := Or.inl (tb_mem 431 (by decide +kernel) (by decide +kernel))
theorem lk_La_62 : LK "PearlMotherLaw" 62 M_PM_undo := Or.inl (tb_mem 435 (by decide +kernel) (by decide +kernel))
theorem lk_PM_177 : LK "PearlMother" 177 M_Ac_removeLast := Or.inl (tb_mem 439 (by decide +kernel) (by decide +kernel))
theorem lk_PM_180 : LK "PearlMother" 180 M_PM_takeBack := Or.inl (tb_mem 443 (by decide +kernel) (by decide +kernel))
theorem lk_PM_287 : LK "PearlMother" 287 M_St_giveTo := Or.inl (tb_mem 447 (by decide +kernel) (by decide +kernel))
theorem lk_La_66 : LK "PearlMotherLaw" 66 M_PM_tilts := Or.inl (tb_mem 451 (by decide +kernel) (by decide +kernel))
theorem lk_PM_183 : LK "PearlMother" 183 M_PM_fewestTilts := Or.inl (tb_mem 455 (by decide +kernel) (by decide +kernel))
theorem lk_La_70 : LK "PearlMotherLaw" 70 M_PM_finds := Or.inl (tb_mem 459 (by decide +kernel) (by decide +kernel))
theorem lk_PM_187 : LK "PearlMother" 187 M_PM_fewestTiltsToSee := Or.inl (tb_mem 463 (by decide +kernel) (by decide +kernel))
theorem lk_La_74 : LK "PearlMotherLaw" 74 M_PM_all := Or.inl (tb_mem 467 (by decide +kernel) (by decide +kernel))
theorem lk_PM_190 : LK "PearlMother" 190 M_PM_partsHeld := Or.inl (tb_mem 471 (by decide +kernel) (by decide +kernel))
theorem lk_La_78 : LK "PearlMotherLaw" 78 M_PM_when := Or.inl (tb_mem 475 (by decide +kernel) (by decide +kernel))
theorem lk_PM_196 : LK "PearlMother" 196 M_PM_hoursUntilSeen := Or.inl (tb_mem 479 (by decide +kernel) (by decide +kernel))
theorem lk_La_82 : LK "PearlMotherLaw" 82 M_PM_mothers := Or.inl (tb_mem 483 (by decide +kernel) (by decide +kernel))
theorem lk_PM_199 : LK "PearlMother" 199 M_Mo_find := Or.inl (tb_mem 487 (by decide +kernel) (by decide +kernel))
theorem lk_Mo_25 : LK "PearlMother$Mothers" 25 M_In_numberOfLeadingZeros := Or.inl (tb_mem 491 (by decide +kernel) (by decide +kernel))
theorem lk_Mo_31 : LK "PearlMother$Mothers" 31 M_Mo_goesWith := Or.inl (tb_mem 495 (by decide +kernel) (by decide +kernel))
theorem lk_Mo_39 : LK "PearlMother$Mothers" 39 M_PM_hasBit := Or.inr ⟨_, List.mem_of_getElem? (i := 11) rfl⟩
theorem lk_Mo_49 : LK "PearlMother$Mothers" 49 M_PM_apart := Or.inr ⟨_, List.mem_of_getElem? (i := 12) rfl⟩
theorem lk_Mo_35 : LK "PearlMother$Mothers" 35 M_Mo_fewestOf := Or.inl (tb_mem 500 (by decide +kernel) (by decide +kernel))
theorem mm_Mo_52 : Cond.methodLink "PearlMother$Mothers" 52 Lib.Math.min.name ∈ TB := tb_mem 504 (by decide +kernel) (by decide +kernel)
theorem lk_La_86 : LK "PearlMotherLaw" 86 M_PM_giving := Or.inl (tb_mem 505 (by decide +kernel) (by decide +kernel))
theorem lk_PM_205 : LK "PearlMother" 205 M_Gi_begin := Or.inl (tb_mem 509 (by decide +kernel) (by decide +kernel))
theorem lk_Gi_39 : LK "PearlMother$Givings" 39 M_St_angleOf := Or.inl (tb_mem 513 (by decide +kernel) (by decide +kernel))
theorem lk_Gi_45 : LK "PearlMother$Givings" 45 M_Gi_seersOf := Or.inl (tb_mem 514 (by decide +kernel) (by decide +kernel))
theorem lk_Gi_49 : LK "PearlMother$Givings" 49 M_Co_showsAt := Or.inl (tb_mem 517 (by decide +kernel) (by decide +kernel))
theorem lk_PM_208 : LK "PearlMother" 208 M_PM_tryGivings := Or.inl (tb_mem 518 (by decide +kernel) (by decide +kernel))
theorem lk_PM_268 : LK "PearlMother" 268 M_In_bitCount := Or.inl (tb_mem 521 (by decide +kernel) (by decide +kernel))
theorem lk_La_93 : LK "PearlMotherLaw" 93 M_PM_judge := Or.inl (tb_mem 527 (by decide +kernel) (by decide +kernel))
theorem lk_PM_220 : LK "PearlMother" 220 M_St_copyFrom := Or.inl (tb_mem 532 (by decide +kernel) (by decide +kernel))
theorem cp_St_29 : Cond.methodLink "PearlMother$State" 29 arraycopyName ∈ TB := tb_mem 536 (by decide +kernel) (by decide +kernel)
theorem lk_PM_224 : LK "PearlMother" 224 M_PM_canBeDone := Or.inl (tb_mem 537 (by decide +kernel) (by decide +kernel))
theorem lk_La_98 : LK "PearlMotherLaw" 98 M_PM_share := Or.inl (tb_mem 541 (by decide +kernel) (by decide +kernel))
theorem lk_PM_227 : LK "PearlMother" 227 M_PM_inLeastTerms := Or.inl (tb_mem 545 (by decide +kernel) (by decide +kernel))
theorem lk_PM_231 : LK "PearlMother" 231 M_PM_piecesThatShow := Or.inl (tb_mem 548 (by decide +kernel) (by decide +kernel))
theorem lk_La_102 : LK "PearlMotherLaw" 102 M_PM_turn := Or.inl (tb_mem 552 (by decide +kernel) (by decide +kernel))
theorem lk_PM_234 : LK "PearlMother" 234 M_Tu_add := Or.inl (tb_mem 556 (by decide +kernel) (by decide +kernel))
theorem lk_La_106 : LK "PearlMotherLaw" 106 M_PM_unturn := Or.inl (tb_mem 560 (by decide +kernel) (by decide +kernel))
theorem lk_La_110 : LK "PearlMotherLaw" 110 M_PM_may := Or.inl (tb_mem 564 (by decide +kernel) (by decide +kernel))
theorem lk_PM_236 : LK "PearlMother" 236 M_Tu_weigh := Or.inl (tb_mem 568 (by decide +kernel) (by decide +kernel))
theorem lk_Tu_39 : LK "PearlMother$Turned" 39 M_Tu_fits := Or.inl (tb_mem 572 (by decide +kernel) (by decide +kernel))
theorem lk_Tu_29 : LK "PearlMother$Turned" 29 M_Tu_answerOf := Or.inl (tb_mem 576 (by decide +kernel) (by decide +kernel))
theorem lk_Tu_25 : LK "PearlMother$Turned" 25 M_PM_isShown := Or.inr ⟨_, List.mem_of_getElem? (i := 13) rfl⟩
theorem lk_Tu_43 : LK "PearlMother$Turned" 43 M_Tu_tally := Or.inl (tb_mem 580 (by decide +kernel) (by decide +kernel))
theorem lk_La_114 : LK "PearlMotherLaw" 114 M_PM_next := Or.inl (tb_mem 584 (by decide +kernel) (by decide +kernel))
theorem lk_PM_245 : LK "PearlMother" 245 M_Tu_bestAngle := Or.inl (tb_mem 588 (by decide +kernel) (by decide +kernel))
theorem mm_Tu_47 : Cond.methodLink "PearlMother$Turned" 47 Lib.Math.max.name ∈ TB := tb_mem 592 (by decide +kernel) (by decide +kernel)
theorem lk_La_118 : LK "PearlMotherLaw" 118 M_PM_rests := Or.inl (tb_mem 595 (by decide +kernel) (by decide +kernel))
theorem lk_PM_248 : LK "PearlMother" 248 M_PM_staysWith := Or.inl (tb_mem 599 (by decide +kernel) (by decide +kernel))
theorem lk_PM_299 : LK "PearlMother" 299 M_PM_worth := Or.inl (tb_mem 603 (by decide +kernel) (by decide +kernel))
theorem lk_La_123 : LK "PearlMotherLaw" 123 M_PM_glints := Or.inl (tb_mem 607 (by decide +kernel) (by decide +kernel))
theorem lk_PM_252 : LK "PearlMother" 252 M_PM_spreadChances := Or.inl (tb_mem 611 (by decide +kernel) (by decide +kernel))
theorem lk_La_128 : LK "PearlMotherLaw" 128 M_PM_seed := Or.inl (tb_mem 615 (by decide +kernel) (by decide +kernel))
theorem lk_La_133 : LK "PearlMotherLaw" 133 M_PM_years := Or.inl (tb_mem 619 (by decide +kernel) (by decide +kernel))
theorem lk_PM_265 : LK "PearlMother" 265 M_PM_befall := Or.inl (tb_mem 626 (by decide +kernel) (by decide +kernel))
theorem lk_La_137 : LK "PearlMotherLaw" 137 M_PM_keep := Or.inl (tb_mem 630 (by decide +kernel) (by decide +kernel))
theorem lk_La_141 : LK "PearlMotherLaw" 141 M_PM_again := Or.inl (tb_mem 634 (by decide +kernel) (by decide +kernel))
theorem lk_La_12 : LK "PearlMotherLaw" 12 M_Rf_init := Or.inl (tb_mem 640 (by decide +kernel) (by decide +kernel))
theorem oi_Rf_1 : Cond.methodLink "PearlMotherModel" 1 objectInit ∈ TB := tb_mem 643 (by decide +kernel) (by decide +kernel)
theorem lk_La_17 : LK "PearlMotherLaw" 17 M_Rf_write := Or.inl (tb_mem 738 (by decide +kernel) (by decide +kernel))
theorem lk_Rf_66 : LK "PearlMotherModel" 66 M_Rf_in := Or.inl (tb_mem 743 (by decide +kernel) (by decide +kernel))
theorem lk_La_22 : LK "PearlMotherLaw" 22 M_Rf_wipe := Or.inl (tb_mem 746 (by decide +kernel) (by decide +kernel))
theorem lk_La_26 : LK "PearlMotherLaw" 26 M_Rf_fault := Or.inl (tb_mem 750 (by decide +kernel) (by decide +kernel))
theorem lk_Rf_104 : LK "PearlMotherModel" 104 M_Rf_readCoast := Or.inl (tb_mem 754 (by decide +kernel) (by decide +kernel))
theorem lk_Rf_81 : LK "PearlMotherModel" 81 M_Rf_figure := Or.inl (tb_mem 758 (by decide +kernel) (by decide +kernel))
theorem lk_Rf_101 : LK "PearlMotherModel" 101 M_Rf_readThing := Or.inl (tb_mem 762 (by decide +kernel) (by decide +kernel))
theorem lk_Rf_91 : LK "PearlMotherModel" 91 M_Rf_readOneHolder := Or.inl (tb_mem 766 (by decide +kernel) (by decide +kernel))
theorem lk_Rf_95 : LK "PearlMotherModel" 95 M_Rf_readOnePiece := Or.inl (tb_mem 770 (by decide +kernel) (by decide +kernel))
theorem lk_La_30 : LK "PearlMotherLaw" 30 M_Rf_coast := Or.inl (tb_mem 774 (by decide +kernel) (by decide +kernel))
theorem lk_La_34 : LK "PearlMotherLaw" 34 M_Rf_about := Or.inl (tb_mem 778 (by decide +kernel) (by decide +kernel))
theorem lk_Rf_139 : LK "PearlMotherModel" 139 M_Rf_lookers := Or.inl (tb_mem 782 (by decide +kernel) (by decide +kernel))
theorem lk_Rf_135 : LK "PearlMotherModel" 135 M_Rf_seesOf := Or.inl (tb_mem 786 (by decide +kernel) (by decide +kernel))
theorem lk_Rf_127 : LK "PearlMotherModel" 127 M_Rf_has := Or.inl (tb_mem 790 (by decide +kernel) (by decide +kernel))
theorem lk_Rf_131 : LK "PearlMotherModel" 131 M_Rf_isShown := Or.inl (tb_mem 793 (by decide +kernel) (by decide +kernel))
theorem lk_Rf_119 : LK "PearlMotherModel" 119 M_Rf_angleOf := Or.inl (tb_mem 797 (by decide +kernel) (by decide +kernel))
theorem lk_Rf_123 : LK "PearlMotherModel" 123 M_Rf_showsTo := Or.inl (tb_mem 800 (by decide +kernel) (by decide +kernel))
theorem lk_Rf_115 : LK "PearlMotherModel" 115 M_Rf_showsBy := Or.inl (tb_mem 804 (by decide +kernel) (by decide +kernel))
theorem lk_Rf_111 : LK "PearlMotherModel" 111 M_Rf_apart := Or.inl (tb_mem 807 (by decide +kernel) (by decide +kernel))
theorem lk_Rf_143 : LK "PearlMotherModel" 143 M_Rf_together := Or.inl (tb_mem 810 (by decide +kernel) (by decide +kernel))
theorem lk_La_39 : LK "PearlMotherLaw" 39 M_Rf_holder := Or.inl (tb_mem 814 (by decide +kernel) (by decide +kernel))
theorem lk_Rf_149 : LK "PearlMotherModel" 149 M_Rf_noHolder := Or.inl (tb_mem 818 (by decide +kernel) (by decide +kernel))
theorem lk_Rf_153 : LK "PearlMotherModel" 153 M_Rf_heldBy := Or.inl (tb_mem 822 (by decide +kernel) (by decide +kernel))
theorem lk_La_43 : LK "PearlMotherLaw" 43 M_Rf_piece := Or.inl (tb_mem 826 (by decide +kernel) (by decide +kernel))
theorem lk_Rf_156 : LK "PearlMotherModel" 156 M_Rf_noPiece := Or.inl (tb_mem 830 (by decide +kernel) (by decide +kernel))
theorem lk_La_48 : LK "PearlMotherLaw" 48 M_Rf_shows := Or.inl (tb_mem 834 (by decide +kernel) (by decide +kernel))
theorem lk_La_53 : LK "PearlMotherLaw" 53 M_Rf_tilt := Or.inl (tb_mem 839 (by decide +kernel) (by decide +kernel))
theorem lk_Rf_161 : LK "PearlMotherModel" 161 M_Rf_note := Or.inl (tb_mem 843 (by decide +kernel) (by decide +kernel))
theorem lk_Rf_164 : LK "PearlMotherModel" 164 M_Rf_goTilt := Or.inl (tb_mem 847 (by decide +kernel) (by decide +kernel))
theorem lk_La_57 : LK "PearlMotherLaw" 57 M_Rf_give := Or.inl (tb_mem 850 (by decide +kernel) (by decide +kernel))
theorem lk_La_61 : LK "PearlMotherLaw" 61 M_Rf_hour := Or.inl (tb_mem 854 (by decide +kernel) (by decide +kernel))
theorem lk_Rf_168 : LK "PearlMotherModel" 168 M_Rf_goHour := Or.inl (tb_mem 858 (by decide +kernel) (by decide +kernel))
theorem lk_La_65 : LK "PearlMotherLaw" 65 M_Rf_undo := Or.inl (tb_mem 861 (by decide +kernel) (by decide +kernel))
theorem lk_La_69 : LK "PearlMotherLaw" 69 M_Rf_tilts := Or.inl (tb_mem 865 (by decide +kernel) (by decide +kernel))
theorem lk_Rf_172 : LK "PearlMotherModel" 172 M_Rf_tiltsOf := Or.inl (tb_mem 869 (by decide +kernel) (by decide +kernel))
theorem lk_La_73 : LK "PearlMotherLaw" 73 M_Rf_finds := Or.inl (tb_mem 873 (by decide +kernel) (by decide +kernel))
theorem lk_Rf_177 : LK "PearlMotherModel" 177 M_Rf_findsOf := Or.inl (tb_mem 878 (by decide +kernel) (by decide +kernel))
theorem lk_La_77 : LK "PearlMotherLaw" 77 M_Rf_all := Or.inl (tb_mem 882 (by decide +kernel) (by decide +kernel))
theorem lk_Rf_180 : LK "PearlMotherModel" 180 M_Rf_partsHeld := Or.inl (tb_mem 886 (by decide +kernel) (by decide +kernel))
theorem lk_La_81 : LK "PearlMotherLaw" 81 M_Rf_when := Or.inl (tb_mem 890 (by decide +kernel) (by decide +kernel))
theorem lk_Rf_183 : LK "PearlMotherModel" 183 M_Rf_begin := Or.inl (tb_mem 894 (by decide +kernel) (by decide +kernel))
theorem lk_La_85 : LK "PearlMotherLaw" 85 M_Rf_mothers := Or.inl (tb_mem 898 (by decide +kernel) (by decide +kernel))
theorem lk_Rf_186 : LK "PearlMotherModel" 186 M_Rf_power := Or.inl (tb_mem 902 (by decide +kernel) (by decide +kernel))
theorem lk_Rf_192 : LK "PearlMotherModel" 192 M_Rf_isLaid := Or.inl (tb_mem 905 (by decide +kernel) (by decide +kernel))
theorem lk_Rf_189 : LK "PearlMotherModel" 189 M_Rf_mayBeOne := Or.inl (tb_mem 909 (by decide +kernel) (by decide +kernel))
theorem lk_La_90 : LK "PearlMotherLaw" 90 M_Rf_giving := Or.inl (tb_mem 913 (by decide +kernel) (by decide +kernel))
theorem lk_Rf_195 : LK "PearlMotherModel" 195 M_Rf_many := Or.inl (tb_mem 917 (by decide +kernel) (by decide +kernel))
theorem lk_La_97 : LK "PearlMotherLaw" 97 M_Rf_judge := Or.inl (tb_mem 920 (by decide +kernel) (by decide +kernel))
theorem lk_Rf_200 : LK "PearlMotherModel" 200 M_Rf_longPower := Or.inl (tb_mem 925 (by decide +kernel) (by decide +kernel))
theorem lk_Rf_204 : LK "PearlMotherModel" 204 M_Rf_does := Or.inl (tb_mem 928 (by decide +kernel) (by decide +kernel))
theorem lk_La_101 : LK "PearlMotherLaw" 101 M_Rf_share := Or.inl (tb_mem 932 (by decide +kernel) (by decide +kernel))
theorem lk_Rf_210 : LK "PearlMotherModel" 210 M_Rf_ways := Or.inl (tb_mem 936 (by decide +kernel) (by decide +kernel))
theorem lk_Rf_213 : LK "PearlMotherModel" 213 M_Rf_fraction := Or.inl (tb_mem 939 (by decide +kernel) (by decide +kernel))
theorem lk_Rf_207 : LK "PearlMotherModel" 207 M_Rf_divisor := Or.inl (tb_mem 942 (by decide +kernel) (by decide +kernel))
theorem lk_La_105 : LK "PearlMotherLaw" 105 M_Rf_turn := Or.inl (tb_mem 945 (by decide +kernel) (by decide +kernel))
theorem lk_La_109 : LK "PearlMotherLaw" 109 M_Rf_unturn := Or.inl (tb_mem 950 (by decide +kernel) (by decide +kernel))
theorem lk_La_113 : LK "PearlMotherLaw" 113 M_Rf_may := Or.inl (tb_mem 954 (by decide +kernel) (by decide +kernel))
theorem lk_Rf_228 : LK "PearlMotherModel" 228 M_Rf_mayBe := Or.inl (tb_mem 958 (by decide +kernel) (by decide +kernel))
theorem lk_Rf_219 : LK "PearlMotherModel" 219 M_Rf_answer := Or.inl (tb_mem 962 (by decide +kernel) (by decide +kernel))
theorem lk_La_117 : LK "PearlMotherLaw" 117 M_Rf_next := Or.inl (tb_mem 965 (by decide +kernel) (by decide +kernel))
theorem lk_Rf_231 : LK "PearlMotherModel" 231 M_Rf_greatest := Or.inl (tb_mem 969 (by decide +kernel) (by decide +kernel))
theorem lk_La_122 : LK "PearlMotherLaw" 122 M_Rf_rests := Or.inl (tb_mem 973 (by decide +kernel) (by decide +kernel))
theorem lk_La_127 : LK "PearlMotherLaw" 127 M_Rf_glints := Or.inl (tb_mem 977 (by decide +kernel) (by decide +kernel))
theorem lk_La_132 : LK "PearlMotherLaw" 132 M_Rf_seed := Or.inl (tb_mem 983 (by decide +kernel) (by decide +kernel))
theorem lk_La_136 : LK "PearlMotherLaw" 136 M_Rf_years := Or.inl (tb_mem 987 (by decide +kernel) (by decide +kernel))
theorem lk_La_140 : LK "PearlMotherLaw" 140 M_Rf_keep := Or.inl (tb_mem 995 (by decide +kernel) (by decide +kernel))
theorem lk_La_144 : LK "PearlMotherLaw" 144 M_Rf_again := Or.inl (tb_mem 999 (by decide +kernel) (by decide +kernel))
theorem nl_La_7 : NL "PearlMotherLaw" 7 7 [.null, .null, .null, .null, .null, .null, .null, .null, .null, .null, .null, .null, .long 0] := ⟨_, _, _, Cy_PM, rfl, tb_mem 52 (by decide +kernel) (by decide +kernel), tb_mem 53 (by decide +kernel) (by decide +kernel), tb_mem 40 (by decide +kernel) (by decide +kernel), Ck_PM, by decide +kernel, rfl, fun _ => rfl⟩
theorem nl_PM_9 : NL "PearlMother" 9 5 [.null, .int 0] := ⟨_, _, _, Cy_Te, rfl, tb_mem 60 (by decide +kernel) (by decide +kernel), tb_mem 61 (by decide +kernel) (by decide +kernel), tb_mem 41 (by decide +kernel) (by decide +kernel), Ck_Te, by decide +kernel, rfl, fun _ => rfl⟩
theorem nl_PM_16 : NL "PearlMother" 16 1 [.null, .null, .null, .null, .null, .int 0, .int 0, .int 0] := ⟨_, _, _, Cy_Co, rfl, tb_mem 75 (by decide +kernel) (by decide +kernel), tb_mem 76 (by decide +kernel) (by decide +kernel), tb_mem 42 (by decide +kernel) (by decide +kernel), Ck_Co, by decide +kernel, rfl, fun _ => rfl⟩
theorem nl_PM_26 : NL "PearlMother" 26 4 [.null, .null, .int 0, .int 0, .int 0] := ⟨_, _, _, Cy_St, rfl, tb_mem 120 (by decide +kernel) (by decide +kernel), tb_mem 121 (by decide +kernel) (by decide +kernel), tb_mem 43 (by decide +kernel) (by decide +kernel), Ck_St, by decide +kernel, rfl, fun _ => rfl⟩
theorem qn_PM_26 : Cond.classLink "PearlMother" 26 "PearlMother$State" ∈ TB := tb_mem 120 (by decide +kernel) (by decide +kernel)
theorem nl_PM_40 : NL "PearlMother" 40 0 [.null, .int 0] := ⟨_, _, _, Cy_Ac, rfl, tb_mem 147 (by decide +kernel) (by decide +kernel), tb_mem 148 (by decide +kernel) (by decide +kernel), tb_mem 44 (by decide +kernel) (by decide +kernel), Ck_Ac, by decide +kernel, rfl, fun _ => rfl⟩
theorem nl_PM_47 : NL "PearlMother" 47 6 [.null, .null, .int 0, .int 0, .int 0, .null] := ⟨_, _, _, Cy_Tu, rfl, tb_mem 161 (by decide +kernel) (by decide +kernel), tb_mem 162 (by decide +kernel) (by decide +kernel), tb_mem 45 (by decide +kernel) (by decide +kernel), Ck_Tu, by decide +kernel, rfl, fun _ => rfl⟩
theorem nl_PM_54 : NL "PearlMother" 54 2 [.null, .null, .null, .int 0, .int 0, .int 0, .int 0] := ⟨_, _, _, Cy_Gi, rfl, tb_mem 189 (by decide +kernel) (by decide +kernel), tb_mem 190 (by decide +kernel) (by decide +kernel), tb_mem 46 (by decide +kernel) (by decide +kernel), Ck_Gi, by decide +kernel, rfl, fun _ => rfl⟩
theorem nl_PM_61 : NL "PearlMother" 61 3 [.null, .null] := ⟨_, _, _, Cy_Mo, rfl, tb_mem 224 (by decide +kernel) (by decide +kernel), tb_mem 225 (by decide +kernel) (by decide +kernel), tb_mem 47 (by decide +kernel) (by decide +kernel), Ck_Mo, by decide +kernel, rfl, fun _ => rfl⟩
theorem nl_La_10 : NL "PearlMotherLaw" 10 8 [.int 0, .null, .int 0, .int 0, .int 0, .null, .int 0, .null, .int 0, .int 0, .null, .int 0, .null, .null, .null, .null, .int 0, .null, .null, .int 0, .null, .null, .long 0, .int 0, .int 0, .int 0, .int 0, .null, .null, .null, .null] := ⟨_, _, _, Cy_Rf, rfl, tb_mem 638 (by decide +kernel) (by decide +kernel), tb_mem 639 (by decide +kernel) (by decide +kernel), tb_mem 48 (by decide +kernel) (by decide +kernel), Ck_Rf, by decide +kernel, rfl, fun _ => rfl⟩
theorem kn_In_264 : Cond.constant "java/lang/Integer" 264 (65536) ∈ TB := tb_mem 494 (by decide +kernel) (by decide +kernel)
theorem kn_In_265 : Cond.constant "java/lang/Integer" 265 (1431655765) ∈ TB := tb_mem 524 (by decide +kernel) (by decide +kernel)
theorem kn_In_266 : Cond.constant "java/lang/Integer" 266 (858993459) ∈ TB := tb_mem 525 (by decide +kernel) (by decide +kernel)
theorem kn_In_267 : Cond.constant "java/lang/Integer" 267 (252645135) ∈ TB := tb_mem 526 (by decide +kernel) (by decide +kernel)
theorem kn_PM_218 : Cond.constantLong "PearlMother" 218 (1000) ∈ TB := tb_mem 531 (by decide +kernel) (by decide +kernel)
theorem kn_PM_259 : Cond.constantLong "PearlMother" 259 (6364136223846793005) ∈ TB := tb_mem 623 (by decide +kernel) (by decide +kernel)
theorem kn_PM_261 : Cond.constantLong "PearlMother" 261 (1442695040888963407) ∈ TB := tb_mem 624 (by decide +kernel) (by decide +kernel)
theorem kn_PM_263 : Cond.constantLong "PearlMother" 263 (18) ∈ TB := tb_mem 625 (by decide +kernel) (by decide +kernel)
theorem kn_Rf_73 : Cond.constantLong "PearlMotherModel" 73 (255) ∈ TB := tb_mem 742 (by decide +kernel) (by decide +kernel)
theorem kn_Rf_159 : Cond.constantLong "PearlMotherModel" 159 (7) ∈ TB := tb_mem 838 (by decide +kernel) (by decide +kernel)
theorem kn_Rf_175 : Cond.constantLong "PearlMotherModel" 175 (4) ∈ TB := tb_mem 877 (by decide +kernel) (by decide +kernel)
theorem kn_Rf_198 : Cond.constantLong "PearlMotherModel" 198 (1000) ∈ TB := tb_mem 924 (by decide +kernel) (by decide +kernel)
theorem kn_Rf_217 : Cond.constantLong "PearlMotherModel" 217 (5) ∈ TB := tb_mem 949 (by decide +kernel) (by decide +kernel)
theorem kn_Rf_240 : Cond.constantLong "PearlMotherModel" 240 (6) ∈ TB := tb_mem 981 (by decide +kernel) (by decide +kernel)
theorem kn_Rf_242 : Cond.constantLong "PearlMotherModel" 242 (10) ∈ TB := tb_mem 982 (by decide +kernel) (by decide +kernel)
theorem kn_Rf_248 : Cond.constantLong "PearlMotherModel" 248 (30) ∈ TB := tb_mem 991 (by decide +kernel) (by decide +kernel)
theorem kn_Rf_250 : Cond.constantLong "PearlMotherModel" 250 (6364136223846793005) ∈ TB := tb_mem 992 (by decide +kernel) (by decide +kernel)
theorem kn_Rf_252 : Cond.constantLong "PearlMotherModel" 252 (1442695040888963407) ∈ TB := tb_mem 993 (by decide +kernel) (by decide +kernel)
theorem kn_Rf_254 : Cond.constantLong "PearlMotherModel" 254 (18) ∈ TB := tb_mem 994 (by decide +kernel) (by decide +kernel)
theorem kn_La_91 : Cond.constantLong "PearlMotherLaw" 91 (4294967295) ∈ TB := tb_mem 1003 (by decide +kernel) (by decide +kernel)
theorem mst_min : Cond.static Lib.Math.min.name ∈ TB := tb_mem 380 (by decide +kernel) (by decide +kernel)
theorem mcd_min : Cond.code Lib.Math.min.name Lib.Math.min.code 2 (some .int) ∈ TB := tb_mem 381 (by decide +kernel) (by decide +kernel)
theorem mst_max : Cond.static Lib.Math.max.name ∈ TB := tb_mem 593 (by decide +kernel) (by decide +kernel)
theorem mcd_max : Cond.code Lib.Math.max.name Lib.Math.max.code 2 (some .int) ∈ TB := tb_mem 594 (by decide +kernel) (by decide +kernel)
theorem mini : Cond.initialized "java/lang/Math" ∈ TB := tb_mem 49 (by decide +kernel) (by decide +kernel)
end
section
/-! ===== the instructions: 07.dec1 ===== -/
theorem d_PM_init_0 : DI M_PM_init 0 (.aload_n 0) 1 1 := ⟨by decide +kernel, rfl⟩
theorem d_PM_init_1 : DI M_PM_init 1 (.invokespecial 3) 3 4 := ⟨by decide +kernel, rfl⟩
theorem d_PM_init_4 : DI M_PM_init 4 (.aload_n 0) 1 5 := ⟨by decide +kernel, rfl⟩
theorem d_PM_init_5 : DI M_PM_init 5 (.new 9) 3 8 := ⟨by decide +kernel, rfl⟩
theorem d_PM_init_8 : DI M_PM_init 8 (.dup) 1 9 := ⟨by decide +kernel, rfl⟩
theorem d_PM_init_9 : DI M_PM_init 9 (.invokespecial 11) 3 12 := ⟨by decide +kernel, rfl⟩
theorem d_PM_init_12 : DI M_PM_init 12 (.putfield 12) 3 15 := ⟨by decide +kernel, rfl⟩
theorem d_PM_init_15 : DI M_PM_init 15 (.aload_n 0) 1 16 := ⟨by decide +kernel, rfl⟩
theorem d_PM_init_16 : DI M_PM_init 16 (.new 16) 3 19 := ⟨by decide +kernel, rfl⟩
theorem d_PM_init_19 : DI M_PM_init 19 (.dup) 1 20 := ⟨by decide +kernel, rfl⟩
theorem d_PM_init_20 : DI M_PM_init 20 (.invokespecial 18) 3 23 := ⟨by decide +kernel, rfl⟩
theorem d_PM_init_23 : DI M_PM_init 23 (.putfield 19) 3 26 := ⟨by decide +kernel, rfl⟩
theorem d_PM_init_26 : DI M_PM_init 26 (.aload_n 0) 1 27 := ⟨by decide +kernel, rfl⟩
theorem d_PM_init_27 : DI M_PM_init 27 (.new 16) 3 30 := ⟨by decide +kernel, rfl⟩
theorem d_PM_init_30 : DI M_PM_init 30 (.dup) 1 31 := ⟨by decide +kernel, rfl⟩
theorem d_PM_init_31 : DI M_PM_init 31 (.invokespecial 18) 3 34 := ⟨by decide +kernel, rfl⟩
theorem d_PM_init_34 : DI M_PM_init 34 (.putfield 23) 3 37 := ⟨by decide +kernel, rfl⟩
theorem d_PM_init_37 : DI M_PM_init 37 (.aload_n 0) 1 38 := ⟨by decide +kernel, rfl⟩
theorem d_PM_init_38 : DI M_PM_init 38 (.new 26) 3 41 := ⟨by decide +kernel, rfl⟩
theorem d_PM_init_41 : DI M_PM_init 41 (.dup) 1 42 := ⟨by decide +kernel, rfl⟩
theorem d_PM_init_42 : DI M_PM_init 42 (.invokespecial 28) 3 45 := ⟨by decide +kernel, rfl⟩
theorem d_PM_init_45 : DI M_PM_init 45 (.putfield 29) 3 48 := ⟨by decide +kernel, rfl⟩
theorem d_PM_init_48 : DI M_PM_init 48 (.aload_n 0) 1 49 := ⟨by decide +kernel, rfl⟩
theorem d_PM_init_49 : DI M_PM_init 49 (.new 26) 3 52 := ⟨by decide +kernel, rfl⟩
theorem d_PM_init_52 : DI M_PM_init 52 (.dup) 1 53 := ⟨by decide +kernel, rfl⟩
theorem d_PM_init_53 : DI M_PM_init 53 (.invokespecial 28) 3 56 := ⟨by decide +kernel, rfl⟩
theorem d_PM_init_56 : DI M_PM_init 56 (.putfield 33) 3 59 := ⟨by decide +kernel, rfl⟩
theorem d_PM_init_59 : DI M_PM_init 59 (.aload_n 0) 1 60 := ⟨by decide +kernel, rfl⟩
theorem d_PM_init_60 : DI M_PM_init 60 (.iconst 2) 1 61 := ⟨by decide +kernel, rfl⟩
theorem d_PM_init_61 : DI M_PM_init 61 (.anewarray 26) 3 64 := ⟨by decide +kernel, rfl⟩
theorem d_PM_init_64 : DI M_PM_init 64 (.putfield 36) 3 67 := ⟨by decide +kernel, rfl⟩
theorem d_PM_init_67 : DI M_PM_init 67 (.aload_n 0) 1 68 := ⟨by decide +kernel, rfl⟩
theorem d_PM_init_68 : DI M_PM_init 68 (.new 40) 3 71 := ⟨by decide +kernel, rfl⟩
theorem d_PM_init_71 : DI M_PM_init 71 (.dup) 1 72 := ⟨by decide +kernel, rfl⟩
theorem d_PM_init_72 : DI M_PM_init 72 (.invokespecial 42) 3 75 := ⟨by decide +kernel, rfl⟩
theorem d_PM_init_75 : DI M_PM_init 75 (.putfield 43) 3 78 := ⟨by decide +kernel, rfl⟩
theorem d_PM_init_78 : DI M_PM_init 78 (.aload_n 0) 1 79 := ⟨by decide +kernel, rfl⟩
theorem d_PM_init_79 : DI M_PM_init 79 (.new 47) 3 82 := ⟨by decide +kernel, rfl⟩
theorem d_PM_init_82 : DI M_PM_init 82 (.dup) 1 83 := ⟨by decide +kernel, rfl⟩
theorem d_PM_init_83 : DI M_PM_init 83 (.invokespecial 49) 3 86 := ⟨by decide +kernel, rfl⟩
theorem d_PM_init_86 : DI M_PM_init 86 (.putfield 50) 3 89 := ⟨by decide +kernel, rfl⟩
theorem d_PM_init_89 : DI M_PM_init 89 (.aload_n 0) 1 90 := ⟨by decide +kernel, rfl⟩
theorem d_PM_init_90 : DI M_PM_init 90 (.new 54) 3 93 := ⟨by decide +kernel, rfl⟩
theorem d_PM_init_93 : DI M_PM_init 93 (.dup) 1 94 := ⟨by decide +kernel, rfl⟩
theorem d_PM_init_94 : DI M_PM_init 94 (.invokespecial 56) 3 97 := ⟨by decide +kernel, rfl⟩
theorem d_PM_init_97 : DI M_PM_init 97 (.putfield 57) 3 100 := ⟨by decide +kernel, rfl⟩
theorem d_PM_init_100 : DI M_PM_init 100 (.aload_n 0) 1 101 := ⟨by decide +kernel, rfl⟩
theorem d_PM_init_101 : DI M_PM_init 101 (.new 61) 3 104 := ⟨by decide +kernel, rfl⟩
theorem d_PM_init_104 : DI M_PM_init 104 (.dup) 1 105 := ⟨by decide +kernel, rfl⟩
theorem d_PM_init_105 : DI M_PM_init 105 (.invokespecial 63) 3 108 := ⟨by decide +kernel, rfl⟩
theorem d_PM_init_108 : DI M_PM_init 108 (.putfield 64) 3 111 := ⟨by decide +kernel, rfl⟩
theorem d_PM_init_111 : DI M_PM_init 111 (.aload_n 0) 1 112 := ⟨by decide +kernel, rfl⟩
theorem d_PM_init_112 : DI M_PM_init 112 (.iconst 4) 1 113 := ⟨by decide +kernel, rfl⟩
theorem d_PM_init_113 : DI M_PM_init 113 (.newarray .int) 2 115 := ⟨by decide +kernel, rfl⟩
theorem d_PM_init_115 : DI M_PM_init 115 (.putfield 68) 3 118 := ⟨by decide +kernel, rfl⟩
theorem d_PM_init_118 : DI M_PM_init 118 (.aload_n 0) 1 119 := ⟨by decide +kernel, rfl⟩
theorem d_PM_init_119 : DI M_PM_init 119 (.bipush 7) 2 121 := ⟨by decide +kernel, rfl⟩
theorem d_PM_init_121 : DI M_PM_init 121 (.newarray .int) 2 123 := ⟨by decide +kernel, rfl⟩
theorem d_PM_init_123 : DI M_PM_init 123 (.putfield 72) 3 126 := ⟨by decide +kernel, rfl⟩
theorem d_PM_init_126 : DI M_PM_init 126 (.iconst 0) 1 127 := ⟨by decide +kernel, rfl⟩
theorem d_PM_init_127 : DI M_PM_init 127 (.istore_n 1) 1 128 := ⟨by decide +kernel, rfl⟩
theorem d_PM_init_128 : DI M_PM_init 128 (.iload_n 1) 1 129 := ⟨by decide +kernel, rfl⟩
theorem d_PM_init_129 : DI M_PM_init 129 (.iconst 2) 1 130 := ⟨by decide +kernel, rfl⟩
theorem d_PM_init_130 : DJ M_PM_init 130 (.if_icmp .ge 22) 22 3 133 152 := ⟨by decide +kernel, rfl, rfl⟩
theorem d_PM_init_133 : DI M_PM_init 133 (.aload_n 0) 1 134 := ⟨by decide +kernel, rfl⟩
theorem d_PM_init_134 : DI M_PM_init 134 (.getfield 36) 3 137 := ⟨by decide +kernel, rfl⟩
theorem d_PM_init_137 : DI M_PM_init 137 (.iload_n 1) 1 138 := ⟨by decide +kernel, rfl⟩
theorem d_PM_init_138 : DI M_PM_init 138 (.new 26) 3 141 := ⟨by decide +kernel, rfl⟩
theorem d_PM_init_141 : DI M_PM_init 141 (.dup) 1 142 := ⟨by decide +kernel, rfl⟩
theorem d_PM_init_142 : DI M_PM_init 142 (.invokespecial 28) 3 145 := ⟨by decide +kernel, rfl⟩
theorem d_PM_init_145 : DI M_PM_init 145 (.aastore) 1 146 := ⟨by decide +kernel, rfl⟩
theorem d_PM_init_146 : DI M_PM_init 146 (.iinc 1 1) 3 149 := ⟨by decide +kernel, rfl⟩
theorem d_PM_init_149 : DJ M_PM_init 149 (.goto (-21)) (-21) 3 152 128 := ⟨by decide +kernel, rfl, rfl⟩
theorem d_PM_init_152 : DI M_PM_init 152 (.return_) 1 153 := ⟨by decide +kernel, rfl⟩
theorem d_PM_write_0 : DI M_PM_write 0 (.iload_n 1) 1 1 := ⟨by decide +kernel, rfl⟩
theorem d_PM_write_1 : DJ M_PM_write 1 (.ifCond .lt 10) 10 3 4 11 := ⟨by decide +kernel, rfl, rfl⟩
theorem d_PM_write_4 : DI M_PM_write 4 (.iload_n 1) 1 5 := ⟨by decide +kernel, rfl⟩
theorem d_PM_write_5 : DI M_PM_write 5 (.sipush 255) 3 8 := ⟨by decide +kernel, rfl⟩
theorem d_PM_write_8 : DJ M_PM_write 8 (.if_icmp .le 6) 6 3 11 14 := ⟨by decide +kernel, rfl, rfl⟩
theorem d_PM_write_11 : DI M_PM_write 11 (.bipush (-2)) 2 13 := ⟨by decide +kernel, rfl⟩
theorem d_PM_write_13 : DI M_PM_write 13 (.ireturn) 1 14 := ⟨by decide +kernel, rfl⟩
theorem d_PM_write_14 : DI M_PM_write 14 (.aload_n 0) 1 15 := ⟨by decide +kernel, rfl⟩
theorem d_PM_write_15 : DI M_PM_write 15 (.getfield 12) 3 18 := ⟨by decide +kernel, rfl⟩
theorem d_PM_write_18 : DI M_PM_write 18 (.iload_n 1) 1 19 := ⟨by decide +kernel, rfl⟩
theorem d_PM_write_19 : DI M_PM_write 19 (.invokevirtual 75) 3 22 := ⟨by decide +kernel, rfl⟩
theorem d_PM_write_22 : DJ M_PM_write 22 (.ifCond .eq 13) 13 3 25 35 := ⟨by decide +kernel, rfl, rfl⟩
theorem d_PM_write_25 : DI M_PM_write 25 (.aload_n 0) 1 26 := ⟨by decide +kernel, rfl⟩
theorem d_PM_write_26 : DI M_PM_write 26 (.getfield 12) 3 29 := ⟨by decide +kernel, rfl⟩
theorem d_PM_write_29 : DI M_PM_write 29 (.getfield 79) 3 32 := ⟨by decide +kernel, rfl⟩
theorem d_PM_write_32 : DJ M_PM_write 32 (.goto 5) 5 3 35 37 := ⟨by decide +kernel, rfl, rfl⟩
theorem d_PM_write_35 : DI M_PM_write 35 (.bipush (-4)) 2 37 := ⟨by decide +kernel, rfl⟩
theorem d_PM_write_37 : DI M_PM_write 37 (.ireturn) 1 38 := ⟨by decide +kernel, rfl⟩
theorem d_PM_wipe_0 : DI M_PM_wipe 0 (.aload_n 0) 1 1 := ⟨by decide +kernel, rfl⟩
theorem d_PM_wipe_1 : DI M_PM_wipe 1 (.getfield 12) 3 4 := ⟨by decide +kernel, rfl⟩
theorem d_PM_wipe_4 : DI M_PM_wipe 4 (.getfield 79) 3 7 := ⟨by decide +kernel, rfl⟩
theorem d_PM_wipe_7 : DI M_PM_wipe 7 (.istore_n 1) 1 8 := ⟨by decide +kernel, rfl⟩
theorem d_PM_wipe_8 : DI M_PM_wipe 8 (.aload_n 0) 1 9 := ⟨by decide +kernel, rfl⟩
theorem d_PM_wipe_9 : DI M_PM_wipe 9 (.getfield 12) 3 12 := ⟨by decide +kernel, rfl⟩
theorem d_PM_wipe_12 : DI M_PM_wipe 12 (.iconst 0) 1 13 := ⟨by decide +kernel, rfl⟩
theorem d_PM_wipe_13 : DI M_PM_wipe 13 (.putfield 79) 3 16 := ⟨by decide +kernel, rfl⟩
theorem d_PM_wipe_16 : DI M_PM_wipe 16 (.iload_n 1) 1 17 := ⟨by decide +kernel, rfl⟩
theorem d_PM_wipe_17 : DI M_PM_wipe 17 (.ireturn) 1 18 := ⟨by decide +kernel, rfl⟩
theorem d_PM_fault_0 : DI M_PM_fault 0 (.aload_n 0) 1 1 := ⟨by decide +kernel, rfl⟩
theorem d_PM_fault_1 : DI M_PM_fault 1 (.getfield 12) 3 4 := ⟨by decide +kernel, rfl⟩
theorem d_PM_fault_4 : DI M_PM_fault 4 (.aload_n 0) 1 5 := ⟨by decide +kernel, rfl⟩
theorem d_PM_fault_5 : DI M_PM_fault 5 (.getfield 23) 3 8 := ⟨by decide +kernel, rfl⟩
theorem d_PM_fault_8 : DI M_PM_fault 8 (.invokevirtual 83) 3 11 := ⟨by decide +kernel, rfl⟩
theorem d_PM_fault_11 : DI M_PM_fault 11 (.ireturn) 1 12 := ⟨by decide +kernel, rfl⟩
theorem d_PM_coast_0 : DI M_PM_coast 0 (.aload_n 0) 1 1 := ⟨by decide +kernel, rfl⟩
theorem d_PM_coast_1 : DI M_PM_coast 1 (.getfield 12) 3 4 := ⟨by decide +kernel, rfl⟩
theorem d_PM_coast_4 : DI M_PM_coast 4 (.aload_n 0) 1 5 := ⟨by decide +kernel, rfl⟩
theorem d_PM_coast_5 : DI M_PM_coast 5 (.getfield 23) 3 8 := ⟨by decide +kernel, rfl⟩
theorem d_PM_coast_8 : DI M_PM_coast 8 (.invokevirtual 83) 3 11 := ⟨by decide +kernel, rfl⟩
theorem d_PM_coast_11 : DI M_PM_coast 11 (.bipush (-9)) 2 13 := ⟨by decide +kernel, rfl⟩
theorem d_PM_coast_13 : DJ M_PM_coast 13 (.if_icmp .eq 6) 6 3 16 19 := ⟨by decide +kernel, rfl, rfl⟩
theorem d_PM_coast_16 : DI M_PM_coast 16 (.bipush (-3)) 2 18 := ⟨by decide +kernel, rfl⟩
theorem d_PM_coast_18 : DI M_PM_coast 18 (.ireturn) 1 19 := ⟨by decide +kernel, rfl⟩
theorem d_PM_coast_19 : DI M_PM_coast 19 (.aload_n 0) 1 20 := ⟨by decide +kernel, rfl⟩
theorem d_PM_coast_20 : DI M_PM_coast 20 (.getfield 19) 3 23 := ⟨by decide +kernel, rfl⟩
theorem d_PM_coast_23 : DI M_PM_coast 23 (.astore_n 1) 1 24 := ⟨by decide +kernel, rfl⟩
theorem d_PM_coast_24 : DI M_PM_coast 24 (.aload_n 0) 1 25 := ⟨by decide +kernel, rfl⟩
theorem d_PM_coast_25 : DI M_PM_coast 25 (.aload_n 0) 1 26 := ⟨by decide +kernel, rfl⟩
theorem d_PM_coast_26 : DI M_PM_coast 26 (.getfield 23) 3 29 := ⟨by decide +kernel, rfl⟩
theorem d_PM_coast_29 : DI M_PM_coast 29 (.putfield 19) 3 32 := ⟨by decide +kernel, rfl⟩
theorem d_PM_coast_32 : DI M_PM_coast 32 (.aload_n 0) 1 33 := ⟨by decide +kernel, rfl⟩
theorem d_PM_coast_33 : DI M_PM_coast 33 (.aload_n 1) 1 34 := ⟨by decide +kernel, rfl⟩
theorem d_PM_coast_34 : DI M_PM_coast 34 (.putfield 23) 3 37 := ⟨by decide +kernel, rfl⟩
theorem d_PM_coast_37 : DI M_PM_coast 37 (.aload_n 0) 1 38 := ⟨by decide +kernel, rfl⟩
theorem d_PM_coast_38 : DI M_PM_coast 38 (.getfield 29) 3 41 := ⟨by decide +kernel, rfl⟩
theorem d_PM_coast_41 : DI M_PM_coast 41 (.aload_n 0) 1 42 := ⟨by decide +kernel, rfl⟩
theorem d_PM_coast_42 : DI M_PM_coast 42 (.getfield 19) 3 45 := ⟨by decide +kernel, rfl⟩
theorem d_PM_coast_45 : DI M_PM_coast 45 (.invokevirtual 87) 3 48 := ⟨by decide +kernel, rfl⟩
theorem d_PM_coast_48 : DI M_PM_coast 48 (.aload_n 0) 1 49 := ⟨by decide +kernel, rfl⟩
theorem d_PM_coast_49 : DI M_PM_coast 49 (.getfield 43) 3 52 := ⟨by decide +kernel, rfl⟩
theorem d_PM_coast_52 : DI M_PM_coast 52 (.iconst 0) 1 53 := ⟨by decide +kernel, rfl⟩
theorem d_PM_coast_53 : DI M_PM_coast 53 (.putfield 91) 3 56 := ⟨by decide +kernel, rfl⟩
theorem d_PM_coast_56 : DI M_PM_coast 56 (.iconst 0) 1 57 := ⟨by decide +kernel, rfl⟩
theorem d_PM_coast_57 : DI M_PM_coast 57 (.istore_n 2) 1 58 := ⟨by decide +kernel, rfl⟩
theorem d_PM_coast_58 : DI M_PM_coast 58 (.iload_n 2) 1 59 := ⟨by decide +kernel, rfl⟩
theorem d_PM_coast_59 : DI M_PM_coast 59 (.iconst 2) 1 60 := ⟨by decide +kernel, rfl⟩
theorem d_PM_coast_60 : DJ M_PM_coast 60 (.if_icmp .ge 19) 19 3 63 79 := ⟨by decide +kernel, rfl, rfl⟩
theorem d_PM_coast_63 : DI M_PM_coast 63 (.aload_n 0) 1 64 := ⟨by decide +kernel, rfl⟩
theorem d_PM_coast_64 : DI M_PM_coast 64 (.getfield 36) 3 67 := ⟨by decide +kernel, rfl⟩
theorem d_PM_coast_67 : DI M_PM_coast 67 (.iload_n 2) 1 68 := ⟨by decide +kernel, rfl⟩
theorem d_PM_coast_68 : DI M_PM_coast 68 (.aaload) 1 69 := ⟨by decide +kernel, rfl⟩
theorem d_PM_coast_69 : DI M_PM_coast 69 (.iconst 0) 1 70 := ⟨by decide +kernel, rfl⟩
theorem d_PM_coast_70 : DI M_PM_coast 70 (.putfield 94) 3 73 := ⟨by decide +kernel, rfl⟩
theorem d_PM_coast_73 : DI M_PM_coast 73 (.iinc 2 1) 3 76 := ⟨by decide +kernel, rfl⟩
theorem d_PM_coast_76 : DJ M_PM_coast 76 (.goto (-18)) (-18) 3 79 58 := ⟨by decide +kernel, rfl, rfl⟩
theorem d_PM_coast_79 : DI M_PM_coast 79 (.bipush 10) 2 81 := ⟨by decide +kernel, rfl⟩
theorem d_PM_coast_81 : DI M_PM_coast 81 (.aload_n 0) 1 82 := ⟨by decide +kernel, rfl⟩
theorem d_PM_coast_82 : DI M_PM_coast 82 (.getfield 19) 3 85 := ⟨by decide +kernel, rfl⟩
theorem d_PM_coast_85 : DI M_PM_coast 85 (.getfield 98) 3 88 := ⟨by decide +kernel, rfl⟩
theorem d_PM_coast_88 : DI M_PM_coast 88 (.imul) 1 89 := ⟨by decide +kernel, rfl⟩
theorem d_PM_coast_89 : DI M_PM_coast 89 (.aload_n 0) 1 90 := ⟨by decide +kernel, rfl⟩
theorem d_PM_coast_90 : DI M_PM_coast 90 (.getfield 19) 3 93 := ⟨by decide +kernel, rfl⟩
theorem d_PM_coast_93 : DI M_PM_coast 93 (.getfield 101) 3 96 := ⟨by decide +kernel, rfl⟩
theorem d_PM_coast_96 : DI M_PM_coast 96 (.iadd) 1 97 := ⟨by decide +kernel, rfl⟩
theorem d_PM_coast_97 : DI M_PM_coast 97 (.ireturn) 1 98 := ⟨by decide +kernel, rfl⟩
theorem d_PM_about_0 : DI M_PM_about 0 (.iload_n 1) 1 1 := ⟨by decide +kernel, rfl⟩
theorem d_PM_about_1 : decode M_PM_about.2.1 1 = .ok (.tableswitch 121 0 8 #[51, 59, 67, 75, 83, 92, 97, 105, 113], 51) := by decide +kernel
theorem d_PM_about_52 : DI M_PM_about 52 (.aload_n 0) 1 53 := ⟨by decide +kernel, rfl⟩
theorem d_PM_about_53 : DI M_PM_about 53 (.getfield 19) 3 56 := ⟨by decide +kernel, rfl⟩
theorem d_PM_about_56 : DI M_PM_about 56 (.getfield 98) 3 59 := ⟨by decide +kernel, rfl⟩
theorem d_PM_about_59 : DI M_PM_about 59 (.ireturn) 1 60 := ⟨by decide +kernel, rfl⟩
theorem d_PM_about_60 : DI M_PM_about 60 (.aload_n 0) 1 61 := ⟨by decide +kernel, rfl⟩
theorem d_PM_about_61 : DI M_PM_about 61 (.getfield 19) 3 64 := ⟨by decide +kernel, rfl⟩
theorem d_PM_about_64 : DI M_PM_about 64 (.getfield 101) 3 67 := ⟨by decide +kernel, rfl⟩
theorem d_PM_about_67 : DI M_PM_about 67 (.ireturn) 1 68 := ⟨by decide +kernel, rfl⟩
theorem d_PM_about_68 : DI M_PM_about 68 (.aload_n 0) 1 69 := ⟨by decide +kernel, rfl⟩
theorem d_PM_about_69 : DI M_PM_about 69 (.getfield 29) 3 72 := ⟨by decide +kernel, rfl⟩
theorem d_PM_about_72 : DI M_PM_about 72 (.getfield 104) 3 75 := ⟨by decide +kernel, rfl⟩
theorem d_PM_about_75 : DI M_PM_about 75 (.ireturn) 1 76 := ⟨by decide +kernel, rfl⟩
theorem d_PM_about_76 : DI M_PM_about 76 (.aload_n 0) 1 77 := ⟨by decide +kernel, rfl⟩
theorem d_PM_about_77 : DI M_PM_about 77 (.getfield 29) 3 80 := ⟨by decide +kernel, rfl⟩
theorem d_PM_about_80 : DI M_PM_about 80 (.getfield 107) 3 83 := ⟨by decide +kernel, rfl⟩
theorem d_PM_about_83 : DI M_PM_about 83 (.ireturn) 1 84 := ⟨by decide +kernel, rfl⟩
theorem d_PM_about_84 : DI M_PM_about 84 (.aload_n 0) 1 85 := ⟨by decide +kernel, rfl⟩
theorem d_PM_about_85 : DI M_PM_about 85 (.aload_n 0) 1 86 := ⟨by decide +kernel, rfl⟩
theorem d_PM_about_86 : DI M_PM_about 86 (.getfield 29) 3 89 := ⟨by decide +kernel, rfl⟩
theorem d_PM_about_89 : DI M_PM_about 89 (.invokevirtual 110) 3 92 := ⟨by decide +kernel, rfl⟩
theorem d_PM_about_92 : DI M_PM_about 92 (.ireturn) 1 93 := ⟨by decide +kernel, rfl⟩
theorem d_PM_about_93 : DI M_PM_about 93 (.aload_n 0) 1 94 := ⟨by decide +kernel, rfl⟩
theorem d_PM_about_94 : DI M_PM_about 94 (.invokevirtual 114) 3 97 := ⟨by decide +kernel, rfl⟩
theorem d_PM_about_97 : DI M_PM_about 97 (.ireturn) 1 98 := ⟨by decide +kernel, rfl⟩
theorem d_PM_about_98 : DI M_PM_about 98 (.aload_n 0) 1 99 := ⟨by decide +kernel, rfl⟩
theorem d_PM_about_99 : DI M_PM_about 99 (.getfield 43) 3 102 := ⟨by decide +kernel, rfl⟩
theorem d_PM_about_102 : DI M_PM_about 102 (.getfield 91) 3 105 := ⟨by decide +kernel, rfl⟩
theorem d_PM_about_105 : DI M_PM_about 105 (.ireturn) 1 106 := ⟨by decide +kernel, rfl⟩
theorem d_PM_about_106 : DI M_PM_about 106 (.aload_n 0) 1 107 := ⟨by decide +kernel, rfl⟩
theorem d_PM_about_107 : DI M_PM_about 107 (.getfield 50) 3 110 := ⟨by decide +kernel, rfl⟩
theorem d_PM_about_110 : DI M_PM_about 110 (.getfield 118) 3 113 := ⟨by decide +kernel, rfl⟩
theorem d_PM_about_113 : DI M_PM_about 113 (.ireturn) 1 114 := ⟨by decide +kernel, rfl⟩
theorem d_PM_about_114 : DI M_PM_about 114 (.aload_n 0) 1 115 := ⟨by decide +kernel, rfl⟩
theorem d_PM_about_115 : DI M_PM_about 115 (.getfield 12) 3 118 := ⟨by decide +kernel, rfl⟩
theorem d_PM_about_118 : DI M_PM_about 118 (.getfield 79) 3 121 := ⟨by decide +kernel, rfl⟩
theorem d_PM_about_121 : DI M_PM_about 121 (.ireturn) 1 122 := ⟨by decide +kernel, rfl⟩
theorem d_PM_about_122 : DI M_PM_about 122 (.bipush (-2)) 2 124 := ⟨by decide +kernel, rfl⟩
theorem d_PM_about_124 : DI M_PM_about 124 (.ireturn) 1 125 := ⟨by decide +kernel, rfl⟩
theorem d_PM_holder_0 : DI M_PM_holder 0 (.aload_n 0) 1 1 := ⟨by decide +kernel, rfl⟩
theorem d_PM_holder_1 : DI M_PM_holder 1 (.getfield 19) 3 4 := ⟨by decide +kernel, rfl⟩
theorem d_PM_holder_4 : DI M_PM_holder 4 (.iload_n 1) 1 5 := ⟨by decide +kernel, rfl⟩
theorem d_PM_holder_5 : DI M_PM_holder 5 (.invokevirtual 119) 3 8 := ⟨by decide +kernel, rfl⟩
theorem d_PM_holder_8 : DJ M_PM_holder 8 (.ifCond .ne 5) 5 3 11 13 := ⟨by decide +kernel, rfl, rfl⟩
theorem d_PM_holder_11 : DI M_PM_holder 11 (.iconst (-1)) 1 12 := ⟨by decide +kernel, rfl⟩
theorem d_PM_holder_12 : DI M_PM_holder 12 (.ireturn) 1 13 := ⟨by decide +kernel, rfl⟩
theorem d_PM_holder_13 : DI M_PM_holder 13 (.iload_n 2) 1 14 := ⟨by decide +kernel, rfl⟩
theorem d_PM_holder_14 : decode M_PM_holder.2.1 14 = .ok (.tableswitch 53 0 2 #[26, 36, 42], 26) := by decide +kernel
theorem d_PM_holder_40 : DI M_PM_holder 40 (.aload_n 0) 1 41 := ⟨by decide +kernel, rfl⟩
theorem d_PM_holder_41 : DI M_PM_holder 41 (.getfield 19) 3 44 := ⟨by decide +kernel, rfl⟩
theorem d_PM_holder_44 : DI M_PM_holder 44 (.getfield 122) 3 47 := ⟨by decide +kernel, rfl⟩
theorem d_PM_holder_47 : DI M_PM_holder 47 (.iload_n 1) 1 48 := ⟨by decide +kernel, rfl⟩
theorem d_PM_holder_48 : DI M_PM_holder 48 (.iaload) 1 49 := ⟨by decide +kernel, rfl⟩
theorem d_PM_holder_49 : DI M_PM_holder 49 (.ireturn) 1 50 := ⟨by decide +kernel, rfl⟩
theorem d_PM_holder_50 : DI M_PM_holder 50 (.aload_n 0) 1 51 := ⟨by decide +kernel, rfl⟩
theorem d_PM_holder_51 : DI M_PM_holder 51 (.iload_n 1) 1 52 := ⟨by decide +kernel, rfl⟩
theorem d_PM_holder_52 : DI M_PM_holder 52 (.invokevirtual 125) 3 55 := ⟨by decide +kernel, rfl⟩
theorem d_PM_holder_55 : DI M_PM_holder 55 (.ireturn) 1 56 := ⟨by decide +kernel, rfl⟩
theorem d_PM_holder_56 : DI M_PM_holder 56 (.aload_n 0) 1 57 := ⟨by decide +kernel, rfl⟩
theorem d_PM_holder_57 : DI M_PM_holder 57 (.aload_n 0) 1 58 := ⟨by decide +kernel, rfl⟩
theorem d_PM_holder_58 : DI M_PM_holder 58 (.getfield 29) 3 61 := ⟨by decide +kernel, rfl⟩
theorem d_PM_holder_61 : DI M_PM_holder 61 (.iload_n 1) 1 62 := ⟨by decide +kernel, rfl⟩
theorem d_PM_holder_62 : DI M_PM_holder 62 (.iconst 0) 1 63 := ⟨by decide +kernel, rfl⟩
theorem d_PM_holder_63 : DI M_PM_holder 63 (.invokevirtual 129) 3 66 := ⟨by decide +kernel, rfl⟩
theorem d_PM_holder_66 : DI M_PM_holder 66 (.ireturn) 1 67 := ⟨by decide +kernel, rfl⟩
theorem d_PM_holder_67 : DI M_PM_holder 67 (.bipush (-2)) 2 69 := ⟨by decide +kernel, rfl⟩
theorem d_PM_holder_69 : DI M_PM_holder 69 (.ireturn) 1 70 := ⟨by decide +kernel, rfl⟩
theorem d_PM_piece_0 : DI M_PM_piece 0 (.aload_n 0) 1 1 := ⟨by decide +kernel, rfl⟩
theorem d_PM_piece_1 : DI M_PM_piece 1 (.getfield 19) 3 4 := ⟨by decide +kernel, rfl⟩
theorem d_PM_piece_4 : DI M_PM_piece 4 (.iload_n 1) 1 5 := ⟨by decide +kernel, rfl⟩
theorem d_PM_piece_5 : DI M_PM_piece 5 (.invokevirtual 133) 3 8 := ⟨by decide +kernel, rfl⟩
theorem d_PM_piece_8 : DJ M_PM_piece 8 (.ifCond .ne 5) 5 3 11 13 := ⟨by decide +kernel, rfl, rfl⟩
theorem d_PM_piece_11 : DI M_PM_piece 11 (.iconst (-1)) 1 12 := ⟨by decide +kernel, rfl⟩
theorem d_PM_piece_12 : DI M_PM_piece 12 (.ireturn) 1 13 := ⟨by decide +kernel, rfl⟩
theorem d_PM_piece_13 : DI M_PM_piece 13 (.iload_n 2) 1 14 := ⟨by decide +kernel, rfl⟩
theorem d_PM_piece_14 : decode M_PM_piece.2.1 14 = .ok (.tableswitch 129 0 6 #[42, 52, 62, 72, 82, 92, 101], 42) := by decide +kernel
theorem d_PM_piece_56 : DI M_PM_piece 56 (.aload_n 0) 1 57 := ⟨by decide +kernel, rfl⟩
theorem d_PM_piece_57 : DI M_PM_piece 57 (.getfield 19) 3 60 := ⟨by decide +kernel, rfl⟩
theorem d_PM_piece_60 : DI M_PM_piece 60 (.getfield 136) 3 63 := ⟨by decide +kernel, rfl⟩
theorem d_PM_piece_63 : DI M_PM_piece 63 (.iload_n 1) 1 64 := ⟨by decide +kernel, rfl⟩
theorem d_PM_piece_64 : DI M_PM_piece 64 (.iaload) 1 65 := ⟨by decide +kernel, rfl⟩
theorem d_PM_piece_65 : DI M_PM_piece 65 (.ireturn) 1 66 := ⟨by decide +kernel, rfl⟩
theorem d_PM_piece_66 : DI M_PM_piece 66 (.aload_n 0) 1 67 := ⟨by decide +kernel, rfl⟩
theorem d_PM_piece_67 : DI M_PM_piece 67 (.getfield 19) 3 70 := ⟨by decide +kernel, rfl⟩
theorem d_PM_piece_70 : DI M_PM_piece 70 (.getfield 139) 3 73 := ⟨by decide +kernel, rfl⟩
theorem d_PM_piece_73 : DI M_PM_piece 73 (.iload_n 1) 1 74 := ⟨by decide +kernel, rfl⟩
theorem d_PM_piece_74 : DI M_PM_piece 74 (.iaload) 1 75 := ⟨by decide +kernel, rfl⟩
theorem d_PM_piece_75 : DI M_PM_piece 75 (.ireturn) 1 76 := ⟨by decide +kernel, rfl⟩
theorem d_PM_piece_76 : DI M_PM_piece 76 (.aload_n 0) 1 77 := ⟨by decide +kernel, rfl⟩
theorem d_PM_piece_77 : DI M_PM_piece 77 (.getfield 19) 3 80 := ⟨by decide +kernel, rfl⟩
theorem d_PM_piece_80 : DI M_PM_piece 80 (.getfield 142) 3 83 := ⟨by decide +kernel, rfl⟩
theorem d_PM_piece_83 : DI M_PM_piece 83 (.iload_n 1) 1 84 := ⟨by decide +kernel, rfl⟩
theorem d_PM_piece_84 : DI M_PM_piece 84 (.iaload) 1 85 := ⟨by decide +kernel, rfl⟩
theorem d_PM_piece_85 : DI M_PM_piece 85 (.ireturn) 1 86 := ⟨by decide +kernel, rfl⟩
theorem d_PM_piece_86 : DI M_PM_piece 86 (.aload_n 0) 1 87 := ⟨by decide +kernel, rfl⟩
theorem d_PM_piece_87 : DI M_PM_piece 87 (.getfield 29) 3 90 := ⟨by decide +kernel, rfl⟩
theorem d_PM_piece_90 : DI M_PM_piece 90 (.getfield 145) 3 93 := ⟨by decide +kernel, rfl⟩
theorem d_PM_piece_93 : DI M_PM_piece 93 (.iload_n 1) 1 94 := ⟨by decide +kernel, rfl⟩
theorem d_PM_piece_94 : DI M_PM_piece 94 (.iaload) 1 95 := ⟨by decide +kernel, rfl⟩
theorem d_PM_piece_95 : DI M_PM_piece 95 (.ireturn) 1 96 := ⟨by decide +kernel, rfl⟩
theorem d_PM_piece_96 : DI M_PM_piece 96 (.aload_n 0) 1 97 := ⟨by decide +kernel, rfl⟩
theorem d_PM_piece_97 : DI M_PM_piece 97 (.getfield 29) 3 100 := ⟨by decide +kernel, rfl⟩
theorem d_PM_piece_100 : DI M_PM_piece 100 (.getfield 148) 3 103 := ⟨by decide +kernel, rfl⟩
theorem d_PM_piece_103 : DI M_PM_piece 103 (.iload_n 1) 1 104 := ⟨by decide +kernel, rfl⟩
theorem d_PM_piece_104 : DI M_PM_piece 104 (.iaload) 1 105 := ⟨by decide +kernel, rfl⟩
theorem d_PM_piece_105 : DI M_PM_piece 105 (.ireturn) 1 106 := ⟨by decide +kernel, rfl⟩
theorem d_PM_piece_106 : DI M_PM_piece 106 (.aload_n 0) 1 107 := ⟨by decide +kernel, rfl⟩
theorem d_PM_piece_107 : DI M_PM_piece 107 (.getfield 29) 3 110 := ⟨by decide +kernel, rfl⟩
theorem d_PM_piece_110 : DI M_PM_piece 110 (.iload_n 1) 1 111 := ⟨by decide +kernel, rfl⟩
theorem d_PM_piece_111 : DI M_PM_piece 111 (.invokevirtual 151) 3 114 := ⟨by decide +kernel, rfl⟩
theorem d_PM_piece_114 : DI M_PM_piece 114 (.ireturn) 1 115 := ⟨by decide +kernel, rfl⟩
theorem d_PM_piece_115 : DI M_PM_piece 115 (.aload_n 0) 1 116 := ⟨by decide +kernel, rfl⟩
theorem d_PM_piece_116 : DI M_PM_piece 116 (.aload_n 0) 1 117 := ⟨by decide +kernel, rfl⟩
theorem d_PM_piece_117 : DI M_PM_piece 117 (.getfield 29) 3 120 := ⟨by decide +kernel, rfl⟩
theorem d_PM_piece_120 : DI M_PM_piece 120 (.iload_n 1) 1 121 := ⟨by decide +kernel, rfl⟩
theorem d_PM_piece_121 : DI M_PM_piece 121 (.aload_n 0) 1 122 := ⟨by decide +kernel, rfl⟩
theorem d_PM_piece_122 : DI M_PM_piece 122 (.getfield 29) 3 125 := ⟨by decide +kernel, rfl⟩
theorem d_PM_piece_125 : DI M_PM_piece 125 (.getfield 148) 3 128 := ⟨by decide +kernel, rfl⟩
theorem d_PM_piece_128 : DI M_PM_piece 128 (.iload_n 1) 1 129 := ⟨by decide +kernel, rfl⟩
theorem d_PM_piece_129 : DI M_PM_piece 129 (.iaload) 1 130 := ⟨by decide +kernel, rfl⟩
theorem d_PM_piece_130 : DI M_PM_piece 130 (.iconst 0) 1 131 := ⟨by decide +kernel, rfl⟩
theorem d_PM_piece_131 : DI M_PM_piece 131 (.invokevirtual 154) 3 134 := ⟨by decide +kernel, rfl⟩
theorem d_PM_piece_134 : DJ M_PM_piece 134 (.ifCond .eq 7) 7 3 137 141 := ⟨by decide +kernel, rfl, rfl⟩
theorem d_PM_piece_137 : DI M_PM_piece 137 (.iconst 1) 1 138 := ⟨by decide +kernel, rfl⟩
theorem d_PM_piece_138 : DJ M_PM_piece 138 (.goto 4) 4 3 141 142 := ⟨by decide +kernel, rfl, rfl⟩
theorem d_PM_piece_141 : DI M_PM_piece 141 (.iconst 0) 1 142 := ⟨by decide +kernel, rfl⟩
theorem d_PM_piece_142 : DI M_PM_piece 142 (.ireturn) 1 143 := ⟨by decide +kernel, rfl⟩
theorem d_PM_piece_143 : DI M_PM_piece 143 (.bipush (-2)) 2 145 := ⟨by decide +kernel, rfl⟩
theorem d_PM_piece_145 : DI M_PM_piece 145 (.ireturn) 1 146 := ⟨by decide +kernel, rfl⟩
theorem d_PM_shows_0 : DI M_PM_shows 0 (.aload_n 0) 1 1 := ⟨by decide +kernel, rfl⟩
theorem d_PM_shows_1 : DI M_PM_shows 1 (.getfield 19) 3 4 := ⟨by decide +kernel, rfl⟩
theorem d_PM_shows_4 : DI M_PM_shows 4 (.iload_n 1) 1 5 := ⟨by decide +kernel, rfl⟩
theorem d_PM_shows_5 : DI M_PM_shows 5 (.invokevirtual 133) 3 8 := ⟨by decide +kernel, rfl⟩
theorem d_PM_shows_8 : DJ M_PM_shows 8 (.ifCond .eq 14) 14 3 11 22 := ⟨by decide +kernel, rfl, rfl⟩
theorem d_PM_shows_11 : DI M_PM_shows 11 (.aload_n 0) 1 12 := ⟨by decide +kernel, rfl⟩
theorem d_PM_shows_12 : DI M_PM_shows 12 (.getfield 19) 3 15 := ⟨by decide +kernel, rfl⟩
theorem d_PM_shows_15 : DI M_PM_shows 15 (.iload_n 2) 1 16 := ⟨by decide +kernel, rfl⟩
theorem d_PM_shows_16 : DI M_PM_shows 16 (.invokevirtual 119) 3 19 := ⟨by decide +kernel, rfl⟩
theorem d_PM_shows_19 : DJ M_PM_shows 19 (.ifCond .ne 5) 5 3 22 24 := ⟨by decide +kernel, rfl, rfl⟩
theorem d_PM_shows_22 : DI M_PM_shows 22 (.iconst (-1)) 1 23 := ⟨by decide +kernel, rfl⟩
theorem d_PM_shows_23 : DI M_PM_shows 23 (.ireturn) 1 24 := ⟨by decide +kernel, rfl⟩
theorem d_PM_shows_24 : DI M_PM_shows 24 (.iload_n 3) 1 25 := ⟨by decide +kernel, rfl⟩
theorem d_PM_shows_25 : DI M_PM_shows 25 (.bipush 8) 2 27 := ⟨by decide +kernel, rfl⟩
theorem d_PM_shows_27 : DI M_PM_shows 27 (.invokestatic 158) 3 30 := ⟨by decide +kernel, rfl⟩
theorem d_PM_shows_30 : DJ M_PM_shows 30 (.ifCond .ne 6) 6 3 33 36 := ⟨by decide +kernel, rfl, rfl⟩
theorem d_PM_shows_33 : DI M_PM_shows 33 (.bipush (-2)) 2 35 := ⟨by decide +kernel, rfl⟩
theorem d_PM_shows_35 : DI M_PM_shows 35 (.ireturn) 1 36 := ⟨by decide +kernel, rfl⟩
theorem d_PM_shows_36 : DI M_PM_shows 36 (.aload_n 0) 1 37 := ⟨by decide +kernel, rfl⟩
theorem d_PM_shows_37 : DI M_PM_shows 37 (.getfield 19) 3 40 := ⟨by decide +kernel, rfl⟩
theorem d_PM_shows_40 : DI M_PM_shows 40 (.iload_n 1) 1 41 := ⟨by decide +kernel, rfl⟩
theorem d_PM_shows_41 : DI M_PM_shows 41 (.iload_n 2) 1 42 := ⟨by decide +kernel, rfl⟩
theorem d_PM_shows_42 : DI M_PM_shows 42 (.iload_n 3) 1 43 := ⟨by decide +kernel, rfl⟩
theorem d_PM_shows_43 : DI M_PM_shows 43 (.invokevirtual 162) 3 46 := ⟨by decide +kernel, rfl⟩
theorem d_PM_shows_46 : DJ M_PM_shows 46 (.ifCond .eq 7) 7 3 49 53 := ⟨by decide +kernel, rfl, rfl⟩
theorem d_PM_shows_49 : DI M_PM_shows 49 (.iconst 1) 1 50 := ⟨by decide +kernel, rfl⟩
theorem d_PM_shows_50 : DJ M_PM_shows 50 (.goto 4) 4 3 53 54 := ⟨by decide +kernel, rfl, rfl⟩
theorem d_PM_shows_53 : DI M_PM_shows 53 (.iconst 0) 1 54 := ⟨by decide +kernel, rfl⟩
theorem d_PM_shows_54 : DI M_PM_shows 54 (.ireturn) 1 55 := ⟨by decide +kernel, rfl⟩
theorem d_PM_tilt_0 : DI M_PM_tilt 0 (.aload_n 0) 1 1 := ⟨by decide +kernel, rfl⟩
theorem d_PM_tilt_1 : DI M_PM_tilt 1 (.getfield 19) 3 4 := ⟨by decide +kernel, rfl⟩
theorem d_PM_tilt_4 : DI M_PM_tilt 4 (.iload_n 1) 1 5 := ⟨by decide +kernel, rfl⟩
theorem d_PM_tilt_5 : DI M_PM_tilt 5 (.invokevirtual 133) 3 8 := ⟨by decide +kernel, rfl⟩
theorem d_PM_tilt_8 : DJ M_PM_tilt 8 (.ifCond .ne 5) 5 3 11 13 := ⟨by decide +kernel, rfl, rfl⟩
theorem d_PM_tilt_11 : DI M_PM_tilt 11 (.iconst (-1)) 1 12 := ⟨by decide +kernel, rfl⟩
theorem d_PM_tilt_12 : DI M_PM_tilt 12 (.ireturn) 1 13 := ⟨by decide +kernel, rfl⟩
theorem d_PM_tilt_13 : DI M_PM_tilt 13 (.aload_n 0) 1 14 := ⟨by decide +kernel, rfl⟩
theorem d_PM_tilt_14 : DI M_PM_tilt 14 (.getfield 29) 3 17 := ⟨by decide +kernel, rfl⟩
theorem d_PM_tilt_17 : DI M_PM_tilt 17 (.iload_n 1) 1 18 := ⟨by decide +kernel, rfl⟩
theorem d_PM_tilt_18 : DI M_PM_tilt 18 (.iload_n 2) 1 19 := ⟨by decide +kernel, rfl⟩
theorem d_PM_tilt_19 : DJ M_PM_tilt 19 (.ifCond .eq 7) 7 3 22 26 := ⟨by decide +kernel, rfl, rfl⟩
theorem d_PM_tilt_22 : DI M_PM_tilt 22 (.iconst 1) 1 23 := ⟨by decide +kernel, rfl⟩
theorem d_PM_tilt_23 : DJ M_PM_tilt 23 (.goto 4) 4 3 26 27 := ⟨by decide +kernel, rfl, rfl⟩
theorem d_PM_tilt_26 : DI M_PM_tilt 26 (.iconst (-1)) 1 27 := ⟨by decide +kernel, rfl⟩
theorem d_PM_tilt_27 : DI M_PM_tilt 27 (.invokevirtual 166) 3 30 := ⟨by decide +kernel, rfl⟩
theorem d_PM_tilt_30 : DI M_PM_tilt 30 (.aload_n 0) 1 31 := ⟨by decide +kernel, rfl⟩
theorem d_PM_tilt_31 : DI M_PM_tilt 31 (.getfield 43) 3 34 := ⟨by decide +kernel, rfl⟩
theorem d_PM_tilt_34 : DI M_PM_tilt 34 (.iconst 1) 1 35 := ⟨by decide +kernel, rfl⟩
theorem d_PM_tilt_35 : DI M_PM_tilt 35 (.iload_n 1) 1 36 := ⟨by decide +kernel, rfl⟩
theorem d_PM_tilt_36 : DI M_PM_tilt 36 (.iload_n 2) 1 37 := ⟨by decide +kernel, rfl⟩
theorem d_PM_tilt_37 : DJ M_PM_tilt 37 (.ifCond .eq 7) 7 3 40 44 := ⟨by decide +kernel, rfl, rfl⟩
theorem d_PM_tilt_40 : DI M_PM_tilt 40 (.iconst 1) 1 41 := ⟨by decide +kernel, rfl⟩
theorem d_PM_tilt_41 : DJ M_PM_tilt 41 (.goto 4) 4 3 44 45 := ⟨by decide +kernel, rfl, rfl⟩
theorem d_PM_tilt_44 : DI M_PM_tilt 44 (.iconst 0) 1 45 := ⟨by decide +kernel, rfl⟩
theorem d_PM_tilt_45 : DI M_PM_tilt 45 (.invokevirtual 170) 3 48 := ⟨by decide +kernel, rfl⟩
theorem d_PM_tilt_48 : DI M_PM_tilt 48 (.aload_n 0) 1 49 := ⟨by decide +kernel, rfl⟩
theorem d_PM_tilt_49 : DI M_PM_tilt 49 (.getfield 29) 3 52 := ⟨by decide +kernel, rfl⟩
theorem d_PM_tilt_52 : DI M_PM_tilt 52 (.getfield 145) 3 55 := ⟨by decide +kernel, rfl⟩
theorem d_PM_tilt_55 : DI M_PM_tilt 55 (.iload_n 1) 1 56 := ⟨by decide +kernel, rfl⟩
theorem d_PM_tilt_56 : DI M_PM_tilt 56 (.iaload) 1 57 := ⟨by decide +kernel, rfl⟩
theorem d_PM_tilt_57 : DI M_PM_tilt 57 (.ireturn) 1 58 := ⟨by decide +kernel, rfl⟩
theorem d_PM_give_0 : DI M_PM_give 0 (.aload_n 0) 1 1 := ⟨by decide +kernel, rfl⟩
theorem d_PM_give_1 : DI M_PM_give 1 (.getfield 19) 3 4 := ⟨by decide +kernel, rfl⟩
theorem d_PM_give_4 : DI M_PM_give 4 (.iload_n 1) 1 5 := ⟨by decide +kernel, rfl⟩
theorem d_PM_give_5 : DI M_PM_give 5 (.invokevirtual 133) 3 8 := ⟨by decide +kernel, rfl⟩
theorem d_PM_give_8 : DJ M_PM_give 8 (.ifCond .eq 14) 14 3 11 22 := ⟨by decide +kernel, rfl, rfl⟩
theorem d_PM_give_11 : DI M_PM_give 11 (.aload_n 0) 1 12 := ⟨by decide +kernel, rfl⟩
theorem d_PM_give_12 : DI M_PM_give 12 (.getfield 19) 3 15 := ⟨by decide +kernel, rfl⟩
theorem d_PM_give_15 : DI M_PM_give 15 (.iload_n 2) 1 16 := ⟨by decide +kernel, rfl⟩
theorem d_PM_give_16 : DI M_PM_give 16 (.invokevirtual 119) 3 19 := ⟨by decide +kernel, rfl⟩
theorem d_PM_give_19 : DJ M_PM_give 19 (.ifCond .ne 5) 5 3 22 24 := ⟨by decide +kernel, rfl, rfl⟩
theorem d_PM_give_22 : DI M_PM_give 22 (.iconst (-1)) 1 23 := ⟨by decide +kernel, rfl⟩
theorem d_PM_give_23 : DI M_PM_give 23 (.ireturn) 1 24 := ⟨by decide +kernel, rfl⟩
theorem d_PM_give_24 : DI M_PM_give 24 (.aload_n 0) 1 25 := ⟨by decide +kernel, rfl⟩
theorem d_PM_give_25 : DI M_PM_give 25 (.getfield 29) 3 28 := ⟨by decide +kernel, rfl⟩
theorem d_PM_give_28 : DI M_PM_give 28 (.getfield 148) 3 31 := ⟨by decide +kernel, rfl⟩
theorem d_PM_give_31 : DI M_PM_give 31 (.iload_n 1) 1 32 := ⟨by decide +kernel, rfl⟩
theorem d_PM_give_32 : DI M_PM_give 32 (.iaload) 1 33 := ⟨by decide +kernel, rfl⟩
theorem d_PM_give_33 : DI M_PM_give 33 (.istore_n 3) 1 34 := ⟨by decide +kernel, rfl⟩
theorem d_PM_give_34 : DI M_PM_give 34 (.iload_n 3) 1 35 := ⟨by decide +kernel, rfl⟩
theorem d_PM_give_35 : DI M_PM_give 35 (.iload_n 2) 1 36 := ⟨by decide +kernel, rfl⟩
theorem d_PM_give_36 : DJ M_PM_give 36 (.if_icmp .ne 6) 6 3 39 42 := ⟨by decide +kernel, rfl, rfl⟩
theorem d_PM_give_39 : DI M_PM_give 39 (.bipush (-3)) 2 41 := ⟨by decide +kernel, rfl⟩
theorem d_PM_give_41 : DI M_PM_give 41 (.ireturn) 1 42 := ⟨by decide +kernel, rfl⟩
theorem d_PM_give_42 : DI M_PM_give 42 (.aload_n 0) 1 43 := ⟨by decide +kernel, rfl⟩
theorem d_PM_give_43 : DI M_PM_give 43 (.getfield 29) 3 46 := ⟨by decide +kernel, rfl⟩
theorem d_PM_give_46 : DI M_PM_give 46 (.getfield 148) 3 49 := ⟨by decide +kernel, rfl⟩
theorem d_PM_give_49 : DI M_PM_give 49 (.iload_n 1) 1 50 := ⟨by decide +kernel, rfl⟩
theorem d_PM_give_50 : DI M_PM_give 50 (.iload_n 2) 1 51 := ⟨by decide +kernel, rfl⟩
theorem d_PM_give_51 : DI M_PM_give 51 (.iastore) 1 52 := ⟨by decide +kernel, rfl⟩
theorem d_PM_give_52 : DI M_PM_give 52 (.aload_n 0) 1 53 := ⟨by decide +kernel, rfl⟩
theorem d_PM_give_53 : DI M_PM_give 53 (.getfield 43) 3 56 := ⟨by decide +kernel, rfl⟩
theorem d_PM_give_56 : DI M_PM_give 56 (.iconst 2) 1 57 := ⟨by decide +kernel, rfl⟩
theorem d_PM_give_57 : DI M_PM_give 57 (.iload_n 1) 1 58 := ⟨by decide +kernel, rfl⟩
theorem d_PM_give_58 : DI M_PM_give 58 (.iload_n 3) 1 59 := ⟨by decide +kernel, rfl⟩
theorem d_PM_give_59 : DI M_PM_give 59 (.invokevirtual 170) 3 62 := ⟨by decide +kernel, rfl⟩
theorem d_PM_give_62 : DI M_PM_give 62 (.iload_n 3) 1 63 := ⟨by decide +kernel, rfl⟩
theorem d_PM_give_63 : DI M_PM_give 63 (.ireturn) 1 64 := ⟨by decide +kernel, rfl⟩
theorem d_PM_hour_0 : DI M_PM_hour 0 (.aload_n 0) 1 1 := ⟨by decide +kernel, rfl⟩
theorem d_PM_hour_1 : DI M_PM_hour 1 (.getfield 29) 3 4 := ⟨by decide +kernel, rfl⟩
theorem d_PM_hour_4 : DI M_PM_hour 4 (.iconst 1) 1 5 := ⟨by decide +kernel, rfl⟩
theorem d_PM_hour_5 : DI M_PM_hour 5 (.invokevirtual 173) 3 8 := ⟨by decide +kernel, rfl⟩
theorem d_PM_hour_8 : DI M_PM_hour 8 (.aload_n 0) 1 9 := ⟨by decide +kernel, rfl⟩
theorem d_PM_hour_9 : DI M_PM_hour 9 (.getfield 43) 3 12 := ⟨by decide +kernel, rfl⟩
theorem d_PM_hour_12 : DI M_PM_hour 12 (.iconst 3) 1 13 := ⟨by decide +kernel, rfl⟩
theorem d_PM_hour_13 : DI M_PM_hour 13 (.iconst 0) 1 14 := ⟨by decide +kernel, rfl⟩
theorem d_PM_hour_14 : DI M_PM_hour 14 (.iconst 0) 1 15 := ⟨by decide +kernel, rfl⟩
theorem d_PM_hour_15 : DI M_PM_hour 15 (.invokevirtual 170) 3 18 := ⟨by decide +kernel, rfl⟩
theorem d_PM_hour_18 : DI M_PM_hour 18 (.aload_n 0) 1 19 := ⟨by decide +kernel, rfl⟩
theorem d_PM_hour_19 : DI M_PM_hour 19 (.getfield 29) 3 22 := ⟨by decide +kernel, rfl⟩
theorem d_PM_hour_22 : DI M_PM_hour 22 (.getfield 104) 3 25 := ⟨by decide +kernel, rfl⟩
theorem d_PM_hour_25 : DI M_PM_hour 25 (.ireturn) 1 26 := ⟨by decide +kernel, rfl⟩
theorem d_PM_undo_0 : DI M_PM_undo 0 (.aload_n 0) 1 1 := ⟨by decide +kernel, rfl⟩
theorem d_PM_undo_1 : DI M_PM_undo 1 (.getfield 43) 3 4 := ⟨by decide +kernel, rfl⟩
theorem d_PM_undo_4 : DI M_PM_undo 4 (.getfield 91) 3 7 := ⟨by decide +kernel, rfl⟩
theorem d_PM_undo_7 : DJ M_PM_undo 7 (.ifCond .ne 6) 6 3 10 13 := ⟨by decide +kernel, rfl, rfl⟩
theorem d_PM_undo_10 : DI M_PM_undo 10 (.bipush (-3)) 2 12 := ⟨by decide +kernel, rfl⟩
theorem d_PM_undo_12 : DI M_PM_undo 12 (.ireturn) 1 13 := ⟨by decide +kernel, rfl⟩
theorem d_PM_undo_13 : DI M_PM_undo 13 (.aload_n 0) 1 14 := ⟨by decide +kernel, rfl⟩
theorem d_PM_undo_14 : DI M_PM_undo 14 (.aload_n 0) 1 15 := ⟨by decide +kernel, rfl⟩
theorem d_PM_undo_15 : DI M_PM_undo 15 (.getfield 43) 3 18 := ⟨by decide +kernel, rfl⟩
theorem d_PM_undo_18 : DI M_PM_undo 18 (.invokevirtual 177) 3 21 := ⟨by decide +kernel, rfl⟩
theorem d_PM_undo_21 : DI M_PM_undo 21 (.invokevirtual 180) 3 24 := ⟨by decide +kernel, rfl⟩
theorem d_PM_undo_24 : DI M_PM_undo 24 (.aload_n 0) 1 25 := ⟨by decide +kernel, rfl⟩
theorem d_PM_undo_25 : DI M_PM_undo 25 (.getfield 43) 3 28 := ⟨by decide +kernel, rfl⟩
theorem d_PM_undo_28 : DI M_PM_undo 28 (.getfield 91) 3 31 := ⟨by decide +kernel, rfl⟩
theorem d_PM_undo_31 : DI M_PM_undo 31 (.ireturn) 1 32 := ⟨by decide +kernel, rfl⟩
theorem d_PM_tilts_0 : DI M_PM_tilts 0 (.aload_n 0) 1 1 := ⟨by decide +kernel, rfl⟩
theorem d_PM_tilts_1 : DI M_PM_tilts 1 (.getfield 19) 3 4 := ⟨by decide +kernel, rfl⟩
theorem d_PM_tilts_4 : DI M_PM_tilts 4 (.iload_n 1) 1 5 := ⟨by decide +kernel, rfl⟩
theorem d_PM_tilts_5 : DI M_PM_tilts 5 (.invokevirtual 133) 3 8 := ⟨by decide +kernel, rfl⟩
theorem d_PM_tilts_8 : DJ M_PM_tilts 8 (.ifCond .eq 14) 14 3 11 22 := ⟨by decide +kernel, rfl, rfl⟩
theorem d_PM_tilts_11 : DI M_PM_tilts 11 (.aload_n 0) 1 12 := ⟨by decide +kernel, rfl⟩
theorem d_PM_tilts_12 : DI M_PM_tilts 12 (.getfield 19) 3 15 := ⟨by decide +kernel, rfl⟩
theorem d_PM_tilts_15 : DI M_PM_tilts 15 (.iload_n 2) 1 16 := ⟨by decide +kernel, rfl⟩
theorem d_PM_tilts_16 : DI M_PM_tilts 16 (.invokevirtual 119) 3 19 := ⟨by decide +kernel, rfl⟩
theorem d_PM_tilts_19 : DJ M_PM_tilts 19 (.ifCond .ne 5) 5 3 22 24 := ⟨by decide +kernel, rfl, rfl⟩
theorem d_PM_tilts_22 : DI M_PM_tilts 22 (.iconst (-1)) 1 23 := ⟨by decide +kernel, rfl⟩
theorem d_PM_tilts_23 : DI M_PM_tilts 23 (.ireturn) 1 24 := ⟨by decide +kernel, rfl⟩
theorem d_PM_tilts_24 : DI M_PM_tilts 24 (.aload_n 0) 1 25 := ⟨by decide +kernel, rfl⟩
theorem d_PM_tilts_25 : DI M_PM_tilts 25 (.iload_n 1) 1 26 := ⟨by decide +kernel, rfl⟩
theorem d_PM_tilts_26 : DI M_PM_tilts 26 (.iload_n 2) 1 27 := ⟨by decide +kernel, rfl⟩
theorem d_PM_tilts_27 : DI M_PM_tilts 27 (.invokevirtual 183) 3 30 := ⟨by decide +kernel, rfl⟩
theorem d_PM_tilts_30 : DI M_PM_tilts 30 (.ireturn) 1 31 := ⟨by decide +kernel, rfl⟩
theorem d_PM_finds_0 : DI M_PM_finds 0 (.aload_n 0) 1 1 := ⟨by decide +kernel, rfl⟩
theorem d_PM_finds_1 : DI M_PM_finds 1 (.getfield 19) 3 4 := ⟨by decide +kernel, rfl⟩
theorem d_PM_finds_4 : DI M_PM_finds 4 (.iload_n 1) 1 5 := ⟨by decide +kernel, rfl⟩
theorem d_PM_finds_5 : DI M_PM_finds 5 (.invokevirtual 119) 3 8 := ⟨by decide +kernel, rfl⟩
theorem d_PM_finds_8 : DJ M_PM_finds 8 (.ifCond .ne 5) 5 3 11 13 := ⟨by decide +kernel, rfl, rfl⟩
theorem d_PM_finds_11 : DI M_PM_finds 11 (.iconst (-1)) 1 12 := ⟨by decide +kernel, rfl⟩
theorem d_PM_finds_12 : DI M_PM_finds 12 (.ireturn) 1 13 := ⟨by decide +kernel, rfl⟩
theorem d_PM_finds_13 : DI M_PM_finds 13 (.iload_n 2) 1 14 := ⟨by decide +kernel, rfl⟩
theorem d_PM_finds_14 : DI M_PM_finds 14 (.iconst 5) 1 15 := ⟨by decide +kernel, rfl⟩
theorem d_PM_finds_15 : DI M_PM_finds 15 (.invokestatic 158) 3 18 := ⟨by decide +kernel, rfl⟩
theorem d_PM_finds_18 : DJ M_PM_finds 18 (.ifCond .eq 12) 12 3 21 30 := ⟨by decide +kernel, rfl, rfl⟩
theorem d_PM_finds_21 : DI M_PM_finds 21 (.aload_n 0) 1 22 := ⟨by decide +kernel, rfl⟩
theorem d_PM_finds_22 : DI M_PM_finds 22 (.iload_n 1) 1 23 := ⟨by decide +kernel, rfl⟩
theorem d_PM_finds_23 : DI M_PM_finds 23 (.iload_n 2) 1 24 := ⟨by decide +kernel, rfl⟩
theorem d_PM_finds_24 : DI M_PM_finds 24 (.invokevirtual 187) 3 27 := ⟨by decide +kernel, rfl⟩
theorem d_PM_finds_27 : DJ M_PM_finds 27 (.goto 5) 5 3 30 32 := ⟨by decide +kernel, rfl, rfl⟩
theorem d_PM_finds_30 : DI M_PM_finds 30 (.bipush (-2)) 2 32 := ⟨by decide +kernel, rfl⟩
theorem d_PM_finds_32 : DI M_PM_finds 32 (.ireturn) 1 33 := ⟨by decide +kernel, rfl⟩
theorem d_PM_all_0 : DI M_PM_all 0 (.aload_n 0) 1 1 := ⟨by decide +kernel, rfl⟩
theorem d_PM_all_1 : DI M_PM_all 1 (.getfield 19) 3 4 := ⟨by decide +kernel, rfl⟩
theorem d_PM_all_4 : DI M_PM_all 4 (.iload_n 1) 1 5 := ⟨by decide +kernel, rfl⟩
theorem d_PM_all_5 : DI M_PM_all 5 (.invokevirtual 119) 3 8 := ⟨by decide +kernel, rfl⟩
theorem d_PM_all_8 : DJ M_PM_all 8 (.ifCond .ne 5) 5 3 11 13 := ⟨by decide +kernel, rfl, rfl⟩
theorem d_PM_all_11 : DI M_PM_all 11 (.iconst (-1)) 1 12 := ⟨by decide +kernel, rfl⟩
theorem d_PM_all_12 : DI M_PM_all 12 (.ireturn) 1 13 := ⟨by decide +kernel, rfl⟩
theorem d_PM_all_13 : DI M_PM_all 13 (.aload_n 0) 1 14 := ⟨by decide +kernel, rfl⟩
theorem d_PM_all_14 : DI M_PM_all 14 (.iload_n 1) 1 15 := ⟨by decide +kernel, rfl⟩
theorem d_PM_all_15 : DI M_PM_all 15 (.invokevirtual 190) 3 18 := ⟨by decide +kernel, rfl⟩
theorem d_PM_all_18 : DI M_PM_all 18 (.istore_n 2) 1 19 := ⟨by decide +kernel, rfl⟩
theorem d_PM_all_19 : DI M_PM_all 19 (.iconst 0) 1 20 := ⟨by decide +kernel, rfl⟩
theorem d_PM_all_20 : DI M_PM_all 20 (.istore_n 3) 1 21 := ⟨by decide +kernel, rfl⟩
theorem d_PM_all_21 : DI M_PM_all 21 (.iconst 0) 1 22 := ⟨by decide +kernel, rfl⟩
theorem d_PM_all_22 : DI M_PM_all 22 (.istore 4) 2 24 := ⟨by decide +kernel, rfl⟩
theorem d_PM_all_24 : DI M_PM_all 24 (.iload 4) 2 26 := ⟨by decide +kernel, rfl⟩
theorem d_PM_all_26 : DI M_PM_all 26 (.iconst 5) 1 27 := ⟨by decide +kernel, rfl⟩
theorem d_PM_all_27 : DJ M_PM_all 27 (.if_icmp .ge 42) 42 3 30 69 := ⟨by decide +kernel, rfl, rfl⟩
theorem d_PM_all_30 : DI M_PM_all 30 (.iload_n 2) 1 31 := ⟨by decide +kernel, rfl⟩
theorem d_PM_all_31 : DI M_PM_all 31 (.iload 4) 2 33 := ⟨by decide +kernel, rfl⟩
theorem d_PM_all_33 : DI M_PM_all 33 (.invokestatic 193) 3 36 := ⟨by decide +kernel, rfl⟩
theorem d_PM_all_36 : DJ M_PM_all 36 (.ifCond .eq 27) 27 3 39 63 := ⟨by decide +kernel, rfl, rfl⟩
theorem d_PM_all_39 : DI M_PM_all 39 (.aload_n 0) 1 40 := ⟨by decide +kernel, rfl⟩
theorem d_PM_all_40 : DI M_PM_all 40 (.iload_n 1) 1 41 := ⟨by decide +kernel, rfl⟩
theorem d_PM_all_41 : DI M_PM_all 41 (.iload 4) 2 43 := ⟨by decide +kernel, rfl⟩
theorem d_PM_all_43 : DI M_PM_all 43 (.invokevirtual 187) 3 46 := ⟨by decide +kernel, rfl⟩
theorem d_PM_all_46 : DI M_PM_all 46 (.istore 5) 2 48 := ⟨by decide +kernel, rfl⟩
theorem d_PM_all_48 : DI M_PM_all 48 (.iload 5) 2 50 := ⟨by decide +kernel, rfl⟩
theorem d_PM_all_50 : DI M_PM_all 50 (.bipush (-9)) 2 52 := ⟨by decide +kernel, rfl⟩
theorem d_PM_all_52 : DJ M_PM_all 52 (.if_icmp .ne 6) 6 3 55 58 := ⟨by decide +kernel, rfl, rfl⟩
theorem d_PM_all_55 : DI M_PM_all 55 (.bipush (-9)) 2 57 := ⟨by decide +kernel, rfl⟩
theorem d_PM_all_57 : DI M_PM_all 57 (.ireturn) 1 58 := ⟨by decide +kernel, rfl⟩
theorem d_PM_all_58 : DI M_PM_all 58 (.iload_n 3) 1 59 := ⟨by decide +kernel, rfl⟩
theorem d_PM_all_59 : DI M_PM_all 59 (.iload 5) 2 61 := ⟨by decide +kernel, rfl⟩
theorem d_PM_all_61 : DI M_PM_all 61 (.iadd) 1 62 := ⟨by decide +kernel, rfl⟩
theorem d_PM_all_62 : DI M_PM_all 62 (.istore_n 3) 1 63 := ⟨by decide +kernel, rfl⟩
theorem d_PM_all_63 : DI M_PM_all 63 (.iinc 4 1) 3 66 := ⟨by decide +kernel, rfl⟩
theorem d_PM_all_66 : DJ M_PM_all 66 (.goto (-42)) (-42) 3 69 24 := ⟨by decide +kernel, rfl, rfl⟩
theorem d_PM_all_69 : DI M_PM_all 69 (.iload_n 3) 1 70 := ⟨by decide +kernel, rfl⟩
theorem d_PM_all_70 : DI M_PM_all 70 (.ireturn) 1 71 := ⟨by decide +kernel, rfl⟩
theorem d_PM_when_0 : DI M_PM_when 0 (.aload_n 0) 1 1 := ⟨by decide +kernel, rfl⟩
theorem d_PM_when_1 : DI M_PM_when 1 (.getfield 19) 3 4 := ⟨by decide +kernel, rfl⟩
theorem d_PM_when_4 : DI M_PM_when 4 (.iload_n 1) 1 5 := ⟨by decide +kernel, rfl⟩
theorem d_PM_when_5 : DI M_PM_when 5 (.invokevirtual 119) 3 8 := ⟨by decide +kernel, rfl⟩
theorem d_PM_when_8 : DJ M_PM_when 8 (.ifCond .ne 5) 5 3 11 13 := ⟨by decide +kernel, rfl, rfl⟩
theorem d_PM_when_11 : DI M_PM_when 11 (.iconst (-1)) 1 12 := ⟨by decide +kernel, rfl⟩
theorem d_PM_when_12 : DI M_PM_when 12 (.ireturn) 1 13 := ⟨by decide +kernel, rfl⟩
theorem d_PM_when_13 : DI M_PM_when 13 (.iload_n 2) 1 14 := ⟨by decide +kernel, rfl⟩
theorem d_PM_when_14 : DI M_PM_when 14 (.iconst 5) 1 15 := ⟨by decide +kernel, rfl⟩
theorem d_PM_when_15 : DI M_PM_when 15 (.invokestatic 158) 3 18 := ⟨by decide +kernel, rfl⟩
theorem d_PM_when_18 : DJ M_PM_when 18 (.ifCond .eq 12) 12 3 21 30 := ⟨by decide +kernel, rfl, rfl⟩
theorem d_PM_when_21 : DI M_PM_when 21 (.aload_n 0) 1 22 := ⟨by decide +kernel, rfl⟩
theorem d_PM_when_22 : DI M_PM_when 22 (.iload_n 1) 1 23 := ⟨by decide +kernel, rfl⟩
theorem d_PM_when_23 : DI M_PM_when 23 (.iload_n 2) 1 24 := ⟨by decide +kernel, rfl⟩
theorem d_PM_when_24 : DI M_PM_when 24 (.invokevirtual 196) 3 27 := ⟨by decide +kernel, rfl⟩
theorem d_PM_when_27 : DJ M_PM_when 27 (.goto 5) 5 3 30 32 := ⟨by decide +kernel, rfl, rfl⟩
theorem d_PM_when_30 : DI M_PM_when 30 (.bipush (-2)) 2 32 := ⟨by decide +kernel, rfl⟩
theorem d_PM_when_32 : DI M_PM_when 32 (.ireturn) 1 33 := ⟨by decide +kernel, rfl⟩
theorem d_PM_mothers_0 : DI M_PM_mothers 0 (.aload_n 0) 1 1 := ⟨by decide +kernel, rfl⟩
theorem d_PM_mothers_1 : DI M_PM_mothers 1 (.getfield 64) 3 4 := ⟨by decide +kernel, rfl⟩
theorem d_PM_mothers_4 : DI M_PM_mothers 4 (.aload_n 0) 1 5 := ⟨by decide +kernel, rfl⟩
theorem d_PM_mothers_5 : DI M_PM_mothers 5 (.getfield 19) 3 8 := ⟨by decide +kernel, rfl⟩
theorem d_PM_mothers_8 : DI M_PM_mothers 8 (.invokevirtual 199) 3 11 := ⟨by decide +kernel, rfl⟩
theorem d_PM_mothers_11 : DI M_PM_mothers 11 (.aload_n 0) 1 12 := ⟨by decide +kernel, rfl⟩
theorem d_PM_mothers_12 : DI M_PM_mothers 12 (.getfield 64) 3 15 := ⟨by decide +kernel, rfl⟩
theorem d_PM_mothers_15 : DI M_PM_mothers 15 (.getfield 202) 3 18 := ⟨by decide +kernel, rfl⟩
theorem d_PM_mothers_18 : DI M_PM_mothers 18 (.iconst 1) 1 19 := ⟨by decide +kernel, rfl⟩
theorem d_PM_mothers_19 : DI M_PM_mothers 19 (.aload_n 0) 1 20 := ⟨by decide +kernel, rfl⟩
theorem d_PM_mothers_20 : DI M_PM_mothers 20 (.getfield 19) 3 23 := ⟨by decide +kernel, rfl⟩
theorem d_PM_mothers_23 : DI M_PM_mothers 23 (.getfield 101) 3 26 := ⟨by decide +kernel, rfl⟩
theorem d_PM_mothers_26 : DI M_PM_mothers 26 (.ishl) 1 27 := ⟨by decide +kernel, rfl⟩
theorem d_PM_mothers_27 : DI M_PM_mothers 27 (.iconst 1) 1 28 := ⟨by decide +kernel, rfl⟩
theorem d_PM_mothers_28 : DI M_PM_mothers 28 (.isub) 1 29 := ⟨by decide +kernel, rfl⟩
theorem d_PM_mothers_29 : DI M_PM_mothers 29 (.iaload) 1 30 := ⟨by decide +kernel, rfl⟩
theorem d_PM_mothers_30 : DI M_PM_mothers 30 (.ireturn) 1 31 := ⟨by decide +kernel, rfl⟩
theorem d_PM_giving_0 : DI M_PM_giving 0 (.aload_n 0) 1 1 := ⟨by decide +kernel, rfl⟩
theorem d_PM_giving_1 : DI M_PM_giving 1 (.getfield 57) 3 4 := ⟨by decide +kernel, rfl⟩
theorem d_PM_giving_4 : DI M_PM_giving 4 (.aload_n 0) 1 5 := ⟨by decide +kernel, rfl⟩
theorem d_PM_giving_5 : DI M_PM_giving 5 (.getfield 19) 3 8 := ⟨by decide +kernel, rfl⟩
theorem d_PM_giving_8 : DI M_PM_giving 8 (.aload_n 0) 1 9 := ⟨by decide +kernel, rfl⟩
theorem d_PM_giving_9 : DI M_PM_giving 9 (.getfield 29) 3 12 := ⟨by decide +kernel, rfl⟩
theorem d_PM_giving_12 : DI M_PM_giving 12 (.invokevirtual 205) 3 15 := ⟨by decide +kernel, rfl⟩
theorem d_PM_giving_15 : DI M_PM_giving 15 (.aload_n 0) 1 16 := ⟨by decide +kernel, rfl⟩
theorem d_PM_giving_16 : DI M_PM_giving 16 (.getfield 57) 3 19 := ⟨by decide +kernel, rfl⟩
theorem d_PM_giving_19 : DI M_PM_giving 19 (.iconst 0) 1 20 := ⟨by decide +kernel, rfl⟩
theorem d_PM_giving_20 : DI M_PM_giving 20 (.iconst 0) 1 21 := ⟨by decide +kernel, rfl⟩
theorem d_PM_giving_21 : DI M_PM_giving 21 (.iconst 0) 1 22 := ⟨by decide +kernel, rfl⟩
theorem d_PM_giving_22 : DI M_PM_giving 22 (.invokestatic 208) 3 25 := ⟨by decide +kernel, rfl⟩
theorem d_PM_giving_25 : DI M_PM_giving 25 (.iload_n 1) 1 26 := ⟨by decide +kernel, rfl⟩
theorem d_PM_giving_26 : DJ M_PM_giving 26 (.ifCond .eq 13) 13 3 29 39 := ⟨by decide +kernel, rfl, rfl⟩
theorem d_PM_giving_29 : DI M_PM_giving 29 (.aload_n 0) 1 30 := ⟨by decide +kernel, rfl⟩
theorem d_PM_giving_30 : DI M_PM_giving 30 (.getfield 57) 3 33 := ⟨by decide +kernel, rfl⟩
theorem d_PM_giving_33 : DI M_PM_giving 33 (.getfield 212) 3 36 := ⟨by decide +kernel, rfl⟩
theorem d_PM_giving_36 : DJ M_PM_giving 36 (.goto 10) 10 3 39 46 := ⟨by decide +kernel, rfl, rfl⟩
theorem d_PM_giving_39 : DI M_PM_giving 39 (.aload_n 0) 1 40 := ⟨by decide +kernel, rfl⟩
theorem d_PM_giving_40 : DI M_PM_giving 40 (.getfield 57) 3 43 := ⟨by decide +kernel, rfl⟩
theorem d_PM_giving_43 : DI M_PM_giving 43 (.getfield 215) 3 46 := ⟨by decide +kernel, rfl⟩
theorem d_PM_giving_46 : DI M_PM_giving 46 (.ireturn) 1 47 := ⟨by decide +kernel, rfl⟩
theorem d_PM_judge_0 : DI M_PM_judge 0 (.iload_n 1) 1 1 := ⟨by decide +kernel, rfl⟩
theorem d_PM_judge_1 : DI M_PM_judge 1 (.iconst 1) 1 2 := ⟨by decide +kernel, rfl⟩
theorem d_PM_judge_2 : DJ M_PM_judge 2 (.if_icmp .lt 14) 14 3 5 16 := ⟨by decide +kernel, rfl, rfl⟩
theorem d_PM_judge_5 : DI M_PM_judge 5 (.iload_n 1) 1 6 := ⟨by decide +kernel, rfl⟩
theorem d_PM_judge_6 : DI M_PM_judge 6 (.iconst 4) 1 7 := ⟨by decide +kernel, rfl⟩
theorem d_PM_judge_7 : DJ M_PM_judge 7 (.if_icmp .gt 9) 9 3 10 16 := ⟨by decide +kernel, rfl, rfl⟩
theorem d_PM_judge_10 : DI M_PM_judge 10 (.lload_n 2) 1 11 := ⟨by decide +kernel, rfl⟩
theorem d_PM_judge_11 : DI M_PM_judge 11 (.lconst 0) 1 12 := ⟨by decide +kernel, rfl⟩
theorem d_PM_judge_12 : DI M_PM_judge 12 (.lcmp) 1 13 := ⟨by decide +kernel, rfl⟩
theorem d_PM_judge_13 : DJ M_PM_judge 13 (.ifCond .ge 6) 6 3 16 19 := ⟨by decide +kernel, rfl, rfl⟩
theorem d_PM_judge_16 : DI M_PM_judge 16 (.bipush (-2)) 2 18 := ⟨by decide +kernel, rfl⟩
theorem d_PM_judge_18 : DI M_PM_judge 18 (.ireturn) 1 19 := ⟨by decide +kernel, rfl⟩
theorem d_PM_judge_19 : DI M_PM_judge 19 (.lload_n 2) 1 20 := ⟨by decide +kernel, rfl⟩
theorem d_PM_judge_20 : DI M_PM_judge 20 (.lstore 4) 2 22 := ⟨by decide +kernel, rfl⟩
theorem d_PM_judge_22 : DI M_PM_judge 22 (.iload_n 1) 1 23 := ⟨by decide +kernel, rfl⟩
theorem d_PM_judge_23 : DI M_PM_judge 23 (.iconst 1) 1 24 := ⟨by decide +kernel, rfl⟩
theorem d_PM_judge_24 : DI M_PM_judge 24 (.isub) 1 25 := ⟨by decide +kernel, rfl⟩
theorem d_PM_judge_25 : DI M_PM_judge 25 (.istore 6) 2 27 := ⟨by decide +kernel, rfl⟩
theorem d_PM_judge_27 : DI M_PM_judge 27 (.iload 6) 2 29 := ⟨by decide +kernel, rfl⟩
theorem d_PM_judge_29 : DJ M_PM_judge 29 (.ifCond .lt 31) 31 3 32 60 := ⟨by decide +kernel, rfl, rfl⟩
theorem d_PM_judge_32 : DI M_PM_judge 32 (.aload_n 0) 1 33 := ⟨by decide +kernel, rfl⟩
theorem d_PM_judge_33 : DI M_PM_judge 33 (.getfield 68) 3 36 := ⟨by decide +kernel, rfl⟩
theorem d_PM_judge_36 : DI M_PM_judge 36 (.iload 6) 2 38 := ⟨by decide +kernel, rfl⟩
theorem d_PM_judge_38 : DI M_PM_judge 38 (.lload 4) 2 40 := ⟨by decide +kernel, rfl⟩
theorem d_PM_judge_40 : DI M_PM_judge 40 (.ldc2_w 218) 3 43 := ⟨by decide +kernel, rfl⟩
theorem d_PM_judge_43 : DI M_PM_judge 43 (.lrem) 1 44 := ⟨by decide +kernel, rfl⟩
theorem d_PM_judge_44 : DI M_PM_judge 44 (.l2i) 1 45 := ⟨by decide +kernel, rfl⟩
theorem d_PM_judge_45 : DI M_PM_judge 45 (.iastore) 1 46 := ⟨by decide +kernel, rfl⟩
theorem d_PM_judge_46 : DI M_PM_judge 46 (.lload 4) 2 48 := ⟨by decide +kernel, rfl⟩
theorem d_PM_judge_48 : DI M_PM_judge 48 (.ldc2_w 218) 3 51 := ⟨by decide +kernel, rfl⟩
theorem d_PM_judge_51 : DI M_PM_judge 51 (.ldiv) 1 52 := ⟨by decide +kernel, rfl⟩
theorem d_PM_judge_52 : DI M_PM_judge 52 (.lstore 4) 2 54 := ⟨by decide +kernel, rfl⟩
theorem d_PM_judge_54 : DI M_PM_judge 54 (.iinc 6 (-1)) 3 57 := ⟨by decide +kernel, rfl⟩
theorem d_PM_judge_57 : DJ M_PM_judge 57 (.goto (-30)) (-30) 3 60 27 := ⟨by decide +kernel, rfl, rfl⟩
theorem d_PM_judge_60 : DI M_PM_judge 60 (.lload 4) 2 62 := ⟨by decide +kernel, rfl⟩
theorem d_PM_judge_62 : DI M_PM_judge 62 (.lconst 0) 1 63 := ⟨by decide +kernel, rfl⟩
theorem d_PM_judge_63 : DI M_PM_judge 63 (.lcmp) 1 64 := ⟨by decide +kernel, rfl⟩
theorem d_PM_judge_64 : DJ M_PM_judge 64 (.ifCond .eq 6) 6 3 67 70 := ⟨by decide +kernel, rfl, rfl⟩
theorem d_PM_judge_67 : DI M_PM_judge 67 (.bipush (-2)) 2 69 := ⟨by decide +kernel, rfl⟩
theorem d_PM_judge_69 : DI M_PM_judge 69 (.ireturn) 1 70 := ⟨by decide +kernel, rfl⟩
theorem d_PM_judge_70 : DI M_PM_judge 70 (.aload_n 0) 1 71 := ⟨by decide +kernel, rfl⟩
theorem d_PM_judge_71 : DI M_PM_judge 71 (.getfield 33) 3 74 := ⟨by decide +kernel, rfl⟩
theorem d_PM_judge_74 : DI M_PM_judge 74 (.aload_n 0) 1 75 := ⟨by decide +kernel, rfl⟩
theorem d_PM_judge_75 : DI M_PM_judge 75 (.getfield 29) 3 78 := ⟨by decide +kernel, rfl⟩
theorem d_PM_judge_78 : DI M_PM_judge 78 (.invokevirtual 220) 3 81 := ⟨by decide +kernel, rfl⟩
theorem d_PM_judge_81 : DI M_PM_judge 81 (.iconst 0) 1 82 := ⟨by decide +kernel, rfl⟩
theorem d_PM_judge_82 : DI M_PM_judge 82 (.istore 6) 2 84 := ⟨by decide +kernel, rfl⟩
theorem d_PM_judge_84 : DI M_PM_judge 84 (.iload 6) 2 86 := ⟨by decide +kernel, rfl⟩
theorem d_PM_judge_86 : DI M_PM_judge 86 (.iload_n 1) 1 87 := ⟨by decide +kernel, rfl⟩
theorem d_PM_judge_87 : DJ M_PM_judge 87 (.if_icmp .ge 26) 26 3 90 113 := ⟨by decide +kernel, rfl, rfl⟩
theorem d_PM_judge_90 : DI M_PM_judge 90 (.aload_n 0) 1 91 := ⟨by decide +kernel, rfl⟩
theorem d_PM_judge_91 : DI M_PM_judge 91 (.aload_n 0) 1 92 := ⟨by decide +kernel, rfl⟩
theorem d_PM_judge_92 : DI M_PM_judge 92 (.getfield 68) 3 95 := ⟨by decide +kernel, rfl⟩
theorem d_PM_judge_95 : DI M_PM_judge 95 (.iload 6) 2 97 := ⟨by decide +kernel, rfl⟩
theorem d_PM_judge_97 : DI M_PM_judge 97 (.iaload) 1 98 := ⟨by decide +kernel, rfl⟩
theorem d_PM_judge_98 : DI M_PM_judge 98 (.invokevirtual 224) 3 101 := ⟨by decide +kernel, rfl⟩
theorem d_PM_judge_101 : DJ M_PM_judge 101 (.ifCond .ne 6) 6 3 104 107 := ⟨by decide +kernel, rfl, rfl⟩
theorem d_PM_judge_104 : DI M_PM_judge 104 (.iload 6) 2 106 := ⟨by decide +kernel, rfl⟩
theorem d_PM_judge_106 : DI M_PM_judge 106 (.ireturn) 1 107 := ⟨by decide +kernel, rfl⟩
theorem d_PM_judge_107 : DI M_PM_judge 107 (.iinc 6 1) 3 110 := ⟨by decide +kernel, rfl⟩
theorem d_PM_judge_110 : DJ M_PM_judge 110 (.goto (-26)) (-26) 3 113 84 := ⟨by decide +kernel, rfl, rfl⟩
theorem d_PM_judge_113 : DI M_PM_judge 113 (.bipush (-9)) 2 115 := ⟨by decide +kernel, rfl⟩
theorem d_PM_judge_115 : DI M_PM_judge 115 (.ireturn) 1 116 := ⟨by decide +kernel, rfl⟩
theorem d_PM_share_0 : DI M_PM_share 0 (.aload_n 0) 1 1 := ⟨by decide +kernel, rfl⟩
theorem d_PM_share_1 : DI M_PM_share 1 (.getfield 19) 3 4 := ⟨by decide +kernel, rfl⟩
theorem d_PM_share_4 : DI M_PM_share 4 (.iload_n 1) 1 5 := ⟨by decide +kernel, rfl⟩
theorem d_PM_share_5 : DI M_PM_share 5 (.invokevirtual 133) 3 8 := ⟨by decide +kernel, rfl⟩
theorem d_PM_share_8 : DJ M_PM_share 8 (.ifCond .ne 5) 5 3 11 13 := ⟨by decide +kernel, rfl, rfl⟩
theorem d_PM_share_11 : DI M_PM_share 11 (.iconst (-1)) 1 12 := ⟨by decide +kernel, rfl⟩
theorem d_PM_share_12 : DI M_PM_share 12 (.ireturn) 1 13 := ⟨by decide +kernel, rfl⟩
theorem d_PM_share_13 : DI M_PM_share 13 (.aload_n 0) 1 14 := ⟨by decide +kernel, rfl⟩
theorem d_PM_share_14 : DI M_PM_share 14 (.aload_n 0) 1 15 := ⟨by decide +kernel, rfl⟩
theorem d_PM_share_15 : DI M_PM_share 15 (.getfield 29) 3 18 := ⟨by decide +kernel, rfl⟩
theorem d_PM_share_18 : DI M_PM_share 18 (.iload_n 1) 1 19 := ⟨by decide +kernel, rfl⟩
theorem d_PM_share_19 : DI M_PM_share 19 (.aload_n 0) 1 20 := ⟨by decide +kernel, rfl⟩
theorem d_PM_share_20 : DI M_PM_share 20 (.getfield 29) 3 23 := ⟨by decide +kernel, rfl⟩
theorem d_PM_share_23 : DI M_PM_share 23 (.getfield 148) 3 26 := ⟨by decide +kernel, rfl⟩
theorem d_PM_share_26 : DI M_PM_share 26 (.iload_n 1) 1 27 := ⟨by decide +kernel, rfl⟩
theorem d_PM_share_27 : DI M_PM_share 27 (.iaload) 1 28 := ⟨by decide +kernel, rfl⟩
theorem d_PM_share_28 : DI M_PM_share 28 (.iconst 0) 1 29 := ⟨by decide +kernel, rfl⟩
theorem d_PM_share_29 : DI M_PM_share 29 (.invokevirtual 154) 3 32 := ⟨by decide +kernel, rfl⟩
theorem d_PM_share_32 : DJ M_PM_share 32 (.ifCond .ne 10) 10 3 35 42 := ⟨by decide +kernel, rfl, rfl⟩
theorem d_PM_share_35 : DI M_PM_share 35 (.iconst 0) 1 36 := ⟨by decide +kernel, rfl⟩
theorem d_PM_share_36 : DI M_PM_share 36 (.iconst 1) 1 37 := ⟨by decide +kernel, rfl⟩
theorem d_PM_share_37 : DI M_PM_share 37 (.iload_n 2) 1 38 := ⟨by decide +kernel, rfl⟩
theorem d_PM_share_38 : DI M_PM_share 38 (.invokestatic 227) 3 41 := ⟨by decide +kernel, rfl⟩
theorem d_PM_share_41 : DI M_PM_share 41 (.ireturn) 1 42 := ⟨by decide +kernel, rfl⟩
theorem d_PM_share_42 : DI M_PM_share 42 (.iconst 1) 1 43 := ⟨by decide +kernel, rfl⟩
theorem d_PM_share_43 : DI M_PM_share 43 (.aload_n 0) 1 44 := ⟨by decide +kernel, rfl⟩
theorem d_PM_share_44 : DI M_PM_share 44 (.aload_n 0) 1 45 := ⟨by decide +kernel, rfl⟩
theorem d_PM_share_45 : DI M_PM_share 45 (.getfield 19) 3 48 := ⟨by decide +kernel, rfl⟩
theorem d_PM_share_48 : DI M_PM_share 48 (.getfield 136) 3 51 := ⟨by decide +kernel, rfl⟩
theorem d_PM_share_51 : DI M_PM_share 51 (.iload_n 1) 1 52 := ⟨by decide +kernel, rfl⟩
theorem d_PM_share_52 : DI M_PM_share 52 (.iaload) 1 53 := ⟨by decide +kernel, rfl⟩
theorem d_PM_share_53 : DI M_PM_share 53 (.invokevirtual 231) 3 56 := ⟨by decide +kernel, rfl⟩
theorem d_PM_share_56 : DI M_PM_share 56 (.iload_n 2) 1 57 := ⟨by decide +kernel, rfl⟩
theorem d_PM_share_57 : DI M_PM_share 57 (.invokestatic 227) 3 60 := ⟨by decide +kernel, rfl⟩
theorem d_PM_share_60 : DI M_PM_share 60 (.ireturn) 1 61 := ⟨by decide +kernel, rfl⟩
theorem d_PM_turn_0 : DI M_PM_turn 0 (.iload_n 1) 1 1 := ⟨by decide +kernel, rfl⟩
theorem d_PM_turn_1 : DI M_PM_turn 1 (.bipush 8) 2 3 := ⟨by decide +kernel, rfl⟩
theorem d_PM_turn_3 : DI M_PM_turn 3 (.invokestatic 158) 3 6 := ⟨by decide +kernel, rfl⟩
theorem d_PM_turn_6 : DJ M_PM_turn 6 (.ifCond .eq 12) 12 3 9 18 := ⟨by decide +kernel, rfl, rfl⟩
theorem d_PM_turn_9 : DI M_PM_turn 9 (.iload_n 2) 1 10 := ⟨by decide +kernel, rfl⟩
theorem d_PM_turn_10 : DI M_PM_turn 10 (.bipush 6) 2 12 := ⟨by decide +kernel, rfl⟩
theorem d_PM_turn_12 : DI M_PM_turn 12 (.invokestatic 158) 3 15 := ⟨by decide +kernel, rfl⟩
theorem d_PM_turn_15 : DJ M_PM_turn 15 (.ifCond .ne 6) 6 3 18 21 := ⟨by decide +kernel, rfl, rfl⟩
theorem d_PM_turn_18 : DI M_PM_turn 18 (.bipush (-2)) 2 20 := ⟨by decide +kernel, rfl⟩
theorem d_PM_turn_20 : DI M_PM_turn 20 (.ireturn) 1 21 := ⟨by decide +kernel, rfl⟩
theorem d_PM_turn_21 : DI M_PM_turn 21 (.aload_n 0) 1 22 := ⟨by decide +kernel, rfl⟩
theorem d_PM_turn_22 : DI M_PM_turn 22 (.getfield 50) 3 25 := ⟨by decide +kernel, rfl⟩
theorem d_PM_turn_25 : DI M_PM_turn 25 (.iload_n 1) 1 26 := ⟨by decide +kernel, rfl⟩
theorem d_PM_turn_26 : DI M_PM_turn 26 (.iload_n 2) 1 27 := ⟨by decide +kernel, rfl⟩
theorem d_PM_turn_27 : DI M_PM_turn 27 (.invokevirtual 234) 3 30 := ⟨by decide +kernel, rfl⟩
theorem d_PM_turn_30 : DJ M_PM_turn 30 (.ifCond .eq 13) 13 3 33 43 := ⟨by decide +kernel, rfl, rfl⟩
theorem d_PM_turn_33 : DI M_PM_turn 33 (.aload_n 0) 1 34 := ⟨by decide +kernel, rfl⟩
theorem d_PM_turn_34 : DI M_PM_turn 34 (.getfield 50) 3 37 := ⟨by decide +kernel, rfl⟩
theorem d_PM_turn_37 : DI M_PM_turn 37 (.getfield 118) 3 40 := ⟨by decide +kernel, rfl⟩
theorem d_PM_turn_40 : DJ M_PM_turn 40 (.goto 5) 5 3 43 45 := ⟨by decide +kernel, rfl, rfl⟩
theorem d_PM_turn_43 : DI M_PM_turn 43 (.bipush (-4)) 2 45 := ⟨by decide +kernel, rfl⟩
theorem d_PM_turn_45 : DI M_PM_turn 45 (.ireturn) 1 46 := ⟨by decide +kernel, rfl⟩
theorem d_PM_unturn_0 : DI M_PM_unturn 0 (.aload_n 0) 1 1 := ⟨by decide +kernel, rfl⟩
theorem d_PM_unturn_1 : DI M_PM_unturn 1 (.getfield 50) 3 4 := ⟨by decide +kernel, rfl⟩
theorem d_PM_unturn_4 : DI M_PM_unturn 4 (.getfield 118) 3 7 := ⟨by decide +kernel, rfl⟩
theorem d_PM_unturn_7 : DI M_PM_unturn 7 (.istore_n 1) 1 8 := ⟨by decide +kernel, rfl⟩
theorem d_PM_unturn_8 : DI M_PM_unturn 8 (.aload_n 0) 1 9 := ⟨by decide +kernel, rfl⟩
theorem d_PM_unturn_9 : DI M_PM_unturn 9 (.getfield 50) 3 12 := ⟨by decide +kernel, rfl⟩
theorem d_PM_unturn_12 : DI M_PM_unturn 12 (.iconst 0) 1 13 := ⟨by decide +kernel, rfl⟩
theorem d_PM_unturn_13 : DI M_PM_unturn 13 (.putfield 118) 3 16 := ⟨by decide +kernel, rfl⟩
theorem d_PM_unturn_16 : DI M_PM_unturn 16 (.iload_n 1) 1 17 := ⟨by decide +kernel, rfl⟩
theorem d_PM_unturn_17 : DI M_PM_unturn 17 (.ireturn) 1 18 := ⟨by decide +kernel, rfl⟩
theorem d_PM_may_0 : DI M_PM_may 0 (.iload_n 1) 1 1 := ⟨by decide +kernel, rfl⟩
theorem d_PM_may_1 : DJ M_PM_may 1 (.ifCond .eq 11) 11 3 4 12 := ⟨by decide +kernel, rfl, rfl⟩
theorem d_PM_may_4 : DI M_PM_may 4 (.iload_n 1) 1 5 := ⟨by decide +kernel, rfl⟩
theorem d_PM_may_5 : DI M_PM_may 5 (.iconst 1) 1 6 := ⟨by decide +kernel, rfl⟩
theorem d_PM_may_6 : DJ M_PM_may 6 (.if_icmp .eq 6) 6 3 9 12 := ⟨by decide +kernel, rfl, rfl⟩
theorem d_PM_may_9 : DI M_PM_may 9 (.bipush (-2)) 2 11 := ⟨by decide +kernel, rfl⟩
theorem d_PM_may_11 : DI M_PM_may 11 (.ireturn) 1 12 := ⟨by decide +kernel, rfl⟩
theorem d_PM_may_12 : DI M_PM_may 12 (.aload_n 0) 1 13 := ⟨by decide +kernel, rfl⟩
theorem d_PM_may_13 : DI M_PM_may 13 (.getfield 50) 3 16 := ⟨by decide +kernel, rfl⟩
theorem d_PM_may_16 : DI M_PM_may 16 (.invokevirtual 236) 3 19 := ⟨by decide +kernel, rfl⟩
theorem d_PM_may_19 : DI M_PM_may 19 (.iload_n 1) 1 20 := ⟨by decide +kernel, rfl⟩
theorem d_PM_may_20 : DJ M_PM_may 20 (.ifCond .ne 13) 13 3 23 33 := ⟨by decide +kernel, rfl, rfl⟩
theorem d_PM_may_23 : DI M_PM_may 23 (.aload_n 0) 1 24 := ⟨by decide +kernel, rfl⟩
theorem d_PM_may_24 : DI M_PM_may 24 (.getfield 50) 3 27 := ⟨by decide +kernel, rfl⟩
theorem d_PM_may_27 : DI M_PM_may 27 (.getfield 239) 3 30 := ⟨by decide +kernel, rfl⟩
theorem d_PM_may_30 : DJ M_PM_may 30 (.goto 10) 10 3 33 40 := ⟨by decide +kernel, rfl, rfl⟩
theorem d_PM_may_33 : DI M_PM_may 33 (.aload_n 0) 1 34 := ⟨by decide +kernel, rfl⟩
theorem d_PM_may_34 : DI M_PM_may 34 (.getfield 50) 3 37 := ⟨by decide +kernel, rfl⟩
theorem d_PM_may_37 : DI M_PM_may 37 (.getfield 242) 3 40 := ⟨by decide +kernel, rfl⟩
theorem d_PM_may_40 : DI M_PM_may 40 (.ireturn) 1 41 := ⟨by decide +kernel, rfl⟩
theorem d_PM_next_0 : DI M_PM_next 0 (.aload_n 0) 1 1 := ⟨by decide +kernel, rfl⟩
theorem d_PM_next_1 : DI M_PM_next 1 (.getfield 50) 3 4 := ⟨by decide +kernel, rfl⟩
theorem d_PM_next_4 : DI M_PM_next 4 (.invokevirtual 236) 3 7 := ⟨by decide +kernel, rfl⟩
theorem d_PM_next_7 : DI M_PM_next 7 (.aload_n 0) 1 8 := ⟨by decide +kernel, rfl⟩
theorem d_PM_next_8 : DI M_PM_next 8 (.getfield 50) 3 11 := ⟨by decide +kernel, rfl⟩
theorem d_PM_next_11 : DI M_PM_next 11 (.invokevirtual 245) 3 14 := ⟨by decide +kernel, rfl⟩
theorem d_PM_next_14 : DI M_PM_next 14 (.ireturn) 1 15 := ⟨by decide +kernel, rfl⟩
theorem d_PM_rests_0 : DI M_PM_rests 0 (.aload_n 0) 1 1 := ⟨by decide +kernel, rfl⟩
theorem d_PM_rests_1 : DI M_PM_rests 1 (.getfield 19) 3 4 := ⟨by decide +kernel, rfl⟩
theorem d_PM_rests_4 : DI M_PM_rests 4 (.iload_n 1) 1 5 := ⟨by decide +kernel, rfl⟩
theorem d_PM_rests_5 : DI M_PM_rests 5 (.invokevirtual 133) 3 8 := ⟨by decide +kernel, rfl⟩
theorem d_PM_rests_8 : DJ M_PM_rests 8 (.ifCond .eq 25) 25 3 11 33 := ⟨by decide +kernel, rfl, rfl⟩
theorem d_PM_rests_11 : DI M_PM_rests 11 (.aload_n 0) 1 12 := ⟨by decide +kernel, rfl⟩
theorem d_PM_rests_12 : DI M_PM_rests 12 (.getfield 19) 3 15 := ⟨by decide +kernel, rfl⟩
theorem d_PM_rests_15 : DI M_PM_rests 15 (.iload_n 2) 1 16 := ⟨by decide +kernel, rfl⟩
theorem d_PM_rests_16 : DI M_PM_rests 16 (.invokevirtual 119) 3 19 := ⟨by decide +kernel, rfl⟩
theorem d_PM_rests_19 : DJ M_PM_rests 19 (.ifCond .eq 14) 14 3 22 33 := ⟨by decide +kernel, rfl, rfl⟩
theorem d_PM_rests_22 : DI M_PM_rests 22 (.aload_n 0) 1 23 := ⟨by decide +kernel, rfl⟩
theorem d_PM_rests_23 : DI M_PM_rests 23 (.getfield 19) 3 26 := ⟨by decide +kernel, rfl⟩
theorem d_PM_rests_26 : DI M_PM_rests 26 (.iload_n 3) 1 27 := ⟨by decide +kernel, rfl⟩
theorem d_PM_rests_27 : DI M_PM_rests 27 (.invokevirtual 119) 3 30 := ⟨by decide +kernel, rfl⟩
theorem d_PM_rests_30 : DJ M_PM_rests 30 (.ifCond .ne 5) 5 3 33 35 := ⟨by decide +kernel, rfl, rfl⟩
theorem d_PM_rests_33 : DI M_PM_rests 33 (.iconst (-1)) 1 34 := ⟨by decide +kernel, rfl⟩
theorem d_PM_rests_34 : DI M_PM_rests 34 (.ireturn) 1 35 := ⟨by decide +kernel, rfl⟩
theorem d_PM_rests_35 : DI M_PM_rests 35 (.iload_n 2) 1 36 := ⟨by decide +kernel, rfl⟩
theorem d_PM_rests_36 : DI M_PM_rests 36 (.iload_n 3) 1 37 := ⟨by decide +kernel, rfl⟩
theorem d_PM_rests_37 : DJ M_PM_rests 37 (.if_icmp .eq 14) 14 3 40 51 := ⟨by decide +kernel, rfl, rfl⟩
theorem d_PM_rests_40 : DI M_PM_rests 40 (.iload 4) 2 42 := ⟨by decide +kernel, rfl⟩
theorem d_PM_rests_42 : DJ M_PM_rests 42 (.ifCond .lt 9) 9 3 45 51 := ⟨by decide +kernel, rfl, rfl⟩
theorem d_PM_rests_45 : DI M_PM_rests 45 (.iload 4) 2 47 := ⟨by decide +kernel, rfl⟩
theorem d_PM_rests_47 : DI M_PM_rests 47 (.iconst 1) 1 48 := ⟨by decide +kernel, rfl⟩
theorem d_PM_rests_48 : DJ M_PM_rests 48 (.if_icmp .le 6) 6 3 51 54 := ⟨by decide +kernel, rfl, rfl⟩
theorem d_PM_rests_51 : DI M_PM_rests 51 (.bipush (-2)) 2 53 := ⟨by decide +kernel, rfl⟩
theorem d_PM_rests_53 : DI M_PM_rests 53 (.ireturn) 1 54 := ⟨by decide +kernel, rfl⟩
theorem d_PM_rests_54 : DI M_PM_rests 54 (.iconst 0) 1 55 := ⟨by decide +kernel, rfl⟩
theorem d_PM_rests_55 : DI M_PM_rests 55 (.istore 5) 2 57 := ⟨by decide +kernel, rfl⟩
theorem d_PM_rests_57 : DI M_PM_rests 57 (.bipush (-9)) 2 59 := ⟨by decide +kernel, rfl⟩
theorem d_PM_rests_59 : DI M_PM_rests 59 (.istore 6) 2 61 := ⟨by decide +kernel, rfl⟩
theorem d_PM_rests_61 : DI M_PM_rests 61 (.iconst 0) 1 62 := ⟨by decide +kernel, rfl⟩
theorem d_PM_rests_62 : DI M_PM_rests 62 (.istore 7) 2 64 := ⟨by decide +kernel, rfl⟩
theorem d_PM_rests_64 : DI M_PM_rests 64 (.iload 7) 2 66 := ⟨by decide +kernel, rfl⟩
theorem d_PM_rests_66 : DI M_PM_rests 66 (.iconst 1) 1 67 := ⟨by decide +kernel, rfl⟩
theorem d_PM_rests_67 : DJ M_PM_rests 67 (.if_icmp .gt 73) 73 3 70 140 := ⟨by decide +kernel, rfl, rfl⟩
theorem d_PM_rests_70 : DI M_PM_rests 70 (.iconst 0) 1 71 := ⟨by decide +kernel, rfl⟩
theorem d_PM_rests_71 : DI M_PM_rests 71 (.istore 8) 2 73 := ⟨by decide +kernel, rfl⟩
theorem d_PM_rests_73 : DI M_PM_rests 73 (.iload 8) 2 75 := ⟨by decide +kernel, rfl⟩
theorem d_PM_rests_75 : DI M_PM_rests 75 (.iconst 1) 1 76 := ⟨by decide +kernel, rfl⟩
theorem d_PM_rests_76 : DJ M_PM_rests 76 (.if_icmp .gt 58) 58 3 79 134 := ⟨by decide +kernel, rfl, rfl⟩
theorem d_PM_rests_79 : DI M_PM_rests 79 (.aload_n 0) 1 80 := ⟨by decide +kernel, rfl⟩
theorem d_PM_rests_80 : DI M_PM_rests 80 (.iload_n 1) 1 81 := ⟨by decide +kernel, rfl⟩
theorem d_PM_rests_81 : DI M_PM_rests 81 (.iload_n 2) 1 82 := ⟨by decide +kernel, rfl⟩
theorem d_PM_rests_82 : DI M_PM_rests 82 (.iload 7) 2 84 := ⟨by decide +kernel, rfl⟩
theorem d_PM_rests_84 : DI M_PM_rests 84 (.iload 8) 2 86 := ⟨by decide +kernel, rfl⟩
theorem d_PM_rests_86 : DI M_PM_rests 86 (.invokevirtual 248) 3 89 := ⟨by decide +kernel, rfl⟩
theorem d_PM_rests_89 : DJ M_PM_rests 89 (.ifCond .eq 39) 39 3 92 128 := ⟨by decide +kernel, rfl, rfl⟩
theorem d_PM_rests_92 : DI M_PM_rests 92 (.aload_n 0) 1 93 := ⟨by decide +kernel, rfl⟩
theorem d_PM_rests_93 : DI M_PM_rests 93 (.iload_n 1) 1 94 := ⟨by decide +kernel, rfl⟩
theorem d_PM_rests_94 : DI M_PM_rests 94 (.iload_n 3) 1 95 := ⟨by decide +kernel, rfl⟩
theorem d_PM_rests_95 : DI M_PM_rests 95 (.iload 8) 2 97 := ⟨by decide +kernel, rfl⟩
theorem d_PM_rests_97 : DI M_PM_rests 97 (.iload 7) 2 99 := ⟨by decide +kernel, rfl⟩
theorem d_PM_rests_99 : DI M_PM_rests 99 (.invokevirtual 248) 3 102 := ⟨by decide +kernel, rfl⟩
theorem d_PM_rests_102 : DJ M_PM_rests 102 (.ifCond .eq 26) 26 3 105 128 := ⟨by decide +kernel, rfl, rfl⟩
theorem d_PM_rests_105 : DI M_PM_rests 105 (.iload 5) 2 107 := ⟨by decide +kernel, rfl⟩
theorem d_PM_rests_107 : DJ M_PM_rests 107 (.ifCond .ne 14) 14 3 110 121 := ⟨by decide +kernel, rfl, rfl⟩
theorem d_PM_rests_110 : DI M_PM_rests 110 (.bipush 10) 2 112 := ⟨by decide +kernel, rfl⟩
theorem d_PM_rests_112 : DI M_PM_rests 112 (.iload 7) 2 114 := ⟨by decide +kernel, rfl⟩
theorem d_PM_rests_114 : DI M_PM_rests 114 (.imul) 1 115 := ⟨by decide +kernel, rfl⟩
theorem d_PM_rests_115 : DI M_PM_rests 115 (.iload 8) 2 117 := ⟨by decide +kernel, rfl⟩
theorem d_PM_rests_117 : DI M_PM_rests 117 (.iadd) 1 118 := ⟨by decide +kernel, rfl⟩
theorem d_PM_rests_118 : DJ M_PM_rests 118 (.goto 5) 5 3 121 123 := ⟨by decide +kernel, rfl, rfl⟩
theorem d_PM_rests_121 : DI M_PM_rests 121 (.iload 6) 2 123 := ⟨by decide +kernel, rfl⟩
theorem d_PM_rests_123 : DI M_PM_rests 123 (.istore 6) 2 125 := ⟨by decide +kernel, rfl⟩
theorem d_PM_rests_125 : DI M_PM_rests 125 (.iinc 5 1) 3 128 := ⟨by decide +kernel, rfl⟩
theorem d_PM_rests_128 : DI M_PM_rests 128 (.iinc 8 1) 3 131 := ⟨by decide +kernel, rfl⟩
theorem d_PM_rests_131 : DJ M_PM_rests 131 (.goto (-58)) (-58) 3 134 73 := ⟨by decide +kernel, rfl, rfl⟩
theorem d_PM_rests_134 : DI M_PM_rests 134 (.iinc 7 1) 3 137 := ⟨by decide +kernel, rfl⟩
theorem d_PM_rests_137 : DJ M_PM_rests 137 (.goto (-73)) (-73) 3 140 64 := ⟨by decide +kernel, rfl, rfl⟩
theorem d_PM_rests_140 : DI M_PM_rests 140 (.iload 4) 2 142 := ⟨by decide +kernel, rfl⟩
theorem d_PM_rests_142 : DJ M_PM_rests 142 (.ifCond .ne 8) 8 3 145 150 := ⟨by decide +kernel, rfl, rfl⟩
theorem d_PM_rests_145 : DI M_PM_rests 145 (.iload 5) 2 147 := ⟨by decide +kernel, rfl⟩
theorem d_PM_rests_147 : DJ M_PM_rests 147 (.goto 5) 5 3 150 152 := ⟨by decide +kernel, rfl, rfl⟩
theorem d_PM_rests_150 : DI M_PM_rests 150 (.iload 6) 2 152 := ⟨by decide +kernel, rfl⟩
theorem d_PM_rests_152 : DI M_PM_rests 152 (.ireturn) 1 153 := ⟨by decide +kernel, rfl⟩
theorem d_PM_glints_0 : DI M_PM_glints 0 (.aload_n 0) 1 1 := ⟨by decide +kernel, rfl⟩
theorem d_PM_glints_1 : DI M_PM_glints 1 (.getfield 19) 3 4 := ⟨by decide +kernel, rfl⟩
theorem d_PM_glints_4 : DI M_PM_glints 4 (.iload_n 1) 1 5 := ⟨by decide +kernel, rfl⟩
theorem d_PM_glints_5 : DI M_PM_glints 5 (.invokevirtual 119) 3 8 := ⟨by decide +kernel, rfl⟩
theorem d_PM_glints_8 : DJ M_PM_glints 8 (.ifCond .ne 5) 5 3 11 13 := ⟨by decide +kernel, rfl, rfl⟩
theorem d_PM_glints_11 : DI M_PM_glints 11 (.iconst (-1)) 1 12 := ⟨by decide +kernel, rfl⟩
theorem d_PM_glints_12 : DI M_PM_glints 12 (.ireturn) 1 13 := ⟨by decide +kernel, rfl⟩
theorem d_PM_glints_13 : DI M_PM_glints 13 (.iload_n 2) 1 14 := ⟨by decide +kernel, rfl⟩
theorem d_PM_glints_14 : DI M_PM_glints 14 (.iconst 5) 1 15 := ⟨by decide +kernel, rfl⟩
theorem d_PM_glints_15 : DI M_PM_glints 15 (.invokestatic 158) 3 18 := ⟨by decide +kernel, rfl⟩
theorem d_PM_glints_18 : DJ M_PM_glints 18 (.ifCond .eq 26) 26 3 21 44 := ⟨by decide +kernel, rfl, rfl⟩
theorem d_PM_glints_21 : DI M_PM_glints 21 (.iload_n 3) 1 22 := ⟨by decide +kernel, rfl⟩
theorem d_PM_glints_22 : DI M_PM_glints 22 (.iconst 1) 1 23 := ⟨by decide +kernel, rfl⟩
theorem d_PM_glints_23 : DJ M_PM_glints 23 (.if_icmp .lt 21) 21 3 26 44 := ⟨by decide +kernel, rfl, rfl⟩
theorem d_PM_glints_26 : DI M_PM_glints 26 (.iload_n 3) 1 27 := ⟨by decide +kernel, rfl⟩
theorem d_PM_glints_27 : DI M_PM_glints 27 (.bipush 6) 2 29 := ⟨by decide +kernel, rfl⟩
theorem d_PM_glints_29 : DJ M_PM_glints 29 (.if_icmp .gt 15) 15 3 32 44 := ⟨by decide +kernel, rfl, rfl⟩
theorem d_PM_glints_32 : DI M_PM_glints 32 (.iload 4) 2 34 := ⟨by decide +kernel, rfl⟩
theorem d_PM_glints_34 : DJ M_PM_glints 34 (.ifCond .lt 10) 10 3 37 44 := ⟨by decide +kernel, rfl, rfl⟩
theorem d_PM_glints_37 : DI M_PM_glints 37 (.iload 4) 2 39 := ⟨by decide +kernel, rfl⟩
theorem d_PM_glints_39 : DI M_PM_glints 39 (.bipush 10) 2 41 := ⟨by decide +kernel, rfl⟩
theorem d_PM_glints_41 : DJ M_PM_glints 41 (.if_icmp .le 6) 6 3 44 47 := ⟨by decide +kernel, rfl, rfl⟩
theorem d_PM_glints_44 : DI M_PM_glints 44 (.bipush (-2)) 2 46 := ⟨by decide +kernel, rfl⟩
theorem d_PM_glints_46 : DI M_PM_glints 46 (.ireturn) 1 47 := ⟨by decide +kernel, rfl⟩
theorem d_PM_glints_47 : DI M_PM_glints 47 (.aload_n 0) 1 48 := ⟨by decide +kernel, rfl⟩
theorem d_PM_glints_48 : DI M_PM_glints 48 (.iload_n 3) 1 49 := ⟨by decide +kernel, rfl⟩
theorem d_PM_glints_49 : DI M_PM_glints 49 (.iload 4) 2 51 := ⟨by decide +kernel, rfl⟩
theorem d_PM_glints_51 : DI M_PM_glints 51 (.invokevirtual 252) 3 54 := ⟨by decide +kernel, rfl⟩
theorem d_PM_glints_54 : DI M_PM_glints 54 (.istore 6) 2 56 := ⟨by decide +kernel, rfl⟩
theorem d_PM_glints_56 : DI M_PM_glints 56 (.iconst 0) 1 57 := ⟨by decide +kernel, rfl⟩
theorem d_PM_glints_57 : DI M_PM_glints 57 (.istore 7) 2 59 := ⟨by decide +kernel, rfl⟩
theorem d_PM_glints_59 : DI M_PM_glints 59 (.aload_n 0) 1 60 := ⟨by decide +kernel, rfl⟩
theorem d_PM_glints_60 : DI M_PM_glints 60 (.iload_n 1) 1 61 := ⟨by decide +kernel, rfl⟩
theorem d_PM_glints_61 : DI M_PM_glints 61 (.iload_n 2) 1 62 := ⟨by decide +kernel, rfl⟩
theorem d_PM_glints_62 : DI M_PM_glints 62 (.invokevirtual 196) 3 65 := ⟨by decide +kernel, rfl⟩
theorem d_PM_glints_65 : DI M_PM_glints 65 (.istore 8) 2 67 := ⟨by decide +kernel, rfl⟩
theorem d_PM_glints_67 : DI M_PM_glints 67 (.iload 8) 2 69 := ⟨by decide +kernel, rfl⟩
theorem d_PM_glints_69 : DI M_PM_glints 69 (.bipush (-9)) 2 71 := ⟨by decide +kernel, rfl⟩
theorem d_PM_glints_71 : DJ M_PM_glints 71 (.if_icmp .eq 31) 31 3 74 102 := ⟨by decide +kernel, rfl, rfl⟩
theorem d_PM_glints_74 : DI M_PM_glints 74 (.iload 8) 2 76 := ⟨by decide +kernel, rfl⟩
theorem d_PM_glints_76 : DI M_PM_glints 76 (.istore 9) 2 78 := ⟨by decide +kernel, rfl⟩
theorem d_PM_glints_78 : DI M_PM_glints 78 (.iload 9) 2 80 := ⟨by decide +kernel, rfl⟩
theorem d_PM_glints_80 : DI M_PM_glints 80 (.iload_n 3) 1 81 := ⟨by decide +kernel, rfl⟩
theorem d_PM_glints_81 : DJ M_PM_glints 81 (.if_icmp .gt 21) 21 3 84 102 := ⟨by decide +kernel, rfl, rfl⟩
theorem d_PM_glints_84 : DI M_PM_glints 84 (.iload 7) 2 86 := ⟨by decide +kernel, rfl⟩
theorem d_PM_glints_86 : DI M_PM_glints 86 (.aload_n 0) 1 87 := ⟨by decide +kernel, rfl⟩
theorem d_PM_glints_87 : DI M_PM_glints 87 (.getfield 72) 3 90 := ⟨by decide +kernel, rfl⟩
theorem d_PM_glints_90 : DI M_PM_glints 90 (.iload 9) 2 92 := ⟨by decide +kernel, rfl⟩
theorem d_PM_glints_92 : DI M_PM_glints 92 (.iaload) 1 93 := ⟨by decide +kernel, rfl⟩
theorem d_PM_glints_93 : DI M_PM_glints 93 (.iadd) 1 94 := ⟨by decide +kernel, rfl⟩
theorem d_PM_glints_94 : DI M_PM_glints 94 (.istore 7) 2 96 := ⟨by decide +kernel, rfl⟩
theorem d_PM_glints_96 : DI M_PM_glints 96 (.iinc 9 1) 3 99 := ⟨by decide +kernel, rfl⟩
theorem d_PM_glints_99 : DJ M_PM_glints 99 (.goto (-21)) (-21) 3 102 78 := ⟨by decide +kernel, rfl, rfl⟩
theorem d_PM_glints_102 : DI M_PM_glints 102 (.iload 7) 2 104 := ⟨by decide +kernel, rfl⟩
theorem d_PM_glints_104 : DI M_PM_glints 104 (.iload 6) 2 106 := ⟨by decide +kernel, rfl⟩
theorem d_PM_glints_106 : DI M_PM_glints 106 (.iload 5) 2 108 := ⟨by decide +kernel, rfl⟩
theorem d_PM_glints_108 : DI M_PM_glints 108 (.invokestatic 227) 3 111 := ⟨by decide +kernel, rfl⟩
theorem d_PM_glints_111 : DI M_PM_glints 111 (.ireturn) 1 112 := ⟨by decide +kernel, rfl⟩
theorem d_PM_seed_0 : DI M_PM_seed 0 (.aload_n 0) 1 1 := ⟨by decide +kernel, rfl⟩
theorem d_PM_seed_1 : DI M_PM_seed 1 (.getfield 255) 3 4 := ⟨by decide +kernel, rfl⟩
theorem d_PM_seed_4 : DI M_PM_seed 4 (.lstore_n 3) 1 5 := ⟨by decide +kernel, rfl⟩
theorem d_PM_seed_5 : DI M_PM_seed 5 (.aload_n 0) 1 6 := ⟨by decide +kernel, rfl⟩
theorem d_PM_seed_6 : DI M_PM_seed 6 (.lload_n 1) 1 7 := ⟨by decide +kernel, rfl⟩
theorem d_PM_seed_7 : DI M_PM_seed 7 (.putfield 255) 3 10 := ⟨by decide +kernel, rfl⟩
theorem d_PM_seed_10 : DI M_PM_seed 10 (.lload_n 3) 1 11 := ⟨by decide +kernel, rfl⟩
theorem d_PM_seed_11 : DI M_PM_seed 11 (.lreturn) 1 12 := ⟨by decide +kernel, rfl⟩
theorem d_PM_years_0 : DI M_PM_years 0 (.iload_n 1) 1 1 := ⟨by decide +kernel, rfl⟩
theorem d_PM_years_1 : DI M_PM_years 1 (.iconst 1) 1 2 := ⟨by decide +kernel, rfl⟩
theorem d_PM_years_2 : DJ M_PM_years 2 (.if_icmp .lt 9) 9 3 5 11 := ⟨by decide +kernel, rfl, rfl⟩
theorem d_PM_years_5 : DI M_PM_years 5 (.iload_n 1) 1 6 := ⟨by decide +kernel, rfl⟩
theorem d_PM_years_6 : DI M_PM_years 6 (.bipush 30) 2 8 := ⟨by decide +kernel, rfl⟩
theorem d_PM_years_8 : DJ M_PM_years 8 (.if_icmp .le 6) 6 3 11 14 := ⟨by decide +kernel, rfl, rfl⟩
theorem d_PM_years_11 : DI M_PM_years 11 (.bipush (-2)) 2 13 := ⟨by decide +kernel, rfl⟩
theorem d_PM_years_13 : DI M_PM_years 13 (.ireturn) 1 14 := ⟨by decide +kernel, rfl⟩
theorem d_PM_years_14 : DI M_PM_years 14 (.aload_n 0) 1 15 := ⟨by decide +kernel, rfl⟩
theorem d_PM_years_15 : DI M_PM_years 15 (.getfield 33) 3 18 := ⟨by decide +kernel, rfl⟩
theorem d_PM_years_18 : DI M_PM_years 18 (.aload_n 0) 1 19 := ⟨by decide +kernel, rfl⟩
theorem d_PM_years_19 : DI M_PM_years 19 (.getfield 29) 3 22 := ⟨by decide +kernel, rfl⟩
theorem d_PM_years_22 : DI M_PM_years 22 (.invokevirtual 220) 3 25 := ⟨by decide +kernel, rfl⟩
theorem d_PM_years_25 : DI M_PM_years 25 (.iconst 0) 1 26 := ⟨by decide +kernel, rfl⟩
theorem d_PM_years_26 : DI M_PM_years 26 (.istore_n 2) 1 27 := ⟨by decide +kernel, rfl⟩
theorem d_PM_years_27 : DI M_PM_years 27 (.iconst 0) 1 28 := ⟨by decide +kernel, rfl⟩
theorem d_PM_years_28 : DI M_PM_years 28 (.istore_n 3) 1 29 := ⟨by decide +kernel, rfl⟩
theorem d_PM_years_29 : DI M_PM_years 29 (.iload_n 3) 1 30 := ⟨by decide +kernel, rfl⟩
theorem d_PM_years_30 : DI M_PM_years 30 (.iload_n 1) 1 31 := ⟨by decide +kernel, rfl⟩
theorem d_PM_years_31 : DJ M_PM_years 31 (.if_icmp .ge 55) 55 3 34 86 := ⟨by decide +kernel, rfl, rfl⟩
theorem d_PM_years_34 : DI M_PM_years 34 (.aload_n 0) 1 35 := ⟨by decide +kernel, rfl⟩
theorem d_PM_years_35 : DI M_PM_years 35 (.aload_n 0) 1 36 := ⟨by decide +kernel, rfl⟩
theorem d_PM_years_36 : DI M_PM_years 36 (.getfield 255) 3 39 := ⟨by decide +kernel, rfl⟩
theorem d_PM_years_39 : DI M_PM_years 39 (.ldc2_w 259) 3 42 := ⟨by decide +kernel, rfl⟩
theorem d_PM_years_42 : DI M_PM_years 42 (.lmul) 1 43 := ⟨by decide +kernel, rfl⟩
theorem d_PM_years_43 : DI M_PM_years 43 (.ldc2_w 261) 3 46 := ⟨by decide +kernel, rfl⟩
theorem d_PM_years_46 : DI M_PM_years 46 (.ladd) 1 47 := ⟨by decide +kernel, rfl⟩
theorem d_PM_years_47 : DI M_PM_years 47 (.putfield 255) 3 50 := ⟨by decide +kernel, rfl⟩
theorem d_PM_years_50 : DI M_PM_years 50 (.aload_n 0) 1 51 := ⟨by decide +kernel, rfl⟩
theorem d_PM_years_51 : DI M_PM_years 51 (.aload_n 0) 1 52 := ⟨by decide +kernel, rfl⟩
theorem d_PM_years_52 : DI M_PM_years 52 (.getfield 255) 3 55 := ⟨by decide +kernel, rfl⟩
theorem d_PM_years_55 : DI M_PM_years 55 (.bipush 33) 2 57 := ⟨by decide +kernel, rfl⟩
theorem d_PM_years_57 : DI M_PM_years 57 (.lushr) 1 58 := ⟨by decide +kernel, rfl⟩
theorem d_PM_years_58 : DI M_PM_years 58 (.ldc2_w 263) 3 61 := ⟨by decide +kernel, rfl⟩
theorem d_PM_years_61 : DI M_PM_years 61 (.lrem) 1 62 := ⟨by decide +kernel, rfl⟩
theorem d_PM_years_62 : DI M_PM_years 62 (.l2i) 1 63 := ⟨by decide +kernel, rfl⟩
theorem d_PM_years_63 : DI M_PM_years 63 (.invokevirtual 265) 3 66 := ⟨by decide +kernel, rfl⟩
theorem d_PM_years_66 : DI M_PM_years 66 (.iload_n 2) 1 67 := ⟨by decide +kernel, rfl⟩
theorem d_PM_years_67 : DI M_PM_years 67 (.aload_n 0) 1 68 := ⟨by decide +kernel, rfl⟩
theorem d_PM_years_68 : DI M_PM_years 68 (.aload_n 0) 1 69 := ⟨by decide +kernel, rfl⟩
theorem d_PM_years_69 : DI M_PM_years 69 (.getfield 33) 3 72 := ⟨by decide +kernel, rfl⟩
theorem d_PM_years_72 : DI M_PM_years 72 (.invokevirtual 110) 3 75 := ⟨by decide +kernel, rfl⟩
theorem d_PM_years_75 : DI M_PM_years 75 (.invokestatic 268) 3 78 := ⟨by decide +kernel, rfl⟩
theorem d_PM_years_78 : DI M_PM_years 78 (.iadd) 1 79 := ⟨by decide +kernel, rfl⟩
theorem d_PM_years_79 : DI M_PM_years 79 (.istore_n 2) 1 80 := ⟨by decide +kernel, rfl⟩
theorem d_PM_years_80 : DI M_PM_years 80 (.iinc 3 1) 3 83 := ⟨by decide +kernel, rfl⟩
theorem d_PM_years_83 : DJ M_PM_years 83 (.goto (-54)) (-54) 3 86 29 := ⟨by decide +kernel, rfl, rfl⟩
theorem d_PM_years_86 : DI M_PM_years 86 (.iload_n 2) 1 87 := ⟨by decide +kernel, rfl⟩
theorem d_PM_years_87 : DI M_PM_years 87 (.ireturn) 1 88 := ⟨by decide +kernel, rfl⟩
theorem d_PM_keep_0 : DI M_PM_keep 0 (.iload_n 1) 1 1 := ⟨by decide +kernel, rfl⟩
theorem d_PM_keep_1 : DI M_PM_keep 1 (.iconst 2) 1 2 := ⟨by decide +kernel, rfl⟩
theorem d_PM_keep_2 : DI M_PM_keep 2 (.invokestatic 158) 3 5 := ⟨by decide +kernel, rfl⟩
theorem d_PM_keep_5 : DJ M_PM_keep 5 (.ifCond .ne 5) 5 3 8 10 := ⟨by decide +kernel, rfl, rfl⟩
theorem d_PM_keep_8 : DI M_PM_keep 8 (.iconst (-1)) 1 9 := ⟨by decide +kernel, rfl⟩
theorem d_PM_keep_9 : DI M_PM_keep 9 (.ireturn) 1 10 := ⟨by decide +kernel, rfl⟩
theorem d_PM_keep_10 : DI M_PM_keep 10 (.aload_n 0) 1 11 := ⟨by decide +kernel, rfl⟩
theorem d_PM_keep_11 : DI M_PM_keep 11 (.getfield 36) 3 14 := ⟨by decide +kernel, rfl⟩
theorem d_PM_keep_14 : DI M_PM_keep 14 (.iload_n 1) 1 15 := ⟨by decide +kernel, rfl⟩
theorem d_PM_keep_15 : DI M_PM_keep 15 (.aaload) 1 16 := ⟨by decide +kernel, rfl⟩
theorem d_PM_keep_16 : DI M_PM_keep 16 (.aload_n 0) 1 17 := ⟨by decide +kernel, rfl⟩
theorem d_PM_keep_17 : DI M_PM_keep 17 (.getfield 29) 3 20 := ⟨by decide +kernel, rfl⟩
theorem d_PM_keep_20 : DI M_PM_keep 20 (.invokevirtual 220) 3 23 := ⟨by decide +kernel, rfl⟩
theorem d_PM_keep_23 : DI M_PM_keep 23 (.aload_n 0) 1 24 := ⟨by decide +kernel, rfl⟩
theorem d_PM_keep_24 : DI M_PM_keep 24 (.getfield 36) 3 27 := ⟨by decide +kernel, rfl⟩
theorem d_PM_keep_27 : DI M_PM_keep 27 (.iload_n 1) 1 28 := ⟨by decide +kernel, rfl⟩
theorem d_PM_keep_28 : DI M_PM_keep 28 (.aaload) 1 29 := ⟨by decide +kernel, rfl⟩
theorem d_PM_keep_29 : DI M_PM_keep 29 (.iconst 1) 1 30 := ⟨by decide +kernel, rfl⟩
theorem d_PM_keep_30 : DI M_PM_keep 30 (.putfield 94) 3 33 := ⟨by decide +kernel, rfl⟩
theorem d_PM_keep_33 : DI M_PM_keep 33 (.aload_n 0) 1 34 := ⟨by decide +kernel, rfl⟩
theorem d_PM_keep_34 : DI M_PM_keep 34 (.getfield 29) 3 37 := ⟨by decide +kernel, rfl⟩
theorem d_PM_keep_37 : DI M_PM_keep 37 (.getfield 107) 3 40 := ⟨by decide +kernel, rfl⟩
theorem d_PM_keep_40 : DI M_PM_keep 40 (.ireturn) 1 41 := ⟨by decide +kernel, rfl⟩
theorem d_PM_again_0 : DI M_PM_again 0 (.iload_n 1) 1 1 := ⟨by decide +kernel, rfl⟩
theorem d_PM_again_1 : DI M_PM_again 1 (.iconst 2) 1 2 := ⟨by decide +kernel, rfl⟩
theorem d_PM_again_2 : DI M_PM_again 2 (.invokestatic 158) 3 5 := ⟨by decide +kernel, rfl⟩
theorem d_PM_again_5 : DJ M_PM_again 5 (.ifCond .ne 5) 5 3 8 10 := ⟨by decide +kernel, rfl, rfl⟩
theorem d_PM_again_8 : DI M_PM_again 8 (.iconst (-1)) 1 9 := ⟨by decide +kernel, rfl⟩
theorem d_PM_again_9 : DI M_PM_again 9 (.ireturn) 1 10 := ⟨by decide +kernel, rfl⟩
theorem d_PM_again_10 : DI M_PM_again 10 (.aload_n 0) 1 11 := ⟨by decide +kernel, rfl⟩
theorem d_PM_again_11 : DI M_PM_again 11 (.getfield 36) 3 14 := ⟨by decide +kernel, rfl⟩
theorem d_PM_again_14 : DI M_PM_again 14 (.iload_n 1) 1 15 := ⟨by decide +kernel, rfl⟩
theorem d_PM_again_15 : DI M_PM_again 15 (.aaload) 1 16 := ⟨by decide +kernel, rfl⟩
theorem d_PM_again_16 : DI M_PM_again 16 (.getfield 94) 3 19 := ⟨by decide +kernel, rfl⟩
theorem d_PM_again_19 : DJ M_PM_again 19 (.ifCond .ne 6) 6 3 22 25 := ⟨by decide +kernel, rfl, rfl⟩
theorem d_PM_again_22 : DI M_PM_again 22 (.bipush (-3)) 2 24 := ⟨by decide +kernel, rfl⟩
theorem d_PM_again_24 : DI M_PM_again 24 (.ireturn) 1 25 := ⟨by decide +kernel, rfl⟩
theorem d_PM_again_25 : DI M_PM_again 25 (.aload_n 0) 1 26 := ⟨by decide +kernel, rfl⟩
theorem d_PM_again_26 : DI M_PM_again 26 (.getfield 29) 3 29 := ⟨by decide +kernel, rfl⟩
theorem d_PM_again_29 : DI M_PM_again 29 (.aload_n 0) 1 30 := ⟨by decide +kernel, rfl⟩
theorem d_PM_again_30 : DI M_PM_again 30 (.getfield 36) 3 33 := ⟨by decide +kernel, rfl⟩
theorem d_PM_again_33 : DI M_PM_again 33 (.iload_n 1) 1 34 := ⟨by decide +kernel, rfl⟩
theorem d_PM_again_34 : DI M_PM_again 34 (.aaload) 1 35 := ⟨by decide +kernel, rfl⟩
theorem d_PM_again_35 : DI M_PM_again 35 (.invokevirtual 220) 3 38 := ⟨by decide +kernel, rfl⟩
theorem d_PM_again_38 : DI M_PM_again 38 (.aload_n 0) 1 39 := ⟨by decide +kernel, rfl⟩
theorem d_PM_again_39 : DI M_PM_again 39 (.getfield 43) 3 42 := ⟨by decide +kernel, rfl⟩
theorem d_PM_again_42 : DI M_PM_again 42 (.iconst 0) 1 43 := ⟨by decide +kernel, rfl⟩
theorem d_PM_again_43 : DI M_PM_again 43 (.putfield 91) 3 46 := ⟨by decide +kernel, rfl⟩
theorem d_PM_again_46 : DI M_PM_again 46 (.aload_n 0) 1 47 := ⟨by decide +kernel, rfl⟩
theorem d_PM_again_47 : DI M_PM_again 47 (.getfield 29) 3 50 := ⟨by decide +kernel, rfl⟩
theorem d_PM_again_50 : DI M_PM_again 50 (.getfield 107) 3 53 := ⟨by decide +kernel, rfl⟩
theorem d_PM_again_53 : DI M_PM_again 53 (.ireturn) 1 54 := ⟨by decide +kernel, rfl⟩
theorem d_PM_isBelow_0 : DI M_PM_isBelow 0 (.iload_n 0) 1 1 := ⟨by decide +kernel, rfl⟩
theorem d_PM_isBelow_1 : DJ M_PM_isBelow 1 (.ifCond .lt 12) 12 3 4 13 := ⟨by decide +kernel, rfl, rfl⟩
theorem d_PM_isBelow_4 : DI M_PM_isBelow 4 (.iload_n 0) 1 5 := ⟨by decide +kernel, rfl⟩
theorem d_PM_isBelow_5 : DI M_PM_isBelow 5 (.iload_n 1) 1 6 := ⟨by decide +kernel, rfl⟩
theorem d_PM_isBelow_6 : DJ M_PM_isBelow 6 (.if_icmp .ge 7) 7 3 9 13 := ⟨by decide +kernel, rfl, rfl⟩
theorem d_PM_isBelow_9 : DI M_PM_isBelow 9 (.iconst 1) 1 10 := ⟨by decide +kernel, rfl⟩
theorem d_PM_isBelow_10 : DJ M_PM_isBelow 10 (.goto 4) 4 3 13 14 := ⟨by decide +kernel, rfl, rfl⟩
theorem d_PM_isBelow_13 : DI M_PM_isBelow 13 (.iconst 0) 1 14 := ⟨by decide +kernel, rfl⟩
theorem d_PM_isBelow_14 : DI M_PM_isBelow 14 (.ireturn) 1 15 := ⟨by decide +kernel, rfl⟩
theorem d_PM_hasBit_0 : DI M_PM_hasBit 0 (.iload_n 0) 1 1 := ⟨by decide +kernel, rfl⟩
theorem d_PM_hasBit_1 : DI M_PM_hasBit 1 (.iload_n 1) 1 2 := ⟨by decide +kernel, rfl⟩
theorem d_PM_hasBit_2 : DI M_PM_hasBit 2 (.ishr) 1 3 := ⟨by decide +kernel, rfl⟩
theorem d_PM_hasBit_3 : DI M_PM_hasBit 3 (.iconst 1) 1 4 := ⟨by decide +kernel, rfl⟩
theorem d_PM_hasBit_4 : DI M_PM_hasBit 4 (.iand) 1 5 := ⟨by decide +kernel, rfl⟩
theorem d_PM_hasBit_5 : DI M_PM_hasBit 5 (.iconst 1) 1 6 := ⟨by decide +kernel, rfl⟩
theorem d_PM_hasBit_6 : DJ M_PM_hasBit 6 (.if_icmp .ne 7) 7 3 9 13 := ⟨by decide +kernel, rfl, rfl⟩
theorem d_PM_hasBit_9 : DI M_PM_hasBit 9 (.iconst 1) 1 10 := ⟨by decide +kernel, rfl⟩
theorem d_PM_hasBit_10 : DJ M_PM_hasBit 10 (.goto 4) 4 3 13 14 := ⟨by decide +kernel, rfl, rfl⟩
theorem d_PM_hasBit_13 : DI M_PM_hasBit 13 (.iconst 0) 1 14 := ⟨by decide +kernel, rfl⟩
theorem d_PM_hasBit_14 : DI M_PM_hasBit 14 (.ireturn) 1 15 := ⟨by decide +kernel, rfl⟩
theorem d_PM_byEight_0 : DI M_PM_byEight 0 (.iload_n 0) 1 1 := ⟨by decide +kernel, rfl⟩
theorem d_PM_byEight_1 : DI M_PM_byEight 1 (.bipush 7) 2 3 := ⟨by decide +kernel, rfl⟩
theorem d_PM_byEight_3 : DI M_PM_byEight 3 (.iand) 1 4 := ⟨by decide +kernel, rfl⟩
theorem d_PM_byEight_4 : DI M_PM_byEight 4 (.ireturn) 1 5 := ⟨by decide +kernel, rfl⟩
theorem d_PM_apart_0 : DI M_PM_apart 0 (.iload_n 0) 1 1 := ⟨by decide +kernel, rfl⟩
theorem d_PM_apart_1 : DI M_PM_apart 1 (.iload_n 1) 1 2 := ⟨by decide +kernel, rfl⟩
theorem d_PM_apart_2 : DI M_PM_apart 2 (.isub) 1 3 := ⟨by decide +kernel, rfl⟩
theorem d_PM_apart_3 : DI M_PM_apart 3 (.invokestatic 273) 3 6 := ⟨by decide +kernel, rfl⟩
theorem d_PM_apart_6 : DI M_PM_apart 6 (.istore_n 2) 1 7 := ⟨by decide +kernel, rfl⟩
theorem d_PM_apart_7 : DI M_PM_apart 7 (.iload_n 2) 1 8 := ⟨by decide +kernel, rfl⟩
theorem d_PM_apart_8 : DI M_PM_apart 8 (.bipush 8) 2 10 := ⟨by decide +kernel, rfl⟩
theorem d_PM_apart_10 : DI M_PM_apart 10 (.iload_n 2) 1 11 := ⟨by decide +kernel, rfl⟩
theorem d_PM_apart_11 : DI M_PM_apart 11 (.isub) 1 12 := ⟨by decide +kernel, rfl⟩
theorem d_PM_apart_12 : DI M_PM_apart 12 (.invokestatic 276) 3 15 := ⟨by decide +kernel, rfl⟩
theorem d_PM_apart_15 : DI M_PM_apart 15 (.ireturn) 1 16 := ⟨by decide +kernel, rfl⟩
theorem d_PM_reachOf_0 : DI M_PM_reachOf 0 (.iload_n 0) 1 1 := ⟨by decide +kernel, rfl⟩
theorem d_PM_reachOf_1 : decode M_PM_reachOf.2.1 1 = .ok (.lookupswitch 31 #[(1, 27), (3, 29)], 27) := by decide +kernel
theorem d_PM_reachOf_28 : DI M_PM_reachOf 28 (.iconst 0) 1 29 := ⟨by decide +kernel, rfl⟩
theorem d_PM_reachOf_29 : DI M_PM_reachOf 29 (.ireturn) 1 30 := ⟨by decide +kernel, rfl⟩
theorem d_PM_reachOf_30 : DI M_PM_reachOf 30 (.iconst 2) 1 31 := ⟨by decide +kernel, rfl⟩
theorem d_PM_reachOf_31 : DI M_PM_reachOf 31 (.ireturn) 1 32 := ⟨by decide +kernel, rfl⟩
theorem d_PM_reachOf_32 : DI M_PM_reachOf 32 (.iconst 1) 1 33 := ⟨by decide +kernel, rfl⟩
theorem d_PM_reachOf_33 : DI M_PM_reachOf 33 (.ireturn) 1 34 := ⟨by decide +kernel, rfl⟩
theorem d_PM_isShown_0 : DI M_PM_isShown 0 (.iload_n 3) 1 1 := ⟨by decide +kernel, rfl⟩
theorem d_PM_isShown_1 : DI M_PM_isShown 1 (.iconst 3) 1 2 := ⟨by decide +kernel, rfl⟩
theorem d_PM_isShown_2 : DJ M_PM_isShown 2 (.if_icmp .ne 5) 5 3 5 7 := ⟨by decide +kernel, rfl, rfl⟩
theorem d_PM_isShown_5 : DI M_PM_isShown 5 (.iconst 0) 1 6 := ⟨by decide +kernel, rfl⟩
theorem d_PM_isShown_6 : DI M_PM_isShown 6 (.ireturn) 1 7 := ⟨by decide +kernel, rfl⟩
theorem d_PM_isShown_7 : DI M_PM_isShown 7 (.iload_n 3) 1 8 := ⟨by decide +kernel, rfl⟩
theorem d_PM_isShown_8 : DI M_PM_isShown 8 (.iconst 2) 1 9 := ⟨by decide +kernel, rfl⟩
theorem d_PM_isShown_9 : DJ M_PM_isShown 9 (.if_icmp .ne 10) 10 3 12 19 := ⟨by decide +kernel, rfl, rfl⟩
theorem d_PM_isShown_12 : DI M_PM_isShown 12 (.iload_n 0) 1 13 := ⟨by decide +kernel, rfl⟩
theorem d_PM_isShown_13 : DI M_PM_isShown 13 (.iconst 2) 1 14 := ⟨by decide +kernel, rfl⟩
theorem d_PM_isShown_14 : DJ M_PM_isShown 14 (.if_icmp .ne 5) 5 3 17 19 := ⟨by decide +kernel, rfl, rfl⟩
theorem d_PM_isShown_17 : DI M_PM_isShown 17 (.iconst 1) 1 18 := ⟨by decide +kernel, rfl⟩
theorem d_PM_isShown_18 : DI M_PM_isShown 18 (.ireturn) 1 19 := ⟨by decide +kernel, rfl⟩
theorem d_PM_isShown_19 : DI M_PM_isShown 19 (.iload_n 2) 1 20 := ⟨by decide +kernel, rfl⟩
theorem d_PM_isShown_20 : DI M_PM_isShown 20 (.invokestatic 281) 3 23 := ⟨by decide +kernel, rfl⟩
theorem d_PM_isShown_23 : DI M_PM_isShown 23 (.iload_n 3) 1 24 := ⟨by decide +kernel, rfl⟩
theorem d_PM_isShown_24 : DI M_PM_isShown 24 (.iconst 1) 1 25 := ⟨by decide +kernel, rfl⟩
theorem d_PM_isShown_25 : DJ M_PM_isShown 25 (.if_icmp .ne 7) 7 3 28 32 := ⟨by decide +kernel, rfl, rfl⟩
theorem d_PM_isShown_28 : DI M_PM_isShown 28 (.iconst 1) 1 29 := ⟨by decide +kernel, rfl⟩
theorem d_PM_isShown_29 : DJ M_PM_isShown 29 (.goto 4) 4 3 32 33 := ⟨by decide +kernel, rfl, rfl⟩
theorem d_PM_isShown_32 : DI M_PM_isShown 32 (.iconst 0) 1 33 := ⟨by decide +kernel, rfl⟩
theorem d_PM_isShown_33 : DI M_PM_isShown 33 (.iadd) 1 34 := ⟨by decide +kernel, rfl⟩
theorem d_PM_isShown_34 : DI M_PM_isShown 34 (.istore 5) 2 36 := ⟨by decide +kernel, rfl⟩
theorem d_PM_isShown_36 : DI M_PM_isShown 36 (.iload 4) 2 38 := ⟨by decide +kernel, rfl⟩
theorem d_PM_isShown_38 : DI M_PM_isShown 38 (.iload_n 1) 1 39 := ⟨by decide +kernel, rfl⟩
theorem d_PM_isShown_39 : DI M_PM_isShown 39 (.invokestatic 284) 3 42 := ⟨by decide +kernel, rfl⟩
theorem d_PM_isShown_42 : DI M_PM_isShown 42 (.iload 5) 2 44 := ⟨by decide +kernel, rfl⟩
theorem d_PM_isShown_44 : DJ M_PM_isShown 44 (.if_icmp .le 21) 21 3 47 65 := ⟨by decide +kernel, rfl, rfl⟩
theorem d_PM_isShown_47 : DI M_PM_isShown 47 (.iload_n 2) 1 48 := ⟨by decide +kernel, rfl⟩
theorem d_PM_isShown_48 : DI M_PM_isShown 48 (.iconst 2) 1 49 := ⟨by decide +kernel, rfl⟩
theorem d_PM_isShown_49 : DJ M_PM_isShown 49 (.if_icmp .ne 20) 20 3 52 69 := ⟨by decide +kernel, rfl, rfl⟩
theorem d_PM_isShown_52 : DI M_PM_isShown 52 (.iload 4) 2 54 := ⟨by decide +kernel, rfl⟩
theorem d_PM_isShown_54 : DI M_PM_isShown 54 (.iload_n 1) 1 55 := ⟨by decide +kernel, rfl⟩
theorem d_PM_isShown_55 : DI M_PM_isShown 55 (.iconst 4) 1 56 := ⟨by decide +kernel, rfl⟩
theorem d_PM_isShown_56 : DI M_PM_isShown 56 (.iadd) 1 57 := ⟨by decide +kernel, rfl⟩
theorem d_PM_isShown_57 : DI M_PM_isShown 57 (.invokestatic 284) 3 60 := ⟨by decide +kernel, rfl⟩
theorem d_PM_isShown_60 : DI M_PM_isShown 60 (.iload 5) 2 62 := ⟨by decide +kernel, rfl⟩
theorem d_PM_isShown_62 : DJ M_PM_isShown 62 (.if_icmp .gt 7) 7 3 65 69 := ⟨by decide +kernel, rfl, rfl⟩
theorem d_PM_isShown_65 : DI M_PM_isShown 65 (.iconst 1) 1 66 := ⟨by decide +kernel, rfl⟩
theorem d_PM_isShown_66 : DJ M_PM_isShown 66 (.goto 4) 4 3 69 70 := ⟨by decide +kernel, rfl, rfl⟩
theorem d_PM_isShown_69 : DI M_PM_isShown 69 (.iconst 0) 1 70 := ⟨by decide +kernel, rfl⟩
theorem d_PM_isShown_70 : DI M_PM_isShown 70 (.ireturn) 1 71 := ⟨by decide +kernel, rfl⟩
theorem d_PM_inLeastTerms_0 : DI M_PM_inLeastTerms 0 (.iload_n 0) 1 1 := ⟨by decide +kernel, rfl⟩
theorem d_PM_inLeastTerms_1 : DI M_PM_inLeastTerms 1 (.istore_n 3) 1 2 := ⟨by decide +kernel, rfl⟩
theorem d_PM_inLeastTerms_2 : DI M_PM_inLeastTerms 2 (.iload_n 1) 1 3 := ⟨by decide +kernel, rfl⟩
theorem d_PM_inLeastTerms_3 : DI M_PM_inLeastTerms 3 (.istore 4) 2 5 := ⟨by decide +kernel, rfl⟩
theorem d_PM_inLeastTerms_5 : DI M_PM_inLeastTerms 5 (.iconst 0) 1 6 := ⟨by decide +kernel, rfl⟩
theorem d_PM_inLeastTerms_6 : DI M_PM_inLeastTerms 6 (.istore 5) 2 8 := ⟨by decide +kernel, rfl⟩
theorem d_PM_inLeastTerms_8 : DI M_PM_inLeastTerms 8 (.iload 5) 2 10 := ⟨by decide +kernel, rfl⟩
theorem d_PM_inLeastTerms_10 : DI M_PM_inLeastTerms 10 (.bipush 50) 2 12 := ⟨by decide +kernel, rfl⟩
theorem d_PM_inLeastTerms_12 : DJ M_PM_inLeastTerms 12 (.if_icmp .ge 27) 27 3 15 39 := ⟨by decide +kernel, rfl, rfl⟩
theorem d_PM_inLeastTerms_15 : DI M_PM_inLeastTerms 15 (.iload 4) 2 17 := ⟨by decide +kernel, rfl⟩
theorem d_PM_inLeastTerms_17 : DJ M_PM_inLeastTerms 17 (.ifCond .eq 22) 22 3 20 39 := ⟨by decide +kernel, rfl, rfl⟩
theorem d_PM_inLeastTerms_20 : DI M_PM_inLeastTerms 20 (.iload_n 3) 1 21 := ⟨by decide +kernel, rfl⟩
theorem d_PM_inLeastTerms_21 : DI M_PM_inLeastTerms 21 (.iload 4) 2 23 := ⟨by decide +kernel, rfl⟩
theorem d_PM_inLeastTerms_23 : DI M_PM_inLeastTerms 23 (.irem) 1 24 := ⟨by decide +kernel, rfl⟩
theorem d_PM_inLeastTerms_24 : DI M_PM_inLeastTerms 24 (.istore 6) 2 26 := ⟨by decide +kernel, rfl⟩
theorem d_PM_inLeastTerms_26 : DI M_PM_inLeastTerms 26 (.iload 4) 2 28 := ⟨by decide +kernel, rfl⟩
theorem d_PM_inLeastTerms_28 : DI M_PM_inLeastTerms 28 (.istore_n 3) 1 29 := ⟨by decide +kernel, rfl⟩
theorem d_PM_inLeastTerms_29 : DI M_PM_inLeastTerms 29 (.iload 6) 2 31 := ⟨by decide +kernel, rfl⟩
theorem d_PM_inLeastTerms_31 : DI M_PM_inLeastTerms 31 (.istore 4) 2 33 := ⟨by decide +kernel, rfl⟩
theorem d_PM_inLeastTerms_33 : DI M_PM_inLeastTerms 33 (.iinc 5 1) 3 36 := ⟨by decide +kernel, rfl⟩
theorem d_PM_inLeastTerms_36 : DJ M_PM_inLeastTerms 36 (.goto (-28)) (-28) 3 39 8 := ⟨by decide +kernel, rfl, rfl⟩
theorem d_PM_inLeastTerms_39 : DI M_PM_inLeastTerms 39 (.iload_n 2) 1 40 := ⟨by decide +kernel, rfl⟩
theorem d_PM_inLeastTerms_40 : DJ M_PM_inLeastTerms 40 (.ifCond .eq 7) 7 3 43 47 := ⟨by decide +kernel, rfl, rfl⟩
theorem d_PM_inLeastTerms_43 : DI M_PM_inLeastTerms 43 (.iload_n 0) 1 44 := ⟨by decide +kernel, rfl⟩
theorem d_PM_inLeastTerms_44 : DJ M_PM_inLeastTerms 44 (.goto 4) 4 3 47 48 := ⟨by decide +kernel, rfl, rfl⟩
theorem d_PM_inLeastTerms_47 : DI M_PM_inLeastTerms 47 (.iload_n 1) 1 48 := ⟨by decide +kernel, rfl⟩
theorem d_PM_inLeastTerms_48 : DI M_PM_inLeastTerms 48 (.istore 5) 2 50 := ⟨by decide +kernel, rfl⟩
theorem d_PM_inLeastTerms_50 : DI M_PM_inLeastTerms 50 (.iload_n 3) 1 51 := ⟨by decide +kernel, rfl⟩
theorem d_PM_inLeastTerms_51 : DJ M_PM_inLeastTerms 51 (.ifCond .le 10) 10 3 54 61 := ⟨by decide +kernel, rfl, rfl⟩
theorem d_PM_inLeastTerms_54 : DI M_PM_inLeastTerms 54 (.iload 5) 2 56 := ⟨by decide +kernel, rfl⟩
theorem d_PM_inLeastTerms_56 : DI M_PM_inLeastTerms 56 (.iload_n 3) 1 57 := ⟨by decide +kernel, rfl⟩
theorem d_PM_inLeastTerms_57 : DI M_PM_inLeastTerms 57 (.idiv) 1 58 := ⟨by decide +kernel, rfl⟩
theorem d_PM_inLeastTerms_58 : DJ M_PM_inLeastTerms 58 (.goto 5) 5 3 61 63 := ⟨by decide +kernel, rfl, rfl⟩
theorem d_PM_inLeastTerms_61 : DI M_PM_inLeastTerms 61 (.iload 5) 2 63 := ⟨by decide +kernel, rfl⟩
theorem d_PM_inLeastTerms_63 : DI M_PM_inLeastTerms 63 (.ireturn) 1 64 := ⟨by decide +kernel, rfl⟩
theorem d_PM_showsAfter_0 : DI M_PM_showsAfter 0 (.aload_n 0) 1 1 := ⟨by decide +kernel, rfl⟩
theorem d_PM_showsAfter_1 : DI M_PM_showsAfter 1 (.getfield 19) 3 4 := ⟨by decide +kernel, rfl⟩
theorem d_PM_showsAfter_4 : DI M_PM_showsAfter 4 (.iload_n 2) 1 5 := ⟨by decide +kernel, rfl⟩
theorem d_PM_showsAfter_5 : DI M_PM_showsAfter 5 (.iload_n 3) 1 6 := ⟨by decide +kernel, rfl⟩
theorem d_PM_showsAfter_6 : DI M_PM_showsAfter 6 (.aload_n 1) 1 7 := ⟨by decide +kernel, rfl⟩
theorem d_PM_showsAfter_7 : DI M_PM_showsAfter 7 (.iload_n 2) 1 8 := ⟨by decide +kernel, rfl⟩
theorem d_PM_showsAfter_8 : DI M_PM_showsAfter 8 (.invokevirtual 151) 3 11 := ⟨by decide +kernel, rfl⟩
theorem d_PM_showsAfter_11 : DI M_PM_showsAfter 11 (.iload 4) 2 13 := ⟨by decide +kernel, rfl⟩
theorem d_PM_showsAfter_13 : DI M_PM_showsAfter 13 (.iadd) 1 14 := ⟨by decide +kernel, rfl⟩
theorem d_PM_showsAfter_14 : DI M_PM_showsAfter 14 (.invokevirtual 162) 3 17 := ⟨by decide +kernel, rfl⟩
theorem d_PM_showsAfter_17 : DI M_PM_showsAfter 17 (.ireturn) 1 18 := ⟨by decide +kernel, rfl⟩
theorem d_PM_partsSeen_0 : DI M_PM_partsSeen 0 (.iconst 0) 1 1 := ⟨by decide +kernel, rfl⟩
theorem d_PM_partsSeen_1 : DI M_PM_partsSeen 1 (.istore 4) 2 3 := ⟨by decide +kernel, rfl⟩
theorem d_PM_partsSeen_3 : DI M_PM_partsSeen 3 (.iconst 0) 1 4 := ⟨by decide +kernel, rfl⟩
theorem d_PM_partsSeen_4 : DI M_PM_partsSeen 4 (.istore 5) 2 6 := ⟨by decide +kernel, rfl⟩
theorem d_PM_partsSeen_6 : DI M_PM_partsSeen 6 (.iload 5) 2 8 := ⟨by decide +kernel, rfl⟩
theorem d_PM_partsSeen_8 : DI M_PM_partsSeen 8 (.aload_n 0) 1 9 := ⟨by decide +kernel, rfl⟩
theorem d_PM_partsSeen_9 : DI M_PM_partsSeen 9 (.getfield 19) 3 12 := ⟨by decide +kernel, rfl⟩
theorem d_PM_partsSeen_12 : DI M_PM_partsSeen 12 (.getfield 101) 3 15 := ⟨by decide +kernel, rfl⟩
theorem d_PM_partsSeen_15 : DJ M_PM_partsSeen 15 (.if_icmp .ge 49) 49 3 18 64 := ⟨by decide +kernel, rfl, rfl⟩
theorem d_PM_partsSeen_18 : DI M_PM_partsSeen 18 (.aload_n 1) 1 19 := ⟨by decide +kernel, rfl⟩
theorem d_PM_partsSeen_19 : DI M_PM_partsSeen 19 (.getfield 148) 3 22 := ⟨by decide +kernel, rfl⟩
theorem d_PM_partsSeen_22 : DI M_PM_partsSeen 22 (.iload 5) 2 24 := ⟨by decide +kernel, rfl⟩
theorem d_PM_partsSeen_24 : DI M_PM_partsSeen 24 (.iaload) 1 25 := ⟨by decide +kernel, rfl⟩
theorem d_PM_partsSeen_25 : DI M_PM_partsSeen 25 (.iload_n 2) 1 26 := ⟨by decide +kernel, rfl⟩
theorem d_PM_partsSeen_26 : DJ M_PM_partsSeen 26 (.if_icmp .ne 32) 32 3 29 58 := ⟨by decide +kernel, rfl, rfl⟩
theorem d_PM_partsSeen_29 : DI M_PM_partsSeen 29 (.aload_n 0) 1 30 := ⟨by decide +kernel, rfl⟩
theorem d_PM_partsSeen_30 : DI M_PM_partsSeen 30 (.aload_n 1) 1 31 := ⟨by decide +kernel, rfl⟩
theorem d_PM_partsSeen_31 : DI M_PM_partsSeen 31 (.iload 5) 2 33 := ⟨by decide +kernel, rfl⟩
theorem d_PM_partsSeen_33 : DI M_PM_partsSeen 33 (.iload_n 2) 1 34 := ⟨by decide +kernel, rfl⟩
theorem d_PM_partsSeen_34 : DI M_PM_partsSeen 34 (.iload_n 3) 1 35 := ⟨by decide +kernel, rfl⟩
theorem d_PM_partsSeen_35 : DI M_PM_partsSeen 35 (.invokevirtual 154) 3 38 := ⟨by decide +kernel, rfl⟩
theorem d_PM_partsSeen_38 : DJ M_PM_partsSeen 38 (.ifCond .eq 20) 20 3 41 58 := ⟨by decide +kernel, rfl, rfl⟩
theorem d_PM_partsSeen_41 : DI M_PM_partsSeen 41 (.iload 4) 2 43 := ⟨by decide +kernel, rfl⟩
theorem d_PM_partsSeen_43 : DI M_PM_partsSeen 43 (.iconst 1) 1 44 := ⟨by decide +kernel, rfl⟩
theorem d_PM_partsSeen_44 : DI M_PM_partsSeen 44 (.aload_n 0) 1 45 := ⟨by decide +kernel, rfl⟩
theorem d_PM_partsSeen_45 : DI M_PM_partsSeen 45 (.getfield 19) 3 48 := ⟨by decide +kernel, rfl⟩
theorem d_PM_partsSeen_48 : DI M_PM_partsSeen 48 (.getfield 136) 3 51 := ⟨by decide +kernel, rfl⟩
theorem d_PM_partsSeen_51 : DI M_PM_partsSeen 51 (.iload 5) 2 53 := ⟨by decide +kernel, rfl⟩
theorem d_PM_partsSeen_53 : DI M_PM_partsSeen 53 (.iaload) 1 54 := ⟨by decide +kernel, rfl⟩
theorem d_PM_partsSeen_54 : DI M_PM_partsSeen 54 (.ishl) 1 55 := ⟨by decide +kernel, rfl⟩
theorem d_PM_partsSeen_55 : DI M_PM_partsSeen 55 (.ior) 1 56 := ⟨by decide +kernel, rfl⟩
theorem d_PM_partsSeen_56 : DI M_PM_partsSeen 56 (.istore 4) 2 58 := ⟨by decide +kernel, rfl⟩
theorem d_PM_partsSeen_58 : DI M_PM_partsSeen 58 (.iinc 5 1) 3 61 := ⟨by decide +kernel, rfl⟩
theorem d_PM_partsSeen_61 : DJ M_PM_partsSeen 61 (.goto (-55)) (-55) 3 64 6 := ⟨by decide +kernel, rfl, rfl⟩
theorem d_PM_partsSeen_64 : DI M_PM_partsSeen 64 (.iload 4) 2 66 := ⟨by decide +kernel, rfl⟩
theorem d_PM_partsSeen_66 : DI M_PM_partsSeen 66 (.ireturn) 1 67 := ⟨by decide +kernel, rfl⟩
theorem d_PM_partsSeenTogether_0 : DI M_PM_partsSeenTogether 0 (.iconst 0) 1 1 := ⟨by decide +kernel, rfl⟩
theorem d_PM_partsSeenTogether_1 : DI M_PM_partsSeenTogether 1 (.istore_n 1) 1 2 := ⟨by decide +kernel, rfl⟩
theorem d_PM_partsSeenTogether_2 : DI M_PM_partsSeenTogether 2 (.iconst 0) 1 3 := ⟨by decide +kernel, rfl⟩
theorem d_PM_partsSeenTogether_3 : DI M_PM_partsSeenTogether 3 (.istore_n 2) 1 4 := ⟨by decide +kernel, rfl⟩
theorem d_PM_partsSeenTogether_4 : DI M_PM_partsSeenTogether 4 (.iload_n 2) 1 5 := ⟨by decide +kernel, rfl⟩
theorem d_PM_partsSeenTogether_5 : DI M_PM_partsSeenTogether 5 (.aload_n 0) 1 6 := ⟨by decide +kernel, rfl⟩
theorem d_PM_partsSeenTogether_6 : DI M_PM_partsSeenTogether 6 (.getfield 19) 3 9 := ⟨by decide +kernel, rfl⟩
theorem d_PM_partsSeenTogether_9 : DI M_PM_partsSeenTogether 9 (.getfield 98) 3 12 := ⟨by decide +kernel, rfl⟩
theorem d_PM_partsSeenTogether_12 : DJ M_PM_partsSeenTogether 12 (.if_icmp .ge 22) 22 3 15 34 := ⟨by decide +kernel, rfl, rfl⟩
theorem d_PM_partsSeenTogether_15 : DI M_PM_partsSeenTogether 15 (.iload_n 1) 1 16 := ⟨by decide +kernel, rfl⟩
theorem d_PM_partsSeenTogether_16 : DI M_PM_partsSeenTogether 16 (.aload_n 0) 1 17 := ⟨by decide +kernel, rfl⟩
theorem d_PM_partsSeenTogether_17 : DI M_PM_partsSeenTogether 17 (.aload_n 0) 1 18 := ⟨by decide +kernel, rfl⟩
theorem d_PM_partsSeenTogether_18 : DI M_PM_partsSeenTogether 18 (.getfield 29) 3 21 := ⟨by decide +kernel, rfl⟩
theorem d_PM_partsSeenTogether_21 : DI M_PM_partsSeenTogether 21 (.iload_n 2) 1 22 := ⟨by decide +kernel, rfl⟩
theorem d_PM_partsSeenTogether_22 : DI M_PM_partsSeenTogether 22 (.iconst 0) 1 23 := ⟨by decide +kernel, rfl⟩
theorem d_PM_partsSeenTogether_23 : DI M_PM_partsSeenTogether 23 (.invokevirtual 129) 3 26 := ⟨by decide +kernel, rfl⟩
theorem d_PM_partsSeenTogether_26 : DI M_PM_partsSeenTogether 26 (.ior) 1 27 := ⟨by decide +kernel, rfl⟩
theorem d_PM_partsSeenTogether_27 : DI M_PM_partsSeenTogether 27 (.istore_n 1) 1 28 := ⟨by decide +kernel, rfl⟩
theorem d_PM_partsSeenTogether_28 : DI M_PM_partsSeenTogether 28 (.iinc 2 1) 3 31 := ⟨by decide +kernel, rfl⟩
theorem d_PM_partsSeenTogether_31 : DJ M_PM_partsSeenTogether 31 (.goto (-27)) (-27) 3 34 4 := ⟨by decide +kernel, rfl, rfl⟩
theorem d_PM_partsSeenTogether_34 : DI M_PM_partsSeenTogether 34 (.iload_n 1) 1 35 := ⟨by decide +kernel, rfl⟩
theorem d_PM_partsSeenTogether_35 : DI M_PM_partsSeenTogether 35 (.ireturn) 1 36 := ⟨by decide +kernel, rfl⟩
theorem d_PM_whoSeesHerLook_0 : DI M_PM_whoSeesHerLook 0 (.iconst 0) 1 1 := ⟨by decide +kernel, rfl⟩
theorem d_PM_whoSeesHerLook_1 : DI M_PM_whoSeesHerLook 1 (.istore_n 2) 1 2 := ⟨by decide +kernel, rfl⟩
theorem d_PM_whoSeesHerLook_2 : DI M_PM_whoSeesHerLook 2 (.iconst 0) 1 3 := ⟨by decide +kernel, rfl⟩
theorem d_PM_whoSeesHerLook_3 : DI M_PM_whoSeesHerLook 3 (.istore_n 3) 1 4 := ⟨by decide +kernel, rfl⟩
theorem d_PM_whoSeesHerLook_4 : DI M_PM_whoSeesHerLook 4 (.iload_n 3) 1 5 := ⟨by decide +kernel, rfl⟩
theorem d_PM_whoSeesHerLook_5 : DI M_PM_whoSeesHerLook 5 (.aload_n 0) 1 6 := ⟨by decide +kernel, rfl⟩
theorem d_PM_whoSeesHerLook_6 : DI M_PM_whoSeesHerLook 6 (.getfield 19) 3 9 := ⟨by decide +kernel, rfl⟩
theorem d_PM_whoSeesHerLook_9 : DI M_PM_whoSeesHerLook 9 (.getfield 98) 3 12 := ⟨by decide +kernel, rfl⟩
theorem d_PM_whoSeesHerLook_12 : DJ M_PM_whoSeesHerLook 12 (.if_icmp .ge 29) 29 3 15 41 := ⟨by decide +kernel, rfl, rfl⟩
theorem d_PM_whoSeesHerLook_15 : DI M_PM_whoSeesHerLook 15 (.aload_n 0) 1 16 := ⟨by decide +kernel, rfl⟩
theorem d_PM_whoSeesHerLook_16 : DI M_PM_whoSeesHerLook 16 (.aload_n 1) 1 17 := ⟨by decide +kernel, rfl⟩
theorem d_PM_whoSeesHerLook_17 : DI M_PM_whoSeesHerLook 17 (.iload_n 3) 1 18 := ⟨by decide +kernel, rfl⟩
theorem d_PM_whoSeesHerLook_18 : DI M_PM_whoSeesHerLook 18 (.iconst 0) 1 19 := ⟨by decide +kernel, rfl⟩
theorem d_PM_whoSeesHerLook_19 : DI M_PM_whoSeesHerLook 19 (.invokevirtual 129) 3 22 := ⟨by decide +kernel, rfl⟩
theorem d_PM_whoSeesHerLook_22 : DI M_PM_whoSeesHerLook 22 (.iconst 2) 1 23 := ⟨by decide +kernel, rfl⟩
theorem d_PM_whoSeesHerLook_23 : DI M_PM_whoSeesHerLook 23 (.invokestatic 193) 3 26 := ⟨by decide +kernel, rfl⟩
theorem d_PM_whoSeesHerLook_26 : DJ M_PM_whoSeesHerLook 26 (.ifCond .eq 9) 9 3 29 35 := ⟨by decide +kernel, rfl, rfl⟩
theorem d_PM_whoSeesHerLook_29 : DI M_PM_whoSeesHerLook 29 (.iload_n 2) 1 30 := ⟨by decide +kernel, rfl⟩
theorem d_PM_whoSeesHerLook_30 : DI M_PM_whoSeesHerLook 30 (.iconst 1) 1 31 := ⟨by decide +kernel, rfl⟩
theorem d_PM_whoSeesHerLook_31 : DI M_PM_whoSeesHerLook 31 (.iload_n 3) 1 32 := ⟨by decide +kernel, rfl⟩
theorem d_PM_whoSeesHerLook_32 : DI M_PM_whoSeesHerLook 32 (.ishl) 1 33 := ⟨by decide +kernel, rfl⟩
theorem d_PM_whoSeesHerLook_33 : DI M_PM_whoSeesHerLook 33 (.ior) 1 34 := ⟨by decide +kernel, rfl⟩
theorem d_PM_whoSeesHerLook_34 : DI M_PM_whoSeesHerLook 34 (.istore_n 2) 1 35 := ⟨by decide +kernel, rfl⟩
theorem d_PM_whoSeesHerLook_35 : DI M_PM_whoSeesHerLook 35 (.iinc 3 1) 3 38 := ⟨by decide +kernel, rfl⟩
theorem d_PM_whoSeesHerLook_38 : DJ M_PM_whoSeesHerLook 38 (.goto (-34)) (-34) 3 41 4 := ⟨by decide +kernel, rfl, rfl⟩
theorem d_PM_whoSeesHerLook_41 : DI M_PM_whoSeesHerLook 41 (.iload_n 2) 1 42 := ⟨by decide +kernel, rfl⟩
theorem d_PM_whoSeesHerLook_42 : DI M_PM_whoSeesHerLook 42 (.ireturn) 1 43 := ⟨by decide +kernel, rfl⟩
theorem d_PM_piecesOf_0 : DI M_PM_piecesOf 0 (.iconst 0) 1 1 := ⟨by decide +kernel, rfl⟩
theorem d_PM_piecesOf_1 : DI M_PM_piecesOf 1 (.istore_n 2) 1 2 := ⟨by decide +kernel, rfl⟩
theorem d_PM_piecesOf_2 : DI M_PM_piecesOf 2 (.iconst 0) 1 3 := ⟨by decide +kernel, rfl⟩
theorem d_PM_piecesOf_3 : DI M_PM_piecesOf 3 (.istore_n 3) 1 4 := ⟨by decide +kernel, rfl⟩
theorem d_PM_piecesOf_4 : DI M_PM_piecesOf 4 (.iload_n 3) 1 5 := ⟨by decide +kernel, rfl⟩
theorem d_PM_piecesOf_5 : DI M_PM_piecesOf 5 (.aload_n 0) 1 6 := ⟨by decide +kernel, rfl⟩
theorem d_PM_piecesOf_6 : DI M_PM_piecesOf 6 (.getfield 19) 3 9 := ⟨by decide +kernel, rfl⟩
theorem d_PM_piecesOf_9 : DI M_PM_piecesOf 9 (.getfield 101) 3 12 := ⟨by decide +kernel, rfl⟩
theorem d_PM_piecesOf_12 : DJ M_PM_piecesOf 12 (.if_icmp .ge 28) 28 3 15 40 := ⟨by decide +kernel, rfl, rfl⟩
theorem d_PM_piecesOf_15 : DI M_PM_piecesOf 15 (.aload_n 0) 1 16 := ⟨by decide +kernel, rfl⟩
theorem d_PM_piecesOf_16 : DI M_PM_piecesOf 16 (.getfield 29) 3 19 := ⟨by decide +kernel, rfl⟩
theorem d_PM_piecesOf_19 : DI M_PM_piecesOf 19 (.getfield 148) 3 22 := ⟨by decide +kernel, rfl⟩
theorem d_PM_piecesOf_22 : DI M_PM_piecesOf 22 (.iload_n 3) 1 23 := ⟨by decide +kernel, rfl⟩
theorem d_PM_piecesOf_23 : DI M_PM_piecesOf 23 (.iaload) 1 24 := ⟨by decide +kernel, rfl⟩
theorem d_PM_piecesOf_24 : DI M_PM_piecesOf 24 (.iload_n 1) 1 25 := ⟨by decide +kernel, rfl⟩
theorem d_PM_piecesOf_25 : DJ M_PM_piecesOf 25 (.if_icmp .ne 9) 9 3 28 34 := ⟨by decide +kernel, rfl, rfl⟩
theorem d_PM_piecesOf_28 : DI M_PM_piecesOf 28 (.iload_n 2) 1 29 := ⟨by decide +kernel, rfl⟩
theorem d_PM_piecesOf_29 : DI M_PM_piecesOf 29 (.iconst 1) 1 30 := ⟨by decide +kernel, rfl⟩
theorem d_PM_piecesOf_30 : DI M_PM_piecesOf 30 (.iload_n 3) 1 31 := ⟨by decide +kernel, rfl⟩
theorem d_PM_piecesOf_31 : DI M_PM_piecesOf 31 (.ishl) 1 32 := ⟨by decide +kernel, rfl⟩
theorem d_PM_piecesOf_32 : DI M_PM_piecesOf 32 (.ior) 1 33 := ⟨by decide +kernel, rfl⟩
theorem d_PM_piecesOf_33 : DI M_PM_piecesOf 33 (.istore_n 2) 1 34 := ⟨by decide +kernel, rfl⟩
theorem d_PM_piecesOf_34 : DI M_PM_piecesOf 34 (.iinc 3 1) 3 37 := ⟨by decide +kernel, rfl⟩
theorem d_PM_piecesOf_37 : DJ M_PM_piecesOf 37 (.goto (-33)) (-33) 3 40 4 := ⟨by decide +kernel, rfl, rfl⟩
theorem d_PM_piecesOf_40 : DI M_PM_piecesOf 40 (.iload_n 2) 1 41 := ⟨by decide +kernel, rfl⟩
theorem d_PM_piecesOf_41 : DI M_PM_piecesOf 41 (.ireturn) 1 42 := ⟨by decide +kernel, rfl⟩
theorem d_PM_partsHeld_0 : DI M_PM_partsHeld 0 (.iconst 0) 1 1 := ⟨by decide +kernel, rfl⟩
theorem d_PM_partsHeld_1 : DI M_PM_partsHeld 1 (.istore_n 2) 1 2 := ⟨by decide +kernel, rfl⟩
theorem d_PM_partsHeld_2 : DI M_PM_partsHeld 2 (.iconst 0) 1 3 := ⟨by decide +kernel, rfl⟩
theorem d_PM_partsHeld_3 : DI M_PM_partsHeld 3 (.istore_n 3) 1 4 := ⟨by decide +kernel, rfl⟩
theorem d_PM_partsHeld_4 : DI M_PM_partsHeld 4 (.iload_n 3) 1 5 := ⟨by decide +kernel, rfl⟩
theorem d_PM_partsHeld_5 : DI M_PM_partsHeld 5 (.aload_n 0) 1 6 := ⟨by decide +kernel, rfl⟩
theorem d_PM_partsHeld_6 : DI M_PM_partsHeld 6 (.getfield 19) 3 9 := ⟨by decide +kernel, rfl⟩
theorem d_PM_partsHeld_9 : DI M_PM_partsHeld 9 (.getfield 101) 3 12 := ⟨by decide +kernel, rfl⟩
theorem d_PM_partsHeld_12 : DJ M_PM_partsHeld 12 (.if_icmp .ge 36) 36 3 15 48 := ⟨by decide +kernel, rfl, rfl⟩
theorem d_PM_partsHeld_15 : DI M_PM_partsHeld 15 (.aload_n 0) 1 16 := ⟨by decide +kernel, rfl⟩
theorem d_PM_partsHeld_16 : DI M_PM_partsHeld 16 (.getfield 29) 3 19 := ⟨by decide +kernel, rfl⟩
theorem d_PM_partsHeld_19 : DI M_PM_partsHeld 19 (.getfield 148) 3 22 := ⟨by decide +kernel, rfl⟩
theorem d_PM_partsHeld_22 : DI M_PM_partsHeld 22 (.iload_n 3) 1 23 := ⟨by decide +kernel, rfl⟩
theorem d_PM_partsHeld_23 : DI M_PM_partsHeld 23 (.iaload) 1 24 := ⟨by decide +kernel, rfl⟩
theorem d_PM_partsHeld_24 : DI M_PM_partsHeld 24 (.iload_n 1) 1 25 := ⟨by decide +kernel, rfl⟩
theorem d_PM_partsHeld_25 : DJ M_PM_partsHeld 25 (.if_icmp .ne 17) 17 3 28 42 := ⟨by decide +kernel, rfl, rfl⟩
theorem d_PM_partsHeld_28 : DI M_PM_partsHeld 28 (.iload_n 2) 1 29 := ⟨by decide +kernel, rfl⟩
theorem d_PM_partsHeld_29 : DI M_PM_partsHeld 29 (.iconst 1) 1 30 := ⟨by decide +kernel, rfl⟩
theorem d_PM_partsHeld_30 : DI M_PM_partsHeld 30 (.aload_n 0) 1 31 := ⟨by decide +kernel, rfl⟩
theorem d_PM_partsHeld_31 : DI M_PM_partsHeld 31 (.getfield 19) 3 34 := ⟨by decide +kernel, rfl⟩
theorem d_PM_partsHeld_34 : DI M_PM_partsHeld 34 (.getfield 136) 3 37 := ⟨by decide +kernel, rfl⟩
theorem d_PM_partsHeld_37 : DI M_PM_partsHeld 37 (.iload_n 3) 1 38 := ⟨by decide +kernel, rfl⟩
theorem d_PM_partsHeld_38 : DI M_PM_partsHeld 38 (.iaload) 1 39 := ⟨by decide +kernel, rfl⟩
theorem d_PM_partsHeld_39 : DI M_PM_partsHeld 39 (.ishl) 1 40 := ⟨by decide +kernel, rfl⟩
theorem d_PM_partsHeld_40 : DI M_PM_partsHeld 40 (.ior) 1 41 := ⟨by decide +kernel, rfl⟩
theorem d_PM_partsHeld_41 : DI M_PM_partsHeld 41 (.istore_n 2) 1 42 := ⟨by decide +kernel, rfl⟩
theorem d_PM_partsHeld_42 : DI M_PM_partsHeld 42 (.iinc 3 1) 3 45 := ⟨by decide +kernel, rfl⟩
theorem d_PM_partsHeld_45 : DJ M_PM_partsHeld 45 (.goto (-41)) (-41) 3 48 4 := ⟨by decide +kernel, rfl, rfl⟩
theorem d_PM_partsHeld_48 : DI M_PM_partsHeld 48 (.iload_n 2) 1 49 := ⟨by decide +kernel, rfl⟩
theorem d_PM_partsHeld_49 : DI M_PM_partsHeld 49 (.ireturn) 1 50 := ⟨by decide +kernel, rfl⟩
theorem d_PM_piecesThatShow_0 : DI M_PM_piecesThatShow 0 (.iconst 0) 1 1 := ⟨by decide +kernel, rfl⟩
theorem d_PM_piecesThatShow_1 : DI M_PM_piecesThatShow 1 (.istore_n 2) 1 2 := ⟨by decide +kernel, rfl⟩
theorem d_PM_piecesThatShow_2 : DI M_PM_piecesThatShow 2 (.iconst 0) 1 3 := ⟨by decide +kernel, rfl⟩
theorem d_PM_piecesThatShow_3 : DI M_PM_piecesThatShow 3 (.istore_n 3) 1 4 := ⟨by decide +kernel, rfl⟩
theorem d_PM_piecesThatShow_4 : DI M_PM_piecesThatShow 4 (.iload_n 3) 1 5 := ⟨by decide +kernel, rfl⟩
theorem d_PM_piecesThatShow_5 : DI M_PM_piecesThatShow 5 (.aload_n 0) 1 6 := ⟨by decide +kernel, rfl⟩
theorem d_PM_piecesThatShow_6 : DI M_PM_piecesThatShow 6 (.getfield 19) 3 9 := ⟨by decide +kernel, rfl⟩
theorem d_PM_piecesThatShow_9 : DI M_PM_piecesThatShow 9 (.getfield 101) 3 12 := ⟨by decide +kernel, rfl⟩
theorem d_PM_piecesThatShow_12 : DJ M_PM_piecesThatShow 12 (.if_icmp .ge 47) 47 3 15 59 := ⟨by decide +kernel, rfl, rfl⟩
theorem d_PM_piecesThatShow_15 : DI M_PM_piecesThatShow 15 (.aload_n 0) 1 16 := ⟨by decide +kernel, rfl⟩
theorem d_PM_piecesThatShow_16 : DI M_PM_piecesThatShow 16 (.getfield 19) 3 19 := ⟨by decide +kernel, rfl⟩
theorem d_PM_piecesThatShow_19 : DI M_PM_piecesThatShow 19 (.getfield 136) 3 22 := ⟨by decide +kernel, rfl⟩
theorem d_PM_piecesThatShow_22 : DI M_PM_piecesThatShow 22 (.iload_n 3) 1 23 := ⟨by decide +kernel, rfl⟩
theorem d_PM_piecesThatShow_23 : DI M_PM_piecesThatShow 23 (.iaload) 1 24 := ⟨by decide +kernel, rfl⟩
theorem d_PM_piecesThatShow_24 : DI M_PM_piecesThatShow 24 (.iload_n 1) 1 25 := ⟨by decide +kernel, rfl⟩
theorem d_PM_piecesThatShow_25 : DJ M_PM_piecesThatShow 25 (.if_icmp .ne 28) 28 3 28 53 := ⟨by decide +kernel, rfl, rfl⟩
theorem d_PM_piecesThatShow_28 : DI M_PM_piecesThatShow 28 (.aload_n 0) 1 29 := ⟨by decide +kernel, rfl⟩
theorem d_PM_piecesThatShow_29 : DI M_PM_piecesThatShow 29 (.aload_n 0) 1 30 := ⟨by decide +kernel, rfl⟩
theorem d_PM_piecesThatShow_30 : DI M_PM_piecesThatShow 30 (.getfield 29) 3 33 := ⟨by decide +kernel, rfl⟩
theorem d_PM_piecesThatShow_33 : DI M_PM_piecesThatShow 33 (.iload_n 3) 1 34 := ⟨by decide +kernel, rfl⟩
theorem d_PM_piecesThatShow_34 : DI M_PM_piecesThatShow 34 (.aload_n 0) 1 35 := ⟨by decide +kernel, rfl⟩
theorem d_PM_piecesThatShow_35 : DI M_PM_piecesThatShow 35 (.getfield 29) 3 38 := ⟨by decide +kernel, rfl⟩
theorem d_PM_piecesThatShow_38 : DI M_PM_piecesThatShow 38 (.getfield 148) 3 41 := ⟨by decide +kernel, rfl⟩
theorem d_PM_piecesThatShow_41 : DI M_PM_piecesThatShow 41 (.iload_n 3) 1 42 := ⟨by decide +kernel, rfl⟩
theorem d_PM_piecesThatShow_42 : DI M_PM_piecesThatShow 42 (.iaload) 1 43 := ⟨by decide +kernel, rfl⟩
theorem d_PM_piecesThatShow_43 : DI M_PM_piecesThatShow 43 (.iconst 0) 1 44 := ⟨by decide +kernel, rfl⟩
theorem d_PM_piecesThatShow_44 : DI M_PM_piecesThatShow 44 (.invokevirtual 154) 3 47 := ⟨by decide +kernel, rfl⟩
theorem d_PM_piecesThatShow_47 : DJ M_PM_piecesThatShow 47 (.ifCond .eq 6) 6 3 50 53 := ⟨by decide +kernel, rfl, rfl⟩
theorem d_PM_piecesThatShow_50 : DI M_PM_piecesThatShow 50 (.iinc 2 1) 3 53 := ⟨by decide +kernel, rfl⟩
theorem d_PM_piecesThatShow_53 : DI M_PM_piecesThatShow 53 (.iinc 3 1) 3 56 := ⟨by decide +kernel, rfl⟩
theorem d_PM_piecesThatShow_56 : DJ M_PM_piecesThatShow 56 (.goto (-52)) (-52) 3 59 4 := ⟨by decide +kernel, rfl, rfl⟩
theorem d_PM_piecesThatShow_59 : DI M_PM_piecesThatShow 59 (.iload_n 2) 1 60 := ⟨by decide +kernel, rfl⟩
theorem d_PM_piecesThatShow_60 : DI M_PM_piecesThatShow 60 (.ireturn) 1 61 := ⟨by decide +kernel, rfl⟩
theorem d_PM_takeBack_0 : DI M_PM_takeBack 0 (.iload_n 1) 1 1 := ⟨by decide +kernel, rfl⟩
theorem d_PM_takeBack_1 : DI M_PM_takeBack 1 (.bipush 10) 2 3 := ⟨by decide +kernel, rfl⟩
theorem d_PM_takeBack_3 : DI M_PM_takeBack 3 (.idiv) 1 4 := ⟨by decide +kernel, rfl⟩
theorem d_PM_takeBack_4 : DI M_PM_takeBack 4 (.bipush 10) 2 6 := ⟨by decide +kernel, rfl⟩
theorem d_PM_takeBack_6 : DI M_PM_takeBack 6 (.irem) 1 7 := ⟨by decide +kernel, rfl⟩
theorem d_PM_takeBack_7 : DI M_PM_takeBack 7 (.istore_n 2) 1 8 := ⟨by decide +kernel, rfl⟩
theorem d_PM_takeBack_8 : DI M_PM_takeBack 8 (.iload_n 1) 1 9 := ⟨by decide +kernel, rfl⟩
theorem d_PM_takeBack_9 : DI M_PM_takeBack 9 (.bipush 10) 2 11 := ⟨by decide +kernel, rfl⟩
theorem d_PM_takeBack_11 : DI M_PM_takeBack 11 (.irem) 1 12 := ⟨by decide +kernel, rfl⟩
theorem d_PM_takeBack_12 : DI M_PM_takeBack 12 (.istore_n 3) 1 13 := ⟨by decide +kernel, rfl⟩
theorem d_PM_takeBack_13 : DI M_PM_takeBack 13 (.iload_n 1) 1 14 := ⟨by decide +kernel, rfl⟩
theorem d_PM_takeBack_14 : DI M_PM_takeBack 14 (.bipush 100) 2 16 := ⟨by decide +kernel, rfl⟩
theorem d_PM_takeBack_16 : DI M_PM_takeBack 16 (.idiv) 1 17 := ⟨by decide +kernel, rfl⟩
theorem d_PM_takeBack_17 : decode M_PM_takeBack.2.1 17 = .ok (.lookupswitch 60 #[(1, 27), (2, 48)], 27) := by decide +kernel
theorem d_PM_takeBack_44 : DI M_PM_takeBack 44 (.aload_n 0) 1 45 := ⟨by decide +kernel, rfl⟩
theorem d_PM_takeBack_45 : DI M_PM_takeBack 45 (.getfield 29) 3 48 := ⟨by decide +kernel, rfl⟩
theorem d_PM_takeBack_48 : DI M_PM_takeBack 48 (.iload_n 2) 1 49 := ⟨by decide +kernel, rfl⟩
theorem d_PM_takeBack_49 : DI M_PM_takeBack 49 (.iload_n 3) 1 50 := ⟨by decide +kernel, rfl⟩
theorem d_PM_takeBack_50 : DI M_PM_takeBack 50 (.iconst 1) 1 51 := ⟨by decide +kernel, rfl⟩
theorem d_PM_takeBack_51 : DJ M_PM_takeBack 51 (.if_icmp .ne 7) 7 3 54 58 := ⟨by decide +kernel, rfl, rfl⟩
theorem d_PM_takeBack_54 : DI M_PM_takeBack 54 (.iconst (-1)) 1 55 := ⟨by decide +kernel, rfl⟩
theorem d_PM_takeBack_55 : DJ M_PM_takeBack 55 (.goto 4) 4 3 58 59 := ⟨by decide +kernel, rfl, rfl⟩
theorem d_PM_takeBack_58 : DI M_PM_takeBack 58 (.iconst 1) 1 59 := ⟨by decide +kernel, rfl⟩
theorem d_PM_takeBack_59 : DI M_PM_takeBack 59 (.invokevirtual 166) 3 62 := ⟨by decide +kernel, rfl⟩
theorem d_PM_takeBack_62 : DJ M_PM_takeBack 62 (.goto 23) 23 3 65 85 := ⟨by decide +kernel, rfl, rfl⟩
theorem d_PM_takeBack_65 : DI M_PM_takeBack 65 (.aload_n 0) 1 66 := ⟨by decide +kernel, rfl⟩
theorem d_PM_takeBack_66 : DI M_PM_takeBack 66 (.getfield 29) 3 69 := ⟨by decide +kernel, rfl⟩
theorem d_PM_takeBack_69 : DI M_PM_takeBack 69 (.iload_n 2) 1 70 := ⟨by decide +kernel, rfl⟩
theorem d_PM_takeBack_70 : DI M_PM_takeBack 70 (.iload_n 3) 1 71 := ⟨by decide +kernel, rfl⟩
theorem d_PM_takeBack_71 : DI M_PM_takeBack 71 (.invokevirtual 287) 3 74 := ⟨by decide +kernel, rfl⟩
theorem d_PM_takeBack_74 : DJ M_PM_takeBack 74 (.goto 11) 11 3 77 85 := ⟨by decide +kernel, rfl, rfl⟩
theorem d_PM_takeBack_77 : DI M_PM_takeBack 77 (.aload_n 0) 1 78 := ⟨by decide +kernel, rfl⟩
theorem d_PM_takeBack_78 : DI M_PM_takeBack 78 (.getfield 29) 3 81 := ⟨by decide +kernel, rfl⟩
theorem d_PM_takeBack_81 : DI M_PM_takeBack 81 (.iconst (-1)) 1 82 := ⟨by decide +kernel, rfl⟩
theorem d_PM_takeBack_82 : DI M_PM_takeBack 82 (.invokevirtual 173) 3 85 := ⟨by decide +kernel, rfl⟩
theorem d_PM_takeBack_85 : DI M_PM_takeBack 85 (.return_) 1 86 := ⟨by decide +kernel, rfl⟩
theorem d_PM_fewestTilts_0 : DI M_PM_fewestTilts 0 (.iconst 0) 1 1 := ⟨by decide +kernel, rfl⟩
theorem d_PM_fewestTilts_1 : DI M_PM_fewestTilts 1 (.istore_n 3) 1 2 := ⟨by decide +kernel, rfl⟩
theorem d_PM_fewestTilts_2 : DI M_PM_fewestTilts 2 (.iload_n 3) 1 3 := ⟨by decide +kernel, rfl⟩
theorem d_PM_fewestTilts_3 : DI M_PM_fewestTilts 3 (.iconst 4) 1 4 := ⟨by decide +kernel, rfl⟩
theorem d_PM_fewestTilts_4 : DJ M_PM_fewestTilts 4 (.if_icmp .gt 40) 40 3 7 44 := ⟨by decide +kernel, rfl, rfl⟩
theorem d_PM_fewestTilts_7 : DI M_PM_fewestTilts 7 (.aload_n 0) 1 8 := ⟨by decide +kernel, rfl⟩
theorem d_PM_fewestTilts_8 : DI M_PM_fewestTilts 8 (.aload_n 0) 1 9 := ⟨by decide +kernel, rfl⟩
theorem d_PM_fewestTilts_9 : DI M_PM_fewestTilts 9 (.getfield 29) 3 12 := ⟨by decide +kernel, rfl⟩
theorem d_PM_fewestTilts_12 : DI M_PM_fewestTilts 12 (.iload_n 1) 1 13 := ⟨by decide +kernel, rfl⟩
theorem d_PM_fewestTilts_13 : DI M_PM_fewestTilts 13 (.iload_n 2) 1 14 := ⟨by decide +kernel, rfl⟩
theorem d_PM_fewestTilts_14 : DI M_PM_fewestTilts 14 (.iload_n 3) 1 15 := ⟨by decide +kernel, rfl⟩
theorem d_PM_fewestTilts_15 : DI M_PM_fewestTilts 15 (.invokevirtual 154) 3 18 := ⟨by decide +kernel, rfl⟩
theorem d_PM_fewestTilts_18 : DJ M_PM_fewestTilts 18 (.ifCond .ne 18) 18 3 21 36 := ⟨by decide +kernel, rfl, rfl⟩
theorem d_PM_fewestTilts_21 : DI M_PM_fewestTilts 21 (.aload_n 0) 1 22 := ⟨by decide +kernel, rfl⟩
theorem d_PM_fewestTilts_22 : DI M_PM_fewestTilts 22 (.aload_n 0) 1 23 := ⟨by decide +kernel, rfl⟩
theorem d_PM_fewestTilts_23 : DI M_PM_fewestTilts 23 (.getfield 29) 3 26 := ⟨by decide +kernel, rfl⟩
theorem d_PM_fewestTilts_26 : DI M_PM_fewestTilts 26 (.iload_n 1) 1 27 := ⟨by decide +kernel, rfl⟩
theorem d_PM_fewestTilts_27 : DI M_PM_fewestTilts 27 (.iload_n 2) 1 28 := ⟨by decide +kernel, rfl⟩
theorem d_PM_fewestTilts_28 : DI M_PM_fewestTilts 28 (.iload_n 3) 1 29 := ⟨by decide +kernel, rfl⟩
theorem d_PM_fewestTilts_29 : DI M_PM_fewestTilts 29 (.ineg) 1 30 := ⟨by decide +kernel, rfl⟩
theorem d_PM_fewestTilts_30 : DI M_PM_fewestTilts 30 (.invokevirtual 154) 3 33 := ⟨by decide +kernel, rfl⟩
theorem d_PM_fewestTilts_33 : DJ M_PM_fewestTilts 33 (.ifCond .eq 5) 5 3 36 38 := ⟨by decide +kernel, rfl, rfl⟩
theorem d_PM_fewestTilts_36 : DI M_PM_fewestTilts 36 (.iload_n 3) 1 37 := ⟨by decide +kernel, rfl⟩
theorem d_PM_fewestTilts_37 : DI M_PM_fewestTilts 37 (.ireturn) 1 38 := ⟨by decide +kernel, rfl⟩
theorem d_PM_fewestTilts_38 : DI M_PM_fewestTilts 38 (.iinc 3 1) 3 41 := ⟨by decide +kernel, rfl⟩
theorem d_PM_fewestTilts_41 : DJ M_PM_fewestTilts 41 (.goto (-39)) (-39) 3 44 2 := ⟨by decide +kernel, rfl, rfl⟩
theorem d_PM_fewestTilts_44 : DI M_PM_fewestTilts 44 (.bipush (-9)) 2 46 := ⟨by decide +kernel, rfl⟩
theorem d_PM_fewestTilts_46 : DI M_PM_fewestTilts 46 (.ireturn) 1 47 := ⟨by decide +kernel, rfl⟩
theorem d_PM_fewestTiltsToSee_0 : DI M_PM_fewestTiltsToSee 0 (.bipush (-9)) 2 2 := ⟨by decide +kernel, rfl⟩
theorem d_PM_fewestTiltsToSee_2 : DI M_PM_fewestTiltsToSee 2 (.istore_n 3) 1 3 := ⟨by decide +kernel, rfl⟩
theorem d_PM_fewestTiltsToSee_3 : DI M_PM_fewestTiltsToSee 3 (.iconst 0) 1 4 := ⟨by decide +kernel, rfl⟩
theorem d_PM_fewestTiltsToSee_4 : DI M_PM_fewestTiltsToSee 4 (.istore 4) 2 6 := ⟨by decide +kernel, rfl⟩
theorem d_PM_fewestTiltsToSee_6 : DI M_PM_fewestTiltsToSee 6 (.iload 4) 2 8 := ⟨by decide +kernel, rfl⟩
theorem d_PM_fewestTiltsToSee_8 : DI M_PM_fewestTiltsToSee 8 (.aload_n 0) 1 9 := ⟨by decide +kernel, rfl⟩
theorem d_PM_fewestTiltsToSee_9 : DI M_PM_fewestTiltsToSee 9 (.getfield 19) 3 12 := ⟨by decide +kernel, rfl⟩
theorem d_PM_fewestTiltsToSee_12 : DI M_PM_fewestTiltsToSee 12 (.getfield 101) 3 15 := ⟨by decide +kernel, rfl⟩
theorem d_PM_fewestTiltsToSee_15 : DJ M_PM_fewestTiltsToSee 15 (.if_icmp .ge 68) 68 3 18 83 := ⟨by decide +kernel, rfl, rfl⟩
theorem d_PM_fewestTiltsToSee_18 : DI M_PM_fewestTiltsToSee 18 (.aload_n 0) 1 19 := ⟨by decide +kernel, rfl⟩
theorem d_PM_fewestTiltsToSee_19 : DI M_PM_fewestTiltsToSee 19 (.getfield 29) 3 22 := ⟨by decide +kernel, rfl⟩
theorem d_PM_fewestTiltsToSee_22 : DI M_PM_fewestTiltsToSee 22 (.getfield 148) 3 25 := ⟨by decide +kernel, rfl⟩
theorem d_PM_fewestTiltsToSee_25 : DI M_PM_fewestTiltsToSee 25 (.iload 4) 2 27 := ⟨by decide +kernel, rfl⟩
theorem d_PM_fewestTiltsToSee_27 : DI M_PM_fewestTiltsToSee 27 (.iaload) 1 28 := ⟨by decide +kernel, rfl⟩
theorem d_PM_fewestTiltsToSee_28 : DI M_PM_fewestTiltsToSee 28 (.iload_n 1) 1 29 := ⟨by decide +kernel, rfl⟩
theorem d_PM_fewestTiltsToSee_29 : DJ M_PM_fewestTiltsToSee 29 (.if_icmp .ne 48) 48 3 32 77 := ⟨by decide +kernel, rfl, rfl⟩
theorem d_PM_fewestTiltsToSee_32 : DI M_PM_fewestTiltsToSee 32 (.aload_n 0) 1 33 := ⟨by decide +kernel, rfl⟩
theorem d_PM_fewestTiltsToSee_33 : DI M_PM_fewestTiltsToSee 33 (.getfield 19) 3 36 := ⟨by decide +kernel, rfl⟩
theorem d_PM_fewestTiltsToSee_36 : DI M_PM_fewestTiltsToSee 36 (.getfield 136) 3 39 := ⟨by decide +kernel, rfl⟩
theorem d_PM_fewestTiltsToSee_39 : DI M_PM_fewestTiltsToSee 39 (.iload 4) 2 41 := ⟨by decide +kernel, rfl⟩
theorem d_PM_fewestTiltsToSee_41 : DI M_PM_fewestTiltsToSee 41 (.iaload) 1 42 := ⟨by decide +kernel, rfl⟩
theorem d_PM_fewestTiltsToSee_42 : DI M_PM_fewestTiltsToSee 42 (.iload_n 2) 1 43 := ⟨by decide +kernel, rfl⟩
theorem d_PM_fewestTiltsToSee_43 : DJ M_PM_fewestTiltsToSee 43 (.if_icmp .ne 34) 34 3 46 77 := ⟨by decide +kernel, rfl, rfl⟩
theorem d_PM_fewestTiltsToSee_46 : DI M_PM_fewestTiltsToSee 46 (.aload_n 0) 1 47 := ⟨by decide +kernel, rfl⟩
theorem d_PM_fewestTiltsToSee_47 : DI M_PM_fewestTiltsToSee 47 (.iload 4) 2 49 := ⟨by decide +kernel, rfl⟩
theorem d_PM_fewestTiltsToSee_49 : DI M_PM_fewestTiltsToSee 49 (.iload_n 1) 1 50 := ⟨by decide +kernel, rfl⟩
theorem d_PM_fewestTiltsToSee_50 : DI M_PM_fewestTiltsToSee 50 (.invokevirtual 183) 3 53 := ⟨by decide +kernel, rfl⟩
theorem d_PM_fewestTiltsToSee_53 : DI M_PM_fewestTiltsToSee 53 (.istore 5) 2 55 := ⟨by decide +kernel, rfl⟩
theorem d_PM_fewestTiltsToSee_55 : DI M_PM_fewestTiltsToSee 55 (.iload 5) 2 57 := ⟨by decide +kernel, rfl⟩
theorem d_PM_fewestTiltsToSee_57 : DI M_PM_fewestTiltsToSee 57 (.bipush (-9)) 2 59 := ⟨by decide +kernel, rfl⟩
theorem d_PM_fewestTiltsToSee_59 : DJ M_PM_fewestTiltsToSee 59 (.if_icmp .eq 18) 18 3 62 77 := ⟨by decide +kernel, rfl, rfl⟩
theorem d_PM_fewestTiltsToSee_62 : DI M_PM_fewestTiltsToSee 62 (.iload_n 3) 1 63 := ⟨by decide +kernel, rfl⟩
theorem d_PM_fewestTiltsToSee_63 : DI M_PM_fewestTiltsToSee 63 (.bipush (-9)) 2 65 := ⟨by decide +kernel, rfl⟩
theorem d_PM_fewestTiltsToSee_65 : DJ M_PM_fewestTiltsToSee 65 (.if_icmp .eq 9) 9 3 68 74 := ⟨by decide +kernel, rfl, rfl⟩
theorem d_PM_fewestTiltsToSee_68 : DI M_PM_fewestTiltsToSee 68 (.iload 5) 2 70 := ⟨by decide +kernel, rfl⟩
theorem d_PM_fewestTiltsToSee_70 : DI M_PM_fewestTiltsToSee 70 (.iload_n 3) 1 71 := ⟨by decide +kernel, rfl⟩
theorem d_PM_fewestTiltsToSee_71 : DJ M_PM_fewestTiltsToSee 71 (.if_icmp .ge 6) 6 3 74 77 := ⟨by decide +kernel, rfl, rfl⟩
theorem d_PM_fewestTiltsToSee_74 : DI M_PM_fewestTiltsToSee 74 (.iload 5) 2 76 := ⟨by decide +kernel, rfl⟩
theorem d_PM_fewestTiltsToSee_76 : DI M_PM_fewestTiltsToSee 76 (.istore_n 3) 1 77 := ⟨by decide +kernel, rfl⟩
theorem d_PM_fewestTiltsToSee_77 : DI M_PM_fewestTiltsToSee 77 (.iinc 4 1) 3 80 := ⟨by decide +kernel, rfl⟩
theorem d_PM_fewestTiltsToSee_80 : DJ M_PM_fewestTiltsToSee 80 (.goto (-74)) (-74) 3 83 6 := ⟨by decide +kernel, rfl, rfl⟩
theorem d_PM_fewestTiltsToSee_83 : DI M_PM_fewestTiltsToSee 83 (.iload_n 3) 1 84 := ⟨by decide +kernel, rfl⟩
theorem d_PM_fewestTiltsToSee_84 : DI M_PM_fewestTiltsToSee 84 (.ireturn) 1 85 := ⟨by decide +kernel, rfl⟩
theorem d_PM_hoursUntilSeen_0 : DI M_PM_hoursUntilSeen 0 (.iconst 0) 1 1 := ⟨by decide +kernel, rfl⟩
theorem d_PM_hoursUntilSeen_1 : DI M_PM_hoursUntilSeen 1 (.istore_n 3) 1 2 := ⟨by decide +kernel, rfl⟩
theorem d_PM_hoursUntilSeen_2 : DI M_PM_hoursUntilSeen 2 (.iload_n 3) 1 3 := ⟨by decide +kernel, rfl⟩
theorem d_PM_hoursUntilSeen_3 : DI M_PM_hoursUntilSeen 3 (.bipush 8) 2 5 := ⟨by decide +kernel, rfl⟩
theorem d_PM_hoursUntilSeen_5 : DJ M_PM_hoursUntilSeen 5 (.if_icmp .ge 28) 28 3 8 33 := ⟨by decide +kernel, rfl, rfl⟩
theorem d_PM_hoursUntilSeen_8 : DI M_PM_hoursUntilSeen 8 (.aload_n 0) 1 9 := ⟨by decide +kernel, rfl⟩
theorem d_PM_hoursUntilSeen_9 : DI M_PM_hoursUntilSeen 9 (.aload_n 0) 1 10 := ⟨by decide +kernel, rfl⟩
theorem d_PM_hoursUntilSeen_10 : DI M_PM_hoursUntilSeen 10 (.getfield 29) 3 13 := ⟨by decide +kernel, rfl⟩
theorem d_PM_hoursUntilSeen_13 : DI M_PM_hoursUntilSeen 13 (.iload_n 1) 1 14 := ⟨by decide +kernel, rfl⟩
theorem d_PM_hoursUntilSeen_14 : DI M_PM_hoursUntilSeen 14 (.iload_n 3) 1 15 := ⟨by decide +kernel, rfl⟩
theorem d_PM_hoursUntilSeen_15 : DI M_PM_hoursUntilSeen 15 (.invokevirtual 129) 3 18 := ⟨by decide +kernel, rfl⟩
theorem d_PM_hoursUntilSeen_18 : DI M_PM_hoursUntilSeen 18 (.iload_n 2) 1 19 := ⟨by decide +kernel, rfl⟩
theorem d_PM_hoursUntilSeen_19 : DI M_PM_hoursUntilSeen 19 (.invokestatic 193) 3 22 := ⟨by decide +kernel, rfl⟩
theorem d_PM_hoursUntilSeen_22 : DJ M_PM_hoursUntilSeen 22 (.ifCond .eq 5) 5 3 25 27 := ⟨by decide +kernel, rfl, rfl⟩
theorem d_PM_hoursUntilSeen_25 : DI M_PM_hoursUntilSeen 25 (.iload_n 3) 1 26 := ⟨by decide +kernel, rfl⟩
theorem d_PM_hoursUntilSeen_26 : DI M_PM_hoursUntilSeen 26 (.ireturn) 1 27 := ⟨by decide +kernel, rfl⟩
theorem d_PM_hoursUntilSeen_27 : DI M_PM_hoursUntilSeen 27 (.iinc 3 1) 3 30 := ⟨by decide +kernel, rfl⟩
theorem d_PM_hoursUntilSeen_30 : DJ M_PM_hoursUntilSeen 30 (.goto (-28)) (-28) 3 33 2 := ⟨by decide +kernel, rfl, rfl⟩
theorem d_PM_hoursUntilSeen_33 : DI M_PM_hoursUntilSeen 33 (.bipush (-9)) 2 35 := ⟨by decide +kernel, rfl⟩
theorem d_PM_hoursUntilSeen_35 : DI M_PM_hoursUntilSeen 35 (.ireturn) 1 36 := ⟨by decide +kernel, rfl⟩
theorem d_PM_canBeDone_0 : DI M_PM_canBeDone 0 (.iload_n 1) 1 1 := ⟨by decide +kernel, rfl⟩
theorem d_PM_canBeDone_1 : DI M_PM_canBeDone 1 (.bipush 10) 2 3 := ⟨by decide +kernel, rfl⟩
theorem d_PM_canBeDone_3 : DI M_PM_canBeDone 3 (.idiv) 1 4 := ⟨by decide +kernel, rfl⟩
theorem d_PM_canBeDone_4 : DI M_PM_canBeDone 4 (.bipush 10) 2 6 := ⟨by decide +kernel, rfl⟩
theorem d_PM_canBeDone_6 : DI M_PM_canBeDone 6 (.irem) 1 7 := ⟨by decide +kernel, rfl⟩
theorem d_PM_canBeDone_7 : DI M_PM_canBeDone 7 (.istore_n 2) 1 8 := ⟨by decide +kernel, rfl⟩
theorem d_PM_canBeDone_8 : DI M_PM_canBeDone 8 (.iload_n 1) 1 9 := ⟨by decide +kernel, rfl⟩
theorem d_PM_canBeDone_9 : DI M_PM_canBeDone 9 (.bipush 10) 2 11 := ⟨by decide +kernel, rfl⟩
theorem d_PM_canBeDone_11 : DI M_PM_canBeDone 11 (.irem) 1 12 := ⟨by decide +kernel, rfl⟩
theorem d_PM_canBeDone_12 : DI M_PM_canBeDone 12 (.istore_n 3) 1 13 := ⟨by decide +kernel, rfl⟩
theorem d_PM_canBeDone_13 : DI M_PM_canBeDone 13 (.iload_n 1) 1 14 := ⟨by decide +kernel, rfl⟩
theorem d_PM_canBeDone_14 : DI M_PM_canBeDone 14 (.bipush 100) 2 16 := ⟨by decide +kernel, rfl⟩
theorem d_PM_canBeDone_16 : DI M_PM_canBeDone 16 (.idiv) 1 17 := ⟨by decide +kernel, rfl⟩
theorem d_PM_canBeDone_17 : decode M_PM_canBeDone.2.1 17 = .ok (.tableswitch 176 1 4 #[31, 69, 117, 137], 31) := by decide +kernel
theorem d_PM_canBeDone_48 : DI M_PM_canBeDone 48 (.aload_n 0) 1 49 := ⟨by decide +kernel, rfl⟩
theorem d_PM_canBeDone_49 : DI M_PM_canBeDone 49 (.getfield 19) 3 52 := ⟨by decide +kernel, rfl⟩
theorem d_PM_canBeDone_52 : DI M_PM_canBeDone 52 (.iload_n 2) 1 53 := ⟨by decide +kernel, rfl⟩
theorem d_PM_canBeDone_53 : DI M_PM_canBeDone 53 (.invokevirtual 133) 3 56 := ⟨by decide +kernel, rfl⟩
theorem d_PM_canBeDone_56 : DJ M_PM_canBeDone 56 (.ifCond .eq 8) 8 3 59 64 := ⟨by decide +kernel, rfl, rfl⟩
theorem d_PM_canBeDone_59 : DI M_PM_canBeDone 59 (.iload_n 3) 1 60 := ⟨by decide +kernel, rfl⟩
theorem d_PM_canBeDone_60 : DI M_PM_canBeDone 60 (.iconst 1) 1 61 := ⟨by decide +kernel, rfl⟩
theorem d_PM_canBeDone_61 : DJ M_PM_canBeDone 61 (.if_icmp .le 5) 5 3 64 66 := ⟨by decide +kernel, rfl, rfl⟩
theorem d_PM_canBeDone_64 : DI M_PM_canBeDone 64 (.iconst 0) 1 65 := ⟨by decide +kernel, rfl⟩
theorem d_PM_canBeDone_65 : DI M_PM_canBeDone 65 (.ireturn) 1 66 := ⟨by decide +kernel, rfl⟩
theorem d_PM_canBeDone_66 : DI M_PM_canBeDone 66 (.aload_n 0) 1 67 := ⟨by decide +kernel, rfl⟩
theorem d_PM_canBeDone_67 : DI M_PM_canBeDone 67 (.getfield 33) 3 70 := ⟨by decide +kernel, rfl⟩
theorem d_PM_canBeDone_70 : DI M_PM_canBeDone 70 (.iload_n 2) 1 71 := ⟨by decide +kernel, rfl⟩
theorem d_PM_canBeDone_71 : DI M_PM_canBeDone 71 (.iload_n 3) 1 72 := ⟨by decide +kernel, rfl⟩
theorem d_PM_canBeDone_72 : DI M_PM_canBeDone 72 (.iconst 1) 1 73 := ⟨by decide +kernel, rfl⟩
theorem d_PM_canBeDone_73 : DJ M_PM_canBeDone 73 (.if_icmp .ne 7) 7 3 76 80 := ⟨by decide +kernel, rfl, rfl⟩
theorem d_PM_canBeDone_76 : DI M_PM_canBeDone 76 (.iconst 1) 1 77 := ⟨by decide +kernel, rfl⟩
theorem d_PM_canBeDone_77 : DJ M_PM_canBeDone 77 (.goto 4) 4 3 80 81 := ⟨by decide +kernel, rfl, rfl⟩
theorem d_PM_canBeDone_80 : DI M_PM_canBeDone 80 (.iconst (-1)) 1 81 := ⟨by decide +kernel, rfl⟩
theorem d_PM_canBeDone_81 : DI M_PM_canBeDone 81 (.invokevirtual 166) 3 84 := ⟨by decide +kernel, rfl⟩
theorem d_PM_canBeDone_84 : DI M_PM_canBeDone 84 (.iconst 1) 1 85 := ⟨by decide +kernel, rfl⟩
theorem d_PM_canBeDone_85 : DI M_PM_canBeDone 85 (.ireturn) 1 86 := ⟨by decide +kernel, rfl⟩
theorem d_PM_canBeDone_86 : DI M_PM_canBeDone 86 (.aload_n 0) 1 87 := ⟨by decide +kernel, rfl⟩
theorem d_PM_canBeDone_87 : DI M_PM_canBeDone 87 (.getfield 19) 3 90 := ⟨by decide +kernel, rfl⟩
theorem d_PM_canBeDone_90 : DI M_PM_canBeDone 90 (.iload_n 2) 1 91 := ⟨by decide +kernel, rfl⟩
theorem d_PM_canBeDone_91 : DI M_PM_canBeDone 91 (.invokevirtual 133) 3 94 := ⟨by decide +kernel, rfl⟩
theorem d_PM_canBeDone_94 : DJ M_PM_canBeDone 94 (.ifCond .eq 27) 27 3 97 121 := ⟨by decide +kernel, rfl, rfl⟩
theorem d_PM_canBeDone_97 : DI M_PM_canBeDone 97 (.aload_n 0) 1 98 := ⟨by decide +kernel, rfl⟩
theorem d_PM_canBeDone_98 : DI M_PM_canBeDone 98 (.getfield 19) 3 101 := ⟨by decide +kernel, rfl⟩
theorem d_PM_canBeDone_101 : DI M_PM_canBeDone 101 (.iload_n 3) 1 102 := ⟨by decide +kernel, rfl⟩
theorem d_PM_canBeDone_102 : DI M_PM_canBeDone 102 (.invokevirtual 119) 3 105 := ⟨by decide +kernel, rfl⟩
theorem d_PM_canBeDone_105 : DJ M_PM_canBeDone 105 (.ifCond .eq 16) 16 3 108 121 := ⟨by decide +kernel, rfl, rfl⟩
theorem d_PM_canBeDone_108 : DI M_PM_canBeDone 108 (.aload_n 0) 1 109 := ⟨by decide +kernel, rfl⟩
theorem d_PM_canBeDone_109 : DI M_PM_canBeDone 109 (.getfield 33) 3 112 := ⟨by decide +kernel, rfl⟩
theorem d_PM_canBeDone_112 : DI M_PM_canBeDone 112 (.getfield 148) 3 115 := ⟨by decide +kernel, rfl⟩
theorem d_PM_canBeDone_115 : DI M_PM_canBeDone 115 (.iload_n 2) 1 116 := ⟨by decide +kernel, rfl⟩
theorem d_PM_canBeDone_116 : DI M_PM_canBeDone 116 (.iaload) 1 117 := ⟨by decide +kernel, rfl⟩
theorem d_PM_canBeDone_117 : DI M_PM_canBeDone 117 (.iload_n 3) 1 118 := ⟨by decide +kernel, rfl⟩
theorem d_PM_canBeDone_118 : DJ M_PM_canBeDone 118 (.if_icmp .ne 5) 5 3 121 123 := ⟨by decide +kernel, rfl, rfl⟩
theorem d_PM_canBeDone_121 : DI M_PM_canBeDone 121 (.iconst 0) 1 122 := ⟨by decide +kernel, rfl⟩
theorem d_PM_canBeDone_122 : DI M_PM_canBeDone 122 (.ireturn) 1 123 := ⟨by decide +kernel, rfl⟩
theorem d_PM_canBeDone_123 : DI M_PM_canBeDone 123 (.aload_n 0) 1 124 := ⟨by decide +kernel, rfl⟩
theorem d_PM_canBeDone_124 : DI M_PM_canBeDone 124 (.getfield 33) 3 127 := ⟨by decide +kernel, rfl⟩
theorem d_PM_canBeDone_127 : DI M_PM_canBeDone 127 (.iload_n 2) 1 128 := ⟨by decide +kernel, rfl⟩
theorem d_PM_canBeDone_128 : DI M_PM_canBeDone 128 (.iload_n 3) 1 129 := ⟨by decide +kernel, rfl⟩
theorem d_PM_canBeDone_129 : DI M_PM_canBeDone 129 (.invokevirtual 287) 3 132 := ⟨by decide +kernel, rfl⟩
theorem d_PM_canBeDone_132 : DI M_PM_canBeDone 132 (.iconst 1) 1 133 := ⟨by decide +kernel, rfl⟩
theorem d_PM_canBeDone_133 : DI M_PM_canBeDone 133 (.ireturn) 1 134 := ⟨by decide +kernel, rfl⟩
theorem d_PM_canBeDone_134 : DI M_PM_canBeDone 134 (.iload_n 2) 1 135 := ⟨by decide +kernel, rfl⟩
theorem d_PM_canBeDone_135 : DJ M_PM_canBeDone 135 (.ifCond .ne 7) 7 3 138 142 := ⟨by decide +kernel, rfl, rfl⟩
theorem d_PM_canBeDone_138 : DI M_PM_canBeDone 138 (.iload_n 3) 1 139 := ⟨by decide +kernel, rfl⟩
theorem d_PM_canBeDone_139 : DJ M_PM_canBeDone 139 (.ifCond .eq 5) 5 3 142 144 := ⟨by decide +kernel, rfl, rfl⟩
theorem d_PM_canBeDone_142 : DI M_PM_canBeDone 142 (.iconst 0) 1 143 := ⟨by decide +kernel, rfl⟩
theorem d_PM_canBeDone_143 : DI M_PM_canBeDone 143 (.ireturn) 1 144 := ⟨by decide +kernel, rfl⟩
theorem d_PM_canBeDone_144 : DI M_PM_canBeDone 144 (.aload_n 0) 1 145 := ⟨by decide +kernel, rfl⟩
theorem d_PM_canBeDone_145 : DI M_PM_canBeDone 145 (.getfield 33) 3 148 := ⟨by decide +kernel, rfl⟩
theorem d_PM_canBeDone_148 : DI M_PM_canBeDone 148 (.iconst 1) 1 149 := ⟨by decide +kernel, rfl⟩
theorem d_PM_canBeDone_149 : DI M_PM_canBeDone 149 (.invokevirtual 173) 3 152 := ⟨by decide +kernel, rfl⟩
theorem d_PM_canBeDone_152 : DI M_PM_canBeDone 152 (.iconst 1) 1 153 := ⟨by decide +kernel, rfl⟩
theorem d_PM_canBeDone_153 : DI M_PM_canBeDone 153 (.ireturn) 1 154 := ⟨by decide +kernel, rfl⟩
theorem d_PM_canBeDone_154 : DI M_PM_canBeDone 154 (.aload_n 0) 1 155 := ⟨by decide +kernel, rfl⟩
theorem d_PM_canBeDone_155 : DI M_PM_canBeDone 155 (.getfield 19) 3 158 := ⟨by decide +kernel, rfl⟩
theorem d_PM_canBeDone_158 : DI M_PM_canBeDone 158 (.iload_n 2) 1 159 := ⟨by decide +kernel, rfl⟩
theorem d_PM_canBeDone_159 : DI M_PM_canBeDone 159 (.invokevirtual 119) 3 162 := ⟨by decide +kernel, rfl⟩
theorem d_PM_canBeDone_162 : DJ M_PM_canBeDone 162 (.ifCond .eq 29) 29 3 165 191 := ⟨by decide +kernel, rfl, rfl⟩
theorem d_PM_canBeDone_165 : DI M_PM_canBeDone 165 (.iload_n 3) 1 166 := ⟨by decide +kernel, rfl⟩
theorem d_PM_canBeDone_166 : DI M_PM_canBeDone 166 (.iconst 5) 1 167 := ⟨by decide +kernel, rfl⟩
theorem d_PM_canBeDone_167 : DJ M_PM_canBeDone 167 (.if_icmp .ge 24) 24 3 170 191 := ⟨by decide +kernel, rfl, rfl⟩
theorem d_PM_canBeDone_170 : DI M_PM_canBeDone 170 (.aload_n 0) 1 171 := ⟨by decide +kernel, rfl⟩
theorem d_PM_canBeDone_171 : DI M_PM_canBeDone 171 (.aload_n 0) 1 172 := ⟨by decide +kernel, rfl⟩
theorem d_PM_canBeDone_172 : DI M_PM_canBeDone 172 (.getfield 33) 3 175 := ⟨by decide +kernel, rfl⟩
theorem d_PM_canBeDone_175 : DI M_PM_canBeDone 175 (.iload_n 2) 1 176 := ⟨by decide +kernel, rfl⟩
theorem d_PM_canBeDone_176 : DI M_PM_canBeDone 176 (.iconst 0) 1 177 := ⟨by decide +kernel, rfl⟩
theorem d_PM_canBeDone_177 : DI M_PM_canBeDone 177 (.invokevirtual 129) 3 180 := ⟨by decide +kernel, rfl⟩
theorem d_PM_canBeDone_180 : DI M_PM_canBeDone 180 (.iload_n 3) 1 181 := ⟨by decide +kernel, rfl⟩
theorem d_PM_canBeDone_181 : DI M_PM_canBeDone 181 (.invokestatic 193) 3 184 := ⟨by decide +kernel, rfl⟩
theorem d_PM_canBeDone_184 : DJ M_PM_canBeDone 184 (.ifCond .eq 7) 7 3 187 191 := ⟨by decide +kernel, rfl, rfl⟩
theorem d_PM_canBeDone_187 : DI M_PM_canBeDone 187 (.iconst 1) 1 188 := ⟨by decide +kernel, rfl⟩
theorem d_PM_canBeDone_188 : DJ M_PM_canBeDone 188 (.goto 4) 4 3 191 192 := ⟨by decide +kernel, rfl, rfl⟩
theorem d_PM_canBeDone_191 : DI M_PM_canBeDone 191 (.iconst 0) 1 192 := ⟨by decide +kernel, rfl⟩
theorem d_PM_canBeDone_192 : DI M_PM_canBeDone 192 (.ireturn) 1 193 := ⟨by decide +kernel, rfl⟩
theorem d_PM_canBeDone_193 : DI M_PM_canBeDone 193 (.iconst 0) 1 194 := ⟨by decide +kernel, rfl⟩
theorem d_PM_canBeDone_194 : DI M_PM_canBeDone 194 (.ireturn) 1 195 := ⟨by decide +kernel, rfl⟩
theorem d_PM_tryGivings_0 : DI M_PM_tryGivings 0 (.iload_n 2) 1 1 := ⟨by decide +kernel, rfl⟩
theorem d_PM_tryGivings_1 : DI M_PM_tryGivings 1 (.invokestatic 268) 3 4 := ⟨by decide +kernel, rfl⟩
theorem d_PM_tryGivings_4 : DI M_PM_tryGivings 4 (.istore 4) 2 6 := ⟨by decide +kernel, rfl⟩
theorem d_PM_tryGivings_6 : DI M_PM_tryGivings 6 (.iload_n 1) 1 7 := ⟨by decide +kernel, rfl⟩
theorem d_PM_tryGivings_7 : DI M_PM_tryGivings 7 (.bipush 6) 2 9 := ⟨by decide +kernel, rfl⟩
theorem d_PM_tryGivings_9 : DJ M_PM_tryGivings 9 (.if_icmp .gt 19) 19 3 12 28 := ⟨by decide +kernel, rfl, rfl⟩
theorem d_PM_tryGivings_12 : DI M_PM_tryGivings 12 (.iload 4) 2 14 := ⟨by decide +kernel, rfl⟩
theorem d_PM_tryGivings_14 : DI M_PM_tryGivings 14 (.aload_n 0) 1 15 := ⟨by decide +kernel, rfl⟩
theorem d_PM_tryGivings_15 : DI M_PM_tryGivings 15 (.getfield 290) 3 18 := ⟨by decide +kernel, rfl⟩
theorem d_PM_tryGivings_18 : DI M_PM_tryGivings 18 (.iload_n 1) 1 19 := ⟨by decide +kernel, rfl⟩
theorem d_PM_tryGivings_19 : DI M_PM_tryGivings 19 (.iaload) 1 20 := ⟨by decide +kernel, rfl⟩
theorem d_PM_tryGivings_20 : DI M_PM_tryGivings 20 (.iadd) 1 21 := ⟨by decide +kernel, rfl⟩
theorem d_PM_tryGivings_21 : DI M_PM_tryGivings 21 (.aload_n 0) 1 22 := ⟨by decide +kernel, rfl⟩
theorem d_PM_tryGivings_22 : DI M_PM_tryGivings 22 (.getfield 215) 3 25 := ⟨by decide +kernel, rfl⟩
theorem d_PM_tryGivings_25 : DJ M_PM_tryGivings 25 (.if_icmp .gt 4) 4 3 28 29 := ⟨by decide +kernel, rfl, rfl⟩
theorem d_PM_tryGivings_28 : DI M_PM_tryGivings 28 (.return_) 1 29 := ⟨by decide +kernel, rfl⟩
theorem d_PM_tryGivings_29 : DI M_PM_tryGivings 29 (.iload_n 1) 1 30 := ⟨by decide +kernel, rfl⟩
theorem d_PM_tryGivings_30 : DI M_PM_tryGivings 30 (.aload_n 0) 1 31 := ⟨by decide +kernel, rfl⟩
theorem d_PM_tryGivings_31 : DI M_PM_tryGivings 31 (.getfield 293) 3 34 := ⟨by decide +kernel, rfl⟩
theorem d_PM_tryGivings_34 : DJ M_PM_tryGivings 34 (.if_icmp .ge 9) 9 3 37 43 := ⟨by decide +kernel, rfl, rfl⟩
theorem d_PM_tryGivings_37 : DI M_PM_tryGivings 37 (.iload_n 1) 1 38 := ⟨by decide +kernel, rfl⟩
theorem d_PM_tryGivings_38 : DI M_PM_tryGivings 38 (.bipush 6) 2 40 := ⟨by decide +kernel, rfl⟩
theorem d_PM_tryGivings_40 : DJ M_PM_tryGivings 40 (.if_icmp .lt 15) 15 3 43 55 := ⟨by decide +kernel, rfl, rfl⟩
theorem d_PM_tryGivings_43 : DI M_PM_tryGivings 43 (.aload_n 0) 1 44 := ⟨by decide +kernel, rfl⟩
theorem d_PM_tryGivings_44 : DI M_PM_tryGivings 44 (.iload 4) 2 46 := ⟨by decide +kernel, rfl⟩
theorem d_PM_tryGivings_46 : DI M_PM_tryGivings 46 (.putfield 215) 3 49 := ⟨by decide +kernel, rfl⟩
theorem d_PM_tryGivings_49 : DI M_PM_tryGivings 49 (.aload_n 0) 1 50 := ⟨by decide +kernel, rfl⟩
theorem d_PM_tryGivings_50 : DI M_PM_tryGivings 50 (.iload_n 3) 1 51 := ⟨by decide +kernel, rfl⟩
theorem d_PM_tryGivings_51 : DI M_PM_tryGivings 51 (.putfield 212) 3 54 := ⟨by decide +kernel, rfl⟩
theorem d_PM_tryGivings_54 : DI M_PM_tryGivings 54 (.return_) 1 55 := ⟨by decide +kernel, rfl⟩
theorem d_PM_tryGivings_55 : DI M_PM_tryGivings 55 (.iconst 0) 1 56 := ⟨by decide +kernel, rfl⟩
theorem d_PM_tryGivings_56 : DI M_PM_tryGivings 56 (.istore 5) 2 58 := ⟨by decide +kernel, rfl⟩
theorem d_PM_tryGivings_58 : DI M_PM_tryGivings 58 (.iload 5) 2 60 := ⟨by decide +kernel, rfl⟩
theorem d_PM_tryGivings_60 : DI M_PM_tryGivings 60 (.aload_n 0) 1 61 := ⟨by decide +kernel, rfl⟩
theorem d_PM_tryGivings_61 : DI M_PM_tryGivings 61 (.getfield 294) 3 64 := ⟨by decide +kernel, rfl⟩
theorem d_PM_tryGivings_64 : DJ M_PM_tryGivings 64 (.if_icmp .ge 62) 62 3 67 126 := ⟨by decide +kernel, rfl, rfl⟩
theorem d_PM_tryGivings_67 : DI M_PM_tryGivings 67 (.aload_n 0) 1 68 := ⟨by decide +kernel, rfl⟩
theorem d_PM_tryGivings_68 : DI M_PM_tryGivings 68 (.getfield 295) 3 71 := ⟨by decide +kernel, rfl⟩
theorem d_PM_tryGivings_71 : DI M_PM_tryGivings 71 (.iload_n 1) 1 72 := ⟨by decide +kernel, rfl⟩
theorem d_PM_tryGivings_72 : DI M_PM_tryGivings 72 (.iaload) 1 73 := ⟨by decide +kernel, rfl⟩
theorem d_PM_tryGivings_73 : DI M_PM_tryGivings 73 (.iload 5) 2 75 := ⟨by decide +kernel, rfl⟩
theorem d_PM_tryGivings_75 : DI M_PM_tryGivings 75 (.invokestatic 193) 3 78 := ⟨by decide +kernel, rfl⟩
theorem d_PM_tryGivings_78 : DJ M_PM_tryGivings 78 (.ifCond .eq 19) 19 3 81 97 := ⟨by decide +kernel, rfl, rfl⟩
theorem d_PM_tryGivings_81 : DI M_PM_tryGivings 81 (.iconst 1) 1 82 := ⟨by decide +kernel, rfl⟩
theorem d_PM_tryGivings_82 : DI M_PM_tryGivings 82 (.iconst 5) 1 83 := ⟨by decide +kernel, rfl⟩
theorem d_PM_tryGivings_83 : DI M_PM_tryGivings 83 (.iload 5) 2 85 := ⟨by decide +kernel, rfl⟩
theorem d_PM_tryGivings_85 : DI M_PM_tryGivings 85 (.imul) 1 86 := ⟨by decide +kernel, rfl⟩
theorem d_PM_tryGivings_86 : DI M_PM_tryGivings 86 (.aload_n 0) 1 87 := ⟨by decide +kernel, rfl⟩
theorem d_PM_tryGivings_87 : DI M_PM_tryGivings 87 (.getfield 298) 3 90 := ⟨by decide +kernel, rfl⟩
theorem d_PM_tryGivings_90 : DI M_PM_tryGivings 90 (.iload_n 1) 1 91 := ⟨by decide +kernel, rfl⟩
theorem d_PM_tryGivings_91 : DI M_PM_tryGivings 91 (.iaload) 1 92 := ⟨by decide +kernel, rfl⟩
theorem d_PM_tryGivings_92 : DI M_PM_tryGivings 92 (.iadd) 1 93 := ⟨by decide +kernel, rfl⟩
theorem d_PM_tryGivings_93 : DI M_PM_tryGivings 93 (.ishl) 1 94 := ⟨by decide +kernel, rfl⟩
theorem d_PM_tryGivings_94 : DJ M_PM_tryGivings 94 (.goto 4) 4 3 97 98 := ⟨by decide +kernel, rfl, rfl⟩
theorem d_PM_tryGivings_97 : DI M_PM_tryGivings 97 (.iconst 0) 1 98 := ⟨by decide +kernel, rfl⟩
theorem d_PM_tryGivings_98 : DI M_PM_tryGivings 98 (.istore 6) 2 100 := ⟨by decide +kernel, rfl⟩
theorem d_PM_tryGivings_100 : DI M_PM_tryGivings 100 (.aload_n 0) 1 101 := ⟨by decide +kernel, rfl⟩
theorem d_PM_tryGivings_101 : DI M_PM_tryGivings 101 (.iload_n 1) 1 102 := ⟨by decide +kernel, rfl⟩
theorem d_PM_tryGivings_102 : DI M_PM_tryGivings 102 (.iconst 1) 1 103 := ⟨by decide +kernel, rfl⟩
theorem d_PM_tryGivings_103 : DI M_PM_tryGivings 103 (.iadd) 1 104 := ⟨by decide +kernel, rfl⟩
theorem d_PM_tryGivings_104 : DI M_PM_tryGivings 104 (.iload_n 2) 1 105 := ⟨by decide +kernel, rfl⟩
theorem d_PM_tryGivings_105 : DI M_PM_tryGivings 105 (.iload 6) 2 107 := ⟨by decide +kernel, rfl⟩
theorem d_PM_tryGivings_107 : DI M_PM_tryGivings 107 (.ior) 1 108 := ⟨by decide +kernel, rfl⟩
theorem d_PM_tryGivings_108 : DI M_PM_tryGivings 108 (.bipush 10) 2 110 := ⟨by decide +kernel, rfl⟩
theorem d_PM_tryGivings_110 : DI M_PM_tryGivings 110 (.iload_n 3) 1 111 := ⟨by decide +kernel, rfl⟩
theorem d_PM_tryGivings_111 : DI M_PM_tryGivings 111 (.imul) 1 112 := ⟨by decide +kernel, rfl⟩
theorem d_PM_tryGivings_112 : DI M_PM_tryGivings 112 (.iload 5) 2 114 := ⟨by decide +kernel, rfl⟩
theorem d_PM_tryGivings_114 : DI M_PM_tryGivings 114 (.iadd) 1 115 := ⟨by decide +kernel, rfl⟩
theorem d_PM_tryGivings_115 : DI M_PM_tryGivings 115 (.iconst 1) 1 116 := ⟨by decide +kernel, rfl⟩
theorem d_PM_tryGivings_116 : DI M_PM_tryGivings 116 (.iadd) 1 117 := ⟨by decide +kernel, rfl⟩
theorem d_PM_tryGivings_117 : DI M_PM_tryGivings 117 (.invokestatic 208) 3 120 := ⟨by decide +kernel, rfl⟩
theorem d_PM_tryGivings_120 : DI M_PM_tryGivings 120 (.iinc 5 1) 3 123 := ⟨by decide +kernel, rfl⟩
theorem d_PM_tryGivings_123 : DJ M_PM_tryGivings 123 (.goto (-65)) (-65) 3 126 58 := ⟨by decide +kernel, rfl, rfl⟩
theorem d_PM_tryGivings_126 : DI M_PM_tryGivings 126 (.return_) 1 127 := ⟨by decide +kernel, rfl⟩
theorem d_PM_worth_0 : DI M_PM_worth 0 (.aload_n 0) 1 1 := ⟨by decide +kernel, rfl⟩
theorem d_PM_worth_1 : DI M_PM_worth 1 (.aload_n 0) 1 2 := ⟨by decide +kernel, rfl⟩
theorem d_PM_worth_2 : DI M_PM_worth 2 (.getfield 29) 3 5 := ⟨by decide +kernel, rfl⟩
theorem d_PM_worth_5 : DI M_PM_worth 5 (.iload_n 1) 1 6 := ⟨by decide +kernel, rfl⟩
theorem d_PM_worth_6 : DI M_PM_worth 6 (.iload_n 2) 1 7 := ⟨by decide +kernel, rfl⟩
theorem d_PM_worth_7 : DI M_PM_worth 7 (.iload 4) 2 9 := ⟨by decide +kernel, rfl⟩
theorem d_PM_worth_9 : DI M_PM_worth 9 (.invokevirtual 154) 3 12 := ⟨by decide +kernel, rfl⟩
theorem d_PM_worth_12 : DJ M_PM_worth 12 (.ifCond .eq 7) 7 3 15 19 := ⟨by decide +kernel, rfl, rfl⟩
theorem d_PM_worth_15 : DI M_PM_worth 15 (.iconst 2) 1 16 := ⟨by decide +kernel, rfl⟩
theorem d_PM_worth_16 : DJ M_PM_worth 16 (.goto 4) 4 3 19 20 := ⟨by decide +kernel, rfl, rfl⟩
theorem d_PM_worth_19 : DI M_PM_worth 19 (.iconst 0) 1 20 := ⟨by decide +kernel, rfl⟩
theorem d_PM_worth_20 : DI M_PM_worth 20 (.iload_n 3) 1 21 := ⟨by decide +kernel, rfl⟩
theorem d_PM_worth_21 : DI M_PM_worth 21 (.isub) 1 22 := ⟨by decide +kernel, rfl⟩
theorem d_PM_worth_22 : DI M_PM_worth 22 (.ireturn) 1 23 := ⟨by decide +kernel, rfl⟩
theorem d_PM_staysWith_0 : DI M_PM_staysWith 0 (.iconst 1) 1 1 := ⟨by decide +kernel, rfl⟩
theorem d_PM_staysWith_1 : DI M_PM_staysWith 1 (.iload_n 3) 1 2 := ⟨by decide +kernel, rfl⟩
theorem d_PM_staysWith_2 : DI M_PM_staysWith 2 (.isub) 1 3 := ⟨by decide +kernel, rfl⟩
theorem d_PM_staysWith_3 : DI M_PM_staysWith 3 (.istore 5) 2 5 := ⟨by decide +kernel, rfl⟩
theorem d_PM_staysWith_5 : DI M_PM_staysWith 5 (.aload_n 0) 1 6 := ⟨by decide +kernel, rfl⟩
theorem d_PM_staysWith_6 : DI M_PM_staysWith 6 (.iload_n 1) 1 7 := ⟨by decide +kernel, rfl⟩
theorem d_PM_staysWith_7 : DI M_PM_staysWith 7 (.iload_n 2) 1 8 := ⟨by decide +kernel, rfl⟩
theorem d_PM_staysWith_8 : DI M_PM_staysWith 8 (.iload_n 3) 1 9 := ⟨by decide +kernel, rfl⟩
theorem d_PM_staysWith_9 : DI M_PM_staysWith 9 (.iload_n 3) 1 10 := ⟨by decide +kernel, rfl⟩
theorem d_PM_staysWith_10 : DI M_PM_staysWith 10 (.iload 4) 2 12 := ⟨by decide +kernel, rfl⟩
theorem d_PM_staysWith_12 : DI M_PM_staysWith 12 (.iadd) 1 13 := ⟨by decide +kernel, rfl⟩
theorem d_PM_staysWith_13 : DI M_PM_staysWith 13 (.invokevirtual 299) 3 16 := ⟨by decide +kernel, rfl⟩
theorem d_PM_staysWith_16 : DI M_PM_staysWith 16 (.aload_n 0) 1 17 := ⟨by decide +kernel, rfl⟩
theorem d_PM_staysWith_17 : DI M_PM_staysWith 17 (.iload_n 1) 1 18 := ⟨by decide +kernel, rfl⟩
theorem d_PM_staysWith_18 : DI M_PM_staysWith 18 (.iload_n 2) 1 19 := ⟨by decide +kernel, rfl⟩
theorem d_PM_staysWith_19 : DI M_PM_staysWith 19 (.iload 5) 2 21 := ⟨by decide +kernel, rfl⟩
theorem d_PM_staysWith_21 : DI M_PM_staysWith 21 (.iload 5) 2 23 := ⟨by decide +kernel, rfl⟩
theorem d_PM_staysWith_23 : DI M_PM_staysWith 23 (.iload 4) 2 25 := ⟨by decide +kernel, rfl⟩
theorem d_PM_staysWith_25 : DI M_PM_staysWith 25 (.iadd) 1 26 := ⟨by decide +kernel, rfl⟩
theorem d_PM_staysWith_26 : DI M_PM_staysWith 26 (.invokevirtual 299) 3 29 := ⟨by decide +kernel, rfl⟩
theorem d_PM_staysWith_29 : DJ M_PM_staysWith 29 (.if_icmp .lt 7) 7 3 32 36 := ⟨by decide +kernel, rfl, rfl⟩
theorem d_PM_staysWith_32 : DI M_PM_staysWith 32 (.iconst 1) 1 33 := ⟨by decide +kernel, rfl⟩
theorem d_PM_staysWith_33 : DJ M_PM_staysWith 33 (.goto 4) 4 3 36 37 := ⟨by decide +kernel, rfl, rfl⟩
theorem d_PM_staysWith_36 : DI M_PM_staysWith 36 (.iconst 0) 1 37 := ⟨by decide +kernel, rfl⟩
theorem d_PM_staysWith_37 : DI M_PM_staysWith 37 (.ireturn) 1 38 := ⟨by decide +kernel, rfl⟩
theorem d_PM_spreadChances_0 : DI M_PM_spreadChances 0 (.iconst 1) 1 1 := ⟨by decide +kernel, rfl⟩
theorem d_PM_spreadChances_1 : DI M_PM_spreadChances 1 (.istore_n 3) 1 2 := ⟨by decide +kernel, rfl⟩
theorem d_PM_spreadChances_2 : DI M_PM_spreadChances 2 (.aload_n 0) 1 3 := ⟨by decide +kernel, rfl⟩
theorem d_PM_spreadChances_3 : DI M_PM_spreadChances 3 (.getfield 72) 3 6 := ⟨by decide +kernel, rfl⟩
theorem d_PM_spreadChances_6 : DI M_PM_spreadChances 6 (.iconst 0) 1 7 := ⟨by decide +kernel, rfl⟩
theorem d_PM_spreadChances_7 : DI M_PM_spreadChances 7 (.iconst 1) 1 8 := ⟨by decide +kernel, rfl⟩
theorem d_PM_spreadChances_8 : DI M_PM_spreadChances 8 (.iastore) 1 9 := ⟨by decide +kernel, rfl⟩
theorem d_PM_spreadChances_9 : DI M_PM_spreadChances 9 (.iconst 1) 1 10 := ⟨by decide +kernel, rfl⟩
theorem d_PM_spreadChances_10 : DI M_PM_spreadChances 10 (.istore 4) 2 12 := ⟨by decide +kernel, rfl⟩
theorem d_PM_spreadChances_12 : DI M_PM_spreadChances 12 (.iload 4) 2 14 := ⟨by decide +kernel, rfl⟩
theorem d_PM_spreadChances_14 : DI M_PM_spreadChances 14 (.iload_n 1) 1 15 := ⟨by decide +kernel, rfl⟩
theorem d_PM_spreadChances_15 : DJ M_PM_spreadChances 15 (.if_icmp .gt 81) 81 3 18 96 := ⟨by decide +kernel, rfl, rfl⟩
theorem d_PM_spreadChances_18 : DI M_PM_spreadChances 18 (.iload_n 3) 1 19 := ⟨by decide +kernel, rfl⟩
theorem d_PM_spreadChances_19 : DI M_PM_spreadChances 19 (.bipush 10) 2 21 := ⟨by decide +kernel, rfl⟩
theorem d_PM_spreadChances_21 : DI M_PM_spreadChances 21 (.imul) 1 22 := ⟨by decide +kernel, rfl⟩
theorem d_PM_spreadChances_22 : DI M_PM_spreadChances 22 (.istore_n 3) 1 23 := ⟨by decide +kernel, rfl⟩
theorem d_PM_spreadChances_23 : DI M_PM_spreadChances 23 (.aload_n 0) 1 24 := ⟨by decide +kernel, rfl⟩
theorem d_PM_spreadChances_24 : DI M_PM_spreadChances 24 (.getfield 72) 3 27 := ⟨by decide +kernel, rfl⟩
theorem d_PM_spreadChances_27 : DI M_PM_spreadChances 27 (.iload 4) 2 29 := ⟨by decide +kernel, rfl⟩
theorem d_PM_spreadChances_29 : DI M_PM_spreadChances 29 (.iconst 0) 1 30 := ⟨by decide +kernel, rfl⟩
theorem d_PM_spreadChances_30 : DI M_PM_spreadChances 30 (.iastore) 1 31 := ⟨by decide +kernel, rfl⟩
theorem d_PM_spreadChances_31 : DI M_PM_spreadChances 31 (.iload 4) 2 33 := ⟨by decide +kernel, rfl⟩
theorem d_PM_spreadChances_33 : DI M_PM_spreadChances 33 (.istore 5) 2 35 := ⟨by decide +kernel, rfl⟩
theorem d_PM_spreadChances_35 : DI M_PM_spreadChances 35 (.iload 5) 2 37 := ⟨by decide +kernel, rfl⟩
theorem d_PM_spreadChances_37 : DJ M_PM_spreadChances 37 (.ifCond .le 40) 40 3 40 77 := ⟨by decide +kernel, rfl, rfl⟩
theorem d_PM_spreadChances_40 : DI M_PM_spreadChances 40 (.aload_n 0) 1 41 := ⟨by decide +kernel, rfl⟩
theorem d_PM_spreadChances_41 : DI M_PM_spreadChances 41 (.getfield 72) 3 44 := ⟨by decide +kernel, rfl⟩
theorem d_PM_spreadChances_44 : DI M_PM_spreadChances 44 (.iload 5) 2 46 := ⟨by decide +kernel, rfl⟩
theorem d_PM_spreadChances_46 : DI M_PM_spreadChances 46 (.aload_n 0) 1 47 := ⟨by decide +kernel, rfl⟩
theorem d_PM_spreadChances_47 : DI M_PM_spreadChances 47 (.getfield 72) 3 50 := ⟨by decide +kernel, rfl⟩
theorem d_PM_spreadChances_50 : DI M_PM_spreadChances 50 (.iload 5) 2 52 := ⟨by decide +kernel, rfl⟩
theorem d_PM_spreadChances_52 : DI M_PM_spreadChances 52 (.iaload) 1 53 := ⟨by decide +kernel, rfl⟩
theorem d_PM_spreadChances_53 : DI M_PM_spreadChances 53 (.bipush 10) 2 55 := ⟨by decide +kernel, rfl⟩
theorem d_PM_spreadChances_55 : DI M_PM_spreadChances 55 (.iload_n 2) 1 56 := ⟨by decide +kernel, rfl⟩
theorem d_PM_spreadChances_56 : DI M_PM_spreadChances 56 (.isub) 1 57 := ⟨by decide +kernel, rfl⟩
theorem d_PM_spreadChances_57 : DI M_PM_spreadChances 57 (.imul) 1 58 := ⟨by decide +kernel, rfl⟩
theorem d_PM_spreadChances_58 : DI M_PM_spreadChances 58 (.aload_n 0) 1 59 := ⟨by decide +kernel, rfl⟩
theorem d_PM_spreadChances_59 : DI M_PM_spreadChances 59 (.getfield 72) 3 62 := ⟨by decide +kernel, rfl⟩
theorem d_PM_spreadChances_62 : DI M_PM_spreadChances 62 (.iload 5) 2 64 := ⟨by decide +kernel, rfl⟩
theorem d_PM_spreadChances_64 : DI M_PM_spreadChances 64 (.iconst 1) 1 65 := ⟨by decide +kernel, rfl⟩
theorem d_PM_spreadChances_65 : DI M_PM_spreadChances 65 (.isub) 1 66 := ⟨by decide +kernel, rfl⟩
theorem d_PM_spreadChances_66 : DI M_PM_spreadChances 66 (.iaload) 1 67 := ⟨by decide +kernel, rfl⟩
theorem d_PM_spreadChances_67 : DI M_PM_spreadChances 67 (.iload_n 2) 1 68 := ⟨by decide +kernel, rfl⟩
theorem d_PM_spreadChances_68 : DI M_PM_spreadChances 68 (.imul) 1 69 := ⟨by decide +kernel, rfl⟩
theorem d_PM_spreadChances_69 : DI M_PM_spreadChances 69 (.iadd) 1 70 := ⟨by decide +kernel, rfl⟩
theorem d_PM_spreadChances_70 : DI M_PM_spreadChances 70 (.iastore) 1 71 := ⟨by decide +kernel, rfl⟩
theorem d_PM_spreadChances_71 : DI M_PM_spreadChances 71 (.iinc 5 (-1)) 3 74 := ⟨by decide +kernel, rfl⟩
theorem d_PM_spreadChances_74 : DJ M_PM_spreadChances 74 (.goto (-39)) (-39) 3 77 35 := ⟨by decide +kernel, rfl, rfl⟩
theorem d_PM_spreadChances_77 : DI M_PM_spreadChances 77 (.aload_n 0) 1 78 := ⟨by decide +kernel, rfl⟩
theorem d_PM_spreadChances_78 : DI M_PM_spreadChances 78 (.getfield 72) 3 81 := ⟨by decide +kernel, rfl⟩
theorem d_PM_spreadChances_81 : DI M_PM_spreadChances 81 (.iconst 0) 1 82 := ⟨by decide +kernel, rfl⟩
theorem d_PM_spreadChances_82 : DI M_PM_spreadChances 82 (.dup2) 1 83 := ⟨by decide +kernel, rfl⟩
theorem d_PM_spreadChances_83 : DI M_PM_spreadChances 83 (.iaload) 1 84 := ⟨by decide +kernel, rfl⟩
theorem d_PM_spreadChances_84 : DI M_PM_spreadChances 84 (.bipush 10) 2 86 := ⟨by decide +kernel, rfl⟩
theorem d_PM_spreadChances_86 : DI M_PM_spreadChances 86 (.iload_n 2) 1 87 := ⟨by decide +kernel, rfl⟩
theorem d_PM_spreadChances_87 : DI M_PM_spreadChances 87 (.isub) 1 88 := ⟨by decide +kernel, rfl⟩
theorem d_PM_spreadChances_88 : DI M_PM_spreadChances 88 (.imul) 1 89 := ⟨by decide +kernel, rfl⟩
theorem d_PM_spreadChances_89 : DI M_PM_spreadChances 89 (.iastore) 1 90 := ⟨by decide +kernel, rfl⟩
theorem d_PM_spreadChances_90 : DI M_PM_spreadChances 90 (.iinc 4 1) 3 93 := ⟨by decide +kernel, rfl⟩
theorem d_PM_spreadChances_93 : DJ M_PM_spreadChances 93 (.goto (-81)) (-81) 3 96 12 := ⟨by decide +kernel, rfl, rfl⟩
theorem d_PM_spreadChances_96 : DI M_PM_spreadChances 96 (.iload_n 3) 1 97 := ⟨by decide +kernel, rfl⟩
theorem d_PM_spreadChances_97 : DI M_PM_spreadChances 97 (.ireturn) 1 98 := ⟨by decide +kernel, rfl⟩
theorem d_PM_befall_0 : DI M_PM_befall 0 (.iload_n 1) 1 1 := ⟨by decide +kernel, rfl⟩
theorem d_PM_befall_1 : DI M_PM_befall 1 (.bipush 12) 2 3 := ⟨by decide +kernel, rfl⟩
theorem d_PM_befall_3 : DJ M_PM_befall 3 (.if_icmp .lt 14) 14 3 6 17 := ⟨by decide +kernel, rfl, rfl⟩
theorem d_PM_befall_6 : DI M_PM_befall 6 (.aload_n 0) 1 7 := ⟨by decide +kernel, rfl⟩
theorem d_PM_befall_7 : DI M_PM_befall 7 (.getfield 33) 3 10 := ⟨by decide +kernel, rfl⟩
theorem d_PM_befall_10 : DI M_PM_befall 10 (.iconst 1) 1 11 := ⟨by decide +kernel, rfl⟩
theorem d_PM_befall_11 : DI M_PM_befall 11 (.invokevirtual 173) 3 14 := ⟨by decide +kernel, rfl⟩
theorem d_PM_befall_14 : DJ M_PM_befall 14 (.goto 38) 38 3 17 52 := ⟨by decide +kernel, rfl, rfl⟩
theorem d_PM_befall_17 : DI M_PM_befall 17 (.aload_n 0) 1 18 := ⟨by decide +kernel, rfl⟩
theorem d_PM_befall_18 : DI M_PM_befall 18 (.getfield 19) 3 21 := ⟨by decide +kernel, rfl⟩
theorem d_PM_befall_21 : DI M_PM_befall 21 (.iload_n 1) 1 22 := ⟨by decide +kernel, rfl⟩
theorem d_PM_befall_22 : DI M_PM_befall 22 (.iconst 2) 1 23 := ⟨by decide +kernel, rfl⟩
theorem d_PM_befall_23 : DI M_PM_befall 23 (.idiv) 1 24 := ⟨by decide +kernel, rfl⟩
theorem d_PM_befall_24 : DI M_PM_befall 24 (.invokevirtual 133) 3 27 := ⟨by decide +kernel, rfl⟩
theorem d_PM_befall_27 : DJ M_PM_befall 27 (.ifCond .eq 25) 25 3 30 52 := ⟨by decide +kernel, rfl, rfl⟩
theorem d_PM_befall_30 : DI M_PM_befall 30 (.aload_n 0) 1 31 := ⟨by decide +kernel, rfl⟩
theorem d_PM_befall_31 : DI M_PM_befall 31 (.getfield 33) 3 34 := ⟨by decide +kernel, rfl⟩
theorem d_PM_befall_34 : DI M_PM_befall 34 (.iload_n 1) 1 35 := ⟨by decide +kernel, rfl⟩
theorem d_PM_befall_35 : DI M_PM_befall 35 (.iconst 2) 1 36 := ⟨by decide +kernel, rfl⟩
theorem d_PM_befall_36 : DI M_PM_befall 36 (.idiv) 1 37 := ⟨by decide +kernel, rfl⟩
theorem d_PM_befall_37 : DI M_PM_befall 37 (.iload_n 1) 1 38 := ⟨by decide +kernel, rfl⟩
theorem d_PM_befall_38 : DI M_PM_befall 38 (.iconst 2) 1 39 := ⟨by decide +kernel, rfl⟩
theorem d_PM_befall_39 : DI M_PM_befall 39 (.irem) 1 40 := ⟨by decide +kernel, rfl⟩
theorem d_PM_befall_40 : DI M_PM_befall 40 (.iconst 1) 1 41 := ⟨by decide +kernel, rfl⟩
theorem d_PM_befall_41 : DJ M_PM_befall 41 (.if_icmp .ne 7) 7 3 44 48 := ⟨by decide +kernel, rfl, rfl⟩
theorem d_PM_befall_44 : DI M_PM_befall 44 (.iconst 1) 1 45 := ⟨by decide +kernel, rfl⟩
theorem d_PM_befall_45 : DJ M_PM_befall 45 (.goto 4) 4 3 48 49 := ⟨by decide +kernel, rfl, rfl⟩
theorem d_PM_befall_48 : DI M_PM_befall 48 (.iconst (-1)) 1 49 := ⟨by decide +kernel, rfl⟩
theorem d_PM_befall_49 : DI M_PM_befall 49 (.invokevirtual 166) 3 52 := ⟨by decide +kernel, rfl⟩
theorem d_PM_befall_52 : DI M_PM_befall 52 (.return_) 1 53 := ⟨by decide +kernel, rfl⟩
theorem d_Ac_init_0 : DI M_Ac_init 0 (.aload_n 0) 1 1 := ⟨by decide +kernel, rfl⟩
theorem d_Ac_init_1 : DI M_Ac_init 1 (.invokespecial 3) 3 4 := ⟨by decide +kernel, rfl⟩
theorem d_Ac_init_4 : DI M_Ac_init 4 (.aload_n 0) 1 5 := ⟨by decide +kernel, rfl⟩
theorem d_Ac_init_5 : DI M_Ac_init 5 (.bipush 14) 2 7 := ⟨by decide +kernel, rfl⟩
theorem d_Ac_init_7 : DI M_Ac_init 7 (.newarray .int) 2 9 := ⟨by decide +kernel, rfl⟩
theorem d_Ac_init_9 : DI M_Ac_init 9 (.putfield 9) 3 12 := ⟨by decide +kernel, rfl⟩
theorem d_Ac_init_12 : DI M_Ac_init 12 (.return_) 1 13 := ⟨by decide +kernel, rfl⟩
theorem d_Ac_add_0 : DI M_Ac_add 0 (.aload_n 0) 1 1 := ⟨by decide +kernel, rfl⟩
theorem d_Ac_add_1 : DI M_Ac_add 1 (.getfield 15) 3 4 := ⟨by decide +kernel, rfl⟩
theorem d_Ac_add_4 : DI M_Ac_add 4 (.bipush 14) 2 6 := ⟨by decide +kernel, rfl⟩
theorem d_Ac_add_6 : DJ M_Ac_add 6 (.if_icmp .lt 24) 24 3 9 30 := ⟨by decide +kernel, rfl, rfl⟩
theorem d_Ac_add_9 : DI M_Ac_add 9 (.aload_n 0) 1 10 := ⟨by decide +kernel, rfl⟩
theorem d_Ac_add_10 : DI M_Ac_add 10 (.getfield 9) 3 13 := ⟨by decide +kernel, rfl⟩
theorem d_Ac_add_13 : DI M_Ac_add 13 (.iconst 1) 1 14 := ⟨by decide +kernel, rfl⟩
theorem d_Ac_add_14 : DI M_Ac_add 14 (.aload_n 0) 1 15 := ⟨by decide +kernel, rfl⟩
theorem d_Ac_add_15 : DI M_Ac_add 15 (.getfield 9) 3 18 := ⟨by decide +kernel, rfl⟩
theorem d_Ac_add_18 : DI M_Ac_add 18 (.iconst 0) 1 19 := ⟨by decide +kernel, rfl⟩
theorem d_Ac_add_19 : DI M_Ac_add 19 (.bipush 13) 2 21 := ⟨by decide +kernel, rfl⟩
theorem d_Ac_add_21 : DI M_Ac_add 21 (.invokestatic 19) 3 24 := ⟨by decide +kernel, rfl⟩
theorem d_Ac_add_24 : DI M_Ac_add 24 (.aload_n 0) 1 25 := ⟨by decide +kernel, rfl⟩
theorem d_Ac_add_25 : DI M_Ac_add 25 (.bipush 13) 2 27 := ⟨by decide +kernel, rfl⟩
theorem d_Ac_add_27 : DI M_Ac_add 27 (.putfield 15) 3 30 := ⟨by decide +kernel, rfl⟩
theorem d_Ac_add_30 : DI M_Ac_add 30 (.aload_n 0) 1 31 := ⟨by decide +kernel, rfl⟩
theorem d_Ac_add_31 : DI M_Ac_add 31 (.getfield 9) 3 34 := ⟨by decide +kernel, rfl⟩
theorem d_Ac_add_34 : DI M_Ac_add 34 (.aload_n 0) 1 35 := ⟨by decide +kernel, rfl⟩
theorem d_Ac_add_35 : DI M_Ac_add 35 (.getfield 15) 3 38 := ⟨by decide +kernel, rfl⟩
theorem d_Ac_add_38 : DI M_Ac_add 38 (.bipush 100) 2 40 := ⟨by decide +kernel, rfl⟩
theorem d_Ac_add_40 : DI M_Ac_add 40 (.iload_n 1) 1 41 := ⟨by decide +kernel, rfl⟩
theorem d_Ac_add_41 : DI M_Ac_add 41 (.imul) 1 42 := ⟨by decide +kernel, rfl⟩
theorem d_Ac_add_42 : DI M_Ac_add 42 (.bipush 10) 2 44 := ⟨by decide +kernel, rfl⟩
theorem d_Ac_add_44 : DI M_Ac_add 44 (.iload_n 2) 1 45 := ⟨by decide +kernel, rfl⟩
theorem d_Ac_add_45 : DI M_Ac_add 45 (.imul) 1 46 := ⟨by decide +kernel, rfl⟩
theorem d_Ac_add_46 : DI M_Ac_add 46 (.iadd) 1 47 := ⟨by decide +kernel, rfl⟩
theorem d_Ac_add_47 : DI M_Ac_add 47 (.iload_n 3) 1 48 := ⟨by decide +kernel, rfl⟩
theorem d_Ac_add_48 : DI M_Ac_add 48 (.iadd) 1 49 := ⟨by decide +kernel, rfl⟩
theorem d_Ac_add_49 : DI M_Ac_add 49 (.iastore) 1 50 := ⟨by decide +kernel, rfl⟩
theorem d_Ac_add_50 : DI M_Ac_add 50 (.aload_n 0) 1 51 := ⟨by decide +kernel, rfl⟩
theorem d_Ac_add_51 : DI M_Ac_add 51 (.dup) 1 52 := ⟨by decide +kernel, rfl⟩
theorem d_Ac_add_52 : DI M_Ac_add 52 (.getfield 15) 3 55 := ⟨by decide +kernel, rfl⟩
theorem d_Ac_add_55 : DI M_Ac_add 55 (.iconst 1) 1 56 := ⟨by decide +kernel, rfl⟩
theorem d_Ac_add_56 : DI M_Ac_add 56 (.iadd) 1 57 := ⟨by decide +kernel, rfl⟩
theorem d_Ac_add_57 : DI M_Ac_add 57 (.putfield 15) 3 60 := ⟨by decide +kernel, rfl⟩
theorem d_Ac_add_60 : DI M_Ac_add 60 (.return_) 1 61 := ⟨by decide +kernel, rfl⟩
theorem d_Ac_removeLast_0 : DI M_Ac_removeLast 0 (.aload_n 0) 1 1 := ⟨by decide +kernel, rfl⟩
theorem d_Ac_removeLast_1 : DI M_Ac_removeLast 1 (.getfield 15) 3 4 := ⟨by decide +kernel, rfl⟩
theorem d_Ac_removeLast_4 : DJ M_Ac_removeLast 4 (.ifCond .gt 5) 5 3 7 9 := ⟨by decide +kernel, rfl, rfl⟩
theorem d_Ac_removeLast_7 : DI M_Ac_removeLast 7 (.iconst 0) 1 8 := ⟨by decide +kernel, rfl⟩
theorem d_Ac_removeLast_8 : DI M_Ac_removeLast 8 (.ireturn) 1 9 := ⟨by decide +kernel, rfl⟩
theorem d_Ac_removeLast_9 : DI M_Ac_removeLast 9 (.aload_n 0) 1 10 := ⟨by decide +kernel, rfl⟩
theorem d_Ac_removeLast_10 : DI M_Ac_removeLast 10 (.dup) 1 11 := ⟨by decide +kernel, rfl⟩
theorem d_Ac_removeLast_11 : DI M_Ac_removeLast 11 (.getfield 15) 3 14 := ⟨by decide +kernel, rfl⟩
theorem d_Ac_removeLast_14 : DI M_Ac_removeLast 14 (.iconst 1) 1 15 := ⟨by decide +kernel, rfl⟩
theorem d_Ac_removeLast_15 : DI M_Ac_removeLast 15 (.isub) 1 16 := ⟨by decide +kernel, rfl⟩
theorem d_Ac_removeLast_16 : DI M_Ac_removeLast 16 (.putfield 15) 3 19 := ⟨by decide +kernel, rfl⟩
theorem d_Ac_removeLast_19 : DI M_Ac_removeLast 19 (.aload_n 0) 1 20 := ⟨by decide +kernel, rfl⟩
theorem d_Ac_removeLast_20 : DI M_Ac_removeLast 20 (.getfield 9) 3 23 := ⟨by decide +kernel, rfl⟩
theorem d_Ac_removeLast_23 : DI M_Ac_removeLast 23 (.aload_n 0) 1 24 := ⟨by decide +kernel, rfl⟩
theorem d_Ac_removeLast_24 : DI M_Ac_removeLast 24 (.getfield 15) 3 27 := ⟨by decide +kernel, rfl⟩
theorem d_Ac_removeLast_27 : DI M_Ac_removeLast 27 (.iaload) 1 28 := ⟨by decide +kernel, rfl⟩
theorem d_Ac_removeLast_28 : DI M_Ac_removeLast 28 (.ireturn) 1 29 := ⟨by decide +kernel, rfl⟩
theorem d_Co_init_0 : DI M_Co_init 0 (.aload_n 0) 1 1 := ⟨by decide +kernel, rfl⟩
theorem d_Co_init_1 : DI M_Co_init 1 (.invokespecial 3) 3 4 := ⟨by decide +kernel, rfl⟩
theorem d_Co_init_4 : DI M_Co_init 4 (.aload_n 0) 1 5 := ⟨by decide +kernel, rfl⟩
theorem d_Co_init_5 : DI M_Co_init 5 (.iconst 4) 1 6 := ⟨by decide +kernel, rfl⟩
theorem d_Co_init_6 : DI M_Co_init 6 (.newarray .int) 2 8 := ⟨by decide +kernel, rfl⟩
theorem d_Co_init_8 : DI M_Co_init 8 (.putfield 9) 3 11 := ⟨by decide +kernel, rfl⟩
theorem d_Co_init_11 : DI M_Co_init 11 (.aload_n 0) 1 12 := ⟨by decide +kernel, rfl⟩
theorem d_Co_init_12 : DI M_Co_init 12 (.bipush 6) 2 14 := ⟨by decide +kernel, rfl⟩
theorem d_Co_init_14 : DI M_Co_init 14 (.newarray .int) 2 16 := ⟨by decide +kernel, rfl⟩
theorem d_Co_init_16 : DI M_Co_init 16 (.putfield 15) 3 19 := ⟨by decide +kernel, rfl⟩
theorem d_Co_init_19 : DI M_Co_init 19 (.aload_n 0) 1 20 := ⟨by decide +kernel, rfl⟩
theorem d_Co_init_20 : DI M_Co_init 20 (.bipush 6) 2 22 := ⟨by decide +kernel, rfl⟩
theorem d_Co_init_22 : DI M_Co_init 22 (.newarray .int) 2 24 := ⟨by decide +kernel, rfl⟩
theorem d_Co_init_24 : DI M_Co_init 24 (.putfield 18) 3 27 := ⟨by decide +kernel, rfl⟩
theorem d_Co_init_27 : DI M_Co_init 27 (.aload_n 0) 1 28 := ⟨by decide +kernel, rfl⟩
theorem d_Co_init_28 : DI M_Co_init 28 (.bipush 6) 2 30 := ⟨by decide +kernel, rfl⟩
theorem d_Co_init_30 : DI M_Co_init 30 (.newarray .int) 2 32 := ⟨by decide +kernel, rfl⟩
theorem d_Co_init_32 : DI M_Co_init 32 (.putfield 21) 3 35 := ⟨by decide +kernel, rfl⟩
theorem d_Co_init_35 : DI M_Co_init 35 (.aload_n 0) 1 36 := ⟨by decide +kernel, rfl⟩
theorem d_Co_init_36 : DI M_Co_init 36 (.bipush 6) 2 38 := ⟨by decide +kernel, rfl⟩
theorem d_Co_init_38 : DI M_Co_init 38 (.newarray .int) 2 40 := ⟨by decide +kernel, rfl⟩
theorem d_Co_init_40 : DI M_Co_init 40 (.putfield 24) 3 43 := ⟨by decide +kernel, rfl⟩
theorem d_Co_init_43 : DI M_Co_init 43 (.return_) 1 44 := ⟨by decide +kernel, rfl⟩
theorem d_Co_hasHolder_0 : DI M_Co_hasHolder 0 (.iload_n 1) 1 1 := ⟨by decide +kernel, rfl⟩
theorem d_Co_hasHolder_1 : DI M_Co_hasHolder 1 (.aload_n 0) 1 2 := ⟨by decide +kernel, rfl⟩
theorem d_Co_hasHolder_2 : DI M_Co_hasHolder 2 (.getfield 27) 3 5 := ⟨by decide +kernel, rfl⟩
theorem d_Co_hasHolder_5 : DI M_Co_hasHolder 5 (.invokestatic 31) 3 8 := ⟨by decide +kernel, rfl⟩
theorem d_Co_hasHolder_8 : DI M_Co_hasHolder 8 (.ireturn) 1 9 := ⟨by decide +kernel, rfl⟩
theorem d_Co_hasPiece_0 : DI M_Co_hasPiece 0 (.iload_n 1) 1 1 := ⟨by decide +kernel, rfl⟩
theorem d_Co_hasPiece_1 : DI M_Co_hasPiece 1 (.aload_n 0) 1 2 := ⟨by decide +kernel, rfl⟩
theorem d_Co_hasPiece_2 : DI M_Co_hasPiece 2 (.getfield 35) 3 5 := ⟨by decide +kernel, rfl⟩
theorem d_Co_hasPiece_5 : DI M_Co_hasPiece 5 (.invokestatic 31) 3 8 := ⟨by decide +kernel, rfl⟩
theorem d_Co_hasPiece_8 : DI M_Co_hasPiece 8 (.ireturn) 1 9 := ⟨by decide +kernel, rfl⟩
theorem d_Co_showsAt_0 : DI M_Co_showsAt 0 (.aload_n 0) 1 1 := ⟨by decide +kernel, rfl⟩
theorem d_Co_showsAt_1 : DI M_Co_showsAt 1 (.iload_n 1) 1 2 := ⟨by decide +kernel, rfl⟩
theorem d_Co_showsAt_2 : DI M_Co_showsAt 2 (.invokevirtual 38) 3 5 := ⟨by decide +kernel, rfl⟩
theorem d_Co_showsAt_5 : DJ M_Co_showsAt 5 (.ifCond .eq 46) 46 3 8 51 := ⟨by decide +kernel, rfl, rfl⟩
theorem d_Co_showsAt_8 : DI M_Co_showsAt 8 (.aload_n 0) 1 9 := ⟨by decide +kernel, rfl⟩
theorem d_Co_showsAt_9 : DI M_Co_showsAt 9 (.iload_n 2) 1 10 := ⟨by decide +kernel, rfl⟩
theorem d_Co_showsAt_10 : DI M_Co_showsAt 10 (.invokevirtual 42) 3 13 := ⟨by decide +kernel, rfl⟩
theorem d_Co_showsAt_13 : DJ M_Co_showsAt 13 (.ifCond .eq 38) 38 3 16 51 := ⟨by decide +kernel, rfl, rfl⟩
theorem d_Co_showsAt_16 : DI M_Co_showsAt 16 (.aload_n 0) 1 17 := ⟨by decide +kernel, rfl⟩
theorem d_Co_showsAt_17 : DI M_Co_showsAt 17 (.getfield 15) 3 20 := ⟨by decide +kernel, rfl⟩
theorem d_Co_showsAt_20 : DI M_Co_showsAt 20 (.iload_n 1) 1 21 := ⟨by decide +kernel, rfl⟩
theorem d_Co_showsAt_21 : DI M_Co_showsAt 21 (.iaload) 1 22 := ⟨by decide +kernel, rfl⟩
theorem d_Co_showsAt_22 : DI M_Co_showsAt 22 (.aload_n 0) 1 23 := ⟨by decide +kernel, rfl⟩
theorem d_Co_showsAt_23 : DI M_Co_showsAt 23 (.getfield 18) 3 26 := ⟨by decide +kernel, rfl⟩
theorem d_Co_showsAt_26 : DI M_Co_showsAt 26 (.iload_n 1) 1 27 := ⟨by decide +kernel, rfl⟩
theorem d_Co_showsAt_27 : DI M_Co_showsAt 27 (.iaload) 1 28 := ⟨by decide +kernel, rfl⟩
theorem d_Co_showsAt_28 : DI M_Co_showsAt 28 (.aload_n 0) 1 29 := ⟨by decide +kernel, rfl⟩
theorem d_Co_showsAt_29 : DI M_Co_showsAt 29 (.getfield 21) 3 32 := ⟨by decide +kernel, rfl⟩
theorem d_Co_showsAt_32 : DI M_Co_showsAt 32 (.iload_n 1) 1 33 := ⟨by decide +kernel, rfl⟩
theorem d_Co_showsAt_33 : DI M_Co_showsAt 33 (.iaload) 1 34 := ⟨by decide +kernel, rfl⟩
theorem d_Co_showsAt_34 : DI M_Co_showsAt 34 (.aload_n 0) 1 35 := ⟨by decide +kernel, rfl⟩
theorem d_Co_showsAt_35 : DI M_Co_showsAt 35 (.getfield 9) 3 38 := ⟨by decide +kernel, rfl⟩
theorem d_Co_showsAt_38 : DI M_Co_showsAt 38 (.iload_n 2) 1 39 := ⟨by decide +kernel, rfl⟩
theorem d_Co_showsAt_39 : DI M_Co_showsAt 39 (.iaload) 1 40 := ⟨by decide +kernel, rfl⟩
theorem d_Co_showsAt_40 : DI M_Co_showsAt 40 (.iload_n 3) 1 41 := ⟨by decide +kernel, rfl⟩
theorem d_Co_showsAt_41 : DI M_Co_showsAt 41 (.invokestatic 45) 3 44 := ⟨by decide +kernel, rfl⟩
theorem d_Co_showsAt_44 : DJ M_Co_showsAt 44 (.ifCond .eq 7) 7 3 47 51 := ⟨by decide +kernel, rfl, rfl⟩
theorem d_Co_showsAt_47 : DI M_Co_showsAt 47 (.iconst 1) 1 48 := ⟨by decide +kernel, rfl⟩
theorem d_Co_showsAt_48 : DJ M_Co_showsAt 48 (.goto 4) 4 3 51 52 := ⟨by decide +kernel, rfl, rfl⟩
theorem d_Co_showsAt_51 : DI M_Co_showsAt 51 (.iconst 0) 1 52 := ⟨by decide +kernel, rfl⟩
theorem d_Co_showsAt_52 : DI M_Co_showsAt 52 (.ireturn) 1 53 := ⟨by decide +kernel, rfl⟩
theorem d_Co_clear_0 : DI M_Co_clear 0 (.aload_n 0) 1 1 := ⟨by decide +kernel, rfl⟩
theorem d_Co_clear_1 : DI M_Co_clear 1 (.iconst 0) 1 2 := ⟨by decide +kernel, rfl⟩
theorem d_Co_clear_2 : DI M_Co_clear 2 (.putfield 49) 3 5 := ⟨by decide +kernel, rfl⟩
theorem d_Co_clear_5 : DI M_Co_clear 5 (.aload_n 0) 1 6 := ⟨by decide +kernel, rfl⟩
theorem d_Co_clear_6 : DI M_Co_clear 6 (.iconst 0) 1 7 := ⟨by decide +kernel, rfl⟩
theorem d_Co_clear_7 : DI M_Co_clear 7 (.putfield 27) 3 10 := ⟨by decide +kernel, rfl⟩
theorem d_Co_clear_10 : DI M_Co_clear 10 (.aload_n 0) 1 11 := ⟨by decide +kernel, rfl⟩
theorem d_Co_clear_11 : DI M_Co_clear 11 (.iconst 0) 1 12 := ⟨by decide +kernel, rfl⟩
theorem d_Co_clear_12 : DI M_Co_clear 12 (.putfield 35) 3 15 := ⟨by decide +kernel, rfl⟩
theorem d_Co_clear_15 : DI M_Co_clear 15 (.return_) 1 16 := ⟨by decide +kernel, rfl⟩
theorem d_Co_take_0 : DI M_Co_take 0 (.iload_n 2) 1 1 := ⟨by decide +kernel, rfl⟩
theorem d_Co_take_1 : DI M_Co_take 1 (.bipush 48) 2 3 := ⟨by decide +kernel, rfl⟩
theorem d_Co_take_3 : DI M_Co_take 3 (.isub) 1 4 := ⟨by decide +kernel, rfl⟩
theorem d_Co_take_4 : DI M_Co_take 4 (.istore_n 3) 1 5 := ⟨by decide +kernel, rfl⟩
theorem d_Co_take_5 : DI M_Co_take 5 (.iload_n 1) 1 6 := ⟨by decide +kernel, rfl⟩
theorem d_Co_take_6 : decode M_Co_take.2.1 6 = .ok (.tableswitch 206 0 7 #[46, 58, 78, 84, 109, 131, 155, 178], 46) := by decide +kernel
theorem d_Co_take_52 : DI M_Co_take 52 (.iload_n 2) 1 53 := ⟨by decide +kernel, rfl⟩
theorem d_Co_take_53 : DI M_Co_take 53 (.bipush 80) 2 55 := ⟨by decide +kernel, rfl⟩
theorem d_Co_take_55 : DJ M_Co_take 55 (.if_icmp .ne 7) 7 3 58 62 := ⟨by decide +kernel, rfl, rfl⟩
theorem d_Co_take_58 : DI M_Co_take 58 (.iconst 1) 1 59 := ⟨by decide +kernel, rfl⟩
theorem d_Co_take_59 : DJ M_Co_take 59 (.goto 4) 4 3 62 63 := ⟨by decide +kernel, rfl, rfl⟩
theorem d_Co_take_62 : DI M_Co_take 62 (.iconst (-1)) 1 63 := ⟨by decide +kernel, rfl⟩
theorem d_Co_take_63 : DI M_Co_take 63 (.ireturn) 1 64 := ⟨by decide +kernel, rfl⟩
theorem d_Co_take_64 : DI M_Co_take 64 (.aload_n 0) 1 65 := ⟨by decide +kernel, rfl⟩
theorem d_Co_take_65 : DI M_Co_take 65 (.iload_n 3) 1 66 := ⟨by decide +kernel, rfl⟩
theorem d_Co_take_66 : DI M_Co_take 66 (.putfield 49) 3 69 := ⟨by decide +kernel, rfl⟩
theorem d_Co_take_69 : DI M_Co_take 69 (.iload_n 3) 1 70 := ⟨by decide +kernel, rfl⟩
theorem d_Co_take_70 : DI M_Co_take 70 (.bipush 8) 2 72 := ⟨by decide +kernel, rfl⟩
theorem d_Co_take_72 : DI M_Co_take 72 (.invokestatic 31) 3 75 := ⟨by decide +kernel, rfl⟩
theorem d_Co_take_75 : DJ M_Co_take 75 (.ifCond .eq 7) 7 3 78 82 := ⟨by decide +kernel, rfl, rfl⟩
theorem d_Co_take_78 : DI M_Co_take 78 (.iconst 2) 1 79 := ⟨by decide +kernel, rfl⟩
theorem d_Co_take_79 : DJ M_Co_take 79 (.goto 4) 4 3 82 83 := ⟨by decide +kernel, rfl, rfl⟩
theorem d_Co_take_82 : DI M_Co_take 82 (.iconst (-1)) 1 83 := ⟨by decide +kernel, rfl⟩
theorem d_Co_take_83 : DI M_Co_take 83 (.ireturn) 1 84 := ⟨by decide +kernel, rfl⟩
theorem d_Co_take_84 : DI M_Co_take 84 (.aload_n 0) 1 85 := ⟨by decide +kernel, rfl⟩
theorem d_Co_take_85 : DI M_Co_take 85 (.iload_n 2) 1 86 := ⟨by decide +kernel, rfl⟩
theorem d_Co_take_86 : DI M_Co_take 86 (.invokevirtual 52) 3 89 := ⟨by decide +kernel, rfl⟩
theorem d_Co_take_89 : DI M_Co_take 89 (.ireturn) 1 90 := ⟨by decide +kernel, rfl⟩
theorem d_Co_take_90 : DI M_Co_take 90 (.aload_n 0) 1 91 := ⟨by decide +kernel, rfl⟩
theorem d_Co_take_91 : DI M_Co_take 91 (.getfield 9) 3 94 := ⟨by decide +kernel, rfl⟩
theorem d_Co_take_94 : DI M_Co_take 94 (.aload_n 0) 1 95 := ⟨by decide +kernel, rfl⟩
theorem d_Co_take_95 : DI M_Co_take 95 (.getfield 27) 3 98 := ⟨by decide +kernel, rfl⟩
theorem d_Co_take_98 : DI M_Co_take 98 (.iload_n 3) 1 99 := ⟨by decide +kernel, rfl⟩
theorem d_Co_take_99 : DI M_Co_take 99 (.iconst 4) 1 100 := ⟨by decide +kernel, rfl⟩
theorem d_Co_take_100 : DI M_Co_take 100 (.invokestatic 56) 3 103 := ⟨by decide +kernel, rfl⟩
theorem d_Co_take_103 : DJ M_Co_take 103 (.ifCond .eq 10) 10 3 106 113 := ⟨by decide +kernel, rfl, rfl⟩
theorem d_Co_take_106 : DI M_Co_take 106 (.aload_n 0) 1 107 := ⟨by decide +kernel, rfl⟩
theorem d_Co_take_107 : DI M_Co_take 107 (.invokevirtual 60) 3 110 := ⟨by decide +kernel, rfl⟩
theorem d_Co_take_110 : DJ M_Co_take 110 (.goto 4) 4 3 113 114 := ⟨by decide +kernel, rfl, rfl⟩
theorem d_Co_take_113 : DI M_Co_take 113 (.iconst (-1)) 1 114 := ⟨by decide +kernel, rfl⟩
theorem d_Co_take_114 : DI M_Co_take 114 (.ireturn) 1 115 := ⟨by decide +kernel, rfl⟩
theorem d_Co_take_115 : DI M_Co_take 115 (.aload_n 0) 1 116 := ⟨by decide +kernel, rfl⟩
theorem d_Co_take_116 : DI M_Co_take 116 (.getfield 15) 3 119 := ⟨by decide +kernel, rfl⟩
theorem d_Co_take_119 : DI M_Co_take 119 (.aload_n 0) 1 120 := ⟨by decide +kernel, rfl⟩
theorem d_Co_take_120 : DI M_Co_take 120 (.getfield 35) 3 123 := ⟨by decide +kernel, rfl⟩
theorem d_Co_take_123 : DI M_Co_take 123 (.iload_n 3) 1 124 := ⟨by decide +kernel, rfl⟩
theorem d_Co_take_124 : DI M_Co_take 124 (.iconst 5) 1 125 := ⟨by decide +kernel, rfl⟩
theorem d_Co_take_125 : DI M_Co_take 125 (.invokestatic 56) 3 128 := ⟨by decide +kernel, rfl⟩
theorem d_Co_take_128 : DJ M_Co_take 128 (.ifCond .eq 7) 7 3 131 135 := ⟨by decide +kernel, rfl, rfl⟩
theorem d_Co_take_131 : DI M_Co_take 131 (.iconst 5) 1 132 := ⟨by decide +kernel, rfl⟩
theorem d_Co_take_132 : DJ M_Co_take 132 (.goto 4) 4 3 135 136 := ⟨by decide +kernel, rfl, rfl⟩
theorem d_Co_take_135 : DI M_Co_take 135 (.iconst (-1)) 1 136 := ⟨by decide +kernel, rfl⟩
theorem d_Co_take_136 : DI M_Co_take 136 (.ireturn) 1 137 := ⟨by decide +kernel, rfl⟩
theorem d_Co_take_137 : DI M_Co_take 137 (.aload_n 0) 1 138 := ⟨by decide +kernel, rfl⟩
theorem d_Co_take_138 : DI M_Co_take 138 (.getfield 18) 3 141 := ⟨by decide +kernel, rfl⟩
theorem d_Co_take_141 : DI M_Co_take 141 (.aload_n 0) 1 142 := ⟨by decide +kernel, rfl⟩
theorem d_Co_take_142 : DI M_Co_take 142 (.getfield 35) 3 145 := ⟨by decide +kernel, rfl⟩
theorem d_Co_take_145 : DI M_Co_take 145 (.iload_n 3) 1 146 := ⟨by decide +kernel, rfl⟩
theorem d_Co_take_146 : DI M_Co_take 146 (.bipush 8) 2 148 := ⟨by decide +kernel, rfl⟩
theorem d_Co_take_148 : DI M_Co_take 148 (.invokestatic 56) 3 151 := ⟨by decide +kernel, rfl⟩
theorem d_Co_take_151 : DJ M_Co_take 151 (.ifCond .eq 8) 8 3 154 159 := ⟨by decide +kernel, rfl, rfl⟩
theorem d_Co_take_154 : DI M_Co_take 154 (.bipush 6) 2 156 := ⟨by decide +kernel, rfl⟩
theorem d_Co_take_156 : DJ M_Co_take 156 (.goto 4) 4 3 159 160 := ⟨by decide +kernel, rfl, rfl⟩
theorem d_Co_take_159 : DI M_Co_take 159 (.iconst (-1)) 1 160 := ⟨by decide +kernel, rfl⟩
theorem d_Co_take_160 : DI M_Co_take 160 (.ireturn) 1 161 := ⟨by decide +kernel, rfl⟩
theorem d_Co_take_161 : DI M_Co_take 161 (.aload_n 0) 1 162 := ⟨by decide +kernel, rfl⟩
theorem d_Co_take_162 : DI M_Co_take 162 (.getfield 21) 3 165 := ⟨by decide +kernel, rfl⟩
theorem d_Co_take_165 : DI M_Co_take 165 (.aload_n 0) 1 166 := ⟨by decide +kernel, rfl⟩
theorem d_Co_take_166 : DI M_Co_take 166 (.getfield 35) 3 169 := ⟨by decide +kernel, rfl⟩
theorem d_Co_take_169 : DI M_Co_take 169 (.iload_n 3) 1 170 := ⟨by decide +kernel, rfl⟩
theorem d_Co_take_170 : DI M_Co_take 170 (.iconst 4) 1 171 := ⟨by decide +kernel, rfl⟩
theorem d_Co_take_171 : DI M_Co_take 171 (.invokestatic 56) 3 174 := ⟨by decide +kernel, rfl⟩
theorem d_Co_take_174 : DJ M_Co_take 174 (.ifCond .eq 8) 8 3 177 182 := ⟨by decide +kernel, rfl, rfl⟩
theorem d_Co_take_177 : DI M_Co_take 177 (.bipush 7) 2 179 := ⟨by decide +kernel, rfl⟩
theorem d_Co_take_179 : DJ M_Co_take 179 (.goto 4) 4 3 182 183 := ⟨by decide +kernel, rfl, rfl⟩
theorem d_Co_take_182 : DI M_Co_take 182 (.iconst (-1)) 1 183 := ⟨by decide +kernel, rfl⟩
theorem d_Co_take_183 : DI M_Co_take 183 (.ireturn) 1 184 := ⟨by decide +kernel, rfl⟩
theorem d_Co_take_184 : DI M_Co_take 184 (.aload_n 0) 1 185 := ⟨by decide +kernel, rfl⟩
theorem d_Co_take_185 : DI M_Co_take 185 (.getfield 24) 3 188 := ⟨by decide +kernel, rfl⟩
theorem d_Co_take_188 : DI M_Co_take 188 (.aload_n 0) 1 189 := ⟨by decide +kernel, rfl⟩
theorem d_Co_take_189 : DI M_Co_take 189 (.getfield 35) 3 192 := ⟨by decide +kernel, rfl⟩
theorem d_Co_take_192 : DI M_Co_take 192 (.iload_n 3) 1 193 := ⟨by decide +kernel, rfl⟩
theorem d_Co_take_193 : DI M_Co_take 193 (.aload_n 0) 1 194 := ⟨by decide +kernel, rfl⟩
theorem d_Co_take_194 : DI M_Co_take 194 (.getfield 27) 3 197 := ⟨by decide +kernel, rfl⟩
theorem d_Co_take_197 : DI M_Co_take 197 (.invokestatic 56) 3 200 := ⟨by decide +kernel, rfl⟩
theorem d_Co_take_200 : DJ M_Co_take 200 (.ifCond .eq 10) 10 3 203 210 := ⟨by decide +kernel, rfl, rfl⟩
theorem d_Co_take_203 : DI M_Co_take 203 (.aload_n 0) 1 204 := ⟨by decide +kernel, rfl⟩
theorem d_Co_take_204 : DI M_Co_take 204 (.invokevirtual 64) 3 207 := ⟨by decide +kernel, rfl⟩
theorem d_Co_take_207 : DJ M_Co_take 207 (.goto 4) 4 3 210 211 := ⟨by decide +kernel, rfl, rfl⟩
theorem d_Co_take_210 : DI M_Co_take 210 (.iconst (-1)) 1 211 := ⟨by decide +kernel, rfl⟩
theorem d_Co_take_211 : DI M_Co_take 211 (.ireturn) 1 212 := ⟨by decide +kernel, rfl⟩
theorem d_Co_take_212 : DI M_Co_take 212 (.iconst (-1)) 1 213 := ⟨by decide +kernel, rfl⟩
theorem d_Co_take_213 : DI M_Co_take 213 (.ireturn) 1 214 := ⟨by decide +kernel, rfl⟩
theorem d_Co_takeThing_0 : DI M_Co_takeThing 0 (.iload_n 1) 1 1 := ⟨by decide +kernel, rfl⟩
theorem d_Co_takeThing_1 : DI M_Co_takeThing 1 (.bipush 72) 2 3 := ⟨by decide +kernel, rfl⟩
theorem d_Co_takeThing_3 : DJ M_Co_takeThing 3 (.if_icmp .ne 13) 13 3 6 16 := ⟨by decide +kernel, rfl, rfl⟩
theorem d_Co_takeThing_6 : DI M_Co_takeThing 6 (.aload_n 0) 1 7 := ⟨by decide +kernel, rfl⟩
theorem d_Co_takeThing_7 : DI M_Co_takeThing 7 (.getfield 27) 3 10 := ⟨by decide +kernel, rfl⟩
theorem d_Co_takeThing_10 : DI M_Co_takeThing 10 (.iconst 4) 1 11 := ⟨by decide +kernel, rfl⟩
theorem d_Co_takeThing_11 : DJ M_Co_takeThing 11 (.if_icmp .ge 5) 5 3 14 16 := ⟨by decide +kernel, rfl, rfl⟩
theorem d_Co_takeThing_14 : DI M_Co_takeThing 14 (.iconst 3) 1 15 := ⟨by decide +kernel, rfl⟩
theorem d_Co_takeThing_15 : DI M_Co_takeThing 15 (.ireturn) 1 16 := ⟨by decide +kernel, rfl⟩
theorem d_Co_takeThing_16 : DI M_Co_takeThing 16 (.iload_n 1) 1 17 := ⟨by decide +kernel, rfl⟩
theorem d_Co_takeThing_17 : DI M_Co_takeThing 17 (.bipush 67) 2 19 := ⟨by decide +kernel, rfl⟩
theorem d_Co_takeThing_19 : DJ M_Co_takeThing 19 (.if_icmp .ne 21) 21 3 22 40 := ⟨by decide +kernel, rfl, rfl⟩
theorem d_Co_takeThing_22 : DI M_Co_takeThing 22 (.aload_n 0) 1 23 := ⟨by decide +kernel, rfl⟩
theorem d_Co_takeThing_23 : DI M_Co_takeThing 23 (.getfield 27) 3 26 := ⟨by decide +kernel, rfl⟩
theorem d_Co_takeThing_26 : DJ M_Co_takeThing 26 (.ifCond .le 14) 14 3 29 40 := ⟨by decide +kernel, rfl, rfl⟩
theorem d_Co_takeThing_29 : DI M_Co_takeThing 29 (.aload_n 0) 1 30 := ⟨by decide +kernel, rfl⟩
theorem d_Co_takeThing_30 : DI M_Co_takeThing 30 (.getfield 35) 3 33 := ⟨by decide +kernel, rfl⟩
theorem d_Co_takeThing_33 : DI M_Co_takeThing 33 (.bipush 6) 2 35 := ⟨by decide +kernel, rfl⟩
theorem d_Co_takeThing_35 : DJ M_Co_takeThing 35 (.if_icmp .ge 5) 5 3 38 40 := ⟨by decide +kernel, rfl, rfl⟩
theorem d_Co_takeThing_38 : DI M_Co_takeThing 38 (.iconst 4) 1 39 := ⟨by decide +kernel, rfl⟩
theorem d_Co_takeThing_39 : DI M_Co_takeThing 39 (.ireturn) 1 40 := ⟨by decide +kernel, rfl⟩
theorem d_Co_takeThing_40 : DI M_Co_takeThing 40 (.iconst (-1)) 1 41 := ⟨by decide +kernel, rfl⟩
theorem d_Co_takeThing_41 : DI M_Co_takeThing 41 (.ireturn) 1 42 := ⟨by decide +kernel, rfl⟩
theorem d_Co_takeFigure_0 : DI M_Co_takeFigure 0 (.iload_n 2) 1 1 := ⟨by decide +kernel, rfl⟩
theorem d_Co_takeFigure_1 : DI M_Co_takeFigure 1 (.iload_n 3) 1 2 := ⟨by decide +kernel, rfl⟩
theorem d_Co_takeFigure_2 : DI M_Co_takeFigure 2 (.invokestatic 31) 3 5 := ⟨by decide +kernel, rfl⟩
theorem d_Co_takeFigure_5 : DJ M_Co_takeFigure 5 (.ifCond .eq 12) 12 3 8 17 := ⟨by decide +kernel, rfl, rfl⟩
theorem d_Co_takeFigure_8 : DI M_Co_takeFigure 8 (.iload_n 1) 1 9 := ⟨by decide +kernel, rfl⟩
theorem d_Co_takeFigure_9 : DI M_Co_takeFigure 9 (.aload_n 0) 1 10 := ⟨by decide +kernel, rfl⟩
theorem d_Co_takeFigure_10 : DI M_Co_takeFigure 10 (.arraylength) 1 11 := ⟨by decide +kernel, rfl⟩
theorem d_Co_takeFigure_11 : DI M_Co_takeFigure 11 (.invokestatic 31) 3 14 := ⟨by decide +kernel, rfl⟩
theorem d_Co_takeFigure_14 : DJ M_Co_takeFigure 14 (.ifCond .ne 5) 5 3 17 19 := ⟨by decide +kernel, rfl, rfl⟩
theorem d_Co_takeFigure_17 : DI M_Co_takeFigure 17 (.iconst 0) 1 18 := ⟨by decide +kernel, rfl⟩
theorem d_Co_takeFigure_18 : DI M_Co_takeFigure 18 (.ireturn) 1 19 := ⟨by decide +kernel, rfl⟩
theorem d_Co_takeFigure_19 : DI M_Co_takeFigure 19 (.aload_n 0) 1 20 := ⟨by decide +kernel, rfl⟩
theorem d_Co_takeFigure_20 : DI M_Co_takeFigure 20 (.iload_n 1) 1 21 := ⟨by decide +kernel, rfl⟩
theorem d_Co_takeFigure_21 : DI M_Co_takeFigure 21 (.iload_n 2) 1 22 := ⟨by decide +kernel, rfl⟩
theorem d_Co_takeFigure_22 : DI M_Co_takeFigure 22 (.iastore) 1 23 := ⟨by decide +kernel, rfl⟩
theorem d_Co_takeFigure_23 : DI M_Co_takeFigure 23 (.iconst 1) 1 24 := ⟨by decide +kernel, rfl⟩
theorem d_Co_takeFigure_24 : DI M_Co_takeFigure 24 (.ireturn) 1 25 := ⟨by decide +kernel, rfl⟩
theorem d_Co_endHolder_0 : DI M_Co_endHolder 0 (.aload_n 0) 1 1 := ⟨by decide +kernel, rfl⟩
theorem d_Co_endHolder_1 : DI M_Co_endHolder 1 (.dup) 1 2 := ⟨by decide +kernel, rfl⟩
theorem d_Co_endHolder_2 : DI M_Co_endHolder 2 (.getfield 27) 3 5 := ⟨by decide +kernel, rfl⟩
theorem d_Co_endHolder_5 : DI M_Co_endHolder 5 (.iconst 1) 1 6 := ⟨by decide +kernel, rfl⟩
theorem d_Co_endHolder_6 : DI M_Co_endHolder 6 (.iadd) 1 7 := ⟨by decide +kernel, rfl⟩
theorem d_Co_endHolder_7 : DI M_Co_endHolder 7 (.putfield 27) 3 10 := ⟨by decide +kernel, rfl⟩
theorem d_Co_endHolder_10 : DI M_Co_endHolder 10 (.iconst 2) 1 11 := ⟨by decide +kernel, rfl⟩
theorem d_Co_endHolder_11 : DI M_Co_endHolder 11 (.ireturn) 1 12 := ⟨by decide +kernel, rfl⟩
theorem d_Co_endPiece_0 : DI M_Co_endPiece 0 (.aload_n 0) 1 1 := ⟨by decide +kernel, rfl⟩
theorem d_Co_endPiece_1 : DI M_Co_endPiece 1 (.dup) 1 2 := ⟨by decide +kernel, rfl⟩
theorem d_Co_endPiece_2 : DI M_Co_endPiece 2 (.getfield 35) 3 5 := ⟨by decide +kernel, rfl⟩
theorem d_Co_endPiece_5 : DI M_Co_endPiece 5 (.iconst 1) 1 6 := ⟨by decide +kernel, rfl⟩
theorem d_Co_endPiece_6 : DI M_Co_endPiece 6 (.iadd) 1 7 := ⟨by decide +kernel, rfl⟩
theorem d_Co_endPiece_7 : DI M_Co_endPiece 7 (.putfield 35) 3 10 := ⟨by decide +kernel, rfl⟩
theorem d_Co_endPiece_10 : DI M_Co_endPiece 10 (.iconst 2) 1 11 := ⟨by decide +kernel, rfl⟩
theorem d_Co_endPiece_11 : DI M_Co_endPiece 11 (.ireturn) 1 12 := ⟨by decide +kernel, rfl⟩
theorem d_Gi_init_0 : DI M_Gi_init 0 (.aload_n 0) 1 1 := ⟨by decide +kernel, rfl⟩
theorem d_Gi_init_1 : DI M_Gi_init 1 (.invokespecial 3) 3 4 := ⟨by decide +kernel, rfl⟩
theorem d_Gi_init_4 : DI M_Gi_init 4 (.aload_n 0) 1 5 := ⟨by decide +kernel, rfl⟩
theorem d_Gi_init_5 : DI M_Gi_init 5 (.bipush 6) 2 7 := ⟨by decide +kernel, rfl⟩
theorem d_Gi_init_7 : DI M_Gi_init 7 (.newarray .int) 2 9 := ⟨by decide +kernel, rfl⟩
theorem d_Gi_init_9 : DI M_Gi_init 9 (.putfield 9) 3 12 := ⟨by decide +kernel, rfl⟩
theorem d_Gi_init_12 : DI M_Gi_init 12 (.aload_n 0) 1 13 := ⟨by decide +kernel, rfl⟩
theorem d_Gi_init_13 : DI M_Gi_init 13 (.bipush 6) 2 15 := ⟨by decide +kernel, rfl⟩
theorem d_Gi_init_15 : DI M_Gi_init 15 (.newarray .int) 2 17 := ⟨by decide +kernel, rfl⟩
theorem d_Gi_init_17 : DI M_Gi_init 17 (.putfield 15) 3 20 := ⟨by decide +kernel, rfl⟩
theorem d_Gi_init_20 : DI M_Gi_init 20 (.aload_n 0) 1 21 := ⟨by decide +kernel, rfl⟩
theorem d_Gi_init_21 : DI M_Gi_init 21 (.bipush 7) 2 23 := ⟨by decide +kernel, rfl⟩
theorem d_Gi_init_23 : DI M_Gi_init 23 (.newarray .int) 2 25 := ⟨by decide +kernel, rfl⟩
theorem d_Gi_init_25 : DI M_Gi_init 25 (.putfield 18) 3 28 := ⟨by decide +kernel, rfl⟩
theorem d_Gi_init_28 : DI M_Gi_init 28 (.return_) 1 29 := ⟨by decide +kernel, rfl⟩
theorem d_Gi_begin_0 : DI M_Gi_begin 0 (.aload_n 0) 1 1 := ⟨by decide +kernel, rfl⟩
theorem d_Gi_begin_1 : DI M_Gi_begin 1 (.aload_n 1) 1 2 := ⟨by decide +kernel, rfl⟩
theorem d_Gi_begin_2 : DI M_Gi_begin 2 (.getfield 21) 3 5 := ⟨by decide +kernel, rfl⟩
theorem d_Gi_begin_5 : DI M_Gi_begin 5 (.putfield 27) 3 8 := ⟨by decide +kernel, rfl⟩
theorem d_Gi_begin_8 : DI M_Gi_begin 8 (.aload_n 0) 1 9 := ⟨by decide +kernel, rfl⟩
theorem d_Gi_begin_9 : DI M_Gi_begin 9 (.aload_n 1) 1 10 := ⟨by decide +kernel, rfl⟩
theorem d_Gi_begin_10 : DI M_Gi_begin 10 (.getfield 28) 3 13 := ⟨by decide +kernel, rfl⟩
theorem d_Gi_begin_13 : DI M_Gi_begin 13 (.putfield 31) 3 16 := ⟨by decide +kernel, rfl⟩
theorem d_Gi_begin_16 : DI M_Gi_begin 16 (.aload_n 0) 1 17 := ⟨by decide +kernel, rfl⟩
theorem d_Gi_begin_17 : DI M_Gi_begin 17 (.iconst (-1)) 1 18 := ⟨by decide +kernel, rfl⟩
theorem d_Gi_begin_18 : DI M_Gi_begin 18 (.putfield 32) 3 21 := ⟨by decide +kernel, rfl⟩
theorem d_Gi_begin_21 : DI M_Gi_begin 21 (.aload_n 0) 1 22 := ⟨by decide +kernel, rfl⟩
theorem d_Gi_begin_22 : DI M_Gi_begin 22 (.iconst 0) 1 23 := ⟨by decide +kernel, rfl⟩
theorem d_Gi_begin_23 : DI M_Gi_begin 23 (.putfield 35) 3 26 := ⟨by decide +kernel, rfl⟩
theorem d_Gi_begin_26 : DI M_Gi_begin 26 (.aload_n 0) 1 27 := ⟨by decide +kernel, rfl⟩
theorem d_Gi_begin_27 : DI M_Gi_begin 27 (.getfield 18) 3 30 := ⟨by decide +kernel, rfl⟩
theorem d_Gi_begin_30 : DI M_Gi_begin 30 (.bipush 6) 2 32 := ⟨by decide +kernel, rfl⟩
theorem d_Gi_begin_32 : DI M_Gi_begin 32 (.iconst 0) 1 33 := ⟨by decide +kernel, rfl⟩
theorem d_Gi_begin_33 : DI M_Gi_begin 33 (.iastore) 1 34 := ⟨by decide +kernel, rfl⟩
theorem d_Gi_begin_34 : DI M_Gi_begin 34 (.iconst 5) 1 35 := ⟨by decide +kernel, rfl⟩
theorem d_Gi_begin_35 : DI M_Gi_begin 35 (.istore_n 3) 1 36 := ⟨by decide +kernel, rfl⟩
theorem d_Gi_begin_36 : DI M_Gi_begin 36 (.iload_n 3) 1 37 := ⟨by decide +kernel, rfl⟩
theorem d_Gi_begin_37 : DJ M_Gi_begin 37 (.ifCond .lt 66) 66 3 40 103 := ⟨by decide +kernel, rfl, rfl⟩
theorem d_Gi_begin_40 : DI M_Gi_begin 40 (.aload_n 0) 1 41 := ⟨by decide +kernel, rfl⟩
theorem d_Gi_begin_41 : DI M_Gi_begin 41 (.getfield 9) 3 44 := ⟨by decide +kernel, rfl⟩
theorem d_Gi_begin_44 : DI M_Gi_begin 44 (.iload_n 3) 1 45 := ⟨by decide +kernel, rfl⟩
theorem d_Gi_begin_45 : DI M_Gi_begin 45 (.aload_n 1) 1 46 := ⟨by decide +kernel, rfl⟩
theorem d_Gi_begin_46 : DI M_Gi_begin 46 (.getfield 38) 3 49 := ⟨by decide +kernel, rfl⟩
theorem d_Gi_begin_49 : DI M_Gi_begin 49 (.iload_n 3) 1 50 := ⟨by decide +kernel, rfl⟩
theorem d_Gi_begin_50 : DI M_Gi_begin 50 (.iaload) 1 51 := ⟨by decide +kernel, rfl⟩
theorem d_Gi_begin_51 : DI M_Gi_begin 51 (.iastore) 1 52 := ⟨by decide +kernel, rfl⟩
theorem d_Gi_begin_52 : DI M_Gi_begin 52 (.aload_n 0) 1 53 := ⟨by decide +kernel, rfl⟩
theorem d_Gi_begin_53 : DI M_Gi_begin 53 (.getfield 15) 3 56 := ⟨by decide +kernel, rfl⟩
theorem d_Gi_begin_56 : DI M_Gi_begin 56 (.iload_n 3) 1 57 := ⟨by decide +kernel, rfl⟩
theorem d_Gi_begin_57 : DI M_Gi_begin 57 (.aload_n 1) 1 58 := ⟨by decide +kernel, rfl⟩
theorem d_Gi_begin_58 : DI M_Gi_begin 58 (.iload_n 3) 1 59 := ⟨by decide +kernel, rfl⟩
theorem d_Gi_begin_59 : DI M_Gi_begin 59 (.aload_n 2) 1 60 := ⟨by decide +kernel, rfl⟩
theorem d_Gi_begin_60 : DI M_Gi_begin 60 (.iload_n 3) 1 61 := ⟨by decide +kernel, rfl⟩
theorem d_Gi_begin_61 : DI M_Gi_begin 61 (.invokevirtual 39) 3 64 := ⟨by decide +kernel, rfl⟩
theorem d_Gi_begin_64 : DI M_Gi_begin 64 (.invokestatic 45) 3 67 := ⟨by decide +kernel, rfl⟩
theorem d_Gi_begin_67 : DI M_Gi_begin 67 (.iastore) 1 68 := ⟨by decide +kernel, rfl⟩
theorem d_Gi_begin_68 : DI M_Gi_begin 68 (.aload_n 0) 1 69 := ⟨by decide +kernel, rfl⟩
theorem d_Gi_begin_69 : DI M_Gi_begin 69 (.getfield 18) 3 72 := ⟨by decide +kernel, rfl⟩
theorem d_Gi_begin_72 : DI M_Gi_begin 72 (.iload_n 3) 1 73 := ⟨by decide +kernel, rfl⟩
theorem d_Gi_begin_73 : DI M_Gi_begin 73 (.aload_n 0) 1 74 := ⟨by decide +kernel, rfl⟩
theorem d_Gi_begin_74 : DI M_Gi_begin 74 (.getfield 18) 3 77 := ⟨by decide +kernel, rfl⟩
theorem d_Gi_begin_77 : DI M_Gi_begin 77 (.iload_n 3) 1 78 := ⟨by decide +kernel, rfl⟩
theorem d_Gi_begin_78 : DI M_Gi_begin 78 (.iconst 1) 1 79 := ⟨by decide +kernel, rfl⟩
theorem d_Gi_begin_79 : DI M_Gi_begin 79 (.iadd) 1 80 := ⟨by decide +kernel, rfl⟩
theorem d_Gi_begin_80 : DI M_Gi_begin 80 (.iaload) 1 81 := ⟨by decide +kernel, rfl⟩
theorem d_Gi_begin_81 : DI M_Gi_begin 81 (.aload_n 0) 1 82 := ⟨by decide +kernel, rfl⟩
theorem d_Gi_begin_82 : DI M_Gi_begin 82 (.getfield 15) 3 85 := ⟨by decide +kernel, rfl⟩
theorem d_Gi_begin_85 : DI M_Gi_begin 85 (.iload_n 3) 1 86 := ⟨by decide +kernel, rfl⟩
theorem d_Gi_begin_86 : DI M_Gi_begin 86 (.iaload) 1 87 := ⟨by decide +kernel, rfl⟩
theorem d_Gi_begin_87 : DJ M_Gi_begin 87 (.ifCond .ne 7) 7 3 90 94 := ⟨by decide +kernel, rfl, rfl⟩
theorem d_Gi_begin_90 : DI M_Gi_begin 90 (.iconst 0) 1 91 := ⟨by decide +kernel, rfl⟩
theorem d_Gi_begin_91 : DJ M_Gi_begin 91 (.goto 4) 4 3 94 95 := ⟨by decide +kernel, rfl, rfl⟩
theorem d_Gi_begin_94 : DI M_Gi_begin 94 (.iconst 1) 1 95 := ⟨by decide +kernel, rfl⟩
theorem d_Gi_begin_95 : DI M_Gi_begin 95 (.iadd) 1 96 := ⟨by decide +kernel, rfl⟩
theorem d_Gi_begin_96 : DI M_Gi_begin 96 (.iastore) 1 97 := ⟨by decide +kernel, rfl⟩
theorem d_Gi_begin_97 : DI M_Gi_begin 97 (.iinc 3 (-1)) 3 100 := ⟨by decide +kernel, rfl⟩
theorem d_Gi_begin_100 : DJ M_Gi_begin 100 (.goto (-64)) (-64) 3 103 36 := ⟨by decide +kernel, rfl, rfl⟩
theorem d_Gi_begin_103 : DI M_Gi_begin 103 (.return_) 1 104 := ⟨by decide +kernel, rfl⟩
theorem d_Gi_seersOf_0 : DI M_Gi_seersOf 0 (.iconst 0) 1 1 := ⟨by decide +kernel, rfl⟩
theorem d_Gi_seersOf_1 : DI M_Gi_seersOf 1 (.istore_n 3) 1 2 := ⟨by decide +kernel, rfl⟩
theorem d_Gi_seersOf_2 : DI M_Gi_seersOf 2 (.iconst 0) 1 3 := ⟨by decide +kernel, rfl⟩
theorem d_Gi_seersOf_3 : DI M_Gi_seersOf 3 (.istore 4) 2 5 := ⟨by decide +kernel, rfl⟩
theorem d_Gi_seersOf_5 : DI M_Gi_seersOf 5 (.iload 4) 2 7 := ⟨by decide +kernel, rfl⟩
theorem d_Gi_seersOf_7 : DI M_Gi_seersOf 7 (.aload_n 0) 1 8 := ⟨by decide +kernel, rfl⟩
theorem d_Gi_seersOf_8 : DI M_Gi_seersOf 8 (.getfield 21) 3 11 := ⟨by decide +kernel, rfl⟩
theorem d_Gi_seersOf_11 : DJ M_Gi_seersOf 11 (.if_icmp .ge 27) 27 3 14 38 := ⟨by decide +kernel, rfl, rfl⟩
theorem d_Gi_seersOf_14 : DI M_Gi_seersOf 14 (.aload_n 0) 1 15 := ⟨by decide +kernel, rfl⟩
theorem d_Gi_seersOf_15 : DI M_Gi_seersOf 15 (.iload_n 1) 1 16 := ⟨by decide +kernel, rfl⟩
theorem d_Gi_seersOf_16 : DI M_Gi_seersOf 16 (.iload 4) 2 18 := ⟨by decide +kernel, rfl⟩
theorem d_Gi_seersOf_18 : DI M_Gi_seersOf 18 (.iload_n 2) 1 19 := ⟨by decide +kernel, rfl⟩
theorem d_Gi_seersOf_19 : DI M_Gi_seersOf 19 (.invokevirtual 49) 3 22 := ⟨by decide +kernel, rfl⟩
theorem d_Gi_seersOf_22 : DJ M_Gi_seersOf 22 (.ifCond .eq 10) 10 3 25 32 := ⟨by decide +kernel, rfl, rfl⟩
theorem d_Gi_seersOf_25 : DI M_Gi_seersOf 25 (.iload_n 3) 1 26 := ⟨by decide +kernel, rfl⟩
theorem d_Gi_seersOf_26 : DI M_Gi_seersOf 26 (.iconst 1) 1 27 := ⟨by decide +kernel, rfl⟩
theorem d_Gi_seersOf_27 : DI M_Gi_seersOf 27 (.iload 4) 2 29 := ⟨by decide +kernel, rfl⟩
theorem d_Gi_seersOf_29 : DI M_Gi_seersOf 29 (.ishl) 1 30 := ⟨by decide +kernel, rfl⟩
theorem d_Gi_seersOf_30 : DI M_Gi_seersOf 30 (.ior) 1 31 := ⟨by decide +kernel, rfl⟩
theorem d_Gi_seersOf_31 : DI M_Gi_seersOf 31 (.istore_n 3) 1 32 := ⟨by decide +kernel, rfl⟩
theorem d_Gi_seersOf_32 : DI M_Gi_seersOf 32 (.iinc 4 1) 3 35 := ⟨by decide +kernel, rfl⟩
theorem d_Gi_seersOf_35 : DJ M_Gi_seersOf 35 (.goto (-30)) (-30) 3 38 5 := ⟨by decide +kernel, rfl, rfl⟩
theorem d_Gi_seersOf_38 : DI M_Gi_seersOf 38 (.iload_n 3) 1 39 := ⟨by decide +kernel, rfl⟩
theorem d_Gi_seersOf_39 : DI M_Gi_seersOf 39 (.ireturn) 1 40 := ⟨by decide +kernel, rfl⟩
theorem d_Mo_init_0 : DI M_Mo_init 0 (.aload_n 0) 1 1 := ⟨by decide +kernel, rfl⟩
theorem d_Mo_init_1 : DI M_Mo_init 1 (.invokespecial 3) 3 4 := ⟨by decide +kernel, rfl⟩
theorem d_Mo_init_4 : DI M_Mo_init 4 (.aload_n 0) 1 5 := ⟨by decide +kernel, rfl⟩
theorem d_Mo_init_5 : DI M_Mo_init 5 (.bipush 64) 2 7 := ⟨by decide +kernel, rfl⟩
theorem d_Mo_init_7 : DI M_Mo_init 7 (.newarray .boolean) 2 9 := ⟨by decide +kernel, rfl⟩
theorem d_Mo_init_9 : DI M_Mo_init 9 (.putfield 9) 3 12 := ⟨by decide +kernel, rfl⟩
theorem d_Mo_init_12 : DI M_Mo_init 12 (.aload_n 0) 1 13 := ⟨by decide +kernel, rfl⟩
theorem d_Mo_init_13 : DI M_Mo_init 13 (.bipush 64) 2 15 := ⟨by decide +kernel, rfl⟩
theorem d_Mo_init_15 : DI M_Mo_init 15 (.newarray .int) 2 17 := ⟨by decide +kernel, rfl⟩
theorem d_Mo_init_17 : DI M_Mo_init 17 (.putfield 15) 3 20 := ⟨by decide +kernel, rfl⟩
theorem d_Mo_init_20 : DI M_Mo_init 20 (.return_) 1 21 := ⟨by decide +kernel, rfl⟩
theorem d_Mo_find_0 : DI M_Mo_find 0 (.aload_n 0) 1 1 := ⟨by decide +kernel, rfl⟩
theorem d_Mo_find_1 : DI M_Mo_find 1 (.getfield 9) 3 4 := ⟨by decide +kernel, rfl⟩
theorem d_Mo_find_4 : DI M_Mo_find 4 (.iconst 0) 1 5 := ⟨by decide +kernel, rfl⟩
theorem d_Mo_find_5 : DI M_Mo_find 5 (.iconst 1) 1 6 := ⟨by decide +kernel, rfl⟩
theorem d_Mo_find_6 : DI M_Mo_find 6 (.bastore) 1 7 := ⟨by decide +kernel, rfl⟩
theorem d_Mo_find_7 : DI M_Mo_find 7 (.aload_n 0) 1 8 := ⟨by decide +kernel, rfl⟩
theorem d_Mo_find_8 : DI M_Mo_find 8 (.getfield 15) 3 11 := ⟨by decide +kernel, rfl⟩
theorem d_Mo_find_11 : DI M_Mo_find 11 (.iconst 0) 1 12 := ⟨by decide +kernel, rfl⟩
theorem d_Mo_find_12 : DI M_Mo_find 12 (.iconst 0) 1 13 := ⟨by decide +kernel, rfl⟩
theorem d_Mo_find_13 : DI M_Mo_find 13 (.iastore) 1 14 := ⟨by decide +kernel, rfl⟩
theorem d_Mo_find_14 : DI M_Mo_find 14 (.iconst 1) 1 15 := ⟨by decide +kernel, rfl⟩
theorem d_Mo_find_15 : DI M_Mo_find 15 (.istore_n 2) 1 16 := ⟨by decide +kernel, rfl⟩
theorem d_Mo_find_16 : DI M_Mo_find 16 (.iload_n 2) 1 17 := ⟨by decide +kernel, rfl⟩
theorem d_Mo_find_17 : DI M_Mo_find 17 (.iconst 1) 1 18 := ⟨by decide +kernel, rfl⟩
theorem d_Mo_find_18 : DI M_Mo_find 18 (.aload_n 1) 1 19 := ⟨by decide +kernel, rfl⟩
theorem d_Mo_find_19 : DI M_Mo_find 19 (.getfield 19) 3 22 := ⟨by decide +kernel, rfl⟩
theorem d_Mo_find_22 : DI M_Mo_find 22 (.ishl) 1 23 := ⟨by decide +kernel, rfl⟩
theorem d_Mo_find_23 : DJ M_Mo_find 23 (.if_icmp .ge 67) 67 3 26 90 := ⟨by decide +kernel, rfl, rfl⟩
theorem d_Mo_find_26 : DI M_Mo_find 26 (.bipush 31) 2 28 := ⟨by decide +kernel, rfl⟩
theorem d_Mo_find_28 : DI M_Mo_find 28 (.iload_n 2) 1 29 := ⟨by decide +kernel, rfl⟩
theorem d_Mo_find_29 : DI M_Mo_find 29 (.invokestatic 25) 3 32 := ⟨by decide +kernel, rfl⟩
theorem d_Mo_find_32 : DI M_Mo_find 32 (.isub) 1 33 := ⟨by decide +kernel, rfl⟩
theorem d_Mo_find_33 : DI M_Mo_find 33 (.istore_n 3) 1 34 := ⟨by decide +kernel, rfl⟩
theorem d_Mo_find_34 : DI M_Mo_find 34 (.iload_n 2) 1 35 := ⟨by decide +kernel, rfl⟩
theorem d_Mo_find_35 : DI M_Mo_find 35 (.iconst 1) 1 36 := ⟨by decide +kernel, rfl⟩
theorem d_Mo_find_36 : DI M_Mo_find 36 (.iload_n 3) 1 37 := ⟨by decide +kernel, rfl⟩
theorem d_Mo_find_37 : DI M_Mo_find 37 (.ishl) 1 38 := ⟨by decide +kernel, rfl⟩
theorem d_Mo_find_38 : DI M_Mo_find 38 (.ixor) 1 39 := ⟨by decide +kernel, rfl⟩
theorem d_Mo_find_39 : DI M_Mo_find 39 (.istore 4) 2 41 := ⟨by decide +kernel, rfl⟩
theorem d_Mo_find_41 : DI M_Mo_find 41 (.aload_n 0) 1 42 := ⟨by decide +kernel, rfl⟩
theorem d_Mo_find_42 : DI M_Mo_find 42 (.getfield 9) 3 45 := ⟨by decide +kernel, rfl⟩
theorem d_Mo_find_45 : DI M_Mo_find 45 (.iload_n 2) 1 46 := ⟨by decide +kernel, rfl⟩
theorem d_Mo_find_46 : DI M_Mo_find 46 (.aload_n 0) 1 47 := ⟨by decide +kernel, rfl⟩
theorem d_Mo_find_47 : DI M_Mo_find 47 (.getfield 9) 3 50 := ⟨by decide +kernel, rfl⟩
theorem d_Mo_find_50 : DI M_Mo_find 50 (.iload 4) 2 52 := ⟨by decide +kernel, rfl⟩
theorem d_Mo_find_52 : DI M_Mo_find 52 (.baload) 1 53 := ⟨by decide +kernel, rfl⟩
theorem d_Mo_find_53 : DJ M_Mo_find 53 (.ifCond .eq 17) 17 3 56 70 := ⟨by decide +kernel, rfl, rfl⟩
theorem d_Mo_find_56 : DI M_Mo_find 56 (.aload_n 1) 1 57 := ⟨by decide +kernel, rfl⟩
theorem d_Mo_find_57 : DI M_Mo_find 57 (.iload_n 3) 1 58 := ⟨by decide +kernel, rfl⟩
theorem d_Mo_find_58 : DI M_Mo_find 58 (.iload 4) 2 60 := ⟨by decide +kernel, rfl⟩
theorem d_Mo_find_60 : DI M_Mo_find 60 (.invokestatic 31) 3 63 := ⟨by decide +kernel, rfl⟩
theorem d_Mo_find_63 : DJ M_Mo_find 63 (.ifCond .eq 7) 7 3 66 70 := ⟨by decide +kernel, rfl, rfl⟩
theorem d_Mo_find_66 : DI M_Mo_find 66 (.iconst 1) 1 67 := ⟨by decide +kernel, rfl⟩
theorem d_Mo_find_67 : DJ M_Mo_find 67 (.goto 4) 4 3 70 71 := ⟨by decide +kernel, rfl, rfl⟩
theorem d_Mo_find_70 : DI M_Mo_find 70 (.iconst 0) 1 71 := ⟨by decide +kernel, rfl⟩
theorem d_Mo_find_71 : DI M_Mo_find 71 (.bastore) 1 72 := ⟨by decide +kernel, rfl⟩
theorem d_Mo_find_72 : DI M_Mo_find 72 (.aload_n 0) 1 73 := ⟨by decide +kernel, rfl⟩
theorem d_Mo_find_73 : DI M_Mo_find 73 (.getfield 15) 3 76 := ⟨by decide +kernel, rfl⟩
theorem d_Mo_find_76 : DI M_Mo_find 76 (.iload_n 2) 1 77 := ⟨by decide +kernel, rfl⟩
theorem d_Mo_find_77 : DI M_Mo_find 77 (.aload_n 0) 1 78 := ⟨by decide +kernel, rfl⟩
theorem d_Mo_find_78 : DI M_Mo_find 78 (.iload_n 2) 1 79 := ⟨by decide +kernel, rfl⟩
theorem d_Mo_find_79 : DI M_Mo_find 79 (.iload_n 3) 1 80 := ⟨by decide +kernel, rfl⟩
theorem d_Mo_find_80 : DI M_Mo_find 80 (.invokevirtual 35) 3 83 := ⟨by decide +kernel, rfl⟩
theorem d_Mo_find_83 : DI M_Mo_find 83 (.iastore) 1 84 := ⟨by decide +kernel, rfl⟩
theorem d_Mo_find_84 : DI M_Mo_find 84 (.iinc 2 1) 3 87 := ⟨by decide +kernel, rfl⟩
theorem d_Mo_find_87 : DJ M_Mo_find 87 (.goto (-71)) (-71) 3 90 16 := ⟨by decide +kernel, rfl, rfl⟩
theorem d_Mo_find_90 : DI M_Mo_find 90 (.return_) 1 91 := ⟨by decide +kernel, rfl⟩
theorem d_Mo_goesWith_0 : DI M_Mo_goesWith 0 (.iconst 0) 1 1 := ⟨by decide +kernel, rfl⟩
theorem d_Mo_goesWith_1 : DI M_Mo_goesWith 1 (.istore_n 3) 1 2 := ⟨by decide +kernel, rfl⟩
theorem d_Mo_goesWith_2 : DI M_Mo_goesWith 2 (.iload_n 3) 1 3 := ⟨by decide +kernel, rfl⟩
theorem d_Mo_goesWith_3 : DI M_Mo_goesWith 3 (.iload_n 1) 1 4 := ⟨by decide +kernel, rfl⟩
theorem d_Mo_goesWith_4 : DJ M_Mo_goesWith 4 (.if_icmp .ge 53) 53 3 7 57 := ⟨by decide +kernel, rfl, rfl⟩
theorem d_Mo_goesWith_7 : DI M_Mo_goesWith 7 (.iload_n 2) 1 8 := ⟨by decide +kernel, rfl⟩
theorem d_Mo_goesWith_8 : DI M_Mo_goesWith 8 (.iload_n 3) 1 9 := ⟨by decide +kernel, rfl⟩
theorem d_Mo_goesWith_9 : DI M_Mo_goesWith 9 (.invokestatic 39) 3 12 := ⟨by decide +kernel, rfl⟩
theorem d_Mo_goesWith_12 : DJ M_Mo_goesWith 12 (.ifCond .eq 39) 39 3 15 51 := ⟨by decide +kernel, rfl, rfl⟩
theorem d_Mo_goesWith_15 : DI M_Mo_goesWith 15 (.aload_n 0) 1 16 := ⟨by decide +kernel, rfl⟩
theorem d_Mo_goesWith_16 : DI M_Mo_goesWith 16 (.getfield 43) 3 19 := ⟨by decide +kernel, rfl⟩
theorem d_Mo_goesWith_19 : DI M_Mo_goesWith 19 (.iload_n 3) 1 20 := ⟨by decide +kernel, rfl⟩
theorem d_Mo_goesWith_20 : DI M_Mo_goesWith 20 (.iaload) 1 21 := ⟨by decide +kernel, rfl⟩
theorem d_Mo_goesWith_21 : DI M_Mo_goesWith 21 (.aload_n 0) 1 22 := ⟨by decide +kernel, rfl⟩
theorem d_Mo_goesWith_22 : DI M_Mo_goesWith 22 (.getfield 43) 3 25 := ⟨by decide +kernel, rfl⟩
theorem d_Mo_goesWith_25 : DI M_Mo_goesWith 25 (.iload_n 1) 1 26 := ⟨by decide +kernel, rfl⟩
theorem d_Mo_goesWith_26 : DI M_Mo_goesWith 26 (.iaload) 1 27 := ⟨by decide +kernel, rfl⟩
theorem d_Mo_goesWith_27 : DJ M_Mo_goesWith 27 (.if_icmp .eq 22) 22 3 30 49 := ⟨by decide +kernel, rfl, rfl⟩
theorem d_Mo_goesWith_30 : DI M_Mo_goesWith 30 (.aload_n 0) 1 31 := ⟨by decide +kernel, rfl⟩
theorem d_Mo_goesWith_31 : DI M_Mo_goesWith 31 (.getfield 46) 3 34 := ⟨by decide +kernel, rfl⟩
theorem d_Mo_goesWith_34 : DI M_Mo_goesWith 34 (.iload_n 3) 1 35 := ⟨by decide +kernel, rfl⟩
theorem d_Mo_goesWith_35 : DI M_Mo_goesWith 35 (.iaload) 1 36 := ⟨by decide +kernel, rfl⟩
theorem d_Mo_goesWith_36 : DI M_Mo_goesWith 36 (.aload_n 0) 1 37 := ⟨by decide +kernel, rfl⟩
theorem d_Mo_goesWith_37 : DI M_Mo_goesWith 37 (.getfield 46) 3 40 := ⟨by decide +kernel, rfl⟩
theorem d_Mo_goesWith_40 : DI M_Mo_goesWith 40 (.iload_n 1) 1 41 := ⟨by decide +kernel, rfl⟩
theorem d_Mo_goesWith_41 : DI M_Mo_goesWith 41 (.iaload) 1 42 := ⟨by decide +kernel, rfl⟩
theorem d_Mo_goesWith_42 : DI M_Mo_goesWith 42 (.invokestatic 49) 3 45 := ⟨by decide +kernel, rfl⟩
theorem d_Mo_goesWith_45 : DI M_Mo_goesWith 45 (.iconst 2) 1 46 := ⟨by decide +kernel, rfl⟩
theorem d_Mo_goesWith_46 : DJ M_Mo_goesWith 46 (.if_icmp .le 5) 5 3 49 51 := ⟨by decide +kernel, rfl, rfl⟩
theorem d_Mo_goesWith_49 : DI M_Mo_goesWith 49 (.iconst 0) 1 50 := ⟨by decide +kernel, rfl⟩
theorem d_Mo_goesWith_50 : DI M_Mo_goesWith 50 (.ireturn) 1 51 := ⟨by decide +kernel, rfl⟩
theorem d_Mo_goesWith_51 : DI M_Mo_goesWith 51 (.iinc 3 1) 3 54 := ⟨by decide +kernel, rfl⟩
theorem d_Mo_goesWith_54 : DJ M_Mo_goesWith 54 (.goto (-52)) (-52) 3 57 2 := ⟨by decide +kernel, rfl, rfl⟩
theorem d_Mo_goesWith_57 : DI M_Mo_goesWith 57 (.iconst 1) 1 58 := ⟨by decide +kernel, rfl⟩
theorem d_Mo_goesWith_58 : DI M_Mo_goesWith 58 (.ireturn) 1 59 := ⟨by decide +kernel, rfl⟩
theorem d_Mo_fewestOf_0 : DI M_Mo_fewestOf 0 (.bipush 6) 2 2 := ⟨by decide +kernel, rfl⟩
theorem d_Mo_fewestOf_2 : DI M_Mo_fewestOf 2 (.istore_n 3) 1 3 := ⟨by decide +kernel, rfl⟩
theorem d_Mo_fewestOf_3 : DI M_Mo_fewestOf 3 (.iload_n 1) 1 4 := ⟨by decide +kernel, rfl⟩
theorem d_Mo_fewestOf_4 : DI M_Mo_fewestOf 4 (.istore 4) 2 6 := ⟨by decide +kernel, rfl⟩
theorem d_Mo_fewestOf_6 : DI M_Mo_fewestOf 6 (.iload 4) 2 8 := ⟨by decide +kernel, rfl⟩
theorem d_Mo_fewestOf_8 : DI M_Mo_fewestOf 8 (.iconst 1) 1 9 := ⟨by decide +kernel, rfl⟩
theorem d_Mo_fewestOf_9 : DI M_Mo_fewestOf 9 (.iload_n 2) 1 10 := ⟨by decide +kernel, rfl⟩
theorem d_Mo_fewestOf_10 : DI M_Mo_fewestOf 10 (.ishl) 1 11 := ⟨by decide +kernel, rfl⟩
theorem d_Mo_fewestOf_11 : DJ M_Mo_fewestOf 11 (.if_icmp .lt 44) 44 3 14 55 := ⟨by decide +kernel, rfl, rfl⟩
theorem d_Mo_fewestOf_14 : DI M_Mo_fewestOf 14 (.iload 4) 2 16 := ⟨by decide +kernel, rfl⟩
theorem d_Mo_fewestOf_16 : DI M_Mo_fewestOf 16 (.iload_n 1) 1 17 := ⟨by decide +kernel, rfl⟩
theorem d_Mo_fewestOf_17 : DI M_Mo_fewestOf 17 (.iconst (-1)) 1 18 := ⟨by decide +kernel, rfl⟩
theorem d_Mo_fewestOf_18 : DI M_Mo_fewestOf 18 (.ixor) 1 19 := ⟨by decide +kernel, rfl⟩
theorem d_Mo_fewestOf_19 : DI M_Mo_fewestOf 19 (.iand) 1 20 := ⟨by decide +kernel, rfl⟩
theorem d_Mo_fewestOf_20 : DJ M_Mo_fewestOf 20 (.ifCond .ne 29) 29 3 23 49 := ⟨by decide +kernel, rfl, rfl⟩
theorem d_Mo_fewestOf_23 : DI M_Mo_fewestOf 23 (.aload_n 0) 1 24 := ⟨by decide +kernel, rfl⟩
theorem d_Mo_fewestOf_24 : DI M_Mo_fewestOf 24 (.getfield 9) 3 27 := ⟨by decide +kernel, rfl⟩
theorem d_Mo_fewestOf_27 : DI M_Mo_fewestOf 27 (.iload 4) 2 29 := ⟨by decide +kernel, rfl⟩
theorem d_Mo_fewestOf_29 : DI M_Mo_fewestOf 29 (.baload) 1 30 := ⟨by decide +kernel, rfl⟩
theorem d_Mo_fewestOf_30 : DJ M_Mo_fewestOf 30 (.ifCond .eq 19) 19 3 33 49 := ⟨by decide +kernel, rfl, rfl⟩
theorem d_Mo_fewestOf_33 : DI M_Mo_fewestOf 33 (.iload_n 3) 1 34 := ⟨by decide +kernel, rfl⟩
theorem d_Mo_fewestOf_34 : DI M_Mo_fewestOf 34 (.iconst 1) 1 35 := ⟨by decide +kernel, rfl⟩
theorem d_Mo_fewestOf_35 : DI M_Mo_fewestOf 35 (.aload_n 0) 1 36 := ⟨by decide +kernel, rfl⟩
theorem d_Mo_fewestOf_36 : DI M_Mo_fewestOf 36 (.getfield 15) 3 39 := ⟨by decide +kernel, rfl⟩
theorem d_Mo_fewestOf_39 : DI M_Mo_fewestOf 39 (.iload_n 1) 1 40 := ⟨by decide +kernel, rfl⟩
theorem d_Mo_fewestOf_40 : DI M_Mo_fewestOf 40 (.iload 4) 2 42 := ⟨by decide +kernel, rfl⟩
theorem d_Mo_fewestOf_42 : DI M_Mo_fewestOf 42 (.ixor) 1 43 := ⟨by decide +kernel, rfl⟩
theorem d_Mo_fewestOf_43 : DI M_Mo_fewestOf 43 (.iaload) 1 44 := ⟨by decide +kernel, rfl⟩
theorem d_Mo_fewestOf_44 : DI M_Mo_fewestOf 44 (.iadd) 1 45 := ⟨by decide +kernel, rfl⟩
theorem d_Mo_fewestOf_45 : DI M_Mo_fewestOf 45 (.invokestatic 52) 3 48 := ⟨by decide +kernel, rfl⟩
theorem d_Mo_fewestOf_48 : DI M_Mo_fewestOf 48 (.istore_n 3) 1 49 := ⟨by decide +kernel, rfl⟩
theorem d_Mo_fewestOf_49 : DI M_Mo_fewestOf 49 (.iinc 4 (-1)) 3 52 := ⟨by decide +kernel, rfl⟩
theorem d_Mo_fewestOf_52 : DJ M_Mo_fewestOf 52 (.goto (-46)) (-46) 3 55 6 := ⟨by decide +kernel, rfl, rfl⟩
theorem d_Mo_fewestOf_55 : DI M_Mo_fewestOf 55 (.iload_n 3) 1 56 := ⟨by decide +kernel, rfl⟩
theorem d_Mo_fewestOf_56 : DI M_Mo_fewestOf 56 (.ireturn) 1 57 := ⟨by decide +kernel, rfl⟩
theorem d_St_init_0 : DI M_St_init 0 (.aload_n 0) 1 1 := ⟨by decide +kernel, rfl⟩
theorem d_St_init_1 : DI M_St_init 1 (.invokespecial 3) 3 4 := ⟨by decide +kernel, rfl⟩
theorem d_St_init_4 : DI M_St_init 4 (.aload_n 0) 1 5 := ⟨by decide +kernel, rfl⟩
theorem d_St_init_5 : DI M_St_init 5 (.bipush 6) 2 7 := ⟨by decide +kernel, rfl⟩
theorem d_St_init_7 : DI M_St_init 7 (.newarray .int) 2 9 := ⟨by decide +kernel, rfl⟩
theorem d_St_init_9 : DI M_St_init 9 (.putfield 9) 3 12 := ⟨by decide +kernel, rfl⟩
theorem d_St_init_12 : DI M_St_init 12 (.aload_n 0) 1 13 := ⟨by decide +kernel, rfl⟩
theorem d_St_init_13 : DI M_St_init 13 (.bipush 6) 2 15 := ⟨by decide +kernel, rfl⟩
theorem d_St_init_15 : DI M_St_init 15 (.newarray .int) 2 17 := ⟨by decide +kernel, rfl⟩
theorem d_St_init_17 : DI M_St_init 17 (.putfield 15) 3 20 := ⟨by decide +kernel, rfl⟩
theorem d_St_init_20 : DI M_St_init 20 (.return_) 1 21 := ⟨by decide +kernel, rfl⟩
theorem d_St_begin_0 : DI M_St_begin 0 (.iconst 0) 1 1 := ⟨by decide +kernel, rfl⟩
theorem d_St_begin_1 : DI M_St_begin 1 (.istore_n 2) 1 2 := ⟨by decide +kernel, rfl⟩
theorem d_St_begin_2 : DI M_St_begin 2 (.iload_n 2) 1 3 := ⟨by decide +kernel, rfl⟩
theorem d_St_begin_3 : DI M_St_begin 3 (.bipush 6) 2 5 := ⟨by decide +kernel, rfl⟩
theorem d_St_begin_5 : DJ M_St_begin 5 (.if_icmp .ge 28) 28 3 8 33 := ⟨by decide +kernel, rfl, rfl⟩
theorem d_St_begin_8 : DI M_St_begin 8 (.aload_n 0) 1 9 := ⟨by decide +kernel, rfl⟩
theorem d_St_begin_9 : DI M_St_begin 9 (.getfield 9) 3 12 := ⟨by decide +kernel, rfl⟩
theorem d_St_begin_12 : DI M_St_begin 12 (.iload_n 2) 1 13 := ⟨by decide +kernel, rfl⟩
theorem d_St_begin_13 : DI M_St_begin 13 (.iconst 0) 1 14 := ⟨by decide +kernel, rfl⟩
theorem d_St_begin_14 : DI M_St_begin 14 (.iastore) 1 15 := ⟨by decide +kernel, rfl⟩
theorem d_St_begin_15 : DI M_St_begin 15 (.aload_n 0) 1 16 := ⟨by decide +kernel, rfl⟩
theorem d_St_begin_16 : DI M_St_begin 16 (.getfield 15) 3 19 := ⟨by decide +kernel, rfl⟩
theorem d_St_begin_19 : DI M_St_begin 19 (.iload_n 2) 1 20 := ⟨by decide +kernel, rfl⟩
theorem d_St_begin_20 : DI M_St_begin 20 (.aload_n 1) 1 21 := ⟨by decide +kernel, rfl⟩
theorem d_St_begin_21 : DI M_St_begin 21 (.getfield 18) 3 24 := ⟨by decide +kernel, rfl⟩
theorem d_St_begin_24 : DI M_St_begin 24 (.iload_n 2) 1 25 := ⟨by decide +kernel, rfl⟩
theorem d_St_begin_25 : DI M_St_begin 25 (.iaload) 1 26 := ⟨by decide +kernel, rfl⟩
theorem d_St_begin_26 : DI M_St_begin 26 (.iastore) 1 27 := ⟨by decide +kernel, rfl⟩
theorem d_St_begin_27 : DI M_St_begin 27 (.iinc 2 1) 3 30 := ⟨by decide +kernel, rfl⟩
theorem d_St_begin_30 : DJ M_St_begin 30 (.goto (-28)) (-28) 3 33 2 := ⟨by decide +kernel, rfl, rfl⟩
theorem d_St_begin_33 : DI M_St_begin 33 (.aload_n 0) 1 34 := ⟨by decide +kernel, rfl⟩
theorem d_St_begin_34 : DI M_St_begin 34 (.aload_n 1) 1 35 := ⟨by decide +kernel, rfl⟩
theorem d_St_begin_35 : DI M_St_begin 35 (.getfield 21) 3 38 := ⟨by decide +kernel, rfl⟩
theorem d_St_begin_38 : DI M_St_begin 38 (.putfield 25) 3 41 := ⟨by decide +kernel, rfl⟩
theorem d_St_begin_41 : DI M_St_begin 41 (.aload_n 0) 1 42 := ⟨by decide +kernel, rfl⟩
theorem d_St_begin_42 : DI M_St_begin 42 (.iconst 0) 1 43 := ⟨by decide +kernel, rfl⟩
theorem d_St_begin_43 : DI M_St_begin 43 (.putfield 26) 3 46 := ⟨by decide +kernel, rfl⟩
theorem d_St_begin_46 : DI M_St_begin 46 (.return_) 1 47 := ⟨by decide +kernel, rfl⟩
theorem d_St_copyFrom_0 : DI M_St_copyFrom 0 (.aload_n 1) 1 1 := ⟨by decide +kernel, rfl⟩
theorem d_St_copyFrom_1 : DI M_St_copyFrom 1 (.getfield 9) 3 4 := ⟨by decide +kernel, rfl⟩
theorem d_St_copyFrom_4 : DI M_St_copyFrom 4 (.iconst 0) 1 5 := ⟨by decide +kernel, rfl⟩
theorem d_St_copyFrom_5 : DI M_St_copyFrom 5 (.aload_n 0) 1 6 := ⟨by decide +kernel, rfl⟩
theorem d_St_copyFrom_6 : DI M_St_copyFrom 6 (.getfield 9) 3 9 := ⟨by decide +kernel, rfl⟩
theorem d_St_copyFrom_9 : DI M_St_copyFrom 9 (.iconst 0) 1 10 := ⟨by decide +kernel, rfl⟩
theorem d_St_copyFrom_10 : DI M_St_copyFrom 10 (.bipush 6) 2 12 := ⟨by decide +kernel, rfl⟩
theorem d_St_copyFrom_12 : DI M_St_copyFrom 12 (.invokestatic 29) 3 15 := ⟨by decide +kernel, rfl⟩
theorem d_St_copyFrom_15 : DI M_St_copyFrom 15 (.aload_n 1) 1 16 := ⟨by decide +kernel, rfl⟩
theorem d_St_copyFrom_16 : DI M_St_copyFrom 16 (.getfield 15) 3 19 := ⟨by decide +kernel, rfl⟩
theorem d_St_copyFrom_19 : DI M_St_copyFrom 19 (.iconst 0) 1 20 := ⟨by decide +kernel, rfl⟩
theorem d_St_copyFrom_20 : DI M_St_copyFrom 20 (.aload_n 0) 1 21 := ⟨by decide +kernel, rfl⟩
theorem d_St_copyFrom_21 : DI M_St_copyFrom 21 (.getfield 15) 3 24 := ⟨by decide +kernel, rfl⟩
theorem d_St_copyFrom_24 : DI M_St_copyFrom 24 (.iconst 0) 1 25 := ⟨by decide +kernel, rfl⟩
theorem d_St_copyFrom_25 : DI M_St_copyFrom 25 (.bipush 6) 2 27 := ⟨by decide +kernel, rfl⟩
theorem d_St_copyFrom_27 : DI M_St_copyFrom 27 (.invokestatic 29) 3 30 := ⟨by decide +kernel, rfl⟩
theorem d_St_copyFrom_30 : DI M_St_copyFrom 30 (.aload_n 0) 1 31 := ⟨by decide +kernel, rfl⟩
theorem d_St_copyFrom_31 : DI M_St_copyFrom 31 (.aload_n 1) 1 32 := ⟨by decide +kernel, rfl⟩
theorem d_St_copyFrom_32 : DI M_St_copyFrom 32 (.getfield 25) 3 35 := ⟨by decide +kernel, rfl⟩
theorem d_St_copyFrom_35 : DI M_St_copyFrom 35 (.putfield 25) 3 38 := ⟨by decide +kernel, rfl⟩
theorem d_St_copyFrom_38 : DI M_St_copyFrom 38 (.aload_n 0) 1 39 := ⟨by decide +kernel, rfl⟩
theorem d_St_copyFrom_39 : DI M_St_copyFrom 39 (.aload_n 1) 1 40 := ⟨by decide +kernel, rfl⟩
theorem d_St_copyFrom_40 : DI M_St_copyFrom 40 (.getfield 26) 3 43 := ⟨by decide +kernel, rfl⟩
theorem d_St_copyFrom_43 : DI M_St_copyFrom 43 (.putfield 26) 3 46 := ⟨by decide +kernel, rfl⟩
theorem d_St_copyFrom_46 : DI M_St_copyFrom 46 (.return_) 1 47 := ⟨by decide +kernel, rfl⟩
theorem d_St_angleOf_0 : DI M_St_angleOf 0 (.iload_n 1) 1 1 := ⟨by decide +kernel, rfl⟩
theorem d_St_angleOf_1 : DI M_St_angleOf 1 (.bipush 6) 2 3 := ⟨by decide +kernel, rfl⟩
theorem d_St_angleOf_3 : DI M_St_angleOf 3 (.invokestatic 35) 3 6 := ⟨by decide +kernel, rfl⟩
theorem d_St_angleOf_6 : DJ M_St_angleOf 6 (.ifCond .eq 20) 20 3 9 26 := ⟨by decide +kernel, rfl, rfl⟩
theorem d_St_angleOf_9 : DI M_St_angleOf 9 (.aload_n 0) 1 10 := ⟨by decide +kernel, rfl⟩
theorem d_St_angleOf_10 : DI M_St_angleOf 10 (.getfield 9) 3 13 := ⟨by decide +kernel, rfl⟩
theorem d_St_angleOf_13 : DI M_St_angleOf 13 (.iload_n 1) 1 14 := ⟨by decide +kernel, rfl⟩
theorem d_St_angleOf_14 : DI M_St_angleOf 14 (.iaload) 1 15 := ⟨by decide +kernel, rfl⟩
theorem d_St_angleOf_15 : DI M_St_angleOf 15 (.aload_n 0) 1 16 := ⟨by decide +kernel, rfl⟩
theorem d_St_angleOf_16 : DI M_St_angleOf 16 (.getfield 25) 3 19 := ⟨by decide +kernel, rfl⟩
theorem d_St_angleOf_19 : DI M_St_angleOf 19 (.iadd) 1 20 := ⟨by decide +kernel, rfl⟩
theorem d_St_angleOf_20 : DI M_St_angleOf 20 (.invokestatic 39) 3 23 := ⟨by decide +kernel, rfl⟩
theorem d_St_angleOf_23 : DJ M_St_angleOf 23 (.goto 4) 4 3 26 27 := ⟨by decide +kernel, rfl, rfl⟩
theorem d_St_angleOf_26 : DI M_St_angleOf 26 (.iconst 0) 1 27 := ⟨by decide +kernel, rfl⟩
theorem d_St_angleOf_27 : DI M_St_angleOf 27 (.ireturn) 1 28 := ⟨by decide +kernel, rfl⟩
theorem d_St_tiltBy_0 : DI M_St_tiltBy 0 (.iload_n 1) 1 1 := ⟨by decide +kernel, rfl⟩
theorem d_St_tiltBy_1 : DI M_St_tiltBy 1 (.bipush 6) 2 3 := ⟨by decide +kernel, rfl⟩
theorem d_St_tiltBy_3 : DI M_St_tiltBy 3 (.invokestatic 35) 3 6 := ⟨by decide +kernel, rfl⟩
theorem d_St_tiltBy_6 : DJ M_St_tiltBy 6 (.ifCond .eq 20) 20 3 9 26 := ⟨by decide +kernel, rfl, rfl⟩
theorem d_St_tiltBy_9 : DI M_St_tiltBy 9 (.aload_n 0) 1 10 := ⟨by decide +kernel, rfl⟩
theorem d_St_tiltBy_10 : DI M_St_tiltBy 10 (.getfield 9) 3 13 := ⟨by decide +kernel, rfl⟩
theorem d_St_tiltBy_13 : DI M_St_tiltBy 13 (.iload_n 1) 1 14 := ⟨by decide +kernel, rfl⟩
theorem d_St_tiltBy_14 : DI M_St_tiltBy 14 (.aload_n 0) 1 15 := ⟨by decide +kernel, rfl⟩
theorem d_St_tiltBy_15 : DI M_St_tiltBy 15 (.getfield 9) 3 18 := ⟨by decide +kernel, rfl⟩
theorem d_St_tiltBy_18 : DI M_St_tiltBy 18 (.iload_n 1) 1 19 := ⟨by decide +kernel, rfl⟩
theorem d_St_tiltBy_19 : DI M_St_tiltBy 19 (.iaload) 1 20 := ⟨by decide +kernel, rfl⟩
theorem d_St_tiltBy_20 : DI M_St_tiltBy 20 (.iload_n 2) 1 21 := ⟨by decide +kernel, rfl⟩
theorem d_St_tiltBy_21 : DI M_St_tiltBy 21 (.iadd) 1 22 := ⟨by decide +kernel, rfl⟩
theorem d_St_tiltBy_22 : DI M_St_tiltBy 22 (.invokestatic 39) 3 25 := ⟨by decide +kernel, rfl⟩
theorem d_St_tiltBy_25 : DI M_St_tiltBy 25 (.iastore) 1 26 := ⟨by decide +kernel, rfl⟩
theorem d_St_tiltBy_26 : DI M_St_tiltBy 26 (.return_) 1 27 := ⟨by decide +kernel, rfl⟩
theorem d_St_giveTo_0 : DI M_St_giveTo 0 (.iload_n 1) 1 1 := ⟨by decide +kernel, rfl⟩
theorem d_St_giveTo_1 : DI M_St_giveTo 1 (.bipush 6) 2 3 := ⟨by decide +kernel, rfl⟩
theorem d_St_giveTo_3 : DI M_St_giveTo 3 (.invokestatic 35) 3 6 := ⟨by decide +kernel, rfl⟩
theorem d_St_giveTo_6 : DJ M_St_giveTo 6 (.ifCond .eq 10) 10 3 9 16 := ⟨by decide +kernel, rfl, rfl⟩
theorem d_St_giveTo_9 : DI M_St_giveTo 9 (.aload_n 0) 1 10 := ⟨by decide +kernel, rfl⟩
theorem d_St_giveTo_10 : DI M_St_giveTo 10 (.getfield 15) 3 13 := ⟨by decide +kernel, rfl⟩
theorem d_St_giveTo_13 : DI M_St_giveTo 13 (.iload_n 1) 1 14 := ⟨by decide +kernel, rfl⟩
theorem d_St_giveTo_14 : DI M_St_giveTo 14 (.iload_n 2) 1 15 := ⟨by decide +kernel, rfl⟩
theorem d_St_giveTo_15 : DI M_St_giveTo 15 (.iastore) 1 16 := ⟨by decide +kernel, rfl⟩
theorem d_St_giveTo_16 : DI M_St_giveTo 16 (.return_) 1 17 := ⟨by decide +kernel, rfl⟩
theorem d_St_passHours_0 : DI M_St_passHours 0 (.aload_n 0) 1 1 := ⟨by decide +kernel, rfl⟩
theorem d_St_passHours_1 : DI M_St_passHours 1 (.aload_n 0) 1 2 := ⟨by decide +kernel, rfl⟩
theorem d_St_passHours_2 : DI M_St_passHours 2 (.getfield 25) 3 5 := ⟨by decide +kernel, rfl⟩
theorem d_St_passHours_5 : DI M_St_passHours 5 (.iload_n 1) 1 6 := ⟨by decide +kernel, rfl⟩
theorem d_St_passHours_6 : DI M_St_passHours 6 (.iadd) 1 7 := ⟨by decide +kernel, rfl⟩
theorem d_St_passHours_7 : DI M_St_passHours 7 (.invokestatic 39) 3 10 := ⟨by decide +kernel, rfl⟩
theorem d_St_passHours_10 : DI M_St_passHours 10 (.putfield 25) 3 13 := ⟨by decide +kernel, rfl⟩
theorem d_St_passHours_13 : DI M_St_passHours 13 (.aload_n 0) 1 14 := ⟨by decide +kernel, rfl⟩
theorem d_St_passHours_14 : DI M_St_passHours 14 (.dup) 1 15 := ⟨by decide +kernel, rfl⟩
theorem d_St_passHours_15 : DI M_St_passHours 15 (.getfield 26) 3 18 := ⟨by decide +kernel, rfl⟩
theorem d_St_passHours_18 : DI M_St_passHours 18 (.iload_n 1) 1 19 := ⟨by decide +kernel, rfl⟩
theorem d_St_passHours_19 : DI M_St_passHours 19 (.iadd) 1 20 := ⟨by decide +kernel, rfl⟩
theorem d_St_passHours_20 : DI M_St_passHours 20 (.putfield 26) 3 23 := ⟨by decide +kernel, rfl⟩
theorem d_St_passHours_23 : DI M_St_passHours 23 (.return_) 1 24 := ⟨by decide +kernel, rfl⟩
theorem d_Te_init_0 : DI M_Te_init 0 (.aload_n 0) 1 1 := ⟨by decide +kernel, rfl⟩
theorem d_Te_init_1 : DI M_Te_init 1 (.invokespecial 3) 3 4 := ⟨by decide +kernel, rfl⟩
theorem d_Te_init_4 : DI M_Te_init 4 (.aload_n 0) 1 5 := ⟨by decide +kernel, rfl⟩
theorem d_Te_init_5 : DI M_Te_init 5 (.bipush 48) 2 7 := ⟨by decide +kernel, rfl⟩
theorem d_Te_init_7 : DI M_Te_init 7 (.newarray .int) 2 9 := ⟨by decide +kernel, rfl⟩
theorem d_Te_init_9 : DI M_Te_init 9 (.putfield 9) 3 12 := ⟨by decide +kernel, rfl⟩
theorem d_Te_init_12 : DI M_Te_init 12 (.return_) 1 13 := ⟨by decide +kernel, rfl⟩
theorem d_Te_add_0 : DI M_Te_add 0 (.aload_n 0) 1 1 := ⟨by decide +kernel, rfl⟩
theorem d_Te_add_1 : DI M_Te_add 1 (.getfield 15) 3 4 := ⟨by decide +kernel, rfl⟩
theorem d_Te_add_4 : DI M_Te_add 4 (.bipush 48) 2 6 := ⟨by decide +kernel, rfl⟩
theorem d_Te_add_6 : DJ M_Te_add 6 (.if_icmp .lt 5) 5 3 9 11 := ⟨by decide +kernel, rfl, rfl⟩
theorem d_Te_add_9 : DI M_Te_add 9 (.iconst 0) 1 10 := ⟨by decide +kernel, rfl⟩
theorem d_Te_add_10 : DI M_Te_add 10 (.ireturn) 1 11 := ⟨by decide +kernel, rfl⟩
theorem d_Te_add_11 : DI M_Te_add 11 (.aload_n 0) 1 12 := ⟨by decide +kernel, rfl⟩
theorem d_Te_add_12 : DI M_Te_add 12 (.getfield 9) 3 15 := ⟨by decide +kernel, rfl⟩
theorem d_Te_add_15 : DI M_Te_add 15 (.aload_n 0) 1 16 := ⟨by decide +kernel, rfl⟩
theorem d_Te_add_16 : DI M_Te_add 16 (.getfield 15) 3 19 := ⟨by decide +kernel, rfl⟩
theorem d_Te_add_19 : DI M_Te_add 19 (.iload_n 1) 1 20 := ⟨by decide +kernel, rfl⟩
theorem d_Te_add_20 : DI M_Te_add 20 (.iastore) 1 21 := ⟨by decide +kernel, rfl⟩
theorem d_Te_add_21 : DI M_Te_add 21 (.aload_n 0) 1 22 := ⟨by decide +kernel, rfl⟩
theorem d_Te_add_22 : DI M_Te_add 22 (.dup) 1 23 := ⟨by decide +kernel, rfl⟩
theorem d_Te_add_23 : DI M_Te_add 23 (.getfield 15) 3 26 := ⟨by decide +kernel, rfl⟩
theorem d_Te_add_26 : DI M_Te_add 26 (.iconst 1) 1 27 := ⟨by decide +kernel, rfl⟩
theorem d_Te_add_27 : DI M_Te_add 27 (.iadd) 1 28 := ⟨by decide +kernel, rfl⟩
theorem d_Te_add_28 : DI M_Te_add 28 (.putfield 15) 3 31 := ⟨by decide +kernel, rfl⟩
theorem d_Te_add_31 : DI M_Te_add 31 (.iconst 1) 1 32 := ⟨by decide +kernel, rfl⟩
theorem d_Te_add_32 : DI M_Te_add 32 (.ireturn) 1 33 := ⟨by decide +kernel, rfl⟩
theorem d_Te_readInto_0 : DI M_Te_readInto 0 (.aload_n 1) 1 1 := ⟨by decide +kernel, rfl⟩
theorem d_Te_readInto_1 : DI M_Te_readInto 1 (.invokevirtual 19) 3 4 := ⟨by decide +kernel, rfl⟩
theorem d_Te_readInto_4 : DI M_Te_readInto 4 (.iconst 0) 1 5 := ⟨by decide +kernel, rfl⟩
theorem d_Te_readInto_5 : DI M_Te_readInto 5 (.istore_n 2) 1 6 := ⟨by decide +kernel, rfl⟩
theorem d_Te_readInto_6 : DI M_Te_readInto 6 (.iconst 0) 1 7 := ⟨by decide +kernel, rfl⟩
theorem d_Te_readInto_7 : DI M_Te_readInto 7 (.istore_n 3) 1 8 := ⟨by decide +kernel, rfl⟩
theorem d_Te_readInto_8 : DI M_Te_readInto 8 (.iload_n 3) 1 9 := ⟨by decide +kernel, rfl⟩
theorem d_Te_readInto_9 : DI M_Te_readInto 9 (.aload_n 0) 1 10 := ⟨by decide +kernel, rfl⟩
theorem d_Te_readInto_10 : DI M_Te_readInto 10 (.getfield 15) 3 13 := ⟨by decide +kernel, rfl⟩
theorem d_Te_readInto_13 : DJ M_Te_readInto 13 (.if_icmp .ge 28) 28 3 16 41 := ⟨by decide +kernel, rfl, rfl⟩
theorem d_Te_readInto_16 : DI M_Te_readInto 16 (.aload_n 1) 1 17 := ⟨by decide +kernel, rfl⟩
theorem d_Te_readInto_17 : DI M_Te_readInto 17 (.iload_n 2) 1 18 := ⟨by decide +kernel, rfl⟩
theorem d_Te_readInto_18 : DI M_Te_readInto 18 (.aload_n 0) 1 19 := ⟨by decide +kernel, rfl⟩
theorem d_Te_readInto_19 : DI M_Te_readInto 19 (.getfield 9) 3 22 := ⟨by decide +kernel, rfl⟩
theorem d_Te_readInto_22 : DI M_Te_readInto 22 (.iload_n 3) 1 23 := ⟨by decide +kernel, rfl⟩
theorem d_Te_readInto_23 : DI M_Te_readInto 23 (.iaload) 1 24 := ⟨by decide +kernel, rfl⟩
theorem d_Te_readInto_24 : DI M_Te_readInto 24 (.invokevirtual 24) 3 27 := ⟨by decide +kernel, rfl⟩
theorem d_Te_readInto_27 : DI M_Te_readInto 27 (.istore_n 2) 1 28 := ⟨by decide +kernel, rfl⟩
theorem d_Te_readInto_28 : DI M_Te_readInto 28 (.iload_n 2) 1 29 := ⟨by decide +kernel, rfl⟩
theorem d_Te_readInto_29 : DI M_Te_readInto 29 (.iconst (-1)) 1 30 := ⟨by decide +kernel, rfl⟩
theorem d_Te_readInto_30 : DJ M_Te_readInto 30 (.if_icmp .ne 5) 5 3 33 35 := ⟨by decide +kernel, rfl, rfl⟩
theorem d_Te_readInto_33 : DI M_Te_readInto 33 (.iload_n 3) 1 34 := ⟨by decide +kernel, rfl⟩
theorem d_Te_readInto_34 : DI M_Te_readInto 34 (.ireturn) 1 35 := ⟨by decide +kernel, rfl⟩
theorem d_Te_readInto_35 : DI M_Te_readInto 35 (.iinc 3 1) 3 38 := ⟨by decide +kernel, rfl⟩
theorem d_Te_readInto_38 : DJ M_Te_readInto 38 (.goto (-30)) (-30) 3 41 8 := ⟨by decide +kernel, rfl, rfl⟩
theorem d_Te_readInto_41 : DI M_Te_readInto 41 (.iload_n 2) 1 42 := ⟨by decide +kernel, rfl⟩
theorem d_Te_readInto_42 : DI M_Te_readInto 42 (.iconst 2) 1 43 := ⟨by decide +kernel, rfl⟩
theorem d_Te_readInto_43 : DJ M_Te_readInto 43 (.if_icmp .ne 8) 8 3 46 51 := ⟨by decide +kernel, rfl, rfl⟩
theorem d_Te_readInto_46 : DI M_Te_readInto 46 (.bipush (-9)) 2 48 := ⟨by decide +kernel, rfl⟩
theorem d_Te_readInto_48 : DJ M_Te_readInto 48 (.goto 7) 7 3 51 55 := ⟨by decide +kernel, rfl, rfl⟩
theorem d_Te_readInto_51 : DI M_Te_readInto 51 (.aload_n 0) 1 52 := ⟨by decide +kernel, rfl⟩
theorem d_Te_readInto_52 : DI M_Te_readInto 52 (.getfield 15) 3 55 := ⟨by decide +kernel, rfl⟩
theorem d_Te_readInto_55 : DI M_Te_readInto 55 (.ireturn) 1 56 := ⟨by decide +kernel, rfl⟩
theorem d_Tu_init_0 : DI M_Tu_init 0 (.aload_n 0) 1 1 := ⟨by decide +kernel, rfl⟩
theorem d_Tu_init_1 : DI M_Tu_init 1 (.invokespecial 3) 3 4 := ⟨by decide +kernel, rfl⟩
theorem d_Tu_init_4 : DI M_Tu_init 4 (.aload_n 0) 1 5 := ⟨by decide +kernel, rfl⟩
theorem d_Tu_init_5 : DI M_Tu_init 5 (.bipush 6) 2 7 := ⟨by decide +kernel, rfl⟩
theorem d_Tu_init_7 : DI M_Tu_init 7 (.newarray .int) 2 9 := ⟨by decide +kernel, rfl⟩
theorem d_Tu_init_9 : DI M_Tu_init 9 (.putfield 9) 3 12 := ⟨by decide +kernel, rfl⟩
theorem d_Tu_init_12 : DI M_Tu_init 12 (.aload_n 0) 1 13 := ⟨by decide +kernel, rfl⟩
theorem d_Tu_init_13 : DI M_Tu_init 13 (.bipush 6) 2 15 := ⟨by decide +kernel, rfl⟩
theorem d_Tu_init_15 : DI M_Tu_init 15 (.newarray .int) 2 17 := ⟨by decide +kernel, rfl⟩
theorem d_Tu_init_17 : DI M_Tu_init 17 (.putfield 15) 3 20 := ⟨by decide +kernel, rfl⟩
theorem d_Tu_init_20 : DI M_Tu_init 20 (.aload_n 0) 1 21 := ⟨by decide +kernel, rfl⟩
theorem d_Tu_init_21 : DI M_Tu_init 21 (.bipush 48) 2 23 := ⟨by decide +kernel, rfl⟩
theorem d_Tu_init_23 : DI M_Tu_init 23 (.newarray .int) 2 25 := ⟨by decide +kernel, rfl⟩
theorem d_Tu_init_25 : DI M_Tu_init 25 (.putfield 18) 3 28 := ⟨by decide +kernel, rfl⟩
theorem d_Tu_init_28 : DI M_Tu_init 28 (.return_) 1 29 := ⟨by decide +kernel, rfl⟩
theorem d_Tu_add_0 : DI M_Tu_add 0 (.aload_n 0) 1 1 := ⟨by decide +kernel, rfl⟩
theorem d_Tu_add_1 : DI M_Tu_add 1 (.getfield 21) 3 4 := ⟨by decide +kernel, rfl⟩
theorem d_Tu_add_4 : DI M_Tu_add 4 (.bipush 6) 2 6 := ⟨by decide +kernel, rfl⟩
theorem d_Tu_add_6 : DJ M_Tu_add 6 (.if_icmp .lt 5) 5 3 9 11 := ⟨by decide +kernel, rfl, rfl⟩
theorem d_Tu_add_9 : DI M_Tu_add 9 (.iconst 0) 1 10 := ⟨by decide +kernel, rfl⟩
theorem d_Tu_add_10 : DI M_Tu_add 10 (.ireturn) 1 11 := ⟨by decide +kernel, rfl⟩
theorem d_Tu_add_11 : DI M_Tu_add 11 (.aload_n 0) 1 12 := ⟨by decide +kernel, rfl⟩
theorem d_Tu_add_12 : DI M_Tu_add 12 (.getfield 9) 3 15 := ⟨by decide +kernel, rfl⟩
theorem d_Tu_add_15 : DI M_Tu_add 15 (.aload_n 0) 1 16 := ⟨by decide +kernel, rfl⟩
theorem d_Tu_add_16 : DI M_Tu_add 16 (.getfield 21) 3 19 := ⟨by decide +kernel, rfl⟩
theorem d_Tu_add_19 : DI M_Tu_add 19 (.iload_n 1) 1 20 := ⟨by decide +kernel, rfl⟩
theorem d_Tu_add_20 : DI M_Tu_add 20 (.iastore) 1 21 := ⟨by decide +kernel, rfl⟩
theorem d_Tu_add_21 : DI M_Tu_add 21 (.aload_n 0) 1 22 := ⟨by decide +kernel, rfl⟩
theorem d_Tu_add_22 : DI M_Tu_add 22 (.getfield 15) 3 25 := ⟨by decide +kernel, rfl⟩
theorem d_Tu_add_25 : DI M_Tu_add 25 (.aload_n 0) 1 26 := ⟨by decide +kernel, rfl⟩
theorem d_Tu_add_26 : DI M_Tu_add 26 (.getfield 21) 3 29 := ⟨by decide +kernel, rfl⟩
theorem d_Tu_add_29 : DI M_Tu_add 29 (.iload_n 2) 1 30 := ⟨by decide +kernel, rfl⟩
theorem d_Tu_add_30 : DI M_Tu_add 30 (.iastore) 1 31 := ⟨by decide +kernel, rfl⟩
theorem d_Tu_add_31 : DI M_Tu_add 31 (.aload_n 0) 1 32 := ⟨by decide +kernel, rfl⟩
theorem d_Tu_add_32 : DI M_Tu_add 32 (.dup) 1 33 := ⟨by decide +kernel, rfl⟩
theorem d_Tu_add_33 : DI M_Tu_add 33 (.getfield 21) 3 36 := ⟨by decide +kernel, rfl⟩
theorem d_Tu_add_36 : DI M_Tu_add 36 (.iconst 1) 1 37 := ⟨by decide +kernel, rfl⟩
theorem d_Tu_add_37 : DI M_Tu_add 37 (.iadd) 1 38 := ⟨by decide +kernel, rfl⟩
theorem d_Tu_add_38 : DI M_Tu_add 38 (.putfield 21) 3 41 := ⟨by decide +kernel, rfl⟩
theorem d_Tu_add_41 : DI M_Tu_add 41 (.iconst 1) 1 42 := ⟨by decide +kernel, rfl⟩
theorem d_Tu_add_42 : DI M_Tu_add 42 (.ireturn) 1 43 := ⟨by decide +kernel, rfl⟩
theorem d_Tu_answerOf_0 : DI M_Tu_answerOf 0 (.iload_n 0) 1 1 := ⟨by decide +kernel, rfl⟩
theorem d_Tu_answerOf_1 : DI M_Tu_answerOf 1 (.iload_n 1) 1 2 := ⟨by decide +kernel, rfl⟩
theorem d_Tu_answerOf_2 : DI M_Tu_answerOf 2 (.iload_n 2) 1 3 := ⟨by decide +kernel, rfl⟩
theorem d_Tu_answerOf_3 : DI M_Tu_answerOf 3 (.iconst 0) 1 4 := ⟨by decide +kernel, rfl⟩
theorem d_Tu_answerOf_4 : DI M_Tu_answerOf 4 (.iload_n 3) 1 5 := ⟨by decide +kernel, rfl⟩
theorem d_Tu_answerOf_5 : DI M_Tu_answerOf 5 (.invokestatic 25) 3 8 := ⟨by decide +kernel, rfl⟩
theorem d_Tu_answerOf_8 : DJ M_Tu_answerOf 8 (.ifCond .eq 7) 7 3 11 15 := ⟨by decide +kernel, rfl, rfl⟩
theorem d_Tu_answerOf_11 : DI M_Tu_answerOf 11 (.iload_n 0) 1 12 := ⟨by decide +kernel, rfl⟩
theorem d_Tu_answerOf_12 : DJ M_Tu_answerOf 12 (.goto 4) 4 3 15 16 := ⟨by decide +kernel, rfl, rfl⟩
theorem d_Tu_answerOf_15 : DI M_Tu_answerOf 15 (.iconst 5) 1 16 := ⟨by decide +kernel, rfl⟩
theorem d_Tu_answerOf_16 : DI M_Tu_answerOf 16 (.ireturn) 1 17 := ⟨by decide +kernel, rfl⟩
theorem d_Tu_fits_0 : DI M_Tu_fits 0 (.iconst 0) 1 1 := ⟨by decide +kernel, rfl⟩
theorem d_Tu_fits_1 : DI M_Tu_fits 1 (.istore 4) 2 3 := ⟨by decide +kernel, rfl⟩
theorem d_Tu_fits_3 : DI M_Tu_fits 3 (.iload 4) 2 5 := ⟨by decide +kernel, rfl⟩
theorem d_Tu_fits_5 : DI M_Tu_fits 5 (.aload_n 0) 1 6 := ⟨by decide +kernel, rfl⟩
theorem d_Tu_fits_6 : DI M_Tu_fits 6 (.getfield 21) 3 9 := ⟨by decide +kernel, rfl⟩
theorem d_Tu_fits_9 : DJ M_Tu_fits 9 (.if_icmp .ge 34) 34 3 12 43 := ⟨by decide +kernel, rfl, rfl⟩
theorem d_Tu_fits_12 : DI M_Tu_fits 12 (.iload_n 1) 1 13 := ⟨by decide +kernel, rfl⟩
theorem d_Tu_fits_13 : DI M_Tu_fits 13 (.iload_n 2) 1 14 := ⟨by decide +kernel, rfl⟩
theorem d_Tu_fits_14 : DI M_Tu_fits 14 (.iload_n 3) 1 15 := ⟨by decide +kernel, rfl⟩
theorem d_Tu_fits_15 : DI M_Tu_fits 15 (.aload_n 0) 1 16 := ⟨by decide +kernel, rfl⟩
theorem d_Tu_fits_16 : DI M_Tu_fits 16 (.getfield 9) 3 19 := ⟨by decide +kernel, rfl⟩
theorem d_Tu_fits_19 : DI M_Tu_fits 19 (.iload 4) 2 21 := ⟨by decide +kernel, rfl⟩
theorem d_Tu_fits_21 : DI M_Tu_fits 21 (.iaload) 1 22 := ⟨by decide +kernel, rfl⟩
theorem d_Tu_fits_22 : DI M_Tu_fits 22 (.invokestatic 29) 3 25 := ⟨by decide +kernel, rfl⟩
theorem d_Tu_fits_25 : DI M_Tu_fits 25 (.aload_n 0) 1 26 := ⟨by decide +kernel, rfl⟩
theorem d_Tu_fits_26 : DI M_Tu_fits 26 (.getfield 15) 3 29 := ⟨by decide +kernel, rfl⟩
theorem d_Tu_fits_29 : DI M_Tu_fits 29 (.iload 4) 2 31 := ⟨by decide +kernel, rfl⟩
theorem d_Tu_fits_31 : DI M_Tu_fits 31 (.iaload) 1 32 := ⟨by decide +kernel, rfl⟩
theorem d_Tu_fits_32 : DJ M_Tu_fits 32 (.if_icmp .eq 5) 5 3 35 37 := ⟨by decide +kernel, rfl, rfl⟩
theorem d_Tu_fits_35 : DI M_Tu_fits 35 (.iconst 0) 1 36 := ⟨by decide +kernel, rfl⟩
theorem d_Tu_fits_36 : DI M_Tu_fits 36 (.ireturn) 1 37 := ⟨by decide +kernel, rfl⟩
theorem d_Tu_fits_37 : DI M_Tu_fits 37 (.iinc 4 1) 3 40 := ⟨by decide +kernel, rfl⟩
theorem d_Tu_fits_40 : DJ M_Tu_fits 40 (.goto (-37)) (-37) 3 43 3 := ⟨by decide +kernel, rfl, rfl⟩
theorem d_Tu_fits_43 : DI M_Tu_fits 43 (.iconst 1) 1 44 := ⟨by decide +kernel, rfl⟩
theorem d_Tu_fits_44 : DI M_Tu_fits 44 (.ireturn) 1 45 := ⟨by decide +kernel, rfl⟩
theorem d_Tu_weigh_0 : DI M_Tu_weigh 0 (.aload_n 0) 1 1 := ⟨by decide +kernel, rfl⟩
theorem d_Tu_weigh_1 : DI M_Tu_weigh 1 (.iconst 0) 1 2 := ⟨by decide +kernel, rfl⟩
theorem d_Tu_weigh_2 : DI M_Tu_weigh 2 (.putfield 33) 3 5 := ⟨by decide +kernel, rfl⟩
theorem d_Tu_weigh_5 : DI M_Tu_weigh 5 (.aload_n 0) 1 6 := ⟨by decide +kernel, rfl⟩
theorem d_Tu_weigh_6 : DI M_Tu_weigh 6 (.bipush (-9)) 2 8 := ⟨by decide +kernel, rfl⟩
theorem d_Tu_weigh_8 : DI M_Tu_weigh 8 (.putfield 36) 3 11 := ⟨by decide +kernel, rfl⟩
theorem d_Tu_weigh_11 : DI M_Tu_weigh 11 (.iconst 0) 1 12 := ⟨by decide +kernel, rfl⟩
theorem d_Tu_weigh_12 : DI M_Tu_weigh 12 (.istore_n 1) 1 13 := ⟨by decide +kernel, rfl⟩
theorem d_Tu_weigh_13 : DI M_Tu_weigh 13 (.iload_n 1) 1 14 := ⟨by decide +kernel, rfl⟩
theorem d_Tu_weigh_14 : DI M_Tu_weigh 14 (.bipush 48) 2 16 := ⟨by decide +kernel, rfl⟩
theorem d_Tu_weigh_16 : DJ M_Tu_weigh 16 (.if_icmp .ge 16) 16 3 19 32 := ⟨by decide +kernel, rfl, rfl⟩
theorem d_Tu_weigh_19 : DI M_Tu_weigh 19 (.aload_n 0) 1 20 := ⟨by decide +kernel, rfl⟩
theorem d_Tu_weigh_20 : DI M_Tu_weigh 20 (.getfield 18) 3 23 := ⟨by decide +kernel, rfl⟩
theorem d_Tu_weigh_23 : DI M_Tu_weigh 23 (.iload_n 1) 1 24 := ⟨by decide +kernel, rfl⟩
theorem d_Tu_weigh_24 : DI M_Tu_weigh 24 (.iconst 0) 1 25 := ⟨by decide +kernel, rfl⟩
theorem d_Tu_weigh_25 : DI M_Tu_weigh 25 (.iastore) 1 26 := ⟨by decide +kernel, rfl⟩
theorem d_Tu_weigh_26 : DI M_Tu_weigh 26 (.iinc 1 1) 3 29 := ⟨by decide +kernel, rfl⟩
theorem d_Tu_weigh_29 : DJ M_Tu_weigh 29 (.goto (-16)) (-16) 3 32 13 := ⟨by decide +kernel, rfl, rfl⟩
theorem d_Tu_weigh_32 : DI M_Tu_weigh 32 (.iconst 0) 1 33 := ⟨by decide +kernel, rfl⟩
theorem d_Tu_weigh_33 : DI M_Tu_weigh 33 (.istore_n 1) 1 34 := ⟨by decide +kernel, rfl⟩
theorem d_Tu_weigh_34 : DI M_Tu_weigh 34 (.iload_n 1) 1 35 := ⟨by decide +kernel, rfl⟩
theorem d_Tu_weigh_35 : DI M_Tu_weigh 35 (.iconst 5) 1 36 := ⟨by decide +kernel, rfl⟩
theorem d_Tu_weigh_36 : DJ M_Tu_weigh 36 (.if_icmp .ge 53) 53 3 39 89 := ⟨by decide +kernel, rfl, rfl⟩
theorem d_Tu_weigh_39 : DI M_Tu_weigh 39 (.iconst 0) 1 40 := ⟨by decide +kernel, rfl⟩
theorem d_Tu_weigh_40 : DI M_Tu_weigh 40 (.istore_n 2) 1 41 := ⟨by decide +kernel, rfl⟩
theorem d_Tu_weigh_41 : DI M_Tu_weigh 41 (.iload_n 2) 1 42 := ⟨by decide +kernel, rfl⟩
theorem d_Tu_weigh_42 : DI M_Tu_weigh 42 (.bipush 8) 2 44 := ⟨by decide +kernel, rfl⟩
theorem d_Tu_weigh_44 : DJ M_Tu_weigh 44 (.if_icmp .ge 39) 39 3 47 83 := ⟨by decide +kernel, rfl, rfl⟩
theorem d_Tu_weigh_47 : DI M_Tu_weigh 47 (.iconst 0) 1 48 := ⟨by decide +kernel, rfl⟩
theorem d_Tu_weigh_48 : DI M_Tu_weigh 48 (.istore_n 3) 1 49 := ⟨by decide +kernel, rfl⟩
theorem d_Tu_weigh_49 : DI M_Tu_weigh 49 (.iload_n 3) 1 50 := ⟨by decide +kernel, rfl⟩
theorem d_Tu_weigh_50 : DI M_Tu_weigh 50 (.iconst 4) 1 51 := ⟨by decide +kernel, rfl⟩
theorem d_Tu_weigh_51 : DJ M_Tu_weigh 51 (.if_icmp .ge 26) 26 3 54 77 := ⟨by decide +kernel, rfl, rfl⟩
theorem d_Tu_weigh_54 : DI M_Tu_weigh 54 (.aload_n 0) 1 55 := ⟨by decide +kernel, rfl⟩
theorem d_Tu_weigh_55 : DI M_Tu_weigh 55 (.iload_n 1) 1 56 := ⟨by decide +kernel, rfl⟩
theorem d_Tu_weigh_56 : DI M_Tu_weigh 56 (.iload_n 2) 1 57 := ⟨by decide +kernel, rfl⟩
theorem d_Tu_weigh_57 : DI M_Tu_weigh 57 (.iload_n 3) 1 58 := ⟨by decide +kernel, rfl⟩
theorem d_Tu_weigh_58 : DI M_Tu_weigh 58 (.invokevirtual 39) 3 61 := ⟨by decide +kernel, rfl⟩
theorem d_Tu_weigh_61 : DJ M_Tu_weigh 61 (.ifCond .eq 10) 10 3 64 71 := ⟨by decide +kernel, rfl, rfl⟩
theorem d_Tu_weigh_64 : DI M_Tu_weigh 64 (.aload_n 0) 1 65 := ⟨by decide +kernel, rfl⟩
theorem d_Tu_weigh_65 : DI M_Tu_weigh 65 (.iload_n 1) 1 66 := ⟨by decide +kernel, rfl⟩
theorem d_Tu_weigh_66 : DI M_Tu_weigh 66 (.iload_n 2) 1 67 := ⟨by decide +kernel, rfl⟩
theorem d_Tu_weigh_67 : DI M_Tu_weigh 67 (.iload_n 3) 1 68 := ⟨by decide +kernel, rfl⟩
theorem d_Tu_weigh_68 : DI M_Tu_weigh 68 (.invokevirtual 43) 3 71 := ⟨by decide +kernel, rfl⟩
theorem d_Tu_weigh_71 : DI M_Tu_weigh 71 (.iinc 3 1) 3 74 := ⟨by decide +kernel, rfl⟩
theorem d_Tu_weigh_74 : DJ M_Tu_weigh 74 (.goto (-25)) (-25) 3 77 49 := ⟨by decide +kernel, rfl, rfl⟩
theorem d_Tu_weigh_77 : DI M_Tu_weigh 77 (.iinc 2 1) 3 80 := ⟨by decide +kernel, rfl⟩
theorem d_Tu_weigh_80 : DJ M_Tu_weigh 80 (.goto (-39)) (-39) 3 83 41 := ⟨by decide +kernel, rfl, rfl⟩
theorem d_Tu_weigh_83 : DI M_Tu_weigh 83 (.iinc 1 1) 3 86 := ⟨by decide +kernel, rfl⟩
theorem d_Tu_weigh_86 : DJ M_Tu_weigh 86 (.goto (-52)) (-52) 3 89 34 := ⟨by decide +kernel, rfl, rfl⟩
theorem d_Tu_weigh_89 : DI M_Tu_weigh 89 (.return_) 1 90 := ⟨by decide +kernel, rfl⟩
theorem d_Tu_tally_0 : DI M_Tu_tally 0 (.aload_n 0) 1 1 := ⟨by decide +kernel, rfl⟩
theorem d_Tu_tally_1 : DI M_Tu_tally 1 (.getfield 33) 3 4 := ⟨by decide +kernel, rfl⟩
theorem d_Tu_tally_4 : DJ M_Tu_tally 4 (.ifCond .ne 18) 18 3 7 22 := ⟨by decide +kernel, rfl, rfl⟩
theorem d_Tu_tally_7 : DI M_Tu_tally 7 (.aload_n 0) 1 8 := ⟨by decide +kernel, rfl⟩
theorem d_Tu_tally_8 : DI M_Tu_tally 8 (.bipush 100) 2 10 := ⟨by decide +kernel, rfl⟩
theorem d_Tu_tally_10 : DI M_Tu_tally 10 (.iload_n 1) 1 11 := ⟨by decide +kernel, rfl⟩
theorem d_Tu_tally_11 : DI M_Tu_tally 11 (.imul) 1 12 := ⟨by decide +kernel, rfl⟩
theorem d_Tu_tally_12 : DI M_Tu_tally 12 (.bipush 10) 2 14 := ⟨by decide +kernel, rfl⟩
theorem d_Tu_tally_14 : DI M_Tu_tally 14 (.iload_n 2) 1 15 := ⟨by decide +kernel, rfl⟩
theorem d_Tu_tally_15 : DI M_Tu_tally 15 (.imul) 1 16 := ⟨by decide +kernel, rfl⟩
theorem d_Tu_tally_16 : DI M_Tu_tally 16 (.iadd) 1 17 := ⟨by decide +kernel, rfl⟩
theorem d_Tu_tally_17 : DI M_Tu_tally 17 (.iload_n 3) 1 18 := ⟨by decide +kernel, rfl⟩
theorem d_Tu_tally_18 : DI M_Tu_tally 18 (.iadd) 1 19 := ⟨by decide +kernel, rfl⟩
theorem d_Tu_tally_19 : DI M_Tu_tally 19 (.putfield 36) 3 22 := ⟨by decide +kernel, rfl⟩
theorem d_Tu_tally_22 : DI M_Tu_tally 22 (.aload_n 0) 1 23 := ⟨by decide +kernel, rfl⟩
theorem d_Tu_tally_23 : DI M_Tu_tally 23 (.dup) 1 24 := ⟨by decide +kernel, rfl⟩
theorem d_Tu_tally_24 : DI M_Tu_tally 24 (.getfield 33) 3 27 := ⟨by decide +kernel, rfl⟩
theorem d_Tu_tally_27 : DI M_Tu_tally 27 (.iconst 1) 1 28 := ⟨by decide +kernel, rfl⟩
theorem d_Tu_tally_28 : DI M_Tu_tally 28 (.iadd) 1 29 := ⟨by decide +kernel, rfl⟩
theorem d_Tu_tally_29 : DI M_Tu_tally 29 (.putfield 33) 3 32 := ⟨by decide +kernel, rfl⟩
theorem d_Tu_tally_32 : DI M_Tu_tally 32 (.iconst 0) 1 33 := ⟨by decide +kernel, rfl⟩
theorem d_Tu_tally_33 : DI M_Tu_tally 33 (.istore 4) 2 35 := ⟨by decide +kernel, rfl⟩
theorem d_Tu_tally_35 : DI M_Tu_tally 35 (.iload 4) 2 37 := ⟨by decide +kernel, rfl⟩
theorem d_Tu_tally_37 : DI M_Tu_tally 37 (.bipush 8) 2 39 := ⟨by decide +kernel, rfl⟩
theorem d_Tu_tally_39 : DJ M_Tu_tally 39 (.if_icmp .ge 32) 32 3 42 71 := ⟨by decide +kernel, rfl, rfl⟩
theorem d_Tu_tally_42 : DI M_Tu_tally 42 (.aload_n 0) 1 43 := ⟨by decide +kernel, rfl⟩
theorem d_Tu_tally_43 : DI M_Tu_tally 43 (.getfield 18) 3 46 := ⟨by decide +kernel, rfl⟩
theorem d_Tu_tally_46 : DI M_Tu_tally 46 (.bipush 6) 2 48 := ⟨by decide +kernel, rfl⟩
theorem d_Tu_tally_48 : DI M_Tu_tally 48 (.iload 4) 2 50 := ⟨by decide +kernel, rfl⟩
theorem d_Tu_tally_50 : DI M_Tu_tally 50 (.imul) 1 51 := ⟨by decide +kernel, rfl⟩
theorem d_Tu_tally_51 : DI M_Tu_tally 51 (.iload_n 1) 1 52 := ⟨by decide +kernel, rfl⟩
theorem d_Tu_tally_52 : DI M_Tu_tally 52 (.iload_n 2) 1 53 := ⟨by decide +kernel, rfl⟩
theorem d_Tu_tally_53 : DI M_Tu_tally 53 (.iload_n 3) 1 54 := ⟨by decide +kernel, rfl⟩
theorem d_Tu_tally_54 : DI M_Tu_tally 54 (.iload 4) 2 56 := ⟨by decide +kernel, rfl⟩
theorem d_Tu_tally_56 : DI M_Tu_tally 56 (.invokestatic 29) 3 59 := ⟨by decide +kernel, rfl⟩
theorem d_Tu_tally_59 : DI M_Tu_tally 59 (.iadd) 1 60 := ⟨by decide +kernel, rfl⟩
theorem d_Tu_tally_60 : DI M_Tu_tally 60 (.dup2) 1 61 := ⟨by decide +kernel, rfl⟩
theorem d_Tu_tally_61 : DI M_Tu_tally 61 (.iaload) 1 62 := ⟨by decide +kernel, rfl⟩
theorem d_Tu_tally_62 : DI M_Tu_tally 62 (.iconst 1) 1 63 := ⟨by decide +kernel, rfl⟩
theorem d_Tu_tally_63 : DI M_Tu_tally 63 (.iadd) 1 64 := ⟨by decide +kernel, rfl⟩
theorem d_Tu_tally_64 : DI M_Tu_tally 64 (.iastore) 1 65 := ⟨by decide +kernel, rfl⟩
theorem d_Tu_tally_65 : DI M_Tu_tally 65 (.iinc 4 1) 3 68 := ⟨by decide +kernel, rfl⟩
theorem d_Tu_tally_68 : DJ M_Tu_tally 68 (.goto (-33)) (-33) 3 71 35 := ⟨by decide +kernel, rfl, rfl⟩
theorem d_Tu_tally_71 : DI M_Tu_tally 71 (.return_) 1 72 := ⟨by decide +kernel, rfl⟩
theorem d_Tu_bestAngle_0 : DI M_Tu_bestAngle 0 (.bipush (-9)) 2 2 := ⟨by decide +kernel, rfl⟩
theorem d_Tu_bestAngle_2 : DI M_Tu_bestAngle 2 (.istore_n 1) 1 3 := ⟨by decide +kernel, rfl⟩
theorem d_Tu_bestAngle_3 : DI M_Tu_bestAngle 3 (.aload_n 0) 1 4 := ⟨by decide +kernel, rfl⟩
theorem d_Tu_bestAngle_4 : DI M_Tu_bestAngle 4 (.getfield 33) 3 7 := ⟨by decide +kernel, rfl⟩
theorem d_Tu_bestAngle_7 : DI M_Tu_bestAngle 7 (.iconst 1) 1 8 := ⟨by decide +kernel, rfl⟩
theorem d_Tu_bestAngle_8 : DI M_Tu_bestAngle 8 (.iadd) 1 9 := ⟨by decide +kernel, rfl⟩
theorem d_Tu_bestAngle_9 : DI M_Tu_bestAngle 9 (.istore_n 2) 1 10 := ⟨by decide +kernel, rfl⟩
theorem d_Tu_bestAngle_10 : DI M_Tu_bestAngle 10 (.iconst 0) 1 11 := ⟨by decide +kernel, rfl⟩
theorem d_Tu_bestAngle_11 : DI M_Tu_bestAngle 11 (.istore_n 3) 1 12 := ⟨by decide +kernel, rfl⟩
theorem d_Tu_bestAngle_12 : DI M_Tu_bestAngle 12 (.iload_n 3) 1 13 := ⟨by decide +kernel, rfl⟩
theorem d_Tu_bestAngle_13 : DI M_Tu_bestAngle 13 (.bipush 8) 2 15 := ⟨by decide +kernel, rfl⟩
theorem d_Tu_bestAngle_15 : DJ M_Tu_bestAngle 15 (.if_icmp .ge 65) 65 3 18 80 := ⟨by decide +kernel, rfl, rfl⟩
theorem d_Tu_bestAngle_18 : DI M_Tu_bestAngle 18 (.aload_n 0) 1 19 := ⟨by decide +kernel, rfl⟩
theorem d_Tu_bestAngle_19 : DI M_Tu_bestAngle 19 (.getfield 33) 3 22 := ⟨by decide +kernel, rfl⟩
theorem d_Tu_bestAngle_22 : DJ M_Tu_bestAngle 22 (.ifCond .le 58) 58 3 25 80 := ⟨by decide +kernel, rfl, rfl⟩
theorem d_Tu_bestAngle_25 : DI M_Tu_bestAngle 25 (.iconst 0) 1 26 := ⟨by decide +kernel, rfl⟩
theorem d_Tu_bestAngle_26 : DI M_Tu_bestAngle 26 (.istore 4) 2 28 := ⟨by decide +kernel, rfl⟩
theorem d_Tu_bestAngle_28 : DI M_Tu_bestAngle 28 (.iconst 0) 1 29 := ⟨by decide +kernel, rfl⟩
theorem d_Tu_bestAngle_29 : DI M_Tu_bestAngle 29 (.istore 5) 2 31 := ⟨by decide +kernel, rfl⟩
theorem d_Tu_bestAngle_31 : DI M_Tu_bestAngle 31 (.iload 5) 2 33 := ⟨by decide +kernel, rfl⟩
theorem d_Tu_bestAngle_33 : DI M_Tu_bestAngle 33 (.bipush 6) 2 35 := ⟨by decide +kernel, rfl⟩
theorem d_Tu_bestAngle_35 : DJ M_Tu_bestAngle 35 (.if_icmp .ge 28) 28 3 38 63 := ⟨by decide +kernel, rfl, rfl⟩
theorem d_Tu_bestAngle_38 : DI M_Tu_bestAngle 38 (.iload 4) 2 40 := ⟨by decide +kernel, rfl⟩
theorem d_Tu_bestAngle_40 : DI M_Tu_bestAngle 40 (.aload_n 0) 1 41 := ⟨by decide +kernel, rfl⟩
theorem d_Tu_bestAngle_41 : DI M_Tu_bestAngle 41 (.getfield 18) 3 44 := ⟨by decide +kernel, rfl⟩
theorem d_Tu_bestAngle_44 : DI M_Tu_bestAngle 44 (.bipush 6) 2 46 := ⟨by decide +kernel, rfl⟩
theorem d_Tu_bestAngle_46 : DI M_Tu_bestAngle 46 (.iload_n 3) 1 47 := ⟨by decide +kernel, rfl⟩
theorem d_Tu_bestAngle_47 : DI M_Tu_bestAngle 47 (.imul) 1 48 := ⟨by decide +kernel, rfl⟩
theorem d_Tu_bestAngle_48 : DI M_Tu_bestAngle 48 (.iload 5) 2 50 := ⟨by decide +kernel, rfl⟩
theorem d_Tu_bestAngle_50 : DI M_Tu_bestAngle 50 (.iadd) 1 51 := ⟨by decide +kernel, rfl⟩
theorem d_Tu_bestAngle_51 : DI M_Tu_bestAngle 51 (.iaload) 1 52 := ⟨by decide +kernel, rfl⟩
theorem d_Tu_bestAngle_52 : DI M_Tu_bestAngle 52 (.invokestatic 47) 3 55 := ⟨by decide +kernel, rfl⟩
theorem d_Tu_bestAngle_55 : DI M_Tu_bestAngle 55 (.istore 4) 2 57 := ⟨by decide +kernel, rfl⟩
theorem d_Tu_bestAngle_57 : DI M_Tu_bestAngle 57 (.iinc 5 1) 3 60 := ⟨by decide +kernel, rfl⟩
theorem d_Tu_bestAngle_60 : DJ M_Tu_bestAngle 60 (.goto (-29)) (-29) 3 63 31 := ⟨by decide +kernel, rfl, rfl⟩
theorem d_Tu_bestAngle_63 : DI M_Tu_bestAngle 63 (.iload 4) 2 65 := ⟨by decide +kernel, rfl⟩
theorem d_Tu_bestAngle_65 : DI M_Tu_bestAngle 65 (.iload_n 2) 1 66 := ⟨by decide +kernel, rfl⟩
theorem d_Tu_bestAngle_66 : DJ M_Tu_bestAngle 66 (.if_icmp .ge 8) 8 3 69 74 := ⟨by decide +kernel, rfl, rfl⟩
theorem d_Tu_bestAngle_69 : DI M_Tu_bestAngle 69 (.iload 4) 2 71 := ⟨by decide +kernel, rfl⟩
theorem d_Tu_bestAngle_71 : DI M_Tu_bestAngle 71 (.istore_n 2) 1 72 := ⟨by decide +kernel, rfl⟩
theorem d_Tu_bestAngle_72 : DI M_Tu_bestAngle 72 (.iload_n 3) 1 73 := ⟨by decide +kernel, rfl⟩
theorem d_Tu_bestAngle_73 : DI M_Tu_bestAngle 73 (.istore_n 1) 1 74 := ⟨by decide +kernel, rfl⟩
theorem d_Tu_bestAngle_74 : DI M_Tu_bestAngle 74 (.iinc 3 1) 3 77 := ⟨by decide +kernel, rfl⟩
theorem d_Tu_bestAngle_77 : DJ M_Tu_bestAngle 77 (.goto (-65)) (-65) 3 80 12 := ⟨by decide +kernel, rfl, rfl⟩
theorem d_Tu_bestAngle_80 : DI M_Tu_bestAngle 80 (.iload_n 1) 1 81 := ⟨by decide +kernel, rfl⟩
theorem d_Tu_bestAngle_81 : DI M_Tu_bestAngle 81 (.ireturn) 1 82 := ⟨by decide +kernel, rfl⟩
theorem d_In_bitCount_0 : DI M_In_bitCount 0 (.iload_n 0) 1 1 := ⟨by decide +kernel, rfl⟩
theorem d_In_bitCount_1 : DI M_In_bitCount 1 (.iload_n 0) 1 2 := ⟨by decide +kernel, rfl⟩
theorem d_In_bitCount_2 : DI M_In_bitCount 2 (.iconst 1) 1 3 := ⟨by decide +kernel, rfl⟩
theorem d_In_bitCount_3 : DI M_In_bitCount 3 (.iushr) 1 4 := ⟨by decide +kernel, rfl⟩
theorem d_In_bitCount_4 : DI M_In_bitCount 4 (.ldc_w 265) 3 7 := ⟨by decide +kernel, rfl⟩
theorem d_In_bitCount_7 : DI M_In_bitCount 7 (.iand) 1 8 := ⟨by decide +kernel, rfl⟩
theorem d_In_bitCount_8 : DI M_In_bitCount 8 (.isub) 1 9 := ⟨by decide +kernel, rfl⟩
theorem d_In_bitCount_9 : DI M_In_bitCount 9 (.istore_n 0) 1 10 := ⟨by decide +kernel, rfl⟩
theorem d_In_bitCount_10 : DI M_In_bitCount 10 (.iload_n 0) 1 11 := ⟨by decide +kernel, rfl⟩
theorem d_In_bitCount_11 : DI M_In_bitCount 11 (.ldc_w 266) 3 14 := ⟨by decide +kernel, rfl⟩
theorem d_In_bitCount_14 : DI M_In_bitCount 14 (.iand) 1 15 := ⟨by decide +kernel, rfl⟩
theorem d_In_bitCount_15 : DI M_In_bitCount 15 (.iload_n 0) 1 16 := ⟨by decide +kernel, rfl⟩
theorem d_In_bitCount_16 : DI M_In_bitCount 16 (.iconst 2) 1 17 := ⟨by decide +kernel, rfl⟩
theorem d_In_bitCount_17 : DI M_In_bitCount 17 (.iushr) 1 18 := ⟨by decide +kernel, rfl⟩
theorem d_In_bitCount_18 : DI M_In_bitCount 18 (.ldc_w 266) 3 21 := ⟨by decide +kernel, rfl⟩
theorem d_In_bitCount_21 : DI M_In_bitCount 21 (.iand) 1 22 := ⟨by decide +kernel, rfl⟩
theorem d_In_bitCount_22 : DI M_In_bitCount 22 (.iadd) 1 23 := ⟨by decide +kernel, rfl⟩
theorem d_In_bitCount_23 : DI M_In_bitCount 23 (.istore_n 0) 1 24 := ⟨by decide +kernel, rfl⟩
theorem d_In_bitCount_24 : DI M_In_bitCount 24 (.iload_n 0) 1 25 := ⟨by decide +kernel, rfl⟩
theorem d_In_bitCount_25 : DI M_In_bitCount 25 (.iload_n 0) 1 26 := ⟨by decide +kernel, rfl⟩
theorem d_In_bitCount_26 : DI M_In_bitCount 26 (.iconst 4) 1 27 := ⟨by decide +kernel, rfl⟩
theorem d_In_bitCount_27 : DI M_In_bitCount 27 (.iushr) 1 28 := ⟨by decide +kernel, rfl⟩
theorem d_In_bitCount_28 : DI M_In_bitCount 28 (.iadd) 1 29 := ⟨by decide +kernel, rfl⟩
theorem d_In_bitCount_29 : DI M_In_bitCount 29 (.ldc_w 267) 3 32 := ⟨by decide +kernel, rfl⟩
theorem d_In_bitCount_32 : DI M_In_bitCount 32 (.iand) 1 33 := ⟨by decide +kernel, rfl⟩
theorem d_In_bitCount_33 : DI M_In_bitCount 33 (.istore_n 0) 1 34 := ⟨by decide +kernel, rfl⟩
theorem d_In_bitCount_34 : DI M_In_bitCount 34 (.iload_n 0) 1 35 := ⟨by decide +kernel, rfl⟩
theorem d_In_bitCount_35 : DI M_In_bitCount 35 (.iload_n 0) 1 36 := ⟨by decide +kernel, rfl⟩
theorem d_In_bitCount_36 : DI M_In_bitCount 36 (.bipush 8) 2 38 := ⟨by decide +kernel, rfl⟩
theorem d_In_bitCount_38 : DI M_In_bitCount 38 (.iushr) 1 39 := ⟨by decide +kernel, rfl⟩
theorem d_In_bitCount_39 : DI M_In_bitCount 39 (.iadd) 1 40 := ⟨by decide +kernel, rfl⟩
theorem d_In_bitCount_40 : DI M_In_bitCount 40 (.istore_n 0) 1 41 := ⟨by decide +kernel, rfl⟩
theorem d_In_bitCount_41 : DI M_In_bitCount 41 (.iload_n 0) 1 42 := ⟨by decide +kernel, rfl⟩
theorem d_In_bitCount_42 : DI M_In_bitCount 42 (.iload_n 0) 1 43 := ⟨by decide +kernel, rfl⟩
theorem d_In_bitCount_43 : DI M_In_bitCount 43 (.bipush 16) 2 45 := ⟨by decide +kernel, rfl⟩
theorem d_In_bitCount_45 : DI M_In_bitCount 45 (.iushr) 1 46 := ⟨by decide +kernel, rfl⟩
theorem d_In_bitCount_46 : DI M_In_bitCount 46 (.iadd) 1 47 := ⟨by decide +kernel, rfl⟩
theorem d_In_bitCount_47 : DI M_In_bitCount 47 (.istore_n 0) 1 48 := ⟨by decide +kernel, rfl⟩
theorem d_In_bitCount_48 : DI M_In_bitCount 48 (.iload_n 0) 1 49 := ⟨by decide +kernel, rfl⟩
theorem d_In_bitCount_49 : DI M_In_bitCount 49 (.bipush 63) 2 51 := ⟨by decide +kernel, rfl⟩
theorem d_In_bitCount_51 : DI M_In_bitCount 51 (.iand) 1 52 := ⟨by decide +kernel, rfl⟩
theorem d_In_bitCount_52 : DI M_In_bitCount 52 (.ireturn) 1 53 := ⟨by decide +kernel, rfl⟩
theorem d_In_numberOfLeadingZeros_0 : DI M_In_numberOfLeadingZeros 0 (.iload_n 0) 1 1 := ⟨by decide +kernel, rfl⟩
theorem d_In_numberOfLeadingZeros_1 : DJ M_In_numberOfLeadingZeros 1 (.ifCond .gt 14) 14 3 4 15 := ⟨by decide +kernel, rfl, rfl⟩
theorem d_In_numberOfLeadingZeros_4 : DI M_In_numberOfLeadingZeros 4 (.iload_n 0) 1 5 := ⟨by decide +kernel, rfl⟩
theorem d_In_numberOfLeadingZeros_5 : DJ M_In_numberOfLeadingZeros 5 (.ifCond .ne 8) 8 3 8 13 := ⟨by decide +kernel, rfl, rfl⟩
theorem d_In_numberOfLeadingZeros_8 : DI M_In_numberOfLeadingZeros 8 (.bipush 32) 2 10 := ⟨by decide +kernel, rfl⟩
theorem d_In_numberOfLeadingZeros_10 : DJ M_In_numberOfLeadingZeros 10 (.goto 4) 4 3 13 14 := ⟨by decide +kernel, rfl, rfl⟩
theorem d_In_numberOfLeadingZeros_13 : DI M_In_numberOfLeadingZeros 13 (.iconst 0) 1 14 := ⟨by decide +kernel, rfl⟩
theorem d_In_numberOfLeadingZeros_14 : DI M_In_numberOfLeadingZeros 14 (.ireturn) 1 15 := ⟨by decide +kernel, rfl⟩
theorem d_In_numberOfLeadingZeros_15 : DI M_In_numberOfLeadingZeros 15 (.bipush 31) 2 17 := ⟨by decide +kernel, rfl⟩
theorem d_In_numberOfLeadingZeros_17 : DI M_In_numberOfLeadingZeros 17 (.istore_n 1) 1 18 := ⟨by decide +kernel, rfl⟩
theorem d_In_numberOfLeadingZeros_18 : DI M_In_numberOfLeadingZeros 18 (.iload_n 0) 1 19 := ⟨by decide +kernel, rfl⟩
theorem d_In_numberOfLeadingZeros_19 : DI M_In_numberOfLeadingZeros 19 (.ldc_w 264) 3 22 := ⟨by decide +kernel, rfl⟩
theorem d_In_numberOfLeadingZeros_22 : DJ M_In_numberOfLeadingZeros 22 (.if_icmp .lt 11) 11 3 25 33 := ⟨by decide +kernel, rfl, rfl⟩
theorem d_In_numberOfLeadingZeros_25 : DI M_In_numberOfLeadingZeros 25 (.iinc 1 (-16)) 3 28 := ⟨by decide +kernel, rfl⟩
theorem d_In_numberOfLeadingZeros_28 : DI M_In_numberOfLeadingZeros 28 (.iload_n 0) 1 29 := ⟨by decide +kernel, rfl⟩
theorem d_In_numberOfLeadingZeros_29 : DI M_In_numberOfLeadingZeros 29 (.bipush 16) 2 31 := ⟨by decide +kernel, rfl⟩
theorem d_In_numberOfLeadingZeros_31 : DI M_In_numberOfLeadingZeros 31 (.iushr) 1 32 := ⟨by decide +kernel, rfl⟩
theorem d_In_numberOfLeadingZeros_32 : DI M_In_numberOfLeadingZeros 32 (.istore_n 0) 1 33 := ⟨by decide +kernel, rfl⟩
theorem d_In_numberOfLeadingZeros_33 : DI M_In_numberOfLeadingZeros 33 (.iload_n 0) 1 34 := ⟨by decide +kernel, rfl⟩
theorem d_In_numberOfLeadingZeros_34 : DI M_In_numberOfLeadingZeros 34 (.sipush 256) 3 37 := ⟨by decide +kernel, rfl⟩
theorem d_In_numberOfLeadingZeros_37 : DJ M_In_numberOfLeadingZeros 37 (.if_icmp .lt 11) 11 3 40 48 := ⟨by decide +kernel, rfl, rfl⟩
theorem d_In_numberOfLeadingZeros_40 : DI M_In_numberOfLeadingZeros 40 (.iinc 1 (-8)) 3 43 := ⟨by decide +kernel, rfl⟩
theorem d_In_numberOfLeadingZeros_43 : DI M_In_numberOfLeadingZeros 43 (.iload_n 0) 1 44 := ⟨by decide +kernel, rfl⟩
theorem d_In_numberOfLeadingZeros_44 : DI M_In_numberOfLeadingZeros 44 (.bipush 8) 2 46 := ⟨by decide +kernel, rfl⟩
theorem d_In_numberOfLeadingZeros_46 : DI M_In_numberOfLeadingZeros 46 (.iushr) 1 47 := ⟨by decide +kernel, rfl⟩
theorem d_In_numberOfLeadingZeros_47 : DI M_In_numberOfLeadingZeros 47 (.istore_n 0) 1 48 := ⟨by decide +kernel, rfl⟩
theorem d_In_numberOfLeadingZeros_48 : DI M_In_numberOfLeadingZeros 48 (.iload_n 0) 1 49 := ⟨by decide +kernel, rfl⟩
theorem d_In_numberOfLeadingZeros_49 : DI M_In_numberOfLeadingZeros 49 (.bipush 16) 2 51 := ⟨by decide +kernel, rfl⟩
theorem d_In_numberOfLeadingZeros_51 : DJ M_In_numberOfLeadingZeros 51 (.if_icmp .lt 10) 10 3 54 61 := ⟨by decide +kernel, rfl, rfl⟩
theorem d_In_numberOfLeadingZeros_54 : DI M_In_numberOfLeadingZeros 54 (.iinc 1 (-4)) 3 57 := ⟨by decide +kernel, rfl⟩
theorem d_In_numberOfLeadingZeros_57 : DI M_In_numberOfLeadingZeros 57 (.iload_n 0) 1 58 := ⟨by decide +kernel, rfl⟩
theorem d_In_numberOfLeadingZeros_58 : DI M_In_numberOfLeadingZeros 58 (.iconst 4) 1 59 := ⟨by decide +kernel, rfl⟩
theorem d_In_numberOfLeadingZeros_59 : DI M_In_numberOfLeadingZeros 59 (.iushr) 1 60 := ⟨by decide +kernel, rfl⟩
theorem d_In_numberOfLeadingZeros_60 : DI M_In_numberOfLeadingZeros 60 (.istore_n 0) 1 61 := ⟨by decide +kernel, rfl⟩
theorem d_In_numberOfLeadingZeros_61 : DI M_In_numberOfLeadingZeros 61 (.iload_n 0) 1 62 := ⟨by decide +kernel, rfl⟩
theorem d_In_numberOfLeadingZeros_62 : DI M_In_numberOfLeadingZeros 62 (.iconst 4) 1 63 := ⟨by decide +kernel, rfl⟩
theorem d_In_numberOfLeadingZeros_63 : DJ M_In_numberOfLeadingZeros 63 (.if_icmp .lt 10) 10 3 66 73 := ⟨by decide +kernel, rfl, rfl⟩
theorem d_In_numberOfLeadingZeros_66 : DI M_In_numberOfLeadingZeros 66 (.iinc 1 (-2)) 3 69 := ⟨by decide +kernel, rfl⟩
theorem d_In_numberOfLeadingZeros_69 : DI M_In_numberOfLeadingZeros 69 (.iload_n 0) 1 70 := ⟨by decide +kernel, rfl⟩
theorem d_In_numberOfLeadingZeros_70 : DI M_In_numberOfLeadingZeros 70 (.iconst 2) 1 71 := ⟨by decide +kernel, rfl⟩
theorem d_In_numberOfLeadingZeros_71 : DI M_In_numberOfLeadingZeros 71 (.iushr) 1 72 := ⟨by decide +kernel, rfl⟩
theorem d_In_numberOfLeadingZeros_72 : DI M_In_numberOfLeadingZeros 72 (.istore_n 0) 1 73 := ⟨by decide +kernel, rfl⟩
theorem d_In_numberOfLeadingZeros_73 : DI M_In_numberOfLeadingZeros 73 (.iload_n 1) 1 74 := ⟨by decide +kernel, rfl⟩
theorem d_In_numberOfLeadingZeros_74 : DI M_In_numberOfLeadingZeros 74 (.iload_n 0) 1 75 := ⟨by decide +kernel, rfl⟩
theorem d_In_numberOfLeadingZeros_75 : DI M_In_numberOfLeadingZeros 75 (.iconst 1) 1 76 := ⟨by decide +kernel, rfl⟩
theorem d_In_numberOfLeadingZeros_76 : DI M_In_numberOfLeadingZeros 76 (.iushr) 1 77 := ⟨by decide +kernel, rfl⟩
theorem d_In_numberOfLeadingZeros_77 : DI M_In_numberOfLeadingZeros 77 (.isub) 1 78 := ⟨by decide +kernel, rfl⟩
theorem d_In_numberOfLeadingZeros_78 : DI M_In_numberOfLeadingZeros 78 (.ireturn) 1 79 := ⟨by decide +kernel, rfl⟩
end
section
/-! ===== the instructions: 08.dec2 ===== -/
theorem d_Rf_init_0 : DI M_Rf_init 0 (.aload_n 0) 1 1 := ⟨by decide +kernel, rfl⟩
theorem d_Rf_init_1 : DI M_Rf_init 1 (.invokespecial 1) 3 4 := ⟨by decide +kernel, rfl⟩
theorem d_Rf_init_4 : DI M_Rf_init 4 (.aload_n 0) 1 5 := ⟨by decide +kernel, rfl⟩
theorem d_Rf_init_5 : DI M_Rf_init 5 (.bipush 48) 2 7 := ⟨by decide +kernel, rfl⟩
theorem d_Rf_init_7 : DI M_Rf_init 7 (.newarray .int) 2 9 := ⟨by decide +kernel, rfl⟩
theorem d_Rf_init_9 : DI M_Rf_init 9 (.putfield 7) 3 12 := ⟨by decide +kernel, rfl⟩
theorem d_Rf_init_12 : DI M_Rf_init 12 (.aload_n 0) 1 13 := ⟨by decide +kernel, rfl⟩
theorem d_Rf_init_13 : DI M_Rf_init 13 (.iconst 4) 1 14 := ⟨by decide +kernel, rfl⟩
theorem d_Rf_init_14 : DI M_Rf_init 14 (.newarray .int) 2 16 := ⟨by decide +kernel, rfl⟩
theorem d_Rf_init_16 : DI M_Rf_init 16 (.putfield 13) 3 19 := ⟨by decide +kernel, rfl⟩
theorem d_Rf_init_19 : DI M_Rf_init 19 (.aload_n 0) 1 20 := ⟨by decide +kernel, rfl⟩
theorem d_Rf_init_20 : DI M_Rf_init 20 (.bipush 18) 2 22 := ⟨by decide +kernel, rfl⟩
theorem d_Rf_init_22 : DI M_Rf_init 22 (.newarray .int) 2 24 := ⟨by decide +kernel, rfl⟩
theorem d_Rf_init_24 : DI M_Rf_init 24 (.putfield 16) 3 27 := ⟨by decide +kernel, rfl⟩
theorem d_Rf_init_27 : DI M_Rf_init 27 (.aload_n 0) 1 28 := ⟨by decide +kernel, rfl⟩
theorem d_Rf_init_28 : DI M_Rf_init 28 (.iconst 4) 1 29 := ⟨by decide +kernel, rfl⟩
theorem d_Rf_init_29 : DI M_Rf_init 29 (.newarray .int) 2 31 := ⟨by decide +kernel, rfl⟩
theorem d_Rf_init_31 : DI M_Rf_init 31 (.putfield 19) 3 34 := ⟨by decide +kernel, rfl⟩
theorem d_Rf_init_34 : DI M_Rf_init 34 (.aload_n 0) 1 35 := ⟨by decide +kernel, rfl⟩
theorem d_Rf_init_35 : DI M_Rf_init 35 (.bipush 24) 2 37 := ⟨by decide +kernel, rfl⟩
theorem d_Rf_init_37 : DI M_Rf_init 37 (.newarray .int) 2 39 := ⟨by decide +kernel, rfl⟩
theorem d_Rf_init_39 : DI M_Rf_init 39 (.putfield 22) 3 42 := ⟨by decide +kernel, rfl⟩
theorem d_Rf_init_42 : DI M_Rf_init 42 (.aload_n 0) 1 43 := ⟨by decide +kernel, rfl⟩
theorem d_Rf_init_43 : DI M_Rf_init 43 (.bipush 14) 2 45 := ⟨by decide +kernel, rfl⟩
theorem d_Rf_init_45 : DI M_Rf_init 45 (.newarray .int) 2 47 := ⟨by decide +kernel, rfl⟩
theorem d_Rf_init_47 : DI M_Rf_init 47 (.putfield 25) 3 50 := ⟨by decide +kernel, rfl⟩
theorem d_Rf_init_50 : DI M_Rf_init 50 (.aload_n 0) 1 51 := ⟨by decide +kernel, rfl⟩
theorem d_Rf_init_51 : DI M_Rf_init 51 (.bipush 14) 2 53 := ⟨by decide +kernel, rfl⟩
theorem d_Rf_init_53 : DI M_Rf_init 53 (.newarray .int) 2 55 := ⟨by decide +kernel, rfl⟩
theorem d_Rf_init_55 : DI M_Rf_init 55 (.putfield 28) 3 58 := ⟨by decide +kernel, rfl⟩
theorem d_Rf_init_58 : DI M_Rf_init 58 (.aload_n 0) 1 59 := ⟨by decide +kernel, rfl⟩
theorem d_Rf_init_59 : DI M_Rf_init 59 (.sipush 196) 3 62 := ⟨by decide +kernel, rfl⟩
theorem d_Rf_init_62 : DI M_Rf_init 62 (.newarray .int) 2 64 := ⟨by decide +kernel, rfl⟩
theorem d_Rf_init_64 : DI M_Rf_init 64 (.putfield 31) 3 67 := ⟨by decide +kernel, rfl⟩
theorem d_Rf_init_67 : DI M_Rf_init 67 (.aload_n 0) 1 68 := ⟨by decide +kernel, rfl⟩
theorem d_Rf_init_68 : DI M_Rf_init 68 (.bipush 28) 2 70 := ⟨by decide +kernel, rfl⟩
theorem d_Rf_init_70 : DI M_Rf_init 70 (.newarray .int) 2 72 := ⟨by decide +kernel, rfl⟩
theorem d_Rf_init_72 : DI M_Rf_init 72 (.putfield 34) 3 75 := ⟨by decide +kernel, rfl⟩
theorem d_Rf_init_75 : DI M_Rf_init 75 (.aload_n 0) 1 76 := ⟨by decide +kernel, rfl⟩
theorem d_Rf_init_76 : DI M_Rf_init 76 (.iconst 2) 1 77 := ⟨by decide +kernel, rfl⟩
theorem d_Rf_init_77 : DI M_Rf_init 77 (.newarray .boolean) 2 79 := ⟨by decide +kernel, rfl⟩
theorem d_Rf_init_79 : DI M_Rf_init 79 (.putfield 37) 3 82 := ⟨by decide +kernel, rfl⟩
theorem d_Rf_init_82 : DI M_Rf_init 82 (.aload_n 0) 1 83 := ⟨by decide +kernel, rfl⟩
theorem d_Rf_init_83 : DI M_Rf_init 83 (.bipush 6) 2 85 := ⟨by decide +kernel, rfl⟩
theorem d_Rf_init_85 : DI M_Rf_init 85 (.newarray .int) 2 87 := ⟨by decide +kernel, rfl⟩
theorem d_Rf_init_87 : DI M_Rf_init 87 (.putfield 41) 3 90 := ⟨by decide +kernel, rfl⟩
theorem d_Rf_init_90 : DI M_Rf_init 90 (.aload_n 0) 1 91 := ⟨by decide +kernel, rfl⟩
theorem d_Rf_init_91 : DI M_Rf_init 91 (.bipush 6) 2 93 := ⟨by decide +kernel, rfl⟩
theorem d_Rf_init_93 : DI M_Rf_init 93 (.newarray .int) 2 95 := ⟨by decide +kernel, rfl⟩
theorem d_Rf_init_95 : DI M_Rf_init 95 (.putfield 44) 3 98 := ⟨by decide +kernel, rfl⟩
theorem d_Rf_init_98 : DI M_Rf_init 98 (.aload_n 0) 1 99 := ⟨by decide +kernel, rfl⟩
theorem d_Rf_init_99 : DI M_Rf_init 99 (.bipush 8) 2 101 := ⟨by decide +kernel, rfl⟩
theorem d_Rf_init_101 : DI M_Rf_init 101 (.newarray .int) 2 103 := ⟨by decide +kernel, rfl⟩
theorem d_Rf_init_103 : DI M_Rf_init 103 (.putfield 47) 3 106 := ⟨by decide +kernel, rfl⟩
theorem d_Rf_init_106 : DI M_Rf_init 106 (.aload_n 0) 1 107 := ⟨by decide +kernel, rfl⟩
theorem d_Rf_init_107 : DI M_Rf_init 107 (.bipush 6) 2 109 := ⟨by decide +kernel, rfl⟩
theorem d_Rf_init_109 : DI M_Rf_init 109 (.newarray .int) 2 111 := ⟨by decide +kernel, rfl⟩
theorem d_Rf_init_111 : DI M_Rf_init 111 (.putfield 50) 3 114 := ⟨by decide +kernel, rfl⟩
theorem d_Rf_init_114 : DI M_Rf_init 114 (.aload_n 0) 1 115 := ⟨by decide +kernel, rfl⟩
theorem d_Rf_init_115 : DI M_Rf_init 115 (.bipush 64) 2 117 := ⟨by decide +kernel, rfl⟩
theorem d_Rf_init_117 : DI M_Rf_init 117 (.newarray .int) 2 119 := ⟨by decide +kernel, rfl⟩
theorem d_Rf_init_119 : DI M_Rf_init 119 (.putfield 53) 3 122 := ⟨by decide +kernel, rfl⟩
theorem d_Rf_init_122 : DI M_Rf_init 122 (.aload_n 0) 1 123 := ⟨by decide +kernel, rfl⟩
theorem d_Rf_init_123 : DI M_Rf_init 123 (.bipush 6) 2 125 := ⟨by decide +kernel, rfl⟩
theorem d_Rf_init_125 : DI M_Rf_init 125 (.newarray .int) 2 127 := ⟨by decide +kernel, rfl⟩
theorem d_Rf_init_127 : DI M_Rf_init 127 (.putfield 56) 3 130 := ⟨by decide +kernel, rfl⟩
theorem d_Rf_init_130 : DI M_Rf_init 130 (.return_) 1 131 := ⟨by decide +kernel, rfl⟩
theorem d_Rf_in_0 : DI M_Rf_in 0 (.lload_n 0) 1 1 := ⟨by decide +kernel, rfl⟩
theorem d_Rf_in_1 : DI M_Rf_in 1 (.lload_n 2) 1 2 := ⟨by decide +kernel, rfl⟩
theorem d_Rf_in_2 : DI M_Rf_in 2 (.lcmp) 1 3 := ⟨by decide +kernel, rfl⟩
theorem d_Rf_in_3 : DJ M_Rf_in 3 (.ifCond .lt 14) 14 3 6 17 := ⟨by decide +kernel, rfl, rfl⟩
theorem d_Rf_in_6 : DI M_Rf_in 6 (.lload_n 0) 1 7 := ⟨by decide +kernel, rfl⟩
theorem d_Rf_in_7 : DI M_Rf_in 7 (.lload 4) 2 9 := ⟨by decide +kernel, rfl⟩
theorem d_Rf_in_9 : DI M_Rf_in 9 (.lcmp) 1 10 := ⟨by decide +kernel, rfl⟩
theorem d_Rf_in_10 : DJ M_Rf_in 10 (.ifCond .gt 7) 7 3 13 17 := ⟨by decide +kernel, rfl, rfl⟩
theorem d_Rf_in_13 : DI M_Rf_in 13 (.iconst 1) 1 14 := ⟨by decide +kernel, rfl⟩
theorem d_Rf_in_14 : DJ M_Rf_in 14 (.goto 4) 4 3 17 18 := ⟨by decide +kernel, rfl, rfl⟩
theorem d_Rf_in_17 : DI M_Rf_in 17 (.iconst 0) 1 18 := ⟨by decide +kernel, rfl⟩
theorem d_Rf_in_18 : DI M_Rf_in 18 (.ireturn) 1 19 := ⟨by decide +kernel, rfl⟩
theorem d_Rf_has_0 : DI M_Rf_has 0 (.iload_n 0) 1 1 := ⟨by decide +kernel, rfl⟩
theorem d_Rf_has_1 : DI M_Rf_has 1 (.iload_n 1) 1 2 := ⟨by decide +kernel, rfl⟩
theorem d_Rf_has_2 : DI M_Rf_has 2 (.ishr) 1 3 := ⟨by decide +kernel, rfl⟩
theorem d_Rf_has_3 : DI M_Rf_has 3 (.iconst 1) 1 4 := ⟨by decide +kernel, rfl⟩
theorem d_Rf_has_4 : DI M_Rf_has 4 (.iand) 1 5 := ⟨by decide +kernel, rfl⟩
theorem d_Rf_has_5 : DI M_Rf_has 5 (.iconst 1) 1 6 := ⟨by decide +kernel, rfl⟩
theorem d_Rf_has_6 : DJ M_Rf_has 6 (.if_icmp .ne 7) 7 3 9 13 := ⟨by decide +kernel, rfl, rfl⟩
theorem d_Rf_has_9 : DI M_Rf_has 9 (.iconst 1) 1 10 := ⟨by decide +kernel, rfl⟩
theorem d_Rf_has_10 : DJ M_Rf_has 10 (.goto 4) 4 3 13 14 := ⟨by decide +kernel, rfl, rfl⟩
theorem d_Rf_has_13 : DI M_Rf_has 13 (.iconst 0) 1 14 := ⟨by decide +kernel, rfl⟩
theorem d_Rf_has_14 : DI M_Rf_has 14 (.ireturn) 1 15 := ⟨by decide +kernel, rfl⟩
theorem d_Rf_many_0 : DI M_Rf_many 0 (.iconst 0) 1 1 := ⟨by decide +kernel, rfl⟩
theorem d_Rf_many_1 : DI M_Rf_many 1 (.istore_n 1) 1 2 := ⟨by decide +kernel, rfl⟩
theorem d_Rf_many_2 : DI M_Rf_many 2 (.iconst 0) 1 3 := ⟨by decide +kernel, rfl⟩
theorem d_Rf_many_3 : DI M_Rf_many 3 (.istore_n 2) 1 4 := ⟨by decide +kernel, rfl⟩
theorem d_Rf_many_4 : DI M_Rf_many 4 (.iload_n 2) 1 5 := ⟨by decide +kernel, rfl⟩
theorem d_Rf_many_5 : DI M_Rf_many 5 (.bipush 6) 2 7 := ⟨by decide +kernel, rfl⟩
theorem d_Rf_many_7 : DJ M_Rf_many 7 (.if_icmp .ge 17) 17 3 10 24 := ⟨by decide +kernel, rfl, rfl⟩
theorem d_Rf_many_10 : DI M_Rf_many 10 (.iload_n 1) 1 11 := ⟨by decide +kernel, rfl⟩
theorem d_Rf_many_11 : DI M_Rf_many 11 (.iload_n 0) 1 12 := ⟨by decide +kernel, rfl⟩
theorem d_Rf_many_12 : DI M_Rf_many 12 (.iload_n 2) 1 13 := ⟨by decide +kernel, rfl⟩
theorem d_Rf_many_13 : DI M_Rf_many 13 (.ishr) 1 14 := ⟨by decide +kernel, rfl⟩
theorem d_Rf_many_14 : DI M_Rf_many 14 (.iconst 1) 1 15 := ⟨by decide +kernel, rfl⟩
theorem d_Rf_many_15 : DI M_Rf_many 15 (.iand) 1 16 := ⟨by decide +kernel, rfl⟩
theorem d_Rf_many_16 : DI M_Rf_many 16 (.iadd) 1 17 := ⟨by decide +kernel, rfl⟩
theorem d_Rf_many_17 : DI M_Rf_many 17 (.istore_n 1) 1 18 := ⟨by decide +kernel, rfl⟩
theorem d_Rf_many_18 : DI M_Rf_many 18 (.iinc 2 1) 3 21 := ⟨by decide +kernel, rfl⟩
theorem d_Rf_many_21 : DJ M_Rf_many 21 (.goto (-17)) (-17) 3 24 4 := ⟨by decide +kernel, rfl, rfl⟩
theorem d_Rf_many_24 : DI M_Rf_many 24 (.iload_n 1) 1 25 := ⟨by decide +kernel, rfl⟩
theorem d_Rf_many_25 : DI M_Rf_many 25 (.ireturn) 1 26 := ⟨by decide +kernel, rfl⟩
theorem d_Rf_power_0 : DI M_Rf_power 0 (.iconst 1) 1 1 := ⟨by decide +kernel, rfl⟩
theorem d_Rf_power_1 : DI M_Rf_power 1 (.istore_n 2) 1 2 := ⟨by decide +kernel, rfl⟩
theorem d_Rf_power_2 : DI M_Rf_power 2 (.iconst 0) 1 3 := ⟨by decide +kernel, rfl⟩
theorem d_Rf_power_3 : DI M_Rf_power 3 (.istore_n 3) 1 4 := ⟨by decide +kernel, rfl⟩
theorem d_Rf_power_4 : DI M_Rf_power 4 (.iload_n 3) 1 5 := ⟨by decide +kernel, rfl⟩
theorem d_Rf_power_5 : DI M_Rf_power 5 (.iload_n 1) 1 6 := ⟨by decide +kernel, rfl⟩
theorem d_Rf_power_6 : DJ M_Rf_power 6 (.if_icmp .ge 13) 13 3 9 19 := ⟨by decide +kernel, rfl, rfl⟩
theorem d_Rf_power_9 : DI M_Rf_power 9 (.iload_n 2) 1 10 := ⟨by decide +kernel, rfl⟩
theorem d_Rf_power_10 : DI M_Rf_power 10 (.iload_n 0) 1 11 := ⟨by decide +kernel, rfl⟩
theorem d_Rf_power_11 : DI M_Rf_power 11 (.imul) 1 12 := ⟨by decide +kernel, rfl⟩
theorem d_Rf_power_12 : DI M_Rf_power 12 (.istore_n 2) 1 13 := ⟨by decide +kernel, rfl⟩
theorem d_Rf_power_13 : DI M_Rf_power 13 (.iinc 3 1) 3 16 := ⟨by decide +kernel, rfl⟩
theorem d_Rf_power_16 : DJ M_Rf_power 16 (.goto (-12)) (-12) 3 19 4 := ⟨by decide +kernel, rfl, rfl⟩
theorem d_Rf_power_19 : DI M_Rf_power 19 (.iload_n 2) 1 20 := ⟨by decide +kernel, rfl⟩
theorem d_Rf_power_20 : DI M_Rf_power 20 (.ireturn) 1 21 := ⟨by decide +kernel, rfl⟩
theorem d_Rf_noHolder_0 : DI M_Rf_noHolder 0 (.iload_n 1) 1 1 := ⟨by decide +kernel, rfl⟩
theorem d_Rf_noHolder_1 : DI M_Rf_noHolder 1 (.i2l) 1 2 := ⟨by decide +kernel, rfl⟩
theorem d_Rf_noHolder_2 : DI M_Rf_noHolder 2 (.lconst 0) 1 3 := ⟨by decide +kernel, rfl⟩
theorem d_Rf_noHolder_3 : DI M_Rf_noHolder 3 (.aload_n 0) 1 4 := ⟨by decide +kernel, rfl⟩
theorem d_Rf_noHolder_4 : DI M_Rf_noHolder 4 (.getfield 63) 3 7 := ⟨by decide +kernel, rfl⟩
theorem d_Rf_noHolder_7 : DI M_Rf_noHolder 7 (.iconst 1) 1 8 := ⟨by decide +kernel, rfl⟩
theorem d_Rf_noHolder_8 : DI M_Rf_noHolder 8 (.isub) 1 9 := ⟨by decide +kernel, rfl⟩
theorem d_Rf_noHolder_9 : DI M_Rf_noHolder 9 (.i2l) 1 10 := ⟨by decide +kernel, rfl⟩
theorem d_Rf_noHolder_10 : DI M_Rf_noHolder 10 (.invokestatic 66) 3 13 := ⟨by decide +kernel, rfl⟩
theorem d_Rf_noHolder_13 : DJ M_Rf_noHolder 13 (.ifCond .ne 7) 7 3 16 20 := ⟨by decide +kernel, rfl, rfl⟩
theorem d_Rf_noHolder_16 : DI M_Rf_noHolder 16 (.iconst 1) 1 17 := ⟨by decide +kernel, rfl⟩
theorem d_Rf_noHolder_17 : DJ M_Rf_noHolder 17 (.goto 4) 4 3 20 21 := ⟨by decide +kernel, rfl, rfl⟩
theorem d_Rf_noHolder_20 : DI M_Rf_noHolder 20 (.iconst 0) 1 21 := ⟨by decide +kernel, rfl⟩
theorem d_Rf_noHolder_21 : DI M_Rf_noHolder 21 (.ireturn) 1 22 := ⟨by decide +kernel, rfl⟩
theorem d_Rf_noPiece_0 : DI M_Rf_noPiece 0 (.iload_n 1) 1 1 := ⟨by decide +kernel, rfl⟩
theorem d_Rf_noPiece_1 : DI M_Rf_noPiece 1 (.i2l) 1 2 := ⟨by decide +kernel, rfl⟩
theorem d_Rf_noPiece_2 : DI M_Rf_noPiece 2 (.lconst 0) 1 3 := ⟨by decide +kernel, rfl⟩
theorem d_Rf_noPiece_3 : DI M_Rf_noPiece 3 (.aload_n 0) 1 4 := ⟨by decide +kernel, rfl⟩
theorem d_Rf_noPiece_4 : DI M_Rf_noPiece 4 (.getfield 70) 3 7 := ⟨by decide +kernel, rfl⟩
theorem d_Rf_noPiece_7 : DI M_Rf_noPiece 7 (.iconst 1) 1 8 := ⟨by decide +kernel, rfl⟩
theorem d_Rf_noPiece_8 : DI M_Rf_noPiece 8 (.isub) 1 9 := ⟨by decide +kernel, rfl⟩
theorem d_Rf_noPiece_9 : DI M_Rf_noPiece 9 (.i2l) 1 10 := ⟨by decide +kernel, rfl⟩
theorem d_Rf_noPiece_10 : DI M_Rf_noPiece 10 (.invokestatic 66) 3 13 := ⟨by decide +kernel, rfl⟩
theorem d_Rf_noPiece_13 : DJ M_Rf_noPiece 13 (.ifCond .ne 7) 7 3 16 20 := ⟨by decide +kernel, rfl, rfl⟩
theorem d_Rf_noPiece_16 : DI M_Rf_noPiece 16 (.iconst 1) 1 17 := ⟨by decide +kernel, rfl⟩
theorem d_Rf_noPiece_17 : DJ M_Rf_noPiece 17 (.goto 4) 4 3 20 21 := ⟨by decide +kernel, rfl, rfl⟩
theorem d_Rf_noPiece_20 : DI M_Rf_noPiece 20 (.iconst 0) 1 21 := ⟨by decide +kernel, rfl⟩
theorem d_Rf_noPiece_21 : DI M_Rf_noPiece 21 (.ireturn) 1 22 := ⟨by decide +kernel, rfl⟩
theorem d_Rf_write_0 : DI M_Rf_write 0 (.aload_n 0) 1 1 := ⟨by decide +kernel, rfl⟩
theorem d_Rf_write_1 : DI M_Rf_write 1 (.iconst 0) 1 2 := ⟨by decide +kernel, rfl⟩
theorem d_Rf_write_2 : DI M_Rf_write 2 (.putfield 59) 3 5 := ⟨by decide +kernel, rfl⟩
theorem d_Rf_write_5 : DI M_Rf_write 5 (.iload_n 1) 1 6 := ⟨by decide +kernel, rfl⟩
theorem d_Rf_write_6 : DI M_Rf_write 6 (.i2l) 1 7 := ⟨by decide +kernel, rfl⟩
theorem d_Rf_write_7 : DI M_Rf_write 7 (.lconst 0) 1 8 := ⟨by decide +kernel, rfl⟩
theorem d_Rf_write_8 : DI M_Rf_write 8 (.ldc2_w 73) 3 11 := ⟨by decide +kernel, rfl⟩
theorem d_Rf_write_11 : DI M_Rf_write 11 (.invokestatic 66) 3 14 := ⟨by decide +kernel, rfl⟩
theorem d_Rf_write_14 : DJ M_Rf_write 14 (.ifCond .ne 6) 6 3 17 20 := ⟨by decide +kernel, rfl, rfl⟩
theorem d_Rf_write_17 : DI M_Rf_write 17 (.bipush (-2)) 2 19 := ⟨by decide +kernel, rfl⟩
theorem d_Rf_write_19 : DI M_Rf_write 19 (.ireturn) 1 20 := ⟨by decide +kernel, rfl⟩
theorem d_Rf_write_20 : DI M_Rf_write 20 (.aload_n 0) 1 21 := ⟨by decide +kernel, rfl⟩
theorem d_Rf_write_21 : DI M_Rf_write 21 (.getfield 75) 3 24 := ⟨by decide +kernel, rfl⟩
theorem d_Rf_write_24 : DI M_Rf_write 24 (.bipush 48) 2 26 := ⟨by decide +kernel, rfl⟩
theorem d_Rf_write_26 : DJ M_Rf_write 26 (.if_icmp .ne 6) 6 3 29 32 := ⟨by decide +kernel, rfl, rfl⟩
theorem d_Rf_write_29 : DI M_Rf_write 29 (.bipush (-4)) 2 31 := ⟨by decide +kernel, rfl⟩
theorem d_Rf_write_31 : DI M_Rf_write 31 (.ireturn) 1 32 := ⟨by decide +kernel, rfl⟩
theorem d_Rf_write_32 : DI M_Rf_write 32 (.aload_n 0) 1 33 := ⟨by decide +kernel, rfl⟩
theorem d_Rf_write_33 : DI M_Rf_write 33 (.getfield 7) 3 36 := ⟨by decide +kernel, rfl⟩
theorem d_Rf_write_36 : DI M_Rf_write 36 (.aload_n 0) 1 37 := ⟨by decide +kernel, rfl⟩
theorem d_Rf_write_37 : DI M_Rf_write 37 (.getfield 75) 3 40 := ⟨by decide +kernel, rfl⟩
theorem d_Rf_write_40 : DI M_Rf_write 40 (.iload_n 1) 1 41 := ⟨by decide +kernel, rfl⟩
theorem d_Rf_write_41 : DI M_Rf_write 41 (.iastore) 1 42 := ⟨by decide +kernel, rfl⟩
theorem d_Rf_write_42 : DI M_Rf_write 42 (.aload_n 0) 1 43 := ⟨by decide +kernel, rfl⟩
theorem d_Rf_write_43 : DI M_Rf_write 43 (.dup) 1 44 := ⟨by decide +kernel, rfl⟩
theorem d_Rf_write_44 : DI M_Rf_write 44 (.getfield 75) 3 47 := ⟨by decide +kernel, rfl⟩
theorem d_Rf_write_47 : DI M_Rf_write 47 (.iconst 1) 1 48 := ⟨by decide +kernel, rfl⟩
theorem d_Rf_write_48 : DI M_Rf_write 48 (.iadd) 1 49 := ⟨by decide +kernel, rfl⟩
theorem d_Rf_write_49 : DI M_Rf_write 49 (.putfield 75) 3 52 := ⟨by decide +kernel, rfl⟩
theorem d_Rf_write_52 : DI M_Rf_write 52 (.aload_n 0) 1 53 := ⟨by decide +kernel, rfl⟩
theorem d_Rf_write_53 : DI M_Rf_write 53 (.getfield 75) 3 56 := ⟨by decide +kernel, rfl⟩
theorem d_Rf_write_56 : DI M_Rf_write 56 (.ireturn) 1 57 := ⟨by decide +kernel, rfl⟩
theorem d_Rf_wipe_0 : DI M_Rf_wipe 0 (.aload_n 0) 1 1 := ⟨by decide +kernel, rfl⟩
theorem d_Rf_wipe_1 : DI M_Rf_wipe 1 (.iconst 0) 1 2 := ⟨by decide +kernel, rfl⟩
theorem d_Rf_wipe_2 : DI M_Rf_wipe 2 (.putfield 59) 3 5 := ⟨by decide +kernel, rfl⟩
theorem d_Rf_wipe_5 : DI M_Rf_wipe 5 (.aload_n 0) 1 6 := ⟨by decide +kernel, rfl⟩
theorem d_Rf_wipe_6 : DI M_Rf_wipe 6 (.getfield 75) 3 9 := ⟨by decide +kernel, rfl⟩
theorem d_Rf_wipe_9 : DI M_Rf_wipe 9 (.istore_n 1) 1 10 := ⟨by decide +kernel, rfl⟩
theorem d_Rf_wipe_10 : DI M_Rf_wipe 10 (.aload_n 0) 1 11 := ⟨by decide +kernel, rfl⟩
theorem d_Rf_wipe_11 : DI M_Rf_wipe 11 (.iconst 0) 1 12 := ⟨by decide +kernel, rfl⟩
theorem d_Rf_wipe_12 : DI M_Rf_wipe 12 (.putfield 75) 3 15 := ⟨by decide +kernel, rfl⟩
theorem d_Rf_wipe_15 : DI M_Rf_wipe 15 (.iload_n 1) 1 16 := ⟨by decide +kernel, rfl⟩
theorem d_Rf_wipe_16 : DI M_Rf_wipe 16 (.ireturn) 1 17 := ⟨by decide +kernel, rfl⟩
theorem d_Rf_figure_0 : DI M_Rf_figure 0 (.aload_n 0) 1 1 := ⟨by decide +kernel, rfl⟩
theorem d_Rf_figure_1 : DI M_Rf_figure 1 (.getfield 78) 3 4 := ⟨by decide +kernel, rfl⟩
theorem d_Rf_figure_4 : DI M_Rf_figure 4 (.aload_n 0) 1 5 := ⟨by decide +kernel, rfl⟩
theorem d_Rf_figure_5 : DI M_Rf_figure 5 (.getfield 75) 3 8 := ⟨by decide +kernel, rfl⟩
theorem d_Rf_figure_8 : DJ M_Rf_figure 8 (.if_icmp .eq 25) 25 3 11 33 := ⟨by decide +kernel, rfl, rfl⟩
theorem d_Rf_figure_11 : DI M_Rf_figure 11 (.aload_n 0) 1 12 := ⟨by decide +kernel, rfl⟩
theorem d_Rf_figure_12 : DI M_Rf_figure 12 (.getfield 7) 3 15 := ⟨by decide +kernel, rfl⟩
theorem d_Rf_figure_15 : DI M_Rf_figure 15 (.aload_n 0) 1 16 := ⟨by decide +kernel, rfl⟩
theorem d_Rf_figure_16 : DI M_Rf_figure 16 (.getfield 78) 3 19 := ⟨by decide +kernel, rfl⟩
theorem d_Rf_figure_19 : DI M_Rf_figure 19 (.iaload) 1 20 := ⟨by decide +kernel, rfl⟩
theorem d_Rf_figure_20 : DI M_Rf_figure 20 (.bipush 48) 2 22 := ⟨by decide +kernel, rfl⟩
theorem d_Rf_figure_22 : DI M_Rf_figure 22 (.isub) 1 23 := ⟨by decide +kernel, rfl⟩
theorem d_Rf_figure_23 : DI M_Rf_figure 23 (.i2l) 1 24 := ⟨by decide +kernel, rfl⟩
theorem d_Rf_figure_24 : DI M_Rf_figure 24 (.lconst 0) 1 25 := ⟨by decide +kernel, rfl⟩
theorem d_Rf_figure_25 : DI M_Rf_figure 25 (.iload_n 1) 1 26 := ⟨by decide +kernel, rfl⟩
theorem d_Rf_figure_26 : DI M_Rf_figure 26 (.i2l) 1 27 := ⟨by decide +kernel, rfl⟩
theorem d_Rf_figure_27 : DI M_Rf_figure 27 (.invokestatic 66) 3 30 := ⟨by decide +kernel, rfl⟩
theorem d_Rf_figure_30 : DJ M_Rf_figure 30 (.ifCond .ne 6) 6 3 33 36 := ⟨by decide +kernel, rfl, rfl⟩
theorem d_Rf_figure_33 : DI M_Rf_figure 33 (.bipush (-9)) 2 35 := ⟨by decide +kernel, rfl⟩
theorem d_Rf_figure_35 : DI M_Rf_figure 35 (.ireturn) 1 36 := ⟨by decide +kernel, rfl⟩
theorem d_Rf_figure_36 : DI M_Rf_figure 36 (.aload_n 0) 1 37 := ⟨by decide +kernel, rfl⟩
theorem d_Rf_figure_37 : DI M_Rf_figure 37 (.dup) 1 38 := ⟨by decide +kernel, rfl⟩
theorem d_Rf_figure_38 : DI M_Rf_figure 38 (.getfield 78) 3 41 := ⟨by decide +kernel, rfl⟩
theorem d_Rf_figure_41 : DI M_Rf_figure 41 (.iconst 1) 1 42 := ⟨by decide +kernel, rfl⟩
theorem d_Rf_figure_42 : DI M_Rf_figure 42 (.iadd) 1 43 := ⟨by decide +kernel, rfl⟩
theorem d_Rf_figure_43 : DI M_Rf_figure 43 (.putfield 78) 3 46 := ⟨by decide +kernel, rfl⟩
theorem d_Rf_figure_46 : DI M_Rf_figure 46 (.aload_n 0) 1 47 := ⟨by decide +kernel, rfl⟩
theorem d_Rf_figure_47 : DI M_Rf_figure 47 (.getfield 7) 3 50 := ⟨by decide +kernel, rfl⟩
theorem d_Rf_figure_50 : DI M_Rf_figure 50 (.aload_n 0) 1 51 := ⟨by decide +kernel, rfl⟩
theorem d_Rf_figure_51 : DI M_Rf_figure 51 (.getfield 78) 3 54 := ⟨by decide +kernel, rfl⟩
theorem d_Rf_figure_54 : DI M_Rf_figure 54 (.iconst 1) 1 55 := ⟨by decide +kernel, rfl⟩
theorem d_Rf_figure_55 : DI M_Rf_figure 55 (.isub) 1 56 := ⟨by decide +kernel, rfl⟩
theorem d_Rf_figure_56 : DI M_Rf_figure 56 (.iaload) 1 57 := ⟨by decide +kernel, rfl⟩
theorem d_Rf_figure_57 : DI M_Rf_figure 57 (.bipush 48) 2 59 := ⟨by decide +kernel, rfl⟩
theorem d_Rf_figure_59 : DI M_Rf_figure 59 (.isub) 1 60 := ⟨by decide +kernel, rfl⟩
theorem d_Rf_figure_60 : DI M_Rf_figure 60 (.ireturn) 1 61 := ⟨by decide +kernel, rfl⟩
theorem d_Rf_readOneHolder_0 : DI M_Rf_readOneHolder 0 (.aload_n 0) 1 1 := ⟨by decide +kernel, rfl⟩
theorem d_Rf_readOneHolder_1 : DI M_Rf_readOneHolder 1 (.iconst 3) 1 2 := ⟨by decide +kernel, rfl⟩
theorem d_Rf_readOneHolder_2 : DI M_Rf_readOneHolder 2 (.invokevirtual 81) 3 5 := ⟨by decide +kernel, rfl⟩
theorem d_Rf_readOneHolder_5 : DI M_Rf_readOneHolder 5 (.istore_n 1) 1 6 := ⟨by decide +kernel, rfl⟩
theorem d_Rf_readOneHolder_6 : DI M_Rf_readOneHolder 6 (.iload_n 1) 1 7 := ⟨by decide +kernel, rfl⟩
theorem d_Rf_readOneHolder_7 : DI M_Rf_readOneHolder 7 (.bipush (-9)) 2 9 := ⟨by decide +kernel, rfl⟩
theorem d_Rf_readOneHolder_9 : DJ M_Rf_readOneHolder 9 (.if_icmp .ne 5) 5 3 12 14 := ⟨by decide +kernel, rfl, rfl⟩
theorem d_Rf_readOneHolder_12 : DI M_Rf_readOneHolder 12 (.iconst 0) 1 13 := ⟨by decide +kernel, rfl⟩
theorem d_Rf_readOneHolder_13 : DI M_Rf_readOneHolder 13 (.ireturn) 1 14 := ⟨by decide +kernel, rfl⟩
theorem d_Rf_readOneHolder_14 : DI M_Rf_readOneHolder 14 (.aload_n 0) 1 15 := ⟨by decide +kernel, rfl⟩
theorem d_Rf_readOneHolder_15 : DI M_Rf_readOneHolder 15 (.getfield 19) 3 18 := ⟨by decide +kernel, rfl⟩
theorem d_Rf_readOneHolder_18 : DI M_Rf_readOneHolder 18 (.aload_n 0) 1 19 := ⟨by decide +kernel, rfl⟩
theorem d_Rf_readOneHolder_19 : DI M_Rf_readOneHolder 19 (.getfield 85) 3 22 := ⟨by decide +kernel, rfl⟩
theorem d_Rf_readOneHolder_22 : DI M_Rf_readOneHolder 22 (.iload_n 1) 1 23 := ⟨by decide +kernel, rfl⟩
theorem d_Rf_readOneHolder_23 : DI M_Rf_readOneHolder 23 (.iastore) 1 24 := ⟨by decide +kernel, rfl⟩
theorem d_Rf_readOneHolder_24 : DI M_Rf_readOneHolder 24 (.aload_n 0) 1 25 := ⟨by decide +kernel, rfl⟩
theorem d_Rf_readOneHolder_25 : DI M_Rf_readOneHolder 25 (.dup) 1 26 := ⟨by decide +kernel, rfl⟩
theorem d_Rf_readOneHolder_26 : DI M_Rf_readOneHolder 26 (.getfield 85) 3 29 := ⟨by decide +kernel, rfl⟩
theorem d_Rf_readOneHolder_29 : DI M_Rf_readOneHolder 29 (.iconst 1) 1 30 := ⟨by decide +kernel, rfl⟩
theorem d_Rf_readOneHolder_30 : DI M_Rf_readOneHolder 30 (.iadd) 1 31 := ⟨by decide +kernel, rfl⟩
theorem d_Rf_readOneHolder_31 : DI M_Rf_readOneHolder 31 (.putfield 85) 3 34 := ⟨by decide +kernel, rfl⟩
theorem d_Rf_readOneHolder_34 : DI M_Rf_readOneHolder 34 (.iconst 1) 1 35 := ⟨by decide +kernel, rfl⟩
theorem d_Rf_readOneHolder_35 : DI M_Rf_readOneHolder 35 (.ireturn) 1 36 := ⟨by decide +kernel, rfl⟩
theorem d_Rf_readOnePiece_0 : DI M_Rf_readOnePiece 0 (.iconst 0) 1 1 := ⟨by decide +kernel, rfl⟩
theorem d_Rf_readOnePiece_1 : DI M_Rf_readOnePiece 1 (.istore_n 1) 1 2 := ⟨by decide +kernel, rfl⟩
theorem d_Rf_readOnePiece_2 : DI M_Rf_readOnePiece 2 (.iload_n 1) 1 3 := ⟨by decide +kernel, rfl⟩
theorem d_Rf_readOnePiece_3 : DI M_Rf_readOnePiece 3 (.iconst 4) 1 4 := ⟨by decide +kernel, rfl⟩
theorem d_Rf_readOnePiece_4 : DJ M_Rf_readOnePiece 4 (.if_icmp .ge 71) 71 3 7 75 := ⟨by decide +kernel, rfl, rfl⟩
theorem d_Rf_readOnePiece_7 : DI M_Rf_readOnePiece 7 (.iload_n 1) 1 8 := ⟨by decide +kernel, rfl⟩
theorem d_Rf_readOnePiece_8 : DJ M_Rf_readOnePiece 8 (.ifCond .ne 7) 7 3 11 15 := ⟨by decide +kernel, rfl, rfl⟩
theorem d_Rf_readOnePiece_11 : DI M_Rf_readOnePiece 11 (.iconst 4) 1 12 := ⟨by decide +kernel, rfl⟩
theorem d_Rf_readOnePiece_12 : DJ M_Rf_readOnePiece 12 (.goto 28) 28 3 15 40 := ⟨by decide +kernel, rfl, rfl⟩
theorem d_Rf_readOnePiece_15 : DI M_Rf_readOnePiece 15 (.iload_n 1) 1 16 := ⟨by decide +kernel, rfl⟩
theorem d_Rf_readOnePiece_16 : DI M_Rf_readOnePiece 16 (.iconst 1) 1 17 := ⟨by decide +kernel, rfl⟩
theorem d_Rf_readOnePiece_17 : DJ M_Rf_readOnePiece 17 (.if_icmp .ne 8) 8 3 20 25 := ⟨by decide +kernel, rfl, rfl⟩
theorem d_Rf_readOnePiece_20 : DI M_Rf_readOnePiece 20 (.bipush 7) 2 22 := ⟨by decide +kernel, rfl⟩
theorem d_Rf_readOnePiece_22 : DJ M_Rf_readOnePiece 22 (.goto 18) 18 3 25 40 := ⟨by decide +kernel, rfl, rfl⟩
theorem d_Rf_readOnePiece_25 : DI M_Rf_readOnePiece 25 (.iload_n 1) 1 26 := ⟨by decide +kernel, rfl⟩
theorem d_Rf_readOnePiece_26 : DI M_Rf_readOnePiece 26 (.iconst 2) 1 27 := ⟨by decide +kernel, rfl⟩
theorem d_Rf_readOnePiece_27 : DJ M_Rf_readOnePiece 27 (.if_icmp .ne 7) 7 3 30 34 := ⟨by decide +kernel, rfl, rfl⟩
theorem d_Rf_readOnePiece_30 : DI M_Rf_readOnePiece 30 (.iconst 3) 1 31 := ⟨by decide +kernel, rfl⟩
theorem d_Rf_readOnePiece_31 : DJ M_Rf_readOnePiece 31 (.goto 9) 9 3 34 40 := ⟨by decide +kernel, rfl, rfl⟩
theorem d_Rf_readOnePiece_34 : DI M_Rf_readOnePiece 34 (.aload_n 0) 1 35 := ⟨by decide +kernel, rfl⟩
theorem d_Rf_readOnePiece_35 : DI M_Rf_readOnePiece 35 (.getfield 85) 3 38 := ⟨by decide +kernel, rfl⟩
theorem d_Rf_readOnePiece_38 : DI M_Rf_readOnePiece 38 (.iconst 1) 1 39 := ⟨by decide +kernel, rfl⟩
theorem d_Rf_readOnePiece_39 : DI M_Rf_readOnePiece 39 (.isub) 1 40 := ⟨by decide +kernel, rfl⟩
theorem d_Rf_readOnePiece_40 : DI M_Rf_readOnePiece 40 (.istore_n 2) 1 41 := ⟨by decide +kernel, rfl⟩
theorem d_Rf_readOnePiece_41 : DI M_Rf_readOnePiece 41 (.aload_n 0) 1 42 := ⟨by decide +kernel, rfl⟩
theorem d_Rf_readOnePiece_42 : DI M_Rf_readOnePiece 42 (.iload_n 2) 1 43 := ⟨by decide +kernel, rfl⟩
theorem d_Rf_readOnePiece_43 : DI M_Rf_readOnePiece 43 (.invokevirtual 81) 3 46 := ⟨by decide +kernel, rfl⟩
theorem d_Rf_readOnePiece_46 : DI M_Rf_readOnePiece 46 (.istore_n 3) 1 47 := ⟨by decide +kernel, rfl⟩
theorem d_Rf_readOnePiece_47 : DI M_Rf_readOnePiece 47 (.iload_n 3) 1 48 := ⟨by decide +kernel, rfl⟩
theorem d_Rf_readOnePiece_48 : DI M_Rf_readOnePiece 48 (.bipush (-9)) 2 50 := ⟨by decide +kernel, rfl⟩
theorem d_Rf_readOnePiece_50 : DJ M_Rf_readOnePiece 50 (.if_icmp .ne 5) 5 3 53 55 := ⟨by decide +kernel, rfl, rfl⟩
theorem d_Rf_readOnePiece_53 : DI M_Rf_readOnePiece 53 (.iconst 0) 1 54 := ⟨by decide +kernel, rfl⟩
theorem d_Rf_readOnePiece_54 : DI M_Rf_readOnePiece 54 (.ireturn) 1 55 := ⟨by decide +kernel, rfl⟩
theorem d_Rf_readOnePiece_55 : DI M_Rf_readOnePiece 55 (.aload_n 0) 1 56 := ⟨by decide +kernel, rfl⟩
theorem d_Rf_readOnePiece_56 : DI M_Rf_readOnePiece 56 (.getfield 22) 3 59 := ⟨by decide +kernel, rfl⟩
theorem d_Rf_readOnePiece_59 : DI M_Rf_readOnePiece 59 (.iconst 4) 1 60 := ⟨by decide +kernel, rfl⟩
theorem d_Rf_readOnePiece_60 : DI M_Rf_readOnePiece 60 (.aload_n 0) 1 61 := ⟨by decide +kernel, rfl⟩
theorem d_Rf_readOnePiece_61 : DI M_Rf_readOnePiece 61 (.getfield 88) 3 64 := ⟨by decide +kernel, rfl⟩
theorem d_Rf_readOnePiece_64 : DI M_Rf_readOnePiece 64 (.imul) 1 65 := ⟨by decide +kernel, rfl⟩
theorem d_Rf_readOnePiece_65 : DI M_Rf_readOnePiece 65 (.iload_n 1) 1 66 := ⟨by decide +kernel, rfl⟩
theorem d_Rf_readOnePiece_66 : DI M_Rf_readOnePiece 66 (.iadd) 1 67 := ⟨by decide +kernel, rfl⟩
theorem d_Rf_readOnePiece_67 : DI M_Rf_readOnePiece 67 (.iload_n 3) 1 68 := ⟨by decide +kernel, rfl⟩
theorem d_Rf_readOnePiece_68 : DI M_Rf_readOnePiece 68 (.iastore) 1 69 := ⟨by decide +kernel, rfl⟩
theorem d_Rf_readOnePiece_69 : DI M_Rf_readOnePiece 69 (.iinc 1 1) 3 72 := ⟨by decide +kernel, rfl⟩
theorem d_Rf_readOnePiece_72 : DJ M_Rf_readOnePiece 72 (.goto (-70)) (-70) 3 75 2 := ⟨by decide +kernel, rfl, rfl⟩
theorem d_Rf_readOnePiece_75 : DI M_Rf_readOnePiece 75 (.aload_n 0) 1 76 := ⟨by decide +kernel, rfl⟩
theorem d_Rf_readOnePiece_76 : DI M_Rf_readOnePiece 76 (.dup) 1 77 := ⟨by decide +kernel, rfl⟩
theorem d_Rf_readOnePiece_77 : DI M_Rf_readOnePiece 77 (.getfield 88) 3 80 := ⟨by decide +kernel, rfl⟩
theorem d_Rf_readOnePiece_80 : DI M_Rf_readOnePiece 80 (.iconst 1) 1 81 := ⟨by decide +kernel, rfl⟩
theorem d_Rf_readOnePiece_81 : DI M_Rf_readOnePiece 81 (.iadd) 1 82 := ⟨by decide +kernel, rfl⟩
theorem d_Rf_readOnePiece_82 : DI M_Rf_readOnePiece 82 (.putfield 88) 3 85 := ⟨by decide +kernel, rfl⟩
theorem d_Rf_readOnePiece_85 : DI M_Rf_readOnePiece 85 (.iconst 1) 1 86 := ⟨by decide +kernel, rfl⟩
theorem d_Rf_readOnePiece_86 : DI M_Rf_readOnePiece 86 (.ireturn) 1 87 := ⟨by decide +kernel, rfl⟩
theorem d_Rf_readThing_0 : DI M_Rf_readThing 0 (.aload_n 0) 1 1 := ⟨by decide +kernel, rfl⟩
theorem d_Rf_readThing_1 : DI M_Rf_readThing 1 (.getfield 7) 3 4 := ⟨by decide +kernel, rfl⟩
theorem d_Rf_readThing_4 : DI M_Rf_readThing 4 (.aload_n 0) 1 5 := ⟨by decide +kernel, rfl⟩
theorem d_Rf_readThing_5 : DI M_Rf_readThing 5 (.getfield 78) 3 8 := ⟨by decide +kernel, rfl⟩
theorem d_Rf_readThing_8 : DI M_Rf_readThing 8 (.iaload) 1 9 := ⟨by decide +kernel, rfl⟩
theorem d_Rf_readThing_9 : DI M_Rf_readThing 9 (.istore_n 1) 1 10 := ⟨by decide +kernel, rfl⟩
theorem d_Rf_readThing_10 : DI M_Rf_readThing 10 (.aload_n 0) 1 11 := ⟨by decide +kernel, rfl⟩
theorem d_Rf_readThing_11 : DI M_Rf_readThing 11 (.dup) 1 12 := ⟨by decide +kernel, rfl⟩
theorem d_Rf_readThing_12 : DI M_Rf_readThing 12 (.getfield 78) 3 15 := ⟨by decide +kernel, rfl⟩
theorem d_Rf_readThing_15 : DI M_Rf_readThing 15 (.iconst 1) 1 16 := ⟨by decide +kernel, rfl⟩
theorem d_Rf_readThing_16 : DI M_Rf_readThing 16 (.iadd) 1 17 := ⟨by decide +kernel, rfl⟩
theorem d_Rf_readThing_17 : DI M_Rf_readThing 17 (.putfield 78) 3 20 := ⟨by decide +kernel, rfl⟩
theorem d_Rf_readThing_20 : DI M_Rf_readThing 20 (.iload_n 1) 1 21 := ⟨by decide +kernel, rfl⟩
theorem d_Rf_readThing_21 : DI M_Rf_readThing 21 (.bipush 72) 2 23 := ⟨by decide +kernel, rfl⟩
theorem d_Rf_readThing_23 : DJ M_Rf_readThing 23 (.if_icmp .ne 16) 16 3 26 39 := ⟨by decide +kernel, rfl, rfl⟩
theorem d_Rf_readThing_26 : DI M_Rf_readThing 26 (.aload_n 0) 1 27 := ⟨by decide +kernel, rfl⟩
theorem d_Rf_readThing_27 : DI M_Rf_readThing 27 (.getfield 85) 3 30 := ⟨by decide +kernel, rfl⟩
theorem d_Rf_readThing_30 : DI M_Rf_readThing 30 (.iconst 4) 1 31 := ⟨by decide +kernel, rfl⟩
theorem d_Rf_readThing_31 : DJ M_Rf_readThing 31 (.if_icmp .ge 8) 8 3 34 39 := ⟨by decide +kernel, rfl, rfl⟩
theorem d_Rf_readThing_34 : DI M_Rf_readThing 34 (.aload_n 0) 1 35 := ⟨by decide +kernel, rfl⟩
theorem d_Rf_readThing_35 : DI M_Rf_readThing 35 (.invokevirtual 91) 3 38 := ⟨by decide +kernel, rfl⟩
theorem d_Rf_readThing_38 : DI M_Rf_readThing 38 (.ireturn) 1 39 := ⟨by decide +kernel, rfl⟩
theorem d_Rf_readThing_39 : DI M_Rf_readThing 39 (.iload_n 1) 1 40 := ⟨by decide +kernel, rfl⟩
theorem d_Rf_readThing_40 : DI M_Rf_readThing 40 (.bipush 67) 2 42 := ⟨by decide +kernel, rfl⟩
theorem d_Rf_readThing_42 : DJ M_Rf_readThing 42 (.if_icmp .ne 24) 24 3 45 66 := ⟨by decide +kernel, rfl, rfl⟩
theorem d_Rf_readThing_45 : DI M_Rf_readThing 45 (.aload_n 0) 1 46 := ⟨by decide +kernel, rfl⟩
theorem d_Rf_readThing_46 : DI M_Rf_readThing 46 (.getfield 88) 3 49 := ⟨by decide +kernel, rfl⟩
theorem d_Rf_readThing_49 : DI M_Rf_readThing 49 (.bipush 6) 2 51 := ⟨by decide +kernel, rfl⟩
theorem d_Rf_readThing_51 : DJ M_Rf_readThing 51 (.if_icmp .ge 15) 15 3 54 66 := ⟨by decide +kernel, rfl, rfl⟩
theorem d_Rf_readThing_54 : DI M_Rf_readThing 54 (.aload_n 0) 1 55 := ⟨by decide +kernel, rfl⟩
theorem d_Rf_readThing_55 : DI M_Rf_readThing 55 (.getfield 85) 3 58 := ⟨by decide +kernel, rfl⟩
theorem d_Rf_readThing_58 : DJ M_Rf_readThing 58 (.ifCond .le 8) 8 3 61 66 := ⟨by decide +kernel, rfl, rfl⟩
theorem d_Rf_readThing_61 : DI M_Rf_readThing 61 (.aload_n 0) 1 62 := ⟨by decide +kernel, rfl⟩
theorem d_Rf_readThing_62 : DI M_Rf_readThing 62 (.invokevirtual 95) 3 65 := ⟨by decide +kernel, rfl⟩
theorem d_Rf_readThing_65 : DI M_Rf_readThing 65 (.ireturn) 1 66 := ⟨by decide +kernel, rfl⟩
theorem d_Rf_readThing_66 : DI M_Rf_readThing 66 (.aload_n 0) 1 67 := ⟨by decide +kernel, rfl⟩
theorem d_Rf_readThing_67 : DI M_Rf_readThing 67 (.dup) 1 68 := ⟨by decide +kernel, rfl⟩
theorem d_Rf_readThing_68 : DI M_Rf_readThing 68 (.getfield 78) 3 71 := ⟨by decide +kernel, rfl⟩
theorem d_Rf_readThing_71 : DI M_Rf_readThing 71 (.iconst 1) 1 72 := ⟨by decide +kernel, rfl⟩
theorem d_Rf_readThing_72 : DI M_Rf_readThing 72 (.isub) 1 73 := ⟨by decide +kernel, rfl⟩
theorem d_Rf_readThing_73 : DI M_Rf_readThing 73 (.putfield 78) 3 76 := ⟨by decide +kernel, rfl⟩
theorem d_Rf_readThing_76 : DI M_Rf_readThing 76 (.iconst 0) 1 77 := ⟨by decide +kernel, rfl⟩
theorem d_Rf_readThing_77 : DI M_Rf_readThing 77 (.ireturn) 1 78 := ⟨by decide +kernel, rfl⟩
theorem d_Rf_readCoast_0 : DI M_Rf_readCoast 0 (.aload_n 0) 1 1 := ⟨by decide +kernel, rfl⟩
theorem d_Rf_readCoast_1 : DI M_Rf_readCoast 1 (.iconst 0) 1 2 := ⟨by decide +kernel, rfl⟩
theorem d_Rf_readCoast_2 : DI M_Rf_readCoast 2 (.putfield 78) 3 5 := ⟨by decide +kernel, rfl⟩
theorem d_Rf_readCoast_5 : DI M_Rf_readCoast 5 (.aload_n 0) 1 6 := ⟨by decide +kernel, rfl⟩
theorem d_Rf_readCoast_6 : DI M_Rf_readCoast 6 (.iconst 0) 1 7 := ⟨by decide +kernel, rfl⟩
theorem d_Rf_readCoast_7 : DI M_Rf_readCoast 7 (.putfield 85) 3 10 := ⟨by decide +kernel, rfl⟩
theorem d_Rf_readCoast_10 : DI M_Rf_readCoast 10 (.aload_n 0) 1 11 := ⟨by decide +kernel, rfl⟩
theorem d_Rf_readCoast_11 : DI M_Rf_readCoast 11 (.iconst 0) 1 12 := ⟨by decide +kernel, rfl⟩
theorem d_Rf_readCoast_12 : DI M_Rf_readCoast 12 (.putfield 88) 3 15 := ⟨by decide +kernel, rfl⟩
theorem d_Rf_readCoast_15 : DI M_Rf_readCoast 15 (.aload_n 0) 1 16 := ⟨by decide +kernel, rfl⟩
theorem d_Rf_readCoast_16 : DI M_Rf_readCoast 16 (.getfield 75) 3 19 := ⟨by decide +kernel, rfl⟩
theorem d_Rf_readCoast_19 : DJ M_Rf_readCoast 19 (.ifCond .eq 14) 14 3 22 33 := ⟨by decide +kernel, rfl, rfl⟩
theorem d_Rf_readCoast_22 : DI M_Rf_readCoast 22 (.aload_n 0) 1 23 := ⟨by decide +kernel, rfl⟩
theorem d_Rf_readCoast_23 : DI M_Rf_readCoast 23 (.getfield 7) 3 26 := ⟨by decide +kernel, rfl⟩
theorem d_Rf_readCoast_26 : DI M_Rf_readCoast 26 (.iconst 0) 1 27 := ⟨by decide +kernel, rfl⟩
theorem d_Rf_readCoast_27 : DI M_Rf_readCoast 27 (.iaload) 1 28 := ⟨by decide +kernel, rfl⟩
theorem d_Rf_readCoast_28 : DI M_Rf_readCoast 28 (.bipush 80) 2 30 := ⟨by decide +kernel, rfl⟩
theorem d_Rf_readCoast_30 : DJ M_Rf_readCoast 30 (.if_icmp .eq 5) 5 3 33 35 := ⟨by decide +kernel, rfl, rfl⟩
theorem d_Rf_readCoast_33 : DI M_Rf_readCoast 33 (.iconst 0) 1 34 := ⟨by decide +kernel, rfl⟩
theorem d_Rf_readCoast_34 : DI M_Rf_readCoast 34 (.ireturn) 1 35 := ⟨by decide +kernel, rfl⟩
theorem d_Rf_readCoast_35 : DI M_Rf_readCoast 35 (.aload_n 0) 1 36 := ⟨by decide +kernel, rfl⟩
theorem d_Rf_readCoast_36 : DI M_Rf_readCoast 36 (.iconst 1) 1 37 := ⟨by decide +kernel, rfl⟩
theorem d_Rf_readCoast_37 : DI M_Rf_readCoast 37 (.putfield 78) 3 40 := ⟨by decide +kernel, rfl⟩
theorem d_Rf_readCoast_40 : DI M_Rf_readCoast 40 (.aload_n 0) 1 41 := ⟨by decide +kernel, rfl⟩
theorem d_Rf_readCoast_41 : DI M_Rf_readCoast 41 (.aload_n 0) 1 42 := ⟨by decide +kernel, rfl⟩
theorem d_Rf_readCoast_42 : DI M_Rf_readCoast 42 (.bipush 7) 2 44 := ⟨by decide +kernel, rfl⟩
theorem d_Rf_readCoast_44 : DI M_Rf_readCoast 44 (.invokevirtual 81) 3 47 := ⟨by decide +kernel, rfl⟩
theorem d_Rf_readCoast_47 : DI M_Rf_readCoast 47 (.putfield 98) 3 50 := ⟨by decide +kernel, rfl⟩
theorem d_Rf_readCoast_50 : DI M_Rf_readCoast 50 (.aload_n 0) 1 51 := ⟨by decide +kernel, rfl⟩
theorem d_Rf_readCoast_51 : DI M_Rf_readCoast 51 (.getfield 98) 3 54 := ⟨by decide +kernel, rfl⟩
theorem d_Rf_readCoast_54 : DI M_Rf_readCoast 54 (.bipush (-9)) 2 56 := ⟨by decide +kernel, rfl⟩
theorem d_Rf_readCoast_56 : DJ M_Rf_readCoast 56 (.if_icmp .ne 8) 8 3 59 64 := ⟨by decide +kernel, rfl, rfl⟩
theorem d_Rf_readCoast_59 : DI M_Rf_readCoast 59 (.aload_n 0) 1 60 := ⟨by decide +kernel, rfl⟩
theorem d_Rf_readCoast_60 : DI M_Rf_readCoast 60 (.getfield 78) 3 63 := ⟨by decide +kernel, rfl⟩
theorem d_Rf_readCoast_63 : DI M_Rf_readCoast 63 (.ireturn) 1 64 := ⟨by decide +kernel, rfl⟩
theorem d_Rf_readCoast_64 : DI M_Rf_readCoast 64 (.aload_n 0) 1 65 := ⟨by decide +kernel, rfl⟩
theorem d_Rf_readCoast_65 : DI M_Rf_readCoast 65 (.getfield 78) 3 68 := ⟨by decide +kernel, rfl⟩
theorem d_Rf_readCoast_68 : DI M_Rf_readCoast 68 (.aload_n 0) 1 69 := ⟨by decide +kernel, rfl⟩
theorem d_Rf_readCoast_69 : DI M_Rf_readCoast 69 (.getfield 75) 3 72 := ⟨by decide +kernel, rfl⟩
theorem d_Rf_readCoast_72 : DJ M_Rf_readCoast 72 (.if_icmp .ge 15) 15 3 75 87 := ⟨by decide +kernel, rfl, rfl⟩
theorem d_Rf_readCoast_75 : DI M_Rf_readCoast 75 (.aload_n 0) 1 76 := ⟨by decide +kernel, rfl⟩
theorem d_Rf_readCoast_76 : DI M_Rf_readCoast 76 (.invokevirtual 101) 3 79 := ⟨by decide +kernel, rfl⟩
theorem d_Rf_readCoast_79 : DJ M_Rf_readCoast 79 (.ifCond .ne (-15)) (-15) 3 82 64 := ⟨by decide +kernel, rfl, rfl⟩
theorem d_Rf_readCoast_82 : DI M_Rf_readCoast 82 (.aload_n 0) 1 83 := ⟨by decide +kernel, rfl⟩
theorem d_Rf_readCoast_83 : DI M_Rf_readCoast 83 (.getfield 78) 3 86 := ⟨by decide +kernel, rfl⟩
theorem d_Rf_readCoast_86 : DI M_Rf_readCoast 86 (.ireturn) 1 87 := ⟨by decide +kernel, rfl⟩
theorem d_Rf_readCoast_87 : DI M_Rf_readCoast 87 (.bipush (-9)) 2 89 := ⟨by decide +kernel, rfl⟩
theorem d_Rf_readCoast_89 : DI M_Rf_readCoast 89 (.ireturn) 1 90 := ⟨by decide +kernel, rfl⟩
theorem d_Rf_fault_0 : DI M_Rf_fault 0 (.aload_n 0) 1 1 := ⟨by decide +kernel, rfl⟩
theorem d_Rf_fault_1 : DI M_Rf_fault 1 (.iconst 0) 1 2 := ⟨by decide +kernel, rfl⟩
theorem d_Rf_fault_2 : DI M_Rf_fault 2 (.putfield 59) 3 5 := ⟨by decide +kernel, rfl⟩
theorem d_Rf_fault_5 : DI M_Rf_fault 5 (.aload_n 0) 1 6 := ⟨by decide +kernel, rfl⟩
theorem d_Rf_fault_6 : DI M_Rf_fault 6 (.invokevirtual 104) 3 9 := ⟨by decide +kernel, rfl⟩
theorem d_Rf_fault_9 : DI M_Rf_fault 9 (.ireturn) 1 10 := ⟨by decide +kernel, rfl⟩
theorem d_Rf_coast_0 : DI M_Rf_coast 0 (.aload_n 0) 1 1 := ⟨by decide +kernel, rfl⟩
theorem d_Rf_coast_1 : DI M_Rf_coast 1 (.iconst 0) 1 2 := ⟨by decide +kernel, rfl⟩
theorem d_Rf_coast_2 : DI M_Rf_coast 2 (.putfield 59) 3 5 := ⟨by decide +kernel, rfl⟩
theorem d_Rf_coast_5 : DI M_Rf_coast 5 (.aload_n 0) 1 6 := ⟨by decide +kernel, rfl⟩
theorem d_Rf_coast_6 : DI M_Rf_coast 6 (.invokevirtual 104) 3 9 := ⟨by decide +kernel, rfl⟩
theorem d_Rf_coast_9 : DI M_Rf_coast 9 (.bipush (-9)) 2 11 := ⟨by decide +kernel, rfl⟩
theorem d_Rf_coast_11 : DJ M_Rf_coast 11 (.if_icmp .eq 6) 6 3 14 17 := ⟨by decide +kernel, rfl, rfl⟩
theorem d_Rf_coast_14 : DI M_Rf_coast 14 (.bipush (-3)) 2 16 := ⟨by decide +kernel, rfl⟩
theorem d_Rf_coast_16 : DI M_Rf_coast 16 (.ireturn) 1 17 := ⟨by decide +kernel, rfl⟩
theorem d_Rf_coast_17 : DI M_Rf_coast 17 (.aload_n 0) 1 18 := ⟨by decide +kernel, rfl⟩
theorem d_Rf_coast_18 : DI M_Rf_coast 18 (.aload_n 0) 1 19 := ⟨by decide +kernel, rfl⟩
theorem d_Rf_coast_19 : DI M_Rf_coast 19 (.getfield 85) 3 22 := ⟨by decide +kernel, rfl⟩
theorem d_Rf_coast_22 : DI M_Rf_coast 22 (.putfield 63) 3 25 := ⟨by decide +kernel, rfl⟩
theorem d_Rf_coast_25 : DI M_Rf_coast 25 (.aload_n 0) 1 26 := ⟨by decide +kernel, rfl⟩
theorem d_Rf_coast_26 : DI M_Rf_coast 26 (.aload_n 0) 1 27 := ⟨by decide +kernel, rfl⟩
theorem d_Rf_coast_27 : DI M_Rf_coast 27 (.getfield 88) 3 30 := ⟨by decide +kernel, rfl⟩
theorem d_Rf_coast_30 : DI M_Rf_coast 30 (.putfield 70) 3 33 := ⟨by decide +kernel, rfl⟩
theorem d_Rf_coast_33 : DI M_Rf_coast 33 (.iconst 0) 1 34 := ⟨by decide +kernel, rfl⟩
theorem d_Rf_coast_34 : DI M_Rf_coast 34 (.istore_n 1) 1 35 := ⟨by decide +kernel, rfl⟩
theorem d_Rf_coast_35 : DI M_Rf_coast 35 (.iload_n 1) 1 36 := ⟨by decide +kernel, rfl⟩
theorem d_Rf_coast_36 : DI M_Rf_coast 36 (.iconst 4) 1 37 := ⟨by decide +kernel, rfl⟩
theorem d_Rf_coast_37 : DJ M_Rf_coast 37 (.if_icmp .ge 21) 21 3 40 58 := ⟨by decide +kernel, rfl, rfl⟩
theorem d_Rf_coast_40 : DI M_Rf_coast 40 (.aload_n 0) 1 41 := ⟨by decide +kernel, rfl⟩
theorem d_Rf_coast_41 : DI M_Rf_coast 41 (.getfield 13) 3 44 := ⟨by decide +kernel, rfl⟩
theorem d_Rf_coast_44 : DI M_Rf_coast 44 (.iload_n 1) 1 45 := ⟨by decide +kernel, rfl⟩
theorem d_Rf_coast_45 : DI M_Rf_coast 45 (.aload_n 0) 1 46 := ⟨by decide +kernel, rfl⟩
theorem d_Rf_coast_46 : DI M_Rf_coast 46 (.getfield 19) 3 49 := ⟨by decide +kernel, rfl⟩
theorem d_Rf_coast_49 : DI M_Rf_coast 49 (.iload_n 1) 1 50 := ⟨by decide +kernel, rfl⟩
theorem d_Rf_coast_50 : DI M_Rf_coast 50 (.iaload) 1 51 := ⟨by decide +kernel, rfl⟩
theorem d_Rf_coast_51 : DI M_Rf_coast 51 (.iastore) 1 52 := ⟨by decide +kernel, rfl⟩
theorem d_Rf_coast_52 : DI M_Rf_coast 52 (.iinc 1 1) 3 55 := ⟨by decide +kernel, rfl⟩
theorem d_Rf_coast_55 : DJ M_Rf_coast 55 (.goto (-20)) (-20) 3 58 35 := ⟨by decide +kernel, rfl, rfl⟩
theorem d_Rf_coast_58 : DI M_Rf_coast 58 (.iconst 0) 1 59 := ⟨by decide +kernel, rfl⟩
theorem d_Rf_coast_59 : DI M_Rf_coast 59 (.istore_n 1) 1 60 := ⟨by decide +kernel, rfl⟩
theorem d_Rf_coast_60 : DI M_Rf_coast 60 (.iload_n 1) 1 61 := ⟨by decide +kernel, rfl⟩
theorem d_Rf_coast_61 : DI M_Rf_coast 61 (.bipush 14) 2 63 := ⟨by decide +kernel, rfl⟩
theorem d_Rf_coast_63 : DJ M_Rf_coast 63 (.if_icmp .ge 16) 16 3 66 79 := ⟨by decide +kernel, rfl, rfl⟩
theorem d_Rf_coast_66 : DI M_Rf_coast 66 (.aload_n 0) 1 67 := ⟨by decide +kernel, rfl⟩
theorem d_Rf_coast_67 : DI M_Rf_coast 67 (.getfield 25) 3 70 := ⟨by decide +kernel, rfl⟩
theorem d_Rf_coast_70 : DI M_Rf_coast 70 (.iload_n 1) 1 71 := ⟨by decide +kernel, rfl⟩
theorem d_Rf_coast_71 : DI M_Rf_coast 71 (.iconst 0) 1 72 := ⟨by decide +kernel, rfl⟩
theorem d_Rf_coast_72 : DI M_Rf_coast 72 (.iastore) 1 73 := ⟨by decide +kernel, rfl⟩
theorem d_Rf_coast_73 : DI M_Rf_coast 73 (.iinc 1 1) 3 76 := ⟨by decide +kernel, rfl⟩
theorem d_Rf_coast_76 : DJ M_Rf_coast 76 (.goto (-16)) (-16) 3 79 60 := ⟨by decide +kernel, rfl, rfl⟩
theorem d_Rf_coast_79 : DI M_Rf_coast 79 (.iconst 0) 1 80 := ⟨by decide +kernel, rfl⟩
theorem d_Rf_coast_80 : DI M_Rf_coast 80 (.istore_n 1) 1 81 := ⟨by decide +kernel, rfl⟩
theorem d_Rf_coast_81 : DI M_Rf_coast 81 (.iload_n 1) 1 82 := ⟨by decide +kernel, rfl⟩
theorem d_Rf_coast_82 : DI M_Rf_coast 82 (.aload_n 0) 1 83 := ⟨by decide +kernel, rfl⟩
theorem d_Rf_coast_83 : DI M_Rf_coast 83 (.getfield 70) 3 86 := ⟨by decide +kernel, rfl⟩
theorem d_Rf_coast_86 : DJ M_Rf_coast 86 (.if_icmp .ge 61) 61 3 89 147 := ⟨by decide +kernel, rfl, rfl⟩
theorem d_Rf_coast_89 : DI M_Rf_coast 89 (.iconst 0) 1 90 := ⟨by decide +kernel, rfl⟩
theorem d_Rf_coast_90 : DI M_Rf_coast 90 (.istore_n 2) 1 91 := ⟨by decide +kernel, rfl⟩
theorem d_Rf_coast_91 : DI M_Rf_coast 91 (.iload_n 2) 1 92 := ⟨by decide +kernel, rfl⟩
theorem d_Rf_coast_92 : DI M_Rf_coast 92 (.iconst 3) 1 93 := ⟨by decide +kernel, rfl⟩
theorem d_Rf_coast_93 : DJ M_Rf_coast 93 (.if_icmp .ge 29) 29 3 96 122 := ⟨by decide +kernel, rfl, rfl⟩
theorem d_Rf_coast_96 : DI M_Rf_coast 96 (.aload_n 0) 1 97 := ⟨by decide +kernel, rfl⟩
theorem d_Rf_coast_97 : DI M_Rf_coast 97 (.getfield 16) 3 100 := ⟨by decide +kernel, rfl⟩
theorem d_Rf_coast_100 : DI M_Rf_coast 100 (.iconst 3) 1 101 := ⟨by decide +kernel, rfl⟩
theorem d_Rf_coast_101 : DI M_Rf_coast 101 (.iload_n 1) 1 102 := ⟨by decide +kernel, rfl⟩
theorem d_Rf_coast_102 : DI M_Rf_coast 102 (.imul) 1 103 := ⟨by decide +kernel, rfl⟩
theorem d_Rf_coast_103 : DI M_Rf_coast 103 (.iload_n 2) 1 104 := ⟨by decide +kernel, rfl⟩
theorem d_Rf_coast_104 : DI M_Rf_coast 104 (.iadd) 1 105 := ⟨by decide +kernel, rfl⟩
theorem d_Rf_coast_105 : DI M_Rf_coast 105 (.aload_n 0) 1 106 := ⟨by decide +kernel, rfl⟩
theorem d_Rf_coast_106 : DI M_Rf_coast 106 (.getfield 22) 3 109 := ⟨by decide +kernel, rfl⟩
theorem d_Rf_coast_109 : DI M_Rf_coast 109 (.iconst 4) 1 110 := ⟨by decide +kernel, rfl⟩
theorem d_Rf_coast_110 : DI M_Rf_coast 110 (.iload_n 1) 1 111 := ⟨by decide +kernel, rfl⟩
theorem d_Rf_coast_111 : DI M_Rf_coast 111 (.imul) 1 112 := ⟨by decide +kernel, rfl⟩
theorem d_Rf_coast_112 : DI M_Rf_coast 112 (.iload_n 2) 1 113 := ⟨by decide +kernel, rfl⟩
theorem d_Rf_coast_113 : DI M_Rf_coast 113 (.iadd) 1 114 := ⟨by decide +kernel, rfl⟩
theorem d_Rf_coast_114 : DI M_Rf_coast 114 (.iaload) 1 115 := ⟨by decide +kernel, rfl⟩
theorem d_Rf_coast_115 : DI M_Rf_coast 115 (.iastore) 1 116 := ⟨by decide +kernel, rfl⟩
theorem d_Rf_coast_116 : DI M_Rf_coast 116 (.iinc 2 1) 3 119 := ⟨by decide +kernel, rfl⟩
theorem d_Rf_coast_119 : DJ M_Rf_coast 119 (.goto (-28)) (-28) 3 122 91 := ⟨by decide +kernel, rfl, rfl⟩
theorem d_Rf_coast_122 : DI M_Rf_coast 122 (.aload_n 0) 1 123 := ⟨by decide +kernel, rfl⟩
theorem d_Rf_coast_123 : DI M_Rf_coast 123 (.getfield 25) 3 126 := ⟨by decide +kernel, rfl⟩
theorem d_Rf_coast_126 : DI M_Rf_coast 126 (.bipush 6) 2 128 := ⟨by decide +kernel, rfl⟩
theorem d_Rf_coast_128 : DI M_Rf_coast 128 (.iload_n 1) 1 129 := ⟨by decide +kernel, rfl⟩
theorem d_Rf_coast_129 : DI M_Rf_coast 129 (.iadd) 1 130 := ⟨by decide +kernel, rfl⟩
theorem d_Rf_coast_130 : DI M_Rf_coast 130 (.aload_n 0) 1 131 := ⟨by decide +kernel, rfl⟩
theorem d_Rf_coast_131 : DI M_Rf_coast 131 (.getfield 22) 3 134 := ⟨by decide +kernel, rfl⟩
theorem d_Rf_coast_134 : DI M_Rf_coast 134 (.iconst 4) 1 135 := ⟨by decide +kernel, rfl⟩
theorem d_Rf_coast_135 : DI M_Rf_coast 135 (.iload_n 1) 1 136 := ⟨by decide +kernel, rfl⟩
theorem d_Rf_coast_136 : DI M_Rf_coast 136 (.imul) 1 137 := ⟨by decide +kernel, rfl⟩
theorem d_Rf_coast_137 : DI M_Rf_coast 137 (.iconst 3) 1 138 := ⟨by decide +kernel, rfl⟩
theorem d_Rf_coast_138 : DI M_Rf_coast 138 (.iadd) 1 139 := ⟨by decide +kernel, rfl⟩
theorem d_Rf_coast_139 : DI M_Rf_coast 139 (.iaload) 1 140 := ⟨by decide +kernel, rfl⟩
theorem d_Rf_coast_140 : DI M_Rf_coast 140 (.iastore) 1 141 := ⟨by decide +kernel, rfl⟩
theorem d_Rf_coast_141 : DI M_Rf_coast 141 (.iinc 1 1) 3 144 := ⟨by decide +kernel, rfl⟩
theorem d_Rf_coast_144 : DJ M_Rf_coast 144 (.goto (-63)) (-63) 3 147 81 := ⟨by decide +kernel, rfl, rfl⟩
theorem d_Rf_coast_147 : DI M_Rf_coast 147 (.aload_n 0) 1 148 := ⟨by decide +kernel, rfl⟩
theorem d_Rf_coast_148 : DI M_Rf_coast 148 (.getfield 25) 3 151 := ⟨by decide +kernel, rfl⟩
theorem d_Rf_coast_151 : DI M_Rf_coast 151 (.bipush 12) 2 153 := ⟨by decide +kernel, rfl⟩
theorem d_Rf_coast_153 : DI M_Rf_coast 153 (.aload_n 0) 1 154 := ⟨by decide +kernel, rfl⟩
theorem d_Rf_coast_154 : DI M_Rf_coast 154 (.getfield 98) 3 157 := ⟨by decide +kernel, rfl⟩
theorem d_Rf_coast_157 : DI M_Rf_coast 157 (.iastore) 1 158 := ⟨by decide +kernel, rfl⟩
theorem d_Rf_coast_158 : DI M_Rf_coast 158 (.aload_n 0) 1 159 := ⟨by decide +kernel, rfl⟩
theorem d_Rf_coast_159 : DI M_Rf_coast 159 (.iconst 0) 1 160 := ⟨by decide +kernel, rfl⟩
theorem d_Rf_coast_160 : DI M_Rf_coast 160 (.putfield 108) 3 163 := ⟨by decide +kernel, rfl⟩
theorem d_Rf_coast_163 : DI M_Rf_coast 163 (.aload_n 0) 1 164 := ⟨by decide +kernel, rfl⟩
theorem d_Rf_coast_164 : DI M_Rf_coast 164 (.getfield 37) 3 167 := ⟨by decide +kernel, rfl⟩
theorem d_Rf_coast_167 : DI M_Rf_coast 167 (.iconst 0) 1 168 := ⟨by decide +kernel, rfl⟩
theorem d_Rf_coast_168 : DI M_Rf_coast 168 (.iconst 0) 1 169 := ⟨by decide +kernel, rfl⟩
theorem d_Rf_coast_169 : DI M_Rf_coast 169 (.bastore) 1 170 := ⟨by decide +kernel, rfl⟩
theorem d_Rf_coast_170 : DI M_Rf_coast 170 (.aload_n 0) 1 171 := ⟨by decide +kernel, rfl⟩
theorem d_Rf_coast_171 : DI M_Rf_coast 171 (.getfield 37) 3 174 := ⟨by decide +kernel, rfl⟩
theorem d_Rf_coast_174 : DI M_Rf_coast 174 (.iconst 1) 1 175 := ⟨by decide +kernel, rfl⟩
theorem d_Rf_coast_175 : DI M_Rf_coast 175 (.iconst 0) 1 176 := ⟨by decide +kernel, rfl⟩
theorem d_Rf_coast_176 : DI M_Rf_coast 176 (.bastore) 1 177 := ⟨by decide +kernel, rfl⟩
theorem d_Rf_coast_177 : DI M_Rf_coast 177 (.bipush 10) 2 179 := ⟨by decide +kernel, rfl⟩
theorem d_Rf_coast_179 : DI M_Rf_coast 179 (.aload_n 0) 1 180 := ⟨by decide +kernel, rfl⟩
theorem d_Rf_coast_180 : DI M_Rf_coast 180 (.getfield 63) 3 183 := ⟨by decide +kernel, rfl⟩
theorem d_Rf_coast_183 : DI M_Rf_coast 183 (.imul) 1 184 := ⟨by decide +kernel, rfl⟩
theorem d_Rf_coast_184 : DI M_Rf_coast 184 (.aload_n 0) 1 185 := ⟨by decide +kernel, rfl⟩
theorem d_Rf_coast_185 : DI M_Rf_coast 185 (.getfield 70) 3 188 := ⟨by decide +kernel, rfl⟩
theorem d_Rf_coast_188 : DI M_Rf_coast 188 (.iadd) 1 189 := ⟨by decide +kernel, rfl⟩
theorem d_Rf_coast_189 : DI M_Rf_coast 189 (.ireturn) 1 190 := ⟨by decide +kernel, rfl⟩
theorem d_Rf_apart_0 : DI M_Rf_apart 0 (.iload_n 0) 1 1 := ⟨by decide +kernel, rfl⟩
theorem d_Rf_apart_1 : DI M_Rf_apart 1 (.iload_n 1) 1 2 := ⟨by decide +kernel, rfl⟩
theorem d_Rf_apart_2 : DJ M_Rf_apart 2 (.if_icmp .le 9) 9 3 5 11 := ⟨by decide +kernel, rfl, rfl⟩
theorem d_Rf_apart_5 : DI M_Rf_apart 5 (.iload_n 0) 1 6 := ⟨by decide +kernel, rfl⟩
theorem d_Rf_apart_6 : DI M_Rf_apart 6 (.iload_n 1) 1 7 := ⟨by decide +kernel, rfl⟩
theorem d_Rf_apart_7 : DI M_Rf_apart 7 (.isub) 1 8 := ⟨by decide +kernel, rfl⟩
theorem d_Rf_apart_8 : DJ M_Rf_apart 8 (.goto 6) 6 3 11 14 := ⟨by decide +kernel, rfl, rfl⟩
theorem d_Rf_apart_11 : DI M_Rf_apart 11 (.iload_n 1) 1 12 := ⟨by decide +kernel, rfl⟩
theorem d_Rf_apart_12 : DI M_Rf_apart 12 (.iload_n 0) 1 13 := ⟨by decide +kernel, rfl⟩
theorem d_Rf_apart_13 : DI M_Rf_apart 13 (.isub) 1 14 := ⟨by decide +kernel, rfl⟩
theorem d_Rf_apart_14 : DI M_Rf_apart 14 (.istore_n 2) 1 15 := ⟨by decide +kernel, rfl⟩
theorem d_Rf_apart_15 : DI M_Rf_apart 15 (.iload_n 2) 1 16 := ⟨by decide +kernel, rfl⟩
theorem d_Rf_apart_16 : DI M_Rf_apart 16 (.iconst 4) 1 17 := ⟨by decide +kernel, rfl⟩
theorem d_Rf_apart_17 : DJ M_Rf_apart 17 (.if_icmp .le 10) 10 3 20 27 := ⟨by decide +kernel, rfl, rfl⟩
theorem d_Rf_apart_20 : DI M_Rf_apart 20 (.bipush 8) 2 22 := ⟨by decide +kernel, rfl⟩
theorem d_Rf_apart_22 : DI M_Rf_apart 22 (.iload_n 2) 1 23 := ⟨by decide +kernel, rfl⟩
theorem d_Rf_apart_23 : DI M_Rf_apart 23 (.isub) 1 24 := ⟨by decide +kernel, rfl⟩
theorem d_Rf_apart_24 : DJ M_Rf_apart 24 (.goto 4) 4 3 27 28 := ⟨by decide +kernel, rfl, rfl⟩
theorem d_Rf_apart_27 : DI M_Rf_apart 27 (.iload_n 2) 1 28 := ⟨by decide +kernel, rfl⟩
theorem d_Rf_apart_28 : DI M_Rf_apart 28 (.ireturn) 1 29 := ⟨by decide +kernel, rfl⟩
theorem d_Rf_showsBy_0 : DI M_Rf_showsBy 0 (.iload_n 3) 1 1 := ⟨by decide +kernel, rfl⟩
theorem d_Rf_showsBy_1 : DI M_Rf_showsBy 1 (.iconst 3) 1 2 := ⟨by decide +kernel, rfl⟩
theorem d_Rf_showsBy_2 : DJ M_Rf_showsBy 2 (.if_icmp .ne 5) 5 3 5 7 := ⟨by decide +kernel, rfl, rfl⟩
theorem d_Rf_showsBy_5 : DI M_Rf_showsBy 5 (.iconst 0) 1 6 := ⟨by decide +kernel, rfl⟩
theorem d_Rf_showsBy_6 : DI M_Rf_showsBy 6 (.ireturn) 1 7 := ⟨by decide +kernel, rfl⟩
theorem d_Rf_showsBy_7 : DI M_Rf_showsBy 7 (.iload_n 3) 1 8 := ⟨by decide +kernel, rfl⟩
theorem d_Rf_showsBy_8 : DI M_Rf_showsBy 8 (.iconst 2) 1 9 := ⟨by decide +kernel, rfl⟩
theorem d_Rf_showsBy_9 : DJ M_Rf_showsBy 9 (.if_icmp .ne 10) 10 3 12 19 := ⟨by decide +kernel, rfl, rfl⟩
theorem d_Rf_showsBy_12 : DI M_Rf_showsBy 12 (.iload_n 0) 1 13 := ⟨by decide +kernel, rfl⟩
theorem d_Rf_showsBy_13 : DI M_Rf_showsBy 13 (.iconst 2) 1 14 := ⟨by decide +kernel, rfl⟩
theorem d_Rf_showsBy_14 : DJ M_Rf_showsBy 14 (.if_icmp .ne 5) 5 3 17 19 := ⟨by decide +kernel, rfl, rfl⟩
theorem d_Rf_showsBy_17 : DI M_Rf_showsBy 17 (.iconst 1) 1 18 := ⟨by decide +kernel, rfl⟩
theorem d_Rf_showsBy_18 : DI M_Rf_showsBy 18 (.ireturn) 1 19 := ⟨by decide +kernel, rfl⟩
theorem d_Rf_showsBy_19 : DI M_Rf_showsBy 19 (.iload_n 2) 1 20 := ⟨by decide +kernel, rfl⟩
theorem d_Rf_showsBy_20 : DI M_Rf_showsBy 20 (.iconst 1) 1 21 := ⟨by decide +kernel, rfl⟩
theorem d_Rf_showsBy_21 : DJ M_Rf_showsBy 21 (.if_icmp .ne 7) 7 3 24 28 := ⟨by decide +kernel, rfl, rfl⟩
theorem d_Rf_showsBy_24 : DI M_Rf_showsBy 24 (.iconst 0) 1 25 := ⟨by decide +kernel, rfl⟩
theorem d_Rf_showsBy_25 : DJ M_Rf_showsBy 25 (.goto 13) 13 3 28 38 := ⟨by decide +kernel, rfl, rfl⟩
theorem d_Rf_showsBy_28 : DI M_Rf_showsBy 28 (.iload_n 2) 1 29 := ⟨by decide +kernel, rfl⟩
theorem d_Rf_showsBy_29 : DI M_Rf_showsBy 29 (.iconst 3) 1 30 := ⟨by decide +kernel, rfl⟩
theorem d_Rf_showsBy_30 : DJ M_Rf_showsBy 30 (.if_icmp .ne 7) 7 3 33 37 := ⟨by decide +kernel, rfl, rfl⟩
theorem d_Rf_showsBy_33 : DI M_Rf_showsBy 33 (.iconst 2) 1 34 := ⟨by decide +kernel, rfl⟩
theorem d_Rf_showsBy_34 : DJ M_Rf_showsBy 34 (.goto 4) 4 3 37 38 := ⟨by decide +kernel, rfl, rfl⟩
theorem d_Rf_showsBy_37 : DI M_Rf_showsBy 37 (.iconst 1) 1 38 := ⟨by decide +kernel, rfl⟩
theorem d_Rf_showsBy_38 : DI M_Rf_showsBy 38 (.iload_n 3) 1 39 := ⟨by decide +kernel, rfl⟩
theorem d_Rf_showsBy_39 : DI M_Rf_showsBy 39 (.iconst 1) 1 40 := ⟨by decide +kernel, rfl⟩
theorem d_Rf_showsBy_40 : DJ M_Rf_showsBy 40 (.if_icmp .ne 7) 7 3 43 47 := ⟨by decide +kernel, rfl, rfl⟩
theorem d_Rf_showsBy_43 : DI M_Rf_showsBy 43 (.iconst 1) 1 44 := ⟨by decide +kernel, rfl⟩
theorem d_Rf_showsBy_44 : DJ M_Rf_showsBy 44 (.goto 4) 4 3 47 48 := ⟨by decide +kernel, rfl, rfl⟩
theorem d_Rf_showsBy_47 : DI M_Rf_showsBy 47 (.iconst 0) 1 48 := ⟨by decide +kernel, rfl⟩
theorem d_Rf_showsBy_48 : DI M_Rf_showsBy 48 (.iadd) 1 49 := ⟨by decide +kernel, rfl⟩
theorem d_Rf_showsBy_49 : DI M_Rf_showsBy 49 (.istore 5) 2 51 := ⟨by decide +kernel, rfl⟩
theorem d_Rf_showsBy_51 : DI M_Rf_showsBy 51 (.iload_n 1) 1 52 := ⟨by decide +kernel, rfl⟩
theorem d_Rf_showsBy_52 : DI M_Rf_showsBy 52 (.iload 4) 2 54 := ⟨by decide +kernel, rfl⟩
theorem d_Rf_showsBy_54 : DI M_Rf_showsBy 54 (.invokestatic 111) 3 57 := ⟨by decide +kernel, rfl⟩
theorem d_Rf_showsBy_57 : DI M_Rf_showsBy 57 (.iload 5) 2 59 := ⟨by decide +kernel, rfl⟩
theorem d_Rf_showsBy_59 : DJ M_Rf_showsBy 59 (.if_icmp .le 24) 24 3 62 83 := ⟨by decide +kernel, rfl, rfl⟩
theorem d_Rf_showsBy_62 : DI M_Rf_showsBy 62 (.iload_n 2) 1 63 := ⟨by decide +kernel, rfl⟩
theorem d_Rf_showsBy_63 : DI M_Rf_showsBy 63 (.iconst 2) 1 64 := ⟨by decide +kernel, rfl⟩
theorem d_Rf_showsBy_64 : DJ M_Rf_showsBy 64 (.if_icmp .ne 23) 23 3 67 87 := ⟨by decide +kernel, rfl, rfl⟩
theorem d_Rf_showsBy_67 : DI M_Rf_showsBy 67 (.iload_n 1) 1 68 := ⟨by decide +kernel, rfl⟩
theorem d_Rf_showsBy_68 : DI M_Rf_showsBy 68 (.iconst 4) 1 69 := ⟨by decide +kernel, rfl⟩
theorem d_Rf_showsBy_69 : DI M_Rf_showsBy 69 (.iadd) 1 70 := ⟨by decide +kernel, rfl⟩
theorem d_Rf_showsBy_70 : DI M_Rf_showsBy 70 (.bipush 8) 2 72 := ⟨by decide +kernel, rfl⟩
theorem d_Rf_showsBy_72 : DI M_Rf_showsBy 72 (.irem) 1 73 := ⟨by decide +kernel, rfl⟩
theorem d_Rf_showsBy_73 : DI M_Rf_showsBy 73 (.iload 4) 2 75 := ⟨by decide +kernel, rfl⟩
theorem d_Rf_showsBy_75 : DI M_Rf_showsBy 75 (.invokestatic 111) 3 78 := ⟨by decide +kernel, rfl⟩
theorem d_Rf_showsBy_78 : DI M_Rf_showsBy 78 (.iload 5) 2 80 := ⟨by decide +kernel, rfl⟩
theorem d_Rf_showsBy_80 : DJ M_Rf_showsBy 80 (.if_icmp .gt 7) 7 3 83 87 := ⟨by decide +kernel, rfl, rfl⟩
theorem d_Rf_showsBy_83 : DI M_Rf_showsBy 83 (.iconst 1) 1 84 := ⟨by decide +kernel, rfl⟩
theorem d_Rf_showsBy_84 : DJ M_Rf_showsBy 84 (.goto 4) 4 3 87 88 := ⟨by decide +kernel, rfl, rfl⟩
theorem d_Rf_showsBy_87 : DI M_Rf_showsBy 87 (.iconst 0) 1 88 := ⟨by decide +kernel, rfl⟩
theorem d_Rf_showsBy_88 : DI M_Rf_showsBy 88 (.ireturn) 1 89 := ⟨by decide +kernel, rfl⟩
theorem d_Rf_showsTo_0 : DI M_Rf_showsTo 0 (.aload_n 0) 1 1 := ⟨by decide +kernel, rfl⟩
theorem d_Rf_showsTo_1 : DI M_Rf_showsTo 1 (.getfield 16) 3 4 := ⟨by decide +kernel, rfl⟩
theorem d_Rf_showsTo_4 : DI M_Rf_showsTo 4 (.iconst 3) 1 5 := ⟨by decide +kernel, rfl⟩
theorem d_Rf_showsTo_5 : DI M_Rf_showsTo 5 (.iload_n 1) 1 6 := ⟨by decide +kernel, rfl⟩
theorem d_Rf_showsTo_6 : DI M_Rf_showsTo 6 (.imul) 1 7 := ⟨by decide +kernel, rfl⟩
theorem d_Rf_showsTo_7 : DI M_Rf_showsTo 7 (.iaload) 1 8 := ⟨by decide +kernel, rfl⟩
theorem d_Rf_showsTo_8 : DI M_Rf_showsTo 8 (.aload_n 0) 1 9 := ⟨by decide +kernel, rfl⟩
theorem d_Rf_showsTo_9 : DI M_Rf_showsTo 9 (.getfield 16) 3 12 := ⟨by decide +kernel, rfl⟩
theorem d_Rf_showsTo_12 : DI M_Rf_showsTo 12 (.iconst 3) 1 13 := ⟨by decide +kernel, rfl⟩
theorem d_Rf_showsTo_13 : DI M_Rf_showsTo 13 (.iload_n 1) 1 14 := ⟨by decide +kernel, rfl⟩
theorem d_Rf_showsTo_14 : DI M_Rf_showsTo 14 (.imul) 1 15 := ⟨by decide +kernel, rfl⟩
theorem d_Rf_showsTo_15 : DI M_Rf_showsTo 15 (.iconst 1) 1 16 := ⟨by decide +kernel, rfl⟩
theorem d_Rf_showsTo_16 : DI M_Rf_showsTo 16 (.iadd) 1 17 := ⟨by decide +kernel, rfl⟩
theorem d_Rf_showsTo_17 : DI M_Rf_showsTo 17 (.iaload) 1 18 := ⟨by decide +kernel, rfl⟩
theorem d_Rf_showsTo_18 : DI M_Rf_showsTo 18 (.aload_n 0) 1 19 := ⟨by decide +kernel, rfl⟩
theorem d_Rf_showsTo_19 : DI M_Rf_showsTo 19 (.getfield 16) 3 22 := ⟨by decide +kernel, rfl⟩
theorem d_Rf_showsTo_22 : DI M_Rf_showsTo 22 (.iconst 3) 1 23 := ⟨by decide +kernel, rfl⟩
theorem d_Rf_showsTo_23 : DI M_Rf_showsTo 23 (.iload_n 1) 1 24 := ⟨by decide +kernel, rfl⟩
theorem d_Rf_showsTo_24 : DI M_Rf_showsTo 24 (.imul) 1 25 := ⟨by decide +kernel, rfl⟩
theorem d_Rf_showsTo_25 : DI M_Rf_showsTo 25 (.iconst 2) 1 26 := ⟨by decide +kernel, rfl⟩
theorem d_Rf_showsTo_26 : DI M_Rf_showsTo 26 (.iadd) 1 27 := ⟨by decide +kernel, rfl⟩
theorem d_Rf_showsTo_27 : DI M_Rf_showsTo 27 (.iaload) 1 28 := ⟨by decide +kernel, rfl⟩
theorem d_Rf_showsTo_28 : DI M_Rf_showsTo 28 (.aload_n 0) 1 29 := ⟨by decide +kernel, rfl⟩
theorem d_Rf_showsTo_29 : DI M_Rf_showsTo 29 (.getfield 13) 3 32 := ⟨by decide +kernel, rfl⟩
theorem d_Rf_showsTo_32 : DI M_Rf_showsTo 32 (.iload_n 2) 1 33 := ⟨by decide +kernel, rfl⟩
theorem d_Rf_showsTo_33 : DI M_Rf_showsTo 33 (.iaload) 1 34 := ⟨by decide +kernel, rfl⟩
theorem d_Rf_showsTo_34 : DI M_Rf_showsTo 34 (.iload_n 3) 1 35 := ⟨by decide +kernel, rfl⟩
theorem d_Rf_showsTo_35 : DI M_Rf_showsTo 35 (.invokestatic 115) 3 38 := ⟨by decide +kernel, rfl⟩
theorem d_Rf_showsTo_38 : DI M_Rf_showsTo 38 (.ireturn) 1 39 := ⟨by decide +kernel, rfl⟩
theorem d_Rf_angleOf_0 : DI M_Rf_angleOf 0 (.aload_n 0) 1 1 := ⟨by decide +kernel, rfl⟩
theorem d_Rf_angleOf_1 : DI M_Rf_angleOf 1 (.iconst 0) 1 2 := ⟨by decide +kernel, rfl⟩
theorem d_Rf_angleOf_2 : DI M_Rf_angleOf 2 (.iload_n 1) 1 3 := ⟨by decide +kernel, rfl⟩
theorem d_Rf_angleOf_3 : DI M_Rf_angleOf 3 (.iadd) 1 4 := ⟨by decide +kernel, rfl⟩
theorem d_Rf_angleOf_4 : DI M_Rf_angleOf 4 (.iaload) 1 5 := ⟨by decide +kernel, rfl⟩
theorem d_Rf_angleOf_5 : DI M_Rf_angleOf 5 (.aload_n 0) 1 6 := ⟨by decide +kernel, rfl⟩
theorem d_Rf_angleOf_6 : DI M_Rf_angleOf 6 (.bipush 12) 2 8 := ⟨by decide +kernel, rfl⟩
theorem d_Rf_angleOf_8 : DI M_Rf_angleOf 8 (.iaload) 1 9 := ⟨by decide +kernel, rfl⟩
theorem d_Rf_angleOf_9 : DI M_Rf_angleOf 9 (.iadd) 1 10 := ⟨by decide +kernel, rfl⟩
theorem d_Rf_angleOf_10 : DI M_Rf_angleOf 10 (.bipush 8) 2 12 := ⟨by decide +kernel, rfl⟩
theorem d_Rf_angleOf_12 : DI M_Rf_angleOf 12 (.irem) 1 13 := ⟨by decide +kernel, rfl⟩
theorem d_Rf_angleOf_13 : DI M_Rf_angleOf 13 (.ireturn) 1 14 := ⟨by decide +kernel, rfl⟩
theorem d_Rf_isShown_0 : DI M_Rf_isShown 0 (.aload_n 0) 1 1 := ⟨by decide +kernel, rfl⟩
theorem d_Rf_isShown_1 : DI M_Rf_isShown 1 (.iload_n 2) 1 2 := ⟨by decide +kernel, rfl⟩
theorem d_Rf_isShown_2 : DI M_Rf_isShown 2 (.aload_n 1) 1 3 := ⟨by decide +kernel, rfl⟩
theorem d_Rf_isShown_3 : DI M_Rf_isShown 3 (.bipush 6) 2 5 := ⟨by decide +kernel, rfl⟩
theorem d_Rf_isShown_5 : DI M_Rf_isShown 5 (.iload_n 2) 1 6 := ⟨by decide +kernel, rfl⟩
theorem d_Rf_isShown_6 : DI M_Rf_isShown 6 (.iadd) 1 7 := ⟨by decide +kernel, rfl⟩
theorem d_Rf_isShown_7 : DI M_Rf_isShown 7 (.iaload) 1 8 := ⟨by decide +kernel, rfl⟩
theorem d_Rf_isShown_8 : DI M_Rf_isShown 8 (.aload_n 1) 1 9 := ⟨by decide +kernel, rfl⟩
theorem d_Rf_isShown_9 : DI M_Rf_isShown 9 (.iload_n 2) 1 10 := ⟨by decide +kernel, rfl⟩
theorem d_Rf_isShown_10 : DI M_Rf_isShown 10 (.invokestatic 119) 3 13 := ⟨by decide +kernel, rfl⟩
theorem d_Rf_isShown_13 : DI M_Rf_isShown 13 (.invokevirtual 123) 3 16 := ⟨by decide +kernel, rfl⟩
theorem d_Rf_isShown_16 : DI M_Rf_isShown 16 (.ireturn) 1 17 := ⟨by decide +kernel, rfl⟩
theorem d_Rf_seesOf_0 : DI M_Rf_seesOf 0 (.iconst 0) 1 1 := ⟨by decide +kernel, rfl⟩
theorem d_Rf_seesOf_1 : DI M_Rf_seesOf 1 (.istore 4) 2 3 := ⟨by decide +kernel, rfl⟩
theorem d_Rf_seesOf_3 : DI M_Rf_seesOf 3 (.iconst 0) 1 4 := ⟨by decide +kernel, rfl⟩
theorem d_Rf_seesOf_4 : DI M_Rf_seesOf 4 (.istore 5) 2 6 := ⟨by decide +kernel, rfl⟩
theorem d_Rf_seesOf_6 : DI M_Rf_seesOf 6 (.iload 5) 2 8 := ⟨by decide +kernel, rfl⟩
theorem d_Rf_seesOf_8 : DI M_Rf_seesOf 8 (.aload_n 0) 1 9 := ⟨by decide +kernel, rfl⟩
theorem d_Rf_seesOf_9 : DI M_Rf_seesOf 9 (.getfield 70) 3 12 := ⟨by decide +kernel, rfl⟩
theorem d_Rf_seesOf_12 : DJ M_Rf_seesOf 12 (.if_icmp .ge 59) 59 3 15 71 := ⟨by decide +kernel, rfl, rfl⟩
theorem d_Rf_seesOf_15 : DI M_Rf_seesOf 15 (.iload 4) 2 17 := ⟨by decide +kernel, rfl⟩
theorem d_Rf_seesOf_17 : DI M_Rf_seesOf 17 (.iload_n 3) 1 18 := ⟨by decide +kernel, rfl⟩
theorem d_Rf_seesOf_18 : DI M_Rf_seesOf 18 (.iload 5) 2 20 := ⟨by decide +kernel, rfl⟩
theorem d_Rf_seesOf_20 : DI M_Rf_seesOf 20 (.invokestatic 127) 3 23 := ⟨by decide +kernel, rfl⟩
theorem d_Rf_seesOf_23 : DJ M_Rf_seesOf 23 (.ifCond .eq 38) 38 3 26 61 := ⟨by decide +kernel, rfl, rfl⟩
theorem d_Rf_seesOf_26 : DI M_Rf_seesOf 26 (.aload_n 1) 1 27 := ⟨by decide +kernel, rfl⟩
theorem d_Rf_seesOf_27 : DI M_Rf_seesOf 27 (.bipush 6) 2 29 := ⟨by decide +kernel, rfl⟩
theorem d_Rf_seesOf_29 : DI M_Rf_seesOf 29 (.iload 5) 2 31 := ⟨by decide +kernel, rfl⟩
theorem d_Rf_seesOf_31 : DI M_Rf_seesOf 31 (.iadd) 1 32 := ⟨by decide +kernel, rfl⟩
theorem d_Rf_seesOf_32 : DI M_Rf_seesOf 32 (.iaload) 1 33 := ⟨by decide +kernel, rfl⟩
theorem d_Rf_seesOf_33 : DI M_Rf_seesOf 33 (.iload_n 2) 1 34 := ⟨by decide +kernel, rfl⟩
theorem d_Rf_seesOf_34 : DJ M_Rf_seesOf 34 (.if_icmp .ne 27) 27 3 37 61 := ⟨by decide +kernel, rfl, rfl⟩
theorem d_Rf_seesOf_37 : DI M_Rf_seesOf 37 (.aload_n 0) 1 38 := ⟨by decide +kernel, rfl⟩
theorem d_Rf_seesOf_38 : DI M_Rf_seesOf 38 (.aload_n 1) 1 39 := ⟨by decide +kernel, rfl⟩
theorem d_Rf_seesOf_39 : DI M_Rf_seesOf 39 (.iload 5) 2 41 := ⟨by decide +kernel, rfl⟩
theorem d_Rf_seesOf_41 : DI M_Rf_seesOf 41 (.invokevirtual 131) 3 44 := ⟨by decide +kernel, rfl⟩
theorem d_Rf_seesOf_44 : DJ M_Rf_seesOf 44 (.ifCond .eq 17) 17 3 47 61 := ⟨by decide +kernel, rfl, rfl⟩
theorem d_Rf_seesOf_47 : DI M_Rf_seesOf 47 (.iconst 1) 1 48 := ⟨by decide +kernel, rfl⟩
theorem d_Rf_seesOf_48 : DI M_Rf_seesOf 48 (.aload_n 0) 1 49 := ⟨by decide +kernel, rfl⟩
theorem d_Rf_seesOf_49 : DI M_Rf_seesOf 49 (.getfield 16) 3 52 := ⟨by decide +kernel, rfl⟩
theorem d_Rf_seesOf_52 : DI M_Rf_seesOf 52 (.iconst 3) 1 53 := ⟨by decide +kernel, rfl⟩
theorem d_Rf_seesOf_53 : DI M_Rf_seesOf 53 (.iload 5) 2 55 := ⟨by decide +kernel, rfl⟩
theorem d_Rf_seesOf_55 : DI M_Rf_seesOf 55 (.imul) 1 56 := ⟨by decide +kernel, rfl⟩
theorem d_Rf_seesOf_56 : DI M_Rf_seesOf 56 (.iaload) 1 57 := ⟨by decide +kernel, rfl⟩
theorem d_Rf_seesOf_57 : DI M_Rf_seesOf 57 (.ishl) 1 58 := ⟨by decide +kernel, rfl⟩
theorem d_Rf_seesOf_58 : DJ M_Rf_seesOf 58 (.goto 4) 4 3 61 62 := ⟨by decide +kernel, rfl, rfl⟩
theorem d_Rf_seesOf_61 : DI M_Rf_seesOf 61 (.iconst 0) 1 62 := ⟨by decide +kernel, rfl⟩
theorem d_Rf_seesOf_62 : DI M_Rf_seesOf 62 (.ior) 1 63 := ⟨by decide +kernel, rfl⟩
theorem d_Rf_seesOf_63 : DI M_Rf_seesOf 63 (.istore 4) 2 65 := ⟨by decide +kernel, rfl⟩
theorem d_Rf_seesOf_65 : DI M_Rf_seesOf 65 (.iinc 5 1) 3 68 := ⟨by decide +kernel, rfl⟩
theorem d_Rf_seesOf_68 : DJ M_Rf_seesOf 68 (.goto (-62)) (-62) 3 71 6 := ⟨by decide +kernel, rfl, rfl⟩
theorem d_Rf_seesOf_71 : DI M_Rf_seesOf 71 (.iload 4) 2 73 := ⟨by decide +kernel, rfl⟩
theorem d_Rf_seesOf_73 : DI M_Rf_seesOf 73 (.ireturn) 1 74 := ⟨by decide +kernel, rfl⟩
theorem d_Rf_heldBy_0 : DI M_Rf_heldBy 0 (.iconst 0) 1 1 := ⟨by decide +kernel, rfl⟩
theorem d_Rf_heldBy_1 : DI M_Rf_heldBy 1 (.istore_n 3) 1 2 := ⟨by decide +kernel, rfl⟩
theorem d_Rf_heldBy_2 : DI M_Rf_heldBy 2 (.iconst 0) 1 3 := ⟨by decide +kernel, rfl⟩
theorem d_Rf_heldBy_3 : DI M_Rf_heldBy 3 (.istore 4) 2 5 := ⟨by decide +kernel, rfl⟩
theorem d_Rf_heldBy_5 : DI M_Rf_heldBy 5 (.iload 4) 2 7 := ⟨by decide +kernel, rfl⟩
theorem d_Rf_heldBy_7 : DI M_Rf_heldBy 7 (.aload_n 0) 1 8 := ⟨by decide +kernel, rfl⟩
theorem d_Rf_heldBy_8 : DI M_Rf_heldBy 8 (.getfield 70) 3 11 := ⟨by decide +kernel, rfl⟩
theorem d_Rf_heldBy_11 : DJ M_Rf_heldBy 11 (.if_icmp .ge 31) 31 3 14 42 := ⟨by decide +kernel, rfl, rfl⟩
theorem d_Rf_heldBy_14 : DI M_Rf_heldBy 14 (.iload_n 3) 1 15 := ⟨by decide +kernel, rfl⟩
theorem d_Rf_heldBy_15 : DI M_Rf_heldBy 15 (.aload_n 1) 1 16 := ⟨by decide +kernel, rfl⟩
theorem d_Rf_heldBy_16 : DI M_Rf_heldBy 16 (.bipush 6) 2 18 := ⟨by decide +kernel, rfl⟩
theorem d_Rf_heldBy_18 : DI M_Rf_heldBy 18 (.iload 4) 2 20 := ⟨by decide +kernel, rfl⟩
theorem d_Rf_heldBy_20 : DI M_Rf_heldBy 20 (.iadd) 1 21 := ⟨by decide +kernel, rfl⟩
theorem d_Rf_heldBy_21 : DI M_Rf_heldBy 21 (.iaload) 1 22 := ⟨by decide +kernel, rfl⟩
theorem d_Rf_heldBy_22 : DI M_Rf_heldBy 22 (.iload_n 2) 1 23 := ⟨by decide +kernel, rfl⟩
theorem d_Rf_heldBy_23 : DJ M_Rf_heldBy 23 (.if_icmp .ne 10) 10 3 26 33 := ⟨by decide +kernel, rfl, rfl⟩
theorem d_Rf_heldBy_26 : DI M_Rf_heldBy 26 (.iconst 1) 1 27 := ⟨by decide +kernel, rfl⟩
theorem d_Rf_heldBy_27 : DI M_Rf_heldBy 27 (.iload 4) 2 29 := ⟨by decide +kernel, rfl⟩
theorem d_Rf_heldBy_29 : DI M_Rf_heldBy 29 (.ishl) 1 30 := ⟨by decide +kernel, rfl⟩
theorem d_Rf_heldBy_30 : DJ M_Rf_heldBy 30 (.goto 4) 4 3 33 34 := ⟨by decide +kernel, rfl, rfl⟩
theorem d_Rf_heldBy_33 : DI M_Rf_heldBy 33 (.iconst 0) 1 34 := ⟨by decide +kernel, rfl⟩
theorem d_Rf_heldBy_34 : DI M_Rf_heldBy 34 (.ior) 1 35 := ⟨by decide +kernel, rfl⟩
theorem d_Rf_heldBy_35 : DI M_Rf_heldBy 35 (.istore_n 3) 1 36 := ⟨by decide +kernel, rfl⟩
theorem d_Rf_heldBy_36 : DI M_Rf_heldBy 36 (.iinc 4 1) 3 39 := ⟨by decide +kernel, rfl⟩
theorem d_Rf_heldBy_39 : DJ M_Rf_heldBy 39 (.goto (-34)) (-34) 3 42 5 := ⟨by decide +kernel, rfl, rfl⟩
theorem d_Rf_heldBy_42 : DI M_Rf_heldBy 42 (.iload_n 3) 1 43 := ⟨by decide +kernel, rfl⟩
theorem d_Rf_heldBy_43 : DI M_Rf_heldBy 43 (.ireturn) 1 44 := ⟨by decide +kernel, rfl⟩
theorem d_Rf_lookers_0 : DI M_Rf_lookers 0 (.iconst 0) 1 1 := ⟨by decide +kernel, rfl⟩
theorem d_Rf_lookers_1 : DI M_Rf_lookers 1 (.istore_n 2) 1 2 := ⟨by decide +kernel, rfl⟩
theorem d_Rf_lookers_2 : DI M_Rf_lookers 2 (.iconst 0) 1 3 := ⟨by decide +kernel, rfl⟩
theorem d_Rf_lookers_3 : DI M_Rf_lookers 3 (.istore_n 3) 1 4 := ⟨by decide +kernel, rfl⟩
theorem d_Rf_lookers_4 : DI M_Rf_lookers 4 (.iload_n 3) 1 5 := ⟨by decide +kernel, rfl⟩
theorem d_Rf_lookers_5 : DI M_Rf_lookers 5 (.aload_n 0) 1 6 := ⟨by decide +kernel, rfl⟩
theorem d_Rf_lookers_6 : DI M_Rf_lookers 6 (.getfield 63) 3 9 := ⟨by decide +kernel, rfl⟩
theorem d_Rf_lookers_9 : DJ M_Rf_lookers 9 (.if_icmp .ge 34) 34 3 12 43 := ⟨by decide +kernel, rfl, rfl⟩
theorem d_Rf_lookers_12 : DI M_Rf_lookers 12 (.iload_n 2) 1 13 := ⟨by decide +kernel, rfl⟩
theorem d_Rf_lookers_13 : DI M_Rf_lookers 13 (.aload_n 0) 1 14 := ⟨by decide +kernel, rfl⟩
theorem d_Rf_lookers_14 : DI M_Rf_lookers 14 (.aload_n 1) 1 15 := ⟨by decide +kernel, rfl⟩
theorem d_Rf_lookers_15 : DI M_Rf_lookers 15 (.iload_n 3) 1 16 := ⟨by decide +kernel, rfl⟩
theorem d_Rf_lookers_16 : DI M_Rf_lookers 16 (.bipush 63) 2 18 := ⟨by decide +kernel, rfl⟩
theorem d_Rf_lookers_18 : DI M_Rf_lookers 18 (.invokevirtual 135) 3 21 := ⟨by decide +kernel, rfl⟩
theorem d_Rf_lookers_21 : DI M_Rf_lookers 21 (.iconst 2) 1 22 := ⟨by decide +kernel, rfl⟩
theorem d_Rf_lookers_22 : DI M_Rf_lookers 22 (.invokestatic 127) 3 25 := ⟨by decide +kernel, rfl⟩
theorem d_Rf_lookers_25 : DJ M_Rf_lookers 25 (.ifCond .eq 9) 9 3 28 34 := ⟨by decide +kernel, rfl, rfl⟩
theorem d_Rf_lookers_28 : DI M_Rf_lookers 28 (.iconst 1) 1 29 := ⟨by decide +kernel, rfl⟩
theorem d_Rf_lookers_29 : DI M_Rf_lookers 29 (.iload_n 3) 1 30 := ⟨by decide +kernel, rfl⟩
theorem d_Rf_lookers_30 : DI M_Rf_lookers 30 (.ishl) 1 31 := ⟨by decide +kernel, rfl⟩
theorem d_Rf_lookers_31 : DJ M_Rf_lookers 31 (.goto 4) 4 3 34 35 := ⟨by decide +kernel, rfl, rfl⟩
theorem d_Rf_lookers_34 : DI M_Rf_lookers 34 (.iconst 0) 1 35 := ⟨by decide +kernel, rfl⟩
theorem d_Rf_lookers_35 : DI M_Rf_lookers 35 (.ior) 1 36 := ⟨by decide +kernel, rfl⟩
theorem d_Rf_lookers_36 : DI M_Rf_lookers 36 (.istore_n 2) 1 37 := ⟨by decide +kernel, rfl⟩
theorem d_Rf_lookers_37 : DI M_Rf_lookers 37 (.iinc 3 1) 3 40 := ⟨by decide +kernel, rfl⟩
theorem d_Rf_lookers_40 : DJ M_Rf_lookers 40 (.goto (-36)) (-36) 3 43 4 := ⟨by decide +kernel, rfl, rfl⟩
theorem d_Rf_lookers_43 : DI M_Rf_lookers 43 (.iload_n 2) 1 44 := ⟨by decide +kernel, rfl⟩
theorem d_Rf_lookers_44 : DI M_Rf_lookers 44 (.ireturn) 1 45 := ⟨by decide +kernel, rfl⟩
theorem d_Rf_together_0 : DI M_Rf_together 0 (.iconst 0) 1 1 := ⟨by decide +kernel, rfl⟩
theorem d_Rf_together_1 : DI M_Rf_together 1 (.istore_n 3) 1 2 := ⟨by decide +kernel, rfl⟩
theorem d_Rf_together_2 : DI M_Rf_together 2 (.iconst 0) 1 3 := ⟨by decide +kernel, rfl⟩
theorem d_Rf_together_3 : DI M_Rf_together 3 (.istore 4) 2 5 := ⟨by decide +kernel, rfl⟩
theorem d_Rf_together_5 : DI M_Rf_together 5 (.iload 4) 2 7 := ⟨by decide +kernel, rfl⟩
theorem d_Rf_together_7 : DI M_Rf_together 7 (.aload_n 0) 1 8 := ⟨by decide +kernel, rfl⟩
theorem d_Rf_together_8 : DI M_Rf_together 8 (.getfield 63) 3 11 := ⟨by decide +kernel, rfl⟩
theorem d_Rf_together_11 : DJ M_Rf_together 11 (.if_icmp .ge 20) 20 3 14 31 := ⟨by decide +kernel, rfl, rfl⟩
theorem d_Rf_together_14 : DI M_Rf_together 14 (.iload_n 3) 1 15 := ⟨by decide +kernel, rfl⟩
theorem d_Rf_together_15 : DI M_Rf_together 15 (.aload_n 0) 1 16 := ⟨by decide +kernel, rfl⟩
theorem d_Rf_together_16 : DI M_Rf_together 16 (.aload_n 1) 1 17 := ⟨by decide +kernel, rfl⟩
theorem d_Rf_together_17 : DI M_Rf_together 17 (.iload 4) 2 19 := ⟨by decide +kernel, rfl⟩
theorem d_Rf_together_19 : DI M_Rf_together 19 (.iload_n 2) 1 20 := ⟨by decide +kernel, rfl⟩
theorem d_Rf_together_20 : DI M_Rf_together 20 (.invokevirtual 135) 3 23 := ⟨by decide +kernel, rfl⟩
theorem d_Rf_together_23 : DI M_Rf_together 23 (.ior) 1 24 := ⟨by decide +kernel, rfl⟩
theorem d_Rf_together_24 : DI M_Rf_together 24 (.istore_n 3) 1 25 := ⟨by decide +kernel, rfl⟩
theorem d_Rf_together_25 : DI M_Rf_together 25 (.iinc 4 1) 3 28 := ⟨by decide +kernel, rfl⟩
theorem d_Rf_together_28 : DJ M_Rf_together 28 (.goto (-23)) (-23) 3 31 5 := ⟨by decide +kernel, rfl, rfl⟩
theorem d_Rf_together_31 : DI M_Rf_together 31 (.iload_n 3) 1 32 := ⟨by decide +kernel, rfl⟩
theorem d_Rf_together_32 : DI M_Rf_together 32 (.ireturn) 1 33 := ⟨by decide +kernel, rfl⟩
theorem d_Rf_about_0 : DI M_Rf_about 0 (.aload_n 0) 1 1 := ⟨by decide +kernel, rfl⟩
theorem d_Rf_about_1 : DI M_Rf_about 1 (.iconst 0) 1 2 := ⟨by decide +kernel, rfl⟩
theorem d_Rf_about_2 : DI M_Rf_about 2 (.putfield 59) 3 5 := ⟨by decide +kernel, rfl⟩
theorem d_Rf_about_5 : DI M_Rf_about 5 (.iload_n 1) 1 6 := ⟨by decide +kernel, rfl⟩
theorem d_Rf_about_6 : decode M_Rf_about.2.1 6 = .ok (.tableswitch 111 0 8 #[50, 55, 60, 68, 76, 85, 96, 101, 106], 50) := by decide +kernel
theorem d_Rf_about_56 : DI M_Rf_about 56 (.aload_n 0) 1 57 := ⟨by decide +kernel, rfl⟩
theorem d_Rf_about_57 : DI M_Rf_about 57 (.getfield 63) 3 60 := ⟨by decide +kernel, rfl⟩
theorem d_Rf_about_60 : DI M_Rf_about 60 (.ireturn) 1 61 := ⟨by decide +kernel, rfl⟩
theorem d_Rf_about_61 : DI M_Rf_about 61 (.aload_n 0) 1 62 := ⟨by decide +kernel, rfl⟩
theorem d_Rf_about_62 : DI M_Rf_about 62 (.getfield 70) 3 65 := ⟨by decide +kernel, rfl⟩
theorem d_Rf_about_65 : DI M_Rf_about 65 (.ireturn) 1 66 := ⟨by decide +kernel, rfl⟩
theorem d_Rf_about_66 : DI M_Rf_about 66 (.aload_n 0) 1 67 := ⟨by decide +kernel, rfl⟩
theorem d_Rf_about_67 : DI M_Rf_about 67 (.getfield 25) 3 70 := ⟨by decide +kernel, rfl⟩
theorem d_Rf_about_70 : DI M_Rf_about 70 (.bipush 12) 2 72 := ⟨by decide +kernel, rfl⟩
theorem d_Rf_about_72 : DI M_Rf_about 72 (.iaload) 1 73 := ⟨by decide +kernel, rfl⟩
theorem d_Rf_about_73 : DI M_Rf_about 73 (.ireturn) 1 74 := ⟨by decide +kernel, rfl⟩
theorem d_Rf_about_74 : DI M_Rf_about 74 (.aload_n 0) 1 75 := ⟨by decide +kernel, rfl⟩
theorem d_Rf_about_75 : DI M_Rf_about 75 (.getfield 25) 3 78 := ⟨by decide +kernel, rfl⟩
theorem d_Rf_about_78 : DI M_Rf_about 78 (.bipush 13) 2 80 := ⟨by decide +kernel, rfl⟩
theorem d_Rf_about_80 : DI M_Rf_about 80 (.iaload) 1 81 := ⟨by decide +kernel, rfl⟩
theorem d_Rf_about_81 : DI M_Rf_about 81 (.ireturn) 1 82 := ⟨by decide +kernel, rfl⟩
theorem d_Rf_about_82 : DI M_Rf_about 82 (.aload_n 0) 1 83 := ⟨by decide +kernel, rfl⟩
theorem d_Rf_about_83 : DI M_Rf_about 83 (.aload_n 0) 1 84 := ⟨by decide +kernel, rfl⟩
theorem d_Rf_about_84 : DI M_Rf_about 84 (.getfield 25) 3 87 := ⟨by decide +kernel, rfl⟩
theorem d_Rf_about_87 : DI M_Rf_about 87 (.invokevirtual 139) 3 90 := ⟨by decide +kernel, rfl⟩
theorem d_Rf_about_90 : DI M_Rf_about 90 (.ireturn) 1 91 := ⟨by decide +kernel, rfl⟩
theorem d_Rf_about_91 : DI M_Rf_about 91 (.aload_n 0) 1 92 := ⟨by decide +kernel, rfl⟩
theorem d_Rf_about_92 : DI M_Rf_about 92 (.aload_n 0) 1 93 := ⟨by decide +kernel, rfl⟩
theorem d_Rf_about_93 : DI M_Rf_about 93 (.getfield 25) 3 96 := ⟨by decide +kernel, rfl⟩
theorem d_Rf_about_96 : DI M_Rf_about 96 (.bipush 63) 2 98 := ⟨by decide +kernel, rfl⟩
theorem d_Rf_about_98 : DI M_Rf_about 98 (.invokevirtual 143) 3 101 := ⟨by decide +kernel, rfl⟩
theorem d_Rf_about_101 : DI M_Rf_about 101 (.ireturn) 1 102 := ⟨by decide +kernel, rfl⟩
theorem d_Rf_about_102 : DI M_Rf_about 102 (.aload_n 0) 1 103 := ⟨by decide +kernel, rfl⟩
theorem d_Rf_about_103 : DI M_Rf_about 103 (.getfield 108) 3 106 := ⟨by decide +kernel, rfl⟩
theorem d_Rf_about_106 : DI M_Rf_about 106 (.ireturn) 1 107 := ⟨by decide +kernel, rfl⟩
theorem d_Rf_about_107 : DI M_Rf_about 107 (.aload_n 0) 1 108 := ⟨by decide +kernel, rfl⟩
theorem d_Rf_about_108 : DI M_Rf_about 108 (.getfield 146) 3 111 := ⟨by decide +kernel, rfl⟩
theorem d_Rf_about_111 : DI M_Rf_about 111 (.ireturn) 1 112 := ⟨by decide +kernel, rfl⟩
theorem d_Rf_about_112 : DI M_Rf_about 112 (.aload_n 0) 1 113 := ⟨by decide +kernel, rfl⟩
theorem d_Rf_about_113 : DI M_Rf_about 113 (.getfield 75) 3 116 := ⟨by decide +kernel, rfl⟩
theorem d_Rf_about_116 : DI M_Rf_about 116 (.ireturn) 1 117 := ⟨by decide +kernel, rfl⟩
theorem d_Rf_about_117 : DI M_Rf_about 117 (.bipush (-2)) 2 119 := ⟨by decide +kernel, rfl⟩
theorem d_Rf_about_119 : DI M_Rf_about 119 (.ireturn) 1 120 := ⟨by decide +kernel, rfl⟩
theorem d_Rf_holder_0 : DI M_Rf_holder 0 (.aload_n 0) 1 1 := ⟨by decide +kernel, rfl⟩
theorem d_Rf_holder_1 : DI M_Rf_holder 1 (.iconst 0) 1 2 := ⟨by decide +kernel, rfl⟩
theorem d_Rf_holder_2 : DI M_Rf_holder 2 (.putfield 59) 3 5 := ⟨by decide +kernel, rfl⟩
theorem d_Rf_holder_5 : DI M_Rf_holder 5 (.aload_n 0) 1 6 := ⟨by decide +kernel, rfl⟩
theorem d_Rf_holder_6 : DI M_Rf_holder 6 (.iload_n 1) 1 7 := ⟨by decide +kernel, rfl⟩
theorem d_Rf_holder_7 : DI M_Rf_holder 7 (.invokevirtual 149) 3 10 := ⟨by decide +kernel, rfl⟩
theorem d_Rf_holder_10 : DJ M_Rf_holder 10 (.ifCond .eq 5) 5 3 13 15 := ⟨by decide +kernel, rfl, rfl⟩
theorem d_Rf_holder_13 : DI M_Rf_holder 13 (.iconst (-1)) 1 14 := ⟨by decide +kernel, rfl⟩
theorem d_Rf_holder_14 : DI M_Rf_holder 14 (.ireturn) 1 15 := ⟨by decide +kernel, rfl⟩
theorem d_Rf_holder_15 : DI M_Rf_holder 15 (.iload_n 2) 1 16 := ⟨by decide +kernel, rfl⟩
theorem d_Rf_holder_16 : decode M_Rf_holder.2.1 16 = .ok (.tableswitch 57 0 2 #[28, 35, 45], 28) := by decide +kernel
theorem d_Rf_holder_44 : DI M_Rf_holder 44 (.aload_n 0) 1 45 := ⟨by decide +kernel, rfl⟩
theorem d_Rf_holder_45 : DI M_Rf_holder 45 (.getfield 13) 3 48 := ⟨by decide +kernel, rfl⟩
theorem d_Rf_holder_48 : DI M_Rf_holder 48 (.iload_n 1) 1 49 := ⟨by decide +kernel, rfl⟩
theorem d_Rf_holder_49 : DI M_Rf_holder 49 (.iaload) 1 50 := ⟨by decide +kernel, rfl⟩
theorem d_Rf_holder_50 : DI M_Rf_holder 50 (.ireturn) 1 51 := ⟨by decide +kernel, rfl⟩
theorem d_Rf_holder_51 : DI M_Rf_holder 51 (.aload_n 0) 1 52 := ⟨by decide +kernel, rfl⟩
theorem d_Rf_holder_52 : DI M_Rf_holder 52 (.aload_n 0) 1 53 := ⟨by decide +kernel, rfl⟩
theorem d_Rf_holder_53 : DI M_Rf_holder 53 (.getfield 25) 3 56 := ⟨by decide +kernel, rfl⟩
theorem d_Rf_holder_56 : DI M_Rf_holder 56 (.iload_n 1) 1 57 := ⟨by decide +kernel, rfl⟩
theorem d_Rf_holder_57 : DI M_Rf_holder 57 (.invokevirtual 153) 3 60 := ⟨by decide +kernel, rfl⟩
theorem d_Rf_holder_60 : DI M_Rf_holder 60 (.ireturn) 1 61 := ⟨by decide +kernel, rfl⟩
theorem d_Rf_holder_61 : DI M_Rf_holder 61 (.aload_n 0) 1 62 := ⟨by decide +kernel, rfl⟩
theorem d_Rf_holder_62 : DI M_Rf_holder 62 (.aload_n 0) 1 63 := ⟨by decide +kernel, rfl⟩
theorem d_Rf_holder_63 : DI M_Rf_holder 63 (.getfield 25) 3 66 := ⟨by decide +kernel, rfl⟩
theorem d_Rf_holder_66 : DI M_Rf_holder 66 (.iload_n 1) 1 67 := ⟨by decide +kernel, rfl⟩
theorem d_Rf_holder_67 : DI M_Rf_holder 67 (.bipush 63) 2 69 := ⟨by decide +kernel, rfl⟩
theorem d_Rf_holder_69 : DI M_Rf_holder 69 (.invokevirtual 135) 3 72 := ⟨by decide +kernel, rfl⟩
theorem d_Rf_holder_72 : DI M_Rf_holder 72 (.ireturn) 1 73 := ⟨by decide +kernel, rfl⟩
theorem d_Rf_holder_73 : DI M_Rf_holder 73 (.bipush (-2)) 2 75 := ⟨by decide +kernel, rfl⟩
theorem d_Rf_holder_75 : DI M_Rf_holder 75 (.ireturn) 1 76 := ⟨by decide +kernel, rfl⟩
theorem d_Rf_piece_0 : DI M_Rf_piece 0 (.aload_n 0) 1 1 := ⟨by decide +kernel, rfl⟩
theorem d_Rf_piece_1 : DI M_Rf_piece 1 (.iconst 0) 1 2 := ⟨by decide +kernel, rfl⟩
theorem d_Rf_piece_2 : DI M_Rf_piece 2 (.putfield 59) 3 5 := ⟨by decide +kernel, rfl⟩
theorem d_Rf_piece_5 : DI M_Rf_piece 5 (.aload_n 0) 1 6 := ⟨by decide +kernel, rfl⟩
theorem d_Rf_piece_6 : DI M_Rf_piece 6 (.iload_n 1) 1 7 := ⟨by decide +kernel, rfl⟩
theorem d_Rf_piece_7 : DI M_Rf_piece 7 (.invokevirtual 156) 3 10 := ⟨by decide +kernel, rfl⟩
theorem d_Rf_piece_10 : DJ M_Rf_piece 10 (.ifCond .eq 5) 5 3 13 15 := ⟨by decide +kernel, rfl, rfl⟩
theorem d_Rf_piece_13 : DI M_Rf_piece 13 (.iconst (-1)) 1 14 := ⟨by decide +kernel, rfl⟩
theorem d_Rf_piece_14 : DI M_Rf_piece 14 (.ireturn) 1 15 := ⟨by decide +kernel, rfl⟩
theorem d_Rf_piece_15 : DI M_Rf_piece 15 (.iload_n 2) 1 16 := ⟨by decide +kernel, rfl⟩
theorem d_Rf_piece_16 : decode M_Rf_piece.2.1 16 = .ok (.tableswitch 101 0 6 #[44, 44, 44, 55, 64, 74, 83], 44) := by decide +kernel
theorem d_Rf_piece_60 : DI M_Rf_piece 60 (.aload_n 0) 1 61 := ⟨by decide +kernel, rfl⟩
theorem d_Rf_piece_61 : DI M_Rf_piece 61 (.getfield 16) 3 64 := ⟨by decide +kernel, rfl⟩
theorem d_Rf_piece_64 : DI M_Rf_piece 64 (.iconst 3) 1 65 := ⟨by decide +kernel, rfl⟩
theorem d_Rf_piece_65 : DI M_Rf_piece 65 (.iload_n 1) 1 66 := ⟨by decide +kernel, rfl⟩
theorem d_Rf_piece_66 : DI M_Rf_piece 66 (.imul) 1 67 := ⟨by decide +kernel, rfl⟩
theorem d_Rf_piece_67 : DI M_Rf_piece 67 (.iload_n 2) 1 68 := ⟨by decide +kernel, rfl⟩
theorem d_Rf_piece_68 : DI M_Rf_piece 68 (.iadd) 1 69 := ⟨by decide +kernel, rfl⟩
theorem d_Rf_piece_69 : DI M_Rf_piece 69 (.iaload) 1 70 := ⟨by decide +kernel, rfl⟩
theorem d_Rf_piece_70 : DI M_Rf_piece 70 (.ireturn) 1 71 := ⟨by decide +kernel, rfl⟩
theorem d_Rf_piece_71 : DI M_Rf_piece 71 (.aload_n 0) 1 72 := ⟨by decide +kernel, rfl⟩
theorem d_Rf_piece_72 : DI M_Rf_piece 72 (.getfield 25) 3 75 := ⟨by decide +kernel, rfl⟩
theorem d_Rf_piece_75 : DI M_Rf_piece 75 (.iconst 0) 1 76 := ⟨by decide +kernel, rfl⟩
theorem d_Rf_piece_76 : DI M_Rf_piece 76 (.iload_n 1) 1 77 := ⟨by decide +kernel, rfl⟩
theorem d_Rf_piece_77 : DI M_Rf_piece 77 (.iadd) 1 78 := ⟨by decide +kernel, rfl⟩
theorem d_Rf_piece_78 : DI M_Rf_piece 78 (.iaload) 1 79 := ⟨by decide +kernel, rfl⟩
theorem d_Rf_piece_79 : DI M_Rf_piece 79 (.ireturn) 1 80 := ⟨by decide +kernel, rfl⟩
theorem d_Rf_piece_80 : DI M_Rf_piece 80 (.aload_n 0) 1 81 := ⟨by decide +kernel, rfl⟩
theorem d_Rf_piece_81 : DI M_Rf_piece 81 (.getfield 25) 3 84 := ⟨by decide +kernel, rfl⟩
theorem d_Rf_piece_84 : DI M_Rf_piece 84 (.bipush 6) 2 86 := ⟨by decide +kernel, rfl⟩
theorem d_Rf_piece_86 : DI M_Rf_piece 86 (.iload_n 1) 1 87 := ⟨by decide +kernel, rfl⟩
theorem d_Rf_piece_87 : DI M_Rf_piece 87 (.iadd) 1 88 := ⟨by decide +kernel, rfl⟩
theorem d_Rf_piece_88 : DI M_Rf_piece 88 (.iaload) 1 89 := ⟨by decide +kernel, rfl⟩
theorem d_Rf_piece_89 : DI M_Rf_piece 89 (.ireturn) 1 90 := ⟨by decide +kernel, rfl⟩
theorem d_Rf_piece_90 : DI M_Rf_piece 90 (.aload_n 0) 1 91 := ⟨by decide +kernel, rfl⟩
theorem d_Rf_piece_91 : DI M_Rf_piece 91 (.getfield 25) 3 94 := ⟨by decide +kernel, rfl⟩
theorem d_Rf_piece_94 : DI M_Rf_piece 94 (.iload_n 1) 1 95 := ⟨by decide +kernel, rfl⟩
theorem d_Rf_piece_95 : DI M_Rf_piece 95 (.invokestatic 119) 3 98 := ⟨by decide +kernel, rfl⟩
theorem d_Rf_piece_98 : DI M_Rf_piece 98 (.ireturn) 1 99 := ⟨by decide +kernel, rfl⟩
theorem d_Rf_piece_99 : DI M_Rf_piece 99 (.aload_n 0) 1 100 := ⟨by decide +kernel, rfl⟩
theorem d_Rf_piece_100 : DI M_Rf_piece 100 (.aload_n 0) 1 101 := ⟨by decide +kernel, rfl⟩
theorem d_Rf_piece_101 : DI M_Rf_piece 101 (.getfield 25) 3 104 := ⟨by decide +kernel, rfl⟩
theorem d_Rf_piece_104 : DI M_Rf_piece 104 (.iload_n 1) 1 105 := ⟨by decide +kernel, rfl⟩
theorem d_Rf_piece_105 : DI M_Rf_piece 105 (.invokevirtual 131) 3 108 := ⟨by decide +kernel, rfl⟩
theorem d_Rf_piece_108 : DJ M_Rf_piece 108 (.ifCond .eq 7) 7 3 111 115 := ⟨by decide +kernel, rfl, rfl⟩
theorem d_Rf_piece_111 : DI M_Rf_piece 111 (.iconst 1) 1 112 := ⟨by decide +kernel, rfl⟩
theorem d_Rf_piece_112 : DJ M_Rf_piece 112 (.goto 4) 4 3 115 116 := ⟨by decide +kernel, rfl, rfl⟩
theorem d_Rf_piece_115 : DI M_Rf_piece 115 (.iconst 0) 1 116 := ⟨by decide +kernel, rfl⟩
theorem d_Rf_piece_116 : DI M_Rf_piece 116 (.ireturn) 1 117 := ⟨by decide +kernel, rfl⟩
theorem d_Rf_piece_117 : DI M_Rf_piece 117 (.bipush (-2)) 2 119 := ⟨by decide +kernel, rfl⟩
theorem d_Rf_piece_119 : DI M_Rf_piece 119 (.ireturn) 1 120 := ⟨by decide +kernel, rfl⟩
theorem d_Rf_shows_0 : DI M_Rf_shows 0 (.aload_n 0) 1 1 := ⟨by decide +kernel, rfl⟩
theorem d_Rf_shows_1 : DI M_Rf_shows 1 (.iconst 0) 1 2 := ⟨by decide +kernel, rfl⟩
theorem d_Rf_shows_2 : DI M_Rf_shows 2 (.putfield 59) 3 5 := ⟨by decide +kernel, rfl⟩
theorem d_Rf_shows_5 : DI M_Rf_shows 5 (.aload_n 0) 1 6 := ⟨by decide +kernel, rfl⟩
theorem d_Rf_shows_6 : DI M_Rf_shows 6 (.iload_n 1) 1 7 := ⟨by decide +kernel, rfl⟩
theorem d_Rf_shows_7 : DI M_Rf_shows 7 (.invokevirtual 156) 3 10 := ⟨by decide +kernel, rfl⟩
theorem d_Rf_shows_10 : DJ M_Rf_shows 10 (.ifCond .ne 11) 11 3 13 21 := ⟨by decide +kernel, rfl, rfl⟩
theorem d_Rf_shows_13 : DI M_Rf_shows 13 (.aload_n 0) 1 14 := ⟨by decide +kernel, rfl⟩
theorem d_Rf_shows_14 : DI M_Rf_shows 14 (.iload_n 2) 1 15 := ⟨by decide +kernel, rfl⟩
theorem d_Rf_shows_15 : DI M_Rf_shows 15 (.invokevirtual 149) 3 18 := ⟨by decide +kernel, rfl⟩
theorem d_Rf_shows_18 : DJ M_Rf_shows 18 (.ifCond .eq 5) 5 3 21 23 := ⟨by decide +kernel, rfl, rfl⟩
theorem d_Rf_shows_21 : DI M_Rf_shows 21 (.iconst (-1)) 1 22 := ⟨by decide +kernel, rfl⟩
theorem d_Rf_shows_22 : DI M_Rf_shows 22 (.ireturn) 1 23 := ⟨by decide +kernel, rfl⟩
theorem d_Rf_shows_23 : DI M_Rf_shows 23 (.iload_n 3) 1 24 := ⟨by decide +kernel, rfl⟩
theorem d_Rf_shows_24 : DI M_Rf_shows 24 (.i2l) 1 25 := ⟨by decide +kernel, rfl⟩
theorem d_Rf_shows_25 : DI M_Rf_shows 25 (.lconst 0) 1 26 := ⟨by decide +kernel, rfl⟩
theorem d_Rf_shows_26 : DI M_Rf_shows 26 (.ldc2_w 159) 3 29 := ⟨by decide +kernel, rfl⟩
theorem d_Rf_shows_29 : DI M_Rf_shows 29 (.invokestatic 66) 3 32 := ⟨by decide +kernel, rfl⟩
theorem d_Rf_shows_32 : DJ M_Rf_shows 32 (.ifCond .ne 6) 6 3 35 38 := ⟨by decide +kernel, rfl, rfl⟩
theorem d_Rf_shows_35 : DI M_Rf_shows 35 (.bipush (-2)) 2 37 := ⟨by decide +kernel, rfl⟩
theorem d_Rf_shows_37 : DI M_Rf_shows 37 (.ireturn) 1 38 := ⟨by decide +kernel, rfl⟩
theorem d_Rf_shows_38 : DI M_Rf_shows 38 (.aload_n 0) 1 39 := ⟨by decide +kernel, rfl⟩
theorem d_Rf_shows_39 : DI M_Rf_shows 39 (.iload_n 1) 1 40 := ⟨by decide +kernel, rfl⟩
theorem d_Rf_shows_40 : DI M_Rf_shows 40 (.iload_n 2) 1 41 := ⟨by decide +kernel, rfl⟩
theorem d_Rf_shows_41 : DI M_Rf_shows 41 (.iload_n 3) 1 42 := ⟨by decide +kernel, rfl⟩
theorem d_Rf_shows_42 : DI M_Rf_shows 42 (.invokevirtual 123) 3 45 := ⟨by decide +kernel, rfl⟩
theorem d_Rf_shows_45 : DJ M_Rf_shows 45 (.ifCond .eq 7) 7 3 48 52 := ⟨by decide +kernel, rfl, rfl⟩
theorem d_Rf_shows_48 : DI M_Rf_shows 48 (.iconst 1) 1 49 := ⟨by decide +kernel, rfl⟩
theorem d_Rf_shows_49 : DJ M_Rf_shows 49 (.goto 4) 4 3 52 53 := ⟨by decide +kernel, rfl, rfl⟩
theorem d_Rf_shows_52 : DI M_Rf_shows 52 (.iconst 0) 1 53 := ⟨by decide +kernel, rfl⟩
theorem d_Rf_shows_53 : DI M_Rf_shows 53 (.ireturn) 1 54 := ⟨by decide +kernel, rfl⟩
theorem d_Rf_note_0 : DI M_Rf_note 0 (.aload_n 0) 1 1 := ⟨by decide +kernel, rfl⟩
theorem d_Rf_note_1 : DI M_Rf_note 1 (.getfield 108) 3 4 := ⟨by decide +kernel, rfl⟩
theorem d_Rf_note_4 : DI M_Rf_note 4 (.bipush 14) 2 6 := ⟨by decide +kernel, rfl⟩
theorem d_Rf_note_6 : DJ M_Rf_note 6 (.if_icmp .ne 43) 43 3 9 49 := ⟨by decide +kernel, rfl, rfl⟩
theorem d_Rf_note_9 : DI M_Rf_note 9 (.iconst 0) 1 10 := ⟨by decide +kernel, rfl⟩
theorem d_Rf_note_10 : DI M_Rf_note 10 (.istore_n 1) 1 11 := ⟨by decide +kernel, rfl⟩
theorem d_Rf_note_11 : DI M_Rf_note 11 (.iload_n 1) 1 12 := ⟨by decide +kernel, rfl⟩
theorem d_Rf_note_12 : DI M_Rf_note 12 (.sipush 182) 3 15 := ⟨by decide +kernel, rfl⟩
theorem d_Rf_note_15 : DJ M_Rf_note 15 (.if_icmp .ge 24) 24 3 18 39 := ⟨by decide +kernel, rfl, rfl⟩
theorem d_Rf_note_18 : DI M_Rf_note 18 (.aload_n 0) 1 19 := ⟨by decide +kernel, rfl⟩
theorem d_Rf_note_19 : DI M_Rf_note 19 (.getfield 31) 3 22 := ⟨by decide +kernel, rfl⟩
theorem d_Rf_note_22 : DI M_Rf_note 22 (.iload_n 1) 1 23 := ⟨by decide +kernel, rfl⟩
theorem d_Rf_note_23 : DI M_Rf_note 23 (.aload_n 0) 1 24 := ⟨by decide +kernel, rfl⟩
theorem d_Rf_note_24 : DI M_Rf_note 24 (.getfield 31) 3 27 := ⟨by decide +kernel, rfl⟩
theorem d_Rf_note_27 : DI M_Rf_note 27 (.iload_n 1) 1 28 := ⟨by decide +kernel, rfl⟩
theorem d_Rf_note_28 : DI M_Rf_note 28 (.bipush 14) 2 30 := ⟨by decide +kernel, rfl⟩
theorem d_Rf_note_30 : DI M_Rf_note 30 (.iadd) 1 31 := ⟨by decide +kernel, rfl⟩
theorem d_Rf_note_31 : DI M_Rf_note 31 (.iaload) 1 32 := ⟨by decide +kernel, rfl⟩
theorem d_Rf_note_32 : DI M_Rf_note 32 (.iastore) 1 33 := ⟨by decide +kernel, rfl⟩
theorem d_Rf_note_33 : DI M_Rf_note 33 (.iinc 1 1) 3 36 := ⟨by decide +kernel, rfl⟩
theorem d_Rf_note_36 : DJ M_Rf_note 36 (.goto (-25)) (-25) 3 39 11 := ⟨by decide +kernel, rfl, rfl⟩
theorem d_Rf_note_39 : DI M_Rf_note 39 (.aload_n 0) 1 40 := ⟨by decide +kernel, rfl⟩
theorem d_Rf_note_40 : DI M_Rf_note 40 (.dup) 1 41 := ⟨by decide +kernel, rfl⟩
theorem d_Rf_note_41 : DI M_Rf_note 41 (.getfield 108) 3 44 := ⟨by decide +kernel, rfl⟩
theorem d_Rf_note_44 : DI M_Rf_note 44 (.iconst 1) 1 45 := ⟨by decide +kernel, rfl⟩
theorem d_Rf_note_45 : DI M_Rf_note 45 (.isub) 1 46 := ⟨by decide +kernel, rfl⟩
theorem d_Rf_note_46 : DI M_Rf_note 46 (.putfield 108) 3 49 := ⟨by decide +kernel, rfl⟩
theorem d_Rf_note_49 : DI M_Rf_note 49 (.iconst 0) 1 50 := ⟨by decide +kernel, rfl⟩
theorem d_Rf_note_50 : DI M_Rf_note 50 (.istore_n 1) 1 51 := ⟨by decide +kernel, rfl⟩
theorem d_Rf_note_51 : DI M_Rf_note 51 (.iload_n 1) 1 52 := ⟨by decide +kernel, rfl⟩
theorem d_Rf_note_52 : DI M_Rf_note 52 (.bipush 14) 2 54 := ⟨by decide +kernel, rfl⟩
theorem d_Rf_note_54 : DJ M_Rf_note 54 (.if_icmp .ge 29) 29 3 57 83 := ⟨by decide +kernel, rfl, rfl⟩
theorem d_Rf_note_57 : DI M_Rf_note 57 (.aload_n 0) 1 58 := ⟨by decide +kernel, rfl⟩
theorem d_Rf_note_58 : DI M_Rf_note 58 (.getfield 31) 3 61 := ⟨by decide +kernel, rfl⟩
theorem d_Rf_note_61 : DI M_Rf_note 61 (.bipush 14) 2 63 := ⟨by decide +kernel, rfl⟩
theorem d_Rf_note_63 : DI M_Rf_note 63 (.aload_n 0) 1 64 := ⟨by decide +kernel, rfl⟩
theorem d_Rf_note_64 : DI M_Rf_note 64 (.getfield 108) 3 67 := ⟨by decide +kernel, rfl⟩
theorem d_Rf_note_67 : DI M_Rf_note 67 (.imul) 1 68 := ⟨by decide +kernel, rfl⟩
theorem d_Rf_note_68 : DI M_Rf_note 68 (.iload_n 1) 1 69 := ⟨by decide +kernel, rfl⟩
theorem d_Rf_note_69 : DI M_Rf_note 69 (.iadd) 1 70 := ⟨by decide +kernel, rfl⟩
theorem d_Rf_note_70 : DI M_Rf_note 70 (.aload_n 0) 1 71 := ⟨by decide +kernel, rfl⟩
theorem d_Rf_note_71 : DI M_Rf_note 71 (.getfield 25) 3 74 := ⟨by decide +kernel, rfl⟩
theorem d_Rf_note_74 : DI M_Rf_note 74 (.iload_n 1) 1 75 := ⟨by decide +kernel, rfl⟩
theorem d_Rf_note_75 : DI M_Rf_note 75 (.iaload) 1 76 := ⟨by decide +kernel, rfl⟩
theorem d_Rf_note_76 : DI M_Rf_note 76 (.iastore) 1 77 := ⟨by decide +kernel, rfl⟩
theorem d_Rf_note_77 : DI M_Rf_note 77 (.iinc 1 1) 3 80 := ⟨by decide +kernel, rfl⟩
theorem d_Rf_note_80 : DJ M_Rf_note 80 (.goto (-29)) (-29) 3 83 51 := ⟨by decide +kernel, rfl, rfl⟩
theorem d_Rf_note_83 : DI M_Rf_note 83 (.aload_n 0) 1 84 := ⟨by decide +kernel, rfl⟩
theorem d_Rf_note_84 : DI M_Rf_note 84 (.dup) 1 85 := ⟨by decide +kernel, rfl⟩
theorem d_Rf_note_85 : DI M_Rf_note 85 (.getfield 108) 3 88 := ⟨by decide +kernel, rfl⟩
theorem d_Rf_note_88 : DI M_Rf_note 88 (.iconst 1) 1 89 := ⟨by decide +kernel, rfl⟩
theorem d_Rf_note_89 : DI M_Rf_note 89 (.iadd) 1 90 := ⟨by decide +kernel, rfl⟩
theorem d_Rf_note_90 : DI M_Rf_note 90 (.putfield 108) 3 93 := ⟨by decide +kernel, rfl⟩
theorem d_Rf_note_93 : DI M_Rf_note 93 (.return_) 1 94 := ⟨by decide +kernel, rfl⟩
theorem d_Rf_goTilt_0 : DI M_Rf_goTilt 0 (.aload_n 0) 1 1 := ⟨by decide +kernel, rfl⟩
theorem d_Rf_goTilt_1 : DI M_Rf_goTilt 1 (.iconst 0) 1 2 := ⟨by decide +kernel, rfl⟩
theorem d_Rf_goTilt_2 : DI M_Rf_goTilt 2 (.iload_n 1) 1 3 := ⟨by decide +kernel, rfl⟩
theorem d_Rf_goTilt_3 : DI M_Rf_goTilt 3 (.iadd) 1 4 := ⟨by decide +kernel, rfl⟩
theorem d_Rf_goTilt_4 : DI M_Rf_goTilt 4 (.aload_n 0) 1 5 := ⟨by decide +kernel, rfl⟩
theorem d_Rf_goTilt_5 : DI M_Rf_goTilt 5 (.iconst 0) 1 6 := ⟨by decide +kernel, rfl⟩
theorem d_Rf_goTilt_6 : DI M_Rf_goTilt 6 (.iload_n 1) 1 7 := ⟨by decide +kernel, rfl⟩
theorem d_Rf_goTilt_7 : DI M_Rf_goTilt 7 (.iadd) 1 8 := ⟨by decide +kernel, rfl⟩
theorem d_Rf_goTilt_8 : DI M_Rf_goTilt 8 (.iaload) 1 9 := ⟨by decide +kernel, rfl⟩
theorem d_Rf_goTilt_9 : DI M_Rf_goTilt 9 (.iload_n 2) 1 10 := ⟨by decide +kernel, rfl⟩
theorem d_Rf_goTilt_10 : DJ M_Rf_goTilt 10 (.ifCond .eq 7) 7 3 13 17 := ⟨by decide +kernel, rfl, rfl⟩
theorem d_Rf_goTilt_13 : DI M_Rf_goTilt 13 (.iconst 1) 1 14 := ⟨by decide +kernel, rfl⟩
theorem d_Rf_goTilt_14 : DJ M_Rf_goTilt 14 (.goto 5) 5 3 17 19 := ⟨by decide +kernel, rfl, rfl⟩
theorem d_Rf_goTilt_17 : DI M_Rf_goTilt 17 (.bipush 7) 2 19 := ⟨by decide +kernel, rfl⟩
theorem d_Rf_goTilt_19 : DI M_Rf_goTilt 19 (.iadd) 1 20 := ⟨by decide +kernel, rfl⟩
theorem d_Rf_goTilt_20 : DI M_Rf_goTilt 20 (.bipush 8) 2 22 := ⟨by decide +kernel, rfl⟩
theorem d_Rf_goTilt_22 : DI M_Rf_goTilt 22 (.irem) 1 23 := ⟨by decide +kernel, rfl⟩
theorem d_Rf_goTilt_23 : DI M_Rf_goTilt 23 (.iastore) 1 24 := ⟨by decide +kernel, rfl⟩
theorem d_Rf_goTilt_24 : DI M_Rf_goTilt 24 (.return_) 1 25 := ⟨by decide +kernel, rfl⟩
theorem d_Rf_tilt_0 : DI M_Rf_tilt 0 (.aload_n 0) 1 1 := ⟨by decide +kernel, rfl⟩
theorem d_Rf_tilt_1 : DI M_Rf_tilt 1 (.iconst 0) 1 2 := ⟨by decide +kernel, rfl⟩
theorem d_Rf_tilt_2 : DI M_Rf_tilt 2 (.putfield 59) 3 5 := ⟨by decide +kernel, rfl⟩
theorem d_Rf_tilt_5 : DI M_Rf_tilt 5 (.aload_n 0) 1 6 := ⟨by decide +kernel, rfl⟩
theorem d_Rf_tilt_6 : DI M_Rf_tilt 6 (.iload_n 1) 1 7 := ⟨by decide +kernel, rfl⟩
theorem d_Rf_tilt_7 : DI M_Rf_tilt 7 (.invokevirtual 156) 3 10 := ⟨by decide +kernel, rfl⟩
theorem d_Rf_tilt_10 : DJ M_Rf_tilt 10 (.ifCond .eq 5) 5 3 13 15 := ⟨by decide +kernel, rfl, rfl⟩
theorem d_Rf_tilt_13 : DI M_Rf_tilt 13 (.iconst (-1)) 1 14 := ⟨by decide +kernel, rfl⟩
theorem d_Rf_tilt_14 : DI M_Rf_tilt 14 (.ireturn) 1 15 := ⟨by decide +kernel, rfl⟩
theorem d_Rf_tilt_15 : DI M_Rf_tilt 15 (.aload_n 0) 1 16 := ⟨by decide +kernel, rfl⟩
theorem d_Rf_tilt_16 : DI M_Rf_tilt 16 (.invokevirtual 161) 3 19 := ⟨by decide +kernel, rfl⟩
theorem d_Rf_tilt_19 : DI M_Rf_tilt 19 (.aload_n 0) 1 20 := ⟨by decide +kernel, rfl⟩
theorem d_Rf_tilt_20 : DI M_Rf_tilt 20 (.getfield 25) 3 23 := ⟨by decide +kernel, rfl⟩
theorem d_Rf_tilt_23 : DI M_Rf_tilt 23 (.iload_n 1) 1 24 := ⟨by decide +kernel, rfl⟩
theorem d_Rf_tilt_24 : DI M_Rf_tilt 24 (.iload_n 2) 1 25 := ⟨by decide +kernel, rfl⟩
theorem d_Rf_tilt_25 : DI M_Rf_tilt 25 (.invokestatic 164) 3 28 := ⟨by decide +kernel, rfl⟩
theorem d_Rf_tilt_28 : DI M_Rf_tilt 28 (.aload_n 0) 1 29 := ⟨by decide +kernel, rfl⟩
theorem d_Rf_tilt_29 : DI M_Rf_tilt 29 (.getfield 25) 3 32 := ⟨by decide +kernel, rfl⟩
theorem d_Rf_tilt_32 : DI M_Rf_tilt 32 (.iconst 0) 1 33 := ⟨by decide +kernel, rfl⟩
theorem d_Rf_tilt_33 : DI M_Rf_tilt 33 (.iload_n 1) 1 34 := ⟨by decide +kernel, rfl⟩
theorem d_Rf_tilt_34 : DI M_Rf_tilt 34 (.iadd) 1 35 := ⟨by decide +kernel, rfl⟩
theorem d_Rf_tilt_35 : DI M_Rf_tilt 35 (.iaload) 1 36 := ⟨by decide +kernel, rfl⟩
theorem d_Rf_tilt_36 : DI M_Rf_tilt 36 (.ireturn) 1 37 := ⟨by decide +kernel, rfl⟩
theorem d_Rf_give_0 : DI M_Rf_give 0 (.aload_n 0) 1 1 := ⟨by decide +kernel, rfl⟩
theorem d_Rf_give_1 : DI M_Rf_give 1 (.iconst 0) 1 2 := ⟨by decide +kernel, rfl⟩
theorem d_Rf_give_2 : DI M_Rf_give 2 (.putfield 59) 3 5 := ⟨by decide +kernel, rfl⟩
theorem d_Rf_give_5 : DI M_Rf_give 5 (.aload_n 0) 1 6 := ⟨by decide +kernel, rfl⟩
theorem d_Rf_give_6 : DI M_Rf_give 6 (.iload_n 1) 1 7 := ⟨by decide +kernel, rfl⟩
theorem d_Rf_give_7 : DI M_Rf_give 7 (.invokevirtual 156) 3 10 := ⟨by decide +kernel, rfl⟩
theorem d_Rf_give_10 : DJ M_Rf_give 10 (.ifCond .ne 11) 11 3 13 21 := ⟨by decide +kernel, rfl, rfl⟩
theorem d_Rf_give_13 : DI M_Rf_give 13 (.aload_n 0) 1 14 := ⟨by decide +kernel, rfl⟩
theorem d_Rf_give_14 : DI M_Rf_give 14 (.iload_n 2) 1 15 := ⟨by decide +kernel, rfl⟩
theorem d_Rf_give_15 : DI M_Rf_give 15 (.invokevirtual 149) 3 18 := ⟨by decide +kernel, rfl⟩
theorem d_Rf_give_18 : DJ M_Rf_give 18 (.ifCond .eq 5) 5 3 21 23 := ⟨by decide +kernel, rfl, rfl⟩
theorem d_Rf_give_21 : DI M_Rf_give 21 (.iconst (-1)) 1 22 := ⟨by decide +kernel, rfl⟩
theorem d_Rf_give_22 : DI M_Rf_give 22 (.ireturn) 1 23 := ⟨by decide +kernel, rfl⟩
theorem d_Rf_give_23 : DI M_Rf_give 23 (.aload_n 0) 1 24 := ⟨by decide +kernel, rfl⟩
theorem d_Rf_give_24 : DI M_Rf_give 24 (.getfield 25) 3 27 := ⟨by decide +kernel, rfl⟩
theorem d_Rf_give_27 : DI M_Rf_give 27 (.bipush 6) 2 29 := ⟨by decide +kernel, rfl⟩
theorem d_Rf_give_29 : DI M_Rf_give 29 (.iload_n 1) 1 30 := ⟨by decide +kernel, rfl⟩
theorem d_Rf_give_30 : DI M_Rf_give 30 (.iadd) 1 31 := ⟨by decide +kernel, rfl⟩
theorem d_Rf_give_31 : DI M_Rf_give 31 (.iaload) 1 32 := ⟨by decide +kernel, rfl⟩
theorem d_Rf_give_32 : DI M_Rf_give 32 (.istore_n 3) 1 33 := ⟨by decide +kernel, rfl⟩
theorem d_Rf_give_33 : DI M_Rf_give 33 (.iload_n 3) 1 34 := ⟨by decide +kernel, rfl⟩
theorem d_Rf_give_34 : DI M_Rf_give 34 (.iload_n 2) 1 35 := ⟨by decide +kernel, rfl⟩
theorem d_Rf_give_35 : DJ M_Rf_give 35 (.if_icmp .ne 6) 6 3 38 41 := ⟨by decide +kernel, rfl, rfl⟩
theorem d_Rf_give_38 : DI M_Rf_give 38 (.bipush (-3)) 2 40 := ⟨by decide +kernel, rfl⟩
theorem d_Rf_give_40 : DI M_Rf_give 40 (.ireturn) 1 41 := ⟨by decide +kernel, rfl⟩
theorem d_Rf_give_41 : DI M_Rf_give 41 (.aload_n 0) 1 42 := ⟨by decide +kernel, rfl⟩
theorem d_Rf_give_42 : DI M_Rf_give 42 (.invokevirtual 161) 3 45 := ⟨by decide +kernel, rfl⟩
theorem d_Rf_give_45 : DI M_Rf_give 45 (.aload_n 0) 1 46 := ⟨by decide +kernel, rfl⟩
theorem d_Rf_give_46 : DI M_Rf_give 46 (.getfield 25) 3 49 := ⟨by decide +kernel, rfl⟩
theorem d_Rf_give_49 : DI M_Rf_give 49 (.bipush 6) 2 51 := ⟨by decide +kernel, rfl⟩
theorem d_Rf_give_51 : DI M_Rf_give 51 (.iload_n 1) 1 52 := ⟨by decide +kernel, rfl⟩
theorem d_Rf_give_52 : DI M_Rf_give 52 (.iadd) 1 53 := ⟨by decide +kernel, rfl⟩
theorem d_Rf_give_53 : DI M_Rf_give 53 (.iload_n 2) 1 54 := ⟨by decide +kernel, rfl⟩
theorem d_Rf_give_54 : DI M_Rf_give 54 (.iastore) 1 55 := ⟨by decide +kernel, rfl⟩
theorem d_Rf_give_55 : DI M_Rf_give 55 (.iload_n 3) 1 56 := ⟨by decide +kernel, rfl⟩
theorem d_Rf_give_56 : DI M_Rf_give 56 (.ireturn) 1 57 := ⟨by decide +kernel, rfl⟩
theorem d_Rf_goHour_0 : DI M_Rf_goHour 0 (.aload_n 0) 1 1 := ⟨by decide +kernel, rfl⟩
theorem d_Rf_goHour_1 : DI M_Rf_goHour 1 (.bipush 12) 2 3 := ⟨by decide +kernel, rfl⟩
theorem d_Rf_goHour_3 : DI M_Rf_goHour 3 (.aload_n 0) 1 4 := ⟨by decide +kernel, rfl⟩
theorem d_Rf_goHour_4 : DI M_Rf_goHour 4 (.bipush 12) 2 6 := ⟨by decide +kernel, rfl⟩
theorem d_Rf_goHour_6 : DI M_Rf_goHour 6 (.iaload) 1 7 := ⟨by decide +kernel, rfl⟩
theorem d_Rf_goHour_7 : DI M_Rf_goHour 7 (.iconst 1) 1 8 := ⟨by decide +kernel, rfl⟩
theorem d_Rf_goHour_8 : DI M_Rf_goHour 8 (.iadd) 1 9 := ⟨by decide +kernel, rfl⟩
theorem d_Rf_goHour_9 : DI M_Rf_goHour 9 (.bipush 8) 2 11 := ⟨by decide +kernel, rfl⟩
theorem d_Rf_goHour_11 : DI M_Rf_goHour 11 (.irem) 1 12 := ⟨by decide +kernel, rfl⟩
theorem d_Rf_goHour_12 : DI M_Rf_goHour 12 (.iastore) 1 13 := ⟨by decide +kernel, rfl⟩
theorem d_Rf_goHour_13 : DI M_Rf_goHour 13 (.aload_n 0) 1 14 := ⟨by decide +kernel, rfl⟩
theorem d_Rf_goHour_14 : DI M_Rf_goHour 14 (.bipush 13) 2 16 := ⟨by decide +kernel, rfl⟩
theorem d_Rf_goHour_16 : DI M_Rf_goHour 16 (.dup2) 1 17 := ⟨by decide +kernel, rfl⟩
theorem d_Rf_goHour_17 : DI M_Rf_goHour 17 (.iaload) 1 18 := ⟨by decide +kernel, rfl⟩
theorem d_Rf_goHour_18 : DI M_Rf_goHour 18 (.iconst 1) 1 19 := ⟨by decide +kernel, rfl⟩
theorem d_Rf_goHour_19 : DI M_Rf_goHour 19 (.iadd) 1 20 := ⟨by decide +kernel, rfl⟩
theorem d_Rf_goHour_20 : DI M_Rf_goHour 20 (.iastore) 1 21 := ⟨by decide +kernel, rfl⟩
theorem d_Rf_goHour_21 : DI M_Rf_goHour 21 (.return_) 1 22 := ⟨by decide +kernel, rfl⟩
theorem d_Rf_hour_0 : DI M_Rf_hour 0 (.aload_n 0) 1 1 := ⟨by decide +kernel, rfl⟩
theorem d_Rf_hour_1 : DI M_Rf_hour 1 (.iconst 0) 1 2 := ⟨by decide +kernel, rfl⟩
theorem d_Rf_hour_2 : DI M_Rf_hour 2 (.putfield 59) 3 5 := ⟨by decide +kernel, rfl⟩
theorem d_Rf_hour_5 : DI M_Rf_hour 5 (.aload_n 0) 1 6 := ⟨by decide +kernel, rfl⟩
theorem d_Rf_hour_6 : DI M_Rf_hour 6 (.invokevirtual 161) 3 9 := ⟨by decide +kernel, rfl⟩
theorem d_Rf_hour_9 : DI M_Rf_hour 9 (.aload_n 0) 1 10 := ⟨by decide +kernel, rfl⟩
theorem d_Rf_hour_10 : DI M_Rf_hour 10 (.getfield 25) 3 13 := ⟨by decide +kernel, rfl⟩
theorem d_Rf_hour_13 : DI M_Rf_hour 13 (.invokestatic 168) 3 16 := ⟨by decide +kernel, rfl⟩
theorem d_Rf_hour_16 : DI M_Rf_hour 16 (.aload_n 0) 1 17 := ⟨by decide +kernel, rfl⟩
theorem d_Rf_hour_17 : DI M_Rf_hour 17 (.getfield 25) 3 20 := ⟨by decide +kernel, rfl⟩
theorem d_Rf_hour_20 : DI M_Rf_hour 20 (.bipush 12) 2 22 := ⟨by decide +kernel, rfl⟩
theorem d_Rf_hour_22 : DI M_Rf_hour 22 (.iaload) 1 23 := ⟨by decide +kernel, rfl⟩
theorem d_Rf_hour_23 : DI M_Rf_hour 23 (.ireturn) 1 24 := ⟨by decide +kernel, rfl⟩
theorem d_Rf_undo_0 : DI M_Rf_undo 0 (.aload_n 0) 1 1 := ⟨by decide +kernel, rfl⟩
theorem d_Rf_undo_1 : DI M_Rf_undo 1 (.iconst 0) 1 2 := ⟨by decide +kernel, rfl⟩
theorem d_Rf_undo_2 : DI M_Rf_undo 2 (.putfield 59) 3 5 := ⟨by decide +kernel, rfl⟩
theorem d_Rf_undo_5 : DI M_Rf_undo 5 (.aload_n 0) 1 6 := ⟨by decide +kernel, rfl⟩
theorem d_Rf_undo_6 : DI M_Rf_undo 6 (.getfield 108) 3 9 := ⟨by decide +kernel, rfl⟩
theorem d_Rf_undo_9 : DJ M_Rf_undo 9 (.ifCond .ne 6) 6 3 12 15 := ⟨by decide +kernel, rfl, rfl⟩
theorem d_Rf_undo_12 : DI M_Rf_undo 12 (.bipush (-3)) 2 14 := ⟨by decide +kernel, rfl⟩
theorem d_Rf_undo_14 : DI M_Rf_undo 14 (.ireturn) 1 15 := ⟨by decide +kernel, rfl⟩
theorem d_Rf_undo_15 : DI M_Rf_undo 15 (.aload_n 0) 1 16 := ⟨by decide +kernel, rfl⟩
theorem d_Rf_undo_16 : DI M_Rf_undo 16 (.dup) 1 17 := ⟨by decide +kernel, rfl⟩
theorem d_Rf_undo_17 : DI M_Rf_undo 17 (.getfield 108) 3 20 := ⟨by decide +kernel, rfl⟩
theorem d_Rf_undo_20 : DI M_Rf_undo 20 (.iconst 1) 1 21 := ⟨by decide +kernel, rfl⟩
theorem d_Rf_undo_21 : DI M_Rf_undo 21 (.isub) 1 22 := ⟨by decide +kernel, rfl⟩
theorem d_Rf_undo_22 : DI M_Rf_undo 22 (.putfield 108) 3 25 := ⟨by decide +kernel, rfl⟩
theorem d_Rf_undo_25 : DI M_Rf_undo 25 (.iconst 0) 1 26 := ⟨by decide +kernel, rfl⟩
theorem d_Rf_undo_26 : DI M_Rf_undo 26 (.istore_n 1) 1 27 := ⟨by decide +kernel, rfl⟩
theorem d_Rf_undo_27 : DI M_Rf_undo 27 (.iload_n 1) 1 28 := ⟨by decide +kernel, rfl⟩
theorem d_Rf_undo_28 : DI M_Rf_undo 28 (.bipush 14) 2 30 := ⟨by decide +kernel, rfl⟩
theorem d_Rf_undo_30 : DJ M_Rf_undo 30 (.if_icmp .ge 29) 29 3 33 59 := ⟨by decide +kernel, rfl, rfl⟩
theorem d_Rf_undo_33 : DI M_Rf_undo 33 (.aload_n 0) 1 34 := ⟨by decide +kernel, rfl⟩
theorem d_Rf_undo_34 : DI M_Rf_undo 34 (.getfield 25) 3 37 := ⟨by decide +kernel, rfl⟩
theorem d_Rf_undo_37 : DI M_Rf_undo 37 (.iload_n 1) 1 38 := ⟨by decide +kernel, rfl⟩
theorem d_Rf_undo_38 : DI M_Rf_undo 38 (.aload_n 0) 1 39 := ⟨by decide +kernel, rfl⟩
theorem d_Rf_undo_39 : DI M_Rf_undo 39 (.getfield 31) 3 42 := ⟨by decide +kernel, rfl⟩
theorem d_Rf_undo_42 : DI M_Rf_undo 42 (.bipush 14) 2 44 := ⟨by decide +kernel, rfl⟩
theorem d_Rf_undo_44 : DI M_Rf_undo 44 (.aload_n 0) 1 45 := ⟨by decide +kernel, rfl⟩
theorem d_Rf_undo_45 : DI M_Rf_undo 45 (.getfield 108) 3 48 := ⟨by decide +kernel, rfl⟩
theorem d_Rf_undo_48 : DI M_Rf_undo 48 (.imul) 1 49 := ⟨by decide +kernel, rfl⟩
theorem d_Rf_undo_49 : DI M_Rf_undo 49 (.iload_n 1) 1 50 := ⟨by decide +kernel, rfl⟩
theorem d_Rf_undo_50 : DI M_Rf_undo 50 (.iadd) 1 51 := ⟨by decide +kernel, rfl⟩
theorem d_Rf_undo_51 : DI M_Rf_undo 51 (.iaload) 1 52 := ⟨by decide +kernel, rfl⟩
theorem d_Rf_undo_52 : DI M_Rf_undo 52 (.iastore) 1 53 := ⟨by decide +kernel, rfl⟩
theorem d_Rf_undo_53 : DI M_Rf_undo 53 (.iinc 1 1) 3 56 := ⟨by decide +kernel, rfl⟩
theorem d_Rf_undo_56 : DJ M_Rf_undo 56 (.goto (-29)) (-29) 3 59 27 := ⟨by decide +kernel, rfl, rfl⟩
theorem d_Rf_undo_59 : DI M_Rf_undo 59 (.aload_n 0) 1 60 := ⟨by decide +kernel, rfl⟩
theorem d_Rf_undo_60 : DI M_Rf_undo 60 (.getfield 108) 3 63 := ⟨by decide +kernel, rfl⟩
theorem d_Rf_undo_63 : DI M_Rf_undo 63 (.ireturn) 1 64 := ⟨by decide +kernel, rfl⟩
theorem d_Rf_tiltsOf_0 : DI M_Rf_tiltsOf 0 (.aload_n 0) 1 1 := ⟨by decide +kernel, rfl⟩
theorem d_Rf_tiltsOf_1 : DI M_Rf_tiltsOf 1 (.getfield 25) 3 4 := ⟨by decide +kernel, rfl⟩
theorem d_Rf_tiltsOf_4 : DI M_Rf_tiltsOf 4 (.iload_n 1) 1 5 := ⟨by decide +kernel, rfl⟩
theorem d_Rf_tiltsOf_5 : DI M_Rf_tiltsOf 5 (.invokestatic 119) 3 8 := ⟨by decide +kernel, rfl⟩
theorem d_Rf_tiltsOf_8 : DI M_Rf_tiltsOf 8 (.istore_n 3) 1 9 := ⟨by decide +kernel, rfl⟩
theorem d_Rf_tiltsOf_9 : DI M_Rf_tiltsOf 9 (.bipush (-9)) 2 11 := ⟨by decide +kernel, rfl⟩
theorem d_Rf_tiltsOf_11 : DI M_Rf_tiltsOf 11 (.istore 4) 2 13 := ⟨by decide +kernel, rfl⟩
theorem d_Rf_tiltsOf_13 : DI M_Rf_tiltsOf 13 (.iconst 4) 1 14 := ⟨by decide +kernel, rfl⟩
theorem d_Rf_tiltsOf_14 : DI M_Rf_tiltsOf 14 (.istore 5) 2 16 := ⟨by decide +kernel, rfl⟩
theorem d_Rf_tiltsOf_16 : DI M_Rf_tiltsOf 16 (.iload 5) 2 18 := ⟨by decide +kernel, rfl⟩
theorem d_Rf_tiltsOf_18 : DJ M_Rf_tiltsOf 18 (.ifCond .lt 65) 65 3 21 83 := ⟨by decide +kernel, rfl, rfl⟩
theorem d_Rf_tiltsOf_21 : DI M_Rf_tiltsOf 21 (.aload_n 0) 1 22 := ⟨by decide +kernel, rfl⟩
theorem d_Rf_tiltsOf_22 : DI M_Rf_tiltsOf 22 (.iload_n 1) 1 23 := ⟨by decide +kernel, rfl⟩
theorem d_Rf_tiltsOf_23 : DI M_Rf_tiltsOf 23 (.iload_n 2) 1 24 := ⟨by decide +kernel, rfl⟩
theorem d_Rf_tiltsOf_24 : DI M_Rf_tiltsOf 24 (.iload_n 3) 1 25 := ⟨by decide +kernel, rfl⟩
theorem d_Rf_tiltsOf_25 : DI M_Rf_tiltsOf 25 (.iload 5) 2 27 := ⟨by decide +kernel, rfl⟩
theorem d_Rf_tiltsOf_27 : DI M_Rf_tiltsOf 27 (.iadd) 1 28 := ⟨by decide +kernel, rfl⟩
theorem d_Rf_tiltsOf_28 : DI M_Rf_tiltsOf 28 (.bipush 8) 2 30 := ⟨by decide +kernel, rfl⟩
theorem d_Rf_tiltsOf_30 : DI M_Rf_tiltsOf 30 (.irem) 1 31 := ⟨by decide +kernel, rfl⟩
theorem d_Rf_tiltsOf_31 : DI M_Rf_tiltsOf 31 (.invokevirtual 123) 3 34 := ⟨by decide +kernel, rfl⟩
theorem d_Rf_tiltsOf_34 : DJ M_Rf_tiltsOf 34 (.ifCond .ne 22) 22 3 37 56 := ⟨by decide +kernel, rfl, rfl⟩
theorem d_Rf_tiltsOf_37 : DI M_Rf_tiltsOf 37 (.aload_n 0) 1 38 := ⟨by decide +kernel, rfl⟩
theorem d_Rf_tiltsOf_38 : DI M_Rf_tiltsOf 38 (.iload_n 1) 1 39 := ⟨by decide +kernel, rfl⟩
theorem d_Rf_tiltsOf_39 : DI M_Rf_tiltsOf 39 (.iload_n 2) 1 40 := ⟨by decide +kernel, rfl⟩
theorem d_Rf_tiltsOf_40 : DI M_Rf_tiltsOf 40 (.iload_n 3) 1 41 := ⟨by decide +kernel, rfl⟩
theorem d_Rf_tiltsOf_41 : DI M_Rf_tiltsOf 41 (.bipush 8) 2 43 := ⟨by decide +kernel, rfl⟩
theorem d_Rf_tiltsOf_43 : DI M_Rf_tiltsOf 43 (.iadd) 1 44 := ⟨by decide +kernel, rfl⟩
theorem d_Rf_tiltsOf_44 : DI M_Rf_tiltsOf 44 (.iload 5) 2 46 := ⟨by decide +kernel, rfl⟩
theorem d_Rf_tiltsOf_46 : DI M_Rf_tiltsOf 46 (.isub) 1 47 := ⟨by decide +kernel, rfl⟩
theorem d_Rf_tiltsOf_47 : DI M_Rf_tiltsOf 47 (.bipush 8) 2 49 := ⟨by decide +kernel, rfl⟩
theorem d_Rf_tiltsOf_49 : DI M_Rf_tiltsOf 49 (.irem) 1 50 := ⟨by decide +kernel, rfl⟩
theorem d_Rf_tiltsOf_50 : DI M_Rf_tiltsOf 50 (.invokevirtual 123) 3 53 := ⟨by decide +kernel, rfl⟩
theorem d_Rf_tiltsOf_53 : DJ M_Rf_tiltsOf 53 (.ifCond .eq 7) 7 3 56 60 := ⟨by decide +kernel, rfl, rfl⟩
theorem d_Rf_tiltsOf_56 : DI M_Rf_tiltsOf 56 (.iconst 1) 1 57 := ⟨by decide +kernel, rfl⟩
theorem d_Rf_tiltsOf_57 : DJ M_Rf_tiltsOf 57 (.goto 4) 4 3 60 61 := ⟨by decide +kernel, rfl, rfl⟩
theorem d_Rf_tiltsOf_60 : DI M_Rf_tiltsOf 60 (.iconst 0) 1 61 := ⟨by decide +kernel, rfl⟩
theorem d_Rf_tiltsOf_61 : DI M_Rf_tiltsOf 61 (.istore 6) 2 63 := ⟨by decide +kernel, rfl⟩
theorem d_Rf_tiltsOf_63 : DI M_Rf_tiltsOf 63 (.iload 6) 2 65 := ⟨by decide +kernel, rfl⟩
theorem d_Rf_tiltsOf_65 : DJ M_Rf_tiltsOf 65 (.ifCond .eq 8) 8 3 68 73 := ⟨by decide +kernel, rfl, rfl⟩
theorem d_Rf_tiltsOf_68 : DI M_Rf_tiltsOf 68 (.iload 5) 2 70 := ⟨by decide +kernel, rfl⟩
theorem d_Rf_tiltsOf_70 : DJ M_Rf_tiltsOf 70 (.goto 5) 5 3 73 75 := ⟨by decide +kernel, rfl, rfl⟩
theorem d_Rf_tiltsOf_73 : DI M_Rf_tiltsOf 73 (.iload 4) 2 75 := ⟨by decide +kernel, rfl⟩
theorem d_Rf_tiltsOf_75 : DI M_Rf_tiltsOf 75 (.istore 4) 2 77 := ⟨by decide +kernel, rfl⟩
theorem d_Rf_tiltsOf_77 : DI M_Rf_tiltsOf 77 (.iinc 5 (-1)) 3 80 := ⟨by decide +kernel, rfl⟩
theorem d_Rf_tiltsOf_80 : DJ M_Rf_tiltsOf 80 (.goto (-64)) (-64) 3 83 16 := ⟨by decide +kernel, rfl, rfl⟩
theorem d_Rf_tiltsOf_83 : DI M_Rf_tiltsOf 83 (.iload 4) 2 85 := ⟨by decide +kernel, rfl⟩
theorem d_Rf_tiltsOf_85 : DI M_Rf_tiltsOf 85 (.ireturn) 1 86 := ⟨by decide +kernel, rfl⟩
theorem d_Rf_tilts_0 : DI M_Rf_tilts 0 (.aload_n 0) 1 1 := ⟨by decide +kernel, rfl⟩
theorem d_Rf_tilts_1 : DI M_Rf_tilts 1 (.iconst 0) 1 2 := ⟨by decide +kernel, rfl⟩
theorem d_Rf_tilts_2 : DI M_Rf_tilts 2 (.putfield 59) 3 5 := ⟨by decide +kernel, rfl⟩
theorem d_Rf_tilts_5 : DI M_Rf_tilts 5 (.aload_n 0) 1 6 := ⟨by decide +kernel, rfl⟩
theorem d_Rf_tilts_6 : DI M_Rf_tilts 6 (.iload_n 1) 1 7 := ⟨by decide +kernel, rfl⟩
theorem d_Rf_tilts_7 : DI M_Rf_tilts 7 (.invokevirtual 156) 3 10 := ⟨by decide +kernel, rfl⟩
theorem d_Rf_tilts_10 : DJ M_Rf_tilts 10 (.ifCond .ne 11) 11 3 13 21 := ⟨by decide +kernel, rfl, rfl⟩
theorem d_Rf_tilts_13 : DI M_Rf_tilts 13 (.aload_n 0) 1 14 := ⟨by decide +kernel, rfl⟩
theorem d_Rf_tilts_14 : DI M_Rf_tilts 14 (.iload_n 2) 1 15 := ⟨by decide +kernel, rfl⟩
theorem d_Rf_tilts_15 : DI M_Rf_tilts 15 (.invokevirtual 149) 3 18 := ⟨by decide +kernel, rfl⟩
theorem d_Rf_tilts_18 : DJ M_Rf_tilts 18 (.ifCond .eq 7) 7 3 21 25 := ⟨by decide +kernel, rfl, rfl⟩
theorem d_Rf_tilts_21 : DI M_Rf_tilts 21 (.iconst (-1)) 1 22 := ⟨by decide +kernel, rfl⟩
theorem d_Rf_tilts_22 : DJ M_Rf_tilts 22 (.goto 9) 9 3 25 31 := ⟨by decide +kernel, rfl, rfl⟩
theorem d_Rf_tilts_25 : DI M_Rf_tilts 25 (.aload_n 0) 1 26 := ⟨by decide +kernel, rfl⟩
theorem d_Rf_tilts_26 : DI M_Rf_tilts 26 (.iload_n 1) 1 27 := ⟨by decide +kernel, rfl⟩
theorem d_Rf_tilts_27 : DI M_Rf_tilts 27 (.iload_n 2) 1 28 := ⟨by decide +kernel, rfl⟩
theorem d_Rf_tilts_28 : DI M_Rf_tilts 28 (.invokevirtual 172) 3 31 := ⟨by decide +kernel, rfl⟩
theorem d_Rf_tilts_31 : DI M_Rf_tilts 31 (.ireturn) 1 32 := ⟨by decide +kernel, rfl⟩
theorem d_Rf_findsOf_0 : DI M_Rf_findsOf 0 (.bipush (-9)) 2 2 := ⟨by decide +kernel, rfl⟩
theorem d_Rf_findsOf_2 : DI M_Rf_findsOf 2 (.istore_n 3) 1 3 := ⟨by decide +kernel, rfl⟩
theorem d_Rf_findsOf_3 : DI M_Rf_findsOf 3 (.iconst 0) 1 4 := ⟨by decide +kernel, rfl⟩
theorem d_Rf_findsOf_4 : DI M_Rf_findsOf 4 (.istore 4) 2 6 := ⟨by decide +kernel, rfl⟩
theorem d_Rf_findsOf_6 : DI M_Rf_findsOf 6 (.iload 4) 2 8 := ⟨by decide +kernel, rfl⟩
theorem d_Rf_findsOf_8 : DI M_Rf_findsOf 8 (.aload_n 0) 1 9 := ⟨by decide +kernel, rfl⟩
theorem d_Rf_findsOf_9 : DI M_Rf_findsOf 9 (.getfield 70) 3 12 := ⟨by decide +kernel, rfl⟩
theorem d_Rf_findsOf_12 : DJ M_Rf_findsOf 12 (.if_icmp .ge 71) 71 3 15 83 := ⟨by decide +kernel, rfl, rfl⟩
theorem d_Rf_findsOf_15 : DI M_Rf_findsOf 15 (.aload_n 0) 1 16 := ⟨by decide +kernel, rfl⟩
theorem d_Rf_findsOf_16 : DI M_Rf_findsOf 16 (.getfield 25) 3 19 := ⟨by decide +kernel, rfl⟩
theorem d_Rf_findsOf_19 : DI M_Rf_findsOf 19 (.bipush 6) 2 21 := ⟨by decide +kernel, rfl⟩
theorem d_Rf_findsOf_21 : DI M_Rf_findsOf 21 (.iload 4) 2 23 := ⟨by decide +kernel, rfl⟩
theorem d_Rf_findsOf_23 : DI M_Rf_findsOf 23 (.iadd) 1 24 := ⟨by decide +kernel, rfl⟩
theorem d_Rf_findsOf_24 : DI M_Rf_findsOf 24 (.iaload) 1 25 := ⟨by decide +kernel, rfl⟩
theorem d_Rf_findsOf_25 : DI M_Rf_findsOf 25 (.iload_n 1) 1 26 := ⟨by decide +kernel, rfl⟩
theorem d_Rf_findsOf_26 : DJ M_Rf_findsOf 26 (.if_icmp .ne 51) 51 3 29 77 := ⟨by decide +kernel, rfl, rfl⟩
theorem d_Rf_findsOf_29 : DI M_Rf_findsOf 29 (.aload_n 0) 1 30 := ⟨by decide +kernel, rfl⟩
theorem d_Rf_findsOf_30 : DI M_Rf_findsOf 30 (.getfield 16) 3 33 := ⟨by decide +kernel, rfl⟩
theorem d_Rf_findsOf_33 : DI M_Rf_findsOf 33 (.iconst 3) 1 34 := ⟨by decide +kernel, rfl⟩
theorem d_Rf_findsOf_34 : DI M_Rf_findsOf 34 (.iload 4) 2 36 := ⟨by decide +kernel, rfl⟩
theorem d_Rf_findsOf_36 : DI M_Rf_findsOf 36 (.imul) 1 37 := ⟨by decide +kernel, rfl⟩
theorem d_Rf_findsOf_37 : DI M_Rf_findsOf 37 (.iaload) 1 38 := ⟨by decide +kernel, rfl⟩
theorem d_Rf_findsOf_38 : DI M_Rf_findsOf 38 (.iload_n 2) 1 39 := ⟨by decide +kernel, rfl⟩
theorem d_Rf_findsOf_39 : DJ M_Rf_findsOf 39 (.if_icmp .ne 38) 38 3 42 77 := ⟨by decide +kernel, rfl, rfl⟩
theorem d_Rf_findsOf_42 : DI M_Rf_findsOf 42 (.aload_n 0) 1 43 := ⟨by decide +kernel, rfl⟩
theorem d_Rf_findsOf_43 : DI M_Rf_findsOf 43 (.iload 4) 2 45 := ⟨by decide +kernel, rfl⟩
theorem d_Rf_findsOf_45 : DI M_Rf_findsOf 45 (.iload_n 1) 1 46 := ⟨by decide +kernel, rfl⟩
theorem d_Rf_findsOf_46 : DI M_Rf_findsOf 46 (.invokevirtual 172) 3 49 := ⟨by decide +kernel, rfl⟩
theorem d_Rf_findsOf_49 : DI M_Rf_findsOf 49 (.istore 5) 2 51 := ⟨by decide +kernel, rfl⟩
theorem d_Rf_findsOf_51 : DI M_Rf_findsOf 51 (.iload 5) 2 53 := ⟨by decide +kernel, rfl⟩
theorem d_Rf_findsOf_53 : DI M_Rf_findsOf 53 (.bipush (-9)) 2 55 := ⟨by decide +kernel, rfl⟩
theorem d_Rf_findsOf_55 : DJ M_Rf_findsOf 55 (.if_icmp .eq 20) 20 3 58 75 := ⟨by decide +kernel, rfl, rfl⟩
theorem d_Rf_findsOf_58 : DI M_Rf_findsOf 58 (.iload_n 3) 1 59 := ⟨by decide +kernel, rfl⟩
theorem d_Rf_findsOf_59 : DI M_Rf_findsOf 59 (.bipush (-9)) 2 61 := ⟨by decide +kernel, rfl⟩
theorem d_Rf_findsOf_61 : DJ M_Rf_findsOf 61 (.if_icmp .eq 9) 9 3 64 70 := ⟨by decide +kernel, rfl, rfl⟩
theorem d_Rf_findsOf_64 : DI M_Rf_findsOf 64 (.iload 5) 2 66 := ⟨by decide +kernel, rfl⟩
theorem d_Rf_findsOf_66 : DI M_Rf_findsOf 66 (.iload_n 3) 1 67 := ⟨by decide +kernel, rfl⟩
theorem d_Rf_findsOf_67 : DJ M_Rf_findsOf 67 (.if_icmp .ge 8) 8 3 70 75 := ⟨by decide +kernel, rfl, rfl⟩
theorem d_Rf_findsOf_70 : DI M_Rf_findsOf 70 (.iload 5) 2 72 := ⟨by decide +kernel, rfl⟩
theorem d_Rf_findsOf_72 : DJ M_Rf_findsOf 72 (.goto 4) 4 3 75 76 := ⟨by decide +kernel, rfl, rfl⟩
theorem d_Rf_findsOf_75 : DI M_Rf_findsOf 75 (.iload_n 3) 1 76 := ⟨by decide +kernel, rfl⟩
theorem d_Rf_findsOf_76 : DI M_Rf_findsOf 76 (.istore_n 3) 1 77 := ⟨by decide +kernel, rfl⟩
theorem d_Rf_findsOf_77 : DI M_Rf_findsOf 77 (.iinc 4 1) 3 80 := ⟨by decide +kernel, rfl⟩
theorem d_Rf_findsOf_80 : DJ M_Rf_findsOf 80 (.goto (-74)) (-74) 3 83 6 := ⟨by decide +kernel, rfl, rfl⟩
theorem d_Rf_findsOf_83 : DI M_Rf_findsOf 83 (.iload_n 3) 1 84 := ⟨by decide +kernel, rfl⟩
theorem d_Rf_findsOf_84 : DI M_Rf_findsOf 84 (.ireturn) 1 85 := ⟨by decide +kernel, rfl⟩
theorem d_Rf_finds_0 : DI M_Rf_finds 0 (.aload_n 0) 1 1 := ⟨by decide +kernel, rfl⟩
theorem d_Rf_finds_1 : DI M_Rf_finds 1 (.iconst 0) 1 2 := ⟨by decide +kernel, rfl⟩
theorem d_Rf_finds_2 : DI M_Rf_finds 2 (.putfield 59) 3 5 := ⟨by decide +kernel, rfl⟩
theorem d_Rf_finds_5 : DI M_Rf_finds 5 (.aload_n 0) 1 6 := ⟨by decide +kernel, rfl⟩
theorem d_Rf_finds_6 : DI M_Rf_finds 6 (.iload_n 1) 1 7 := ⟨by decide +kernel, rfl⟩
theorem d_Rf_finds_7 : DI M_Rf_finds 7 (.invokevirtual 149) 3 10 := ⟨by decide +kernel, rfl⟩
theorem d_Rf_finds_10 : DJ M_Rf_finds 10 (.ifCond .eq 5) 5 3 13 15 := ⟨by decide +kernel, rfl, rfl⟩
theorem d_Rf_finds_13 : DI M_Rf_finds 13 (.iconst (-1)) 1 14 := ⟨by decide +kernel, rfl⟩
theorem d_Rf_finds_14 : DI M_Rf_finds 14 (.ireturn) 1 15 := ⟨by decide +kernel, rfl⟩
theorem d_Rf_finds_15 : DI M_Rf_finds 15 (.iload_n 2) 1 16 := ⟨by decide +kernel, rfl⟩
theorem d_Rf_finds_16 : DI M_Rf_finds 16 (.i2l) 1 17 := ⟨by decide +kernel, rfl⟩
theorem d_Rf_finds_17 : DI M_Rf_finds 17 (.lconst 0) 1 18 := ⟨by decide +kernel, rfl⟩
theorem d_Rf_finds_18 : DI M_Rf_finds 18 (.ldc2_w 175) 3 21 := ⟨by decide +kernel, rfl⟩
theorem d_Rf_finds_21 : DI M_Rf_finds 21 (.invokestatic 66) 3 24 := ⟨by decide +kernel, rfl⟩
theorem d_Rf_finds_24 : DJ M_Rf_finds 24 (.ifCond .eq 12) 12 3 27 36 := ⟨by decide +kernel, rfl, rfl⟩
theorem d_Rf_finds_27 : DI M_Rf_finds 27 (.aload_n 0) 1 28 := ⟨by decide +kernel, rfl⟩
theorem d_Rf_finds_28 : DI M_Rf_finds 28 (.iload_n 1) 1 29 := ⟨by decide +kernel, rfl⟩
theorem d_Rf_finds_29 : DI M_Rf_finds 29 (.iload_n 2) 1 30 := ⟨by decide +kernel, rfl⟩
theorem d_Rf_finds_30 : DI M_Rf_finds 30 (.invokevirtual 177) 3 33 := ⟨by decide +kernel, rfl⟩
theorem d_Rf_finds_33 : DJ M_Rf_finds 33 (.goto 5) 5 3 36 38 := ⟨by decide +kernel, rfl, rfl⟩
theorem d_Rf_finds_36 : DI M_Rf_finds 36 (.bipush (-2)) 2 38 := ⟨by decide +kernel, rfl⟩
theorem d_Rf_finds_38 : DI M_Rf_finds 38 (.ireturn) 1 39 := ⟨by decide +kernel, rfl⟩
theorem d_Rf_partsHeld_0 : DI M_Rf_partsHeld 0 (.iconst 0) 1 1 := ⟨by decide +kernel, rfl⟩
theorem d_Rf_partsHeld_1 : DI M_Rf_partsHeld 1 (.istore_n 2) 1 2 := ⟨by decide +kernel, rfl⟩
theorem d_Rf_partsHeld_2 : DI M_Rf_partsHeld 2 (.iconst 0) 1 3 := ⟨by decide +kernel, rfl⟩
theorem d_Rf_partsHeld_3 : DI M_Rf_partsHeld 3 (.istore_n 3) 1 4 := ⟨by decide +kernel, rfl⟩
theorem d_Rf_partsHeld_4 : DI M_Rf_partsHeld 4 (.iload_n 3) 1 5 := ⟨by decide +kernel, rfl⟩
theorem d_Rf_partsHeld_5 : DI M_Rf_partsHeld 5 (.aload_n 0) 1 6 := ⟨by decide +kernel, rfl⟩
theorem d_Rf_partsHeld_6 : DI M_Rf_partsHeld 6 (.getfield 70) 3 9 := ⟨by decide +kernel, rfl⟩
theorem d_Rf_partsHeld_9 : DJ M_Rf_partsHeld 9 (.if_icmp .ge 39) 39 3 12 48 := ⟨by decide +kernel, rfl, rfl⟩
theorem d_Rf_partsHeld_12 : DI M_Rf_partsHeld 12 (.iload_n 2) 1 13 := ⟨by decide +kernel, rfl⟩
theorem d_Rf_partsHeld_13 : DI M_Rf_partsHeld 13 (.aload_n 0) 1 14 := ⟨by decide +kernel, rfl⟩
theorem d_Rf_partsHeld_14 : DI M_Rf_partsHeld 14 (.getfield 25) 3 17 := ⟨by decide +kernel, rfl⟩
theorem d_Rf_partsHeld_17 : DI M_Rf_partsHeld 17 (.bipush 6) 2 19 := ⟨by decide +kernel, rfl⟩
theorem d_Rf_partsHeld_19 : DI M_Rf_partsHeld 19 (.iload_n 3) 1 20 := ⟨by decide +kernel, rfl⟩
theorem d_Rf_partsHeld_20 : DI M_Rf_partsHeld 20 (.iadd) 1 21 := ⟨by decide +kernel, rfl⟩
theorem d_Rf_partsHeld_21 : DI M_Rf_partsHeld 21 (.iaload) 1 22 := ⟨by decide +kernel, rfl⟩
theorem d_Rf_partsHeld_22 : DI M_Rf_partsHeld 22 (.iload_n 1) 1 23 := ⟨by decide +kernel, rfl⟩
theorem d_Rf_partsHeld_23 : DJ M_Rf_partsHeld 23 (.if_icmp .ne 16) 16 3 26 39 := ⟨by decide +kernel, rfl, rfl⟩
theorem d_Rf_partsHeld_26 : DI M_Rf_partsHeld 26 (.iconst 1) 1 27 := ⟨by decide +kernel, rfl⟩
theorem d_Rf_partsHeld_27 : DI M_Rf_partsHeld 27 (.aload_n 0) 1 28 := ⟨by decide +kernel, rfl⟩
theorem d_Rf_partsHeld_28 : DI M_Rf_partsHeld 28 (.getfield 16) 3 31 := ⟨by decide +kernel, rfl⟩
theorem d_Rf_partsHeld_31 : DI M_Rf_partsHeld 31 (.iconst 3) 1 32 := ⟨by decide +kernel, rfl⟩
theorem d_Rf_partsHeld_32 : DI M_Rf_partsHeld 32 (.iload_n 3) 1 33 := ⟨by decide +kernel, rfl⟩
theorem d_Rf_partsHeld_33 : DI M_Rf_partsHeld 33 (.imul) 1 34 := ⟨by decide +kernel, rfl⟩
theorem d_Rf_partsHeld_34 : DI M_Rf_partsHeld 34 (.iaload) 1 35 := ⟨by decide +kernel, rfl⟩
theorem d_Rf_partsHeld_35 : DI M_Rf_partsHeld 35 (.ishl) 1 36 := ⟨by decide +kernel, rfl⟩
theorem d_Rf_partsHeld_36 : DJ M_Rf_partsHeld 36 (.goto 4) 4 3 39 40 := ⟨by decide +kernel, rfl, rfl⟩
theorem d_Rf_partsHeld_39 : DI M_Rf_partsHeld 39 (.iconst 0) 1 40 := ⟨by decide +kernel, rfl⟩
theorem d_Rf_partsHeld_40 : DI M_Rf_partsHeld 40 (.ior) 1 41 := ⟨by decide +kernel, rfl⟩
theorem d_Rf_partsHeld_41 : DI M_Rf_partsHeld 41 (.istore_n 2) 1 42 := ⟨by decide +kernel, rfl⟩
theorem d_Rf_partsHeld_42 : DI M_Rf_partsHeld 42 (.iinc 3 1) 3 45 := ⟨by decide +kernel, rfl⟩
theorem d_Rf_partsHeld_45 : DJ M_Rf_partsHeld 45 (.goto (-41)) (-41) 3 48 4 := ⟨by decide +kernel, rfl, rfl⟩
theorem d_Rf_partsHeld_48 : DI M_Rf_partsHeld 48 (.iload_n 2) 1 49 := ⟨by decide +kernel, rfl⟩
theorem d_Rf_partsHeld_49 : DI M_Rf_partsHeld 49 (.ireturn) 1 50 := ⟨by decide +kernel, rfl⟩
theorem d_Rf_all_0 : DI M_Rf_all 0 (.aload_n 0) 1 1 := ⟨by decide +kernel, rfl⟩
theorem d_Rf_all_1 : DI M_Rf_all 1 (.iconst 0) 1 2 := ⟨by decide +kernel, rfl⟩
theorem d_Rf_all_2 : DI M_Rf_all 2 (.putfield 59) 3 5 := ⟨by decide +kernel, rfl⟩
theorem d_Rf_all_5 : DI M_Rf_all 5 (.aload_n 0) 1 6 := ⟨by decide +kernel, rfl⟩
theorem d_Rf_all_6 : DI M_Rf_all 6 (.iload_n 1) 1 7 := ⟨by decide +kernel, rfl⟩
theorem d_Rf_all_7 : DI M_Rf_all 7 (.invokevirtual 149) 3 10 := ⟨by decide +kernel, rfl⟩
theorem d_Rf_all_10 : DJ M_Rf_all 10 (.ifCond .eq 5) 5 3 13 15 := ⟨by decide +kernel, rfl, rfl⟩
theorem d_Rf_all_13 : DI M_Rf_all 13 (.iconst (-1)) 1 14 := ⟨by decide +kernel, rfl⟩
theorem d_Rf_all_14 : DI M_Rf_all 14 (.ireturn) 1 15 := ⟨by decide +kernel, rfl⟩
theorem d_Rf_all_15 : DI M_Rf_all 15 (.iconst 0) 1 16 := ⟨by decide +kernel, rfl⟩
theorem d_Rf_all_16 : DI M_Rf_all 16 (.istore_n 2) 1 17 := ⟨by decide +kernel, rfl⟩
theorem d_Rf_all_17 : DI M_Rf_all 17 (.iconst 1) 1 18 := ⟨by decide +kernel, rfl⟩
theorem d_Rf_all_18 : DI M_Rf_all 18 (.istore_n 3) 1 19 := ⟨by decide +kernel, rfl⟩
theorem d_Rf_all_19 : DI M_Rf_all 19 (.iconst 0) 1 20 := ⟨by decide +kernel, rfl⟩
theorem d_Rf_all_20 : DI M_Rf_all 20 (.istore 4) 2 22 := ⟨by decide +kernel, rfl⟩
theorem d_Rf_all_22 : DI M_Rf_all 22 (.iload 4) 2 24 := ⟨by decide +kernel, rfl⟩
theorem d_Rf_all_24 : DI M_Rf_all 24 (.iconst 5) 1 25 := ⟨by decide +kernel, rfl⟩
theorem d_Rf_all_25 : DJ M_Rf_all 25 (.if_icmp .ge 53) 53 3 28 78 := ⟨by decide +kernel, rfl, rfl⟩
theorem d_Rf_all_28 : DI M_Rf_all 28 (.aload_n 0) 1 29 := ⟨by decide +kernel, rfl⟩
theorem d_Rf_all_29 : DI M_Rf_all 29 (.iload_n 1) 1 30 := ⟨by decide +kernel, rfl⟩
theorem d_Rf_all_30 : DI M_Rf_all 30 (.invokevirtual 180) 3 33 := ⟨by decide +kernel, rfl⟩
theorem d_Rf_all_33 : DI M_Rf_all 33 (.iload 4) 2 35 := ⟨by decide +kernel, rfl⟩
theorem d_Rf_all_35 : DI M_Rf_all 35 (.invokestatic 127) 3 38 := ⟨by decide +kernel, rfl⟩
theorem d_Rf_all_38 : DJ M_Rf_all 38 (.ifCond .eq 34) 34 3 41 72 := ⟨by decide +kernel, rfl, rfl⟩
theorem d_Rf_all_41 : DI M_Rf_all 41 (.aload_n 0) 1 42 := ⟨by decide +kernel, rfl⟩
theorem d_Rf_all_42 : DI M_Rf_all 42 (.iload_n 1) 1 43 := ⟨by decide +kernel, rfl⟩
theorem d_Rf_all_43 : DI M_Rf_all 43 (.iload 4) 2 45 := ⟨by decide +kernel, rfl⟩
theorem d_Rf_all_45 : DI M_Rf_all 45 (.invokevirtual 177) 3 48 := ⟨by decide +kernel, rfl⟩
theorem d_Rf_all_48 : DI M_Rf_all 48 (.istore 5) 2 50 := ⟨by decide +kernel, rfl⟩
theorem d_Rf_all_50 : DI M_Rf_all 50 (.iload_n 3) 1 51 := ⟨by decide +kernel, rfl⟩
theorem d_Rf_all_51 : DJ M_Rf_all 51 (.ifCond .eq 14) 14 3 54 65 := ⟨by decide +kernel, rfl, rfl⟩
theorem d_Rf_all_54 : DI M_Rf_all 54 (.iload 5) 2 56 := ⟨by decide +kernel, rfl⟩
theorem d_Rf_all_56 : DI M_Rf_all 56 (.bipush (-9)) 2 58 := ⟨by decide +kernel, rfl⟩
theorem d_Rf_all_58 : DJ M_Rf_all 58 (.if_icmp .eq 7) 7 3 61 65 := ⟨by decide +kernel, rfl, rfl⟩
theorem d_Rf_all_61 : DI M_Rf_all 61 (.iconst 1) 1 62 := ⟨by decide +kernel, rfl⟩
theorem d_Rf_all_62 : DJ M_Rf_all 62 (.goto 4) 4 3 65 66 := ⟨by decide +kernel, rfl, rfl⟩
theorem d_Rf_all_65 : DI M_Rf_all 65 (.iconst 0) 1 66 := ⟨by decide +kernel, rfl⟩
theorem d_Rf_all_66 : DI M_Rf_all 66 (.istore_n 3) 1 67 := ⟨by decide +kernel, rfl⟩
theorem d_Rf_all_67 : DI M_Rf_all 67 (.iload_n 2) 1 68 := ⟨by decide +kernel, rfl⟩
theorem d_Rf_all_68 : DI M_Rf_all 68 (.iload 5) 2 70 := ⟨by decide +kernel, rfl⟩
theorem d_Rf_all_70 : DI M_Rf_all 70 (.iadd) 1 71 := ⟨by decide +kernel, rfl⟩
theorem d_Rf_all_71 : DI M_Rf_all 71 (.istore_n 2) 1 72 := ⟨by decide +kernel, rfl⟩
theorem d_Rf_all_72 : DI M_Rf_all 72 (.iinc 4 1) 3 75 := ⟨by decide +kernel, rfl⟩
theorem d_Rf_all_75 : DJ M_Rf_all 75 (.goto (-53)) (-53) 3 78 22 := ⟨by decide +kernel, rfl, rfl⟩
theorem d_Rf_all_78 : DI M_Rf_all 78 (.iload_n 3) 1 79 := ⟨by decide +kernel, rfl⟩
theorem d_Rf_all_79 : DJ M_Rf_all 79 (.ifCond .eq 7) 7 3 82 86 := ⟨by decide +kernel, rfl, rfl⟩
theorem d_Rf_all_82 : DI M_Rf_all 82 (.iload_n 2) 1 83 := ⟨by decide +kernel, rfl⟩
theorem d_Rf_all_83 : DJ M_Rf_all 83 (.goto 5) 5 3 86 88 := ⟨by decide +kernel, rfl, rfl⟩
theorem d_Rf_all_86 : DI M_Rf_all 86 (.bipush (-9)) 2 88 := ⟨by decide +kernel, rfl⟩
theorem d_Rf_all_88 : DI M_Rf_all 88 (.ireturn) 1 89 := ⟨by decide +kernel, rfl⟩
theorem d_Rf_begin_0 : DI M_Rf_begin 0 (.iconst 0) 1 1 := ⟨by decide +kernel, rfl⟩
theorem d_Rf_begin_1 : DI M_Rf_begin 1 (.istore_n 1) 1 2 := ⟨by decide +kernel, rfl⟩
theorem d_Rf_begin_2 : DI M_Rf_begin 2 (.iload_n 1) 1 3 := ⟨by decide +kernel, rfl⟩
theorem d_Rf_begin_3 : DI M_Rf_begin 3 (.bipush 14) 2 5 := ⟨by decide +kernel, rfl⟩
theorem d_Rf_begin_5 : DJ M_Rf_begin 5 (.if_icmp .ge 21) 21 3 8 26 := ⟨by decide +kernel, rfl, rfl⟩
theorem d_Rf_begin_8 : DI M_Rf_begin 8 (.aload_n 0) 1 9 := ⟨by decide +kernel, rfl⟩
theorem d_Rf_begin_9 : DI M_Rf_begin 9 (.getfield 28) 3 12 := ⟨by decide +kernel, rfl⟩
theorem d_Rf_begin_12 : DI M_Rf_begin 12 (.iload_n 1) 1 13 := ⟨by decide +kernel, rfl⟩
theorem d_Rf_begin_13 : DI M_Rf_begin 13 (.aload_n 0) 1 14 := ⟨by decide +kernel, rfl⟩
theorem d_Rf_begin_14 : DI M_Rf_begin 14 (.getfield 25) 3 17 := ⟨by decide +kernel, rfl⟩
theorem d_Rf_begin_17 : DI M_Rf_begin 17 (.iload_n 1) 1 18 := ⟨by decide +kernel, rfl⟩
theorem d_Rf_begin_18 : DI M_Rf_begin 18 (.iaload) 1 19 := ⟨by decide +kernel, rfl⟩
theorem d_Rf_begin_19 : DI M_Rf_begin 19 (.iastore) 1 20 := ⟨by decide +kernel, rfl⟩
theorem d_Rf_begin_20 : DI M_Rf_begin 20 (.iinc 1 1) 3 23 := ⟨by decide +kernel, rfl⟩
theorem d_Rf_begin_23 : DJ M_Rf_begin 23 (.goto (-21)) (-21) 3 26 2 := ⟨by decide +kernel, rfl, rfl⟩
theorem d_Rf_begin_26 : DI M_Rf_begin 26 (.return_) 1 27 := ⟨by decide +kernel, rfl⟩
theorem d_Rf_when_0 : DI M_Rf_when 0 (.aload_n 0) 1 1 := ⟨by decide +kernel, rfl⟩
theorem d_Rf_when_1 : DI M_Rf_when 1 (.iconst 0) 1 2 := ⟨by decide +kernel, rfl⟩
theorem d_Rf_when_2 : DI M_Rf_when 2 (.putfield 59) 3 5 := ⟨by decide +kernel, rfl⟩
theorem d_Rf_when_5 : DI M_Rf_when 5 (.aload_n 0) 1 6 := ⟨by decide +kernel, rfl⟩
theorem d_Rf_when_6 : DI M_Rf_when 6 (.iload_n 1) 1 7 := ⟨by decide +kernel, rfl⟩
theorem d_Rf_when_7 : DI M_Rf_when 7 (.invokevirtual 149) 3 10 := ⟨by decide +kernel, rfl⟩
theorem d_Rf_when_10 : DJ M_Rf_when 10 (.ifCond .eq 5) 5 3 13 15 := ⟨by decide +kernel, rfl, rfl⟩
theorem d_Rf_when_13 : DI M_Rf_when 13 (.iconst (-1)) 1 14 := ⟨by decide +kernel, rfl⟩
theorem d_Rf_when_14 : DI M_Rf_when 14 (.ireturn) 1 15 := ⟨by decide +kernel, rfl⟩
theorem d_Rf_when_15 : DI M_Rf_when 15 (.iload_n 2) 1 16 := ⟨by decide +kernel, rfl⟩
theorem d_Rf_when_16 : DI M_Rf_when 16 (.i2l) 1 17 := ⟨by decide +kernel, rfl⟩
theorem d_Rf_when_17 : DI M_Rf_when 17 (.lconst 0) 1 18 := ⟨by decide +kernel, rfl⟩
theorem d_Rf_when_18 : DI M_Rf_when 18 (.ldc2_w 175) 3 21 := ⟨by decide +kernel, rfl⟩
theorem d_Rf_when_21 : DI M_Rf_when 21 (.invokestatic 66) 3 24 := ⟨by decide +kernel, rfl⟩
theorem d_Rf_when_24 : DJ M_Rf_when 24 (.ifCond .ne 6) 6 3 27 30 := ⟨by decide +kernel, rfl, rfl⟩
theorem d_Rf_when_27 : DI M_Rf_when 27 (.bipush (-2)) 2 29 := ⟨by decide +kernel, rfl⟩
theorem d_Rf_when_29 : DI M_Rf_when 29 (.ireturn) 1 30 := ⟨by decide +kernel, rfl⟩
theorem d_Rf_when_30 : DI M_Rf_when 30 (.aload_n 0) 1 31 := ⟨by decide +kernel, rfl⟩
theorem d_Rf_when_31 : DI M_Rf_when 31 (.invokevirtual 183) 3 34 := ⟨by decide +kernel, rfl⟩
theorem d_Rf_when_34 : DI M_Rf_when 34 (.iconst 0) 1 35 := ⟨by decide +kernel, rfl⟩
theorem d_Rf_when_35 : DI M_Rf_when 35 (.istore_n 3) 1 36 := ⟨by decide +kernel, rfl⟩
theorem d_Rf_when_36 : DI M_Rf_when 36 (.iload_n 3) 1 37 := ⟨by decide +kernel, rfl⟩
theorem d_Rf_when_37 : DI M_Rf_when 37 (.bipush 8) 2 39 := ⟨by decide +kernel, rfl⟩
theorem d_Rf_when_39 : DJ M_Rf_when 39 (.if_icmp .ge 36) 36 3 42 75 := ⟨by decide +kernel, rfl, rfl⟩
theorem d_Rf_when_42 : DI M_Rf_when 42 (.aload_n 0) 1 43 := ⟨by decide +kernel, rfl⟩
theorem d_Rf_when_43 : DI M_Rf_when 43 (.aload_n 0) 1 44 := ⟨by decide +kernel, rfl⟩
theorem d_Rf_when_44 : DI M_Rf_when 44 (.getfield 28) 3 47 := ⟨by decide +kernel, rfl⟩
theorem d_Rf_when_47 : DI M_Rf_when 47 (.iload_n 1) 1 48 := ⟨by decide +kernel, rfl⟩
theorem d_Rf_when_48 : DI M_Rf_when 48 (.bipush 63) 2 50 := ⟨by decide +kernel, rfl⟩
theorem d_Rf_when_50 : DI M_Rf_when 50 (.invokevirtual 135) 3 53 := ⟨by decide +kernel, rfl⟩
theorem d_Rf_when_53 : DI M_Rf_when 53 (.iload_n 2) 1 54 := ⟨by decide +kernel, rfl⟩
theorem d_Rf_when_54 : DI M_Rf_when 54 (.invokestatic 127) 3 57 := ⟨by decide +kernel, rfl⟩
theorem d_Rf_when_57 : DJ M_Rf_when 57 (.ifCond .eq 5) 5 3 60 62 := ⟨by decide +kernel, rfl, rfl⟩
theorem d_Rf_when_60 : DI M_Rf_when 60 (.iload_n 3) 1 61 := ⟨by decide +kernel, rfl⟩
theorem d_Rf_when_61 : DI M_Rf_when 61 (.ireturn) 1 62 := ⟨by decide +kernel, rfl⟩
theorem d_Rf_when_62 : DI M_Rf_when 62 (.aload_n 0) 1 63 := ⟨by decide +kernel, rfl⟩
theorem d_Rf_when_63 : DI M_Rf_when 63 (.getfield 28) 3 66 := ⟨by decide +kernel, rfl⟩
theorem d_Rf_when_66 : DI M_Rf_when 66 (.invokestatic 168) 3 69 := ⟨by decide +kernel, rfl⟩
theorem d_Rf_when_69 : DI M_Rf_when 69 (.iinc 3 1) 3 72 := ⟨by decide +kernel, rfl⟩
theorem d_Rf_when_72 : DJ M_Rf_when 72 (.goto (-36)) (-36) 3 75 36 := ⟨by decide +kernel, rfl, rfl⟩
theorem d_Rf_when_75 : DI M_Rf_when 75 (.bipush (-9)) 2 77 := ⟨by decide +kernel, rfl⟩
theorem d_Rf_when_77 : DI M_Rf_when 77 (.ireturn) 1 78 := ⟨by decide +kernel, rfl⟩
theorem d_Rf_mayBeOne_0 : DI M_Rf_mayBeOne 0 (.aload_n 0) 1 1 := ⟨by decide +kernel, rfl⟩
theorem d_Rf_mayBeOne_1 : DI M_Rf_mayBeOne 1 (.getfield 16) 3 4 := ⟨by decide +kernel, rfl⟩
theorem d_Rf_mayBeOne_4 : DI M_Rf_mayBeOne 4 (.iconst 3) 1 5 := ⟨by decide +kernel, rfl⟩
theorem d_Rf_mayBeOne_5 : DI M_Rf_mayBeOne 5 (.iload_n 1) 1 6 := ⟨by decide +kernel, rfl⟩
theorem d_Rf_mayBeOne_6 : DI M_Rf_mayBeOne 6 (.imul) 1 7 := ⟨by decide +kernel, rfl⟩
theorem d_Rf_mayBeOne_7 : DI M_Rf_mayBeOne 7 (.iaload) 1 8 := ⟨by decide +kernel, rfl⟩
theorem d_Rf_mayBeOne_8 : DI M_Rf_mayBeOne 8 (.aload_n 0) 1 9 := ⟨by decide +kernel, rfl⟩
theorem d_Rf_mayBeOne_9 : DI M_Rf_mayBeOne 9 (.getfield 16) 3 12 := ⟨by decide +kernel, rfl⟩
theorem d_Rf_mayBeOne_12 : DI M_Rf_mayBeOne 12 (.iconst 3) 1 13 := ⟨by decide +kernel, rfl⟩
theorem d_Rf_mayBeOne_13 : DI M_Rf_mayBeOne 13 (.iload_n 2) 1 14 := ⟨by decide +kernel, rfl⟩
theorem d_Rf_mayBeOne_14 : DI M_Rf_mayBeOne 14 (.imul) 1 15 := ⟨by decide +kernel, rfl⟩
theorem d_Rf_mayBeOne_15 : DI M_Rf_mayBeOne 15 (.iaload) 1 16 := ⟨by decide +kernel, rfl⟩
theorem d_Rf_mayBeOne_16 : DJ M_Rf_mayBeOne 16 (.if_icmp .eq 34) 34 3 19 50 := ⟨by decide +kernel, rfl, rfl⟩
theorem d_Rf_mayBeOne_19 : DI M_Rf_mayBeOne 19 (.aload_n 0) 1 20 := ⟨by decide +kernel, rfl⟩
theorem d_Rf_mayBeOne_20 : DI M_Rf_mayBeOne 20 (.getfield 16) 3 23 := ⟨by decide +kernel, rfl⟩
theorem d_Rf_mayBeOne_23 : DI M_Rf_mayBeOne 23 (.iconst 3) 1 24 := ⟨by decide +kernel, rfl⟩
theorem d_Rf_mayBeOne_24 : DI M_Rf_mayBeOne 24 (.iload_n 1) 1 25 := ⟨by decide +kernel, rfl⟩
theorem d_Rf_mayBeOne_25 : DI M_Rf_mayBeOne 25 (.imul) 1 26 := ⟨by decide +kernel, rfl⟩
theorem d_Rf_mayBeOne_26 : DI M_Rf_mayBeOne 26 (.iconst 1) 1 27 := ⟨by decide +kernel, rfl⟩
theorem d_Rf_mayBeOne_27 : DI M_Rf_mayBeOne 27 (.iadd) 1 28 := ⟨by decide +kernel, rfl⟩
theorem d_Rf_mayBeOne_28 : DI M_Rf_mayBeOne 28 (.iaload) 1 29 := ⟨by decide +kernel, rfl⟩
theorem d_Rf_mayBeOne_29 : DI M_Rf_mayBeOne 29 (.aload_n 0) 1 30 := ⟨by decide +kernel, rfl⟩
theorem d_Rf_mayBeOne_30 : DI M_Rf_mayBeOne 30 (.getfield 16) 3 33 := ⟨by decide +kernel, rfl⟩
theorem d_Rf_mayBeOne_33 : DI M_Rf_mayBeOne 33 (.iconst 3) 1 34 := ⟨by decide +kernel, rfl⟩
theorem d_Rf_mayBeOne_34 : DI M_Rf_mayBeOne 34 (.iload_n 2) 1 35 := ⟨by decide +kernel, rfl⟩
theorem d_Rf_mayBeOne_35 : DI M_Rf_mayBeOne 35 (.imul) 1 36 := ⟨by decide +kernel, rfl⟩
theorem d_Rf_mayBeOne_36 : DI M_Rf_mayBeOne 36 (.iconst 1) 1 37 := ⟨by decide +kernel, rfl⟩
theorem d_Rf_mayBeOne_37 : DI M_Rf_mayBeOne 37 (.iadd) 1 38 := ⟨by decide +kernel, rfl⟩
theorem d_Rf_mayBeOne_38 : DI M_Rf_mayBeOne 38 (.iaload) 1 39 := ⟨by decide +kernel, rfl⟩
theorem d_Rf_mayBeOne_39 : DI M_Rf_mayBeOne 39 (.invokestatic 111) 3 42 := ⟨by decide +kernel, rfl⟩
theorem d_Rf_mayBeOne_42 : DI M_Rf_mayBeOne 42 (.iconst 2) 1 43 := ⟨by decide +kernel, rfl⟩
theorem d_Rf_mayBeOne_43 : DJ M_Rf_mayBeOne 43 (.if_icmp .gt 7) 7 3 46 50 := ⟨by decide +kernel, rfl, rfl⟩
theorem d_Rf_mayBeOne_46 : DI M_Rf_mayBeOne 46 (.iconst 1) 1 47 := ⟨by decide +kernel, rfl⟩
theorem d_Rf_mayBeOne_47 : DJ M_Rf_mayBeOne 47 (.goto 4) 4 3 50 51 := ⟨by decide +kernel, rfl, rfl⟩
theorem d_Rf_mayBeOne_50 : DI M_Rf_mayBeOne 50 (.iconst 0) 1 51 := ⟨by decide +kernel, rfl⟩
theorem d_Rf_mayBeOne_51 : DI M_Rf_mayBeOne 51 (.ireturn) 1 52 := ⟨by decide +kernel, rfl⟩
theorem d_Rf_isLaid_0 : DI M_Rf_isLaid 0 (.iconst 1) 1 1 := ⟨by decide +kernel, rfl⟩
theorem d_Rf_isLaid_1 : DI M_Rf_isLaid 1 (.istore_n 3) 1 2 := ⟨by decide +kernel, rfl⟩
theorem d_Rf_isLaid_2 : DI M_Rf_isLaid 2 (.iconst 0) 1 3 := ⟨by decide +kernel, rfl⟩
theorem d_Rf_isLaid_3 : DI M_Rf_isLaid 3 (.istore 4) 2 5 := ⟨by decide +kernel, rfl⟩
theorem d_Rf_isLaid_5 : DI M_Rf_isLaid 5 (.iload 4) 2 7 := ⟨by decide +kernel, rfl⟩
theorem d_Rf_isLaid_7 : DI M_Rf_isLaid 7 (.aload_n 0) 1 8 := ⟨by decide +kernel, rfl⟩
theorem d_Rf_isLaid_8 : DI M_Rf_isLaid 8 (.getfield 70) 3 11 := ⟨by decide +kernel, rfl⟩
theorem d_Rf_isLaid_11 : DJ M_Rf_isLaid 11 (.if_icmp .ge 80) 80 3 14 91 := ⟨by decide +kernel, rfl, rfl⟩
theorem d_Rf_isLaid_14 : DI M_Rf_isLaid 14 (.aload_n 0) 1 15 := ⟨by decide +kernel, rfl⟩
theorem d_Rf_isLaid_15 : DI M_Rf_isLaid 15 (.getfield 56) 3 18 := ⟨by decide +kernel, rfl⟩
theorem d_Rf_isLaid_18 : DI M_Rf_isLaid 18 (.iload 4) 2 20 := ⟨by decide +kernel, rfl⟩
theorem d_Rf_isLaid_20 : DI M_Rf_isLaid 20 (.iload_n 1) 1 21 := ⟨by decide +kernel, rfl⟩
theorem d_Rf_isLaid_21 : DI M_Rf_isLaid 21 (.iload_n 2) 1 22 := ⟨by decide +kernel, rfl⟩
theorem d_Rf_isLaid_22 : DI M_Rf_isLaid 22 (.iload 4) 2 24 := ⟨by decide +kernel, rfl⟩
theorem d_Rf_isLaid_24 : DI M_Rf_isLaid 24 (.invokestatic 186) 3 27 := ⟨by decide +kernel, rfl⟩
theorem d_Rf_isLaid_27 : DI M_Rf_isLaid 27 (.idiv) 1 28 := ⟨by decide +kernel, rfl⟩
theorem d_Rf_isLaid_28 : DI M_Rf_isLaid 28 (.iload_n 2) 1 29 := ⟨by decide +kernel, rfl⟩
theorem d_Rf_isLaid_29 : DI M_Rf_isLaid 29 (.irem) 1 30 := ⟨by decide +kernel, rfl⟩
theorem d_Rf_isLaid_30 : DI M_Rf_isLaid 30 (.iastore) 1 31 := ⟨by decide +kernel, rfl⟩
theorem d_Rf_isLaid_31 : DI M_Rf_isLaid 31 (.iconst 0) 1 32 := ⟨by decide +kernel, rfl⟩
theorem d_Rf_isLaid_32 : DI M_Rf_isLaid 32 (.istore 5) 2 34 := ⟨by decide +kernel, rfl⟩
theorem d_Rf_isLaid_34 : DI M_Rf_isLaid 34 (.iload 5) 2 36 := ⟨by decide +kernel, rfl⟩
theorem d_Rf_isLaid_36 : DI M_Rf_isLaid 36 (.iload 4) 2 38 := ⟨by decide +kernel, rfl⟩
theorem d_Rf_isLaid_38 : DJ M_Rf_isLaid 38 (.if_icmp .ge 47) 47 3 41 85 := ⟨by decide +kernel, rfl, rfl⟩
theorem d_Rf_isLaid_41 : DI M_Rf_isLaid 41 (.iload_n 3) 1 42 := ⟨by decide +kernel, rfl⟩
theorem d_Rf_isLaid_42 : DJ M_Rf_isLaid 42 (.ifCond .eq 35) 35 3 45 77 := ⟨by decide +kernel, rfl, rfl⟩
theorem d_Rf_isLaid_45 : DI M_Rf_isLaid 45 (.aload_n 0) 1 46 := ⟨by decide +kernel, rfl⟩
theorem d_Rf_isLaid_46 : DI M_Rf_isLaid 46 (.getfield 56) 3 49 := ⟨by decide +kernel, rfl⟩
theorem d_Rf_isLaid_49 : DI M_Rf_isLaid 49 (.iload 4) 2 51 := ⟨by decide +kernel, rfl⟩
theorem d_Rf_isLaid_51 : DI M_Rf_isLaid 51 (.iaload) 1 52 := ⟨by decide +kernel, rfl⟩
theorem d_Rf_isLaid_52 : DI M_Rf_isLaid 52 (.aload_n 0) 1 53 := ⟨by decide +kernel, rfl⟩
theorem d_Rf_isLaid_53 : DI M_Rf_isLaid 53 (.getfield 56) 3 56 := ⟨by decide +kernel, rfl⟩
theorem d_Rf_isLaid_56 : DI M_Rf_isLaid 56 (.iload 5) 2 58 := ⟨by decide +kernel, rfl⟩
theorem d_Rf_isLaid_58 : DI M_Rf_isLaid 58 (.iaload) 1 59 := ⟨by decide +kernel, rfl⟩
theorem d_Rf_isLaid_59 : DJ M_Rf_isLaid 59 (.if_icmp .ne 14) 14 3 62 73 := ⟨by decide +kernel, rfl, rfl⟩
theorem d_Rf_isLaid_62 : DI M_Rf_isLaid 62 (.aload_n 0) 1 63 := ⟨by decide +kernel, rfl⟩
theorem d_Rf_isLaid_63 : DI M_Rf_isLaid 63 (.iload 4) 2 65 := ⟨by decide +kernel, rfl⟩
theorem d_Rf_isLaid_65 : DI M_Rf_isLaid 65 (.iload 5) 2 67 := ⟨by decide +kernel, rfl⟩
theorem d_Rf_isLaid_67 : DI M_Rf_isLaid 67 (.invokevirtual 189) 3 70 := ⟨by decide +kernel, rfl⟩
theorem d_Rf_isLaid_70 : DJ M_Rf_isLaid 70 (.ifCond .eq 7) 7 3 73 77 := ⟨by decide +kernel, rfl, rfl⟩
theorem d_Rf_isLaid_73 : DI M_Rf_isLaid 73 (.iconst 1) 1 74 := ⟨by decide +kernel, rfl⟩
theorem d_Rf_isLaid_74 : DJ M_Rf_isLaid 74 (.goto 4) 4 3 77 78 := ⟨by decide +kernel, rfl, rfl⟩
theorem d_Rf_isLaid_77 : DI M_Rf_isLaid 77 (.iconst 0) 1 78 := ⟨by decide +kernel, rfl⟩
theorem d_Rf_isLaid_78 : DI M_Rf_isLaid 78 (.istore_n 3) 1 79 := ⟨by decide +kernel, rfl⟩
theorem d_Rf_isLaid_79 : DI M_Rf_isLaid 79 (.iinc 5 1) 3 82 := ⟨by decide +kernel, rfl⟩
theorem d_Rf_isLaid_82 : DJ M_Rf_isLaid 82 (.goto (-48)) (-48) 3 85 34 := ⟨by decide +kernel, rfl, rfl⟩
theorem d_Rf_isLaid_85 : DI M_Rf_isLaid 85 (.iinc 4 1) 3 88 := ⟨by decide +kernel, rfl⟩
theorem d_Rf_isLaid_88 : DJ M_Rf_isLaid 88 (.goto (-83)) (-83) 3 91 5 := ⟨by decide +kernel, rfl, rfl⟩
theorem d_Rf_isLaid_91 : DI M_Rf_isLaid 91 (.iload_n 3) 1 92 := ⟨by decide +kernel, rfl⟩
theorem d_Rf_isLaid_92 : DI M_Rf_isLaid 92 (.ireturn) 1 93 := ⟨by decide +kernel, rfl⟩
theorem d_Rf_mothers_0 : DI M_Rf_mothers 0 (.aload_n 0) 1 1 := ⟨by decide +kernel, rfl⟩
theorem d_Rf_mothers_1 : DI M_Rf_mothers 1 (.iconst 0) 1 2 := ⟨by decide +kernel, rfl⟩
theorem d_Rf_mothers_2 : DI M_Rf_mothers 2 (.putfield 59) 3 5 := ⟨by decide +kernel, rfl⟩
theorem d_Rf_mothers_5 : DI M_Rf_mothers 5 (.aload_n 0) 1 6 := ⟨by decide +kernel, rfl⟩
theorem d_Rf_mothers_6 : DI M_Rf_mothers 6 (.getfield 70) 3 9 := ⟨by decide +kernel, rfl⟩
theorem d_Rf_mothers_9 : DJ M_Rf_mothers 9 (.ifCond .ne 5) 5 3 12 14 := ⟨by decide +kernel, rfl, rfl⟩
theorem d_Rf_mothers_12 : DI M_Rf_mothers 12 (.iconst 0) 1 13 := ⟨by decide +kernel, rfl⟩
theorem d_Rf_mothers_13 : DI M_Rf_mothers 13 (.ireturn) 1 14 := ⟨by decide +kernel, rfl⟩
theorem d_Rf_mothers_14 : DI M_Rf_mothers 14 (.iconst 1) 1 15 := ⟨by decide +kernel, rfl⟩
theorem d_Rf_mothers_15 : DI M_Rf_mothers 15 (.istore_n 1) 1 16 := ⟨by decide +kernel, rfl⟩
theorem d_Rf_mothers_16 : DI M_Rf_mothers 16 (.iload_n 1) 1 17 := ⟨by decide +kernel, rfl⟩
theorem d_Rf_mothers_17 : DI M_Rf_mothers 17 (.aload_n 0) 1 18 := ⟨by decide +kernel, rfl⟩
theorem d_Rf_mothers_18 : DI M_Rf_mothers 18 (.getfield 70) 3 21 := ⟨by decide +kernel, rfl⟩
theorem d_Rf_mothers_21 : DJ M_Rf_mothers 21 (.if_icmp .ge 40) 40 3 24 61 := ⟨by decide +kernel, rfl, rfl⟩
theorem d_Rf_mothers_24 : DI M_Rf_mothers 24 (.iconst 0) 1 25 := ⟨by decide +kernel, rfl⟩
theorem d_Rf_mothers_25 : DI M_Rf_mothers 25 (.istore_n 2) 1 26 := ⟨by decide +kernel, rfl⟩
theorem d_Rf_mothers_26 : DI M_Rf_mothers 26 (.iload_n 2) 1 27 := ⟨by decide +kernel, rfl⟩
theorem d_Rf_mothers_27 : DI M_Rf_mothers 27 (.iload_n 1) 1 28 := ⟨by decide +kernel, rfl⟩
theorem d_Rf_mothers_28 : DI M_Rf_mothers 28 (.aload_n 0) 1 29 := ⟨by decide +kernel, rfl⟩
theorem d_Rf_mothers_29 : DI M_Rf_mothers 29 (.getfield 70) 3 32 := ⟨by decide +kernel, rfl⟩
theorem d_Rf_mothers_32 : DI M_Rf_mothers 32 (.invokestatic 186) 3 35 := ⟨by decide +kernel, rfl⟩
theorem d_Rf_mothers_35 : DJ M_Rf_mothers 35 (.if_icmp .ge 20) 20 3 38 55 := ⟨by decide +kernel, rfl, rfl⟩
theorem d_Rf_mothers_38 : DI M_Rf_mothers 38 (.aload_n 0) 1 39 := ⟨by decide +kernel, rfl⟩
theorem d_Rf_mothers_39 : DI M_Rf_mothers 39 (.iload_n 2) 1 40 := ⟨by decide +kernel, rfl⟩
theorem d_Rf_mothers_40 : DI M_Rf_mothers 40 (.iload_n 1) 1 41 := ⟨by decide +kernel, rfl⟩
theorem d_Rf_mothers_41 : DI M_Rf_mothers 41 (.invokevirtual 192) 3 44 := ⟨by decide +kernel, rfl⟩
theorem d_Rf_mothers_44 : DJ M_Rf_mothers 44 (.ifCond .eq 5) 5 3 47 49 := ⟨by decide +kernel, rfl, rfl⟩
theorem d_Rf_mothers_47 : DI M_Rf_mothers 47 (.iload_n 1) 1 48 := ⟨by decide +kernel, rfl⟩
theorem d_Rf_mothers_48 : DI M_Rf_mothers 48 (.ireturn) 1 49 := ⟨by decide +kernel, rfl⟩
theorem d_Rf_mothers_49 : DI M_Rf_mothers 49 (.iinc 2 1) 3 52 := ⟨by decide +kernel, rfl⟩
theorem d_Rf_mothers_52 : DJ M_Rf_mothers 52 (.goto (-26)) (-26) 3 55 26 := ⟨by decide +kernel, rfl, rfl⟩
theorem d_Rf_mothers_55 : DI M_Rf_mothers 55 (.iinc 1 1) 3 58 := ⟨by decide +kernel, rfl⟩
theorem d_Rf_mothers_58 : DJ M_Rf_mothers 58 (.goto (-42)) (-42) 3 61 16 := ⟨by decide +kernel, rfl, rfl⟩
theorem d_Rf_mothers_61 : DI M_Rf_mothers 61 (.aload_n 0) 1 62 := ⟨by decide +kernel, rfl⟩
theorem d_Rf_mothers_62 : DI M_Rf_mothers 62 (.getfield 70) 3 65 := ⟨by decide +kernel, rfl⟩
theorem d_Rf_mothers_65 : DI M_Rf_mothers 65 (.ireturn) 1 66 := ⟨by decide +kernel, rfl⟩
theorem d_Rf_giving_0 : DI M_Rf_giving 0 (.aload_n 0) 1 1 := ⟨by decide +kernel, rfl⟩
theorem d_Rf_giving_1 : DI M_Rf_giving 1 (.iconst 0) 1 2 := ⟨by decide +kernel, rfl⟩
theorem d_Rf_giving_2 : DI M_Rf_giving 2 (.putfield 59) 3 5 := ⟨by decide +kernel, rfl⟩
theorem d_Rf_giving_5 : DI M_Rf_giving 5 (.aload_n 0) 1 6 := ⟨by decide +kernel, rfl⟩
theorem d_Rf_giving_6 : DI M_Rf_giving 6 (.getfield 70) 3 9 := ⟨by decide +kernel, rfl⟩
theorem d_Rf_giving_9 : DJ M_Rf_giving 9 (.ifCond .eq 10) 10 3 12 19 := ⟨by decide +kernel, rfl, rfl⟩
theorem d_Rf_giving_12 : DI M_Rf_giving 12 (.aload_n 0) 1 13 := ⟨by decide +kernel, rfl⟩
theorem d_Rf_giving_13 : DI M_Rf_giving 13 (.getfield 63) 3 16 := ⟨by decide +kernel, rfl⟩
theorem d_Rf_giving_16 : DJ M_Rf_giving 16 (.ifCond .ne 5) 5 3 19 21 := ⟨by decide +kernel, rfl, rfl⟩
theorem d_Rf_giving_19 : DI M_Rf_giving 19 (.iconst 0) 1 20 := ⟨by decide +kernel, rfl⟩
theorem d_Rf_giving_20 : DI M_Rf_giving 20 (.ireturn) 1 21 := ⟨by decide +kernel, rfl⟩
theorem d_Rf_giving_21 : DI M_Rf_giving 21 (.bipush (-9)) 2 23 := ⟨by decide +kernel, rfl⟩
theorem d_Rf_giving_23 : DI M_Rf_giving 23 (.istore_n 2) 1 24 := ⟨by decide +kernel, rfl⟩
theorem d_Rf_giving_24 : DI M_Rf_giving 24 (.bipush (-9)) 2 26 := ⟨by decide +kernel, rfl⟩
theorem d_Rf_giving_26 : DI M_Rf_giving 26 (.istore_n 3) 1 27 := ⟨by decide +kernel, rfl⟩
theorem d_Rf_giving_27 : DI M_Rf_giving 27 (.iconst 0) 1 28 := ⟨by decide +kernel, rfl⟩
theorem d_Rf_giving_28 : DI M_Rf_giving 28 (.istore 4) 2 30 := ⟨by decide +kernel, rfl⟩
theorem d_Rf_giving_30 : DI M_Rf_giving 30 (.iload 4) 2 32 := ⟨by decide +kernel, rfl⟩
theorem d_Rf_giving_32 : DI M_Rf_giving 32 (.aload_n 0) 1 33 := ⟨by decide +kernel, rfl⟩
theorem d_Rf_giving_33 : DI M_Rf_giving 33 (.getfield 63) 3 36 := ⟨by decide +kernel, rfl⟩
theorem d_Rf_giving_36 : DI M_Rf_giving 36 (.aload_n 0) 1 37 := ⟨by decide +kernel, rfl⟩
theorem d_Rf_giving_37 : DI M_Rf_giving 37 (.getfield 70) 3 40 := ⟨by decide +kernel, rfl⟩
theorem d_Rf_giving_40 : DI M_Rf_giving 40 (.invokestatic 186) 3 43 := ⟨by decide +kernel, rfl⟩
theorem d_Rf_giving_43 : DJ M_Rf_giving 43 (.if_icmp .ge 137) 137 3 46 180 := ⟨by decide +kernel, rfl, rfl⟩
theorem d_Rf_giving_46 : DI M_Rf_giving 46 (.aload_n 0) 1 47 := ⟨by decide +kernel, rfl⟩
theorem d_Rf_giving_47 : DI M_Rf_giving 47 (.invokevirtual 183) 3 50 := ⟨by decide +kernel, rfl⟩
theorem d_Rf_giving_50 : DI M_Rf_giving 50 (.iconst 0) 1 51 := ⟨by decide +kernel, rfl⟩
theorem d_Rf_giving_51 : DI M_Rf_giving 51 (.istore 5) 2 53 := ⟨by decide +kernel, rfl⟩
theorem d_Rf_giving_53 : DI M_Rf_giving 53 (.iconst 0) 1 54 := ⟨by decide +kernel, rfl⟩
theorem d_Rf_giving_54 : DI M_Rf_giving 54 (.istore 6) 2 56 := ⟨by decide +kernel, rfl⟩
theorem d_Rf_giving_56 : DI M_Rf_giving 56 (.iload 6) 2 58 := ⟨by decide +kernel, rfl⟩
theorem d_Rf_giving_58 : DI M_Rf_giving 58 (.aload_n 0) 1 59 := ⟨by decide +kernel, rfl⟩
theorem d_Rf_giving_59 : DI M_Rf_giving 59 (.getfield 70) 3 62 := ⟨by decide +kernel, rfl⟩
theorem d_Rf_giving_62 : DJ M_Rf_giving 62 (.if_icmp .ge 59) 59 3 65 121 := ⟨by decide +kernel, rfl, rfl⟩
theorem d_Rf_giving_65 : DI M_Rf_giving 65 (.iload 4) 2 67 := ⟨by decide +kernel, rfl⟩
theorem d_Rf_giving_67 : DI M_Rf_giving 67 (.aload_n 0) 1 68 := ⟨by decide +kernel, rfl⟩
theorem d_Rf_giving_68 : DI M_Rf_giving 68 (.getfield 63) 3 71 := ⟨by decide +kernel, rfl⟩
theorem d_Rf_giving_71 : DI M_Rf_giving 71 (.aload_n 0) 1 72 := ⟨by decide +kernel, rfl⟩
theorem d_Rf_giving_72 : DI M_Rf_giving 72 (.getfield 70) 3 75 := ⟨by decide +kernel, rfl⟩
theorem d_Rf_giving_75 : DI M_Rf_giving 75 (.iconst 1) 1 76 := ⟨by decide +kernel, rfl⟩
theorem d_Rf_giving_76 : DI M_Rf_giving 76 (.isub) 1 77 := ⟨by decide +kernel, rfl⟩
theorem d_Rf_giving_77 : DI M_Rf_giving 77 (.iload 6) 2 79 := ⟨by decide +kernel, rfl⟩
theorem d_Rf_giving_79 : DI M_Rf_giving 79 (.isub) 1 80 := ⟨by decide +kernel, rfl⟩
theorem d_Rf_giving_80 : DI M_Rf_giving 80 (.invokestatic 186) 3 83 := ⟨by decide +kernel, rfl⟩
theorem d_Rf_giving_83 : DI M_Rf_giving 83 (.idiv) 1 84 := ⟨by decide +kernel, rfl⟩
theorem d_Rf_giving_84 : DI M_Rf_giving 84 (.aload_n 0) 1 85 := ⟨by decide +kernel, rfl⟩
theorem d_Rf_giving_85 : DI M_Rf_giving 85 (.getfield 63) 3 88 := ⟨by decide +kernel, rfl⟩
theorem d_Rf_giving_88 : DI M_Rf_giving 88 (.irem) 1 89 := ⟨by decide +kernel, rfl⟩
theorem d_Rf_giving_89 : DI M_Rf_giving 89 (.istore 7) 2 91 := ⟨by decide +kernel, rfl⟩
theorem d_Rf_giving_91 : DI M_Rf_giving 91 (.aload_n 0) 1 92 := ⟨by decide +kernel, rfl⟩
theorem d_Rf_giving_92 : DI M_Rf_giving 92 (.getfield 28) 3 95 := ⟨by decide +kernel, rfl⟩
theorem d_Rf_giving_95 : DI M_Rf_giving 95 (.bipush 6) 2 97 := ⟨by decide +kernel, rfl⟩
theorem d_Rf_giving_97 : DI M_Rf_giving 97 (.iload 6) 2 99 := ⟨by decide +kernel, rfl⟩
theorem d_Rf_giving_99 : DI M_Rf_giving 99 (.iadd) 1 100 := ⟨by decide +kernel, rfl⟩
theorem d_Rf_giving_100 : DI M_Rf_giving 100 (.iload 7) 2 102 := ⟨by decide +kernel, rfl⟩
theorem d_Rf_giving_102 : DI M_Rf_giving 102 (.iastore) 1 103 := ⟨by decide +kernel, rfl⟩
theorem d_Rf_giving_103 : DI M_Rf_giving 103 (.bipush 10) 2 105 := ⟨by decide +kernel, rfl⟩
theorem d_Rf_giving_105 : DI M_Rf_giving 105 (.iload 5) 2 107 := ⟨by decide +kernel, rfl⟩
theorem d_Rf_giving_107 : DI M_Rf_giving 107 (.imul) 1 108 := ⟨by decide +kernel, rfl⟩
theorem d_Rf_giving_108 : DI M_Rf_giving 108 (.iload 7) 2 110 := ⟨by decide +kernel, rfl⟩
theorem d_Rf_giving_110 : DI M_Rf_giving 110 (.iadd) 1 111 := ⟨by decide +kernel, rfl⟩
theorem d_Rf_giving_111 : DI M_Rf_giving 111 (.iconst 1) 1 112 := ⟨by decide +kernel, rfl⟩
theorem d_Rf_giving_112 : DI M_Rf_giving 112 (.iadd) 1 113 := ⟨by decide +kernel, rfl⟩
theorem d_Rf_giving_113 : DI M_Rf_giving 113 (.istore 5) 2 115 := ⟨by decide +kernel, rfl⟩
theorem d_Rf_giving_115 : DI M_Rf_giving 115 (.iinc 6 1) 3 118 := ⟨by decide +kernel, rfl⟩
theorem d_Rf_giving_118 : DJ M_Rf_giving 118 (.goto (-62)) (-62) 3 121 56 := ⟨by decide +kernel, rfl, rfl⟩
theorem d_Rf_giving_121 : DI M_Rf_giving 121 (.iconst 0) 1 122 := ⟨by decide +kernel, rfl⟩
theorem d_Rf_giving_122 : DI M_Rf_giving 122 (.istore 6) 2 124 := ⟨by decide +kernel, rfl⟩
theorem d_Rf_giving_124 : DI M_Rf_giving 124 (.iconst 0) 1 125 := ⟨by decide +kernel, rfl⟩
theorem d_Rf_giving_125 : DI M_Rf_giving 125 (.istore 7) 2 127 := ⟨by decide +kernel, rfl⟩
theorem d_Rf_giving_127 : DI M_Rf_giving 127 (.iload 7) 2 129 := ⟨by decide +kernel, rfl⟩
theorem d_Rf_giving_129 : DI M_Rf_giving 129 (.aload_n 0) 1 130 := ⟨by decide +kernel, rfl⟩
theorem d_Rf_giving_130 : DI M_Rf_giving 130 (.getfield 63) 3 133 := ⟨by decide +kernel, rfl⟩
theorem d_Rf_giving_133 : DJ M_Rf_giving 133 (.if_icmp .ge 29) 29 3 136 162 := ⟨by decide +kernel, rfl, rfl⟩
theorem d_Rf_giving_136 : DI M_Rf_giving 136 (.iload 6) 2 138 := ⟨by decide +kernel, rfl⟩
theorem d_Rf_giving_138 : DI M_Rf_giving 138 (.aload_n 0) 1 139 := ⟨by decide +kernel, rfl⟩
theorem d_Rf_giving_139 : DI M_Rf_giving 139 (.aload_n 0) 1 140 := ⟨by decide +kernel, rfl⟩
theorem d_Rf_giving_140 : DI M_Rf_giving 140 (.getfield 28) 3 143 := ⟨by decide +kernel, rfl⟩
theorem d_Rf_giving_143 : DI M_Rf_giving 143 (.iload 7) 2 145 := ⟨by decide +kernel, rfl⟩
theorem d_Rf_giving_145 : DI M_Rf_giving 145 (.bipush 63) 2 147 := ⟨by decide +kernel, rfl⟩
theorem d_Rf_giving_147 : DI M_Rf_giving 147 (.invokevirtual 135) 3 150 := ⟨by decide +kernel, rfl⟩
theorem d_Rf_giving_150 : DI M_Rf_giving 150 (.invokestatic 195) 3 153 := ⟨by decide +kernel, rfl⟩
theorem d_Rf_giving_153 : DI M_Rf_giving 153 (.iadd) 1 154 := ⟨by decide +kernel, rfl⟩
theorem d_Rf_giving_154 : DI M_Rf_giving 154 (.istore 6) 2 156 := ⟨by decide +kernel, rfl⟩
theorem d_Rf_giving_156 : DI M_Rf_giving 156 (.iinc 7 1) 3 159 := ⟨by decide +kernel, rfl⟩
theorem d_Rf_giving_159 : DJ M_Rf_giving 159 (.goto (-32)) (-32) 3 162 127 := ⟨by decide +kernel, rfl, rfl⟩
theorem d_Rf_giving_162 : DI M_Rf_giving 162 (.iload 6) 2 164 := ⟨by decide +kernel, rfl⟩
theorem d_Rf_giving_164 : DI M_Rf_giving 164 (.iload_n 2) 1 165 := ⟨by decide +kernel, rfl⟩
theorem d_Rf_giving_165 : DJ M_Rf_giving 165 (.if_icmp .le 9) 9 3 168 174 := ⟨by decide +kernel, rfl, rfl⟩
theorem d_Rf_giving_168 : DI M_Rf_giving 168 (.iload 6) 2 170 := ⟨by decide +kernel, rfl⟩
theorem d_Rf_giving_170 : DI M_Rf_giving 170 (.istore_n 2) 1 171 := ⟨by decide +kernel, rfl⟩
theorem d_Rf_giving_171 : DI M_Rf_giving 171 (.iload 5) 2 173 := ⟨by decide +kernel, rfl⟩
theorem d_Rf_giving_173 : DI M_Rf_giving 173 (.istore_n 3) 1 174 := ⟨by decide +kernel, rfl⟩
theorem d_Rf_giving_174 : DI M_Rf_giving 174 (.iinc 4 1) 3 177 := ⟨by decide +kernel, rfl⟩
theorem d_Rf_giving_177 : DJ M_Rf_giving 177 (.goto (-147)) (-147) 3 180 30 := ⟨by decide +kernel, rfl, rfl⟩
theorem d_Rf_giving_180 : DI M_Rf_giving 180 (.iload_n 1) 1 181 := ⟨by decide +kernel, rfl⟩
theorem d_Rf_giving_181 : DJ M_Rf_giving 181 (.ifCond .eq 7) 7 3 184 188 := ⟨by decide +kernel, rfl, rfl⟩
theorem d_Rf_giving_184 : DI M_Rf_giving 184 (.iload_n 3) 1 185 := ⟨by decide +kernel, rfl⟩
theorem d_Rf_giving_185 : DJ M_Rf_giving 185 (.goto 4) 4 3 188 189 := ⟨by decide +kernel, rfl, rfl⟩
theorem d_Rf_giving_188 : DI M_Rf_giving 188 (.iload_n 2) 1 189 := ⟨by decide +kernel, rfl⟩
theorem d_Rf_giving_189 : DI M_Rf_giving 189 (.ireturn) 1 190 := ⟨by decide +kernel, rfl⟩
theorem d_Rf_longPower_0 : DI M_Rf_longPower 0 (.lconst 1) 1 1 := ⟨by decide +kernel, rfl⟩
theorem d_Rf_longPower_1 : DI M_Rf_longPower 1 (.lstore_n 3) 1 2 := ⟨by decide +kernel, rfl⟩
theorem d_Rf_longPower_2 : DI M_Rf_longPower 2 (.iconst 0) 1 3 := ⟨by decide +kernel, rfl⟩
theorem d_Rf_longPower_3 : DI M_Rf_longPower 3 (.istore 5) 2 5 := ⟨by decide +kernel, rfl⟩
theorem d_Rf_longPower_5 : DI M_Rf_longPower 5 (.iload 5) 2 7 := ⟨by decide +kernel, rfl⟩
theorem d_Rf_longPower_7 : DI M_Rf_longPower 7 (.iload_n 2) 1 8 := ⟨by decide +kernel, rfl⟩
theorem d_Rf_longPower_8 : DJ M_Rf_longPower 8 (.if_icmp .ge 13) 13 3 11 21 := ⟨by decide +kernel, rfl, rfl⟩
theorem d_Rf_longPower_11 : DI M_Rf_longPower 11 (.lload_n 3) 1 12 := ⟨by decide +kernel, rfl⟩
theorem d_Rf_longPower_12 : DI M_Rf_longPower 12 (.lload_n 0) 1 13 := ⟨by decide +kernel, rfl⟩
theorem d_Rf_longPower_13 : DI M_Rf_longPower 13 (.lmul) 1 14 := ⟨by decide +kernel, rfl⟩
theorem d_Rf_longPower_14 : DI M_Rf_longPower 14 (.lstore_n 3) 1 15 := ⟨by decide +kernel, rfl⟩
theorem d_Rf_longPower_15 : DI M_Rf_longPower 15 (.iinc 5 1) 3 18 := ⟨by decide +kernel, rfl⟩
theorem d_Rf_longPower_18 : DJ M_Rf_longPower 18 (.goto (-13)) (-13) 3 21 5 := ⟨by decide +kernel, rfl, rfl⟩
theorem d_Rf_longPower_21 : DI M_Rf_longPower 21 (.lload_n 3) 1 22 := ⟨by decide +kernel, rfl⟩
theorem d_Rf_longPower_22 : DI M_Rf_longPower 22 (.lreturn) 1 23 := ⟨by decide +kernel, rfl⟩
theorem d_Rf_does_0 : DI M_Rf_does 0 (.iload_n 1) 1 1 := ⟨by decide +kernel, rfl⟩
theorem d_Rf_does_1 : DI M_Rf_does 1 (.bipush 100) 2 3 := ⟨by decide +kernel, rfl⟩
theorem d_Rf_does_3 : DI M_Rf_does 3 (.idiv) 1 4 := ⟨by decide +kernel, rfl⟩
theorem d_Rf_does_4 : DI M_Rf_does 4 (.istore_n 2) 1 5 := ⟨by decide +kernel, rfl⟩
theorem d_Rf_does_5 : DI M_Rf_does 5 (.iload_n 1) 1 6 := ⟨by decide +kernel, rfl⟩
theorem d_Rf_does_6 : DI M_Rf_does 6 (.bipush 10) 2 8 := ⟨by decide +kernel, rfl⟩
theorem d_Rf_does_8 : DI M_Rf_does 8 (.idiv) 1 9 := ⟨by decide +kernel, rfl⟩
theorem d_Rf_does_9 : DI M_Rf_does 9 (.bipush 10) 2 11 := ⟨by decide +kernel, rfl⟩
theorem d_Rf_does_11 : DI M_Rf_does 11 (.irem) 1 12 := ⟨by decide +kernel, rfl⟩
theorem d_Rf_does_12 : DI M_Rf_does 12 (.istore_n 3) 1 13 := ⟨by decide +kernel, rfl⟩
theorem d_Rf_does_13 : DI M_Rf_does 13 (.iload_n 1) 1 14 := ⟨by decide +kernel, rfl⟩
theorem d_Rf_does_14 : DI M_Rf_does 14 (.bipush 10) 2 16 := ⟨by decide +kernel, rfl⟩
theorem d_Rf_does_16 : DI M_Rf_does 16 (.irem) 1 17 := ⟨by decide +kernel, rfl⟩
theorem d_Rf_does_17 : DI M_Rf_does 17 (.istore 4) 2 19 := ⟨by decide +kernel, rfl⟩
theorem d_Rf_does_19 : DI M_Rf_does 19 (.iload_n 1) 1 20 := ⟨by decide +kernel, rfl⟩
theorem d_Rf_does_20 : DI M_Rf_does 20 (.sipush 300) 3 23 := ⟨by decide +kernel, rfl⟩
theorem d_Rf_does_23 : DJ M_Rf_does 23 (.if_icmp .ne 12) 12 3 26 35 := ⟨by decide +kernel, rfl, rfl⟩
theorem d_Rf_does_26 : DI M_Rf_does 26 (.aload_n 0) 1 27 := ⟨by decide +kernel, rfl⟩
theorem d_Rf_does_27 : DI M_Rf_does 27 (.getfield 28) 3 30 := ⟨by decide +kernel, rfl⟩
theorem d_Rf_does_30 : DI M_Rf_does 30 (.invokestatic 168) 3 33 := ⟨by decide +kernel, rfl⟩
theorem d_Rf_does_33 : DI M_Rf_does 33 (.iconst 1) 1 34 := ⟨by decide +kernel, rfl⟩
theorem d_Rf_does_34 : DI M_Rf_does 34 (.ireturn) 1 35 := ⟨by decide +kernel, rfl⟩
theorem d_Rf_does_35 : DI M_Rf_does 35 (.iload_n 2) 1 36 := ⟨by decide +kernel, rfl⟩
theorem d_Rf_does_36 : DI M_Rf_does 36 (.iconst 1) 1 37 := ⟨by decide +kernel, rfl⟩
theorem d_Rf_does_37 : DJ M_Rf_does 37 (.if_icmp .ne 38) 38 3 40 75 := ⟨by decide +kernel, rfl, rfl⟩
theorem d_Rf_does_40 : DI M_Rf_does 40 (.aload_n 0) 1 41 := ⟨by decide +kernel, rfl⟩
theorem d_Rf_does_41 : DI M_Rf_does 41 (.iload_n 3) 1 42 := ⟨by decide +kernel, rfl⟩
theorem d_Rf_does_42 : DI M_Rf_does 42 (.invokevirtual 156) 3 45 := ⟨by decide +kernel, rfl⟩
theorem d_Rf_does_45 : DJ M_Rf_does 45 (.ifCond .ne 30) 30 3 48 75 := ⟨by decide +kernel, rfl, rfl⟩
theorem d_Rf_does_48 : DI M_Rf_does 48 (.iload 4) 2 50 := ⟨by decide +kernel, rfl⟩
theorem d_Rf_does_50 : DI M_Rf_does 50 (.iconst 2) 1 51 := ⟨by decide +kernel, rfl⟩
theorem d_Rf_does_51 : DJ M_Rf_does 51 (.if_icmp .ge 24) 24 3 54 75 := ⟨by decide +kernel, rfl, rfl⟩
theorem d_Rf_does_54 : DI M_Rf_does 54 (.aload_n 0) 1 55 := ⟨by decide +kernel, rfl⟩
theorem d_Rf_does_55 : DI M_Rf_does 55 (.getfield 28) 3 58 := ⟨by decide +kernel, rfl⟩
theorem d_Rf_does_58 : DI M_Rf_does 58 (.iload_n 3) 1 59 := ⟨by decide +kernel, rfl⟩
theorem d_Rf_does_59 : DI M_Rf_does 59 (.iload 4) 2 61 := ⟨by decide +kernel, rfl⟩
theorem d_Rf_does_61 : DI M_Rf_does 61 (.iconst 1) 1 62 := ⟨by decide +kernel, rfl⟩
theorem d_Rf_does_62 : DJ M_Rf_does 62 (.if_icmp .ne 7) 7 3 65 69 := ⟨by decide +kernel, rfl, rfl⟩
theorem d_Rf_does_65 : DI M_Rf_does 65 (.iconst 1) 1 66 := ⟨by decide +kernel, rfl⟩
theorem d_Rf_does_66 : DJ M_Rf_does 66 (.goto 4) 4 3 69 70 := ⟨by decide +kernel, rfl, rfl⟩
theorem d_Rf_does_69 : DI M_Rf_does 69 (.iconst 0) 1 70 := ⟨by decide +kernel, rfl⟩
theorem d_Rf_does_70 : DI M_Rf_does 70 (.invokestatic 164) 3 73 := ⟨by decide +kernel, rfl⟩
theorem d_Rf_does_73 : DI M_Rf_does 73 (.iconst 1) 1 74 := ⟨by decide +kernel, rfl⟩
theorem d_Rf_does_74 : DI M_Rf_does 74 (.ireturn) 1 75 := ⟨by decide +kernel, rfl⟩
theorem d_Rf_does_75 : DI M_Rf_does 75 (.iload_n 2) 1 76 := ⟨by decide +kernel, rfl⟩
theorem d_Rf_does_76 : DI M_Rf_does 76 (.iconst 2) 1 77 := ⟨by decide +kernel, rfl⟩
theorem d_Rf_does_77 : DJ M_Rf_does 77 (.if_icmp .ne 47) 47 3 80 124 := ⟨by decide +kernel, rfl, rfl⟩
theorem d_Rf_does_80 : DI M_Rf_does 80 (.aload_n 0) 1 81 := ⟨by decide +kernel, rfl⟩
theorem d_Rf_does_81 : DI M_Rf_does 81 (.iload_n 3) 1 82 := ⟨by decide +kernel, rfl⟩
theorem d_Rf_does_82 : DI M_Rf_does 82 (.invokevirtual 156) 3 85 := ⟨by decide +kernel, rfl⟩
theorem d_Rf_does_85 : DJ M_Rf_does 85 (.ifCond .ne 39) 39 3 88 124 := ⟨by decide +kernel, rfl, rfl⟩
theorem d_Rf_does_88 : DI M_Rf_does 88 (.aload_n 0) 1 89 := ⟨by decide +kernel, rfl⟩
theorem d_Rf_does_89 : DI M_Rf_does 89 (.iload 4) 2 91 := ⟨by decide +kernel, rfl⟩
theorem d_Rf_does_91 : DI M_Rf_does 91 (.invokevirtual 149) 3 94 := ⟨by decide +kernel, rfl⟩
theorem d_Rf_does_94 : DJ M_Rf_does 94 (.ifCond .ne 30) 30 3 97 124 := ⟨by decide +kernel, rfl, rfl⟩
theorem d_Rf_does_97 : DI M_Rf_does 97 (.aload_n 0) 1 98 := ⟨by decide +kernel, rfl⟩
theorem d_Rf_does_98 : DI M_Rf_does 98 (.getfield 28) 3 101 := ⟨by decide +kernel, rfl⟩
theorem d_Rf_does_101 : DI M_Rf_does 101 (.bipush 6) 2 103 := ⟨by decide +kernel, rfl⟩
theorem d_Rf_does_103 : DI M_Rf_does 103 (.iload_n 3) 1 104 := ⟨by decide +kernel, rfl⟩
theorem d_Rf_does_104 : DI M_Rf_does 104 (.iadd) 1 105 := ⟨by decide +kernel, rfl⟩
theorem d_Rf_does_105 : DI M_Rf_does 105 (.iaload) 1 106 := ⟨by decide +kernel, rfl⟩
theorem d_Rf_does_106 : DI M_Rf_does 106 (.iload 4) 2 108 := ⟨by decide +kernel, rfl⟩
theorem d_Rf_does_108 : DJ M_Rf_does 108 (.if_icmp .eq 16) 16 3 111 124 := ⟨by decide +kernel, rfl, rfl⟩
theorem d_Rf_does_111 : DI M_Rf_does 111 (.aload_n 0) 1 112 := ⟨by decide +kernel, rfl⟩
theorem d_Rf_does_112 : DI M_Rf_does 112 (.getfield 28) 3 115 := ⟨by decide +kernel, rfl⟩
theorem d_Rf_does_115 : DI M_Rf_does 115 (.bipush 6) 2 117 := ⟨by decide +kernel, rfl⟩
theorem d_Rf_does_117 : DI M_Rf_does 117 (.iload_n 3) 1 118 := ⟨by decide +kernel, rfl⟩
theorem d_Rf_does_118 : DI M_Rf_does 118 (.iadd) 1 119 := ⟨by decide +kernel, rfl⟩
theorem d_Rf_does_119 : DI M_Rf_does 119 (.iload 4) 2 121 := ⟨by decide +kernel, rfl⟩
theorem d_Rf_does_121 : DI M_Rf_does 121 (.iastore) 1 122 := ⟨by decide +kernel, rfl⟩
theorem d_Rf_does_122 : DI M_Rf_does 122 (.iconst 1) 1 123 := ⟨by decide +kernel, rfl⟩
theorem d_Rf_does_123 : DI M_Rf_does 123 (.ireturn) 1 124 := ⟨by decide +kernel, rfl⟩
theorem d_Rf_does_124 : DI M_Rf_does 124 (.iload_n 2) 1 125 := ⟨by decide +kernel, rfl⟩
theorem d_Rf_does_125 : DI M_Rf_does 125 (.iconst 4) 1 126 := ⟨by decide +kernel, rfl⟩
theorem d_Rf_does_126 : DJ M_Rf_does 126 (.if_icmp .ne 40) 40 3 129 166 := ⟨by decide +kernel, rfl, rfl⟩
theorem d_Rf_does_129 : DI M_Rf_does 129 (.aload_n 0) 1 130 := ⟨by decide +kernel, rfl⟩
theorem d_Rf_does_130 : DI M_Rf_does 130 (.iload_n 3) 1 131 := ⟨by decide +kernel, rfl⟩
theorem d_Rf_does_131 : DI M_Rf_does 131 (.invokevirtual 149) 3 134 := ⟨by decide +kernel, rfl⟩
theorem d_Rf_does_134 : DJ M_Rf_does 134 (.ifCond .ne 32) 32 3 137 166 := ⟨by decide +kernel, rfl, rfl⟩
theorem d_Rf_does_137 : DI M_Rf_does 137 (.iload 4) 2 139 := ⟨by decide +kernel, rfl⟩
theorem d_Rf_does_139 : DI M_Rf_does 139 (.iconst 5) 1 140 := ⟨by decide +kernel, rfl⟩
theorem d_Rf_does_140 : DJ M_Rf_does 140 (.if_icmp .ge 26) 26 3 143 166 := ⟨by decide +kernel, rfl, rfl⟩
theorem d_Rf_does_143 : DI M_Rf_does 143 (.aload_n 0) 1 144 := ⟨by decide +kernel, rfl⟩
theorem d_Rf_does_144 : DI M_Rf_does 144 (.aload_n 0) 1 145 := ⟨by decide +kernel, rfl⟩
theorem d_Rf_does_145 : DI M_Rf_does 145 (.getfield 28) 3 148 := ⟨by decide +kernel, rfl⟩
theorem d_Rf_does_148 : DI M_Rf_does 148 (.iload_n 3) 1 149 := ⟨by decide +kernel, rfl⟩
theorem d_Rf_does_149 : DI M_Rf_does 149 (.bipush 63) 2 151 := ⟨by decide +kernel, rfl⟩
theorem d_Rf_does_151 : DI M_Rf_does 151 (.invokevirtual 135) 3 154 := ⟨by decide +kernel, rfl⟩
theorem d_Rf_does_154 : DI M_Rf_does 154 (.iload 4) 2 156 := ⟨by decide +kernel, rfl⟩
theorem d_Rf_does_156 : DI M_Rf_does 156 (.invokestatic 127) 3 159 := ⟨by decide +kernel, rfl⟩
theorem d_Rf_does_159 : DJ M_Rf_does 159 (.ifCond .eq 7) 7 3 162 166 := ⟨by decide +kernel, rfl, rfl⟩
theorem d_Rf_does_162 : DI M_Rf_does 162 (.iconst 1) 1 163 := ⟨by decide +kernel, rfl⟩
theorem d_Rf_does_163 : DJ M_Rf_does 163 (.goto 4) 4 3 166 167 := ⟨by decide +kernel, rfl, rfl⟩
theorem d_Rf_does_166 : DI M_Rf_does 166 (.iconst 0) 1 167 := ⟨by decide +kernel, rfl⟩
theorem d_Rf_does_167 : DI M_Rf_does 167 (.ireturn) 1 168 := ⟨by decide +kernel, rfl⟩
theorem d_Rf_judge_0 : DI M_Rf_judge 0 (.aload_n 0) 1 1 := ⟨by decide +kernel, rfl⟩
theorem d_Rf_judge_1 : DI M_Rf_judge 1 (.iconst 0) 1 2 := ⟨by decide +kernel, rfl⟩
theorem d_Rf_judge_2 : DI M_Rf_judge 2 (.putfield 59) 3 5 := ⟨by decide +kernel, rfl⟩
theorem d_Rf_judge_5 : DI M_Rf_judge 5 (.iload_n 1) 1 6 := ⟨by decide +kernel, rfl⟩
theorem d_Rf_judge_6 : DI M_Rf_judge 6 (.i2l) 1 7 := ⟨by decide +kernel, rfl⟩
theorem d_Rf_judge_7 : DI M_Rf_judge 7 (.lconst 1) 1 8 := ⟨by decide +kernel, rfl⟩
theorem d_Rf_judge_8 : DI M_Rf_judge 8 (.ldc2_w 175) 3 11 := ⟨by decide +kernel, rfl⟩
theorem d_Rf_judge_11 : DI M_Rf_judge 11 (.invokestatic 66) 3 14 := ⟨by decide +kernel, rfl⟩
theorem d_Rf_judge_14 : DJ M_Rf_judge 14 (.ifCond .eq 20) 20 3 17 34 := ⟨by decide +kernel, rfl, rfl⟩
theorem d_Rf_judge_17 : DI M_Rf_judge 17 (.lload_n 2) 1 18 := ⟨by decide +kernel, rfl⟩
theorem d_Rf_judge_18 : DI M_Rf_judge 18 (.lconst 0) 1 19 := ⟨by decide +kernel, rfl⟩
theorem d_Rf_judge_19 : DI M_Rf_judge 19 (.ldc2_w 198) 3 22 := ⟨by decide +kernel, rfl⟩
theorem d_Rf_judge_22 : DI M_Rf_judge 22 (.iload_n 1) 1 23 := ⟨by decide +kernel, rfl⟩
theorem d_Rf_judge_23 : DI M_Rf_judge 23 (.invokestatic 200) 3 26 := ⟨by decide +kernel, rfl⟩
theorem d_Rf_judge_26 : DI M_Rf_judge 26 (.lconst 1) 1 27 := ⟨by decide +kernel, rfl⟩
theorem d_Rf_judge_27 : DI M_Rf_judge 27 (.lsub) 1 28 := ⟨by decide +kernel, rfl⟩
theorem d_Rf_judge_28 : DI M_Rf_judge 28 (.invokestatic 66) 3 31 := ⟨by decide +kernel, rfl⟩
theorem d_Rf_judge_31 : DJ M_Rf_judge 31 (.ifCond .ne 6) 6 3 34 37 := ⟨by decide +kernel, rfl, rfl⟩
theorem d_Rf_judge_34 : DI M_Rf_judge 34 (.bipush (-2)) 2 36 := ⟨by decide +kernel, rfl⟩
theorem d_Rf_judge_36 : DI M_Rf_judge 36 (.ireturn) 1 37 := ⟨by decide +kernel, rfl⟩
theorem d_Rf_judge_37 : DI M_Rf_judge 37 (.aload_n 0) 1 38 := ⟨by decide +kernel, rfl⟩
theorem d_Rf_judge_38 : DI M_Rf_judge 38 (.invokevirtual 183) 3 41 := ⟨by decide +kernel, rfl⟩
theorem d_Rf_judge_41 : DI M_Rf_judge 41 (.iconst 0) 1 42 := ⟨by decide +kernel, rfl⟩
theorem d_Rf_judge_42 : DI M_Rf_judge 42 (.istore 4) 2 44 := ⟨by decide +kernel, rfl⟩
theorem d_Rf_judge_44 : DI M_Rf_judge 44 (.iload 4) 2 46 := ⟨by decide +kernel, rfl⟩
theorem d_Rf_judge_46 : DI M_Rf_judge 46 (.iload_n 1) 1 47 := ⟨by decide +kernel, rfl⟩
theorem d_Rf_judge_47 : DJ M_Rf_judge 47 (.if_icmp .ge 38) 38 3 50 85 := ⟨by decide +kernel, rfl, rfl⟩
theorem d_Rf_judge_50 : DI M_Rf_judge 50 (.aload_n 0) 1 51 := ⟨by decide +kernel, rfl⟩
theorem d_Rf_judge_51 : DI M_Rf_judge 51 (.lload_n 2) 1 52 := ⟨by decide +kernel, rfl⟩
theorem d_Rf_judge_52 : DI M_Rf_judge 52 (.ldc2_w 198) 3 55 := ⟨by decide +kernel, rfl⟩
theorem d_Rf_judge_55 : DI M_Rf_judge 55 (.iload_n 1) 1 56 := ⟨by decide +kernel, rfl⟩
theorem d_Rf_judge_56 : DI M_Rf_judge 56 (.iconst 1) 1 57 := ⟨by decide +kernel, rfl⟩
theorem d_Rf_judge_57 : DI M_Rf_judge 57 (.isub) 1 58 := ⟨by decide +kernel, rfl⟩
theorem d_Rf_judge_58 : DI M_Rf_judge 58 (.iload 4) 2 60 := ⟨by decide +kernel, rfl⟩
theorem d_Rf_judge_60 : DI M_Rf_judge 60 (.isub) 1 61 := ⟨by decide +kernel, rfl⟩
theorem d_Rf_judge_61 : DI M_Rf_judge 61 (.invokestatic 200) 3 64 := ⟨by decide +kernel, rfl⟩
theorem d_Rf_judge_64 : DI M_Rf_judge 64 (.ldiv) 1 65 := ⟨by decide +kernel, rfl⟩
theorem d_Rf_judge_65 : DI M_Rf_judge 65 (.ldc2_w 198) 3 68 := ⟨by decide +kernel, rfl⟩
theorem d_Rf_judge_68 : DI M_Rf_judge 68 (.lrem) 1 69 := ⟨by decide +kernel, rfl⟩
theorem d_Rf_judge_69 : DI M_Rf_judge 69 (.l2i) 1 70 := ⟨by decide +kernel, rfl⟩
theorem d_Rf_judge_70 : DI M_Rf_judge 70 (.invokevirtual 204) 3 73 := ⟨by decide +kernel, rfl⟩
theorem d_Rf_judge_73 : DJ M_Rf_judge 73 (.ifCond .ne 6) 6 3 76 79 := ⟨by decide +kernel, rfl, rfl⟩
theorem d_Rf_judge_76 : DI M_Rf_judge 76 (.iload 4) 2 78 := ⟨by decide +kernel, rfl⟩
theorem d_Rf_judge_78 : DI M_Rf_judge 78 (.ireturn) 1 79 := ⟨by decide +kernel, rfl⟩
theorem d_Rf_judge_79 : DI M_Rf_judge 79 (.iinc 4 1) 3 82 := ⟨by decide +kernel, rfl⟩
theorem d_Rf_judge_82 : DJ M_Rf_judge 82 (.goto (-38)) (-38) 3 85 44 := ⟨by decide +kernel, rfl, rfl⟩
theorem d_Rf_judge_85 : DI M_Rf_judge 85 (.bipush (-9)) 2 87 := ⟨by decide +kernel, rfl⟩
theorem d_Rf_judge_87 : DI M_Rf_judge 87 (.ireturn) 1 88 := ⟨by decide +kernel, rfl⟩
theorem d_Rf_ways_0 : DI M_Rf_ways 0 (.iconst 1) 1 1 := ⟨by decide +kernel, rfl⟩
theorem d_Rf_ways_1 : DI M_Rf_ways 1 (.istore_n 1) 1 2 := ⟨by decide +kernel, rfl⟩
theorem d_Rf_ways_2 : DI M_Rf_ways 2 (.iconst 2) 1 3 := ⟨by decide +kernel, rfl⟩
theorem d_Rf_ways_3 : DI M_Rf_ways 3 (.istore_n 2) 1 4 := ⟨by decide +kernel, rfl⟩
theorem d_Rf_ways_4 : DI M_Rf_ways 4 (.iload_n 2) 1 5 := ⟨by decide +kernel, rfl⟩
theorem d_Rf_ways_5 : DI M_Rf_ways 5 (.iload_n 0) 1 6 := ⟨by decide +kernel, rfl⟩
theorem d_Rf_ways_6 : DJ M_Rf_ways 6 (.if_icmp .gt 13) 13 3 9 19 := ⟨by decide +kernel, rfl, rfl⟩
theorem d_Rf_ways_9 : DI M_Rf_ways 9 (.iload_n 1) 1 10 := ⟨by decide +kernel, rfl⟩
theorem d_Rf_ways_10 : DI M_Rf_ways 10 (.iload_n 2) 1 11 := ⟨by decide +kernel, rfl⟩
theorem d_Rf_ways_11 : DI M_Rf_ways 11 (.imul) 1 12 := ⟨by decide +kernel, rfl⟩
theorem d_Rf_ways_12 : DI M_Rf_ways 12 (.istore_n 1) 1 13 := ⟨by decide +kernel, rfl⟩
theorem d_Rf_ways_13 : DI M_Rf_ways 13 (.iinc 2 1) 3 16 := ⟨by decide +kernel, rfl⟩
theorem d_Rf_ways_16 : DJ M_Rf_ways 16 (.goto (-12)) (-12) 3 19 4 := ⟨by decide +kernel, rfl, rfl⟩
theorem d_Rf_ways_19 : DI M_Rf_ways 19 (.iload_n 1) 1 20 := ⟨by decide +kernel, rfl⟩
theorem d_Rf_ways_20 : DI M_Rf_ways 20 (.ireturn) 1 21 := ⟨by decide +kernel, rfl⟩
theorem d_Rf_divisor_0 : DI M_Rf_divisor 0 (.iload_n 0) 1 1 := ⟨by decide +kernel, rfl⟩
theorem d_Rf_divisor_1 : DJ M_Rf_divisor 1 (.ifCond .ge 8) 8 3 4 9 := ⟨by decide +kernel, rfl, rfl⟩
theorem d_Rf_divisor_4 : DI M_Rf_divisor 4 (.iload_n 0) 1 5 := ⟨by decide +kernel, rfl⟩
theorem d_Rf_divisor_5 : DI M_Rf_divisor 5 (.ineg) 1 6 := ⟨by decide +kernel, rfl⟩
theorem d_Rf_divisor_6 : DJ M_Rf_divisor 6 (.goto 4) 4 3 9 10 := ⟨by decide +kernel, rfl, rfl⟩
theorem d_Rf_divisor_9 : DI M_Rf_divisor 9 (.iload_n 0) 1 10 := ⟨by decide +kernel, rfl⟩
theorem d_Rf_divisor_10 : DI M_Rf_divisor 10 (.istore_n 2) 1 11 := ⟨by decide +kernel, rfl⟩
theorem d_Rf_divisor_11 : DI M_Rf_divisor 11 (.iload_n 1) 1 12 := ⟨by decide +kernel, rfl⟩
theorem d_Rf_divisor_12 : DI M_Rf_divisor 12 (.istore_n 3) 1 13 := ⟨by decide +kernel, rfl⟩
theorem d_Rf_divisor_13 : DI M_Rf_divisor 13 (.iload_n 3) 1 14 := ⟨by decide +kernel, rfl⟩
theorem d_Rf_divisor_14 : DJ M_Rf_divisor 14 (.ifCond .eq 16) 16 3 17 30 := ⟨by decide +kernel, rfl, rfl⟩
theorem d_Rf_divisor_17 : DI M_Rf_divisor 17 (.iload_n 2) 1 18 := ⟨by decide +kernel, rfl⟩
theorem d_Rf_divisor_18 : DI M_Rf_divisor 18 (.iload_n 3) 1 19 := ⟨by decide +kernel, rfl⟩
theorem d_Rf_divisor_19 : DI M_Rf_divisor 19 (.irem) 1 20 := ⟨by decide +kernel, rfl⟩
theorem d_Rf_divisor_20 : DI M_Rf_divisor 20 (.istore 4) 2 22 := ⟨by decide +kernel, rfl⟩
theorem d_Rf_divisor_22 : DI M_Rf_divisor 22 (.iload_n 3) 1 23 := ⟨by decide +kernel, rfl⟩
theorem d_Rf_divisor_23 : DI M_Rf_divisor 23 (.istore_n 2) 1 24 := ⟨by decide +kernel, rfl⟩
theorem d_Rf_divisor_24 : DI M_Rf_divisor 24 (.iload 4) 2 26 := ⟨by decide +kernel, rfl⟩
theorem d_Rf_divisor_26 : DI M_Rf_divisor 26 (.istore_n 3) 1 27 := ⟨by decide +kernel, rfl⟩
theorem d_Rf_divisor_27 : DJ M_Rf_divisor 27 (.goto (-14)) (-14) 3 30 13 := ⟨by decide +kernel, rfl, rfl⟩
theorem d_Rf_divisor_30 : DI M_Rf_divisor 30 (.iload_n 2) 1 31 := ⟨by decide +kernel, rfl⟩
theorem d_Rf_divisor_31 : DI M_Rf_divisor 31 (.ireturn) 1 32 := ⟨by decide +kernel, rfl⟩
theorem d_Rf_fraction_0 : DI M_Rf_fraction 0 (.iload_n 0) 1 1 := ⟨by decide +kernel, rfl⟩
theorem d_Rf_fraction_1 : DI M_Rf_fraction 1 (.iload_n 1) 1 2 := ⟨by decide +kernel, rfl⟩
theorem d_Rf_fraction_2 : DI M_Rf_fraction 2 (.invokestatic 207) 3 5 := ⟨by decide +kernel, rfl⟩
theorem d_Rf_fraction_5 : DI M_Rf_fraction 5 (.istore_n 3) 1 6 := ⟨by decide +kernel, rfl⟩
theorem d_Rf_fraction_6 : DI M_Rf_fraction 6 (.iload_n 2) 1 7 := ⟨by decide +kernel, rfl⟩
theorem d_Rf_fraction_7 : DJ M_Rf_fraction 7 (.ifCond .eq 9) 9 3 10 16 := ⟨by decide +kernel, rfl, rfl⟩
theorem d_Rf_fraction_10 : DI M_Rf_fraction 10 (.iload_n 0) 1 11 := ⟨by decide +kernel, rfl⟩
theorem d_Rf_fraction_11 : DI M_Rf_fraction 11 (.iload_n 3) 1 12 := ⟨by decide +kernel, rfl⟩
theorem d_Rf_fraction_12 : DI M_Rf_fraction 12 (.idiv) 1 13 := ⟨by decide +kernel, rfl⟩
theorem d_Rf_fraction_13 : DJ M_Rf_fraction 13 (.goto 6) 6 3 16 19 := ⟨by decide +kernel, rfl, rfl⟩
theorem d_Rf_fraction_16 : DI M_Rf_fraction 16 (.iload_n 1) 1 17 := ⟨by decide +kernel, rfl⟩
theorem d_Rf_fraction_17 : DI M_Rf_fraction 17 (.iload_n 3) 1 18 := ⟨by decide +kernel, rfl⟩
theorem d_Rf_fraction_18 : DI M_Rf_fraction 18 (.idiv) 1 19 := ⟨by decide +kernel, rfl⟩
theorem d_Rf_fraction_19 : DI M_Rf_fraction 19 (.ireturn) 1 20 := ⟨by decide +kernel, rfl⟩
theorem d_Rf_share_0 : DI M_Rf_share 0 (.aload_n 0) 1 1 := ⟨by decide +kernel, rfl⟩
theorem d_Rf_share_1 : DI M_Rf_share 1 (.iconst 0) 1 2 := ⟨by decide +kernel, rfl⟩
theorem d_Rf_share_2 : DI M_Rf_share 2 (.putfield 59) 3 5 := ⟨by decide +kernel, rfl⟩
theorem d_Rf_share_5 : DI M_Rf_share 5 (.aload_n 0) 1 6 := ⟨by decide +kernel, rfl⟩
theorem d_Rf_share_6 : DI M_Rf_share 6 (.iload_n 1) 1 7 := ⟨by decide +kernel, rfl⟩
theorem d_Rf_share_7 : DI M_Rf_share 7 (.invokevirtual 156) 3 10 := ⟨by decide +kernel, rfl⟩
theorem d_Rf_share_10 : DJ M_Rf_share 10 (.ifCond .eq 5) 5 3 13 15 := ⟨by decide +kernel, rfl, rfl⟩
theorem d_Rf_share_13 : DI M_Rf_share 13 (.iconst (-1)) 1 14 := ⟨by decide +kernel, rfl⟩
theorem d_Rf_share_14 : DI M_Rf_share 14 (.ireturn) 1 15 := ⟨by decide +kernel, rfl⟩
theorem d_Rf_share_15 : DI M_Rf_share 15 (.iconst 0) 1 16 := ⟨by decide +kernel, rfl⟩
theorem d_Rf_share_16 : DI M_Rf_share 16 (.istore_n 3) 1 17 := ⟨by decide +kernel, rfl⟩
theorem d_Rf_share_17 : DI M_Rf_share 17 (.iload_n 3) 1 18 := ⟨by decide +kernel, rfl⟩
theorem d_Rf_share_18 : DI M_Rf_share 18 (.iconst 1) 1 19 := ⟨by decide +kernel, rfl⟩
theorem d_Rf_share_19 : DI M_Rf_share 19 (.aload_n 0) 1 20 := ⟨by decide +kernel, rfl⟩
theorem d_Rf_share_20 : DI M_Rf_share 20 (.getfield 70) 3 23 := ⟨by decide +kernel, rfl⟩
theorem d_Rf_share_23 : DI M_Rf_share 23 (.ishl) 1 24 := ⟨by decide +kernel, rfl⟩
theorem d_Rf_share_24 : DJ M_Rf_share 24 (.if_icmp .ge 27) 27 3 27 51 := ⟨by decide +kernel, rfl, rfl⟩
theorem d_Rf_share_27 : DI M_Rf_share 27 (.aload_n 0) 1 28 := ⟨by decide +kernel, rfl⟩
theorem d_Rf_share_28 : DI M_Rf_share 28 (.getfield 53) 3 31 := ⟨by decide +kernel, rfl⟩
theorem d_Rf_share_31 : DI M_Rf_share 31 (.iload_n 3) 1 32 := ⟨by decide +kernel, rfl⟩
theorem d_Rf_share_32 : DI M_Rf_share 32 (.aload_n 0) 1 33 := ⟨by decide +kernel, rfl⟩
theorem d_Rf_share_33 : DI M_Rf_share 33 (.aload_n 0) 1 34 := ⟨by decide +kernel, rfl⟩
theorem d_Rf_share_34 : DI M_Rf_share 34 (.getfield 25) 3 37 := ⟨by decide +kernel, rfl⟩
theorem d_Rf_share_37 : DI M_Rf_share 37 (.iload_n 3) 1 38 := ⟨by decide +kernel, rfl⟩
theorem d_Rf_share_38 : DI M_Rf_share 38 (.invokevirtual 143) 3 41 := ⟨by decide +kernel, rfl⟩
theorem d_Rf_share_41 : DI M_Rf_share 41 (.invokestatic 195) 3 44 := ⟨by decide +kernel, rfl⟩
theorem d_Rf_share_44 : DI M_Rf_share 44 (.iastore) 1 45 := ⟨by decide +kernel, rfl⟩
theorem d_Rf_share_45 : DI M_Rf_share 45 (.iinc 3 1) 3 48 := ⟨by decide +kernel, rfl⟩
theorem d_Rf_share_48 : DJ M_Rf_share 48 (.goto (-31)) (-31) 3 51 17 := ⟨by decide +kernel, rfl, rfl⟩
theorem d_Rf_share_51 : DI M_Rf_share 51 (.iconst 0) 1 52 := ⟨by decide +kernel, rfl⟩
theorem d_Rf_share_52 : DI M_Rf_share 52 (.istore_n 3) 1 53 := ⟨by decide +kernel, rfl⟩
theorem d_Rf_share_53 : DI M_Rf_share 53 (.iconst 0) 1 54 := ⟨by decide +kernel, rfl⟩
theorem d_Rf_share_54 : DI M_Rf_share 54 (.istore 4) 2 56 := ⟨by decide +kernel, rfl⟩
theorem d_Rf_share_56 : DI M_Rf_share 56 (.iload 4) 2 58 := ⟨by decide +kernel, rfl⟩
theorem d_Rf_share_58 : DI M_Rf_share 58 (.iconst 1) 1 59 := ⟨by decide +kernel, rfl⟩
theorem d_Rf_share_59 : DI M_Rf_share 59 (.aload_n 0) 1 60 := ⟨by decide +kernel, rfl⟩
theorem d_Rf_share_60 : DI M_Rf_share 60 (.getfield 70) 3 63 := ⟨by decide +kernel, rfl⟩
theorem d_Rf_share_63 : DI M_Rf_share 63 (.ishl) 1 64 := ⟨by decide +kernel, rfl⟩
theorem d_Rf_share_64 : DJ M_Rf_share 64 (.if_icmp .ge 66) 66 3 67 130 := ⟨by decide +kernel, rfl, rfl⟩
theorem d_Rf_share_67 : DI M_Rf_share 67 (.iload 4) 2 69 := ⟨by decide +kernel, rfl⟩
theorem d_Rf_share_69 : DI M_Rf_share 69 (.iload_n 1) 1 70 := ⟨by decide +kernel, rfl⟩
theorem d_Rf_share_70 : DI M_Rf_share 70 (.invokestatic 127) 3 73 := ⟨by decide +kernel, rfl⟩
theorem d_Rf_share_73 : DJ M_Rf_share 73 (.ifCond .ne 51) 51 3 76 124 := ⟨by decide +kernel, rfl, rfl⟩
theorem d_Rf_share_76 : DI M_Rf_share 76 (.iload 4) 2 78 := ⟨by decide +kernel, rfl⟩
theorem d_Rf_share_78 : DI M_Rf_share 78 (.invokestatic 195) 3 81 := ⟨by decide +kernel, rfl⟩
theorem d_Rf_share_81 : DI M_Rf_share 81 (.istore 5) 2 83 := ⟨by decide +kernel, rfl⟩
theorem d_Rf_share_83 : DI M_Rf_share 83 (.iload_n 3) 1 84 := ⟨by decide +kernel, rfl⟩
theorem d_Rf_share_84 : DI M_Rf_share 84 (.iload 5) 2 86 := ⟨by decide +kernel, rfl⟩
theorem d_Rf_share_86 : DI M_Rf_share 86 (.invokestatic 210) 3 89 := ⟨by decide +kernel, rfl⟩
theorem d_Rf_share_89 : DI M_Rf_share 89 (.aload_n 0) 1 90 := ⟨by decide +kernel, rfl⟩
theorem d_Rf_share_90 : DI M_Rf_share 90 (.getfield 70) 3 93 := ⟨by decide +kernel, rfl⟩
theorem d_Rf_share_93 : DI M_Rf_share 93 (.iconst 1) 1 94 := ⟨by decide +kernel, rfl⟩
theorem d_Rf_share_94 : DI M_Rf_share 94 (.isub) 1 95 := ⟨by decide +kernel, rfl⟩
theorem d_Rf_share_95 : DI M_Rf_share 95 (.iload 5) 2 97 := ⟨by decide +kernel, rfl⟩
theorem d_Rf_share_97 : DI M_Rf_share 97 (.isub) 1 98 := ⟨by decide +kernel, rfl⟩
theorem d_Rf_share_98 : DI M_Rf_share 98 (.invokestatic 210) 3 101 := ⟨by decide +kernel, rfl⟩
theorem d_Rf_share_101 : DI M_Rf_share 101 (.imul) 1 102 := ⟨by decide +kernel, rfl⟩
theorem d_Rf_share_102 : DI M_Rf_share 102 (.aload_n 0) 1 103 := ⟨by decide +kernel, rfl⟩
theorem d_Rf_share_103 : DI M_Rf_share 103 (.getfield 53) 3 106 := ⟨by decide +kernel, rfl⟩
theorem d_Rf_share_106 : DI M_Rf_share 106 (.iload 4) 2 108 := ⟨by decide +kernel, rfl⟩
theorem d_Rf_share_108 : DI M_Rf_share 108 (.iconst 1) 1 109 := ⟨by decide +kernel, rfl⟩
theorem d_Rf_share_109 : DI M_Rf_share 109 (.iload_n 1) 1 110 := ⟨by decide +kernel, rfl⟩
theorem d_Rf_share_110 : DI M_Rf_share 110 (.ishl) 1 111 := ⟨by decide +kernel, rfl⟩
theorem d_Rf_share_111 : DI M_Rf_share 111 (.ior) 1 112 := ⟨by decide +kernel, rfl⟩
theorem d_Rf_share_112 : DI M_Rf_share 112 (.iaload) 1 113 := ⟨by decide +kernel, rfl⟩
theorem d_Rf_share_113 : DI M_Rf_share 113 (.aload_n 0) 1 114 := ⟨by decide +kernel, rfl⟩
theorem d_Rf_share_114 : DI M_Rf_share 114 (.getfield 53) 3 117 := ⟨by decide +kernel, rfl⟩
theorem d_Rf_share_117 : DI M_Rf_share 117 (.iload 4) 2 119 := ⟨by decide +kernel, rfl⟩
theorem d_Rf_share_119 : DI M_Rf_share 119 (.iaload) 1 120 := ⟨by decide +kernel, rfl⟩
theorem d_Rf_share_120 : DI M_Rf_share 120 (.isub) 1 121 := ⟨by decide +kernel, rfl⟩
theorem d_Rf_share_121 : DI M_Rf_share 121 (.imul) 1 122 := ⟨by decide +kernel, rfl⟩
theorem d_Rf_share_122 : DI M_Rf_share 122 (.iadd) 1 123 := ⟨by decide +kernel, rfl⟩
theorem d_Rf_share_123 : DI M_Rf_share 123 (.istore_n 3) 1 124 := ⟨by decide +kernel, rfl⟩
theorem d_Rf_share_124 : DI M_Rf_share 124 (.iinc 4 1) 3 127 := ⟨by decide +kernel, rfl⟩
theorem d_Rf_share_127 : DJ M_Rf_share 127 (.goto (-71)) (-71) 3 130 56 := ⟨by decide +kernel, rfl, rfl⟩
theorem d_Rf_share_130 : DI M_Rf_share 130 (.iload_n 3) 1 131 := ⟨by decide +kernel, rfl⟩
theorem d_Rf_share_131 : DI M_Rf_share 131 (.aload_n 0) 1 132 := ⟨by decide +kernel, rfl⟩
theorem d_Rf_share_132 : DI M_Rf_share 132 (.getfield 70) 3 135 := ⟨by decide +kernel, rfl⟩
theorem d_Rf_share_135 : DI M_Rf_share 135 (.invokestatic 210) 3 138 := ⟨by decide +kernel, rfl⟩
theorem d_Rf_share_138 : DI M_Rf_share 138 (.iload_n 2) 1 139 := ⟨by decide +kernel, rfl⟩
theorem d_Rf_share_139 : DI M_Rf_share 139 (.invokestatic 213) 3 142 := ⟨by decide +kernel, rfl⟩
theorem d_Rf_share_142 : DI M_Rf_share 142 (.ireturn) 1 143 := ⟨by decide +kernel, rfl⟩
theorem d_Rf_turn_0 : DI M_Rf_turn 0 (.aload_n 0) 1 1 := ⟨by decide +kernel, rfl⟩
theorem d_Rf_turn_1 : DI M_Rf_turn 1 (.iconst 0) 1 2 := ⟨by decide +kernel, rfl⟩
theorem d_Rf_turn_2 : DI M_Rf_turn 2 (.putfield 59) 3 5 := ⟨by decide +kernel, rfl⟩
theorem d_Rf_turn_5 : DI M_Rf_turn 5 (.iload_n 1) 1 6 := ⟨by decide +kernel, rfl⟩
theorem d_Rf_turn_6 : DI M_Rf_turn 6 (.i2l) 1 7 := ⟨by decide +kernel, rfl⟩
theorem d_Rf_turn_7 : DI M_Rf_turn 7 (.lconst 0) 1 8 := ⟨by decide +kernel, rfl⟩
theorem d_Rf_turn_8 : DI M_Rf_turn 8 (.ldc2_w 159) 3 11 := ⟨by decide +kernel, rfl⟩
theorem d_Rf_turn_11 : DI M_Rf_turn 11 (.invokestatic 66) 3 14 := ⟨by decide +kernel, rfl⟩
theorem d_Rf_turn_14 : DJ M_Rf_turn 14 (.ifCond .eq 15) 15 3 17 29 := ⟨by decide +kernel, rfl, rfl⟩
theorem d_Rf_turn_17 : DI M_Rf_turn 17 (.iload_n 2) 1 18 := ⟨by decide +kernel, rfl⟩
theorem d_Rf_turn_18 : DI M_Rf_turn 18 (.i2l) 1 19 := ⟨by decide +kernel, rfl⟩
theorem d_Rf_turn_19 : DI M_Rf_turn 19 (.lconst 0) 1 20 := ⟨by decide +kernel, rfl⟩
theorem d_Rf_turn_20 : DI M_Rf_turn 20 (.ldc2_w 217) 3 23 := ⟨by decide +kernel, rfl⟩
theorem d_Rf_turn_23 : DI M_Rf_turn 23 (.invokestatic 66) 3 26 := ⟨by decide +kernel, rfl⟩
theorem d_Rf_turn_26 : DJ M_Rf_turn 26 (.ifCond .ne 6) 6 3 29 32 := ⟨by decide +kernel, rfl, rfl⟩
theorem d_Rf_turn_29 : DI M_Rf_turn 29 (.bipush (-2)) 2 31 := ⟨by decide +kernel, rfl⟩
theorem d_Rf_turn_31 : DI M_Rf_turn 31 (.ireturn) 1 32 := ⟨by decide +kernel, rfl⟩
theorem d_Rf_turn_32 : DI M_Rf_turn 32 (.aload_n 0) 1 33 := ⟨by decide +kernel, rfl⟩
theorem d_Rf_turn_33 : DI M_Rf_turn 33 (.getfield 146) 3 36 := ⟨by decide +kernel, rfl⟩
theorem d_Rf_turn_36 : DI M_Rf_turn 36 (.bipush 6) 2 38 := ⟨by decide +kernel, rfl⟩
theorem d_Rf_turn_38 : DJ M_Rf_turn 38 (.if_icmp .ne 6) 6 3 41 44 := ⟨by decide +kernel, rfl, rfl⟩
theorem d_Rf_turn_41 : DI M_Rf_turn 41 (.bipush (-4)) 2 43 := ⟨by decide +kernel, rfl⟩
theorem d_Rf_turn_43 : DI M_Rf_turn 43 (.ireturn) 1 44 := ⟨by decide +kernel, rfl⟩
theorem d_Rf_turn_44 : DI M_Rf_turn 44 (.aload_n 0) 1 45 := ⟨by decide +kernel, rfl⟩
theorem d_Rf_turn_45 : DI M_Rf_turn 45 (.getfield 41) 3 48 := ⟨by decide +kernel, rfl⟩
theorem d_Rf_turn_48 : DI M_Rf_turn 48 (.aload_n 0) 1 49 := ⟨by decide +kernel, rfl⟩
theorem d_Rf_turn_49 : DI M_Rf_turn 49 (.getfield 146) 3 52 := ⟨by decide +kernel, rfl⟩
theorem d_Rf_turn_52 : DI M_Rf_turn 52 (.iload_n 1) 1 53 := ⟨by decide +kernel, rfl⟩
theorem d_Rf_turn_53 : DI M_Rf_turn 53 (.iastore) 1 54 := ⟨by decide +kernel, rfl⟩
theorem d_Rf_turn_54 : DI M_Rf_turn 54 (.aload_n 0) 1 55 := ⟨by decide +kernel, rfl⟩
theorem d_Rf_turn_55 : DI M_Rf_turn 55 (.getfield 44) 3 58 := ⟨by decide +kernel, rfl⟩
theorem d_Rf_turn_58 : DI M_Rf_turn 58 (.aload_n 0) 1 59 := ⟨by decide +kernel, rfl⟩
theorem d_Rf_turn_59 : DI M_Rf_turn 59 (.getfield 146) 3 62 := ⟨by decide +kernel, rfl⟩
theorem d_Rf_turn_62 : DI M_Rf_turn 62 (.iload_n 2) 1 63 := ⟨by decide +kernel, rfl⟩
theorem d_Rf_turn_63 : DI M_Rf_turn 63 (.iastore) 1 64 := ⟨by decide +kernel, rfl⟩
theorem d_Rf_turn_64 : DI M_Rf_turn 64 (.aload_n 0) 1 65 := ⟨by decide +kernel, rfl⟩
theorem d_Rf_turn_65 : DI M_Rf_turn 65 (.dup) 1 66 := ⟨by decide +kernel, rfl⟩
theorem d_Rf_turn_66 : DI M_Rf_turn 66 (.getfield 146) 3 69 := ⟨by decide +kernel, rfl⟩
theorem d_Rf_turn_69 : DI M_Rf_turn 69 (.iconst 1) 1 70 := ⟨by decide +kernel, rfl⟩
theorem d_Rf_turn_70 : DI M_Rf_turn 70 (.iadd) 1 71 := ⟨by decide +kernel, rfl⟩
theorem d_Rf_turn_71 : DI M_Rf_turn 71 (.putfield 146) 3 74 := ⟨by decide +kernel, rfl⟩
theorem d_Rf_turn_74 : DI M_Rf_turn 74 (.aload_n 0) 1 75 := ⟨by decide +kernel, rfl⟩
theorem d_Rf_turn_75 : DI M_Rf_turn 75 (.getfield 146) 3 78 := ⟨by decide +kernel, rfl⟩
theorem d_Rf_turn_78 : DI M_Rf_turn 78 (.ireturn) 1 79 := ⟨by decide +kernel, rfl⟩
theorem d_Rf_unturn_0 : DI M_Rf_unturn 0 (.aload_n 0) 1 1 := ⟨by decide +kernel, rfl⟩
theorem d_Rf_unturn_1 : DI M_Rf_unturn 1 (.iconst 0) 1 2 := ⟨by decide +kernel, rfl⟩
theorem d_Rf_unturn_2 : DI M_Rf_unturn 2 (.putfield 59) 3 5 := ⟨by decide +kernel, rfl⟩
theorem d_Rf_unturn_5 : DI M_Rf_unturn 5 (.aload_n 0) 1 6 := ⟨by decide +kernel, rfl⟩
theorem d_Rf_unturn_6 : DI M_Rf_unturn 6 (.getfield 146) 3 9 := ⟨by decide +kernel, rfl⟩
theorem d_Rf_unturn_9 : DI M_Rf_unturn 9 (.istore_n 1) 1 10 := ⟨by decide +kernel, rfl⟩
theorem d_Rf_unturn_10 : DI M_Rf_unturn 10 (.aload_n 0) 1 11 := ⟨by decide +kernel, rfl⟩
theorem d_Rf_unturn_11 : DI M_Rf_unturn 11 (.iconst 0) 1 12 := ⟨by decide +kernel, rfl⟩
theorem d_Rf_unturn_12 : DI M_Rf_unturn 12 (.putfield 146) 3 15 := ⟨by decide +kernel, rfl⟩
theorem d_Rf_unturn_15 : DI M_Rf_unturn 15 (.iload_n 1) 1 16 := ⟨by decide +kernel, rfl⟩
theorem d_Rf_unturn_16 : DI M_Rf_unturn 16 (.ireturn) 1 17 := ⟨by decide +kernel, rfl⟩
theorem d_Rf_answer_0 : DI M_Rf_answer 0 (.iload_n 0) 1 1 := ⟨by decide +kernel, rfl⟩
theorem d_Rf_answer_1 : DI M_Rf_answer 1 (.bipush 32) 2 3 := ⟨by decide +kernel, rfl⟩
theorem d_Rf_answer_3 : DI M_Rf_answer 3 (.idiv) 1 4 := ⟨by decide +kernel, rfl⟩
theorem d_Rf_answer_4 : DI M_Rf_answer 4 (.istore_n 2) 1 5 := ⟨by decide +kernel, rfl⟩
theorem d_Rf_answer_5 : DI M_Rf_answer 5 (.iload_n 2) 1 6 := ⟨by decide +kernel, rfl⟩
theorem d_Rf_answer_6 : DI M_Rf_answer 6 (.iload_n 0) 1 7 := ⟨by decide +kernel, rfl⟩
theorem d_Rf_answer_7 : DI M_Rf_answer 7 (.iconst 4) 1 8 := ⟨by decide +kernel, rfl⟩
theorem d_Rf_answer_8 : DI M_Rf_answer 8 (.idiv) 1 9 := ⟨by decide +kernel, rfl⟩
theorem d_Rf_answer_9 : DI M_Rf_answer 9 (.bipush 8) 2 11 := ⟨by decide +kernel, rfl⟩
theorem d_Rf_answer_11 : DI M_Rf_answer 11 (.irem) 1 12 := ⟨by decide +kernel, rfl⟩
theorem d_Rf_answer_12 : DI M_Rf_answer 12 (.iload_n 0) 1 13 := ⟨by decide +kernel, rfl⟩
theorem d_Rf_answer_13 : DI M_Rf_answer 13 (.iconst 4) 1 14 := ⟨by decide +kernel, rfl⟩
theorem d_Rf_answer_14 : DI M_Rf_answer 14 (.irem) 1 15 := ⟨by decide +kernel, rfl⟩
theorem d_Rf_answer_15 : DI M_Rf_answer 15 (.iconst 0) 1 16 := ⟨by decide +kernel, rfl⟩
theorem d_Rf_answer_16 : DI M_Rf_answer 16 (.iload_n 1) 1 17 := ⟨by decide +kernel, rfl⟩
theorem d_Rf_answer_17 : DI M_Rf_answer 17 (.invokestatic 115) 3 20 := ⟨by decide +kernel, rfl⟩
theorem d_Rf_answer_20 : DJ M_Rf_answer 20 (.ifCond .eq 7) 7 3 23 27 := ⟨by decide +kernel, rfl, rfl⟩
theorem d_Rf_answer_23 : DI M_Rf_answer 23 (.iload_n 2) 1 24 := ⟨by decide +kernel, rfl⟩
theorem d_Rf_answer_24 : DJ M_Rf_answer 24 (.goto 4) 4 3 27 28 := ⟨by decide +kernel, rfl, rfl⟩
theorem d_Rf_answer_27 : DI M_Rf_answer 27 (.iconst 5) 1 28 := ⟨by decide +kernel, rfl⟩
theorem d_Rf_answer_28 : DI M_Rf_answer 28 (.ireturn) 1 29 := ⟨by decide +kernel, rfl⟩
theorem d_Rf_mayBe_0 : DI M_Rf_mayBe 0 (.iconst 1) 1 1 := ⟨by decide +kernel, rfl⟩
theorem d_Rf_mayBe_1 : DI M_Rf_mayBe 1 (.istore_n 2) 1 2 := ⟨by decide +kernel, rfl⟩
theorem d_Rf_mayBe_2 : DI M_Rf_mayBe 2 (.iconst 0) 1 3 := ⟨by decide +kernel, rfl⟩
theorem d_Rf_mayBe_3 : DI M_Rf_mayBe 3 (.istore_n 3) 1 4 := ⟨by decide +kernel, rfl⟩
theorem d_Rf_mayBe_4 : DI M_Rf_mayBe 4 (.iload_n 3) 1 5 := ⟨by decide +kernel, rfl⟩
theorem d_Rf_mayBe_5 : DI M_Rf_mayBe 5 (.aload_n 0) 1 6 := ⟨by decide +kernel, rfl⟩
theorem d_Rf_mayBe_6 : DI M_Rf_mayBe 6 (.getfield 146) 3 9 := ⟨by decide +kernel, rfl⟩
theorem d_Rf_mayBe_9 : DJ M_Rf_mayBe 9 (.if_icmp .ge 38) 38 3 12 47 := ⟨by decide +kernel, rfl, rfl⟩
theorem d_Rf_mayBe_12 : DI M_Rf_mayBe 12 (.iload_n 2) 1 13 := ⟨by decide +kernel, rfl⟩
theorem d_Rf_mayBe_13 : DJ M_Rf_mayBe 13 (.ifCond .eq 26) 26 3 16 39 := ⟨by decide +kernel, rfl, rfl⟩
theorem d_Rf_mayBe_16 : DI M_Rf_mayBe 16 (.iload_n 1) 1 17 := ⟨by decide +kernel, rfl⟩
theorem d_Rf_mayBe_17 : DI M_Rf_mayBe 17 (.aload_n 0) 1 18 := ⟨by decide +kernel, rfl⟩
theorem d_Rf_mayBe_18 : DI M_Rf_mayBe 18 (.getfield 41) 3 21 := ⟨by decide +kernel, rfl⟩
theorem d_Rf_mayBe_21 : DI M_Rf_mayBe 21 (.iload_n 3) 1 22 := ⟨by decide +kernel, rfl⟩
theorem d_Rf_mayBe_22 : DI M_Rf_mayBe 22 (.iaload) 1 23 := ⟨by decide +kernel, rfl⟩
theorem d_Rf_mayBe_23 : DI M_Rf_mayBe 23 (.invokestatic 219) 3 26 := ⟨by decide +kernel, rfl⟩
theorem d_Rf_mayBe_26 : DI M_Rf_mayBe 26 (.aload_n 0) 1 27 := ⟨by decide +kernel, rfl⟩
theorem d_Rf_mayBe_27 : DI M_Rf_mayBe 27 (.getfield 44) 3 30 := ⟨by decide +kernel, rfl⟩
theorem d_Rf_mayBe_30 : DI M_Rf_mayBe 30 (.iload_n 3) 1 31 := ⟨by decide +kernel, rfl⟩
theorem d_Rf_mayBe_31 : DI M_Rf_mayBe 31 (.iaload) 1 32 := ⟨by decide +kernel, rfl⟩
theorem d_Rf_mayBe_32 : DJ M_Rf_mayBe 32 (.if_icmp .ne 7) 7 3 35 39 := ⟨by decide +kernel, rfl, rfl⟩
theorem d_Rf_mayBe_35 : DI M_Rf_mayBe 35 (.iconst 1) 1 36 := ⟨by decide +kernel, rfl⟩
theorem d_Rf_mayBe_36 : DJ M_Rf_mayBe 36 (.goto 4) 4 3 39 40 := ⟨by decide +kernel, rfl, rfl⟩
theorem d_Rf_mayBe_39 : DI M_Rf_mayBe 39 (.iconst 0) 1 40 := ⟨by decide +kernel, rfl⟩
theorem d_Rf_mayBe_40 : DI M_Rf_mayBe 40 (.istore_n 2) 1 41 := ⟨by decide +kernel, rfl⟩
theorem d_Rf_mayBe_41 : DI M_Rf_mayBe 41 (.iinc 3 1) 3 44 := ⟨by decide +kernel, rfl⟩
theorem d_Rf_mayBe_44 : DJ M_Rf_mayBe 44 (.goto (-40)) (-40) 3 47 4 := ⟨by decide +kernel, rfl, rfl⟩
theorem d_Rf_mayBe_47 : DI M_Rf_mayBe 47 (.iload_n 2) 1 48 := ⟨by decide +kernel, rfl⟩
theorem d_Rf_mayBe_48 : DI M_Rf_mayBe 48 (.ireturn) 1 49 := ⟨by decide +kernel, rfl⟩
theorem d_Rf_may_0 : DI M_Rf_may 0 (.aload_n 0) 1 1 := ⟨by decide +kernel, rfl⟩
theorem d_Rf_may_1 : DI M_Rf_may 1 (.iconst 0) 1 2 := ⟨by decide +kernel, rfl⟩
theorem d_Rf_may_2 : DI M_Rf_may 2 (.putfield 59) 3 5 := ⟨by decide +kernel, rfl⟩
theorem d_Rf_may_5 : DI M_Rf_may 5 (.iload_n 1) 1 6 := ⟨by decide +kernel, rfl⟩
theorem d_Rf_may_6 : DI M_Rf_may 6 (.i2l) 1 7 := ⟨by decide +kernel, rfl⟩
theorem d_Rf_may_7 : DI M_Rf_may 7 (.lconst 0) 1 8 := ⟨by decide +kernel, rfl⟩
theorem d_Rf_may_8 : DI M_Rf_may 8 (.lconst 1) 1 9 := ⟨by decide +kernel, rfl⟩
theorem d_Rf_may_9 : DI M_Rf_may 9 (.invokestatic 66) 3 12 := ⟨by decide +kernel, rfl⟩
theorem d_Rf_may_12 : DJ M_Rf_may 12 (.ifCond .ne 6) 6 3 15 18 := ⟨by decide +kernel, rfl, rfl⟩
theorem d_Rf_may_15 : DI M_Rf_may 15 (.bipush (-2)) 2 17 := ⟨by decide +kernel, rfl⟩
theorem d_Rf_may_17 : DI M_Rf_may 17 (.ireturn) 1 18 := ⟨by decide +kernel, rfl⟩
theorem d_Rf_may_18 : DI M_Rf_may 18 (.aload_n 0) 1 19 := ⟨by decide +kernel, rfl⟩
theorem d_Rf_may_19 : DI M_Rf_may 19 (.iconst 0) 1 20 := ⟨by decide +kernel, rfl⟩
theorem d_Rf_may_20 : DI M_Rf_may 20 (.putfield 222) 3 23 := ⟨by decide +kernel, rfl⟩
theorem d_Rf_may_23 : DI M_Rf_may 23 (.aload_n 0) 1 24 := ⟨by decide +kernel, rfl⟩
theorem d_Rf_may_24 : DI M_Rf_may 24 (.bipush (-9)) 2 26 := ⟨by decide +kernel, rfl⟩
theorem d_Rf_may_26 : DI M_Rf_may 26 (.putfield 225) 3 29 := ⟨by decide +kernel, rfl⟩
theorem d_Rf_may_29 : DI M_Rf_may 29 (.iconst 0) 1 30 := ⟨by decide +kernel, rfl⟩
theorem d_Rf_may_30 : DI M_Rf_may 30 (.istore_n 2) 1 31 := ⟨by decide +kernel, rfl⟩
theorem d_Rf_may_31 : DI M_Rf_may 31 (.iload_n 2) 1 32 := ⟨by decide +kernel, rfl⟩
theorem d_Rf_may_32 : DI M_Rf_may 32 (.sipush 160) 3 35 := ⟨by decide +kernel, rfl⟩
theorem d_Rf_may_35 : DJ M_Rf_may 35 (.if_icmp .ge 76) 76 3 38 111 := ⟨by decide +kernel, rfl, rfl⟩
theorem d_Rf_may_38 : DI M_Rf_may 38 (.aload_n 0) 1 39 := ⟨by decide +kernel, rfl⟩
theorem d_Rf_may_39 : DI M_Rf_may 39 (.iload_n 2) 1 40 := ⟨by decide +kernel, rfl⟩
theorem d_Rf_may_40 : DI M_Rf_may 40 (.invokevirtual 228) 3 43 := ⟨by decide +kernel, rfl⟩
theorem d_Rf_may_43 : DI M_Rf_may 43 (.istore_n 3) 1 44 := ⟨by decide +kernel, rfl⟩
theorem d_Rf_may_44 : DI M_Rf_may 44 (.aload_n 0) 1 45 := ⟨by decide +kernel, rfl⟩
theorem d_Rf_may_45 : DI M_Rf_may 45 (.iload_n 3) 1 46 := ⟨by decide +kernel, rfl⟩
theorem d_Rf_may_46 : DJ M_Rf_may 46 (.ifCond .eq 34) 34 3 49 80 := ⟨by decide +kernel, rfl, rfl⟩
theorem d_Rf_may_49 : DI M_Rf_may 49 (.aload_n 0) 1 50 := ⟨by decide +kernel, rfl⟩
theorem d_Rf_may_50 : DI M_Rf_may 50 (.getfield 222) 3 53 := ⟨by decide +kernel, rfl⟩
theorem d_Rf_may_53 : DJ M_Rf_may 53 (.ifCond .ne 27) 27 3 56 80 := ⟨by decide +kernel, rfl, rfl⟩
theorem d_Rf_may_56 : DI M_Rf_may 56 (.bipush 100) 2 58 := ⟨by decide +kernel, rfl⟩
theorem d_Rf_may_58 : DI M_Rf_may 58 (.iload_n 2) 1 59 := ⟨by decide +kernel, rfl⟩
theorem d_Rf_may_59 : DI M_Rf_may 59 (.bipush 32) 2 61 := ⟨by decide +kernel, rfl⟩
theorem d_Rf_may_61 : DI M_Rf_may 61 (.idiv) 1 62 := ⟨by decide +kernel, rfl⟩
theorem d_Rf_may_62 : DI M_Rf_may 62 (.imul) 1 63 := ⟨by decide +kernel, rfl⟩
theorem d_Rf_may_63 : DI M_Rf_may 63 (.bipush 10) 2 65 := ⟨by decide +kernel, rfl⟩
theorem d_Rf_may_65 : DI M_Rf_may 65 (.iload_n 2) 1 66 := ⟨by decide +kernel, rfl⟩
theorem d_Rf_may_66 : DI M_Rf_may 66 (.iconst 4) 1 67 := ⟨by decide +kernel, rfl⟩
theorem d_Rf_may_67 : DI M_Rf_may 67 (.idiv) 1 68 := ⟨by decide +kernel, rfl⟩
theorem d_Rf_may_68 : DI M_Rf_may 68 (.bipush 8) 2 70 := ⟨by decide +kernel, rfl⟩
theorem d_Rf_may_70 : DI M_Rf_may 70 (.irem) 1 71 := ⟨by decide +kernel, rfl⟩
theorem d_Rf_may_71 : DI M_Rf_may 71 (.imul) 1 72 := ⟨by decide +kernel, rfl⟩
theorem d_Rf_may_72 : DI M_Rf_may 72 (.iadd) 1 73 := ⟨by decide +kernel, rfl⟩
theorem d_Rf_may_73 : DI M_Rf_may 73 (.iload_n 2) 1 74 := ⟨by decide +kernel, rfl⟩
theorem d_Rf_may_74 : DI M_Rf_may 74 (.iconst 4) 1 75 := ⟨by decide +kernel, rfl⟩
theorem d_Rf_may_75 : DI M_Rf_may 75 (.irem) 1 76 := ⟨by decide +kernel, rfl⟩
theorem d_Rf_may_76 : DI M_Rf_may 76 (.iadd) 1 77 := ⟨by decide +kernel, rfl⟩
theorem d_Rf_may_77 : DJ M_Rf_may 77 (.goto 7) 7 3 80 84 := ⟨by decide +kernel, rfl, rfl⟩
theorem d_Rf_may_80 : DI M_Rf_may 80 (.aload_n 0) 1 81 := ⟨by decide +kernel, rfl⟩
theorem d_Rf_may_81 : DI M_Rf_may 81 (.getfield 225) 3 84 := ⟨by decide +kernel, rfl⟩
theorem d_Rf_may_84 : DI M_Rf_may 84 (.putfield 225) 3 87 := ⟨by decide +kernel, rfl⟩
theorem d_Rf_may_87 : DI M_Rf_may 87 (.aload_n 0) 1 88 := ⟨by decide +kernel, rfl⟩
theorem d_Rf_may_88 : DI M_Rf_may 88 (.dup) 1 89 := ⟨by decide +kernel, rfl⟩
theorem d_Rf_may_89 : DI M_Rf_may 89 (.getfield 222) 3 92 := ⟨by decide +kernel, rfl⟩
theorem d_Rf_may_92 : DI M_Rf_may 92 (.iload_n 3) 1 93 := ⟨by decide +kernel, rfl⟩
theorem d_Rf_may_93 : DJ M_Rf_may 93 (.ifCond .eq 7) 7 3 96 100 := ⟨by decide +kernel, rfl, rfl⟩
theorem d_Rf_may_96 : DI M_Rf_may 96 (.iconst 1) 1 97 := ⟨by decide +kernel, rfl⟩
theorem d_Rf_may_97 : DJ M_Rf_may 97 (.goto 4) 4 3 100 101 := ⟨by decide +kernel, rfl, rfl⟩
theorem d_Rf_may_100 : DI M_Rf_may 100 (.iconst 0) 1 101 := ⟨by decide +kernel, rfl⟩
theorem d_Rf_may_101 : DI M_Rf_may 101 (.iadd) 1 102 := ⟨by decide +kernel, rfl⟩
theorem d_Rf_may_102 : DI M_Rf_may 102 (.putfield 222) 3 105 := ⟨by decide +kernel, rfl⟩
theorem d_Rf_may_105 : DI M_Rf_may 105 (.iinc 2 1) 3 108 := ⟨by decide +kernel, rfl⟩
theorem d_Rf_may_108 : DJ M_Rf_may 108 (.goto (-77)) (-77) 3 111 31 := ⟨by decide +kernel, rfl, rfl⟩
theorem d_Rf_may_111 : DI M_Rf_may 111 (.iload_n 1) 1 112 := ⟨by decide +kernel, rfl⟩
theorem d_Rf_may_112 : DJ M_Rf_may 112 (.ifCond .ne 10) 10 3 115 122 := ⟨by decide +kernel, rfl, rfl⟩
theorem d_Rf_may_115 : DI M_Rf_may 115 (.aload_n 0) 1 116 := ⟨by decide +kernel, rfl⟩
theorem d_Rf_may_116 : DI M_Rf_may 116 (.getfield 222) 3 119 := ⟨by decide +kernel, rfl⟩
theorem d_Rf_may_119 : DJ M_Rf_may 119 (.goto 7) 7 3 122 126 := ⟨by decide +kernel, rfl, rfl⟩
theorem d_Rf_may_122 : DI M_Rf_may 122 (.aload_n 0) 1 123 := ⟨by decide +kernel, rfl⟩
theorem d_Rf_may_123 : DI M_Rf_may 123 (.getfield 225) 3 126 := ⟨by decide +kernel, rfl⟩
theorem d_Rf_may_126 : DI M_Rf_may 126 (.ireturn) 1 127 := ⟨by decide +kernel, rfl⟩
theorem d_Rf_greatest_0 : DI M_Rf_greatest 0 (.iconst 0) 1 1 := ⟨by decide +kernel, rfl⟩
theorem d_Rf_greatest_1 : DI M_Rf_greatest 1 (.istore_n 2) 1 2 := ⟨by decide +kernel, rfl⟩
theorem d_Rf_greatest_2 : DI M_Rf_greatest 2 (.iload_n 2) 1 3 := ⟨by decide +kernel, rfl⟩
theorem d_Rf_greatest_3 : DI M_Rf_greatest 3 (.bipush 6) 2 5 := ⟨by decide +kernel, rfl⟩
theorem d_Rf_greatest_5 : DJ M_Rf_greatest 5 (.if_icmp .ge 16) 16 3 8 21 := ⟨by decide +kernel, rfl, rfl⟩
theorem d_Rf_greatest_8 : DI M_Rf_greatest 8 (.aload_n 0) 1 9 := ⟨by decide +kernel, rfl⟩
theorem d_Rf_greatest_9 : DI M_Rf_greatest 9 (.getfield 50) 3 12 := ⟨by decide +kernel, rfl⟩
theorem d_Rf_greatest_12 : DI M_Rf_greatest 12 (.iload_n 2) 1 13 := ⟨by decide +kernel, rfl⟩
theorem d_Rf_greatest_13 : DI M_Rf_greatest 13 (.iconst 0) 1 14 := ⟨by decide +kernel, rfl⟩
theorem d_Rf_greatest_14 : DI M_Rf_greatest 14 (.iastore) 1 15 := ⟨by decide +kernel, rfl⟩
theorem d_Rf_greatest_15 : DI M_Rf_greatest 15 (.iinc 2 1) 3 18 := ⟨by decide +kernel, rfl⟩
theorem d_Rf_greatest_18 : DJ M_Rf_greatest 18 (.goto (-16)) (-16) 3 21 2 := ⟨by decide +kernel, rfl, rfl⟩
theorem d_Rf_greatest_21 : DI M_Rf_greatest 21 (.iconst 0) 1 22 := ⟨by decide +kernel, rfl⟩
theorem d_Rf_greatest_22 : DI M_Rf_greatest 22 (.istore_n 2) 1 23 := ⟨by decide +kernel, rfl⟩
theorem d_Rf_greatest_23 : DI M_Rf_greatest 23 (.iconst 0) 1 24 := ⟨by decide +kernel, rfl⟩
theorem d_Rf_greatest_24 : DI M_Rf_greatest 24 (.istore_n 3) 1 25 := ⟨by decide +kernel, rfl⟩
theorem d_Rf_greatest_25 : DI M_Rf_greatest 25 (.iload_n 3) 1 26 := ⟨by decide +kernel, rfl⟩
theorem d_Rf_greatest_26 : DI M_Rf_greatest 26 (.sipush 160) 3 29 := ⟨by decide +kernel, rfl⟩
theorem d_Rf_greatest_29 : DJ M_Rf_greatest 29 (.if_icmp .ge 58) 58 3 32 87 := ⟨by decide +kernel, rfl, rfl⟩
theorem d_Rf_greatest_32 : DI M_Rf_greatest 32 (.aload_n 0) 1 33 := ⟨by decide +kernel, rfl⟩
theorem d_Rf_greatest_33 : DI M_Rf_greatest 33 (.iload_n 3) 1 34 := ⟨by decide +kernel, rfl⟩
theorem d_Rf_greatest_34 : DI M_Rf_greatest 34 (.invokevirtual 228) 3 37 := ⟨by decide +kernel, rfl⟩
theorem d_Rf_greatest_37 : DJ M_Rf_greatest 37 (.ifCond .eq 44) 44 3 40 81 := ⟨by decide +kernel, rfl, rfl⟩
theorem d_Rf_greatest_40 : DI M_Rf_greatest 40 (.iload_n 3) 1 41 := ⟨by decide +kernel, rfl⟩
theorem d_Rf_greatest_41 : DI M_Rf_greatest 41 (.iload_n 1) 1 42 := ⟨by decide +kernel, rfl⟩
theorem d_Rf_greatest_42 : DI M_Rf_greatest 42 (.invokestatic 219) 3 45 := ⟨by decide +kernel, rfl⟩
theorem d_Rf_greatest_45 : DI M_Rf_greatest 45 (.istore 4) 2 47 := ⟨by decide +kernel, rfl⟩
theorem d_Rf_greatest_47 : DI M_Rf_greatest 47 (.aload_n 0) 1 48 := ⟨by decide +kernel, rfl⟩
theorem d_Rf_greatest_48 : DI M_Rf_greatest 48 (.getfield 50) 3 51 := ⟨by decide +kernel, rfl⟩
theorem d_Rf_greatest_51 : DI M_Rf_greatest 51 (.iload 4) 2 53 := ⟨by decide +kernel, rfl⟩
theorem d_Rf_greatest_53 : DI M_Rf_greatest 53 (.dup2) 1 54 := ⟨by decide +kernel, rfl⟩
theorem d_Rf_greatest_54 : DI M_Rf_greatest 54 (.iaload) 1 55 := ⟨by decide +kernel, rfl⟩
theorem d_Rf_greatest_55 : DI M_Rf_greatest 55 (.iconst 1) 1 56 := ⟨by decide +kernel, rfl⟩
theorem d_Rf_greatest_56 : DI M_Rf_greatest 56 (.iadd) 1 57 := ⟨by decide +kernel, rfl⟩
theorem d_Rf_greatest_57 : DI M_Rf_greatest 57 (.iastore) 1 58 := ⟨by decide +kernel, rfl⟩
theorem d_Rf_greatest_58 : DI M_Rf_greatest 58 (.aload_n 0) 1 59 := ⟨by decide +kernel, rfl⟩
theorem d_Rf_greatest_59 : DI M_Rf_greatest 59 (.getfield 50) 3 62 := ⟨by decide +kernel, rfl⟩
theorem d_Rf_greatest_62 : DI M_Rf_greatest 62 (.iload 4) 2 64 := ⟨by decide +kernel, rfl⟩
theorem d_Rf_greatest_64 : DI M_Rf_greatest 64 (.iaload) 1 65 := ⟨by decide +kernel, rfl⟩
theorem d_Rf_greatest_65 : DI M_Rf_greatest 65 (.iload_n 2) 1 66 := ⟨by decide +kernel, rfl⟩
theorem d_Rf_greatest_66 : DJ M_Rf_greatest 66 (.if_icmp .le 13) 13 3 69 79 := ⟨by decide +kernel, rfl, rfl⟩
theorem d_Rf_greatest_69 : DI M_Rf_greatest 69 (.aload_n 0) 1 70 := ⟨by decide +kernel, rfl⟩
theorem d_Rf_greatest_70 : DI M_Rf_greatest 70 (.getfield 50) 3 73 := ⟨by decide +kernel, rfl⟩
theorem d_Rf_greatest_73 : DI M_Rf_greatest 73 (.iload 4) 2 75 := ⟨by decide +kernel, rfl⟩
theorem d_Rf_greatest_75 : DI M_Rf_greatest 75 (.iaload) 1 76 := ⟨by decide +kernel, rfl⟩
theorem d_Rf_greatest_76 : DJ M_Rf_greatest 76 (.goto 4) 4 3 79 80 := ⟨by decide +kernel, rfl, rfl⟩
theorem d_Rf_greatest_79 : DI M_Rf_greatest 79 (.iload_n 2) 1 80 := ⟨by decide +kernel, rfl⟩
theorem d_Rf_greatest_80 : DI M_Rf_greatest 80 (.istore_n 2) 1 81 := ⟨by decide +kernel, rfl⟩
theorem d_Rf_greatest_81 : DI M_Rf_greatest 81 (.iinc 3 1) 3 84 := ⟨by decide +kernel, rfl⟩
theorem d_Rf_greatest_84 : DJ M_Rf_greatest 84 (.goto (-59)) (-59) 3 87 25 := ⟨by decide +kernel, rfl, rfl⟩
theorem d_Rf_greatest_87 : DI M_Rf_greatest 87 (.iload_n 2) 1 88 := ⟨by decide +kernel, rfl⟩
theorem d_Rf_greatest_88 : DI M_Rf_greatest 88 (.ireturn) 1 89 := ⟨by decide +kernel, rfl⟩
theorem d_Rf_next_0 : DI M_Rf_next 0 (.aload_n 0) 1 1 := ⟨by decide +kernel, rfl⟩
theorem d_Rf_next_1 : DI M_Rf_next 1 (.iconst 0) 1 2 := ⟨by decide +kernel, rfl⟩
theorem d_Rf_next_2 : DI M_Rf_next 2 (.putfield 59) 3 5 := ⟨by decide +kernel, rfl⟩
theorem d_Rf_next_5 : DI M_Rf_next 5 (.bipush (-9)) 2 7 := ⟨by decide +kernel, rfl⟩
theorem d_Rf_next_7 : DI M_Rf_next 7 (.istore_n 1) 1 8 := ⟨by decide +kernel, rfl⟩
theorem d_Rf_next_8 : DI M_Rf_next 8 (.bipush (-9)) 2 10 := ⟨by decide +kernel, rfl⟩
theorem d_Rf_next_10 : DI M_Rf_next 10 (.istore_n 2) 1 11 := ⟨by decide +kernel, rfl⟩
theorem d_Rf_next_11 : DI M_Rf_next 11 (.iconst 0) 1 12 := ⟨by decide +kernel, rfl⟩
theorem d_Rf_next_12 : DI M_Rf_next 12 (.istore_n 3) 1 13 := ⟨by decide +kernel, rfl⟩
theorem d_Rf_next_13 : DI M_Rf_next 13 (.iload_n 3) 1 14 := ⟨by decide +kernel, rfl⟩
theorem d_Rf_next_14 : DI M_Rf_next 14 (.bipush 8) 2 16 := ⟨by decide +kernel, rfl⟩
theorem d_Rf_next_16 : DJ M_Rf_next 16 (.if_icmp .ge 38) 38 3 19 54 := ⟨by decide +kernel, rfl, rfl⟩
theorem d_Rf_next_19 : DI M_Rf_next 19 (.aload_n 0) 1 20 := ⟨by decide +kernel, rfl⟩
theorem d_Rf_next_20 : DI M_Rf_next 20 (.iload_n 3) 1 21 := ⟨by decide +kernel, rfl⟩
theorem d_Rf_next_21 : DI M_Rf_next 21 (.invokevirtual 231) 3 24 := ⟨by decide +kernel, rfl⟩
theorem d_Rf_next_24 : DI M_Rf_next 24 (.istore 4) 2 26 := ⟨by decide +kernel, rfl⟩
theorem d_Rf_next_26 : DI M_Rf_next 26 (.iload 4) 2 28 := ⟨by decide +kernel, rfl⟩
theorem d_Rf_next_28 : DJ M_Rf_next 28 (.ifCond .le 20) 20 3 31 48 := ⟨by decide +kernel, rfl, rfl⟩
theorem d_Rf_next_31 : DI M_Rf_next 31 (.iload_n 1) 1 32 := ⟨by decide +kernel, rfl⟩
theorem d_Rf_next_32 : DI M_Rf_next 32 (.bipush (-9)) 2 34 := ⟨by decide +kernel, rfl⟩
theorem d_Rf_next_34 : DJ M_Rf_next 34 (.if_icmp .eq 9) 9 3 37 43 := ⟨by decide +kernel, rfl, rfl⟩
theorem d_Rf_next_37 : DI M_Rf_next 37 (.iload 4) 2 39 := ⟨by decide +kernel, rfl⟩
theorem d_Rf_next_39 : DI M_Rf_next 39 (.iload_n 2) 1 40 := ⟨by decide +kernel, rfl⟩
theorem d_Rf_next_40 : DJ M_Rf_next 40 (.if_icmp .ge 8) 8 3 43 48 := ⟨by decide +kernel, rfl, rfl⟩
theorem d_Rf_next_43 : DI M_Rf_next 43 (.iload_n 3) 1 44 := ⟨by decide +kernel, rfl⟩
theorem d_Rf_next_44 : DI M_Rf_next 44 (.istore_n 1) 1 45 := ⟨by decide +kernel, rfl⟩
theorem d_Rf_next_45 : DI M_Rf_next 45 (.iload 4) 2 47 := ⟨by decide +kernel, rfl⟩
theorem d_Rf_next_47 : DI M_Rf_next 47 (.istore_n 2) 1 48 := ⟨by decide +kernel, rfl⟩
theorem d_Rf_next_48 : DI M_Rf_next 48 (.iinc 3 1) 3 51 := ⟨by decide +kernel, rfl⟩
theorem d_Rf_next_51 : DJ M_Rf_next 51 (.goto (-38)) (-38) 3 54 13 := ⟨by decide +kernel, rfl, rfl⟩
theorem d_Rf_next_54 : DI M_Rf_next 54 (.iload_n 1) 1 55 := ⟨by decide +kernel, rfl⟩
theorem d_Rf_next_55 : DI M_Rf_next 55 (.ireturn) 1 56 := ⟨by decide +kernel, rfl⟩
theorem d_Rf_rests_0 : DI M_Rf_rests 0 (.aload_n 0) 1 1 := ⟨by decide +kernel, rfl⟩
theorem d_Rf_rests_1 : DI M_Rf_rests 1 (.iconst 0) 1 2 := ⟨by decide +kernel, rfl⟩
theorem d_Rf_rests_2 : DI M_Rf_rests 2 (.putfield 59) 3 5 := ⟨by decide +kernel, rfl⟩
theorem d_Rf_rests_5 : DI M_Rf_rests 5 (.aload_n 0) 1 6 := ⟨by decide +kernel, rfl⟩
theorem d_Rf_rests_6 : DI M_Rf_rests 6 (.iload_n 1) 1 7 := ⟨by decide +kernel, rfl⟩
theorem d_Rf_rests_7 : DI M_Rf_rests 7 (.invokevirtual 156) 3 10 := ⟨by decide +kernel, rfl⟩
theorem d_Rf_rests_10 : DJ M_Rf_rests 10 (.ifCond .ne 19) 19 3 13 29 := ⟨by decide +kernel, rfl, rfl⟩
theorem d_Rf_rests_13 : DI M_Rf_rests 13 (.aload_n 0) 1 14 := ⟨by decide +kernel, rfl⟩
theorem d_Rf_rests_14 : DI M_Rf_rests 14 (.iload_n 2) 1 15 := ⟨by decide +kernel, rfl⟩
theorem d_Rf_rests_15 : DI M_Rf_rests 15 (.invokevirtual 149) 3 18 := ⟨by decide +kernel, rfl⟩
theorem d_Rf_rests_18 : DJ M_Rf_rests 18 (.ifCond .ne 11) 11 3 21 29 := ⟨by decide +kernel, rfl, rfl⟩
theorem d_Rf_rests_21 : DI M_Rf_rests 21 (.aload_n 0) 1 22 := ⟨by decide +kernel, rfl⟩
theorem d_Rf_rests_22 : DI M_Rf_rests 22 (.iload_n 3) 1 23 := ⟨by decide +kernel, rfl⟩
theorem d_Rf_rests_23 : DI M_Rf_rests 23 (.invokevirtual 149) 3 26 := ⟨by decide +kernel, rfl⟩
theorem d_Rf_rests_26 : DJ M_Rf_rests 26 (.ifCond .eq 5) 5 3 29 31 := ⟨by decide +kernel, rfl, rfl⟩
theorem d_Rf_rests_29 : DI M_Rf_rests 29 (.iconst (-1)) 1 30 := ⟨by decide +kernel, rfl⟩
theorem d_Rf_rests_30 : DI M_Rf_rests 30 (.ireturn) 1 31 := ⟨by decide +kernel, rfl⟩
theorem d_Rf_rests_31 : DI M_Rf_rests 31 (.iload_n 2) 1 32 := ⟨by decide +kernel, rfl⟩
theorem d_Rf_rests_32 : DI M_Rf_rests 32 (.iload_n 3) 1 33 := ⟨by decide +kernel, rfl⟩
theorem d_Rf_rests_33 : DJ M_Rf_rests 33 (.if_icmp .eq 14) 14 3 36 47 := ⟨by decide +kernel, rfl, rfl⟩
theorem d_Rf_rests_36 : DI M_Rf_rests 36 (.iload 4) 2 38 := ⟨by decide +kernel, rfl⟩
theorem d_Rf_rests_38 : DI M_Rf_rests 38 (.i2l) 1 39 := ⟨by decide +kernel, rfl⟩
theorem d_Rf_rests_39 : DI M_Rf_rests 39 (.lconst 0) 1 40 := ⟨by decide +kernel, rfl⟩
theorem d_Rf_rests_40 : DI M_Rf_rests 40 (.lconst 1) 1 41 := ⟨by decide +kernel, rfl⟩
theorem d_Rf_rests_41 : DI M_Rf_rests 41 (.invokestatic 66) 3 44 := ⟨by decide +kernel, rfl⟩
theorem d_Rf_rests_44 : DJ M_Rf_rests 44 (.ifCond .ne 6) 6 3 47 50 := ⟨by decide +kernel, rfl, rfl⟩
theorem d_Rf_rests_47 : DI M_Rf_rests 47 (.bipush (-2)) 2 49 := ⟨by decide +kernel, rfl⟩
theorem d_Rf_rests_49 : DI M_Rf_rests 49 (.ireturn) 1 50 := ⟨by decide +kernel, rfl⟩
theorem d_Rf_rests_50 : DI M_Rf_rests 50 (.iconst 0) 1 51 := ⟨by decide +kernel, rfl⟩
theorem d_Rf_rests_51 : DI M_Rf_rests 51 (.istore 5) 2 53 := ⟨by decide +kernel, rfl⟩
theorem d_Rf_rests_53 : DI M_Rf_rests 53 (.iload 5) 2 55 := ⟨by decide +kernel, rfl⟩
theorem d_Rf_rests_55 : DI M_Rf_rests 55 (.iconst 4) 1 56 := ⟨by decide +kernel, rfl⟩
theorem d_Rf_rests_56 : DJ M_Rf_rests 56 (.if_icmp .ge 94) 94 3 59 150 := ⟨by decide +kernel, rfl, rfl⟩
theorem d_Rf_rests_59 : DI M_Rf_rests 59 (.aload_n 0) 1 60 := ⟨by decide +kernel, rfl⟩
theorem d_Rf_rests_60 : DI M_Rf_rests 60 (.getfield 25) 3 63 := ⟨by decide +kernel, rfl⟩
theorem d_Rf_rests_63 : DI M_Rf_rests 63 (.iload_n 1) 1 64 := ⟨by decide +kernel, rfl⟩
theorem d_Rf_rests_64 : DI M_Rf_rests 64 (.invokestatic 119) 3 67 := ⟨by decide +kernel, rfl⟩
theorem d_Rf_rests_67 : DI M_Rf_rests 67 (.iload 5) 2 69 := ⟨by decide +kernel, rfl⟩
theorem d_Rf_rests_69 : DI M_Rf_rests 69 (.iconst 2) 1 70 := ⟨by decide +kernel, rfl⟩
theorem d_Rf_rests_70 : DI M_Rf_rests 70 (.idiv) 1 71 := ⟨by decide +kernel, rfl⟩
theorem d_Rf_rests_71 : DI M_Rf_rests 71 (.iadd) 1 72 := ⟨by decide +kernel, rfl⟩
theorem d_Rf_rests_72 : DI M_Rf_rests 72 (.iload 5) 2 74 := ⟨by decide +kernel, rfl⟩
theorem d_Rf_rests_74 : DI M_Rf_rests 74 (.iconst 2) 1 75 := ⟨by decide +kernel, rfl⟩
theorem d_Rf_rests_75 : DI M_Rf_rests 75 (.irem) 1 76 := ⟨by decide +kernel, rfl⟩
theorem d_Rf_rests_76 : DI M_Rf_rests 76 (.iadd) 1 77 := ⟨by decide +kernel, rfl⟩
theorem d_Rf_rests_77 : DI M_Rf_rests 77 (.bipush 8) 2 79 := ⟨by decide +kernel, rfl⟩
theorem d_Rf_rests_79 : DI M_Rf_rests 79 (.irem) 1 80 := ⟨by decide +kernel, rfl⟩
theorem d_Rf_rests_80 : DI M_Rf_rests 80 (.istore 6) 2 82 := ⟨by decide +kernel, rfl⟩
theorem d_Rf_rests_82 : DI M_Rf_rests 82 (.aload_n 0) 1 83 := ⟨by decide +kernel, rfl⟩
theorem d_Rf_rests_83 : DI M_Rf_rests 83 (.getfield 47) 3 86 := ⟨by decide +kernel, rfl⟩
theorem d_Rf_rests_86 : DI M_Rf_rests 86 (.iconst 2) 1 87 := ⟨by decide +kernel, rfl⟩
theorem d_Rf_rests_87 : DI M_Rf_rests 87 (.iload 5) 2 89 := ⟨by decide +kernel, rfl⟩
theorem d_Rf_rests_89 : DI M_Rf_rests 89 (.imul) 1 90 := ⟨by decide +kernel, rfl⟩
theorem d_Rf_rests_90 : DI M_Rf_rests 90 (.aload_n 0) 1 91 := ⟨by decide +kernel, rfl⟩
theorem d_Rf_rests_91 : DI M_Rf_rests 91 (.iload_n 1) 1 92 := ⟨by decide +kernel, rfl⟩
theorem d_Rf_rests_92 : DI M_Rf_rests 92 (.iload_n 2) 1 93 := ⟨by decide +kernel, rfl⟩
theorem d_Rf_rests_93 : DI M_Rf_rests 93 (.iload 6) 2 95 := ⟨by decide +kernel, rfl⟩
theorem d_Rf_rests_95 : DI M_Rf_rests 95 (.invokevirtual 123) 3 98 := ⟨by decide +kernel, rfl⟩
theorem d_Rf_rests_98 : DJ M_Rf_rests 98 (.ifCond .eq 7) 7 3 101 105 := ⟨by decide +kernel, rfl, rfl⟩
theorem d_Rf_rests_101 : DI M_Rf_rests 101 (.iconst 2) 1 102 := ⟨by decide +kernel, rfl⟩
theorem d_Rf_rests_102 : DJ M_Rf_rests 102 (.goto 4) 4 3 105 106 := ⟨by decide +kernel, rfl, rfl⟩
theorem d_Rf_rests_105 : DI M_Rf_rests 105 (.iconst 0) 1 106 := ⟨by decide +kernel, rfl⟩
theorem d_Rf_rests_106 : DI M_Rf_rests 106 (.iload 5) 2 108 := ⟨by decide +kernel, rfl⟩
theorem d_Rf_rests_108 : DI M_Rf_rests 108 (.iconst 2) 1 109 := ⟨by decide +kernel, rfl⟩
theorem d_Rf_rests_109 : DI M_Rf_rests 109 (.idiv) 1 110 := ⟨by decide +kernel, rfl⟩
theorem d_Rf_rests_110 : DI M_Rf_rests 110 (.isub) 1 111 := ⟨by decide +kernel, rfl⟩
theorem d_Rf_rests_111 : DI M_Rf_rests 111 (.iastore) 1 112 := ⟨by decide +kernel, rfl⟩
theorem d_Rf_rests_112 : DI M_Rf_rests 112 (.aload_n 0) 1 113 := ⟨by decide +kernel, rfl⟩
theorem d_Rf_rests_113 : DI M_Rf_rests 113 (.getfield 47) 3 116 := ⟨by decide +kernel, rfl⟩
theorem d_Rf_rests_116 : DI M_Rf_rests 116 (.iconst 2) 1 117 := ⟨by decide +kernel, rfl⟩
theorem d_Rf_rests_117 : DI M_Rf_rests 117 (.iload 5) 2 119 := ⟨by decide +kernel, rfl⟩
theorem d_Rf_rests_119 : DI M_Rf_rests 119 (.imul) 1 120 := ⟨by decide +kernel, rfl⟩
theorem d_Rf_rests_120 : DI M_Rf_rests 120 (.iconst 1) 1 121 := ⟨by decide +kernel, rfl⟩
theorem d_Rf_rests_121 : DI M_Rf_rests 121 (.iadd) 1 122 := ⟨by decide +kernel, rfl⟩
theorem d_Rf_rests_122 : DI M_Rf_rests 122 (.aload_n 0) 1 123 := ⟨by decide +kernel, rfl⟩
theorem d_Rf_rests_123 : DI M_Rf_rests 123 (.iload_n 1) 1 124 := ⟨by decide +kernel, rfl⟩
theorem d_Rf_rests_124 : DI M_Rf_rests 124 (.iload_n 3) 1 125 := ⟨by decide +kernel, rfl⟩
theorem d_Rf_rests_125 : DI M_Rf_rests 125 (.iload 6) 2 127 := ⟨by decide +kernel, rfl⟩
theorem d_Rf_rests_127 : DI M_Rf_rests 127 (.invokevirtual 123) 3 130 := ⟨by decide +kernel, rfl⟩
theorem d_Rf_rests_130 : DJ M_Rf_rests 130 (.ifCond .eq 7) 7 3 133 137 := ⟨by decide +kernel, rfl, rfl⟩
theorem d_Rf_rests_133 : DI M_Rf_rests 133 (.iconst 2) 1 134 := ⟨by decide +kernel, rfl⟩
theorem d_Rf_rests_134 : DJ M_Rf_rests 134 (.goto 4) 4 3 137 138 := ⟨by decide +kernel, rfl, rfl⟩
theorem d_Rf_rests_137 : DI M_Rf_rests 137 (.iconst 0) 1 138 := ⟨by decide +kernel, rfl⟩
theorem d_Rf_rests_138 : DI M_Rf_rests 138 (.iload 5) 2 140 := ⟨by decide +kernel, rfl⟩
theorem d_Rf_rests_140 : DI M_Rf_rests 140 (.iconst 2) 1 141 := ⟨by decide +kernel, rfl⟩
theorem d_Rf_rests_141 : DI M_Rf_rests 141 (.irem) 1 142 := ⟨by decide +kernel, rfl⟩
theorem d_Rf_rests_142 : DI M_Rf_rests 142 (.isub) 1 143 := ⟨by decide +kernel, rfl⟩
theorem d_Rf_rests_143 : DI M_Rf_rests 143 (.iastore) 1 144 := ⟨by decide +kernel, rfl⟩
theorem d_Rf_rests_144 : DI M_Rf_rests 144 (.iinc 5 1) 3 147 := ⟨by decide +kernel, rfl⟩
theorem d_Rf_rests_147 : DJ M_Rf_rests 147 (.goto (-94)) (-94) 3 150 53 := ⟨by decide +kernel, rfl, rfl⟩
theorem d_Rf_rests_150 : DI M_Rf_rests 150 (.aload_n 0) 1 151 := ⟨by decide +kernel, rfl⟩
theorem d_Rf_rests_151 : DI M_Rf_rests 151 (.iconst 0) 1 152 := ⟨by decide +kernel, rfl⟩
theorem d_Rf_rests_152 : DI M_Rf_rests 152 (.putfield 234) 3 155 := ⟨by decide +kernel, rfl⟩
theorem d_Rf_rests_155 : DI M_Rf_rests 155 (.aload_n 0) 1 156 := ⟨by decide +kernel, rfl⟩
theorem d_Rf_rests_156 : DI M_Rf_rests 156 (.bipush (-9)) 2 158 := ⟨by decide +kernel, rfl⟩
theorem d_Rf_rests_158 : DI M_Rf_rests 158 (.putfield 237) 3 161 := ⟨by decide +kernel, rfl⟩
theorem d_Rf_rests_161 : DI M_Rf_rests 161 (.iconst 0) 1 162 := ⟨by decide +kernel, rfl⟩
theorem d_Rf_rests_162 : DI M_Rf_rests 162 (.istore 5) 2 164 := ⟨by decide +kernel, rfl⟩
theorem d_Rf_rests_164 : DI M_Rf_rests 164 (.iload 5) 2 166 := ⟨by decide +kernel, rfl⟩
theorem d_Rf_rests_166 : DI M_Rf_rests 166 (.iconst 4) 1 167 := ⟨by decide +kernel, rfl⟩
theorem d_Rf_rests_167 : DJ M_Rf_rests 167 (.if_icmp .ge 120) 120 3 170 287 := ⟨by decide +kernel, rfl, rfl⟩
theorem d_Rf_rests_170 : DI M_Rf_rests 170 (.aload_n 0) 1 171 := ⟨by decide +kernel, rfl⟩
theorem d_Rf_rests_171 : DI M_Rf_rests 171 (.getfield 47) 3 174 := ⟨by decide +kernel, rfl⟩
theorem d_Rf_rests_174 : DI M_Rf_rests 174 (.iconst 2) 1 175 := ⟨by decide +kernel, rfl⟩
theorem d_Rf_rests_175 : DI M_Rf_rests 175 (.iload 5) 2 177 := ⟨by decide +kernel, rfl⟩
theorem d_Rf_rests_177 : DI M_Rf_rests 177 (.iconst 2) 1 178 := ⟨by decide +kernel, rfl⟩
theorem d_Rf_rests_178 : DI M_Rf_rests 178 (.ixor) 1 179 := ⟨by decide +kernel, rfl⟩
theorem d_Rf_rests_179 : DI M_Rf_rests 179 (.imul) 1 180 := ⟨by decide +kernel, rfl⟩
theorem d_Rf_rests_180 : DI M_Rf_rests 180 (.iaload) 1 181 := ⟨by decide +kernel, rfl⟩
theorem d_Rf_rests_181 : DI M_Rf_rests 181 (.aload_n 0) 1 182 := ⟨by decide +kernel, rfl⟩
theorem d_Rf_rests_182 : DI M_Rf_rests 182 (.getfield 47) 3 185 := ⟨by decide +kernel, rfl⟩
theorem d_Rf_rests_185 : DI M_Rf_rests 185 (.iconst 2) 1 186 := ⟨by decide +kernel, rfl⟩
theorem d_Rf_rests_186 : DI M_Rf_rests 186 (.iload 5) 2 188 := ⟨by decide +kernel, rfl⟩
theorem d_Rf_rests_188 : DI M_Rf_rests 188 (.imul) 1 189 := ⟨by decide +kernel, rfl⟩
theorem d_Rf_rests_189 : DI M_Rf_rests 189 (.iaload) 1 190 := ⟨by decide +kernel, rfl⟩
theorem d_Rf_rests_190 : DJ M_Rf_rests 190 (.if_icmp .gt 34) 34 3 193 224 := ⟨by decide +kernel, rfl, rfl⟩
theorem d_Rf_rests_193 : DI M_Rf_rests 193 (.aload_n 0) 1 194 := ⟨by decide +kernel, rfl⟩
theorem d_Rf_rests_194 : DI M_Rf_rests 194 (.getfield 47) 3 197 := ⟨by decide +kernel, rfl⟩
theorem d_Rf_rests_197 : DI M_Rf_rests 197 (.iconst 2) 1 198 := ⟨by decide +kernel, rfl⟩
theorem d_Rf_rests_198 : DI M_Rf_rests 198 (.iload 5) 2 200 := ⟨by decide +kernel, rfl⟩
theorem d_Rf_rests_200 : DI M_Rf_rests 200 (.iconst 1) 1 201 := ⟨by decide +kernel, rfl⟩
theorem d_Rf_rests_201 : DI M_Rf_rests 201 (.ixor) 1 202 := ⟨by decide +kernel, rfl⟩
theorem d_Rf_rests_202 : DI M_Rf_rests 202 (.imul) 1 203 := ⟨by decide +kernel, rfl⟩
theorem d_Rf_rests_203 : DI M_Rf_rests 203 (.iconst 1) 1 204 := ⟨by decide +kernel, rfl⟩
theorem d_Rf_rests_204 : DI M_Rf_rests 204 (.iadd) 1 205 := ⟨by decide +kernel, rfl⟩
theorem d_Rf_rests_205 : DI M_Rf_rests 205 (.iaload) 1 206 := ⟨by decide +kernel, rfl⟩
theorem d_Rf_rests_206 : DI M_Rf_rests 206 (.aload_n 0) 1 207 := ⟨by decide +kernel, rfl⟩
theorem d_Rf_rests_207 : DI M_Rf_rests 207 (.getfield 47) 3 210 := ⟨by decide +kernel, rfl⟩
theorem d_Rf_rests_210 : DI M_Rf_rests 210 (.iconst 2) 1 211 := ⟨by decide +kernel, rfl⟩
theorem d_Rf_rests_211 : DI M_Rf_rests 211 (.iload 5) 2 213 := ⟨by decide +kernel, rfl⟩
theorem d_Rf_rests_213 : DI M_Rf_rests 213 (.imul) 1 214 := ⟨by decide +kernel, rfl⟩
theorem d_Rf_rests_214 : DI M_Rf_rests 214 (.iconst 1) 1 215 := ⟨by decide +kernel, rfl⟩
theorem d_Rf_rests_215 : DI M_Rf_rests 215 (.iadd) 1 216 := ⟨by decide +kernel, rfl⟩
theorem d_Rf_rests_216 : DI M_Rf_rests 216 (.iaload) 1 217 := ⟨by decide +kernel, rfl⟩
theorem d_Rf_rests_217 : DJ M_Rf_rests 217 (.if_icmp .gt 7) 7 3 220 224 := ⟨by decide +kernel, rfl, rfl⟩
theorem d_Rf_rests_220 : DI M_Rf_rests 220 (.iconst 1) 1 221 := ⟨by decide +kernel, rfl⟩
theorem d_Rf_rests_221 : DJ M_Rf_rests 221 (.goto 4) 4 3 224 225 := ⟨by decide +kernel, rfl, rfl⟩
theorem d_Rf_rests_224 : DI M_Rf_rests 224 (.iconst 0) 1 225 := ⟨by decide +kernel, rfl⟩
theorem d_Rf_rests_225 : DI M_Rf_rests 225 (.istore 6) 2 227 := ⟨by decide +kernel, rfl⟩
theorem d_Rf_rests_227 : DI M_Rf_rests 227 (.aload_n 0) 1 228 := ⟨by decide +kernel, rfl⟩
theorem d_Rf_rests_228 : DI M_Rf_rests 228 (.iload 6) 2 230 := ⟨by decide +kernel, rfl⟩
theorem d_Rf_rests_230 : DJ M_Rf_rests 230 (.ifCond .eq 25) 25 3 233 255 := ⟨by decide +kernel, rfl, rfl⟩
theorem d_Rf_rests_233 : DI M_Rf_rests 233 (.aload_n 0) 1 234 := ⟨by decide +kernel, rfl⟩
theorem d_Rf_rests_234 : DI M_Rf_rests 234 (.getfield 234) 3 237 := ⟨by decide +kernel, rfl⟩
theorem d_Rf_rests_237 : DJ M_Rf_rests 237 (.ifCond .ne 18) 18 3 240 255 := ⟨by decide +kernel, rfl, rfl⟩
theorem d_Rf_rests_240 : DI M_Rf_rests 240 (.bipush 10) 2 242 := ⟨by decide +kernel, rfl⟩
theorem d_Rf_rests_242 : DI M_Rf_rests 242 (.iload 5) 2 244 := ⟨by decide +kernel, rfl⟩
theorem d_Rf_rests_244 : DI M_Rf_rests 244 (.iconst 2) 1 245 := ⟨by decide +kernel, rfl⟩
theorem d_Rf_rests_245 : DI M_Rf_rests 245 (.idiv) 1 246 := ⟨by decide +kernel, rfl⟩
theorem d_Rf_rests_246 : DI M_Rf_rests 246 (.imul) 1 247 := ⟨by decide +kernel, rfl⟩
theorem d_Rf_rests_247 : DI M_Rf_rests 247 (.iload 5) 2 249 := ⟨by decide +kernel, rfl⟩
theorem d_Rf_rests_249 : DI M_Rf_rests 249 (.iconst 2) 1 250 := ⟨by decide +kernel, rfl⟩
theorem d_Rf_rests_250 : DI M_Rf_rests 250 (.irem) 1 251 := ⟨by decide +kernel, rfl⟩
theorem d_Rf_rests_251 : DI M_Rf_rests 251 (.iadd) 1 252 := ⟨by decide +kernel, rfl⟩
theorem d_Rf_rests_252 : DJ M_Rf_rests 252 (.goto 7) 7 3 255 259 := ⟨by decide +kernel, rfl, rfl⟩
theorem d_Rf_rests_255 : DI M_Rf_rests 255 (.aload_n 0) 1 256 := ⟨by decide +kernel, rfl⟩
theorem d_Rf_rests_256 : DI M_Rf_rests 256 (.getfield 237) 3 259 := ⟨by decide +kernel, rfl⟩
theorem d_Rf_rests_259 : DI M_Rf_rests 259 (.putfield 237) 3 262 := ⟨by decide +kernel, rfl⟩
theorem d_Rf_rests_262 : DI M_Rf_rests 262 (.aload_n 0) 1 263 := ⟨by decide +kernel, rfl⟩
theorem d_Rf_rests_263 : DI M_Rf_rests 263 (.dup) 1 264 := ⟨by decide +kernel, rfl⟩
theorem d_Rf_rests_264 : DI M_Rf_rests 264 (.getfield 234) 3 267 := ⟨by decide +kernel, rfl⟩
theorem d_Rf_rests_267 : DI M_Rf_rests 267 (.iload 6) 2 269 := ⟨by decide +kernel, rfl⟩
theorem d_Rf_rests_269 : DJ M_Rf_rests 269 (.ifCond .eq 7) 7 3 272 276 := ⟨by decide +kernel, rfl, rfl⟩
theorem d_Rf_rests_272 : DI M_Rf_rests 272 (.iconst 1) 1 273 := ⟨by decide +kernel, rfl⟩
theorem d_Rf_rests_273 : DJ M_Rf_rests 273 (.goto 4) 4 3 276 277 := ⟨by decide +kernel, rfl, rfl⟩
theorem d_Rf_rests_276 : DI M_Rf_rests 276 (.iconst 0) 1 277 := ⟨by decide +kernel, rfl⟩
theorem d_Rf_rests_277 : DI M_Rf_rests 277 (.iadd) 1 278 := ⟨by decide +kernel, rfl⟩
theorem d_Rf_rests_278 : DI M_Rf_rests 278 (.putfield 234) 3 281 := ⟨by decide +kernel, rfl⟩
theorem d_Rf_rests_281 : DI M_Rf_rests 281 (.iinc 5 1) 3 284 := ⟨by decide +kernel, rfl⟩
theorem d_Rf_rests_284 : DJ M_Rf_rests 284 (.goto (-120)) (-120) 3 287 164 := ⟨by decide +kernel, rfl, rfl⟩
theorem d_Rf_rests_287 : DI M_Rf_rests 287 (.iload 4) 2 289 := ⟨by decide +kernel, rfl⟩
theorem d_Rf_rests_289 : DJ M_Rf_rests 289 (.ifCond .ne 10) 10 3 292 299 := ⟨by decide +kernel, rfl, rfl⟩
theorem d_Rf_rests_292 : DI M_Rf_rests 292 (.aload_n 0) 1 293 := ⟨by decide +kernel, rfl⟩
theorem d_Rf_rests_293 : DI M_Rf_rests 293 (.getfield 234) 3 296 := ⟨by decide +kernel, rfl⟩
theorem d_Rf_rests_296 : DJ M_Rf_rests 296 (.goto 7) 7 3 299 303 := ⟨by decide +kernel, rfl, rfl⟩
theorem d_Rf_rests_299 : DI M_Rf_rests 299 (.aload_n 0) 1 300 := ⟨by decide +kernel, rfl⟩
theorem d_Rf_rests_300 : DI M_Rf_rests 300 (.getfield 237) 3 303 := ⟨by decide +kernel, rfl⟩
theorem d_Rf_rests_303 : DI M_Rf_rests 303 (.ireturn) 1 304 := ⟨by decide +kernel, rfl⟩
theorem d_Rf_glints_0 : DI M_Rf_glints 0 (.aload_n 0) 1 1 := ⟨by decide +kernel, rfl⟩
theorem d_Rf_glints_1 : DI M_Rf_glints 1 (.iconst 0) 1 2 := ⟨by decide +kernel, rfl⟩
theorem d_Rf_glints_2 : DI M_Rf_glints 2 (.putfield 59) 3 5 := ⟨by decide +kernel, rfl⟩
theorem d_Rf_glints_5 : DI M_Rf_glints 5 (.aload_n 0) 1 6 := ⟨by decide +kernel, rfl⟩
theorem d_Rf_glints_6 : DI M_Rf_glints 6 (.iload_n 1) 1 7 := ⟨by decide +kernel, rfl⟩
theorem d_Rf_glints_7 : DI M_Rf_glints 7 (.invokevirtual 149) 3 10 := ⟨by decide +kernel, rfl⟩
theorem d_Rf_glints_10 : DJ M_Rf_glints 10 (.ifCond .eq 5) 5 3 13 15 := ⟨by decide +kernel, rfl, rfl⟩
theorem d_Rf_glints_13 : DI M_Rf_glints 13 (.iconst (-1)) 1 14 := ⟨by decide +kernel, rfl⟩
theorem d_Rf_glints_14 : DI M_Rf_glints 14 (.ireturn) 1 15 := ⟨by decide +kernel, rfl⟩
theorem d_Rf_glints_15 : DI M_Rf_glints 15 (.iload_n 2) 1 16 := ⟨by decide +kernel, rfl⟩
theorem d_Rf_glints_16 : DI M_Rf_glints 16 (.i2l) 1 17 := ⟨by decide +kernel, rfl⟩
theorem d_Rf_glints_17 : DI M_Rf_glints 17 (.lconst 0) 1 18 := ⟨by decide +kernel, rfl⟩
theorem d_Rf_glints_18 : DI M_Rf_glints 18 (.ldc2_w 175) 3 21 := ⟨by decide +kernel, rfl⟩
theorem d_Rf_glints_21 : DI M_Rf_glints 21 (.invokestatic 66) 3 24 := ⟨by decide +kernel, rfl⟩
theorem d_Rf_glints_24 : DJ M_Rf_glints 24 (.ifCond .eq 28) 28 3 27 52 := ⟨by decide +kernel, rfl, rfl⟩
theorem d_Rf_glints_27 : DI M_Rf_glints 27 (.iload_n 3) 1 28 := ⟨by decide +kernel, rfl⟩
theorem d_Rf_glints_28 : DI M_Rf_glints 28 (.i2l) 1 29 := ⟨by decide +kernel, rfl⟩
theorem d_Rf_glints_29 : DI M_Rf_glints 29 (.lconst 1) 1 30 := ⟨by decide +kernel, rfl⟩
theorem d_Rf_glints_30 : DI M_Rf_glints 30 (.ldc2_w 240) 3 33 := ⟨by decide +kernel, rfl⟩
theorem d_Rf_glints_33 : DI M_Rf_glints 33 (.invokestatic 66) 3 36 := ⟨by decide +kernel, rfl⟩
theorem d_Rf_glints_36 : DJ M_Rf_glints 36 (.ifCond .eq 16) 16 3 39 52 := ⟨by decide +kernel, rfl, rfl⟩
theorem d_Rf_glints_39 : DI M_Rf_glints 39 (.iload 4) 2 41 := ⟨by decide +kernel, rfl⟩
theorem d_Rf_glints_41 : DI M_Rf_glints 41 (.i2l) 1 42 := ⟨by decide +kernel, rfl⟩
theorem d_Rf_glints_42 : DI M_Rf_glints 42 (.lconst 0) 1 43 := ⟨by decide +kernel, rfl⟩
theorem d_Rf_glints_43 : DI M_Rf_glints 43 (.ldc2_w 242) 3 46 := ⟨by decide +kernel, rfl⟩
theorem d_Rf_glints_46 : DI M_Rf_glints 46 (.invokestatic 66) 3 49 := ⟨by decide +kernel, rfl⟩
theorem d_Rf_glints_49 : DJ M_Rf_glints 49 (.ifCond .ne 6) 6 3 52 55 := ⟨by decide +kernel, rfl, rfl⟩
theorem d_Rf_glints_52 : DI M_Rf_glints 52 (.bipush (-2)) 2 54 := ⟨by decide +kernel, rfl⟩
theorem d_Rf_glints_54 : DI M_Rf_glints 54 (.ireturn) 1 55 := ⟨by decide +kernel, rfl⟩
theorem d_Rf_glints_55 : DI M_Rf_glints 55 (.iconst 0) 1 56 := ⟨by decide +kernel, rfl⟩
theorem d_Rf_glints_56 : DI M_Rf_glints 56 (.istore 6) 2 58 := ⟨by decide +kernel, rfl⟩
theorem d_Rf_glints_58 : DI M_Rf_glints 58 (.iconst 0) 1 59 := ⟨by decide +kernel, rfl⟩
theorem d_Rf_glints_59 : DI M_Rf_glints 59 (.istore 7) 2 61 := ⟨by decide +kernel, rfl⟩
theorem d_Rf_glints_61 : DI M_Rf_glints 61 (.iload 7) 2 63 := ⟨by decide +kernel, rfl⟩
theorem d_Rf_glints_63 : DI M_Rf_glints 63 (.iconst 1) 1 64 := ⟨by decide +kernel, rfl⟩
theorem d_Rf_glints_64 : DI M_Rf_glints 64 (.iload_n 3) 1 65 := ⟨by decide +kernel, rfl⟩
theorem d_Rf_glints_65 : DI M_Rf_glints 65 (.ishl) 1 66 := ⟨by decide +kernel, rfl⟩
theorem d_Rf_glints_66 : DJ M_Rf_glints 66 (.if_icmp .ge 141) 141 3 69 207 := ⟨by decide +kernel, rfl, rfl⟩
theorem d_Rf_glints_69 : DI M_Rf_glints 69 (.aload_n 0) 1 70 := ⟨by decide +kernel, rfl⟩
theorem d_Rf_glints_70 : DI M_Rf_glints 70 (.invokevirtual 183) 3 73 := ⟨by decide +kernel, rfl⟩
theorem d_Rf_glints_73 : DI M_Rf_glints 73 (.aload_n 0) 1 74 := ⟨by decide +kernel, rfl⟩
theorem d_Rf_glints_74 : DI M_Rf_glints 74 (.aload_n 0) 1 75 := ⟨by decide +kernel, rfl⟩
theorem d_Rf_glints_75 : DI M_Rf_glints 75 (.getfield 28) 3 78 := ⟨by decide +kernel, rfl⟩
theorem d_Rf_glints_78 : DI M_Rf_glints 78 (.iload_n 1) 1 79 := ⟨by decide +kernel, rfl⟩
theorem d_Rf_glints_79 : DI M_Rf_glints 79 (.bipush 63) 2 81 := ⟨by decide +kernel, rfl⟩
theorem d_Rf_glints_81 : DI M_Rf_glints 81 (.invokevirtual 135) 3 84 := ⟨by decide +kernel, rfl⟩
theorem d_Rf_glints_84 : DI M_Rf_glints 84 (.iload_n 2) 1 85 := ⟨by decide +kernel, rfl⟩
theorem d_Rf_glints_85 : DI M_Rf_glints 85 (.invokestatic 127) 3 88 := ⟨by decide +kernel, rfl⟩
theorem d_Rf_glints_88 : DI M_Rf_glints 88 (.istore 8) 2 90 := ⟨by decide +kernel, rfl⟩
theorem d_Rf_glints_90 : DI M_Rf_glints 90 (.iconst 0) 1 91 := ⟨by decide +kernel, rfl⟩
theorem d_Rf_glints_91 : DI M_Rf_glints 91 (.istore 9) 2 93 := ⟨by decide +kernel, rfl⟩
theorem d_Rf_glints_93 : DI M_Rf_glints 93 (.iload 9) 2 95 := ⟨by decide +kernel, rfl⟩
theorem d_Rf_glints_95 : DI M_Rf_glints 95 (.iload_n 3) 1 96 := ⟨by decide +kernel, rfl⟩
theorem d_Rf_glints_96 : DJ M_Rf_glints 96 (.if_icmp .ge 64) 64 3 99 160 := ⟨by decide +kernel, rfl, rfl⟩
theorem d_Rf_glints_99 : DI M_Rf_glints 99 (.aload_n 0) 1 100 := ⟨by decide +kernel, rfl⟩
theorem d_Rf_glints_100 : DI M_Rf_glints 100 (.getfield 28) 3 103 := ⟨by decide +kernel, rfl⟩
theorem d_Rf_glints_103 : DI M_Rf_glints 103 (.bipush 12) 2 105 := ⟨by decide +kernel, rfl⟩
theorem d_Rf_glints_105 : DI M_Rf_glints 105 (.aload_n 0) 1 106 := ⟨by decide +kernel, rfl⟩
theorem d_Rf_glints_106 : DI M_Rf_glints 106 (.getfield 28) 3 109 := ⟨by decide +kernel, rfl⟩
theorem d_Rf_glints_109 : DI M_Rf_glints 109 (.bipush 12) 2 111 := ⟨by decide +kernel, rfl⟩
theorem d_Rf_glints_111 : DI M_Rf_glints 111 (.iaload) 1 112 := ⟨by decide +kernel, rfl⟩
theorem d_Rf_glints_112 : DI M_Rf_glints 112 (.iload 7) 2 114 := ⟨by decide +kernel, rfl⟩
theorem d_Rf_glints_114 : DI M_Rf_glints 114 (.iload 9) 2 116 := ⟨by decide +kernel, rfl⟩
theorem d_Rf_glints_116 : DI M_Rf_glints 116 (.ishr) 1 117 := ⟨by decide +kernel, rfl⟩
theorem d_Rf_glints_117 : DI M_Rf_glints 117 (.iconst 1) 1 118 := ⟨by decide +kernel, rfl⟩
theorem d_Rf_glints_118 : DI M_Rf_glints 118 (.iand) 1 119 := ⟨by decide +kernel, rfl⟩
theorem d_Rf_glints_119 : DI M_Rf_glints 119 (.iadd) 1 120 := ⟨by decide +kernel, rfl⟩
theorem d_Rf_glints_120 : DI M_Rf_glints 120 (.bipush 8) 2 122 := ⟨by decide +kernel, rfl⟩
theorem d_Rf_glints_122 : DI M_Rf_glints 122 (.irem) 1 123 := ⟨by decide +kernel, rfl⟩
theorem d_Rf_glints_123 : DI M_Rf_glints 123 (.iastore) 1 124 := ⟨by decide +kernel, rfl⟩
theorem d_Rf_glints_124 : DI M_Rf_glints 124 (.iload 8) 2 126 := ⟨by decide +kernel, rfl⟩
theorem d_Rf_glints_126 : DJ M_Rf_glints 126 (.ifCond .ne 21) 21 3 129 147 := ⟨by decide +kernel, rfl, rfl⟩
theorem d_Rf_glints_129 : DI M_Rf_glints 129 (.aload_n 0) 1 130 := ⟨by decide +kernel, rfl⟩
theorem d_Rf_glints_130 : DI M_Rf_glints 130 (.aload_n 0) 1 131 := ⟨by decide +kernel, rfl⟩
theorem d_Rf_glints_131 : DI M_Rf_glints 131 (.getfield 28) 3 134 := ⟨by decide +kernel, rfl⟩
theorem d_Rf_glints_134 : DI M_Rf_glints 134 (.iload_n 1) 1 135 := ⟨by decide +kernel, rfl⟩
theorem d_Rf_glints_135 : DI M_Rf_glints 135 (.bipush 63) 2 137 := ⟨by decide +kernel, rfl⟩
theorem d_Rf_glints_137 : DI M_Rf_glints 137 (.invokevirtual 135) 3 140 := ⟨by decide +kernel, rfl⟩
theorem d_Rf_glints_140 : DI M_Rf_glints 140 (.iload_n 2) 1 141 := ⟨by decide +kernel, rfl⟩
theorem d_Rf_glints_141 : DI M_Rf_glints 141 (.invokestatic 127) 3 144 := ⟨by decide +kernel, rfl⟩
theorem d_Rf_glints_144 : DJ M_Rf_glints 144 (.ifCond .eq 7) 7 3 147 151 := ⟨by decide +kernel, rfl, rfl⟩
theorem d_Rf_glints_147 : DI M_Rf_glints 147 (.iconst 1) 1 148 := ⟨by decide +kernel, rfl⟩
theorem d_Rf_glints_148 : DJ M_Rf_glints 148 (.goto 4) 4 3 151 152 := ⟨by decide +kernel, rfl, rfl⟩
theorem d_Rf_glints_151 : DI M_Rf_glints 151 (.iconst 0) 1 152 := ⟨by decide +kernel, rfl⟩
theorem d_Rf_glints_152 : DI M_Rf_glints 152 (.istore 8) 2 154 := ⟨by decide +kernel, rfl⟩
theorem d_Rf_glints_154 : DI M_Rf_glints 154 (.iinc 9 1) 3 157 := ⟨by decide +kernel, rfl⟩
theorem d_Rf_glints_157 : DJ M_Rf_glints 157 (.goto (-64)) (-64) 3 160 93 := ⟨by decide +kernel, rfl, rfl⟩
theorem d_Rf_glints_160 : DI M_Rf_glints 160 (.iload 7) 2 162 := ⟨by decide +kernel, rfl⟩
theorem d_Rf_glints_162 : DI M_Rf_glints 162 (.invokestatic 195) 3 165 := ⟨by decide +kernel, rfl⟩
theorem d_Rf_glints_165 : DI M_Rf_glints 165 (.istore 9) 2 167 := ⟨by decide +kernel, rfl⟩
theorem d_Rf_glints_167 : DI M_Rf_glints 167 (.iload 6) 2 169 := ⟨by decide +kernel, rfl⟩
theorem d_Rf_glints_169 : DI M_Rf_glints 169 (.iload 8) 2 171 := ⟨by decide +kernel, rfl⟩
theorem d_Rf_glints_171 : DJ M_Rf_glints 171 (.ifCond .eq 26) 26 3 174 197 := ⟨by decide +kernel, rfl, rfl⟩
theorem d_Rf_glints_174 : DI M_Rf_glints 174 (.iload 4) 2 176 := ⟨by decide +kernel, rfl⟩
theorem d_Rf_glints_176 : DI M_Rf_glints 176 (.iload 9) 2 178 := ⟨by decide +kernel, rfl⟩
theorem d_Rf_glints_178 : DI M_Rf_glints 178 (.invokestatic 186) 3 181 := ⟨by decide +kernel, rfl⟩
theorem d_Rf_glints_181 : DI M_Rf_glints 181 (.bipush 10) 2 183 := ⟨by decide +kernel, rfl⟩
theorem d_Rf_glints_183 : DI M_Rf_glints 183 (.iload 4) 2 185 := ⟨by decide +kernel, rfl⟩
theorem d_Rf_glints_185 : DI M_Rf_glints 185 (.isub) 1 186 := ⟨by decide +kernel, rfl⟩
theorem d_Rf_glints_186 : DI M_Rf_glints 186 (.iload_n 3) 1 187 := ⟨by decide +kernel, rfl⟩
theorem d_Rf_glints_187 : DI M_Rf_glints 187 (.iload 9) 2 189 := ⟨by decide +kernel, rfl⟩
theorem d_Rf_glints_189 : DI M_Rf_glints 189 (.isub) 1 190 := ⟨by decide +kernel, rfl⟩
theorem d_Rf_glints_190 : DI M_Rf_glints 190 (.invokestatic 186) 3 193 := ⟨by decide +kernel, rfl⟩
theorem d_Rf_glints_193 : DI M_Rf_glints 193 (.imul) 1 194 := ⟨by decide +kernel, rfl⟩
theorem d_Rf_glints_194 : DJ M_Rf_glints 194 (.goto 4) 4 3 197 198 := ⟨by decide +kernel, rfl, rfl⟩
theorem d_Rf_glints_197 : DI M_Rf_glints 197 (.iconst 0) 1 198 := ⟨by decide +kernel, rfl⟩
theorem d_Rf_glints_198 : DI M_Rf_glints 198 (.iadd) 1 199 := ⟨by decide +kernel, rfl⟩
theorem d_Rf_glints_199 : DI M_Rf_glints 199 (.istore 6) 2 201 := ⟨by decide +kernel, rfl⟩
theorem d_Rf_glints_201 : DI M_Rf_glints 201 (.iinc 7 1) 3 204 := ⟨by decide +kernel, rfl⟩
theorem d_Rf_glints_204 : DJ M_Rf_glints 204 (.goto (-143)) (-143) 3 207 61 := ⟨by decide +kernel, rfl, rfl⟩
theorem d_Rf_glints_207 : DI M_Rf_glints 207 (.iload 6) 2 209 := ⟨by decide +kernel, rfl⟩
theorem d_Rf_glints_209 : DI M_Rf_glints 209 (.bipush 10) 2 211 := ⟨by decide +kernel, rfl⟩
theorem d_Rf_glints_211 : DI M_Rf_glints 211 (.iload_n 3) 1 212 := ⟨by decide +kernel, rfl⟩
theorem d_Rf_glints_212 : DI M_Rf_glints 212 (.invokestatic 186) 3 215 := ⟨by decide +kernel, rfl⟩
theorem d_Rf_glints_215 : DI M_Rf_glints 215 (.iload 5) 2 217 := ⟨by decide +kernel, rfl⟩
theorem d_Rf_glints_217 : DI M_Rf_glints 217 (.invokestatic 213) 3 220 := ⟨by decide +kernel, rfl⟩
theorem d_Rf_glints_220 : DI M_Rf_glints 220 (.ireturn) 1 221 := ⟨by decide +kernel, rfl⟩
theorem d_Rf_seed_0 : DI M_Rf_seed 0 (.aload_n 0) 1 1 := ⟨by decide +kernel, rfl⟩
theorem d_Rf_seed_1 : DI M_Rf_seed 1 (.iconst 0) 1 2 := ⟨by decide +kernel, rfl⟩
theorem d_Rf_seed_2 : DI M_Rf_seed 2 (.putfield 59) 3 5 := ⟨by decide +kernel, rfl⟩
theorem d_Rf_seed_5 : DI M_Rf_seed 5 (.aload_n 0) 1 6 := ⟨by decide +kernel, rfl⟩
theorem d_Rf_seed_6 : DI M_Rf_seed 6 (.getfield 244) 3 9 := ⟨by decide +kernel, rfl⟩
theorem d_Rf_seed_9 : DI M_Rf_seed 9 (.lstore_n 3) 1 10 := ⟨by decide +kernel, rfl⟩
theorem d_Rf_seed_10 : DI M_Rf_seed 10 (.aload_n 0) 1 11 := ⟨by decide +kernel, rfl⟩
theorem d_Rf_seed_11 : DI M_Rf_seed 11 (.lload_n 1) 1 12 := ⟨by decide +kernel, rfl⟩
theorem d_Rf_seed_12 : DI M_Rf_seed 12 (.putfield 244) 3 15 := ⟨by decide +kernel, rfl⟩
theorem d_Rf_seed_15 : DI M_Rf_seed 15 (.lload_n 3) 1 16 := ⟨by decide +kernel, rfl⟩
theorem d_Rf_seed_16 : DI M_Rf_seed 16 (.lreturn) 1 17 := ⟨by decide +kernel, rfl⟩
theorem d_Rf_years_0 : DI M_Rf_years 0 (.aload_n 0) 1 1 := ⟨by decide +kernel, rfl⟩
theorem d_Rf_years_1 : DI M_Rf_years 1 (.iconst 0) 1 2 := ⟨by decide +kernel, rfl⟩
theorem d_Rf_years_2 : DI M_Rf_years 2 (.putfield 59) 3 5 := ⟨by decide +kernel, rfl⟩
theorem d_Rf_years_5 : DI M_Rf_years 5 (.iload_n 1) 1 6 := ⟨by decide +kernel, rfl⟩
theorem d_Rf_years_6 : DI M_Rf_years 6 (.i2l) 1 7 := ⟨by decide +kernel, rfl⟩
theorem d_Rf_years_7 : DI M_Rf_years 7 (.lconst 1) 1 8 := ⟨by decide +kernel, rfl⟩
theorem d_Rf_years_8 : DI M_Rf_years 8 (.ldc2_w 248) 3 11 := ⟨by decide +kernel, rfl⟩
theorem d_Rf_years_11 : DI M_Rf_years 11 (.invokestatic 66) 3 14 := ⟨by decide +kernel, rfl⟩
theorem d_Rf_years_14 : DJ M_Rf_years 14 (.ifCond .ne 6) 6 3 17 20 := ⟨by decide +kernel, rfl, rfl⟩
theorem d_Rf_years_17 : DI M_Rf_years 17 (.bipush (-2)) 2 19 := ⟨by decide +kernel, rfl⟩
theorem d_Rf_years_19 : DI M_Rf_years 19 (.ireturn) 1 20 := ⟨by decide +kernel, rfl⟩
theorem d_Rf_years_20 : DI M_Rf_years 20 (.aload_n 0) 1 21 := ⟨by decide +kernel, rfl⟩
theorem d_Rf_years_21 : DI M_Rf_years 21 (.invokevirtual 183) 3 24 := ⟨by decide +kernel, rfl⟩
theorem d_Rf_years_24 : DI M_Rf_years 24 (.iconst 0) 1 25 := ⟨by decide +kernel, rfl⟩
theorem d_Rf_years_25 : DI M_Rf_years 25 (.istore_n 2) 1 26 := ⟨by decide +kernel, rfl⟩
theorem d_Rf_years_26 : DI M_Rf_years 26 (.iconst 0) 1 27 := ⟨by decide +kernel, rfl⟩
theorem d_Rf_years_27 : DI M_Rf_years 27 (.istore_n 3) 1 28 := ⟨by decide +kernel, rfl⟩
theorem d_Rf_years_28 : DI M_Rf_years 28 (.iload_n 3) 1 29 := ⟨by decide +kernel, rfl⟩
theorem d_Rf_years_29 : DI M_Rf_years 29 (.iload_n 1) 1 30 := ⟨by decide +kernel, rfl⟩
theorem d_Rf_years_30 : DJ M_Rf_years 30 (.if_icmp .ge 105) 105 3 33 135 := ⟨by decide +kernel, rfl, rfl⟩
theorem d_Rf_years_33 : DI M_Rf_years 33 (.aload_n 0) 1 34 := ⟨by decide +kernel, rfl⟩
theorem d_Rf_years_34 : DI M_Rf_years 34 (.aload_n 0) 1 35 := ⟨by decide +kernel, rfl⟩
theorem d_Rf_years_35 : DI M_Rf_years 35 (.getfield 244) 3 38 := ⟨by decide +kernel, rfl⟩
theorem d_Rf_years_38 : DI M_Rf_years 38 (.ldc2_w 250) 3 41 := ⟨by decide +kernel, rfl⟩
theorem d_Rf_years_41 : DI M_Rf_years 41 (.lmul) 1 42 := ⟨by decide +kernel, rfl⟩
theorem d_Rf_years_42 : DI M_Rf_years 42 (.ldc2_w 252) 3 45 := ⟨by decide +kernel, rfl⟩
theorem d_Rf_years_45 : DI M_Rf_years 45 (.ladd) 1 46 := ⟨by decide +kernel, rfl⟩
theorem d_Rf_years_46 : DI M_Rf_years 46 (.putfield 244) 3 49 := ⟨by decide +kernel, rfl⟩
theorem d_Rf_years_49 : DI M_Rf_years 49 (.aload_n 0) 1 50 := ⟨by decide +kernel, rfl⟩
theorem d_Rf_years_50 : DI M_Rf_years 50 (.getfield 244) 3 53 := ⟨by decide +kernel, rfl⟩
theorem d_Rf_years_53 : DI M_Rf_years 53 (.bipush 33) 2 55 := ⟨by decide +kernel, rfl⟩
theorem d_Rf_years_55 : DI M_Rf_years 55 (.lushr) 1 56 := ⟨by decide +kernel, rfl⟩
theorem d_Rf_years_56 : DI M_Rf_years 56 (.ldc2_w 254) 3 59 := ⟨by decide +kernel, rfl⟩
theorem d_Rf_years_59 : DI M_Rf_years 59 (.lrem) 1 60 := ⟨by decide +kernel, rfl⟩
theorem d_Rf_years_60 : DI M_Rf_years 60 (.l2i) 1 61 := ⟨by decide +kernel, rfl⟩
theorem d_Rf_years_61 : DI M_Rf_years 61 (.istore 4) 2 63 := ⟨by decide +kernel, rfl⟩
theorem d_Rf_years_63 : DI M_Rf_years 63 (.iload 4) 2 65 := ⟨by decide +kernel, rfl⟩
theorem d_Rf_years_65 : DI M_Rf_years 65 (.bipush 12) 2 67 := ⟨by decide +kernel, rfl⟩
theorem d_Rf_years_67 : DJ M_Rf_years 67 (.if_icmp .lt 13) 13 3 70 80 := ⟨by decide +kernel, rfl, rfl⟩
theorem d_Rf_years_70 : DI M_Rf_years 70 (.aload_n 0) 1 71 := ⟨by decide +kernel, rfl⟩
theorem d_Rf_years_71 : DI M_Rf_years 71 (.getfield 28) 3 74 := ⟨by decide +kernel, rfl⟩
theorem d_Rf_years_74 : DI M_Rf_years 74 (.invokestatic 168) 3 77 := ⟨by decide +kernel, rfl⟩
theorem d_Rf_years_77 : DJ M_Rf_years 77 (.goto 38) 38 3 80 115 := ⟨by decide +kernel, rfl, rfl⟩
theorem d_Rf_years_80 : DI M_Rf_years 80 (.aload_n 0) 1 81 := ⟨by decide +kernel, rfl⟩
theorem d_Rf_years_81 : DI M_Rf_years 81 (.iload 4) 2 83 := ⟨by decide +kernel, rfl⟩
theorem d_Rf_years_83 : DI M_Rf_years 83 (.iconst 2) 1 84 := ⟨by decide +kernel, rfl⟩
theorem d_Rf_years_84 : DI M_Rf_years 84 (.idiv) 1 85 := ⟨by decide +kernel, rfl⟩
theorem d_Rf_years_85 : DI M_Rf_years 85 (.invokevirtual 156) 3 88 := ⟨by decide +kernel, rfl⟩
theorem d_Rf_years_88 : DJ M_Rf_years 88 (.ifCond .ne 27) 27 3 91 115 := ⟨by decide +kernel, rfl, rfl⟩
theorem d_Rf_years_91 : DI M_Rf_years 91 (.aload_n 0) 1 92 := ⟨by decide +kernel, rfl⟩
theorem d_Rf_years_92 : DI M_Rf_years 92 (.getfield 28) 3 95 := ⟨by decide +kernel, rfl⟩
theorem d_Rf_years_95 : DI M_Rf_years 95 (.iload 4) 2 97 := ⟨by decide +kernel, rfl⟩
theorem d_Rf_years_97 : DI M_Rf_years 97 (.iconst 2) 1 98 := ⟨by decide +kernel, rfl⟩
theorem d_Rf_years_98 : DI M_Rf_years 98 (.idiv) 1 99 := ⟨by decide +kernel, rfl⟩
theorem d_Rf_years_99 : DI M_Rf_years 99 (.iload 4) 2 101 := ⟨by decide +kernel, rfl⟩
theorem d_Rf_years_101 : DI M_Rf_years 101 (.iconst 2) 1 102 := ⟨by decide +kernel, rfl⟩
theorem d_Rf_years_102 : DI M_Rf_years 102 (.irem) 1 103 := ⟨by decide +kernel, rfl⟩
theorem d_Rf_years_103 : DI M_Rf_years 103 (.iconst 1) 1 104 := ⟨by decide +kernel, rfl⟩
theorem d_Rf_years_104 : DJ M_Rf_years 104 (.if_icmp .ne 7) 7 3 107 111 := ⟨by decide +kernel, rfl, rfl⟩
theorem d_Rf_years_107 : DI M_Rf_years 107 (.iconst 1) 1 108 := ⟨by decide +kernel, rfl⟩
theorem d_Rf_years_108 : DJ M_Rf_years 108 (.goto 4) 4 3 111 112 := ⟨by decide +kernel, rfl, rfl⟩
theorem d_Rf_years_111 : DI M_Rf_years 111 (.iconst 0) 1 112 := ⟨by decide +kernel, rfl⟩
theorem d_Rf_years_112 : DI M_Rf_years 112 (.invokestatic 164) 3 115 := ⟨by decide +kernel, rfl⟩
theorem d_Rf_years_115 : DI M_Rf_years 115 (.iload_n 2) 1 116 := ⟨by decide +kernel, rfl⟩
theorem d_Rf_years_116 : DI M_Rf_years 116 (.aload_n 0) 1 117 := ⟨by decide +kernel, rfl⟩
theorem d_Rf_years_117 : DI M_Rf_years 117 (.aload_n 0) 1 118 := ⟨by decide +kernel, rfl⟩
theorem d_Rf_years_118 : DI M_Rf_years 118 (.getfield 28) 3 121 := ⟨by decide +kernel, rfl⟩
theorem d_Rf_years_121 : DI M_Rf_years 121 (.invokevirtual 139) 3 124 := ⟨by decide +kernel, rfl⟩
theorem d_Rf_years_124 : DI M_Rf_years 124 (.invokestatic 195) 3 127 := ⟨by decide +kernel, rfl⟩
theorem d_Rf_years_127 : DI M_Rf_years 127 (.iadd) 1 128 := ⟨by decide +kernel, rfl⟩
theorem d_Rf_years_128 : DI M_Rf_years 128 (.istore_n 2) 1 129 := ⟨by decide +kernel, rfl⟩
theorem d_Rf_years_129 : DI M_Rf_years 129 (.iinc 3 1) 3 132 := ⟨by decide +kernel, rfl⟩
theorem d_Rf_years_132 : DJ M_Rf_years 132 (.goto (-104)) (-104) 3 135 28 := ⟨by decide +kernel, rfl, rfl⟩
theorem d_Rf_years_135 : DI M_Rf_years 135 (.iload_n 2) 1 136 := ⟨by decide +kernel, rfl⟩
theorem d_Rf_years_136 : DI M_Rf_years 136 (.ireturn) 1 137 := ⟨by decide +kernel, rfl⟩
theorem d_Rf_keep_0 : DI M_Rf_keep 0 (.aload_n 0) 1 1 := ⟨by decide +kernel, rfl⟩
theorem d_Rf_keep_1 : DI M_Rf_keep 1 (.iconst 0) 1 2 := ⟨by decide +kernel, rfl⟩
theorem d_Rf_keep_2 : DI M_Rf_keep 2 (.putfield 59) 3 5 := ⟨by decide +kernel, rfl⟩
theorem d_Rf_keep_5 : DI M_Rf_keep 5 (.iload_n 1) 1 6 := ⟨by decide +kernel, rfl⟩
theorem d_Rf_keep_6 : DI M_Rf_keep 6 (.i2l) 1 7 := ⟨by decide +kernel, rfl⟩
theorem d_Rf_keep_7 : DI M_Rf_keep 7 (.lconst 0) 1 8 := ⟨by decide +kernel, rfl⟩
theorem d_Rf_keep_8 : DI M_Rf_keep 8 (.lconst 1) 1 9 := ⟨by decide +kernel, rfl⟩
theorem d_Rf_keep_9 : DI M_Rf_keep 9 (.invokestatic 66) 3 12 := ⟨by decide +kernel, rfl⟩
theorem d_Rf_keep_12 : DJ M_Rf_keep 12 (.ifCond .ne 5) 5 3 15 17 := ⟨by decide +kernel, rfl, rfl⟩
theorem d_Rf_keep_15 : DI M_Rf_keep 15 (.iconst (-1)) 1 16 := ⟨by decide +kernel, rfl⟩
theorem d_Rf_keep_16 : DI M_Rf_keep 16 (.ireturn) 1 17 := ⟨by decide +kernel, rfl⟩
theorem d_Rf_keep_17 : DI M_Rf_keep 17 (.aload_n 0) 1 18 := ⟨by decide +kernel, rfl⟩
theorem d_Rf_keep_18 : DI M_Rf_keep 18 (.getfield 37) 3 21 := ⟨by decide +kernel, rfl⟩
theorem d_Rf_keep_21 : DI M_Rf_keep 21 (.iload_n 1) 1 22 := ⟨by decide +kernel, rfl⟩
theorem d_Rf_keep_22 : DI M_Rf_keep 22 (.iconst 1) 1 23 := ⟨by decide +kernel, rfl⟩
theorem d_Rf_keep_23 : DI M_Rf_keep 23 (.bastore) 1 24 := ⟨by decide +kernel, rfl⟩
theorem d_Rf_keep_24 : DI M_Rf_keep 24 (.iconst 0) 1 25 := ⟨by decide +kernel, rfl⟩
theorem d_Rf_keep_25 : DI M_Rf_keep 25 (.istore_n 2) 1 26 := ⟨by decide +kernel, rfl⟩
theorem d_Rf_keep_26 : DI M_Rf_keep 26 (.iload_n 2) 1 27 := ⟨by decide +kernel, rfl⟩
theorem d_Rf_keep_27 : DI M_Rf_keep 27 (.bipush 14) 2 29 := ⟨by decide +kernel, rfl⟩
theorem d_Rf_keep_29 : DJ M_Rf_keep 29 (.if_icmp .ge 26) 26 3 32 55 := ⟨by decide +kernel, rfl, rfl⟩
theorem d_Rf_keep_32 : DI M_Rf_keep 32 (.aload_n 0) 1 33 := ⟨by decide +kernel, rfl⟩
theorem d_Rf_keep_33 : DI M_Rf_keep 33 (.getfield 34) 3 36 := ⟨by decide +kernel, rfl⟩
theorem d_Rf_keep_36 : DI M_Rf_keep 36 (.bipush 14) 2 38 := ⟨by decide +kernel, rfl⟩
theorem d_Rf_keep_38 : DI M_Rf_keep 38 (.iload_n 1) 1 39 := ⟨by decide +kernel, rfl⟩
theorem d_Rf_keep_39 : DI M_Rf_keep 39 (.imul) 1 40 := ⟨by decide +kernel, rfl⟩
theorem d_Rf_keep_40 : DI M_Rf_keep 40 (.iload_n 2) 1 41 := ⟨by decide +kernel, rfl⟩
theorem d_Rf_keep_41 : DI M_Rf_keep 41 (.iadd) 1 42 := ⟨by decide +kernel, rfl⟩
theorem d_Rf_keep_42 : DI M_Rf_keep 42 (.aload_n 0) 1 43 := ⟨by decide +kernel, rfl⟩
theorem d_Rf_keep_43 : DI M_Rf_keep 43 (.getfield 25) 3 46 := ⟨by decide +kernel, rfl⟩
theorem d_Rf_keep_46 : DI M_Rf_keep 46 (.iload_n 2) 1 47 := ⟨by decide +kernel, rfl⟩
theorem d_Rf_keep_47 : DI M_Rf_keep 47 (.iaload) 1 48 := ⟨by decide +kernel, rfl⟩
theorem d_Rf_keep_48 : DI M_Rf_keep 48 (.iastore) 1 49 := ⟨by decide +kernel, rfl⟩
theorem d_Rf_keep_49 : DI M_Rf_keep 49 (.iinc 2 1) 3 52 := ⟨by decide +kernel, rfl⟩
theorem d_Rf_keep_52 : DJ M_Rf_keep 52 (.goto (-26)) (-26) 3 55 26 := ⟨by decide +kernel, rfl, rfl⟩
theorem d_Rf_keep_55 : DI M_Rf_keep 55 (.aload_n 0) 1 56 := ⟨by decide +kernel, rfl⟩
theorem d_Rf_keep_56 : DI M_Rf_keep 56 (.getfield 25) 3 59 := ⟨by decide +kernel, rfl⟩
theorem d_Rf_keep_59 : DI M_Rf_keep 59 (.bipush 13) 2 61 := ⟨by decide +kernel, rfl⟩
theorem d_Rf_keep_61 : DI M_Rf_keep 61 (.iaload) 1 62 := ⟨by decide +kernel, rfl⟩
theorem d_Rf_keep_62 : DI M_Rf_keep 62 (.ireturn) 1 63 := ⟨by decide +kernel, rfl⟩
theorem d_Rf_again_0 : DI M_Rf_again 0 (.aload_n 0) 1 1 := ⟨by decide +kernel, rfl⟩
theorem d_Rf_again_1 : DI M_Rf_again 1 (.iconst 0) 1 2 := ⟨by decide +kernel, rfl⟩
theorem d_Rf_again_2 : DI M_Rf_again 2 (.putfield 59) 3 5 := ⟨by decide +kernel, rfl⟩
theorem d_Rf_again_5 : DI M_Rf_again 5 (.iload_n 1) 1 6 := ⟨by decide +kernel, rfl⟩
theorem d_Rf_again_6 : DI M_Rf_again 6 (.i2l) 1 7 := ⟨by decide +kernel, rfl⟩
theorem d_Rf_again_7 : DI M_Rf_again 7 (.lconst 0) 1 8 := ⟨by decide +kernel, rfl⟩
theorem d_Rf_again_8 : DI M_Rf_again 8 (.lconst 1) 1 9 := ⟨by decide +kernel, rfl⟩
theorem d_Rf_again_9 : DI M_Rf_again 9 (.invokestatic 66) 3 12 := ⟨by decide +kernel, rfl⟩
theorem d_Rf_again_12 : DJ M_Rf_again 12 (.ifCond .ne 5) 5 3 15 17 := ⟨by decide +kernel, rfl, rfl⟩
theorem d_Rf_again_15 : DI M_Rf_again 15 (.iconst (-1)) 1 16 := ⟨by decide +kernel, rfl⟩
theorem d_Rf_again_16 : DI M_Rf_again 16 (.ireturn) 1 17 := ⟨by decide +kernel, rfl⟩
theorem d_Rf_again_17 : DI M_Rf_again 17 (.aload_n 0) 1 18 := ⟨by decide +kernel, rfl⟩
theorem d_Rf_again_18 : DI M_Rf_again 18 (.getfield 37) 3 21 := ⟨by decide +kernel, rfl⟩
theorem d_Rf_again_21 : DI M_Rf_again 21 (.iload_n 1) 1 22 := ⟨by decide +kernel, rfl⟩
theorem d_Rf_again_22 : DI M_Rf_again 22 (.baload) 1 23 := ⟨by decide +kernel, rfl⟩
theorem d_Rf_again_23 : DJ M_Rf_again 23 (.ifCond .ne 6) 6 3 26 29 := ⟨by decide +kernel, rfl, rfl⟩
theorem d_Rf_again_26 : DI M_Rf_again 26 (.bipush (-3)) 2 28 := ⟨by decide +kernel, rfl⟩
theorem d_Rf_again_28 : DI M_Rf_again 28 (.ireturn) 1 29 := ⟨by decide +kernel, rfl⟩
theorem d_Rf_again_29 : DI M_Rf_again 29 (.iconst 0) 1 30 := ⟨by decide +kernel, rfl⟩
theorem d_Rf_again_30 : DI M_Rf_again 30 (.istore_n 2) 1 31 := ⟨by decide +kernel, rfl⟩
theorem d_Rf_again_31 : DI M_Rf_again 31 (.iload_n 2) 1 32 := ⟨by decide +kernel, rfl⟩
theorem d_Rf_again_32 : DI M_Rf_again 32 (.bipush 14) 2 34 := ⟨by decide +kernel, rfl⟩
theorem d_Rf_again_34 : DJ M_Rf_again 34 (.if_icmp .ge 26) 26 3 37 60 := ⟨by decide +kernel, rfl, rfl⟩
theorem d_Rf_again_37 : DI M_Rf_again 37 (.aload_n 0) 1 38 := ⟨by decide +kernel, rfl⟩
theorem d_Rf_again_38 : DI M_Rf_again 38 (.getfield 25) 3 41 := ⟨by decide +kernel, rfl⟩
theorem d_Rf_again_41 : DI M_Rf_again 41 (.iload_n 2) 1 42 := ⟨by decide +kernel, rfl⟩
theorem d_Rf_again_42 : DI M_Rf_again 42 (.aload_n 0) 1 43 := ⟨by decide +kernel, rfl⟩
theorem d_Rf_again_43 : DI M_Rf_again 43 (.getfield 34) 3 46 := ⟨by decide +kernel, rfl⟩
theorem d_Rf_again_46 : DI M_Rf_again 46 (.bipush 14) 2 48 := ⟨by decide +kernel, rfl⟩
theorem d_Rf_again_48 : DI M_Rf_again 48 (.iload_n 1) 1 49 := ⟨by decide +kernel, rfl⟩
theorem d_Rf_again_49 : DI M_Rf_again 49 (.imul) 1 50 := ⟨by decide +kernel, rfl⟩
theorem d_Rf_again_50 : DI M_Rf_again 50 (.iload_n 2) 1 51 := ⟨by decide +kernel, rfl⟩
theorem d_Rf_again_51 : DI M_Rf_again 51 (.iadd) 1 52 := ⟨by decide +kernel, rfl⟩
theorem d_Rf_again_52 : DI M_Rf_again 52 (.iaload) 1 53 := ⟨by decide +kernel, rfl⟩
theorem d_Rf_again_53 : DI M_Rf_again 53 (.iastore) 1 54 := ⟨by decide +kernel, rfl⟩
theorem d_Rf_again_54 : DI M_Rf_again 54 (.iinc 2 1) 3 57 := ⟨by decide +kernel, rfl⟩
theorem d_Rf_again_57 : DJ M_Rf_again 57 (.goto (-26)) (-26) 3 60 31 := ⟨by decide +kernel, rfl, rfl⟩
theorem d_Rf_again_60 : DI M_Rf_again 60 (.aload_n 0) 1 61 := ⟨by decide +kernel, rfl⟩
theorem d_Rf_again_61 : DI M_Rf_again 61 (.iconst 0) 1 62 := ⟨by decide +kernel, rfl⟩
theorem d_Rf_again_62 : DI M_Rf_again 62 (.putfield 108) 3 65 := ⟨by decide +kernel, rfl⟩
theorem d_Rf_again_65 : DI M_Rf_again 65 (.aload_n 0) 1 66 := ⟨by decide +kernel, rfl⟩
theorem d_Rf_again_66 : DI M_Rf_again 66 (.getfield 25) 3 69 := ⟨by decide +kernel, rfl⟩
theorem d_Rf_again_69 : DI M_Rf_again 69 (.bipush 13) 2 71 := ⟨by decide +kernel, rfl⟩
theorem d_Rf_again_71 : DI M_Rf_again 71 (.iaload) 1 72 := ⟨by decide +kernel, rfl⟩
theorem d_Rf_again_72 : DI M_Rf_again 72 (.ireturn) 1 73 := ⟨by decide +kernel, rfl⟩
end
section
/-! ===== the instructions: 09.dec3 ===== -/
theorem d_La_law_0 : DI M_La_law 0 (.new 7) 3 3 := ⟨by decide +kernel, rfl⟩
theorem d_La_law_3 : DI M_La_law 3 (.dup) 1 4 := ⟨by decide +kernel, rfl⟩
theorem d_La_law_4 : DI M_La_law 4 (.invokespecial 9) 3 7 := ⟨by decide +kernel, rfl⟩
theorem d_La_law_7 : DI M_La_law 7 (.astore_n 1) 1 8 := ⟨by decide +kernel, rfl⟩
theorem d_La_law_8 : DI M_La_law 8 (.new 10) 3 11 := ⟨by decide +kernel, rfl⟩
theorem d_La_law_11 : DI M_La_law 11 (.dup) 1 12 := ⟨by decide +kernel, rfl⟩
theorem d_La_law_12 : DI M_La_law 12 (.invokespecial 12) 3 15 := ⟨by decide +kernel, rfl⟩
theorem d_La_law_15 : DI M_La_law 15 (.astore_n 2) 1 16 := ⟨by decide +kernel, rfl⟩
theorem d_La_law_16 : DI M_La_law 16 (.iconst 0) 1 17 := ⟨by decide +kernel, rfl⟩
theorem d_La_law_17 : DI M_La_law 17 (.istore_n 3) 1 18 := ⟨by decide +kernel, rfl⟩
theorem d_La_law_18 : DI M_La_law 18 (.iload_n 3) 1 19 := ⟨by decide +kernel, rfl⟩
theorem d_La_law_19 : DI M_La_law 19 (.aload_n 0) 1 20 := ⟨by decide +kernel, rfl⟩
theorem d_La_law_20 : DI M_La_law 20 (.arraylength) 1 21 := ⟨by decide +kernel, rfl⟩
theorem d_La_law_21 : DI M_La_law 21 (.bipush 6) 2 23 := ⟨by decide +kernel, rfl⟩
theorem d_La_law_23 : DI M_La_law 23 (.isub) 1 24 := ⟨by decide +kernel, rfl⟩
theorem d_La_law_24 : DJ M_La_law 24 (.if_icmp .gt 1075) 1075 3 27 1099 := ⟨by decide +kernel, rfl, rfl⟩
theorem d_La_law_27 : DI M_La_law 27 (.aload_n 0) 1 28 := ⟨by decide +kernel, rfl⟩
theorem d_La_law_28 : DI M_La_law 28 (.iload_n 3) 1 29 := ⟨by decide +kernel, rfl⟩
theorem d_La_law_29 : DI M_La_law 29 (.iaload) 1 30 := ⟨by decide +kernel, rfl⟩
theorem d_La_law_30 : DI M_La_law 30 (.bipush 31) 2 32 := ⟨by decide +kernel, rfl⟩
theorem d_La_law_32 : DI M_La_law 32 (.iand) 1 33 := ⟨by decide +kernel, rfl⟩
theorem d_La_law_33 : decode M_La_law.2.1 33 = .ok (.tableswitch 1060 0 29 #[135, 158, 171, 184, 197, 220, 253, 286, 329, 378, 411, 424, 437, 470, 503, 526, 559, 572, 611, 674, 723, 756, 769, 792, 805, 858, 937, 991, 1014, 1037], 135) := by decide +kernel
theorem d_La_law_168 : DI M_La_law 168 (.aload_n 1) 1 169 := ⟨by decide +kernel, rfl⟩
theorem d_La_law_169 : DI M_La_law 169 (.aload_n 0) 1 170 := ⟨by decide +kernel, rfl⟩
theorem d_La_law_170 : DI M_La_law 170 (.iload_n 3) 1 171 := ⟨by decide +kernel, rfl⟩
theorem d_La_law_171 : DI M_La_law 171 (.iconst 1) 1 172 := ⟨by decide +kernel, rfl⟩
theorem d_La_law_172 : DI M_La_law 172 (.iadd) 1 173 := ⟨by decide +kernel, rfl⟩
theorem d_La_law_173 : DI M_La_law 173 (.iaload) 1 174 := ⟨by decide +kernel, rfl⟩
theorem d_La_law_174 : DI M_La_law 174 (.invokevirtual 13) 3 177 := ⟨by decide +kernel, rfl⟩
theorem d_La_law_177 : DI M_La_law 177 (.aload_n 2) 1 178 := ⟨by decide +kernel, rfl⟩
theorem d_La_law_178 : DI M_La_law 178 (.aload_n 0) 1 179 := ⟨by decide +kernel, rfl⟩
theorem d_La_law_179 : DI M_La_law 179 (.iload_n 3) 1 180 := ⟨by decide +kernel, rfl⟩
theorem d_La_law_180 : DI M_La_law 180 (.iconst 1) 1 181 := ⟨by decide +kernel, rfl⟩
theorem d_La_law_181 : DI M_La_law 181 (.iadd) 1 182 := ⟨by decide +kernel, rfl⟩
theorem d_La_law_182 : DI M_La_law 182 (.iaload) 1 183 := ⟨by decide +kernel, rfl⟩
theorem d_La_law_183 : DI M_La_law 183 (.invokevirtual 17) 3 186 := ⟨by decide +kernel, rfl⟩
theorem d_La_law_186 : DJ M_La_law 186 (.if_icmp .eq 907) 907 3 189 1093 := ⟨by decide +kernel, rfl, rfl⟩
theorem d_La_law_189 : DI M_La_law 189 (.iconst 0) 1 190 := ⟨by decide +kernel, rfl⟩
theorem d_La_law_190 : DI M_La_law 190 (.ireturn) 1 191 := ⟨by decide +kernel, rfl⟩
theorem d_La_law_191 : DI M_La_law 191 (.aload_n 1) 1 192 := ⟨by decide +kernel, rfl⟩
theorem d_La_law_192 : DI M_La_law 192 (.invokevirtual 18) 3 195 := ⟨by decide +kernel, rfl⟩
theorem d_La_law_195 : DI M_La_law 195 (.aload_n 2) 1 196 := ⟨by decide +kernel, rfl⟩
theorem d_La_law_196 : DI M_La_law 196 (.invokevirtual 22) 3 199 := ⟨by decide +kernel, rfl⟩
theorem d_La_law_199 : DJ M_La_law 199 (.if_icmp .eq 894) 894 3 202 1093 := ⟨by decide +kernel, rfl, rfl⟩
theorem d_La_law_202 : DI M_La_law 202 (.iconst 0) 1 203 := ⟨by decide +kernel, rfl⟩
theorem d_La_law_203 : DI M_La_law 203 (.ireturn) 1 204 := ⟨by decide +kernel, rfl⟩
theorem d_La_law_204 : DI M_La_law 204 (.aload_n 1) 1 205 := ⟨by decide +kernel, rfl⟩
theorem d_La_law_205 : DI M_La_law 205 (.invokevirtual 23) 3 208 := ⟨by decide +kernel, rfl⟩
theorem d_La_law_208 : DI M_La_law 208 (.aload_n 2) 1 209 := ⟨by decide +kernel, rfl⟩
theorem d_La_law_209 : DI M_La_law 209 (.invokevirtual 26) 3 212 := ⟨by decide +kernel, rfl⟩
theorem d_La_law_212 : DJ M_La_law 212 (.if_icmp .eq 881) 881 3 215 1093 := ⟨by decide +kernel, rfl, rfl⟩
theorem d_La_law_215 : DI M_La_law 215 (.iconst 0) 1 216 := ⟨by decide +kernel, rfl⟩
theorem d_La_law_216 : DI M_La_law 216 (.ireturn) 1 217 := ⟨by decide +kernel, rfl⟩
theorem d_La_law_217 : DI M_La_law 217 (.aload_n 1) 1 218 := ⟨by decide +kernel, rfl⟩
theorem d_La_law_218 : DI M_La_law 218 (.invokevirtual 27) 3 221 := ⟨by decide +kernel, rfl⟩
theorem d_La_law_221 : DI M_La_law 221 (.aload_n 2) 1 222 := ⟨by decide +kernel, rfl⟩
theorem d_La_law_222 : DI M_La_law 222 (.invokevirtual 30) 3 225 := ⟨by decide +kernel, rfl⟩
theorem d_La_law_225 : DJ M_La_law 225 (.if_icmp .eq 868) 868 3 228 1093 := ⟨by decide +kernel, rfl, rfl⟩
theorem d_La_law_228 : DI M_La_law 228 (.iconst 0) 1 229 := ⟨by decide +kernel, rfl⟩
theorem d_La_law_229 : DI M_La_law 229 (.ireturn) 1 230 := ⟨by decide +kernel, rfl⟩
theorem d_La_law_230 : DI M_La_law 230 (.aload_n 1) 1 231 := ⟨by decide +kernel, rfl⟩
theorem d_La_law_231 : DI M_La_law 231 (.aload_n 0) 1 232 := ⟨by decide +kernel, rfl⟩
theorem d_La_law_232 : DI M_La_law 232 (.iload_n 3) 1 233 := ⟨by decide +kernel, rfl⟩
theorem d_La_law_233 : DI M_La_law 233 (.iconst 1) 1 234 := ⟨by decide +kernel, rfl⟩
theorem d_La_law_234 : DI M_La_law 234 (.iadd) 1 235 := ⟨by decide +kernel, rfl⟩
theorem d_La_law_235 : DI M_La_law 235 (.iaload) 1 236 := ⟨by decide +kernel, rfl⟩
theorem d_La_law_236 : DI M_La_law 236 (.invokevirtual 31) 3 239 := ⟨by decide +kernel, rfl⟩
theorem d_La_law_239 : DI M_La_law 239 (.aload_n 2) 1 240 := ⟨by decide +kernel, rfl⟩
theorem d_La_law_240 : DI M_La_law 240 (.aload_n 0) 1 241 := ⟨by decide +kernel, rfl⟩
theorem d_La_law_241 : DI M_La_law 241 (.iload_n 3) 1 242 := ⟨by decide +kernel, rfl⟩
theorem d_La_law_242 : DI M_La_law 242 (.iconst 1) 1 243 := ⟨by decide +kernel, rfl⟩
theorem d_La_law_243 : DI M_La_law 243 (.iadd) 1 244 := ⟨by decide +kernel, rfl⟩
theorem d_La_law_244 : DI M_La_law 244 (.iaload) 1 245 := ⟨by decide +kernel, rfl⟩
theorem d_La_law_245 : DI M_La_law 245 (.invokevirtual 34) 3 248 := ⟨by decide +kernel, rfl⟩
theorem d_La_law_248 : DJ M_La_law 248 (.if_icmp .eq 845) 845 3 251 1093 := ⟨by decide +kernel, rfl, rfl⟩
theorem d_La_law_251 : DI M_La_law 251 (.iconst 0) 1 252 := ⟨by decide +kernel, rfl⟩
theorem d_La_law_252 : DI M_La_law 252 (.ireturn) 1 253 := ⟨by decide +kernel, rfl⟩
theorem d_La_law_253 : DI M_La_law 253 (.aload_n 1) 1 254 := ⟨by decide +kernel, rfl⟩
theorem d_La_law_254 : DI M_La_law 254 (.aload_n 0) 1 255 := ⟨by decide +kernel, rfl⟩
theorem d_La_law_255 : DI M_La_law 255 (.iload_n 3) 1 256 := ⟨by decide +kernel, rfl⟩
theorem d_La_law_256 : DI M_La_law 256 (.iconst 1) 1 257 := ⟨by decide +kernel, rfl⟩
theorem d_La_law_257 : DI M_La_law 257 (.iadd) 1 258 := ⟨by decide +kernel, rfl⟩
theorem d_La_law_258 : DI M_La_law 258 (.iaload) 1 259 := ⟨by decide +kernel, rfl⟩
theorem d_La_law_259 : DI M_La_law 259 (.aload_n 0) 1 260 := ⟨by decide +kernel, rfl⟩
theorem d_La_law_260 : DI M_La_law 260 (.iload_n 3) 1 261 := ⟨by decide +kernel, rfl⟩
theorem d_La_law_261 : DI M_La_law 261 (.iconst 2) 1 262 := ⟨by decide +kernel, rfl⟩
theorem d_La_law_262 : DI M_La_law 262 (.iadd) 1 263 := ⟨by decide +kernel, rfl⟩
theorem d_La_law_263 : DI M_La_law 263 (.iaload) 1 264 := ⟨by decide +kernel, rfl⟩
theorem d_La_law_264 : DI M_La_law 264 (.invokevirtual 35) 3 267 := ⟨by decide +kernel, rfl⟩
theorem d_La_law_267 : DI M_La_law 267 (.aload_n 2) 1 268 := ⟨by decide +kernel, rfl⟩
theorem d_La_law_268 : DI M_La_law 268 (.aload_n 0) 1 269 := ⟨by decide +kernel, rfl⟩
theorem d_La_law_269 : DI M_La_law 269 (.iload_n 3) 1 270 := ⟨by decide +kernel, rfl⟩
theorem d_La_law_270 : DI M_La_law 270 (.iconst 1) 1 271 := ⟨by decide +kernel, rfl⟩
theorem d_La_law_271 : DI M_La_law 271 (.iadd) 1 272 := ⟨by decide +kernel, rfl⟩
theorem d_La_law_272 : DI M_La_law 272 (.iaload) 1 273 := ⟨by decide +kernel, rfl⟩
theorem d_La_law_273 : DI M_La_law 273 (.aload_n 0) 1 274 := ⟨by decide +kernel, rfl⟩
theorem d_La_law_274 : DI M_La_law 274 (.iload_n 3) 1 275 := ⟨by decide +kernel, rfl⟩
theorem d_La_law_275 : DI M_La_law 275 (.iconst 2) 1 276 := ⟨by decide +kernel, rfl⟩
theorem d_La_law_276 : DI M_La_law 276 (.iadd) 1 277 := ⟨by decide +kernel, rfl⟩
theorem d_La_law_277 : DI M_La_law 277 (.iaload) 1 278 := ⟨by decide +kernel, rfl⟩
theorem d_La_law_278 : DI M_La_law 278 (.invokevirtual 39) 3 281 := ⟨by decide +kernel, rfl⟩
theorem d_La_law_281 : DJ M_La_law 281 (.if_icmp .eq 812) 812 3 284 1093 := ⟨by decide +kernel, rfl, rfl⟩
theorem d_La_law_284 : DI M_La_law 284 (.iconst 0) 1 285 := ⟨by decide +kernel, rfl⟩
theorem d_La_law_285 : DI M_La_law 285 (.ireturn) 1 286 := ⟨by decide +kernel, rfl⟩
theorem d_La_law_286 : DI M_La_law 286 (.aload_n 1) 1 287 := ⟨by decide +kernel, rfl⟩
theorem d_La_law_287 : DI M_La_law 287 (.aload_n 0) 1 288 := ⟨by decide +kernel, rfl⟩
theorem d_La_law_288 : DI M_La_law 288 (.iload_n 3) 1 289 := ⟨by decide +kernel, rfl⟩
theorem d_La_law_289 : DI M_La_law 289 (.iconst 1) 1 290 := ⟨by decide +kernel, rfl⟩
theorem d_La_law_290 : DI M_La_law 290 (.iadd) 1 291 := ⟨by decide +kernel, rfl⟩
theorem d_La_law_291 : DI M_La_law 291 (.iaload) 1 292 := ⟨by decide +kernel, rfl⟩
theorem d_La_law_292 : DI M_La_law 292 (.aload_n 0) 1 293 := ⟨by decide +kernel, rfl⟩
theorem d_La_law_293 : DI M_La_law 293 (.iload_n 3) 1 294 := ⟨by decide +kernel, rfl⟩
theorem d_La_law_294 : DI M_La_law 294 (.iconst 2) 1 295 := ⟨by decide +kernel, rfl⟩
theorem d_La_law_295 : DI M_La_law 295 (.iadd) 1 296 := ⟨by decide +kernel, rfl⟩
theorem d_La_law_296 : DI M_La_law 296 (.iaload) 1 297 := ⟨by decide +kernel, rfl⟩
theorem d_La_law_297 : DI M_La_law 297 (.invokevirtual 40) 3 300 := ⟨by decide +kernel, rfl⟩
theorem d_La_law_300 : DI M_La_law 300 (.aload_n 2) 1 301 := ⟨by decide +kernel, rfl⟩
theorem d_La_law_301 : DI M_La_law 301 (.aload_n 0) 1 302 := ⟨by decide +kernel, rfl⟩
theorem d_La_law_302 : DI M_La_law 302 (.iload_n 3) 1 303 := ⟨by decide +kernel, rfl⟩
theorem d_La_law_303 : DI M_La_law 303 (.iconst 1) 1 304 := ⟨by decide +kernel, rfl⟩
theorem d_La_law_304 : DI M_La_law 304 (.iadd) 1 305 := ⟨by decide +kernel, rfl⟩
theorem d_La_law_305 : DI M_La_law 305 (.iaload) 1 306 := ⟨by decide +kernel, rfl⟩
theorem d_La_law_306 : DI M_La_law 306 (.aload_n 0) 1 307 := ⟨by decide +kernel, rfl⟩
theorem d_La_law_307 : DI M_La_law 307 (.iload_n 3) 1 308 := ⟨by decide +kernel, rfl⟩
theorem d_La_law_308 : DI M_La_law 308 (.iconst 2) 1 309 := ⟨by decide +kernel, rfl⟩
theorem d_La_law_309 : DI M_La_law 309 (.iadd) 1 310 := ⟨by decide +kernel, rfl⟩
theorem d_La_law_310 : DI M_La_law 310 (.iaload) 1 311 := ⟨by decide +kernel, rfl⟩
theorem d_La_law_311 : DI M_La_law 311 (.invokevirtual 43) 3 314 := ⟨by decide +kernel, rfl⟩
theorem d_La_law_314 : DJ M_La_law 314 (.if_icmp .eq 779) 779 3 317 1093 := ⟨by decide +kernel, rfl, rfl⟩
theorem d_La_law_317 : DI M_La_law 317 (.iconst 0) 1 318 := ⟨by decide +kernel, rfl⟩
theorem d_La_law_318 : DI M_La_law 318 (.ireturn) 1 319 := ⟨by decide +kernel, rfl⟩
theorem d_La_law_319 : DI M_La_law 319 (.aload_n 1) 1 320 := ⟨by decide +kernel, rfl⟩
theorem d_La_law_320 : DI M_La_law 320 (.aload_n 0) 1 321 := ⟨by decide +kernel, rfl⟩
theorem d_La_law_321 : DI M_La_law 321 (.iload_n 3) 1 322 := ⟨by decide +kernel, rfl⟩
theorem d_La_law_322 : DI M_La_law 322 (.iconst 1) 1 323 := ⟨by decide +kernel, rfl⟩
theorem d_La_law_323 : DI M_La_law 323 (.iadd) 1 324 := ⟨by decide +kernel, rfl⟩
theorem d_La_law_324 : DI M_La_law 324 (.iaload) 1 325 := ⟨by decide +kernel, rfl⟩
theorem d_La_law_325 : DI M_La_law 325 (.aload_n 0) 1 326 := ⟨by decide +kernel, rfl⟩
theorem d_La_law_326 : DI M_La_law 326 (.iload_n 3) 1 327 := ⟨by decide +kernel, rfl⟩
theorem d_La_law_327 : DI M_La_law 327 (.iconst 2) 1 328 := ⟨by decide +kernel, rfl⟩
theorem d_La_law_328 : DI M_La_law 328 (.iadd) 1 329 := ⟨by decide +kernel, rfl⟩
theorem d_La_law_329 : DI M_La_law 329 (.iaload) 1 330 := ⟨by decide +kernel, rfl⟩
theorem d_La_law_330 : DI M_La_law 330 (.aload_n 0) 1 331 := ⟨by decide +kernel, rfl⟩
theorem d_La_law_331 : DI M_La_law 331 (.iload_n 3) 1 332 := ⟨by decide +kernel, rfl⟩
theorem d_La_law_332 : DI M_La_law 332 (.iconst 3) 1 333 := ⟨by decide +kernel, rfl⟩
theorem d_La_law_333 : DI M_La_law 333 (.iadd) 1 334 := ⟨by decide +kernel, rfl⟩
theorem d_La_law_334 : DI M_La_law 334 (.iaload) 1 335 := ⟨by decide +kernel, rfl⟩
theorem d_La_law_335 : DI M_La_law 335 (.invokevirtual 44) 3 338 := ⟨by decide +kernel, rfl⟩
theorem d_La_law_338 : DI M_La_law 338 (.aload_n 2) 1 339 := ⟨by decide +kernel, rfl⟩
theorem d_La_law_339 : DI M_La_law 339 (.aload_n 0) 1 340 := ⟨by decide +kernel, rfl⟩
theorem d_La_law_340 : DI M_La_law 340 (.iload_n 3) 1 341 := ⟨by decide +kernel, rfl⟩
theorem d_La_law_341 : DI M_La_law 341 (.iconst 1) 1 342 := ⟨by decide +kernel, rfl⟩
theorem d_La_law_342 : DI M_La_law 342 (.iadd) 1 343 := ⟨by decide +kernel, rfl⟩
theorem d_La_law_343 : DI M_La_law 343 (.iaload) 1 344 := ⟨by decide +kernel, rfl⟩
theorem d_La_law_344 : DI M_La_law 344 (.aload_n 0) 1 345 := ⟨by decide +kernel, rfl⟩
theorem d_La_law_345 : DI M_La_law 345 (.iload_n 3) 1 346 := ⟨by decide +kernel, rfl⟩
theorem d_La_law_346 : DI M_La_law 346 (.iconst 2) 1 347 := ⟨by decide +kernel, rfl⟩
theorem d_La_law_347 : DI M_La_law 347 (.iadd) 1 348 := ⟨by decide +kernel, rfl⟩
theorem d_La_law_348 : DI M_La_law 348 (.iaload) 1 349 := ⟨by decide +kernel, rfl⟩
theorem d_La_law_349 : DI M_La_law 349 (.aload_n 0) 1 350 := ⟨by decide +kernel, rfl⟩
theorem d_La_law_350 : DI M_La_law 350 (.iload_n 3) 1 351 := ⟨by decide +kernel, rfl⟩
theorem d_La_law_351 : DI M_La_law 351 (.iconst 3) 1 352 := ⟨by decide +kernel, rfl⟩
theorem d_La_law_352 : DI M_La_law 352 (.iadd) 1 353 := ⟨by decide +kernel, rfl⟩
theorem d_La_law_353 : DI M_La_law 353 (.iaload) 1 354 := ⟨by decide +kernel, rfl⟩
theorem d_La_law_354 : DI M_La_law 354 (.invokevirtual 48) 3 357 := ⟨by decide +kernel, rfl⟩
theorem d_La_law_357 : DJ M_La_law 357 (.if_icmp .eq 736) 736 3 360 1093 := ⟨by decide +kernel, rfl, rfl⟩
theorem d_La_law_360 : DI M_La_law 360 (.iconst 0) 1 361 := ⟨by decide +kernel, rfl⟩
theorem d_La_law_361 : DI M_La_law 361 (.ireturn) 1 362 := ⟨by decide +kernel, rfl⟩
theorem d_La_law_362 : DI M_La_law 362 (.aload_n 1) 1 363 := ⟨by decide +kernel, rfl⟩
theorem d_La_law_363 : DI M_La_law 363 (.aload_n 0) 1 364 := ⟨by decide +kernel, rfl⟩
theorem d_La_law_364 : DI M_La_law 364 (.iload_n 3) 1 365 := ⟨by decide +kernel, rfl⟩
theorem d_La_law_365 : DI M_La_law 365 (.iconst 1) 1 366 := ⟨by decide +kernel, rfl⟩
theorem d_La_law_366 : DI M_La_law 366 (.iadd) 1 367 := ⟨by decide +kernel, rfl⟩
theorem d_La_law_367 : DI M_La_law 367 (.iaload) 1 368 := ⟨by decide +kernel, rfl⟩
theorem d_La_law_368 : DI M_La_law 368 (.aload_n 0) 1 369 := ⟨by decide +kernel, rfl⟩
theorem d_La_law_369 : DI M_La_law 369 (.iload_n 3) 1 370 := ⟨by decide +kernel, rfl⟩
theorem d_La_law_370 : DI M_La_law 370 (.iconst 2) 1 371 := ⟨by decide +kernel, rfl⟩
theorem d_La_law_371 : DI M_La_law 371 (.iadd) 1 372 := ⟨by decide +kernel, rfl⟩
theorem d_La_law_372 : DI M_La_law 372 (.iaload) 1 373 := ⟨by decide +kernel, rfl⟩
theorem d_La_law_373 : DJ M_La_law 373 (.ifCond .eq 7) 7 3 376 380 := ⟨by decide +kernel, rfl, rfl⟩
theorem d_La_law_376 : DI M_La_law 376 (.iconst 1) 1 377 := ⟨by decide +kernel, rfl⟩
theorem d_La_law_377 : DJ M_La_law 377 (.goto 4) 4 3 380 381 := ⟨by decide +kernel, rfl, rfl⟩
theorem d_La_law_380 : DI M_La_law 380 (.iconst 0) 1 381 := ⟨by decide +kernel, rfl⟩
theorem d_La_law_381 : DI M_La_law 381 (.invokevirtual 49) 3 384 := ⟨by decide +kernel, rfl⟩
theorem d_La_law_384 : DI M_La_law 384 (.aload_n 2) 1 385 := ⟨by decide +kernel, rfl⟩
theorem d_La_law_385 : DI M_La_law 385 (.aload_n 0) 1 386 := ⟨by decide +kernel, rfl⟩
theorem d_La_law_386 : DI M_La_law 386 (.iload_n 3) 1 387 := ⟨by decide +kernel, rfl⟩
theorem d_La_law_387 : DI M_La_law 387 (.iconst 1) 1 388 := ⟨by decide +kernel, rfl⟩
theorem d_La_law_388 : DI M_La_law 388 (.iadd) 1 389 := ⟨by decide +kernel, rfl⟩
theorem d_La_law_389 : DI M_La_law 389 (.iaload) 1 390 := ⟨by decide +kernel, rfl⟩
theorem d_La_law_390 : DI M_La_law 390 (.aload_n 0) 1 391 := ⟨by decide +kernel, rfl⟩
theorem d_La_law_391 : DI M_La_law 391 (.iload_n 3) 1 392 := ⟨by decide +kernel, rfl⟩
theorem d_La_law_392 : DI M_La_law 392 (.iconst 2) 1 393 := ⟨by decide +kernel, rfl⟩
theorem d_La_law_393 : DI M_La_law 393 (.iadd) 1 394 := ⟨by decide +kernel, rfl⟩
theorem d_La_law_394 : DI M_La_law 394 (.iaload) 1 395 := ⟨by decide +kernel, rfl⟩
theorem d_La_law_395 : DJ M_La_law 395 (.ifCond .eq 7) 7 3 398 402 := ⟨by decide +kernel, rfl, rfl⟩
theorem d_La_law_398 : DI M_La_law 398 (.iconst 1) 1 399 := ⟨by decide +kernel, rfl⟩
theorem d_La_law_399 : DJ M_La_law 399 (.goto 4) 4 3 402 403 := ⟨by decide +kernel, rfl, rfl⟩
theorem d_La_law_402 : DI M_La_law 402 (.iconst 0) 1 403 := ⟨by decide +kernel, rfl⟩
theorem d_La_law_403 : DI M_La_law 403 (.invokevirtual 53) 3 406 := ⟨by decide +kernel, rfl⟩
theorem d_La_law_406 : DJ M_La_law 406 (.if_icmp .eq 687) 687 3 409 1093 := ⟨by decide +kernel, rfl, rfl⟩
theorem d_La_law_409 : DI M_La_law 409 (.iconst 0) 1 410 := ⟨by decide +kernel, rfl⟩
theorem d_La_law_410 : DI M_La_law 410 (.ireturn) 1 411 := ⟨by decide +kernel, rfl⟩
theorem d_La_law_411 : DI M_La_law 411 (.aload_n 1) 1 412 := ⟨by decide +kernel, rfl⟩
theorem d_La_law_412 : DI M_La_law 412 (.aload_n 0) 1 413 := ⟨by decide +kernel, rfl⟩
theorem d_La_law_413 : DI M_La_law 413 (.iload_n 3) 1 414 := ⟨by decide +kernel, rfl⟩
theorem d_La_law_414 : DI M_La_law 414 (.iconst 1) 1 415 := ⟨by decide +kernel, rfl⟩
theorem d_La_law_415 : DI M_La_law 415 (.iadd) 1 416 := ⟨by decide +kernel, rfl⟩
theorem d_La_law_416 : DI M_La_law 416 (.iaload) 1 417 := ⟨by decide +kernel, rfl⟩
theorem d_La_law_417 : DI M_La_law 417 (.aload_n 0) 1 418 := ⟨by decide +kernel, rfl⟩
theorem d_La_law_418 : DI M_La_law 418 (.iload_n 3) 1 419 := ⟨by decide +kernel, rfl⟩
theorem d_La_law_419 : DI M_La_law 419 (.iconst 2) 1 420 := ⟨by decide +kernel, rfl⟩
theorem d_La_law_420 : DI M_La_law 420 (.iadd) 1 421 := ⟨by decide +kernel, rfl⟩
theorem d_La_law_421 : DI M_La_law 421 (.iaload) 1 422 := ⟨by decide +kernel, rfl⟩
theorem d_La_law_422 : DI M_La_law 422 (.invokevirtual 54) 3 425 := ⟨by decide +kernel, rfl⟩
theorem d_La_law_425 : DI M_La_law 425 (.aload_n 2) 1 426 := ⟨by decide +kernel, rfl⟩
theorem d_La_law_426 : DI M_La_law 426 (.aload_n 0) 1 427 := ⟨by decide +kernel, rfl⟩
theorem d_La_law_427 : DI M_La_law 427 (.iload_n 3) 1 428 := ⟨by decide +kernel, rfl⟩
theorem d_La_law_428 : DI M_La_law 428 (.iconst 1) 1 429 := ⟨by decide +kernel, rfl⟩
theorem d_La_law_429 : DI M_La_law 429 (.iadd) 1 430 := ⟨by decide +kernel, rfl⟩
theorem d_La_law_430 : DI M_La_law 430 (.iaload) 1 431 := ⟨by decide +kernel, rfl⟩
theorem d_La_law_431 : DI M_La_law 431 (.aload_n 0) 1 432 := ⟨by decide +kernel, rfl⟩
theorem d_La_law_432 : DI M_La_law 432 (.iload_n 3) 1 433 := ⟨by decide +kernel, rfl⟩
theorem d_La_law_433 : DI M_La_law 433 (.iconst 2) 1 434 := ⟨by decide +kernel, rfl⟩
theorem d_La_law_434 : DI M_La_law 434 (.iadd) 1 435 := ⟨by decide +kernel, rfl⟩
theorem d_La_law_435 : DI M_La_law 435 (.iaload) 1 436 := ⟨by decide +kernel, rfl⟩
theorem d_La_law_436 : DI M_La_law 436 (.invokevirtual 57) 3 439 := ⟨by decide +kernel, rfl⟩
theorem d_La_law_439 : DJ M_La_law 439 (.if_icmp .eq 654) 654 3 442 1093 := ⟨by decide +kernel, rfl, rfl⟩
theorem d_La_law_442 : DI M_La_law 442 (.iconst 0) 1 443 := ⟨by decide +kernel, rfl⟩
theorem d_La_law_443 : DI M_La_law 443 (.ireturn) 1 444 := ⟨by decide +kernel, rfl⟩
theorem d_La_law_444 : DI M_La_law 444 (.aload_n 1) 1 445 := ⟨by decide +kernel, rfl⟩
theorem d_La_law_445 : DI M_La_law 445 (.invokevirtual 58) 3 448 := ⟨by decide +kernel, rfl⟩
theorem d_La_law_448 : DI M_La_law 448 (.aload_n 2) 1 449 := ⟨by decide +kernel, rfl⟩
theorem d_La_law_449 : DI M_La_law 449 (.invokevirtual 61) 3 452 := ⟨by decide +kernel, rfl⟩
theorem d_La_law_452 : DJ M_La_law 452 (.if_icmp .eq 641) 641 3 455 1093 := ⟨by decide +kernel, rfl, rfl⟩
theorem d_La_law_455 : DI M_La_law 455 (.iconst 0) 1 456 := ⟨by decide +kernel, rfl⟩
theorem d_La_law_456 : DI M_La_law 456 (.ireturn) 1 457 := ⟨by decide +kernel, rfl⟩
theorem d_La_law_457 : DI M_La_law 457 (.aload_n 1) 1 458 := ⟨by decide +kernel, rfl⟩
theorem d_La_law_458 : DI M_La_law 458 (.invokevirtual 62) 3 461 := ⟨by decide +kernel, rfl⟩
theorem d_La_law_461 : DI M_La_law 461 (.aload_n 2) 1 462 := ⟨by decide +kernel, rfl⟩
theorem d_La_law_462 : DI M_La_law 462 (.invokevirtual 65) 3 465 := ⟨by decide +kernel, rfl⟩
theorem d_La_law_465 : DJ M_La_law 465 (.if_icmp .eq 628) 628 3 468 1093 := ⟨by decide +kernel, rfl, rfl⟩
theorem d_La_law_468 : DI M_La_law 468 (.iconst 0) 1 469 := ⟨by decide +kernel, rfl⟩
theorem d_La_law_469 : DI M_La_law 469 (.ireturn) 1 470 := ⟨by decide +kernel, rfl⟩
theorem d_La_law_470 : DI M_La_law 470 (.aload_n 1) 1 471 := ⟨by decide +kernel, rfl⟩
theorem d_La_law_471 : DI M_La_law 471 (.aload_n 0) 1 472 := ⟨by decide +kernel, rfl⟩
theorem d_La_law_472 : DI M_La_law 472 (.iload_n 3) 1 473 := ⟨by decide +kernel, rfl⟩
theorem d_La_law_473 : DI M_La_law 473 (.iconst 1) 1 474 := ⟨by decide +kernel, rfl⟩
theorem d_La_law_474 : DI M_La_law 474 (.iadd) 1 475 := ⟨by decide +kernel, rfl⟩
theorem d_La_law_475 : DI M_La_law 475 (.iaload) 1 476 := ⟨by decide +kernel, rfl⟩
theorem d_La_law_476 : DI M_La_law 476 (.aload_n 0) 1 477 := ⟨by decide +kernel, rfl⟩
theorem d_La_law_477 : DI M_La_law 477 (.iload_n 3) 1 478 := ⟨by decide +kernel, rfl⟩
theorem d_La_law_478 : DI M_La_law 478 (.iconst 2) 1 479 := ⟨by decide +kernel, rfl⟩
theorem d_La_law_479 : DI M_La_law 479 (.iadd) 1 480 := ⟨by decide +kernel, rfl⟩
theorem d_La_law_480 : DI M_La_law 480 (.iaload) 1 481 := ⟨by decide +kernel, rfl⟩
theorem d_La_law_481 : DI M_La_law 481 (.invokevirtual 66) 3 484 := ⟨by decide +kernel, rfl⟩
theorem d_La_law_484 : DI M_La_law 484 (.aload_n 2) 1 485 := ⟨by decide +kernel, rfl⟩
theorem d_La_law_485 : DI M_La_law 485 (.aload_n 0) 1 486 := ⟨by decide +kernel, rfl⟩
theorem d_La_law_486 : DI M_La_law 486 (.iload_n 3) 1 487 := ⟨by decide +kernel, rfl⟩
theorem d_La_law_487 : DI M_La_law 487 (.iconst 1) 1 488 := ⟨by decide +kernel, rfl⟩
theorem d_La_law_488 : DI M_La_law 488 (.iadd) 1 489 := ⟨by decide +kernel, rfl⟩
theorem d_La_law_489 : DI M_La_law 489 (.iaload) 1 490 := ⟨by decide +kernel, rfl⟩
theorem d_La_law_490 : DI M_La_law 490 (.aload_n 0) 1 491 := ⟨by decide +kernel, rfl⟩
theorem d_La_law_491 : DI M_La_law 491 (.iload_n 3) 1 492 := ⟨by decide +kernel, rfl⟩
theorem d_La_law_492 : DI M_La_law 492 (.iconst 2) 1 493 := ⟨by decide +kernel, rfl⟩
theorem d_La_law_493 : DI M_La_law 493 (.iadd) 1 494 := ⟨by decide +kernel, rfl⟩
theorem d_La_law_494 : DI M_La_law 494 (.iaload) 1 495 := ⟨by decide +kernel, rfl⟩
theorem d_La_law_495 : DI M_La_law 495 (.invokevirtual 69) 3 498 := ⟨by decide +kernel, rfl⟩
theorem d_La_law_498 : DJ M_La_law 498 (.if_icmp .eq 595) 595 3 501 1093 := ⟨by decide +kernel, rfl, rfl⟩
theorem d_La_law_501 : DI M_La_law 501 (.iconst 0) 1 502 := ⟨by decide +kernel, rfl⟩
theorem d_La_law_502 : DI M_La_law 502 (.ireturn) 1 503 := ⟨by decide +kernel, rfl⟩
theorem d_La_law_503 : DI M_La_law 503 (.aload_n 1) 1 504 := ⟨by decide +kernel, rfl⟩
theorem d_La_law_504 : DI M_La_law 504 (.aload_n 0) 1 505 := ⟨by decide +kernel, rfl⟩
theorem d_La_law_505 : DI M_La_law 505 (.iload_n 3) 1 506 := ⟨by decide +kernel, rfl⟩
theorem d_La_law_506 : DI M_La_law 506 (.iconst 1) 1 507 := ⟨by decide +kernel, rfl⟩
theorem d_La_law_507 : DI M_La_law 507 (.iadd) 1 508 := ⟨by decide +kernel, rfl⟩
theorem d_La_law_508 : DI M_La_law 508 (.iaload) 1 509 := ⟨by decide +kernel, rfl⟩
theorem d_La_law_509 : DI M_La_law 509 (.aload_n 0) 1 510 := ⟨by decide +kernel, rfl⟩
theorem d_La_law_510 : DI M_La_law 510 (.iload_n 3) 1 511 := ⟨by decide +kernel, rfl⟩
theorem d_La_law_511 : DI M_La_law 511 (.iconst 2) 1 512 := ⟨by decide +kernel, rfl⟩
theorem d_La_law_512 : DI M_La_law 512 (.iadd) 1 513 := ⟨by decide +kernel, rfl⟩
theorem d_La_law_513 : DI M_La_law 513 (.iaload) 1 514 := ⟨by decide +kernel, rfl⟩
theorem d_La_law_514 : DI M_La_law 514 (.invokevirtual 70) 3 517 := ⟨by decide +kernel, rfl⟩
theorem d_La_law_517 : DI M_La_law 517 (.aload_n 2) 1 518 := ⟨by decide +kernel, rfl⟩
theorem d_La_law_518 : DI M_La_law 518 (.aload_n 0) 1 519 := ⟨by decide +kernel, rfl⟩
theorem d_La_law_519 : DI M_La_law 519 (.iload_n 3) 1 520 := ⟨by decide +kernel, rfl⟩
theorem d_La_law_520 : DI M_La_law 520 (.iconst 1) 1 521 := ⟨by decide +kernel, rfl⟩
theorem d_La_law_521 : DI M_La_law 521 (.iadd) 1 522 := ⟨by decide +kernel, rfl⟩
theorem d_La_law_522 : DI M_La_law 522 (.iaload) 1 523 := ⟨by decide +kernel, rfl⟩
theorem d_La_law_523 : DI M_La_law 523 (.aload_n 0) 1 524 := ⟨by decide +kernel, rfl⟩
theorem d_La_law_524 : DI M_La_law 524 (.iload_n 3) 1 525 := ⟨by decide +kernel, rfl⟩
theorem d_La_law_525 : DI M_La_law 525 (.iconst 2) 1 526 := ⟨by decide +kernel, rfl⟩
theorem d_La_law_526 : DI M_La_law 526 (.iadd) 1 527 := ⟨by decide +kernel, rfl⟩
theorem d_La_law_527 : DI M_La_law 527 (.iaload) 1 528 := ⟨by decide +kernel, rfl⟩
theorem d_La_law_528 : DI M_La_law 528 (.invokevirtual 73) 3 531 := ⟨by decide +kernel, rfl⟩
theorem d_La_law_531 : DJ M_La_law 531 (.if_icmp .eq 562) 562 3 534 1093 := ⟨by decide +kernel, rfl, rfl⟩
theorem d_La_law_534 : DI M_La_law 534 (.iconst 0) 1 535 := ⟨by decide +kernel, rfl⟩
theorem d_La_law_535 : DI M_La_law 535 (.ireturn) 1 536 := ⟨by decide +kernel, rfl⟩
theorem d_La_law_536 : DI M_La_law 536 (.aload_n 1) 1 537 := ⟨by decide +kernel, rfl⟩
theorem d_La_law_537 : DI M_La_law 537 (.aload_n 0) 1 538 := ⟨by decide +kernel, rfl⟩
theorem d_La_law_538 : DI M_La_law 538 (.iload_n 3) 1 539 := ⟨by decide +kernel, rfl⟩
theorem d_La_law_539 : DI M_La_law 539 (.iconst 1) 1 540 := ⟨by decide +kernel, rfl⟩
theorem d_La_law_540 : DI M_La_law 540 (.iadd) 1 541 := ⟨by decide +kernel, rfl⟩
theorem d_La_law_541 : DI M_La_law 541 (.iaload) 1 542 := ⟨by decide +kernel, rfl⟩
theorem d_La_law_542 : DI M_La_law 542 (.invokevirtual 74) 3 545 := ⟨by decide +kernel, rfl⟩
theorem d_La_law_545 : DI M_La_law 545 (.aload_n 2) 1 546 := ⟨by decide +kernel, rfl⟩
theorem d_La_law_546 : DI M_La_law 546 (.aload_n 0) 1 547 := ⟨by decide +kernel, rfl⟩
theorem d_La_law_547 : DI M_La_law 547 (.iload_n 3) 1 548 := ⟨by decide +kernel, rfl⟩
theorem d_La_law_548 : DI M_La_law 548 (.iconst 1) 1 549 := ⟨by decide +kernel, rfl⟩
theorem d_La_law_549 : DI M_La_law 549 (.iadd) 1 550 := ⟨by decide +kernel, rfl⟩
theorem d_La_law_550 : DI M_La_law 550 (.iaload) 1 551 := ⟨by decide +kernel, rfl⟩
theorem d_La_law_551 : DI M_La_law 551 (.invokevirtual 77) 3 554 := ⟨by decide +kernel, rfl⟩
theorem d_La_law_554 : DJ M_La_law 554 (.if_icmp .eq 539) 539 3 557 1093 := ⟨by decide +kernel, rfl, rfl⟩
theorem d_La_law_557 : DI M_La_law 557 (.iconst 0) 1 558 := ⟨by decide +kernel, rfl⟩
theorem d_La_law_558 : DI M_La_law 558 (.ireturn) 1 559 := ⟨by decide +kernel, rfl⟩
theorem d_La_law_559 : DI M_La_law 559 (.aload_n 1) 1 560 := ⟨by decide +kernel, rfl⟩
theorem d_La_law_560 : DI M_La_law 560 (.aload_n 0) 1 561 := ⟨by decide +kernel, rfl⟩
theorem d_La_law_561 : DI M_La_law 561 (.iload_n 3) 1 562 := ⟨by decide +kernel, rfl⟩
theorem d_La_law_562 : DI M_La_law 562 (.iconst 1) 1 563 := ⟨by decide +kernel, rfl⟩
theorem d_La_law_563 : DI M_La_law 563 (.iadd) 1 564 := ⟨by decide +kernel, rfl⟩
theorem d_La_law_564 : DI M_La_law 564 (.iaload) 1 565 := ⟨by decide +kernel, rfl⟩
theorem d_La_law_565 : DI M_La_law 565 (.aload_n 0) 1 566 := ⟨by decide +kernel, rfl⟩
theorem d_La_law_566 : DI M_La_law 566 (.iload_n 3) 1 567 := ⟨by decide +kernel, rfl⟩
theorem d_La_law_567 : DI M_La_law 567 (.iconst 2) 1 568 := ⟨by decide +kernel, rfl⟩
theorem d_La_law_568 : DI M_La_law 568 (.iadd) 1 569 := ⟨by decide +kernel, rfl⟩
theorem d_La_law_569 : DI M_La_law 569 (.iaload) 1 570 := ⟨by decide +kernel, rfl⟩
theorem d_La_law_570 : DI M_La_law 570 (.invokevirtual 78) 3 573 := ⟨by decide +kernel, rfl⟩
theorem d_La_law_573 : DI M_La_law 573 (.aload_n 2) 1 574 := ⟨by decide +kernel, rfl⟩
theorem d_La_law_574 : DI M_La_law 574 (.aload_n 0) 1 575 := ⟨by decide +kernel, rfl⟩
theorem d_La_law_575 : DI M_La_law 575 (.iload_n 3) 1 576 := ⟨by decide +kernel, rfl⟩
theorem d_La_law_576 : DI M_La_law 576 (.iconst 1) 1 577 := ⟨by decide +kernel, rfl⟩
theorem d_La_law_577 : DI M_La_law 577 (.iadd) 1 578 := ⟨by decide +kernel, rfl⟩
theorem d_La_law_578 : DI M_La_law 578 (.iaload) 1 579 := ⟨by decide +kernel, rfl⟩
theorem d_La_law_579 : DI M_La_law 579 (.aload_n 0) 1 580 := ⟨by decide +kernel, rfl⟩
theorem d_La_law_580 : DI M_La_law 580 (.iload_n 3) 1 581 := ⟨by decide +kernel, rfl⟩
theorem d_La_law_581 : DI M_La_law 581 (.iconst 2) 1 582 := ⟨by decide +kernel, rfl⟩
theorem d_La_law_582 : DI M_La_law 582 (.iadd) 1 583 := ⟨by decide +kernel, rfl⟩
theorem d_La_law_583 : DI M_La_law 583 (.iaload) 1 584 := ⟨by decide +kernel, rfl⟩
theorem d_La_law_584 : DI M_La_law 584 (.invokevirtual 81) 3 587 := ⟨by decide +kernel, rfl⟩
theorem d_La_law_587 : DJ M_La_law 587 (.if_icmp .eq 506) 506 3 590 1093 := ⟨by decide +kernel, rfl, rfl⟩
theorem d_La_law_590 : DI M_La_law 590 (.iconst 0) 1 591 := ⟨by decide +kernel, rfl⟩
theorem d_La_law_591 : DI M_La_law 591 (.ireturn) 1 592 := ⟨by decide +kernel, rfl⟩
theorem d_La_law_592 : DI M_La_law 592 (.aload_n 1) 1 593 := ⟨by decide +kernel, rfl⟩
theorem d_La_law_593 : DI M_La_law 593 (.invokevirtual 82) 3 596 := ⟨by decide +kernel, rfl⟩
theorem d_La_law_596 : DI M_La_law 596 (.aload_n 2) 1 597 := ⟨by decide +kernel, rfl⟩
theorem d_La_law_597 : DI M_La_law 597 (.invokevirtual 85) 3 600 := ⟨by decide +kernel, rfl⟩
theorem d_La_law_600 : DJ M_La_law 600 (.if_icmp .eq 493) 493 3 603 1093 := ⟨by decide +kernel, rfl, rfl⟩
theorem d_La_law_603 : DI M_La_law 603 (.iconst 0) 1 604 := ⟨by decide +kernel, rfl⟩
theorem d_La_law_604 : DI M_La_law 604 (.ireturn) 1 605 := ⟨by decide +kernel, rfl⟩
theorem d_La_law_605 : DI M_La_law 605 (.aload_n 1) 1 606 := ⟨by decide +kernel, rfl⟩
theorem d_La_law_606 : DI M_La_law 606 (.aload_n 0) 1 607 := ⟨by decide +kernel, rfl⟩
theorem d_La_law_607 : DI M_La_law 607 (.iload_n 3) 1 608 := ⟨by decide +kernel, rfl⟩
theorem d_La_law_608 : DI M_La_law 608 (.iconst 1) 1 609 := ⟨by decide +kernel, rfl⟩
theorem d_La_law_609 : DI M_La_law 609 (.iadd) 1 610 := ⟨by decide +kernel, rfl⟩
theorem d_La_law_610 : DI M_La_law 610 (.iaload) 1 611 := ⟨by decide +kernel, rfl⟩
theorem d_La_law_611 : DJ M_La_law 611 (.ifCond .eq 7) 7 3 614 618 := ⟨by decide +kernel, rfl, rfl⟩
theorem d_La_law_614 : DI M_La_law 614 (.iconst 1) 1 615 := ⟨by decide +kernel, rfl⟩
theorem d_La_law_615 : DJ M_La_law 615 (.goto 4) 4 3 618 619 := ⟨by decide +kernel, rfl, rfl⟩
theorem d_La_law_618 : DI M_La_law 618 (.iconst 0) 1 619 := ⟨by decide +kernel, rfl⟩
theorem d_La_law_619 : DI M_La_law 619 (.invokevirtual 86) 3 622 := ⟨by decide +kernel, rfl⟩
theorem d_La_law_622 : DI M_La_law 622 (.aload_n 2) 1 623 := ⟨by decide +kernel, rfl⟩
theorem d_La_law_623 : DI M_La_law 623 (.aload_n 0) 1 624 := ⟨by decide +kernel, rfl⟩
theorem d_La_law_624 : DI M_La_law 624 (.iload_n 3) 1 625 := ⟨by decide +kernel, rfl⟩
theorem d_La_law_625 : DI M_La_law 625 (.iconst 1) 1 626 := ⟨by decide +kernel, rfl⟩
theorem d_La_law_626 : DI M_La_law 626 (.iadd) 1 627 := ⟨by decide +kernel, rfl⟩
theorem d_La_law_627 : DI M_La_law 627 (.iaload) 1 628 := ⟨by decide +kernel, rfl⟩
theorem d_La_law_628 : DJ M_La_law 628 (.ifCond .eq 7) 7 3 631 635 := ⟨by decide +kernel, rfl, rfl⟩
theorem d_La_law_631 : DI M_La_law 631 (.iconst 1) 1 632 := ⟨by decide +kernel, rfl⟩
theorem d_La_law_632 : DJ M_La_law 632 (.goto 4) 4 3 635 636 := ⟨by decide +kernel, rfl, rfl⟩
theorem d_La_law_635 : DI M_La_law 635 (.iconst 0) 1 636 := ⟨by decide +kernel, rfl⟩
theorem d_La_law_636 : DI M_La_law 636 (.invokevirtual 90) 3 639 := ⟨by decide +kernel, rfl⟩
theorem d_La_law_639 : DJ M_La_law 639 (.if_icmp .eq 454) 454 3 642 1093 := ⟨by decide +kernel, rfl, rfl⟩
theorem d_La_law_642 : DI M_La_law 642 (.iconst 0) 1 643 := ⟨by decide +kernel, rfl⟩
theorem d_La_law_643 : DI M_La_law 643 (.ireturn) 1 644 := ⟨by decide +kernel, rfl⟩
theorem d_La_law_644 : DI M_La_law 644 (.aload_n 1) 1 645 := ⟨by decide +kernel, rfl⟩
theorem d_La_law_645 : DI M_La_law 645 (.aload_n 0) 1 646 := ⟨by decide +kernel, rfl⟩
theorem d_La_law_646 : DI M_La_law 646 (.iload_n 3) 1 647 := ⟨by decide +kernel, rfl⟩
theorem d_La_law_647 : DI M_La_law 647 (.iconst 1) 1 648 := ⟨by decide +kernel, rfl⟩
theorem d_La_law_648 : DI M_La_law 648 (.iadd) 1 649 := ⟨by decide +kernel, rfl⟩
theorem d_La_law_649 : DI M_La_law 649 (.iaload) 1 650 := ⟨by decide +kernel, rfl⟩
theorem d_La_law_650 : DI M_La_law 650 (.aload_n 0) 1 651 := ⟨by decide +kernel, rfl⟩
theorem d_La_law_651 : DI M_La_law 651 (.iload_n 3) 1 652 := ⟨by decide +kernel, rfl⟩
theorem d_La_law_652 : DI M_La_law 652 (.iconst 2) 1 653 := ⟨by decide +kernel, rfl⟩
theorem d_La_law_653 : DI M_La_law 653 (.iadd) 1 654 := ⟨by decide +kernel, rfl⟩
theorem d_La_law_654 : DI M_La_law 654 (.iaload) 1 655 := ⟨by decide +kernel, rfl⟩
theorem d_La_law_655 : DI M_La_law 655 (.i2l) 1 656 := ⟨by decide +kernel, rfl⟩
theorem d_La_law_656 : DI M_La_law 656 (.bipush 32) 2 658 := ⟨by decide +kernel, rfl⟩
theorem d_La_law_658 : DI M_La_law 658 (.lshl) 1 659 := ⟨by decide +kernel, rfl⟩
theorem d_La_law_659 : DI M_La_law 659 (.aload_n 0) 1 660 := ⟨by decide +kernel, rfl⟩
theorem d_La_law_660 : DI M_La_law 660 (.iload_n 3) 1 661 := ⟨by decide +kernel, rfl⟩
theorem d_La_law_661 : DI M_La_law 661 (.iconst 3) 1 662 := ⟨by decide +kernel, rfl⟩
theorem d_La_law_662 : DI M_La_law 662 (.iadd) 1 663 := ⟨by decide +kernel, rfl⟩
theorem d_La_law_663 : DI M_La_law 663 (.iaload) 1 664 := ⟨by decide +kernel, rfl⟩
theorem d_La_law_664 : DI M_La_law 664 (.i2l) 1 665 := ⟨by decide +kernel, rfl⟩
theorem d_La_law_665 : DI M_La_law 665 (.ldc2_w 91) 3 668 := ⟨by decide +kernel, rfl⟩
theorem d_La_law_668 : DI M_La_law 668 (.land) 1 669 := ⟨by decide +kernel, rfl⟩
theorem d_La_law_669 : DI M_La_law 669 (.lor) 1 670 := ⟨by decide +kernel, rfl⟩
theorem d_La_law_670 : DI M_La_law 670 (.invokevirtual 93) 3 673 := ⟨by decide +kernel, rfl⟩
theorem d_La_law_673 : DI M_La_law 673 (.aload_n 2) 1 674 := ⟨by decide +kernel, rfl⟩
theorem d_La_law_674 : DI M_La_law 674 (.aload_n 0) 1 675 := ⟨by decide +kernel, rfl⟩
theorem d_La_law_675 : DI M_La_law 675 (.iload_n 3) 1 676 := ⟨by decide +kernel, rfl⟩
theorem d_La_law_676 : DI M_La_law 676 (.iconst 1) 1 677 := ⟨by decide +kernel, rfl⟩
theorem d_La_law_677 : DI M_La_law 677 (.iadd) 1 678 := ⟨by decide +kernel, rfl⟩
theorem d_La_law_678 : DI M_La_law 678 (.iaload) 1 679 := ⟨by decide +kernel, rfl⟩
theorem d_La_law_679 : DI M_La_law 679 (.aload_n 0) 1 680 := ⟨by decide +kernel, rfl⟩
theorem d_La_law_680 : DI M_La_law 680 (.iload_n 3) 1 681 := ⟨by decide +kernel, rfl⟩
theorem d_La_law_681 : DI M_La_law 681 (.iconst 2) 1 682 := ⟨by decide +kernel, rfl⟩
theorem d_La_law_682 : DI M_La_law 682 (.iadd) 1 683 := ⟨by decide +kernel, rfl⟩
theorem d_La_law_683 : DI M_La_law 683 (.iaload) 1 684 := ⟨by decide +kernel, rfl⟩
theorem d_La_law_684 : DI M_La_law 684 (.i2l) 1 685 := ⟨by decide +kernel, rfl⟩
theorem d_La_law_685 : DI M_La_law 685 (.bipush 32) 2 687 := ⟨by decide +kernel, rfl⟩
theorem d_La_law_687 : DI M_La_law 687 (.lshl) 1 688 := ⟨by decide +kernel, rfl⟩
theorem d_La_law_688 : DI M_La_law 688 (.aload_n 0) 1 689 := ⟨by decide +kernel, rfl⟩
theorem d_La_law_689 : DI M_La_law 689 (.iload_n 3) 1 690 := ⟨by decide +kernel, rfl⟩
theorem d_La_law_690 : DI M_La_law 690 (.iconst 3) 1 691 := ⟨by decide +kernel, rfl⟩
theorem d_La_law_691 : DI M_La_law 691 (.iadd) 1 692 := ⟨by decide +kernel, rfl⟩
theorem d_La_law_692 : DI M_La_law 692 (.iaload) 1 693 := ⟨by decide +kernel, rfl⟩
theorem d_La_law_693 : DI M_La_law 693 (.i2l) 1 694 := ⟨by decide +kernel, rfl⟩
theorem d_La_law_694 : DI M_La_law 694 (.ldc2_w 91) 3 697 := ⟨by decide +kernel, rfl⟩
theorem d_La_law_697 : DI M_La_law 697 (.land) 1 698 := ⟨by decide +kernel, rfl⟩
theorem d_La_law_698 : DI M_La_law 698 (.lor) 1 699 := ⟨by decide +kernel, rfl⟩
theorem d_La_law_699 : DI M_La_law 699 (.invokevirtual 97) 3 702 := ⟨by decide +kernel, rfl⟩
theorem d_La_law_702 : DJ M_La_law 702 (.if_icmp .eq 391) 391 3 705 1093 := ⟨by decide +kernel, rfl, rfl⟩
theorem d_La_law_705 : DI M_La_law 705 (.iconst 0) 1 706 := ⟨by decide +kernel, rfl⟩
theorem d_La_law_706 : DI M_La_law 706 (.ireturn) 1 707 := ⟨by decide +kernel, rfl⟩
theorem d_La_law_707 : DI M_La_law 707 (.aload_n 1) 1 708 := ⟨by decide +kernel, rfl⟩
theorem d_La_law_708 : DI M_La_law 708 (.aload_n 0) 1 709 := ⟨by decide +kernel, rfl⟩
theorem d_La_law_709 : DI M_La_law 709 (.iload_n 3) 1 710 := ⟨by decide +kernel, rfl⟩
theorem d_La_law_710 : DI M_La_law 710 (.iconst 1) 1 711 := ⟨by decide +kernel, rfl⟩
theorem d_La_law_711 : DI M_La_law 711 (.iadd) 1 712 := ⟨by decide +kernel, rfl⟩
theorem d_La_law_712 : DI M_La_law 712 (.iaload) 1 713 := ⟨by decide +kernel, rfl⟩
theorem d_La_law_713 : DI M_La_law 713 (.aload_n 0) 1 714 := ⟨by decide +kernel, rfl⟩
theorem d_La_law_714 : DI M_La_law 714 (.iload_n 3) 1 715 := ⟨by decide +kernel, rfl⟩
theorem d_La_law_715 : DI M_La_law 715 (.iconst 2) 1 716 := ⟨by decide +kernel, rfl⟩
theorem d_La_law_716 : DI M_La_law 716 (.iadd) 1 717 := ⟨by decide +kernel, rfl⟩
theorem d_La_law_717 : DI M_La_law 717 (.iaload) 1 718 := ⟨by decide +kernel, rfl⟩
theorem d_La_law_718 : DJ M_La_law 718 (.ifCond .eq 7) 7 3 721 725 := ⟨by decide +kernel, rfl, rfl⟩
theorem d_La_law_721 : DI M_La_law 721 (.iconst 1) 1 722 := ⟨by decide +kernel, rfl⟩
theorem d_La_law_722 : DJ M_La_law 722 (.goto 4) 4 3 725 726 := ⟨by decide +kernel, rfl, rfl⟩
theorem d_La_law_725 : DI M_La_law 725 (.iconst 0) 1 726 := ⟨by decide +kernel, rfl⟩
theorem d_La_law_726 : DI M_La_law 726 (.invokevirtual 98) 3 729 := ⟨by decide +kernel, rfl⟩
theorem d_La_law_729 : DI M_La_law 729 (.aload_n 2) 1 730 := ⟨by decide +kernel, rfl⟩
theorem d_La_law_730 : DI M_La_law 730 (.aload_n 0) 1 731 := ⟨by decide +kernel, rfl⟩
theorem d_La_law_731 : DI M_La_law 731 (.iload_n 3) 1 732 := ⟨by decide +kernel, rfl⟩
theorem d_La_law_732 : DI M_La_law 732 (.iconst 1) 1 733 := ⟨by decide +kernel, rfl⟩
theorem d_La_law_733 : DI M_La_law 733 (.iadd) 1 734 := ⟨by decide +kernel, rfl⟩
theorem d_La_law_734 : DI M_La_law 734 (.iaload) 1 735 := ⟨by decide +kernel, rfl⟩
theorem d_La_law_735 : DI M_La_law 735 (.aload_n 0) 1 736 := ⟨by decide +kernel, rfl⟩
theorem d_La_law_736 : DI M_La_law 736 (.iload_n 3) 1 737 := ⟨by decide +kernel, rfl⟩
theorem d_La_law_737 : DI M_La_law 737 (.iconst 2) 1 738 := ⟨by decide +kernel, rfl⟩
theorem d_La_law_738 : DI M_La_law 738 (.iadd) 1 739 := ⟨by decide +kernel, rfl⟩
theorem d_La_law_739 : DI M_La_law 739 (.iaload) 1 740 := ⟨by decide +kernel, rfl⟩
theorem d_La_law_740 : DJ M_La_law 740 (.ifCond .eq 7) 7 3 743 747 := ⟨by decide +kernel, rfl, rfl⟩
theorem d_La_law_743 : DI M_La_law 743 (.iconst 1) 1 744 := ⟨by decide +kernel, rfl⟩
theorem d_La_law_744 : DJ M_La_law 744 (.goto 4) 4 3 747 748 := ⟨by decide +kernel, rfl, rfl⟩
theorem d_La_law_747 : DI M_La_law 747 (.iconst 0) 1 748 := ⟨by decide +kernel, rfl⟩
theorem d_La_law_748 : DI M_La_law 748 (.invokevirtual 101) 3 751 := ⟨by decide +kernel, rfl⟩
theorem d_La_law_751 : DJ M_La_law 751 (.if_icmp .eq 342) 342 3 754 1093 := ⟨by decide +kernel, rfl, rfl⟩
theorem d_La_law_754 : DI M_La_law 754 (.iconst 0) 1 755 := ⟨by decide +kernel, rfl⟩
theorem d_La_law_755 : DI M_La_law 755 (.ireturn) 1 756 := ⟨by decide +kernel, rfl⟩
theorem d_La_law_756 : DI M_La_law 756 (.aload_n 1) 1 757 := ⟨by decide +kernel, rfl⟩
theorem d_La_law_757 : DI M_La_law 757 (.aload_n 0) 1 758 := ⟨by decide +kernel, rfl⟩
theorem d_La_law_758 : DI M_La_law 758 (.iload_n 3) 1 759 := ⟨by decide +kernel, rfl⟩
theorem d_La_law_759 : DI M_La_law 759 (.iconst 1) 1 760 := ⟨by decide +kernel, rfl⟩
theorem d_La_law_760 : DI M_La_law 760 (.iadd) 1 761 := ⟨by decide +kernel, rfl⟩
theorem d_La_law_761 : DI M_La_law 761 (.iaload) 1 762 := ⟨by decide +kernel, rfl⟩
theorem d_La_law_762 : DI M_La_law 762 (.aload_n 0) 1 763 := ⟨by decide +kernel, rfl⟩
theorem d_La_law_763 : DI M_La_law 763 (.iload_n 3) 1 764 := ⟨by decide +kernel, rfl⟩
theorem d_La_law_764 : DI M_La_law 764 (.iconst 2) 1 765 := ⟨by decide +kernel, rfl⟩
theorem d_La_law_765 : DI M_La_law 765 (.iadd) 1 766 := ⟨by decide +kernel, rfl⟩
theorem d_La_law_766 : DI M_La_law 766 (.iaload) 1 767 := ⟨by decide +kernel, rfl⟩
theorem d_La_law_767 : DI M_La_law 767 (.invokevirtual 102) 3 770 := ⟨by decide +kernel, rfl⟩
theorem d_La_law_770 : DI M_La_law 770 (.aload_n 2) 1 771 := ⟨by decide +kernel, rfl⟩
theorem d_La_law_771 : DI M_La_law 771 (.aload_n 0) 1 772 := ⟨by decide +kernel, rfl⟩
theorem d_La_law_772 : DI M_La_law 772 (.iload_n 3) 1 773 := ⟨by decide +kernel, rfl⟩
theorem d_La_law_773 : DI M_La_law 773 (.iconst 1) 1 774 := ⟨by decide +kernel, rfl⟩
theorem d_La_law_774 : DI M_La_law 774 (.iadd) 1 775 := ⟨by decide +kernel, rfl⟩
theorem d_La_law_775 : DI M_La_law 775 (.iaload) 1 776 := ⟨by decide +kernel, rfl⟩
theorem d_La_law_776 : DI M_La_law 776 (.aload_n 0) 1 777 := ⟨by decide +kernel, rfl⟩
theorem d_La_law_777 : DI M_La_law 777 (.iload_n 3) 1 778 := ⟨by decide +kernel, rfl⟩
theorem d_La_law_778 : DI M_La_law 778 (.iconst 2) 1 779 := ⟨by decide +kernel, rfl⟩
theorem d_La_law_779 : DI M_La_law 779 (.iadd) 1 780 := ⟨by decide +kernel, rfl⟩
theorem d_La_law_780 : DI M_La_law 780 (.iaload) 1 781 := ⟨by decide +kernel, rfl⟩
theorem d_La_law_781 : DI M_La_law 781 (.invokevirtual 105) 3 784 := ⟨by decide +kernel, rfl⟩
theorem d_La_law_784 : DJ M_La_law 784 (.if_icmp .eq 309) 309 3 787 1093 := ⟨by decide +kernel, rfl, rfl⟩
theorem d_La_law_787 : DI M_La_law 787 (.iconst 0) 1 788 := ⟨by decide +kernel, rfl⟩
theorem d_La_law_788 : DI M_La_law 788 (.ireturn) 1 789 := ⟨by decide +kernel, rfl⟩
theorem d_La_law_789 : DI M_La_law 789 (.aload_n 1) 1 790 := ⟨by decide +kernel, rfl⟩
theorem d_La_law_790 : DI M_La_law 790 (.invokevirtual 106) 3 793 := ⟨by decide +kernel, rfl⟩
theorem d_La_law_793 : DI M_La_law 793 (.aload_n 2) 1 794 := ⟨by decide +kernel, rfl⟩
theorem d_La_law_794 : DI M_La_law 794 (.invokevirtual 109) 3 797 := ⟨by decide +kernel, rfl⟩
theorem d_La_law_797 : DJ M_La_law 797 (.if_icmp .eq 296) 296 3 800 1093 := ⟨by decide +kernel, rfl, rfl⟩
theorem d_La_law_800 : DI M_La_law 800 (.iconst 0) 1 801 := ⟨by decide +kernel, rfl⟩
theorem d_La_law_801 : DI M_La_law 801 (.ireturn) 1 802 := ⟨by decide +kernel, rfl⟩
theorem d_La_law_802 : DI M_La_law 802 (.aload_n 1) 1 803 := ⟨by decide +kernel, rfl⟩
theorem d_La_law_803 : DI M_La_law 803 (.aload_n 0) 1 804 := ⟨by decide +kernel, rfl⟩
theorem d_La_law_804 : DI M_La_law 804 (.iload_n 3) 1 805 := ⟨by decide +kernel, rfl⟩
theorem d_La_law_805 : DI M_La_law 805 (.iconst 1) 1 806 := ⟨by decide +kernel, rfl⟩
theorem d_La_law_806 : DI M_La_law 806 (.iadd) 1 807 := ⟨by decide +kernel, rfl⟩
theorem d_La_law_807 : DI M_La_law 807 (.iaload) 1 808 := ⟨by decide +kernel, rfl⟩
theorem d_La_law_808 : DI M_La_law 808 (.invokevirtual 110) 3 811 := ⟨by decide +kernel, rfl⟩
theorem d_La_law_811 : DI M_La_law 811 (.aload_n 2) 1 812 := ⟨by decide +kernel, rfl⟩
theorem d_La_law_812 : DI M_La_law 812 (.aload_n 0) 1 813 := ⟨by decide +kernel, rfl⟩
theorem d_La_law_813 : DI M_La_law 813 (.iload_n 3) 1 814 := ⟨by decide +kernel, rfl⟩
theorem d_La_law_814 : DI M_La_law 814 (.iconst 1) 1 815 := ⟨by decide +kernel, rfl⟩
theorem d_La_law_815 : DI M_La_law 815 (.iadd) 1 816 := ⟨by decide +kernel, rfl⟩
theorem d_La_law_816 : DI M_La_law 816 (.iaload) 1 817 := ⟨by decide +kernel, rfl⟩
theorem d_La_law_817 : DI M_La_law 817 (.invokevirtual 113) 3 820 := ⟨by decide +kernel, rfl⟩
theorem d_La_law_820 : DJ M_La_law 820 (.if_icmp .eq 273) 273 3 823 1093 := ⟨by decide +kernel, rfl, rfl⟩
theorem d_La_law_823 : DI M_La_law 823 (.iconst 0) 1 824 := ⟨by decide +kernel, rfl⟩
theorem d_La_law_824 : DI M_La_law 824 (.ireturn) 1 825 := ⟨by decide +kernel, rfl⟩
theorem d_La_law_825 : DI M_La_law 825 (.aload_n 1) 1 826 := ⟨by decide +kernel, rfl⟩
theorem d_La_law_826 : DI M_La_law 826 (.invokevirtual 114) 3 829 := ⟨by decide +kernel, rfl⟩
theorem d_La_law_829 : DI M_La_law 829 (.aload_n 2) 1 830 := ⟨by decide +kernel, rfl⟩
theorem d_La_law_830 : DI M_La_law 830 (.invokevirtual 117) 3 833 := ⟨by decide +kernel, rfl⟩
theorem d_La_law_833 : DJ M_La_law 833 (.if_icmp .eq 260) 260 3 836 1093 := ⟨by decide +kernel, rfl, rfl⟩
theorem d_La_law_836 : DI M_La_law 836 (.iconst 0) 1 837 := ⟨by decide +kernel, rfl⟩
theorem d_La_law_837 : DI M_La_law 837 (.ireturn) 1 838 := ⟨by decide +kernel, rfl⟩
theorem d_La_law_838 : DI M_La_law 838 (.aload_n 1) 1 839 := ⟨by decide +kernel, rfl⟩
theorem d_La_law_839 : DI M_La_law 839 (.aload_n 0) 1 840 := ⟨by decide +kernel, rfl⟩
theorem d_La_law_840 : DI M_La_law 840 (.iload_n 3) 1 841 := ⟨by decide +kernel, rfl⟩
theorem d_La_law_841 : DI M_La_law 841 (.iconst 1) 1 842 := ⟨by decide +kernel, rfl⟩
theorem d_La_law_842 : DI M_La_law 842 (.iadd) 1 843 := ⟨by decide +kernel, rfl⟩
theorem d_La_law_843 : DI M_La_law 843 (.iaload) 1 844 := ⟨by decide +kernel, rfl⟩
theorem d_La_law_844 : DI M_La_law 844 (.aload_n 0) 1 845 := ⟨by decide +kernel, rfl⟩
theorem d_La_law_845 : DI M_La_law 845 (.iload_n 3) 1 846 := ⟨by decide +kernel, rfl⟩
theorem d_La_law_846 : DI M_La_law 846 (.iconst 2) 1 847 := ⟨by decide +kernel, rfl⟩
theorem d_La_law_847 : DI M_La_law 847 (.iadd) 1 848 := ⟨by decide +kernel, rfl⟩
theorem d_La_law_848 : DI M_La_law 848 (.iaload) 1 849 := ⟨by decide +kernel, rfl⟩
theorem d_La_law_849 : DI M_La_law 849 (.aload_n 0) 1 850 := ⟨by decide +kernel, rfl⟩
theorem d_La_law_850 : DI M_La_law 850 (.iload_n 3) 1 851 := ⟨by decide +kernel, rfl⟩
theorem d_La_law_851 : DI M_La_law 851 (.iconst 3) 1 852 := ⟨by decide +kernel, rfl⟩
theorem d_La_law_852 : DI M_La_law 852 (.iadd) 1 853 := ⟨by decide +kernel, rfl⟩
theorem d_La_law_853 : DI M_La_law 853 (.iaload) 1 854 := ⟨by decide +kernel, rfl⟩
theorem d_La_law_854 : DI M_La_law 854 (.aload_n 0) 1 855 := ⟨by decide +kernel, rfl⟩
theorem d_La_law_855 : DI M_La_law 855 (.iload_n 3) 1 856 := ⟨by decide +kernel, rfl⟩
theorem d_La_law_856 : DI M_La_law 856 (.iconst 4) 1 857 := ⟨by decide +kernel, rfl⟩
theorem d_La_law_857 : DI M_La_law 857 (.iadd) 1 858 := ⟨by decide +kernel, rfl⟩
theorem d_La_law_858 : DI M_La_law 858 (.iaload) 1 859 := ⟨by decide +kernel, rfl⟩
theorem d_La_law_859 : DI M_La_law 859 (.invokevirtual 118) 3 862 := ⟨by decide +kernel, rfl⟩
theorem d_La_law_862 : DI M_La_law 862 (.aload_n 2) 1 863 := ⟨by decide +kernel, rfl⟩
theorem d_La_law_863 : DI M_La_law 863 (.aload_n 0) 1 864 := ⟨by decide +kernel, rfl⟩
theorem d_La_law_864 : DI M_La_law 864 (.iload_n 3) 1 865 := ⟨by decide +kernel, rfl⟩
theorem d_La_law_865 : DI M_La_law 865 (.iconst 1) 1 866 := ⟨by decide +kernel, rfl⟩
theorem d_La_law_866 : DI M_La_law 866 (.iadd) 1 867 := ⟨by decide +kernel, rfl⟩
theorem d_La_law_867 : DI M_La_law 867 (.iaload) 1 868 := ⟨by decide +kernel, rfl⟩
theorem d_La_law_868 : DI M_La_law 868 (.aload_n 0) 1 869 := ⟨by decide +kernel, rfl⟩
theorem d_La_law_869 : DI M_La_law 869 (.iload_n 3) 1 870 := ⟨by decide +kernel, rfl⟩
theorem d_La_law_870 : DI M_La_law 870 (.iconst 2) 1 871 := ⟨by decide +kernel, rfl⟩
theorem d_La_law_871 : DI M_La_law 871 (.iadd) 1 872 := ⟨by decide +kernel, rfl⟩
theorem d_La_law_872 : DI M_La_law 872 (.iaload) 1 873 := ⟨by decide +kernel, rfl⟩
theorem d_La_law_873 : DI M_La_law 873 (.aload_n 0) 1 874 := ⟨by decide +kernel, rfl⟩
theorem d_La_law_874 : DI M_La_law 874 (.iload_n 3) 1 875 := ⟨by decide +kernel, rfl⟩
theorem d_La_law_875 : DI M_La_law 875 (.iconst 3) 1 876 := ⟨by decide +kernel, rfl⟩
theorem d_La_law_876 : DI M_La_law 876 (.iadd) 1 877 := ⟨by decide +kernel, rfl⟩
theorem d_La_law_877 : DI M_La_law 877 (.iaload) 1 878 := ⟨by decide +kernel, rfl⟩
theorem d_La_law_878 : DI M_La_law 878 (.aload_n 0) 1 879 := ⟨by decide +kernel, rfl⟩
theorem d_La_law_879 : DI M_La_law 879 (.iload_n 3) 1 880 := ⟨by decide +kernel, rfl⟩
theorem d_La_law_880 : DI M_La_law 880 (.iconst 4) 1 881 := ⟨by decide +kernel, rfl⟩
theorem d_La_law_881 : DI M_La_law 881 (.iadd) 1 882 := ⟨by decide +kernel, rfl⟩
theorem d_La_law_882 : DI M_La_law 882 (.iaload) 1 883 := ⟨by decide +kernel, rfl⟩
theorem d_La_law_883 : DI M_La_law 883 (.invokevirtual 122) 3 886 := ⟨by decide +kernel, rfl⟩
theorem d_La_law_886 : DJ M_La_law 886 (.if_icmp .eq 207) 207 3 889 1093 := ⟨by decide +kernel, rfl, rfl⟩
theorem d_La_law_889 : DI M_La_law 889 (.iconst 0) 1 890 := ⟨by decide +kernel, rfl⟩
theorem d_La_law_890 : DI M_La_law 890 (.ireturn) 1 891 := ⟨by decide +kernel, rfl⟩
theorem d_La_law_891 : DI M_La_law 891 (.aload_n 1) 1 892 := ⟨by decide +kernel, rfl⟩
theorem d_La_law_892 : DI M_La_law 892 (.aload_n 0) 1 893 := ⟨by decide +kernel, rfl⟩
theorem d_La_law_893 : DI M_La_law 893 (.iload_n 3) 1 894 := ⟨by decide +kernel, rfl⟩
theorem d_La_law_894 : DI M_La_law 894 (.iconst 1) 1 895 := ⟨by decide +kernel, rfl⟩
theorem d_La_law_895 : DI M_La_law 895 (.iadd) 1 896 := ⟨by decide +kernel, rfl⟩
theorem d_La_law_896 : DI M_La_law 896 (.iaload) 1 897 := ⟨by decide +kernel, rfl⟩
theorem d_La_law_897 : DI M_La_law 897 (.aload_n 0) 1 898 := ⟨by decide +kernel, rfl⟩
theorem d_La_law_898 : DI M_La_law 898 (.iload_n 3) 1 899 := ⟨by decide +kernel, rfl⟩
theorem d_La_law_899 : DI M_La_law 899 (.iconst 2) 1 900 := ⟨by decide +kernel, rfl⟩
theorem d_La_law_900 : DI M_La_law 900 (.iadd) 1 901 := ⟨by decide +kernel, rfl⟩
theorem d_La_law_901 : DI M_La_law 901 (.iaload) 1 902 := ⟨by decide +kernel, rfl⟩
theorem d_La_law_902 : DI M_La_law 902 (.aload_n 0) 1 903 := ⟨by decide +kernel, rfl⟩
theorem d_La_law_903 : DI M_La_law 903 (.iload_n 3) 1 904 := ⟨by decide +kernel, rfl⟩
theorem d_La_law_904 : DI M_La_law 904 (.iconst 3) 1 905 := ⟨by decide +kernel, rfl⟩
theorem d_La_law_905 : DI M_La_law 905 (.iadd) 1 906 := ⟨by decide +kernel, rfl⟩
theorem d_La_law_906 : DI M_La_law 906 (.iaload) 1 907 := ⟨by decide +kernel, rfl⟩
theorem d_La_law_907 : DI M_La_law 907 (.aload_n 0) 1 908 := ⟨by decide +kernel, rfl⟩
theorem d_La_law_908 : DI M_La_law 908 (.iload_n 3) 1 909 := ⟨by decide +kernel, rfl⟩
theorem d_La_law_909 : DI M_La_law 909 (.iconst 4) 1 910 := ⟨by decide +kernel, rfl⟩
theorem d_La_law_910 : DI M_La_law 910 (.iadd) 1 911 := ⟨by decide +kernel, rfl⟩
theorem d_La_law_911 : DI M_La_law 911 (.iaload) 1 912 := ⟨by decide +kernel, rfl⟩
theorem d_La_law_912 : DI M_La_law 912 (.aload_n 0) 1 913 := ⟨by decide +kernel, rfl⟩
theorem d_La_law_913 : DI M_La_law 913 (.iload_n 3) 1 914 := ⟨by decide +kernel, rfl⟩
theorem d_La_law_914 : DI M_La_law 914 (.iconst 5) 1 915 := ⟨by decide +kernel, rfl⟩
theorem d_La_law_915 : DI M_La_law 915 (.iadd) 1 916 := ⟨by decide +kernel, rfl⟩
theorem d_La_law_916 : DI M_La_law 916 (.iaload) 1 917 := ⟨by decide +kernel, rfl⟩
theorem d_La_law_917 : DJ M_La_law 917 (.ifCond .eq 7) 7 3 920 924 := ⟨by decide +kernel, rfl, rfl⟩
theorem d_La_law_920 : DI M_La_law 920 (.iconst 1) 1 921 := ⟨by decide +kernel, rfl⟩
theorem d_La_law_921 : DJ M_La_law 921 (.goto 4) 4 3 924 925 := ⟨by decide +kernel, rfl, rfl⟩
theorem d_La_law_924 : DI M_La_law 924 (.iconst 0) 1 925 := ⟨by decide +kernel, rfl⟩
theorem d_La_law_925 : DI M_La_law 925 (.invokevirtual 123) 3 928 := ⟨by decide +kernel, rfl⟩
theorem d_La_law_928 : DI M_La_law 928 (.aload_n 2) 1 929 := ⟨by decide +kernel, rfl⟩
theorem d_La_law_929 : DI M_La_law 929 (.aload_n 0) 1 930 := ⟨by decide +kernel, rfl⟩
theorem d_La_law_930 : DI M_La_law 930 (.iload_n 3) 1 931 := ⟨by decide +kernel, rfl⟩
theorem d_La_law_931 : DI M_La_law 931 (.iconst 1) 1 932 := ⟨by decide +kernel, rfl⟩
theorem d_La_law_932 : DI M_La_law 932 (.iadd) 1 933 := ⟨by decide +kernel, rfl⟩
theorem d_La_law_933 : DI M_La_law 933 (.iaload) 1 934 := ⟨by decide +kernel, rfl⟩
theorem d_La_law_934 : DI M_La_law 934 (.aload_n 0) 1 935 := ⟨by decide +kernel, rfl⟩
theorem d_La_law_935 : DI M_La_law 935 (.iload_n 3) 1 936 := ⟨by decide +kernel, rfl⟩
theorem d_La_law_936 : DI M_La_law 936 (.iconst 2) 1 937 := ⟨by decide +kernel, rfl⟩
theorem d_La_law_937 : DI M_La_law 937 (.iadd) 1 938 := ⟨by decide +kernel, rfl⟩
theorem d_La_law_938 : DI M_La_law 938 (.iaload) 1 939 := ⟨by decide +kernel, rfl⟩
theorem d_La_law_939 : DI M_La_law 939 (.aload_n 0) 1 940 := ⟨by decide +kernel, rfl⟩
theorem d_La_law_940 : DI M_La_law 940 (.iload_n 3) 1 941 := ⟨by decide +kernel, rfl⟩
theorem d_La_law_941 : DI M_La_law 941 (.iconst 3) 1 942 := ⟨by decide +kernel, rfl⟩
theorem d_La_law_942 : DI M_La_law 942 (.iadd) 1 943 := ⟨by decide +kernel, rfl⟩
theorem d_La_law_943 : DI M_La_law 943 (.iaload) 1 944 := ⟨by decide +kernel, rfl⟩
theorem d_La_law_944 : DI M_La_law 944 (.aload_n 0) 1 945 := ⟨by decide +kernel, rfl⟩
theorem d_La_law_945 : DI M_La_law 945 (.iload_n 3) 1 946 := ⟨by decide +kernel, rfl⟩
theorem d_La_law_946 : DI M_La_law 946 (.iconst 4) 1 947 := ⟨by decide +kernel, rfl⟩
theorem d_La_law_947 : DI M_La_law 947 (.iadd) 1 948 := ⟨by decide +kernel, rfl⟩
theorem d_La_law_948 : DI M_La_law 948 (.iaload) 1 949 := ⟨by decide +kernel, rfl⟩
theorem d_La_law_949 : DI M_La_law 949 (.aload_n 0) 1 950 := ⟨by decide +kernel, rfl⟩
theorem d_La_law_950 : DI M_La_law 950 (.iload_n 3) 1 951 := ⟨by decide +kernel, rfl⟩
theorem d_La_law_951 : DI M_La_law 951 (.iconst 5) 1 952 := ⟨by decide +kernel, rfl⟩
theorem d_La_law_952 : DI M_La_law 952 (.iadd) 1 953 := ⟨by decide +kernel, rfl⟩
theorem d_La_law_953 : DI M_La_law 953 (.iaload) 1 954 := ⟨by decide +kernel, rfl⟩
theorem d_La_law_954 : DJ M_La_law 954 (.ifCond .eq 7) 7 3 957 961 := ⟨by decide +kernel, rfl, rfl⟩
theorem d_La_law_957 : DI M_La_law 957 (.iconst 1) 1 958 := ⟨by decide +kernel, rfl⟩
theorem d_La_law_958 : DJ M_La_law 958 (.goto 4) 4 3 961 962 := ⟨by decide +kernel, rfl, rfl⟩
theorem d_La_law_961 : DI M_La_law 961 (.iconst 0) 1 962 := ⟨by decide +kernel, rfl⟩
theorem d_La_law_962 : DI M_La_law 962 (.invokevirtual 127) 3 965 := ⟨by decide +kernel, rfl⟩
theorem d_La_law_965 : DJ M_La_law 965 (.if_icmp .eq 128) 128 3 968 1093 := ⟨by decide +kernel, rfl, rfl⟩
theorem d_La_law_968 : DI M_La_law 968 (.iconst 0) 1 969 := ⟨by decide +kernel, rfl⟩
theorem d_La_law_969 : DI M_La_law 969 (.ireturn) 1 970 := ⟨by decide +kernel, rfl⟩
theorem d_La_law_970 : DI M_La_law 970 (.aload_n 1) 1 971 := ⟨by decide +kernel, rfl⟩
theorem d_La_law_971 : DI M_La_law 971 (.aload_n 0) 1 972 := ⟨by decide +kernel, rfl⟩
theorem d_La_law_972 : DI M_La_law 972 (.iload_n 3) 1 973 := ⟨by decide +kernel, rfl⟩
theorem d_La_law_973 : DI M_La_law 973 (.iconst 1) 1 974 := ⟨by decide +kernel, rfl⟩
theorem d_La_law_974 : DI M_La_law 974 (.iadd) 1 975 := ⟨by decide +kernel, rfl⟩
theorem d_La_law_975 : DI M_La_law 975 (.iaload) 1 976 := ⟨by decide +kernel, rfl⟩
theorem d_La_law_976 : DI M_La_law 976 (.i2l) 1 977 := ⟨by decide +kernel, rfl⟩
theorem d_La_law_977 : DI M_La_law 977 (.bipush 32) 2 979 := ⟨by decide +kernel, rfl⟩
theorem d_La_law_979 : DI M_La_law 979 (.lshl) 1 980 := ⟨by decide +kernel, rfl⟩
theorem d_La_law_980 : DI M_La_law 980 (.aload_n 0) 1 981 := ⟨by decide +kernel, rfl⟩
theorem d_La_law_981 : DI M_La_law 981 (.iload_n 3) 1 982 := ⟨by decide +kernel, rfl⟩
theorem d_La_law_982 : DI M_La_law 982 (.iconst 2) 1 983 := ⟨by decide +kernel, rfl⟩
theorem d_La_law_983 : DI M_La_law 983 (.iadd) 1 984 := ⟨by decide +kernel, rfl⟩
theorem d_La_law_984 : DI M_La_law 984 (.iaload) 1 985 := ⟨by decide +kernel, rfl⟩
theorem d_La_law_985 : DI M_La_law 985 (.i2l) 1 986 := ⟨by decide +kernel, rfl⟩
theorem d_La_law_986 : DI M_La_law 986 (.ldc2_w 91) 3 989 := ⟨by decide +kernel, rfl⟩
theorem d_La_law_989 : DI M_La_law 989 (.land) 1 990 := ⟨by decide +kernel, rfl⟩
theorem d_La_law_990 : DI M_La_law 990 (.lor) 1 991 := ⟨by decide +kernel, rfl⟩
theorem d_La_law_991 : DI M_La_law 991 (.invokevirtual 128) 3 994 := ⟨by decide +kernel, rfl⟩
theorem d_La_law_994 : DI M_La_law 994 (.aload_n 2) 1 995 := ⟨by decide +kernel, rfl⟩
theorem d_La_law_995 : DI M_La_law 995 (.aload_n 0) 1 996 := ⟨by decide +kernel, rfl⟩
theorem d_La_law_996 : DI M_La_law 996 (.iload_n 3) 1 997 := ⟨by decide +kernel, rfl⟩
theorem d_La_law_997 : DI M_La_law 997 (.iconst 1) 1 998 := ⟨by decide +kernel, rfl⟩
theorem d_La_law_998 : DI M_La_law 998 (.iadd) 1 999 := ⟨by decide +kernel, rfl⟩
theorem d_La_law_999 : DI M_La_law 999 (.iaload) 1 1000 := ⟨by decide +kernel, rfl⟩
theorem d_La_law_1000 : DI M_La_law 1000 (.i2l) 1 1001 := ⟨by decide +kernel, rfl⟩
theorem d_La_law_1001 : DI M_La_law 1001 (.bipush 32) 2 1003 := ⟨by decide +kernel, rfl⟩
theorem d_La_law_1003 : DI M_La_law 1003 (.lshl) 1 1004 := ⟨by decide +kernel, rfl⟩
theorem d_La_law_1004 : DI M_La_law 1004 (.aload_n 0) 1 1005 := ⟨by decide +kernel, rfl⟩
theorem d_La_law_1005 : DI M_La_law 1005 (.iload_n 3) 1 1006 := ⟨by decide +kernel, rfl⟩
theorem d_La_law_1006 : DI M_La_law 1006 (.iconst 2) 1 1007 := ⟨by decide +kernel, rfl⟩
theorem d_La_law_1007 : DI M_La_law 1007 (.iadd) 1 1008 := ⟨by decide +kernel, rfl⟩
theorem d_La_law_1008 : DI M_La_law 1008 (.iaload) 1 1009 := ⟨by decide +kernel, rfl⟩
theorem d_La_law_1009 : DI M_La_law 1009 (.i2l) 1 1010 := ⟨by decide +kernel, rfl⟩
theorem d_La_law_1010 : DI M_La_law 1010 (.ldc2_w 91) 3 1013 := ⟨by decide +kernel, rfl⟩
theorem d_La_law_1013 : DI M_La_law 1013 (.land) 1 1014 := ⟨by decide +kernel, rfl⟩
theorem d_La_law_1014 : DI M_La_law 1014 (.lor) 1 1015 := ⟨by decide +kernel, rfl⟩
theorem d_La_law_1015 : DI M_La_law 1015 (.invokevirtual 132) 3 1018 := ⟨by decide +kernel, rfl⟩
theorem d_La_law_1018 : DI M_La_law 1018 (.lcmp) 1 1019 := ⟨by decide +kernel, rfl⟩
theorem d_La_law_1019 : DJ M_La_law 1019 (.ifCond .eq 74) 74 3 1022 1093 := ⟨by decide +kernel, rfl, rfl⟩
theorem d_La_law_1022 : DI M_La_law 1022 (.iconst 0) 1 1023 := ⟨by decide +kernel, rfl⟩
theorem d_La_law_1023 : DI M_La_law 1023 (.ireturn) 1 1024 := ⟨by decide +kernel, rfl⟩
theorem d_La_law_1024 : DI M_La_law 1024 (.aload_n 1) 1 1025 := ⟨by decide +kernel, rfl⟩
theorem d_La_law_1025 : DI M_La_law 1025 (.aload_n 0) 1 1026 := ⟨by decide +kernel, rfl⟩
theorem d_La_law_1026 : DI M_La_law 1026 (.iload_n 3) 1 1027 := ⟨by decide +kernel, rfl⟩
theorem d_La_law_1027 : DI M_La_law 1027 (.iconst 1) 1 1028 := ⟨by decide +kernel, rfl⟩
theorem d_La_law_1028 : DI M_La_law 1028 (.iadd) 1 1029 := ⟨by decide +kernel, rfl⟩
theorem d_La_law_1029 : DI M_La_law 1029 (.iaload) 1 1030 := ⟨by decide +kernel, rfl⟩
theorem d_La_law_1030 : DI M_La_law 1030 (.invokevirtual 133) 3 1033 := ⟨by decide +kernel, rfl⟩
theorem d_La_law_1033 : DI M_La_law 1033 (.aload_n 2) 1 1034 := ⟨by decide +kernel, rfl⟩
theorem d_La_law_1034 : DI M_La_law 1034 (.aload_n 0) 1 1035 := ⟨by decide +kernel, rfl⟩
theorem d_La_law_1035 : DI M_La_law 1035 (.iload_n 3) 1 1036 := ⟨by decide +kernel, rfl⟩
theorem d_La_law_1036 : DI M_La_law 1036 (.iconst 1) 1 1037 := ⟨by decide +kernel, rfl⟩
theorem d_La_law_1037 : DI M_La_law 1037 (.iadd) 1 1038 := ⟨by decide +kernel, rfl⟩
theorem d_La_law_1038 : DI M_La_law 1038 (.iaload) 1 1039 := ⟨by decide +kernel, rfl⟩
theorem d_La_law_1039 : DI M_La_law 1039 (.invokevirtual 136) 3 1042 := ⟨by decide +kernel, rfl⟩
theorem d_La_law_1042 : DJ M_La_law 1042 (.if_icmp .eq 51) 51 3 1045 1093 := ⟨by decide +kernel, rfl, rfl⟩
theorem d_La_law_1045 : DI M_La_law 1045 (.iconst 0) 1 1046 := ⟨by decide +kernel, rfl⟩
theorem d_La_law_1046 : DI M_La_law 1046 (.ireturn) 1 1047 := ⟨by decide +kernel, rfl⟩
theorem d_La_law_1047 : DI M_La_law 1047 (.aload_n 1) 1 1048 := ⟨by decide +kernel, rfl⟩
theorem d_La_law_1048 : DI M_La_law 1048 (.aload_n 0) 1 1049 := ⟨by decide +kernel, rfl⟩
theorem d_La_law_1049 : DI M_La_law 1049 (.iload_n 3) 1 1050 := ⟨by decide +kernel, rfl⟩
theorem d_La_law_1050 : DI M_La_law 1050 (.iconst 1) 1 1051 := ⟨by decide +kernel, rfl⟩
theorem d_La_law_1051 : DI M_La_law 1051 (.iadd) 1 1052 := ⟨by decide +kernel, rfl⟩
theorem d_La_law_1052 : DI M_La_law 1052 (.iaload) 1 1053 := ⟨by decide +kernel, rfl⟩
theorem d_La_law_1053 : DI M_La_law 1053 (.invokevirtual 137) 3 1056 := ⟨by decide +kernel, rfl⟩
theorem d_La_law_1056 : DI M_La_law 1056 (.aload_n 2) 1 1057 := ⟨by decide +kernel, rfl⟩
theorem d_La_law_1057 : DI M_La_law 1057 (.aload_n 0) 1 1058 := ⟨by decide +kernel, rfl⟩
theorem d_La_law_1058 : DI M_La_law 1058 (.iload_n 3) 1 1059 := ⟨by decide +kernel, rfl⟩
theorem d_La_law_1059 : DI M_La_law 1059 (.iconst 1) 1 1060 := ⟨by decide +kernel, rfl⟩
theorem d_La_law_1060 : DI M_La_law 1060 (.iadd) 1 1061 := ⟨by decide +kernel, rfl⟩
theorem d_La_law_1061 : DI M_La_law 1061 (.iaload) 1 1062 := ⟨by decide +kernel, rfl⟩
theorem d_La_law_1062 : DI M_La_law 1062 (.invokevirtual 140) 3 1065 := ⟨by decide +kernel, rfl⟩
theorem d_La_law_1065 : DJ M_La_law 1065 (.if_icmp .eq 28) 28 3 1068 1093 := ⟨by decide +kernel, rfl, rfl⟩
theorem d_La_law_1068 : DI M_La_law 1068 (.iconst 0) 1 1069 := ⟨by decide +kernel, rfl⟩
theorem d_La_law_1069 : DI M_La_law 1069 (.ireturn) 1 1070 := ⟨by decide +kernel, rfl⟩
theorem d_La_law_1070 : DI M_La_law 1070 (.aload_n 1) 1 1071 := ⟨by decide +kernel, rfl⟩
theorem d_La_law_1071 : DI M_La_law 1071 (.aload_n 0) 1 1072 := ⟨by decide +kernel, rfl⟩
theorem d_La_law_1072 : DI M_La_law 1072 (.iload_n 3) 1 1073 := ⟨by decide +kernel, rfl⟩
theorem d_La_law_1073 : DI M_La_law 1073 (.iconst 1) 1 1074 := ⟨by decide +kernel, rfl⟩
theorem d_La_law_1074 : DI M_La_law 1074 (.iadd) 1 1075 := ⟨by decide +kernel, rfl⟩
theorem d_La_law_1075 : DI M_La_law 1075 (.iaload) 1 1076 := ⟨by decide +kernel, rfl⟩
theorem d_La_law_1076 : DI M_La_law 1076 (.invokevirtual 141) 3 1079 := ⟨by decide +kernel, rfl⟩
theorem d_La_law_1079 : DI M_La_law 1079 (.aload_n 2) 1 1080 := ⟨by decide +kernel, rfl⟩
theorem d_La_law_1080 : DI M_La_law 1080 (.aload_n 0) 1 1081 := ⟨by decide +kernel, rfl⟩
theorem d_La_law_1081 : DI M_La_law 1081 (.iload_n 3) 1 1082 := ⟨by decide +kernel, rfl⟩
theorem d_La_law_1082 : DI M_La_law 1082 (.iconst 1) 1 1083 := ⟨by decide +kernel, rfl⟩
theorem d_La_law_1083 : DI M_La_law 1083 (.iadd) 1 1084 := ⟨by decide +kernel, rfl⟩
theorem d_La_law_1084 : DI M_La_law 1084 (.iaload) 1 1085 := ⟨by decide +kernel, rfl⟩
theorem d_La_law_1085 : DI M_La_law 1085 (.invokevirtual 144) 3 1088 := ⟨by decide +kernel, rfl⟩
theorem d_La_law_1088 : DJ M_La_law 1088 (.if_icmp .eq 5) 5 3 1091 1093 := ⟨by decide +kernel, rfl, rfl⟩
theorem d_La_law_1091 : DI M_La_law 1091 (.iconst 0) 1 1092 := ⟨by decide +kernel, rfl⟩
theorem d_La_law_1092 : DI M_La_law 1092 (.ireturn) 1 1093 := ⟨by decide +kernel, rfl⟩
theorem d_La_law_1093 : DI M_La_law 1093 (.iinc 3 6) 3 1096 := ⟨by decide +kernel, rfl⟩
theorem d_La_law_1096 : DJ M_La_law 1096 (.goto (-1078)) (-1078) 3 1099 18 := ⟨by decide +kernel, rfl, rfl⟩
theorem d_La_law_1099 : DI M_La_law 1099 (.iconst 1) 1 1100 := ⟨by decide +kernel, rfl⟩
theorem d_La_law_1100 : DI M_La_law 1100 (.ireturn) 1 1101 := ⟨by decide +kernel, rfl⟩
end
section
/-! ===== calls by the number of their arguments; Math.min, Math.max; numbers ===== -/
def Ret (v : Value) (h : AH) : Option Value → AH → Prop := fun r h2 => r = some v ∧ h2 = h
def Rv (h : AH) : Option Value → AH → Prop := fun r h2 => r = none ∧ h2 = h
section RUNM
variable {X : Nat × (Nat → Int32)} {d kc ks : Nat} {M : MR} {pc nx : Nat} {L : List (Option Value)} {S : List Value} {h : AH} {Q : Option Value → AH → Prop}
theorem Run.mmin {idx : Nat} {x y : Int32} (hd : DI M pc (.invokestatic idx) 3 nx) (hlk : Cond.methodLink M.1.cls idx Lib.Math.min.name ∈ TB) (hw : (S.map fun v => v.category).sum ≤ 8) (kk : Run X (d + 1) kc ks M nx L (.int (if y < x then y else x) :: S) h Q) : Run X (d + 1) kc ks M pc L (.int y :: .int x :: S) h Q := by
  obtain ⟨hd, rfl⟩ := hd
  intro E p l e R s m args below meth c H locs cells slots Z ls C h1 h2 h3 h4 hH hS hl kz
  exact va_mmin C.1 C.2.1 (by rw [C.2.2.2.1]; exact hl.1.symm) C.own (C.ts _ hlk) (C.ts _ mst_min) (C.ts _ mini) (C.ts _ mcd_min) (by omega) (by rw [e_sum]; omega) (by omega) (by omega) hd (kk E p l e R s m args below meth c H locs cells slots Z ls C h1 h2 h3 h4 hH hS hl kz)
theorem Run.mmax {idx : Nat} {x y : Int32} (hd : DI M pc (.invokestatic idx) 3 nx) (hlk : Cond.methodLink M.1.cls idx Lib.Math.max.name ∈ TB) (hw : (S.map fun v => v.category).sum ≤ 8) (kk : Run X (d + 1) kc ks M nx L (.int (if x < y then y else x) :: S) h Q) : Run X (d + 1) kc ks M pc L (.int y :: .int x :: S) h Q := by
  obtain ⟨hd, rfl⟩ := hd
  intro E p l e R s m args below meth c H locs cells slots Z ls C h1 h2 h3 h4 hH hS hl kz
  exact va_mmax C.1 C.2.1 (by rw [C.2.2.2.1]; exact hl.1.symm) C.own (C.ts _ hlk) (C.ts _ mst_max) (C.ts _ mini) (C.ts _ mcd_max) (by omega) (by rw [e_sum]; omega) (by omega) (by omega) hd (kk E p l e R s m args below meth c H locs cells slots Z ls C h1 h2 h3 h4 hH hS hl kz)
end RUNM
end
section
/-! ===== rows over natural numbers and truth values ===== -/
def bI (b : Bool) : Int32 := if b then 1 else 0
theorem bI_1 : nI 1 = bI true := rfl
theorem bI_0 : nI 0 = bI false := rfl
theorem bI_eq {a b : Bool} : bI a = bI b ↔ a = b := by cases a <;> cases b <;> decide
theorem bI_nar (b : Bool) : narrow .boolean (.int (bI b)) = .int (bI b) := by cases b <;> decide +kernel
theorem bI_vnar (b : Bool) : vp_nar .boolean (bI b) = bI b := by cases b <;> decide +kernel
theorem ic_0 : Int32.ofInt 0 = nI 0 := by decide +kernel
theorem ic_1 : Int32.ofInt 1 = nI 1 := by decide +kernel
theorem ic_2 : Int32.ofInt 2 = nI 2 := by decide +kernel
theorem ic_3 : Int32.ofInt 3 = nI 3 := by decide +kernel
theorem ic_4 : Int32.ofInt 4 = nI 4 := by decide +kernel
theorem ic_5 : Int32.ofInt 5 = nI 5 := by decide +kernel
theorem ic_6 : Int32.ofInt 6 = nI 6 := by decide +kernel
theorem bp_m9 : (Int8.ofInt (-9)).toInt32 = -9 := by decide +kernel
theorem bp_m4 : (Int8.ofInt (-4)).toInt32 = -4 := by decide +kernel
theorem bp_m3 : (Int8.ofInt (-3)).toInt32 = -3 := by decide +kernel
theorem bp_m2 : (Int8.ofInt (-2)).toInt32 = -2 := by decide +kernel
theorem bp_6 : (Int8.ofInt 6).toInt32 = nI 6 := by decide +kernel
theorem bp_7 : (Int8.ofInt 7).toInt32 = nI 7 := by decide +kernel
theorem bp_8 : (Int8.ofInt 8).toInt32 = nI 8 := by decide +kernel
theorem bp_10 : (Int8.ofInt 10).toInt32 = nI 10 := by decide +kernel
theorem bp_12 : (Int8.ofInt 12).toInt32 = nI 12 := by decide +kernel
theorem bp_13 : (Int8.ofInt 13).toInt32 = nI 13 := by decide +kernel
theorem bp_14 : (Int8.ofInt 14).toInt32 = nI 14 := by decide +kernel
theorem bp_16 : (Int8.ofInt 16).toInt32 = nI 16 := by decide +kernel
theorem bp_18 : (Int8.ofInt 18).toInt32 = nI 18 := by decide +kernel
theorem bp_24 : (Int8.ofInt 24).toInt32 = nI 24 := by decide +kernel
theorem bp_28 : (Int8.ofInt 28).toInt32 = nI 28 := by decide +kernel
theorem bp_30 : (Int8.ofInt 30).toInt32 = nI 30 := by decide +kernel
theorem bp_31 : (Int8.ofInt 31).toInt32 = nI 31 := by decide +kernel
theorem bp_32 : (Int8.ofInt 32).toInt32 = nI 32 := by decide +kernel
theorem bp_33 : (Int8.ofInt 33).toInt32 = nI 33 := by decide +kernel
theorem bp_48 : (Int8.ofInt 48).toInt32 = nI 48 := by decide +kernel
theorem bp_50 : (Int8.ofInt 50).toInt32 = nI 50 := by decide +kernel
theorem bp_63 : (Int8.ofInt 63).toInt32 = nI 63 := by decide +kernel
theorem bp_64 : (Int8.ofInt 64).toInt32 = nI 64 := by decide +kernel
theorem bp_67 : (Int8.ofInt 67).toInt32 = nI 67 := by decide +kernel
theorem bp_72 : (Int8.ofInt 72).toInt32 = nI 72 := by decide +kernel
theorem bp_80 : (Int8.ofInt 80).toInt32 = nI 80 := by decide +kernel
theorem bp_100 : (Int8.ofInt 100).toInt32 = nI 100 := by decide +kernel
theorem sp_160 : (Int16.ofInt 160).toInt32 = nI 160 := by decide +kernel
theorem sp_182 : (Int16.ofInt 182).toInt32 = nI 182 := by decide +kernel
theorem sp_196 : (Int16.ofInt 196).toInt32 = nI 196 := by decide +kernel
theorem sp_255 : (Int16.ofInt 255).toInt32 = nI 255 := by decide +kernel
theorem sp_256 : (Int16.ofInt 256).toInt32 = nI 256 := by decide +kernel
theorem sp_300 : (Int16.ofInt 300).toInt32 = nI 300 := by decide +kernel
theorem ic_m1 : Int32.ofInt (-1) = -1 := by decide +kernel
theorem nI_and (a b : Nat) : nI a &&& nI b = nI (a &&& b) := by
  apply Int32.toBitVec_inj.mp
  simp [nI, Int32.toBitVec_and]
theorem nI_or (a b : Nat) : nI a ||| nI b = nI (a ||| b) := by
  apply Int32.toBitVec_inj.mp
  simp [nI, Int32.toBitVec_or]
theorem nI_xor (a b : Nat) : nI a ^^^ nI b = nI (a ^^^ b) := by
  apply Int32.toBitVec_inj.mp
  simp [nI, Int32.toBitVec_xor]
theorem sh_mod : ∀ b, b < 32 → ((nI b &&& 31).toBitVec.smod 32).toNat = b := by decide +kernel
theorem nI_shl {a b : Nat} (hb : b < 32) (ha : a * 2 ^ b < 2 ^ 32) : nI a <<< (nI b &&& 31) = nI (a * 2 ^ b) := pk_shlN _ b (sh_mod b hb) ha
theorem nI_shr {a b : Nat} (hb : b < 32) (ha : a < 2 ^ 31) : nI a >>> (nI b &&& 31) = nI (a / 2 ^ b) := pk_shrN ha _ b (sh_mod b hb)
section RUNN
variable {X : Nat × (Nat → Int32)} {d kc ks : Nat} {M : MR} {pc nx tgt : Nat} {L : List (Option Value)} {S : List Value} {h : AH} {Q Q1 : Option Value → AH → Prop}
theorem Run.iadd_n {a b : Nat} (hd : DI M pc .iadd 1 nx) (k : Run X d kc ks M nx L (.int (nI (a + b)) :: S) h Q) : Run X d kc ks M pc L (.int (nI b) :: .int (nI a) :: S) h Q := Run.iadd hd (by rw [nI_add]; exact k)
theorem Run.isub_n {a b : Nat} (hd : DI M pc .isub 1 nx) (hb : b ≤ a) (k : Run X d kc ks M nx L (.int (nI (a - b)) :: S) h Q) : Run X d kc ks M pc L (.int (nI b) :: .int (nI a) :: S) h Q := Run.isub hd (by rw [pk_sub hb]; exact k)
theorem Run.imul_n {a b : Nat} (hd : DI M pc .imul 1 nx) (k : Run X d kc ks M nx L (.int (nI (a * b)) :: S) h Q) : Run X d kc ks M pc L (.int (nI b) :: .int (nI a) :: S) h Q := Run.imul hd (by rw [pk_mul]; exact k)
theorem Run.idiv_n {a b : Nat} (hd : DI M pc .idiv 1 nx) (ha : a < 2 ^ 31) (h0 : 0 < b) (hb : b < 2 ^ 31) (k : Run X d kc ks M nx L (.int (nI (a / b)) :: S) h Q) : Run X d kc ks M pc L (.int (nI b) :: .int (nI a) :: S) h Q := Run.idiv hd (nI_ne0 h0 hb) (by rw [pk_div ha h0 hb]; exact k)
theorem Run.irem_n {a b : Nat} (hd : DI M pc .irem 1 nx) (ha : a < 2 ^ 31) (h0 : 0 < b) (hb : b < 2 ^ 31) (k : Run X d kc ks M nx L (.int (nI (a % b)) :: S) h Q) : Run X d kc ks M pc L (.int (nI b) :: .int (nI a) :: S) h Q := Run.irem hd (nI_ne0 h0 hb) (by rw [pk_rem ha h0 hb]; exact k)
theorem Run.iand_n {a b : Nat} (hd : DI M pc .iand 1 nx) (k : Run X d kc ks M nx L (.int (nI (a &&& b)) :: S) h Q) : Run X d kc ks M pc L (.int (nI b) :: .int (nI a) :: S) h Q := Run.iand hd (by rw [nI_and]; exact k)
theorem Run.ior_n {a b : Nat} (hd : DI M pc .ior 1 nx) (k : Run X d kc ks M nx L (.int (nI (a ||| b)) :: S) h Q) : Run X d kc ks M pc L (.int (nI b) :: .int (nI a) :: S) h Q := Run.ior hd (by rw [nI_or]; exact k)
theorem Run.ixor_n {a b : Nat} (hd : DI M pc .ixor 1 nx) (k : Run X d kc ks M nx L (.int (nI (a ^^^ b)) :: S) h Q) : Run X d kc ks M pc L (.int (nI b) :: .int (nI a) :: S) h Q := Run.ixor hd (by rw [nI_xor]; exact k)
theorem Run.ishl_n {a b : Nat} (hd : DI M pc .ishl 1 nx) (hb : b < 32) (ha : a * 2 ^ b < 2 ^ 32) (k : Run X d kc ks M nx L (.int (nI (a * 2 ^ b)) :: S) h Q) : Run X d kc ks M pc L (.int (nI b) :: .int (nI a) :: S) h Q := Run.ishl hd (by rw [nI_shl hb ha]; exact k)
theorem Run.ishr_n {a b : Nat} (hd : DI M pc .ishr 1 nx) (hb : b < 32) (ha : a < 2 ^ 31) (k : Run X d kc ks M nx L (.int (nI (a / 2 ^ b)) :: S) h Q) : Run X d kc ks M pc L (.int (nI b) :: .int (nI a) :: S) h Q := Run.ishr hd (by rw [nI_shr hb ha]; exact k)
theorem Run.iinc_n {i k a : Nat} {n : Int} (hd : DI M pc (.iinc i n) 3 nx) (hn : Int32.ofInt n = nI k) (hx : L[i]? = some (some (.int (nI a)))) (hf : freeAt L i = true) (kk : Run X d kc ks M nx (L.set i (some (.int (nI (a + k))))) S h Q) : Run X d kc ks M pc L S h Q := Run.iinc (v := nI (a + k)) hd hx (by rw [hn, nI_add]) hf kk
theorem Run.iinc_d {i a : Nat} {n : Int} (hd : DI M pc (.iinc i n) 3 nx) (hn : Int32.ofInt n = -1) (hx : L[i]? = some (some (.int (nI (a + 1))))) (hf : freeAt L i = true) (kk : Run X d kc ks M nx (L.set i (some (.int (nI a)))) S h Q) : Run X d kc ks M pc L S h Q := Run.iinc (v := nI a) hd hx (by rw [hn, pk_m1]) hf kk
theorem Run.icmp_eq_n {a b : Nat} {off : Int} (hd : DJ M pc (.if_icmp .eq off) off 3 nx tgt) (ha : a < 2 ^ 31) (hb : b < 2 ^ 31) (kt : a = b → Run X d kc ks M tgt L S h Q) (kf : ¬ a = b → Run X d kc ks M nx L S h Q) : Run X d kc ks M pc L (.int (nI b) :: .int (nI a) :: S) h Q := Run.icmp_eq hd (fun q => kt (by have e := (nI_eq ha hb); first | exact e.mp q | exact fun z => q (e.mpr z))) (fun q => kf (by have e := (nI_eq ha hb); first | exact e.mp q | exact fun z => q (e.mpr z) | (rw [e] at q; omega)))
theorem Run.icmp_ne_n {a b : Nat} {off : Int} (hd : DJ M pc (.if_icmp .ne off) off 3 nx tgt) (ha : a < 2 ^ 31) (hb : b < 2 ^ 31) (kt : ¬ a = b → Run X d kc ks M tgt L S h Q) (kf : a = b → Run X d kc ks M nx L S h Q) : Run X d kc ks M pc L (.int (nI b) :: .int (nI a) :: S) h Q := Run.icmp_ne hd (fun q => kt (by have e := (nI_eq ha hb); first | exact e.mp q | exact fun z => q (e.mpr z))) (fun q => kf (by have e := (nI_eq ha hb); first | exact e.mp q | exact fun z => q (e.mpr z) | (rw [e] at q; omega)))
theorem Run.icmp_lt_n {a b : Nat} {off : Int} (hd : DJ M pc (.if_icmp .lt off) off 3 nx tgt) (ha : a < 2 ^ 31) (hb : b < 2 ^ 31) (kt : a < b → Run X d kc ks M tgt L S h Q) (kf : b ≤ a → Run X d kc ks M nx L S h Q) : Run X d kc ks M pc L (.int (nI b) :: .int (nI a) :: S) h Q := Run.icmp_lt hd (fun q => kt (by have e := (nI_ltI ha hb); first | exact e.mp q | exact fun z => q (e.mpr z))) (fun q => kf (by have e := (nI_ltI ha hb); first | exact e.mp q | exact fun z => q (e.mpr z) | (rw [e] at q; omega)))
theorem Run.icmp_ge_n {a b : Nat} {off : Int} (hd : DJ M pc (.if_icmp .ge off) off 3 nx tgt) (ha : a < 2 ^ 31) (hb : b < 2 ^ 31) (kt : b ≤ a → Run X d kc ks M tgt L S h Q) (kf : a < b → Run X d kc ks M nx L S h Q) : Run X d kc ks M pc L (.int (nI b) :: .int (nI a) :: S) h Q := Run.icmp_ge hd (fun q => kt (by have e := (nI_leI hb ha); first | exact e.mp q | exact fun z => q (e.mpr z))) (fun q => kf (by have e := (nI_leI hb ha); first | exact e.mp q | exact fun z => q (e.mpr z) | (rw [e] at q; omega)))
theorem Run.icmp_gt_n {a b : Nat} {off : Int} (hd : DJ M pc (.if_icmp .gt off) off 3 nx tgt) (ha : a < 2 ^ 31) (hb : b < 2 ^ 31) (kt : b < a → Run X d kc ks M tgt L S h Q) (kf : a ≤ b → Run X d kc ks M nx L S h Q) : Run X d kc ks M pc L (.int (nI b) :: .int (nI a) :: S) h Q := Run.icmp_gt hd (fun q => kt (by have e := (nI_ltI hb ha); first | exact e.mp q | exact fun z => q (e.mpr z))) (fun q => kf (by have e := (nI_ltI hb ha); first | exact e.mp q | exact fun z => q (e.mpr z) | (rw [e] at q; omega)))
theorem Run.icmp_le_n {a b : Nat} {off : Int} (hd : DJ M pc (.if_icmp .le off) off 3 nx tgt) (ha : a < 2 ^ 31) (hb : b < 2 ^ 31) (kt : a ≤ b → Run X d kc ks M tgt L S h Q) (kf : b < a → Run X d kc ks M nx L S h Q) : Run X d kc ks M pc L (.int (nI b) :: .int (nI a) :: S) h Q := Run.icmp_le hd (fun q => kt (by have e := (nI_leI ha hb); first | exact e.mp q | exact fun z => q (e.mpr z))) (fun q => kf (by have e := (nI_leI ha hb); first | exact e.mp q | exact fun z => q (e.mpr z) | (rw [e] at q; omega)))
theorem Run.if_eq_n {a : Nat} {off : Int} (hd : DJ M pc (.ifCond .eq off) off 3 nx tgt) (ha : a < 2 ^ 31) (kt : a = 0 → Run X d kc ks M tgt L S h Q) (kf : ¬ a = 0 → Run X d kc ks M nx L S h Q) : Run X d kc ks M pc L (.int (nI a) :: S) h Q := by
  have e1 := nI_eq (a := a) (b := 0) ha (by omega)
  have e2 := nI_ltI (a := a) (b := 0) ha (by omega)
  have e3 := nI_leI (a := a) (b := 0) ha (by omega)
  have e4 := nI_ltI (a := 0) (b := a) (by omega) ha
  have e5 := nI_leI (a := 0) (b := a) (by omega) ha
  rw [nI_0] at e1 e2 e3 e4 e5
  refine Run.if_eq hd (fun q => kt ?_) (fun q => kf ?_)
  · first | trivial | (simp only [e1, e2, e3, e4, e5] at q; omega)
  · first | trivial | (simp only [e1, e2, e3, e4, e5] at q; omega)
theorem Run.if_ne_n {a : Nat} {off : Int} (hd : DJ M pc (.ifCond .ne off) off 3 nx tgt) (ha : a < 2 ^ 31) (kt : ¬ a = 0 → Run X d kc ks M tgt L S h Q) (kf : a = 0 → Run X d kc ks M nx L S h Q) : Run X d kc ks M pc L (.int (nI a) :: S) h Q := by
  have e1 := nI_eq (a := a) (b := 0) ha (by omega)
  have e2 := nI_ltI (a := a) (b := 0) ha (by omega)
  have e3 := nI_leI (a := a) (b := 0) ha (by omega)
  have e4 := nI_ltI (a := 0) (b := a) (by omega) ha
  have e5 := nI_leI (a := 0) (b := a) (by omega) ha
  rw [nI_0] at e1 e2 e3 e4 e5
  refine Run.if_ne hd (fun q => kt ?_) (fun q => kf ?_)
  · first | trivial | (simp only [e1, e2, e3, e4, e5] at q; omega)
  · first | trivial | (simp only [e1, e2, e3, e4, e5] at q; omega)
theorem Run.if_lt_n {a : Nat} {off : Int} (hd : DJ M pc (.ifCond .lt off) off 3 nx tgt) (ha : a < 2 ^ 31) (kt : False → Run X d kc ks M tgt L S h Q) (kf : True → Run X d kc ks M nx L S h Q) : Run X d kc ks M pc L (.int (nI a) :: S) h Q := by
  have e1 := nI_eq (a := a) (b := 0) ha (by omega)
  have e2 := nI_ltI (a := a) (b := 0) ha (by omega)
  have e3 := nI_leI (a := a) (b := 0) ha (by omega)
  have e4 := nI_ltI (a := 0) (b := a) (by omega) ha
  have e5 := nI_leI (a := 0) (b := a) (by omega) ha
  rw [nI_0] at e1 e2 e3 e4 e5
  refine Run.if_lt hd (fun q => kt ?_) (fun q => kf ?_)
  · first | trivial | (simp only [e1, e2, e3, e4, e5] at q; omega)
  · first | trivial | (simp only [e1, e2, e3, e4, e5] at q; omega)
theorem Run.if_ge_n {a : Nat} {off : Int} (hd : DJ M pc (.ifCond .ge off) off 3 nx tgt) (ha : a < 2 ^ 31) (kt : True → Run X d kc ks M tgt L S h Q) (kf : False → Run X d kc ks M nx L S h Q) : Run X d kc ks M pc L (.int (nI a) :: S) h Q := by
  have e1 := nI_eq (a := a) (b := 0) ha (by omega)
  have e2 := nI_ltI (a := a) (b := 0) ha (by omega)
  have e3 := nI_leI (a := a) (b := 0) ha (by omega)
  have e4 := nI_ltI (a := 0) (b := a) (by omega) ha
  have e5 := nI_leI (a := 0) (b := a) (by omega) ha
  rw [nI_0] at e1 e2 e3 e4 e5
  refine Run.if_ge hd (fun q => kt ?_) (fun q => kf ?_)
  · first | trivial | (simp only [e1, e2, e3, e4, e5] at q; omega)
  · first | trivial | (simp only [e1, e2, e3, e4, e5] at q; omega)
theorem Run.if_gt_n {a : Nat} {off : Int} (hd : DJ M pc (.ifCond .gt off) off 3 nx tgt) (ha : a < 2 ^ 31) (kt : 0 < a → Run X d kc ks M tgt L S h Q) (kf : a = 0 → Run X d kc ks M nx L S h Q) : Run X d kc ks M pc L (.int (nI a) :: S) h Q := by
  have e1 := nI_eq (a := a) (b := 0) ha (by omega)
  have e2 := nI_ltI (a := a) (b := 0) ha (by omega)
  have e3 := nI_leI (a := a) (b := 0) ha (by omega)
  have e4 := nI_ltI (a := 0) (b := a) (by omega) ha
  have e5 := nI_leI (a := 0) (b := a) (by omega) ha
  rw [nI_0] at e1 e2 e3 e4 e5
  refine Run.if_gt hd (fun q => kt ?_) (fun q => kf ?_)
  · first | trivial | (simp only [e1, e2, e3, e4, e5] at q; omega)
  · first | trivial | (simp only [e1, e2, e3, e4, e5] at q; omega)
theorem Run.if_le_n {a : Nat} {off : Int} (hd : DJ M pc (.ifCond .le off) off 3 nx tgt) (ha : a < 2 ^ 31) (kt : a = 0 → Run X d kc ks M tgt L S h Q) (kf : 0 < a → Run X d kc ks M nx L S h Q) : Run X d kc ks M pc L (.int (nI a) :: S) h Q := by
  have e1 := nI_eq (a := a) (b := 0) ha (by omega)
  have e2 := nI_ltI (a := a) (b := 0) ha (by omega)
  have e3 := nI_leI (a := a) (b := 0) ha (by omega)
  have e4 := nI_ltI (a := 0) (b := a) (by omega) ha
  have e5 := nI_leI (a := 0) (b := a) (by omega) ha
  rw [nI_0] at e1 e2 e3 e4 e5
  refine Run.if_le hd (fun q => kt ?_) (fun q => kf ?_)
  · first | trivial | (simp only [e1, e2, e3, e4, e5] at q; omega)
  · first | trivial | (simp only [e1, e2, e3, e4, e5] at q; omega)
theorem Run.if_eq_b {b : Bool} {off : Int} (hd : DJ M pc (.ifCond .eq off) off 3 nx tgt) (kt : b = false → Run X d kc ks M tgt L S h Q) (kf : b = true → Run X d kc ks M nx L S h Q) : Run X d kc ks M pc L (.int (bI b) :: S) h Q := Run.if_eq hd (fun q => kt (by cases b with | false => rfl | true => exact absurd q (by decide))) (fun q => kf (by cases b with | true => rfl | false => exact absurd rfl q))
theorem Run.if_ne_b {b : Bool} {off : Int} (hd : DJ M pc (.ifCond .ne off) off 3 nx tgt) (kt : b = true → Run X d kc ks M tgt L S h Q) (kf : b = false → Run X d kc ks M nx L S h Q) : Run X d kc ks M pc L (.int (bI b) :: S) h Q := Run.if_ne hd (fun q => kt (by cases b with | true => rfl | false => exact absurd rfl q)) (fun q => kf (by cases b with | false => rfl | true => exact absurd q (by decide)))
theorem Run.iald_n {k n i : Nat} {f : Nat → Int32} (hd : DI M pc .iaload 1 nx) (hk : h[k]? = some (.inl (.int, n, .inl f))) (hi : i < n) (hn : n < 2 ^ 31) (kk : Run X d kc ks M nx L (.int (f i) :: S) h Q) : Run X d kc ks M pc L (.int (nI i) :: .ref (k + 1) :: S) h Q := Run.iald hd hk (vp_in_nI hi hn) (by rw [nI_clamp (by omega)]; exact kk)
theorem Run.zald_n {k n i : Nat} {f : Nat → Int32} (hd : DI M pc .baload 1 nx) (hk : h[k]? = some (.inl (.boolean, n, .inl f))) (hi : i < n) (hn : n < 2 ^ 31) (kk : Run X d kc ks M nx L (.int (f i) :: S) h Q) : Run X d kc ks M pc L (.int (nI i) :: .ref (k + 1) :: S) h Q := Run.zald hd hk (vp_in_nI hi hn) (by rw [nI_clamp (by omega)]; exact kk)
theorem Run.iast_n {k n i : Nat} {f : Nat → Int32} {x : Int32} (hd : DI M pc .iastore 1 nx) (hk : h[k]? = some (.inl (.int, n, .inl f))) (hi : i < n) (hn : n < 2 ^ 31) (kk : Run X d kc ks M nx L S (h.set k (.inl (.int, n, .inl (upd f i x)))) Q) : Run X d kc ks M pc L (.int x :: .int (nI i) :: .ref (k + 1) :: S) h Q := Run.iast hd hk (vp_in_nI hi hn) (by rw [nI_clamp (by omega)]; exact kk)
theorem Run.zast_n {k n i : Nat} {f : Nat → Int32} {x : Int32} (hd : DI M pc .bastore 1 nx) (hk : h[k]? = some (.inl (.boolean, n, .inl f))) (hi : i < n) (hn : n < 2 ^ 31) (hx : vp_nar .boolean x = x) (kk : Run X d kc ks M nx L S (h.set k (.inl (.boolean, n, .inl (upd f i x)))) Q) : Run X d kc ks M pc L (.int x :: .int (nI i) :: .ref (k + 1) :: S) h Q := Run.zast hd hk (vp_in_nI hi hn) hx (by rw [nI_clamp (by omega)]; exact kk)
theorem Run.aald_n {k n i r : Nat} {f : Nat → Option Nat} (hd : DI M pc .aaload 1 nx) (hk : h[k]? = some (.inl (.object "PearlMother$State", n, .inr (.inr (.inr (.inr f)))))) (hi : i < n) (hn : n < 2 ^ 31) (hr : f i = some r) (kk : Run X d kc ks M nx L (.ref r :: S) h Q) : Run X d kc ks M pc L (.int (nI i) :: .ref (k + 1) :: S) h Q := Run.aald hd hk (vp_in_nI hi hn) (by rw [nI_clamp (by omega)]; exact hr) kk
end RUNN
section RUNK
variable {X : Nat × (Nat → Int32)} {d kc ks : Nat} {M M2 : MR} {pc nx : Nat} {L : List (Option Value)} {S : List Value} {h h2 : AH} {Q Q1 : Option Value → AH → Prop} {v : Value} {idx : Nat}
theorem Run.S0 (hd : DI M pc (.invokestatic idx) 3 nx) (lk : LK M.1.cls idx M2) (cm : CM M2 0) (st : Cond.static M2.1 ∈ TB) (hln : (enA []).length ≤ M2.2.2.1) (hw : (S.map fun v => v.category).sum ≤ 8) (body : Call X d 0 0 M2 [] h Q1) (kk : ∀ r h1, Q1 r h1 → Run X (d + 1) kc ks M nx L (r.toList ++ S) h1 Q) : Run X (d + 1) kc ks M pc L (S) h Q := Run.callS (As := []) hd lk cm st rfl hln hw body kk
theorem Run.S0r (hd : DI M pc (.invokestatic idx) 3 nx) (lk : LK M.1.cls idx M2) (cm : CM M2 0) (st : Cond.static M2.1 ∈ TB) (hln : (enA []).length ≤ M2.2.2.1) (hw : (S.map fun v => v.category).sum ≤ 8) (body : Call X d 0 0 M2 [] h (Ret v h2)) (kk : Run X (d + 1) kc ks M nx L (v :: S) h2 Q) : Run X (d + 1) kc ks M pc L (S) h Q := Run.callS (As := []) hd lk cm st rfl hln hw body (fun r h1 q => by obtain ⟨rfl, rfl⟩ := q; exact kk)
theorem Run.S0v (hd : DI M pc (.invokestatic idx) 3 nx) (lk : LK M.1.cls idx M2) (cm : CM M2 0) (st : Cond.static M2.1 ∈ TB) (hln : (enA []).length ≤ M2.2.2.1) (hw : (S.map fun v => v.category).sum ≤ 8) (body : Call X d 0 0 M2 [] h (Rv h2)) (kk : Run X (d + 1) kc ks M nx L S h2 Q) : Run X (d + 1) kc ks M pc L (S) h Q := Run.callS (As := []) hd lk cm st rfl hln hw body (fun r h1 q => by obtain ⟨rfl, rfl⟩ := q; exact kk)
theorem Run.V0 {k ci : Nat} {fs : List Value} (hd : DI M pc (.invokevirtual idx) 3 nx) (lk : LK M.1.cls idx M2) (cm : CM M2 0) (st : Cond.instanceMethod M2.1 ∈ TB ∧ Cond.selects M2.1.cls M2.1 M2.1 ∈ TB) (hcl : (KL[ci]?).map (fun q => q.1) = some M2.1.cls) (hk : h[k]? = some (.inr (ci, fs))) (hln : (enA (.ref (k + 1) :: [])).length ≤ M2.2.2.1) (hw : (S.map fun v => v.category).sum ≤ 8) (body : Call X d 0 0 M2 (.ref (k + 1) :: []) h Q1) (kk : ∀ r h1, Q1 r h1 → Run X (d + 1) kc ks M nx L (r.toList ++ S) h1 Q) : Run X (d + 1) kc ks M pc L (.ref (k + 1) :: S) h Q := Run.callV (As := []) hd lk cm st hcl hk rfl hln hw body kk
theorem Run.V0r {k ci : Nat} {fs : List Value} (hd : DI M pc (.invokevirtual idx) 3 nx) (lk : LK M.1.cls idx M2) (cm : CM M2 0) (st : Cond.instanceMethod M2.1 ∈ TB ∧ Cond.selects M2.1.cls M2.1 M2.1 ∈ TB) (hcl : (KL[ci]?).map (fun q => q.1) = some M2.1.cls) (hk : h[k]? = some (.inr (ci, fs))) (hln : (enA (.ref (k + 1) :: [])).length ≤ M2.2.2.1) (hw : (S.map fun v => v.category).sum ≤ 8) (body : Call X d 0 0 M2 (.ref (k + 1) :: []) h (Ret v h2)) (kk : Run X (d + 1) kc ks M nx L (v :: S) h2 Q) : Run X (d + 1) kc ks M pc L (.ref (k + 1) :: S) h Q := Run.callV (As := []) hd lk cm st hcl hk rfl hln hw body (fun r h1 q => by obtain ⟨rfl, rfl⟩ := q; exact kk)
theorem Run.V0v {k ci : Nat} {fs : List Value} (hd : DI M pc (.invokevirtual idx) 3 nx) (lk : LK M.1.cls idx M2) (cm : CM M2 0) (st : Cond.instanceMethod M2.1 ∈ TB ∧ Cond.selects M2.1.cls M2.1 M2.1 ∈ TB) (hcl : (KL[ci]?).map (fun q => q.1) = some M2.1.cls) (hk : h[k]? = some (.inr (ci, fs))) (hln : (enA (.ref (k + 1) :: [])).length ≤ M2.2.2.1) (hw : (S.map fun v => v.category).sum ≤ 8) (body : Call X d 0 0 M2 (.ref (k + 1) :: []) h (Rv h2)) (kk : Run X (d + 1) kc ks M nx L S h2 Q) : Run X (d + 1) kc ks M pc L (.ref (k + 1) :: S) h Q := Run.callV (As := []) hd lk cm st hcl hk rfl hln hw body (fun r h1 q => by obtain ⟨rfl, rfl⟩ := q; exact kk)
theorem Run.S1 {v1 : Value} (hd : DI M pc (.invokestatic idx) 3 nx) (lk : LK M.1.cls idx M2) (cm : CM M2 1) (st : Cond.static M2.1 ∈ TB) (hln : (enA [v1]).length ≤ M2.2.2.1) (hw : (S.map fun v => v.category).sum ≤ 8) (body : Call X d 0 0 M2 [v1] h Q1) (kk : ∀ r h1, Q1 r h1 → Run X (d + 1) kc ks M nx L (r.toList ++ S) h1 Q) : Run X (d + 1) kc ks M pc L (v1 :: S) h Q := Run.callS (As := [v1]) hd lk cm st rfl hln hw body kk
theorem Run.S1r {v1 : Value} (hd : DI M pc (.invokestatic idx) 3 nx) (lk : LK M.1.cls idx M2) (cm : CM M2 1) (st : Cond.static M2.1 ∈ TB) (hln : (enA [v1]).length ≤ M2.2.2.1) (hw : (S.map fun v => v.category).sum ≤ 8) (body : Call X d 0 0 M2 [v1] h (Ret v h2)) (kk : Run X (d + 1) kc ks M nx L (v :: S) h2 Q) : Run X (d + 1) kc ks M pc L (v1 :: S) h Q := Run.callS (As := [v1]) hd lk cm st rfl hln hw body (fun r h1 q => by obtain ⟨rfl, rfl⟩ := q; exact kk)
theorem Run.S1v {v1 : Value} (hd : DI M pc (.invokestatic idx) 3 nx) (lk : LK M.1.cls idx M2) (cm : CM M2 1) (st : Cond.static M2.1 ∈ TB) (hln : (enA [v1]).length ≤ M2.2.2.1) (hw : (S.map fun v => v.category).sum ≤ 8) (body : Call X d 0 0 M2 [v1] h (Rv h2)) (kk : Run X (d + 1) kc ks M nx L S h2 Q) : Run X (d + 1) kc ks M pc L (v1 :: S) h Q := Run.callS (As := [v1]) hd lk cm st rfl hln hw body (fun r h1 q => by obtain ⟨rfl, rfl⟩ := q; exact kk)
theorem Run.V1 {v1 : Value} {k ci : Nat} {fs : List Value} (hd : DI M pc (.invokevirtual idx) 3 nx) (lk : LK M.1.cls idx M2) (cm : CM M2 1) (st : Cond.instanceMethod M2.1 ∈ TB ∧ Cond.selects M2.1.cls M2.1 M2.1 ∈ TB) (hcl : (KL[ci]?).map (fun q => q.1) = some M2.1.cls) (hk : h[k]? = some (.inr (ci, fs))) (hln : (enA (.ref (k + 1) :: [v1])).length ≤ M2.2.2.1) (hw : (S.map fun v => v.category).sum ≤ 8) (body : Call X d 0 0 M2 (.ref (k + 1) :: [v1]) h Q1) (kk : ∀ r h1, Q1 r h1 → Run X (d + 1) kc ks M nx L (r.toList ++ S) h1 Q) : Run X (d + 1) kc ks M pc L (v1 :: .ref (k + 1) :: S) h Q := Run.callV (As := [v1]) hd lk cm st hcl hk rfl hln hw body kk
theorem Run.V1r {v1 : Value} {k ci : Nat} {fs : List Value} (hd : DI M pc (.invokevirtual idx) 3 nx) (lk : LK M.1.cls idx M2) (cm : CM M2 1) (st : Cond.instanceMethod M2.1 ∈ TB ∧ Cond.selects M2.1.cls M2.1 M2.1 ∈ TB) (hcl : (KL[ci]?).map (fun q => q.1) = some M2.1.cls) (hk : h[k]? = some (.inr (ci, fs))) (hln : (enA (.ref (k + 1) :: [v1])).length ≤ M2.2.2.1) (hw : (S.map fun v => v.category).sum ≤ 8) (body : Call X d 0 0 M2 (.ref (k + 1) :: [v1]) h (Ret v h2)) (kk : Run X (d + 1) kc ks M nx L (v :: S) h2 Q) : Run X (d + 1) kc ks M pc L (v1 :: .ref (k + 1) :: S) h Q := Run.callV (As := [v1]) hd lk cm st hcl hk rfl hln hw body (fun r h1 q => by obtain ⟨rfl, rfl⟩ := q; exact kk)
theorem Run.V1v {v1 : Value} {k ci : Nat} {fs : List Value} (hd : DI M pc (.invokevirtual idx) 3 nx) (lk : LK M.1.cls idx M2) (cm : CM M2 1) (st : Cond.instanceMethod M2.1 ∈ TB ∧ Cond.selects M2.1.cls M2.1 M2.1 ∈ TB) (hcl : (KL[ci]?).map (fun q => q.1) = some M2.1.cls) (hk : h[k]? = some (.inr (ci, fs))) (hln : (enA (.ref (k + 1) :: [v1])).length ≤ M2.2.2.1) (hw : (S.map fun v => v.category).sum ≤ 8) (body : Call X d 0 0 M2 (.ref (k + 1) :: [v1]) h (Rv h2)) (kk : Run X (d + 1) kc ks M nx L S h2 Q) : Run X (d + 1) kc ks M pc L (v1 :: .ref (k + 1) :: S) h Q := Run.callV (As := [v1]) hd lk cm st hcl hk rfl hln hw body (fun r h1 q => by obtain ⟨rfl, rfl⟩ := q; exact kk)
theorem Run.S2 {v1 v2 : Value} (hd : DI M pc (.invokestatic idx) 3 nx) (lk : LK M.1.cls idx M2) (cm : CM M2 2) (st : Cond.static M2.1 ∈ TB) (hln : (enA [v1, v2]).length ≤ M2.2.2.1) (hw : (S.map fun v => v.category).sum ≤ 8) (body : Call X d 0 0 M2 [v1, v2] h Q1) (kk : ∀ r h1, Q1 r h1 → Run X (d + 1) kc ks M nx L (r.toList ++ S) h1 Q) : Run X (d + 1) kc ks M pc L (v2 :: v1 :: S) h Q := Run.callS (As := [v1, v2]) hd lk cm st rfl hln hw body kk
theorem Run.S2r {v1 v2 : Value} (hd : DI M pc (.invokestatic idx) 3 nx) (lk : LK M.1.cls idx M2) (cm : CM M2 2) (st : Cond.static M2.1 ∈ TB) (hln : (enA [v1, v2]).length ≤ M2.2.2.1) (hw : (S.map fun v => v.category).sum ≤ 8) (body : Call X d 0 0 M2 [v1, v2] h (Ret v h2)) (kk : Run X (d + 1) kc ks M nx L (v :: S) h2 Q) : Run X (d + 1) kc ks M pc L (v2 :: v1 :: S) h Q := Run.callS (As := [v1, v2]) hd lk cm st rfl hln hw body (fun r h1 q => by obtain ⟨rfl, rfl⟩ := q; exact kk)
theorem Run.S2v {v1 v2 : Value} (hd : DI M pc (.invokestatic idx) 3 nx) (lk : LK M.1.cls idx M2) (cm : CM M2 2) (st : Cond.static M2.1 ∈ TB) (hln : (enA [v1, v2]).length ≤ M2.2.2.1) (hw : (S.map fun v => v.category).sum ≤ 8) (body : Call X d 0 0 M2 [v1, v2] h (Rv h2)) (kk : Run X (d + 1) kc ks M nx L S h2 Q) : Run X (d + 1) kc ks M pc L (v2 :: v1 :: S) h Q := Run.callS (As := [v1, v2]) hd lk cm st rfl hln hw body (fun r h1 q => by obtain ⟨rfl, rfl⟩ := q; exact kk)
theorem Run.V2 {v1 v2 : Value} {k ci : Nat} {fs : List Value} (hd : DI M pc (.invokevirtual idx) 3 nx) (lk : LK M.1.cls idx M2) (cm : CM M2 2) (st : Cond.instanceMethod M2.1 ∈ TB ∧ Cond.selects M2.1.cls M2.1 M2.1 ∈ TB) (hcl : (KL[ci]?).map (fun q => q.1) = some M2.1.cls) (hk : h[k]? = some (.inr (ci, fs))) (hln : (enA (.ref (k + 1) :: [v1, v2])).length ≤ M2.2.2.1) (hw : (S.map fun v => v.category).sum ≤ 8) (body : Call X d 0 0 M2 (.ref (k + 1) :: [v1, v2]) h Q1) (kk : ∀ r h1, Q1 r h1 → Run X (d + 1) kc ks M nx L (r.toList ++ S) h1 Q) : Run X (d + 1) kc ks M pc L (v2 :: v1 :: .ref (k + 1) :: S) h Q := Run.callV (As := [v1, v2]) hd lk cm st hcl hk rfl hln hw body kk
theorem Run.V2r {v1 v2 : Value} {k ci : Nat} {fs : List Value} (hd : DI M pc (.invokevirtual idx) 3 nx) (lk : LK M.1.cls idx M2) (cm : CM M2 2) (st : Cond.instanceMethod M2.1 ∈ TB ∧ Cond.selects M2.1.cls M2.1 M2.1 ∈ TB) (hcl : (KL[ci]?).map (fun q => q.1) = some M2.1.cls) (hk : h[k]? = some (.inr (ci, fs))) (hln : (enA (.ref (k + 1) :: [v1, v2])).length ≤ M2.2.2.1) (hw : (S.map fun v => v.category).sum ≤ 8) (body : Call X d 0 0 M2 (.ref (k + 1) :: [v1, v2]) h (Ret v h2)) (kk : Run X (d + 1) kc ks M nx L (v :: S) h2 Q) : Run X (d + 1) kc ks M pc L (v2 :: v1 :: .ref (k + 1) :: S) h Q := Run.callV (As := [v1, v2]) hd lk cm st hcl hk rfl hln hw body (fun r h1 q => by obtain ⟨rfl, rfl⟩ := q; exact kk)
theorem Run.V2v {v1 v2 : Value} {k ci : Nat} {fs : List Value} (hd : DI M pc (.invokevirtual idx) 3 nx) (lk : LK M.1.cls idx M2) (cm : CM M2 2) (st : Cond.instanceMethod M2.1 ∈ TB ∧ Cond.selects M2.1.cls M2.1 M2.1 ∈ TB) (hcl : (KL[ci]?).map (fun q => q.1) = some M2.1.cls) (hk : h[k]? = some (.inr (ci, fs))) (hln : (enA (.ref (k + 1) :: [v1, v2])).length ≤ M2.2.2.1) (hw : (S.map fun v => v.category).sum ≤ 8) (body : Call X d 0 0 M2 (.ref (k + 1) :: [v1, v2]) h (Rv h2)) (kk : Run X (d + 1) kc ks M nx L S h2 Q) : Run X (d + 1) kc ks M pc L (v2 :: v1 :: .ref (k + 1) :: S) h Q := Run.callV (As := [v1, v2]) hd lk cm st hcl hk rfl hln hw body (fun r h1 q => by obtain ⟨rfl, rfl⟩ := q; exact kk)
theorem Run.S3 {v1 v2 v3 : Value} (hd : DI M pc (.invokestatic idx) 3 nx) (lk : LK M.1.cls idx M2) (cm : CM M2 3) (st : Cond.static M2.1 ∈ TB) (hln : (enA [v1, v2, v3]).length ≤ M2.2.2.1) (hw : (S.map fun v => v.category).sum ≤ 8) (body : Call X d 0 0 M2 [v1, v2, v3] h Q1) (kk : ∀ r h1, Q1 r h1 → Run X (d + 1) kc ks M nx L (r.toList ++ S) h1 Q) : Run X (d + 1) kc ks M pc L (v3 :: v2 :: v1 :: S) h Q := Run.callS (As := [v1, v2, v3]) hd lk cm st rfl hln hw body kk
theorem Run.S3r {v1 v2 v3 : Value} (hd : DI M pc (.invokestatic idx) 3 nx) (lk : LK M.1.cls idx M2) (cm : CM M2 3) (st : Cond.static M2.1 ∈ TB) (hln : (enA [v1, v2, v3]).length ≤ M2.2.2.1) (hw : (S.map fun v => v.category).sum ≤ 8) (body : Call X d 0 0 M2 [v1, v2, v3] h (Ret v h2)) (kk : Run X (d + 1) kc ks M nx L (v :: S) h2 Q) : Run X (d + 1) kc ks M pc L (v3 :: v2 :: v1 :: S) h Q := Run.callS (As := [v1, v2, v3]) hd lk cm st rfl hln hw body (fun r h1 q => by obtain ⟨rfl, rfl⟩ := q; exact kk)
theorem Run.S3v {v1 v2 v3 : Value} (hd : DI M pc (.invokestatic idx) 3 nx) (lk : LK M.1.cls idx M2) (cm : CM M2 3) (st : Cond.static M2.1 ∈ TB) (hln : (enA [v1, v2, v3]).length ≤ M2.2.2.1) (hw : (S.map fun v => v.category).sum ≤ 8) (body : Call X d 0 0 M2 [v1, v2, v3] h (Rv h2)) (kk : Run X (d + 1) kc ks M nx L S h2 Q) : Run X (d + 1) kc ks M pc L (v3 :: v2 :: v1 :: S) h Q := Run.callS (As := [v1, v2, v3]) hd lk cm st rfl hln hw body (fun r h1 q => by obtain ⟨rfl, rfl⟩ := q; exact kk)
theorem Run.V3 {v1 v2 v3 : Value} {k ci : Nat} {fs : List Value} (hd : DI M pc (.invokevirtual idx) 3 nx) (lk : LK M.1.cls idx M2) (cm : CM M2 3) (st : Cond.instanceMethod M2.1 ∈ TB ∧ Cond.selects M2.1.cls M2.1 M2.1 ∈ TB) (hcl : (KL[ci]?).map (fun q => q.1) = some M2.1.cls) (hk : h[k]? = some (.inr (ci, fs))) (hln : (enA (.ref (k + 1) :: [v1, v2, v3])).length ≤ M2.2.2.1) (hw : (S.map fun v => v.category).sum ≤ 8) (body : Call X d 0 0 M2 (.ref (k + 1) :: [v1, v2, v3]) h Q1) (kk : ∀ r h1, Q1 r h1 → Run X (d + 1) kc ks M nx L (r.toList ++ S) h1 Q) : Run X (d + 1) kc ks M pc L (v3 :: v2 :: v1 :: .ref (k + 1) :: S) h Q := Run.callV (As := [v1, v2, v3]) hd lk cm st hcl hk rfl hln hw body kk
theorem Run.V3r {v1 v2 v3 : Value} {k ci : Nat} {fs : List Value} (hd : DI M pc (.invokevirtual idx) 3 nx) (lk : LK M.1.cls idx M2) (cm : CM M2 3) (st : Cond.instanceMethod M2.1 ∈ TB ∧ Cond.selects M2.1.cls M2.1 M2.1 ∈ TB) (hcl : (KL[ci]?).map (fun q => q.1) = some M2.1.cls) (hk : h[k]? = some (.inr (ci, fs))) (hln : (enA (.ref (k + 1) :: [v1, v2, v3])).length ≤ M2.2.2.1) (hw : (S.map fun v => v.category).sum ≤ 8) (body : Call X d 0 0 M2 (.ref (k + 1) :: [v1, v2, v3]) h (Ret v h2)) (kk : Run X (d + 1) kc ks M nx L (v :: S) h2 Q) : Run X (d + 1) kc ks M pc L (v3 :: v2 :: v1 :: .ref (k + 1) :: S) h Q := Run.callV (As := [v1, v2, v3]) hd lk cm st hcl hk rfl hln hw body (fun r h1 q => by obtain ⟨rfl, rfl⟩ := q; exact kk)
theorem Run.V3v {v1 v2 v3 : Value} {k ci : Nat} {fs : List Value} (hd : DI M pc (.invokevirtual idx) 3 nx) (lk : LK M.1.cls idx M2) (cm : CM M2 3) (st : Cond.instanceMethod M2.1 ∈ TB ∧ Cond.selects M2.1.cls M2.1 M2.1 ∈ TB) (hcl : (KL[ci]?).map (fun q => q.1) = some M2.1.cls) (hk : h[k]? = some (.inr (ci, fs))) (hln : (enA (.ref (k + 1) :: [v1, v2, v3])).length ≤ M2.2.2.1) (hw : (S.map fun v => v.category).sum ≤ 8) (body : Call X d 0 0 M2 (.ref (k + 1) :: [v1, v2, v3]) h (Rv h2)) (kk : Run X (d + 1) kc ks M nx L S h2 Q) : Run X (d + 1) kc ks M pc L (v3 :: v2 :: v1 :: .ref (k + 1) :: S) h Q := Run.callV (As := [v1, v2, v3]) hd lk cm st hcl hk rfl hln hw body (fun r h1 q => by obtain ⟨rfl, rfl⟩ := q; exact kk)
theorem Run.S4 {v1 v2 v3 v4 : Value} (hd : DI M pc (.invokestatic idx) 3 nx) (lk : LK M.1.cls idx M2) (cm : CM M2 4) (st : Cond.static M2.1 ∈ TB) (hln : (enA [v1, v2, v3, v4]).length ≤ M2.2.2.1) (hw : (S.map fun v => v.category).sum ≤ 8) (body : Call X d 0 0 M2 [v1, v2, v3, v4] h Q1) (kk : ∀ r h1, Q1 r h1 → Run X (d + 1) kc ks M nx L (r.toList ++ S) h1 Q) : Run X (d + 1) kc ks M pc L (v4 :: v3 :: v2 :: v1 :: S) h Q := Run.callS (As := [v1, v2, v3, v4]) hd lk cm st rfl hln hw body kk
theorem Run.S4r {v1 v2 v3 v4 : Value} (hd : DI M pc (.invokestatic idx) 3 nx) (lk : LK M.1.cls idx M2) (cm : CM M2 4) (st : Cond.static M2.1 ∈ TB) (hln : (enA [v1, v2, v3, v4]).length ≤ M2.2.2.1) (hw : (S.map fun v => v.category).sum ≤ 8) (body : Call X d 0 0 M2 [v1, v2, v3, v4] h (Ret v h2)) (kk : Run X (d + 1) kc ks M nx L (v :: S) h2 Q) : Run X (d + 1) kc ks M pc L (v4 :: v3 :: v2 :: v1 :: S) h Q := Run.callS (As := [v1, v2, v3, v4]) hd lk cm st rfl hln hw body (fun r h1 q => by obtain ⟨rfl, rfl⟩ := q; exact kk)
theorem Run.S4v {v1 v2 v3 v4 : Value} (hd : DI M pc (.invokestatic idx) 3 nx) (lk : LK M.1.cls idx M2) (cm : CM M2 4) (st : Cond.static M2.1 ∈ TB) (hln : (enA [v1, v2, v3, v4]).length ≤ M2.2.2.1) (hw : (S.map fun v => v.category).sum ≤ 8) (body : Call X d 0 0 M2 [v1, v2, v3, v4] h (Rv h2)) (kk : Run X (d + 1) kc ks M nx L S h2 Q) : Run X (d + 1) kc ks M pc L (v4 :: v3 :: v2 :: v1 :: S) h Q := Run.callS (As := [v1, v2, v3, v4]) hd lk cm st rfl hln hw body (fun r h1 q => by obtain ⟨rfl, rfl⟩ := q; exact kk)
theorem Run.V4 {v1 v2 v3 v4 : Value} {k ci : Nat} {fs : List Value} (hd : DI M pc (.invokevirtual idx) 3 nx) (lk : LK M.1.cls idx M2) (cm : CM M2 4) (st : Cond.instanceMethod M2.1 ∈ TB ∧ Cond.selects M2.1.cls M2.1 M2.1 ∈ TB) (hcl : (KL[ci]?).map (fun q => q.1) = some M2.1.cls) (hk : h[k]? = some (.inr (ci, fs))) (hln : (enA (.ref (k + 1) :: [v1, v2, v3, v4])).length ≤ M2.2.2.1) (hw : (S.map fun v => v.category).sum ≤ 8) (body : Call X d 0 0 M2 (.ref (k + 1) :: [v1, v2, v3, v4]) h Q1) (kk : ∀ r h1, Q1 r h1 → Run X (d + 1) kc ks M nx L (r.toList ++ S) h1 Q) : Run X (d + 1) kc ks M pc L (v4 :: v3 :: v2 :: v1 :: .ref (k + 1) :: S) h Q := Run.callV (As := [v1, v2, v3, v4]) hd lk cm st hcl hk rfl hln hw body kk
theorem Run.V4r {v1 v2 v3 v4 : Value} {k ci : Nat} {fs : List Value} (hd : DI M pc (.invokevirtual idx) 3 nx) (lk : LK M.1.cls idx M2) (cm : CM M2 4) (st : Cond.instanceMethod M2.1 ∈ TB ∧ Cond.selects M2.1.cls M2.1 M2.1 ∈ TB) (hcl : (KL[ci]?).map (fun q => q.1) = some M2.1.cls) (hk : h[k]? = some (.inr (ci, fs))) (hln : (enA (.ref (k + 1) :: [v1, v2, v3, v4])).length ≤ M2.2.2.1) (hw : (S.map fun v => v.category).sum ≤ 8) (body : Call X d 0 0 M2 (.ref (k + 1) :: [v1, v2, v3, v4]) h (Ret v h2)) (kk : Run X (d + 1) kc ks M nx L (v :: S) h2 Q) : Run X (d + 1) kc ks M pc L (v4 :: v3 :: v2 :: v1 :: .ref (k + 1) :: S) h Q := Run.callV (As := [v1, v2, v3, v4]) hd lk cm st hcl hk rfl hln hw body (fun r h1 q => by obtain ⟨rfl, rfl⟩ := q; exact kk)
theorem Run.V4v {v1 v2 v3 v4 : Value} {k ci : Nat} {fs : List Value} (hd : DI M pc (.invokevirtual idx) 3 nx) (lk : LK M.1.cls idx M2) (cm : CM M2 4) (st : Cond.instanceMethod M2.1 ∈ TB ∧ Cond.selects M2.1.cls M2.1 M2.1 ∈ TB) (hcl : (KL[ci]?).map (fun q => q.1) = some M2.1.cls) (hk : h[k]? = some (.inr (ci, fs))) (hln : (enA (.ref (k + 1) :: [v1, v2, v3, v4])).length ≤ M2.2.2.1) (hw : (S.map fun v => v.category).sum ≤ 8) (body : Call X d 0 0 M2 (.ref (k + 1) :: [v1, v2, v3, v4]) h (Rv h2)) (kk : Run X (d + 1) kc ks M nx L S h2 Q) : Run X (d + 1) kc ks M pc L (v4 :: v3 :: v2 :: v1 :: .ref (k + 1) :: S) h Q := Run.callV (As := [v1, v2, v3, v4]) hd lk cm st hcl hk rfl hln hw body (fun r h1 q => by obtain ⟨rfl, rfl⟩ := q; exact kk)
theorem Run.S5 {v1 v2 v3 v4 v5 : Value} (hd : DI M pc (.invokestatic idx) 3 nx) (lk : LK M.1.cls idx M2) (cm : CM M2 5) (st : Cond.static M2.1 ∈ TB) (hln : (enA [v1, v2, v3, v4, v5]).length ≤ M2.2.2.1) (hw : (S.map fun v => v.category).sum ≤ 8) (body : Call X d 0 0 M2 [v1, v2, v3, v4, v5] h Q1) (kk : ∀ r h1, Q1 r h1 → Run X (d + 1) kc ks M nx L (r.toList ++ S) h1 Q) : Run X (d + 1) kc ks M pc L (v5 :: v4 :: v3 :: v2 :: v1 :: S) h Q := Run.callS (As := [v1, v2, v3, v4, v5]) hd lk cm st rfl hln hw body kk
theorem Run.S5r {v1 v2 v3 v4 v5 : Value} (hd : DI M pc (.invokestatic idx) 3 nx) (lk : LK M.1.cls idx M2) (cm : CM M2 5) (st : Cond.static M2.1 ∈ TB) (hln : (enA [v1, v2, v3, v4, v5]).length ≤ M2.2.2.1) (hw : (S.map fun v => v.category).sum ≤ 8) (body : Call X d 0 0 M2 [v1, v2, v3, v4, v5] h (Ret v h2)) (kk : Run X (d + 1) kc ks M nx L (v :: S) h2 Q) : Run X (d + 1) kc ks M pc L (v5 :: v4 :: v3 :: v2 :: v1 :: S) h Q := Run.callS (As := [v1, v2, v3, v4, v5]) hd lk cm st rfl hln hw body (fun r h1 q => by obtain ⟨rfl, rfl⟩ := q; exact kk)
theorem Run.S5v {v1 v2 v3 v4 v5 : Value} (hd : DI M pc (.invokestatic idx) 3 nx) (lk : LK M.1.cls idx M2) (cm : CM M2 5) (st : Cond.static M2.1 ∈ TB) (hln : (enA [v1, v2, v3, v4, v5]).length ≤ M2.2.2.1) (hw : (S.map fun v => v.category).sum ≤ 8) (body : Call X d 0 0 M2 [v1, v2, v3, v4, v5] h (Rv h2)) (kk : Run X (d + 1) kc ks M nx L S h2 Q) : Run X (d + 1) kc ks M pc L (v5 :: v4 :: v3 :: v2 :: v1 :: S) h Q := Run.callS (As := [v1, v2, v3, v4, v5]) hd lk cm st rfl hln hw body (fun r h1 q => by obtain ⟨rfl, rfl⟩ := q; exact kk)
theorem Run.V5 {v1 v2 v3 v4 v5 : Value} {k ci : Nat} {fs : List Value} (hd : DI M pc (.invokevirtual idx) 3 nx) (lk : LK M.1.cls idx M2) (cm : CM M2 5) (st : Cond.instanceMethod M2.1 ∈ TB ∧ Cond.selects M2.1.cls M2.1 M2.1 ∈ TB) (hcl : (KL[ci]?).map (fun q => q.1) = some M2.1.cls) (hk : h[k]? = some (.inr (ci, fs))) (hln : (enA (.ref (k + 1) :: [v1, v2, v3, v4, v5])).length ≤ M2.2.2.1) (hw : (S.map fun v => v.category).sum ≤ 8) (body : Call X d 0 0 M2 (.ref (k + 1) :: [v1, v2, v3, v4, v5]) h Q1) (kk : ∀ r h1, Q1 r h1 → Run X (d + 1) kc ks M nx L (r.toList ++ S) h1 Q) : Run X (d + 1) kc ks M pc L (v5 :: v4 :: v3 :: v2 :: v1 :: .ref (k + 1) :: S) h Q := Run.callV (As := [v1, v2, v3, v4, v5]) hd lk cm st hcl hk rfl hln hw body kk
theorem Run.V5r {v1 v2 v3 v4 v5 : Value} {k ci : Nat} {fs : List Value} (hd : DI M pc (.invokevirtual idx) 3 nx) (lk : LK M.1.cls idx M2) (cm : CM M2 5) (st : Cond.instanceMethod M2.1 ∈ TB ∧ Cond.selects M2.1.cls M2.1 M2.1 ∈ TB) (hcl : (KL[ci]?).map (fun q => q.1) = some M2.1.cls) (hk : h[k]? = some (.inr (ci, fs))) (hln : (enA (.ref (k + 1) :: [v1, v2, v3, v4, v5])).length ≤ M2.2.2.1) (hw : (S.map fun v => v.category).sum ≤ 8) (body : Call X d 0 0 M2 (.ref (k + 1) :: [v1, v2, v3, v4, v5]) h (Ret v h2)) (kk : Run X (d + 1) kc ks M nx L (v :: S) h2 Q) : Run X (d + 1) kc ks M pc L (v5 :: v4 :: v3 :: v2 :: v1 :: .ref (k + 1) :: S) h Q := Run.callV (As := [v1, v2, v3, v4, v5]) hd lk cm st hcl hk rfl hln hw body (fun r h1 q => by obtain ⟨rfl, rfl⟩ := q; exact kk)
theorem Run.V5v {v1 v2 v3 v4 v5 : Value} {k ci : Nat} {fs : List Value} (hd : DI M pc (.invokevirtual idx) 3 nx) (lk : LK M.1.cls idx M2) (cm : CM M2 5) (st : Cond.instanceMethod M2.1 ∈ TB ∧ Cond.selects M2.1.cls M2.1 M2.1 ∈ TB) (hcl : (KL[ci]?).map (fun q => q.1) = some M2.1.cls) (hk : h[k]? = some (.inr (ci, fs))) (hln : (enA (.ref (k + 1) :: [v1, v2, v3, v4, v5])).length ≤ M2.2.2.1) (hw : (S.map fun v => v.category).sum ≤ 8) (body : Call X d 0 0 M2 (.ref (k + 1) :: [v1, v2, v3, v4, v5]) h (Rv h2)) (kk : Run X (d + 1) kc ks M nx L S h2 Q) : Run X (d + 1) kc ks M pc L (v5 :: v4 :: v3 :: v2 :: v1 :: .ref (k + 1) :: S) h Q := Run.callV (As := [v1, v2, v3, v4, v5]) hd lk cm st hcl hk rfl hln hw body (fun r h1 q => by obtain ⟨rfl, rfl⟩ := q; exact kk)
theorem Run.S6 {v1 v2 v3 v4 v5 v6 : Value} (hd : DI M pc (.invokestatic idx) 3 nx) (lk : LK M.1.cls idx M2) (cm : CM M2 6) (st : Cond.static M2.1 ∈ TB) (hln : (enA [v1, v2, v3, v4, v5, v6]).length ≤ M2.2.2.1) (hw : (S.map fun v => v.category).sum ≤ 8) (body : Call X d 0 0 M2 [v1, v2, v3, v4, v5, v6] h Q1) (kk : ∀ r h1, Q1 r h1 → Run X (d + 1) kc ks M nx L (r.toList ++ S) h1 Q) : Run X (d + 1) kc ks M pc L (v6 :: v5 :: v4 :: v3 :: v2 :: v1 :: S) h Q := Run.callS (As := [v1, v2, v3, v4, v5, v6]) hd lk cm st rfl hln hw body kk
theorem Run.S6r {v1 v2 v3 v4 v5 v6 : Value} (hd : DI M pc (.invokestatic idx) 3 nx) (lk : LK M.1.cls idx M2) (cm : CM M2 6) (st : Cond.static M2.1 ∈ TB) (hln : (enA [v1, v2, v3, v4, v5, v6]).length ≤ M2.2.2.1) (hw : (S.map fun v => v.category).sum ≤ 8) (body : Call X d 0 0 M2 [v1, v2, v3, v4, v5, v6] h (Ret v h2)) (kk : Run X (d + 1) kc ks M nx L (v :: S) h2 Q) : Run X (d + 1) kc ks M pc L (v6 :: v5 :: v4 :: v3 :: v2 :: v1 :: S) h Q := Run.callS (As := [v1, v2, v3, v4, v5, v6]) hd lk cm st rfl hln hw body (fun r h1 q => by obtain ⟨rfl, rfl⟩ := q; exact kk)
theorem Run.S6v {v1 v2 v3 v4 v5 v6 : Value} (hd : DI M pc (.invokestatic idx) 3 nx) (lk : LK M.1.cls idx M2) (cm : CM M2 6) (st : Cond.static M2.1 ∈ TB) (hln : (enA [v1, v2, v3, v4, v5, v6]).length ≤ M2.2.2.1) (hw : (S.map fun v => v.category).sum ≤ 8) (body : Call X d 0 0 M2 [v1, v2, v3, v4, v5, v6] h (Rv h2)) (kk : Run X (d + 1) kc ks M nx L S h2 Q) : Run X (d + 1) kc ks M pc L (v6 :: v5 :: v4 :: v3 :: v2 :: v1 :: S) h Q := Run.callS (As := [v1, v2, v3, v4, v5, v6]) hd lk cm st rfl hln hw body (fun r h1 q => by obtain ⟨rfl, rfl⟩ := q; exact kk)
theorem Run.V6 {v1 v2 v3 v4 v5 v6 : Value} {k ci : Nat} {fs : List Value} (hd : DI M pc (.invokevirtual idx) 3 nx) (lk : LK M.1.cls idx M2) (cm : CM M2 6) (st : Cond.instanceMethod M2.1 ∈ TB ∧ Cond.selects M2.1.cls M2.1 M2.1 ∈ TB) (hcl : (KL[ci]?).map (fun q => q.1) = some M2.1.cls) (hk : h[k]? = some (.inr (ci, fs))) (hln : (enA (.ref (k + 1) :: [v1, v2, v3, v4, v5, v6])).length ≤ M2.2.2.1) (hw : (S.map fun v => v.category).sum ≤ 8) (body : Call X d 0 0 M2 (.ref (k + 1) :: [v1, v2, v3, v4, v5, v6]) h Q1) (kk : ∀ r h1, Q1 r h1 → Run X (d + 1) kc ks M nx L (r.toList ++ S) h1 Q) : Run X (d + 1) kc ks M pc L (v6 :: v5 :: v4 :: v3 :: v2 :: v1 :: .ref (k + 1) :: S) h Q := Run.callV (As := [v1, v2, v3, v4, v5, v6]) hd lk cm st hcl hk rfl hln hw body kk
theorem Run.V6r {v1 v2 v3 v4 v5 v6 : Value} {k ci : Nat} {fs : List Value} (hd : DI M pc (.invokevirtual idx) 3 nx) (lk : LK M.1.cls idx M2) (cm : CM M2 6) (st : Cond.instanceMethod M2.1 ∈ TB ∧ Cond.selects M2.1.cls M2.1 M2.1 ∈ TB) (hcl : (KL[ci]?).map (fun q => q.1) = some M2.1.cls) (hk : h[k]? = some (.inr (ci, fs))) (hln : (enA (.ref (k + 1) :: [v1, v2, v3, v4, v5, v6])).length ≤ M2.2.2.1) (hw : (S.map fun v => v.category).sum ≤ 8) (body : Call X d 0 0 M2 (.ref (k + 1) :: [v1, v2, v3, v4, v5, v6]) h (Ret v h2)) (kk : Run X (d + 1) kc ks M nx L (v :: S) h2 Q) : Run X (d + 1) kc ks M pc L (v6 :: v5 :: v4 :: v3 :: v2 :: v1 :: .ref (k + 1) :: S) h Q := Run.callV (As := [v1, v2, v3, v4, v5, v6]) hd lk cm st hcl hk rfl hln hw body (fun r h1 q => by obtain ⟨rfl, rfl⟩ := q; exact kk)
theorem Run.V6v {v1 v2 v3 v4 v5 v6 : Value} {k ci : Nat} {fs : List Value} (hd : DI M pc (.invokevirtual idx) 3 nx) (lk : LK M.1.cls idx M2) (cm : CM M2 6) (st : Cond.instanceMethod M2.1 ∈ TB ∧ Cond.selects M2.1.cls M2.1 M2.1 ∈ TB) (hcl : (KL[ci]?).map (fun q => q.1) = some M2.1.cls) (hk : h[k]? = some (.inr (ci, fs))) (hln : (enA (.ref (k + 1) :: [v1, v2, v3, v4, v5, v6])).length ≤ M2.2.2.1) (hw : (S.map fun v => v.category).sum ≤ 8) (body : Call X d 0 0 M2 (.ref (k + 1) :: [v1, v2, v3, v4, v5, v6]) h (Rv h2)) (kk : Run X (d + 1) kc ks M nx L S h2 Q) : Run X (d + 1) kc ks M pc L (v6 :: v5 :: v4 :: v3 :: v2 :: v1 :: .ref (k + 1) :: S) h Q := Run.callV (As := [v1, v2, v3, v4, v5, v6]) hd lk cm st hcl hk rfl hln hw body (fun r h1 q => by obtain ⟨rfl, rfl⟩ := q; exact kk)
end RUNK
end
section
/-! ===== what is seen, in numbers ===== -/
def m8 (x : Int32) : Nat := x.toBitVec.toNat % 8
theorem m8_and (x : Int32) : x &&& nI 7 = nI (m8 x) := pk_and x 3 (by decide +kernel)
theorem m8_lt (x : Int32) : m8 x < 8 := Nat.mod_lt _ (by omega)
theorem m8_nI (a : Nat) : m8 (nI a) = a % 8 := by
  show (BitVec.ofNat 32 a).toNat % 8 = _
  rw [BitVec.toNat_ofNat]
  omega
theorem m8_add (x y : Int32) : m8 (x + y) = (m8 x + m8 y) % 8 := by
  simp only [m8, Int32.toBitVec_add, BitVec.toNat_add]
  omega
theorem m8_sub (x y : Int32) : m8 (x - y) = (m8 x + 8 - m8 y) % 8 := by
  simp only [m8, Int32.toBitVec_sub, BitVec.toNat_sub]
  have := y.toBitVec.isLt
  omega
theorem m8_neg (x : Int32) : m8 (-x) = (8 - m8 x) % 8 := by
  simp only [m8, Int32.toBitVec_neg, BitVec.toNat_neg]
  have := x.toBitVec.isLt
  omega
/-- how far two angles are apart -/
def ap (a o : Nat) : Nat := if 8 - (a + 8 - o) % 8 < (a + 8 - o) % 8 then 8 - (a + 8 - o) % 8 else (a + 8 - o) % 8
def rc (k : Nat) : Nat := if k = 1 then 0 else if k = 3 then 2 else 1
/-- a piece (part, own angle, kind) to one of a kind, at an angle -/
def showN (p o k q a : Nat) : Bool :=
  if q = 3 then false else if q = 2 ∧ p = 2 then true else
    decide (ap a (o % 8) ≤ rc k + (if q = 1 then 1 else 0)) || (decide (k = 2) && decide (ap a ((o + 4) % 8) ≤ rc k + (if q = 1 then 1 else 0)))
theorem ret_t {b : Bool} {h : AH} (hb : b = true) : Ret (.int (bI b)) h (some (.int (nI 1))) h := ⟨by rw [hb, bI_1], rfl⟩
theorem ret_f {b : Bool} {h : AH} (hb : b = false) : Ret (.int (bI b)) h (some (.int (nI 0))) h := ⟨by rw [hb, bI_0], rfl⟩
theorem ret_b {a b : Bool} {h : AH} (hb : a = b) : Ret (.int (bI b)) h (some (.int (bI a))) h := ⟨by rw [hb], rfl⟩
theorem ret_n {a b : Nat} {h : AH} (hb : a = b) : Ret (.int (nI b)) h (some (.int (nI a))) h := ⟨by rw [hb], rfl⟩
theorem ret_i {a b : Int32} {h : AH} (hb : a = b) : Ret (.int b) h (some (.int a)) h := ⟨by rw [hb], rfl⟩
section LEAF
variable {X : Nat × (Nat → Int32)} {d : Nat} {h : AH}
/-- figure >= 0 && figure < limit -/
theorem c_PM_isBelow {x y : Int32} : Call X d 0 0 M_PM_isBelow [.int x, .int y] h (Ret (.int (bI (decide (0 ≤ x) && decide (x < y)))) h) := by
  show Run X d 0 0 M_PM_isBelow 0 [some (.int x), some (.int y)] [] h _
  refine Run.iload_n d_PM_isBelow_0 rfl ?_
  refine Run.if_lt d_PM_isBelow_1 (fun c1 => ?_) (fun c1 => ?_)
  · refine Run.iconst (v := nI 0) d_PM_isBelow_13 ic_0 ?_
    refine Run.iret d_PM_isBelow_14 rfl (by first | exact bI_nar _ | decide +kernel) ?_
    first | exact ret_t (by simp_all) | exact ret_f (by rw [decide_eq_false (Int32.not_le.mpr c1), Bool.false_and]) | exact ret_f (by simp_all)
  · refine Run.iload_n d_PM_isBelow_4 rfl ?_
    refine Run.iload_n d_PM_isBelow_5 rfl ?_
    first | refine Run.icmp_ge_n d_PM_isBelow_6 (by omega) (by omega) (fun c6 => ?_) (fun c6 => ?_) | refine Run.icmp_ge d_PM_isBelow_6 (fun c6 => ?_) (fun c6 => ?_)
    · refine Run.iconst (v := nI 0) d_PM_isBelow_13 ic_0 ?_
      refine Run.iret d_PM_isBelow_14 rfl (by first | exact bI_nar _ | decide +kernel) ?_
      first | exact ret_t (by simp_all) | exact ret_f (by rw [decide_eq_false (Int32.not_le.mpr c1), Bool.false_and]) | exact ret_f (by simp_all)
    · refine Run.iconst (v := nI 1) d_PM_isBelow_9 ic_1 ?_
      refine Run.goto d_PM_isBelow_10 ?_
      refine Run.iret d_PM_isBelow_14 rfl (by first | exact bI_nar _ | decide +kernel) ?_
      first | exact ret_t (by simp_all) | exact ret_f (by rw [decide_eq_false (Int32.not_le.mpr c1), Bool.false_and]) | exact ret_f (by simp_all)
theorem c_PM_hasBit {a b : Nat} (hb : b < 32) (ha : a < 2 ^ 31) : Call X d 0 0 M_PM_hasBit [.int (nI a), .int (nI b)] h (Ret (.int (bI (a.testBit b))) h) := by
  show Run X d 0 0 M_PM_hasBit 0 [some (.int (nI a)), some (.int (nI b))] [] h _
  have e1 : a / 2 ^ b &&& 1 = (a.testBit b).toNat := by
    rw [Nat.testBit_eq_decide_div_mod_eq, Nat.and_one_is_mod]
    have : a / 2 ^ b % 2 = 0 ∨ a / 2 ^ b % 2 = 1 := by omega
    rcases this with q | q <;> simp [q]
  refine Run.iload_n d_PM_hasBit_0 rfl ?_
  refine Run.iload_n d_PM_hasBit_1 rfl ?_
  first | refine Run.ishr_n d_PM_hasBit_2 (by omega) (by omega) ?_ | refine Run.ishr d_PM_hasBit_2 ?_
  refine Run.iconst (v := nI 1) d_PM_hasBit_3 ic_1 ?_
  first | refine Run.iand_n d_PM_hasBit_4 ?_ | refine Run.iand d_PM_hasBit_4 ?_
  refine Run.iconst (v := nI 1) d_PM_hasBit_5 ic_1 ?_
  have e2 : a / 2 ^ b &&& 1 < 2 := by rw [e1]; cases a.testBit b <;> decide
  first | refine Run.icmp_ne_n d_PM_hasBit_6 (by omega) (by omega) (fun c6 => ?_) (fun c6 => ?_) | refine Run.icmp_ne d_PM_hasBit_6 (fun c6 => ?_) (fun c6 => ?_)
  · refine Run.iconst (v := nI 0) d_PM_hasBit_13 ic_0 ?_
    refine Run.iret d_PM_hasBit_14 rfl (by first | exact bI_nar _ | decide +kernel) ?_
    first | exact ret_t (by revert c6; rw [e1]; cases a.testBit b <;> simp) | exact ret_f (by revert c6; rw [e1]; cases a.testBit b <;> simp)
  · refine Run.iconst (v := nI 1) d_PM_hasBit_9 ic_1 ?_
    refine Run.goto d_PM_hasBit_10 ?_
    refine Run.iret d_PM_hasBit_14 rfl (by first | exact bI_nar _ | decide +kernel) ?_
    first | exact ret_t (by revert c6; rw [e1]; cases a.testBit b <;> simp) | exact ret_f (by revert c6; rw [e1]; cases a.testBit b <;> simp)
theorem c_PM_byEight {x : Int32} : Call X d 0 0 M_PM_byEight [.int x] h (Ret (.int (nI (m8 x))) h) := by
  show Run X d 0 0 M_PM_byEight 0 [some (.int x)] [] h _
  refine Run.iload_n d_PM_byEight_0 rfl ?_
  refine Run.bipush (v := nI 7) d_PM_byEight_1 bp_7 ?_
  first | refine Run.iand_n d_PM_byEight_3 ?_ | refine Run.iand d_PM_byEight_3 ?_
  refine Run.iret d_PM_byEight_4 rfl rfl ?_
  exact ret_i (m8_and x)
theorem c_PM_apart {x y : Int32} : Call X (d + 1) 0 0 M_PM_apart [.int x, .int y] h (Ret (.int (nI (ap (m8 x) (m8 y)))) h) := by
  show Run X (d + 1) 0 0 M_PM_apart 0 [some (.int x), some (.int y), none] [] h _
  have e1 := m8_lt (x - y)
  refine Run.iload_n d_PM_apart_0 rfl ?_
  refine Run.iload_n d_PM_apart_1 rfl ?_
  first | refine Run.isub_n d_PM_apart_2 (by omega) ?_ | refine Run.isub d_PM_apart_2 ?_
  refine Run.S1r d_PM_apart_3 lk_PM_273 cm_PM_byEight st_PM_byEight (Nat.le_of_ble_eq_true rfl) (Nat.le_of_ble_eq_true rfl) (c_PM_byEight) ?_
  refine Run.istore_n d_PM_apart_6 rfl rfl ?_
  show Run _ _ _ _ _ _ [_, _, _] _ _ _
  refine Run.iload_n d_PM_apart_7 rfl ?_
  refine Run.bipush (v := nI 8) d_PM_apart_8 bp_8 ?_
  refine Run.iload_n d_PM_apart_10 rfl ?_
  first | refine Run.isub_n d_PM_apart_11 (by omega) ?_ | refine Run.isub d_PM_apart_11 ?_
  refine Run.mmin d_PM_apart_12 mm_PM_276 (Nat.le_of_ble_eq_true rfl) ?_
  refine Run.iret d_PM_apart_15 rfl rfl ?_
  refine ret_i ?_
  rw [m8_sub] at e1 ⊢
  have e2 := nI_ltI (a := 8 - (m8 x + 8 - m8 y) % 8) (b := (m8 x + 8 - m8 y) % 8) (by omega) (by omega)
  simp only [e2, ap]
  split <;> rfl
theorem c_PM_reachOf {k : Nat} (hk : k < 4) : Call X d 0 0 M_PM_reachOf [.int (nI k)] h (Ret (.int (nI (rc k))) h) := by
  show Run X d 0 0 M_PM_reachOf 0 [some (.int (nI k))] [] h _
  refine Run.iload_n d_PM_reachOf_0 rfl ?_
  rcases (show k = 0 ∨ k = 1 ∨ k = 2 ∨ k = 3 by omega) with rfl | rfl | rfl | rfl
  · refine Run.lsw (off := 31) (tgt := 32) d_PM_reachOf_1 (by decide +kernel) (by decide +kernel) rfl ?_
    refine Run.iconst (v := nI 1) d_PM_reachOf_32 ic_1 ?_
    refine Run.iret d_PM_reachOf_33 rfl rfl ?_
    exact ⟨rfl, rfl⟩
  · refine Run.lsw (off := 27) (tgt := 28) d_PM_reachOf_1 (by decide +kernel) (by decide +kernel) rfl ?_
    refine Run.iconst (v := nI 0) d_PM_reachOf_28 ic_0 ?_
    refine Run.iret d_PM_reachOf_29 rfl rfl ?_
    exact ⟨rfl, rfl⟩
  · refine Run.lsw (off := 31) (tgt := 32) d_PM_reachOf_1 (by decide +kernel) (by decide +kernel) rfl ?_
    refine Run.iconst (v := nI 1) d_PM_reachOf_32 ic_1 ?_
    refine Run.iret d_PM_reachOf_33 rfl rfl ?_
    exact ⟨rfl, rfl⟩
  · refine Run.lsw (off := 29) (tgt := 30) d_PM_reachOf_1 (by decide +kernel) (by decide +kernel) rfl ?_
    refine Run.iconst (v := nI 2) d_PM_reachOf_30 ic_2 ?_
    refine Run.iret d_PM_reachOf_31 rfl rfl ?_
    exact ⟨rfl, rfl⟩
theorem ap_lt (a o : Nat) : ap a o < 8 := by unfold ap; split <;> omega
theorem rc_le (k : Nat) : rc k ≤ 2 := by unfold rc; split <;> (try split) <;> omega
theorem c_PM_isShown {p o k q : Nat} {x : Int32} (hp : p < 5) (ho : o < 8) (hk : k < 4) (hq : q < 4) : Call X (d + 2) 0 0 M_PM_isShown [.int (nI p), .int (nI o), .int (nI k), .int (nI q), .int x] h (Ret (.int (bI (showN p o k q (m8 x)))) h) := by
  show Run X (d + 2) 0 0 M_PM_isShown 0 [some (.int (nI p)), some (.int (nI o)), some (.int (nI k)), some (.int (nI q)), some (.int x), none] [] h _
  have e1 := ap_lt (m8 x) (o % 8)
  have e2 := ap_lt (m8 x) ((o + 4) % 8)
  have e3 := rc_le k
  refine Run.iload_n d_PM_isShown_0 rfl ?_
  refine Run.iconst (v := nI 3) d_PM_isShown_1 ic_3 ?_
  first | refine Run.icmp_ne_n d_PM_isShown_2 (by omega) (by omega) (fun c2 => ?_) (fun c2 => ?_) | refine Run.icmp_ne d_PM_isShown_2 (fun c2 => ?_) (fun c2 => ?_)
  · refine Run.iload_n d_PM_isShown_7 rfl ?_
    refine Run.iconst (v := nI 2) d_PM_isShown_8 ic_2 ?_
    first | refine Run.icmp_ne_n d_PM_isShown_9 (by omega) (by omega) (fun c9 => ?_) (fun c9 => ?_) | refine Run.icmp_ne d_PM_isShown_9 (fun c9 => ?_) (fun c9 => ?_)
    · refine Run.iload_n d_PM_isShown_19 rfl ?_
      refine Run.S1r d_PM_isShown_20 lk_PM_281 cm_PM_reachOf st_PM_reachOf (Nat.le_of_ble_eq_true rfl) (Nat.le_of_ble_eq_true rfl) (c_PM_reachOf hk) ?_
      refine Run.iload_n d_PM_isShown_23 rfl ?_
      refine Run.iconst (v := nI 1) d_PM_isShown_24 ic_1 ?_
      first | refine Run.icmp_ne_n d_PM_isShown_25 (by omega) (by omega) (fun c25 => ?_) (fun c25 => ?_) | refine Run.icmp_ne d_PM_isShown_25 (fun c25 => ?_) (fun c25 => ?_)
      · refine Run.iconst (v := nI 0) d_PM_isShown_32 ic_0 ?_
        first | refine Run.iadd_n d_PM_isShown_33 ?_ | refine Run.iadd d_PM_isShown_33 ?_
        refine Run.istore d_PM_isShown_34 rfl rfl ?_
        show Run _ _ _ _ _ _ [_, _, _, _, _, _] _ _ _
        refine Run.iload d_PM_isShown_36 rfl ?_
        refine Run.iload_n d_PM_isShown_38 rfl ?_
        refine Run.S2r d_PM_isShown_39 lk_PM_284 cm_PM_apart st_PM_apart (Nat.le_of_ble_eq_true rfl) (Nat.le_of_ble_eq_true rfl) (c_PM_apart) ?_
        rw [m8_nI]
        refine Run.iload d_PM_isShown_42 rfl ?_
        first | refine Run.icmp_le_n d_PM_isShown_44 (by omega) (by omega) (fun c44 => ?_) (fun c44 => ?_) | refine Run.icmp_le d_PM_isShown_44 (fun c44 => ?_) (fun c44 => ?_)
        · refine Run.iconst (v := nI 1) d_PM_isShown_65 ic_1 ?_
          refine Run.goto d_PM_isShown_66 ?_
          refine Run.iret d_PM_isShown_70 rfl (by first | exact bI_nar _ | decide +kernel) ?_
          first | exact ret_t (by unfold showN; simp_all; try omega) | exact ret_f (by unfold showN; simp_all; try omega)
        · refine Run.iload_n d_PM_isShown_47 rfl ?_
          refine Run.iconst (v := nI 2) d_PM_isShown_48 ic_2 ?_
          first | refine Run.icmp_ne_n d_PM_isShown_49 (by omega) (by omega) (fun c49 => ?_) (fun c49 => ?_) | refine Run.icmp_ne d_PM_isShown_49 (fun c49 => ?_) (fun c49 => ?_)
          · refine Run.iconst (v := nI 0) d_PM_isShown_69 ic_0 ?_
            refine Run.iret d_PM_isShown_70 rfl (by first | exact bI_nar _ | decide +kernel) ?_
            first | exact ret_t (by unfold showN; simp_all; try omega) | exact ret_f (by unfold showN; simp_all; try omega)
          · refine Run.iload d_PM_isShown_52 rfl ?_
            refine Run.iload_n d_PM_isShown_54 rfl ?_
            refine Run.iconst (v := nI 4) d_PM_isShown_55 ic_4 ?_
            first | refine Run.iadd_n d_PM_isShown_56 ?_ | refine Run.iadd d_PM_isShown_56 ?_
            refine Run.S2r d_PM_isShown_57 lk_PM_284 cm_PM_apart st_PM_apart (Nat.le_of_ble_eq_true rfl) (Nat.le_of_ble_eq_true rfl) (c_PM_apart) ?_
            rw [m8_nI]
            refine Run.iload d_PM_isShown_60 rfl ?_
            first | refine Run.icmp_gt_n d_PM_isShown_62 (by omega) (by omega) (fun c62 => ?_) (fun c62 => ?_) | refine Run.icmp_gt d_PM_isShown_62 (fun c62 => ?_) (fun c62 => ?_)
            · refine Run.iconst (v := nI 0) d_PM_isShown_69 ic_0 ?_
              refine Run.iret d_PM_isShown_70 rfl (by first | exact bI_nar _ | decide +kernel) ?_
              first | exact ret_t (by unfold showN; simp_all; try omega) | exact ret_f (by unfold showN; simp_all; try omega)
            · refine Run.iconst (v := nI 1) d_PM_isShown_65 ic_1 ?_
              refine Run.goto d_PM_isShown_66 ?_
              refine Run.iret d_PM_isShown_70 rfl (by first | exact bI_nar _ | decide +kernel) ?_
              first | exact ret_t (by unfold showN; simp_all; try omega) | exact ret_f (by unfold showN; simp_all; try omega)
      · refine Run.iconst (v := nI 1) d_PM_isShown_28 ic_1 ?_
        refine Run.goto d_PM_isShown_29 ?_
        first | refine Run.iadd_n d_PM_isShown_33 ?_ | refine Run.iadd d_PM_isShown_33 ?_
        refine Run.istore d_PM_isShown_34 rfl rfl ?_
        show Run _ _ _ _ _ _ [_, _, _, _, _, _] _ _ _
        refine Run.iload d_PM_isShown_36 rfl ?_
        refine Run.iload_n d_PM_isShown_38 rfl ?_
        refine Run.S2r d_PM_isShown_39 lk_PM_284 cm_PM_apart st_PM_apart (Nat.le_of_ble_eq_true rfl) (Nat.le_of_ble_eq_true rfl) (c_PM_apart) ?_
        rw [m8_nI]
        refine Run.iload d_PM_isShown_42 rfl ?_
        first | refine Run.icmp_le_n d_PM_isShown_44 (by omega) (by omega) (fun c44 => ?_) (fun c44 => ?_) | refine Run.icmp_le d_PM_isShown_44 (fun c44 => ?_) (fun c44 => ?_)
        · refine Run.iconst (v := nI 1) d_PM_isShown_65 ic_1 ?_
          refine Run.goto d_PM_isShown_66 ?_
          refine Run.iret d_PM_isShown_70 rfl (by first | exact bI_nar _ | decide +kernel) ?_
          first | exact ret_t (by unfold showN; simp_all; try omega) | exact ret_f (by unfold showN; simp_all; try omega)
        · refine Run.iload_n d_PM_isShown_47 rfl ?_
          refine Run.iconst (v := nI 2) d_PM_isShown_48 ic_2 ?_
          first | refine Run.icmp_ne_n d_PM_isShown_49 (by omega) (by omega) (fun c49 => ?_) (fun c49 => ?_) | refine Run.icmp_ne d_PM_isShown_49 (fun c49 => ?_) (fun c49 => ?_)
          · refine Run.iconst (v := nI 0) d_PM_isShown_69 ic_0 ?_
            refine Run.iret d_PM_isShown_70 rfl (by first | exact bI_nar _ | decide +kernel) ?_
            first | exact ret_t (by unfold showN; simp_all; try omega) | exact ret_f (by unfold showN; simp_all; try omega)
          · refine Run.iload d_PM_isShown_52 rfl ?_
            refine Run.iload_n d_PM_isShown_54 rfl ?_
            refine Run.iconst (v := nI 4) d_PM_isShown_55 ic_4 ?_
            first | refine Run.iadd_n d_PM_isShown_56 ?_ | refine Run.iadd d_PM_isShown_56 ?_
            refine Run.S2r d_PM_isShown_57 lk_PM_284 cm_PM_apart st_PM_apart (Nat.le_of_ble_eq_true rfl) (Nat.le_of_ble_eq_true rfl) (c_PM_apart) ?_
            rw [m8_nI]
            refine Run.iload d_PM_isShown_60 rfl ?_
            first | refine Run.icmp_gt_n d_PM_isShown_62 (by omega) (by omega) (fun c62 => ?_) (fun c62 => ?_) | refine Run.icmp_gt d_PM_isShown_62 (fun c62 => ?_) (fun c62 => ?_)
            · refine Run.iconst (v := nI 0) d_PM_isShown_69 ic_0 ?_
              refine Run.iret d_PM_isShown_70 rfl (by first | exact bI_nar _ | decide +kernel) ?_
              first | exact ret_t (by unfold showN; simp_all; try omega) | exact ret_f (by unfold showN; simp_all; try omega)
            · refine Run.iconst (v := nI 1) d_PM_isShown_65 ic_1 ?_
              refine Run.goto d_PM_isShown_66 ?_
              refine Run.iret d_PM_isShown_70 rfl (by first | exact bI_nar _ | decide +kernel) ?_
              first | exact ret_t (by unfold showN; simp_all; try omega) | exact ret_f (by unfold showN; simp_all; try omega)
    · refine Run.iload_n d_PM_isShown_12 rfl ?_
      refine Run.iconst (v := nI 2) d_PM_isShown_13 ic_2 ?_
      first | refine Run.icmp_ne_n d_PM_isShown_14 (by omega) (by omega) (fun c14 => ?_) (fun c14 => ?_) | refine Run.icmp_ne d_PM_isShown_14 (fun c14 => ?_) (fun c14 => ?_)
      · refine Run.iload_n d_PM_isShown_19 rfl ?_
        refine Run.S1r d_PM_isShown_20 lk_PM_281 cm_PM_reachOf st_PM_reachOf (Nat.le_of_ble_eq_true rfl) (Nat.le_of_ble_eq_true rfl) (c_PM_reachOf hk) ?_
        refine Run.iload_n d_PM_isShown_23 rfl ?_
        refine Run.iconst (v := nI 1) d_PM_isShown_24 ic_1 ?_
        first | refine Run.icmp_ne_n d_PM_isShown_25 (by omega) (by omega) (fun c25 => ?_) (fun c25 => ?_) | refine Run.icmp_ne d_PM_isShown_25 (fun c25 => ?_) (fun c25 => ?_)
        · refine Run.iconst (v := nI 0) d_PM_isShown_32 ic_0 ?_
          first | refine Run.iadd_n d_PM_isShown_33 ?_ | refine Run.iadd d_PM_isShown_33 ?_
          refine Run.istore d_PM_isShown_34 rfl rfl ?_
          show Run _ _ _ _ _ _ [_, _, _, _, _, _] _ _ _
          refine Run.iload d_PM_isShown_36 rfl ?_
          refine Run.iload_n d_PM_isShown_38 rfl ?_
          refine Run.S2r d_PM_isShown_39 lk_PM_284 cm_PM_apart st_PM_apart (Nat.le_of_ble_eq_true rfl) (Nat.le_of_ble_eq_true rfl) (c_PM_apart) ?_
          rw [m8_nI]
          refine Run.iload d_PM_isShown_42 rfl ?_
          first | refine Run.icmp_le_n d_PM_isShown_44 (by omega) (by omega) (fun c44 => ?_) (fun c44 => ?_) | refine Run.icmp_le d_PM_isShown_44 (fun c44 => ?_) (fun c44 => ?_)
          · refine Run.iconst (v := nI 1) d_PM_isShown_65 ic_1 ?_
            refine Run.goto d_PM_isShown_66 ?_
            refine Run.iret d_PM_isShown_70 rfl (by first | exact bI_nar _ | decide +kernel) ?_
            first | exact ret_t (by unfold showN; simp_all; try omega) | exact ret_f (by unfold showN; simp_all; try omega)
          · refine Run.iload_n d_PM_isShown_47 rfl ?_
            refine Run.iconst (v := nI 2) d_PM_isShown_48 ic_2 ?_
            first | refine Run.icmp_ne_n d_PM_isShown_49 (by omega) (by omega) (fun c49 => ?_) (fun c49 => ?_) | refine Run.icmp_ne d_PM_isShown_49 (fun c49 => ?_) (fun c49 => ?_)
            · refine Run.iconst (v := nI 0) d_PM_isShown_69 ic_0 ?_
              refine Run.iret d_PM_isShown_70 rfl (by first | exact bI_nar _ | decide +kernel) ?_
              first | exact ret_t (by unfold showN; simp_all; try omega) | exact ret_f (by unfold showN; simp_all; try omega)
            · refine Run.iload d_PM_isShown_52 rfl ?_
              refine Run.iload_n d_PM_isShown_54 rfl ?_
              refine Run.iconst (v := nI 4) d_PM_isShown_55 ic_4 ?_
              first | refine Run.iadd_n d_PM_isShown_56 ?_ | refine Run.iadd d_PM_isShown_56 ?_
              refine Run.S2r d_PM_isShown_57 lk_PM_284 cm_PM_apart st_PM_apart (Nat.le_of_ble_eq_true rfl) (Nat.le_of_ble_eq_true rfl) (c_PM_apart) ?_
              rw [m8_nI]
              refine Run.iload d_PM_isShown_60 rfl ?_
              first | refine Run.icmp_gt_n d_PM_isShown_62 (by omega) (by omega) (fun c62 => ?_) (fun c62 => ?_) | refine Run.icmp_gt d_PM_isShown_62 (fun c62 => ?_) (fun c62 => ?_)
              · refine Run.iconst (v := nI 0) d_PM_isShown_69 ic_0 ?_
                refine Run.iret d_PM_isShown_70 rfl (by first | exact bI_nar _ | decide +kernel) ?_
                first | exact ret_t (by unfold showN; simp_all; try omega) | exact ret_f (by unfold showN; simp_all; try omega)
              · refine Run.iconst (v := nI 1) d_PM_isShown_65 ic_1 ?_
                refine Run.goto d_PM_isShown_66 ?_
                refine Run.iret d_PM_isShown_70 rfl (by first | exact bI_nar _ | decide +kernel) ?_
                first | exact ret_t (by unfold showN; simp_all; try omega) | exact ret_f (by unfold showN; simp_all; try omega)
        · refine Run.iconst (v := nI 1) d_PM_isShown_28 ic_1 ?_
          refine Run.goto d_PM_isShown_29 ?_
          first | refine Run.iadd_n d_PM_isShown_33 ?_ | refine Run.iadd d_PM_isShown_33 ?_
          refine Run.istore d_PM_isShown_34 rfl rfl ?_
          show Run _ _ _ _ _ _ [_, _, _, _, _, _] _ _ _
          refine Run.iload d_PM_isShown_36 rfl ?_
          refine Run.iload_n d_PM_isShown_38 rfl ?_
          refine Run.S2r d_PM_isShown_39 lk_PM_284 cm_PM_apart st_PM_apart (Nat.le_of_ble_eq_true rfl) (Nat.le_of_ble_eq_true rfl) (c_PM_apart) ?_
          rw [m8_nI]
          refine Run.iload d_PM_isShown_42 rfl ?_
          first | refine Run.icmp_le_n d_PM_isShown_44 (by omega) (by omega) (fun c44 => ?_) (fun c44 => ?_) | refine Run.icmp_le d_PM_isShown_44 (fun c44 => ?_) (fun c44 => ?_)
          · refine Run.iconst (v := nI 1) d_PM_isShown_65 ic_1 ?_
            refine Run.goto d_PM_isShown_66 ?_
            refine Run.iret d_PM_isShown_70 rfl (by first | exact bI_nar _ | decide +kernel) ?_
            first | exact ret_t (by unfold showN; simp_all; try omega) | exact ret_f (by unfold showN; simp_all; try omega)
          · refine Run.iload_n d_PM_isShown_47 rfl ?_
            refine Run.iconst (v := nI 2) d_PM_isShown_48 ic_2 ?_
            first | refine Run.icmp_ne_n d_PM_isShown_49 (by omega) (by omega) (fun c49 => ?_) (fun c49 => ?_) | refine Run.icmp_ne d_PM_isShown_49 (fun c49 => ?_) (fun c49 => ?_)
            · refine Run.iconst (v := nI 0) d_PM_isShown_69 ic_0 ?_
              refine Run.iret d_PM_isShown_70 rfl (by first | exact bI_nar _ | decide +kernel) ?_
              first | exact ret_t (by unfold showN; simp_all; try omega) | exact ret_f (by unfold showN; simp_all; try omega)
            · refine Run.iload d_PM_isShown_52 rfl ?_
              refine Run.iload_n d_PM_isShown_54 rfl ?_
              refine Run.iconst (v := nI 4) d_PM_isShown_55 ic_4 ?_
              first | refine Run.iadd_n d_PM_isShown_56 ?_ | refine Run.iadd d_PM_isShown_56 ?_
              refine Run.S2r d_PM_isShown_57 lk_PM_284 cm_PM_apart st_PM_apart (Nat.le_of_ble_eq_true rfl) (Nat.le_of_ble_eq_true rfl) (c_PM_apart) ?_
              rw [m8_nI]
              refine Run.iload d_PM_isShown_60 rfl ?_
              first | refine Run.icmp_gt_n d_PM_isShown_62 (by omega) (by omega) (fun c62 => ?_) (fun c62 => ?_) | refine Run.icmp_gt d_PM_isShown_62 (fun c62 => ?_) (fun c62 => ?_)
              · refine Run.iconst (v := nI 0) d_PM_isShown_69 ic_0 ?_
                refine Run.iret d_PM_isShown_70 rfl (by first | exact bI_nar _ | decide +kernel) ?_
                first | exact ret_t (by unfold showN; simp_all; try omega) | exact ret_f (by unfold showN; simp_all; try omega)
              · refine Run.iconst (v := nI 1) d_PM_isShown_65 ic_1 ?_
                refine Run.goto d_PM_isShown_66 ?_
                refine Run.iret d_PM_isShown_70 rfl (by first | exact bI_nar _ | decide +kernel) ?_
                first | exact ret_t (by unfold showN; simp_all; try omega) | exact ret_f (by unfold showN; simp_all; try omega)
      · refine Run.iconst (v := nI 1) d_PM_isShown_17 ic_1 ?_
        refine Run.iret d_PM_isShown_18 rfl (by first | exact bI_nar _ | decide +kernel) ?_
        first | exact ret_t (by unfold showN; simp_all; try omega) | exact ret_f (by unfold showN; simp_all; try omega)
  · refine Run.iconst (v := nI 0) d_PM_isShown_5 ic_0 ?_
    refine Run.iret d_PM_isShown_6 rfl (by first | exact bI_nar _ | decide +kernel) ?_
    first | exact ret_t (by unfold showN; simp_all; try omega) | exact ret_f (by unfold showN; simp_all; try omega)
end LEAF
end
section
/-! ===== coasts and pages, abstract and in cells; what is seen (the class) ===== -/
/-- a loop that counts up to e -/
theorem upto (e : Nat) (P : Nat → Prop) (step : ∀ i, i ≤ e → (i < e → P (i + 1)) → P i) : ∀ i, i ≤ e → P i := by
  have key : ∀ n i, e - i ≤ n → i ≤ e → P i := by
    intro n
    induction n with
    | zero => exact fun i hi he => step i he (fun q => by omega)
    | succ n ih => exact fun i hi he => step i he (fun q => ih (i + 1) (by omega) q)
  exact fun i => key (e - i) i (Nat.le_refl _)
def itN {α : Type} (f : Nat → α → α) (a : α) : Nat → α
  | 0 => a
  | n + 1 => f n (itN f a n)
theorem itN_inv {α : Type} {f : Nat → α → α} {a : α} (I : α → Prop) (h0 : I a) (n : Nat) (hs : ∀ i x, i < n → I x → I (f i x)) : I (itN f a n) := by
  induction n with
  | zero => exact h0
  | succ n ih => exact hs n _ (by omega) (ih (fun i x hi => hs i x (by omega)))
/-- a coast: holders' kinds; parts, angles, kinds of pieces; how many holders, how many pieces -/
abbrev CA : Type := (Nat → Nat) × (Nat → Nat) × (Nat → Nat) × (Nat → Nat) × Nat × Nat
def hkC (c : CA) : Nat → Nat := c.1
def ptC (c : CA) : Nat → Nat := c.2.1
def anC (c : CA) : Nat → Nat := c.2.2.1
def kdC (c : CA) : Nat → Nat := c.2.2.2.1
def nhC (c : CA) : Nat := c.2.2.2.2.1
def npC (c : CA) : Nat := c.2.2.2.2.2
/-- a page: tilts, who holds, light, hour -/
abbrev PG : Type := (Nat → Nat) × (Nat → Nat) × Nat × Nat
def pgT (p : PG) : Nat → Nat := p.1
def pgW (p : PG) : Nat → Nat := p.2.1
def pgL (p : PG) : Nat := p.2.2.1
def pgH (p : PG) : Nat := p.2.2.2
def coOK (c : CA) : Prop := nhC c ≤ 4 ∧ npC c ≤ 6 ∧ (∀ j, j < nhC c → hkC c j < 4) ∧ ∀ i, i < npC c → ptC c i < 5 ∧ anC c i < 8 ∧ kdC c i < 4
def pgOK (c : CA) (p : PG) : Prop := pgL p < 8 ∧ pgH p ≤ 1000 ∧ ∀ i, i < npC c → pgT p i < 8 ∧ pgW p i < nhC c
def angN (p : PG) (i : Nat) : Nat := (pgT p i + pgL p) % 8
def sh (c : CA) (i j a : Nat) : Bool := showN (ptC c i) (anC c i) (kdC c i) (hkC c j) a
/-- n hours later -/
def hourN (p : PG) (n : Nat) : PG := (p.1, p.2.1, (pgL p + n) % 8, pgH p + n)
/-- parts that a holder sees (bits) -/
def seenF (c : CA) (p : PG) (j : Nat) : Nat → Nat → Nat := fun i acc => if pgW p i = j ∧ sh c i j (angN p i) = true then acc ||| 2 ^ ptC c i else acc
def seenN (c : CA) (p : PG) (j : Nat) : Nat := itN (seenF c p j) 0 (npC c)
theorem pgW_hour (p : PG) (n i : Nat) : pgW (hourN p n) i = pgW p i := rfl
theorem angN_hour (p : PG) (n i : Nat) : angN (hourN p n) i = (angN p i + m8 (nI n)) % 8 := by
  rw [m8_nI]
  show (pgT p i + (pgL p + n) % 8) % 8 = ((pgT p i + pgL p) % 8 + n % 8) % 8
  omega
theorem seenN_lt {c : CA} (hc : coOK c) (p : PG) (j : Nat) : seenN c p j < 32 := by
  refine itN_inv (fun x => x < 32) (by decide) _ (fun i x hi hx => ?_)
  unfold seenF
  split
  · have h1 := (hc.2.2.2 i hi).1
    have h2 : 2 ^ ptC c i < 2 ^ 5 := Nat.pow_lt_pow_right (by omega) h1
    exact Nat.or_lt_two_pow (n := 5) hx h2
  · exact hx
/-- holders that see her look (bits) -/
def lookF (c : CA) (p : PG) : Nat → Nat → Nat := fun j acc => if (seenN c p j).testBit 2 = true then acc ||| 2 ^ j else acc
def lookN (c : CA) (p : PG) : Nat := itN (lookF c p) 0 (nhC c)
theorem lookN_lt {c : CA} (hc : coOK c) (p : PG) : lookN c p < 16 := by
  refine itN_inv (fun x => x < 16) (by decide) _ (fun i x hi hx => ?_)
  unfold lookF
  split
  · have h1 := hc.1
    have h2 : 2 ^ i < 2 ^ 4 := Nat.pow_lt_pow_right (by omega) (by omega)
    exact Nat.or_lt_two_pow (n := 4) hx h2
  · exact hx
/-- parts that all see together (bits) -/
def togF (c : CA) (p : PG) : Nat → Nat → Nat := fun j acc => acc ||| seenN c p j
def togN (c : CA) (p : PG) : Nat := itN (togF c p) 0 (nhC c)
/-- cells -/
def iA (n : Nat) (f : Nat → Int32) : AC := .inl (.int, n, .inl f)
def zA (n : Nat) (f : Nat → Int32) : AC := .inl (.boolean, n, .inl f)
/-- rows of numbers that stand for a coast -/
def CoV (c : CA) (fhk fpt fan fkd : Nat → Int32) : Prop := (∀ j, j < nhC c → fhk j = nI (hkC c j)) ∧ ∀ i, i < npC c → fpt i = nI (ptC c i) ∧ fan i = nI (anC c i) ∧ fkd i = nI (kdC c i)
/-- a coast's object at k, its rows behind it -/
def CoAt (h : AH) (k : Nat) (c : CA) : Prop := ∃ (fhk fpt fan fkd fhd : Nat → Int32) (li : Int32), h[k]? = some (.inr (1, [.ref (k + 2), .ref (k + 3), .ref (k + 4), .ref (k + 5), .ref (k + 6), .int li, .int (nI (nhC c)), .int (nI (npC c))])) ∧ h[k + 1]? = some (.inl (.int, 4, .inl fhk)) ∧ h[k + 2]? = some (.inl (.int, 6, .inl fpt)) ∧ h[k + 3]? = some (.inl (.int, 6, .inl fan)) ∧ h[k + 4]? = some (.inl (.int, 6, .inl fkd)) ∧ h[k + 5]? = some (.inl (.int, 6, .inl fhd)) ∧ CoV c fhk fpt fan fkd
def StV (c : CA) (p : PG) (ft fw : Nat → Int32) : Prop := ∀ i, i < npC c → ft i = nI (pgT p i) ∧ fw i = nI (pgW p i)
/-- a state's object at k, its rows behind it -/
def StAt (h : AH) (k : Nat) (c : CA) (p : PG) : Prop := ∃ (ft fw : Nat → Int32) (ke : Int32), h[k]? = some (.inr (4, [.ref (k + 2), .ref (k + 3), .int (nI (pgL p)), .int (nI (pgH p)), .int ke])) ∧ h[k + 1]? = some (.inl (.int, 6, .inl ft)) ∧ h[k + 2]? = some (.inl (.int, 6, .inl fw)) ∧ StV c p ft fw
/-- the object itself at 0: which coast is told, the seed -/
def pmO (kt kd : Nat) (sd : Int64) : AC := .inr (7, [.ref 2, .ref (kt + 1), .ref (kd + 1), .ref 16, .ref 19, .ref 22, .ref 23, .ref 25, .ref 29, .ref 33, .ref 36, .ref 37, .long sd])
/-- what the object reads of itself: the coast told, the page now -/
def PmAt (h : AH) (c : CA) (p : PG) : Prop := ∃ (kt kd : Nat) (sd : Int64), h[0]? = some (.inr (7, [.ref 2, .ref (kt + 1), .ref (kd + 1), .ref 16, .ref 19, .ref 22, .ref 23, .ref 25, .ref 29, .ref 33, .ref 36, .ref 37, .long sd])) ∧ CoAt h kt c ∧ StAt h 15 c p
/-- what is told stands at some place -/
def TlAt (h : AH) (c : CA) : Prop := ∃ (kt kd : Nat) (sd : Int64), h[0]? = some (.inr (7, [.ref 2, .ref (kt + 1), .ref (kd + 1), .ref 16, .ref 19, .ref 22, .ref 23, .ref 25, .ref 29, .ref 33, .ref 36, .ref 37, .long sd])) ∧ CoAt h kt c
/-- within 0 .. n - 1 -/
def inB (x : Int32) (n : Nat) : Bool := decide (0 ≤ x) && decide (x < nI n)
theorem inB_nI {i n : Nat} (hi : i < 2 ^ 31) (hn : n < 2 ^ 31) : inB (nI i) n = decide (i < n) := by
  simp only [inB, nI_pos' hi, nI_ltI hi hn, decide_true, Bool.true_and]
theorem inB_t {x : Int32} {n : Nat} (hn : n < 2 ^ 31) (h : inB x n = true) : ∃ i, i < n ∧ x = nI i := by
  simp only [inB, Bool.and_eq_true, decide_eq_true_eq] at h
  obtain ⟨j, hj, rfl⟩ := nI_of (Int32.not_lt.mpr h.1)
  exact ⟨j, (nI_ltI hj hn).mp h.2, rfl⟩
theorem run_cg {X : Nat × (Nat → Int32)} {d kc ks : Nat} {M : MR} {pc : Nat} {L L2 : List (Option Value)} {S : List Value} {h : AH} {Q : Option Value → AH → Prop} (e : L = L2) (k : Run X d kc ks M pc L2 S h Q) : Run X d kc ks M pc L S h Q := e ▸ k
section SEEN
variable {X : Nat × (Nat → Int32)} {d : Nat} {h : AH} {c : CA} {p : PG} {k : Nat}
theorem c_Co_hasHolder {x : Int32} (hco : CoAt h k c) : Call X (d + 1) 0 0 M_Co_hasHolder [.ref (k + 1), .int x] h (Ret (.int (bI (inB x (nhC c)))) h) := by
  show Run X (d + 1) 0 0 M_Co_hasHolder 0 [some (.ref (k + 1)), some (.int x)] [] h _
  obtain ⟨fhk, fpt, fan, fkd, fhd, li, h0, h1, h2, h3, h4, h5, hv⟩ := hco
  refine Run.iload_n d_Co_hasHolder_0 rfl ?_
  refine Run.aload_n d_Co_hasHolder_1 rfl ?_
  refine Run.getf d_Co_hasHolder_2 fl_Co_27 (by first | rfl | assumption) (by rfl) ?_
  refine Run.S2r d_Co_hasHolder_5 lk_Co_31 cm_PM_isBelow st_PM_isBelow (Nat.le_of_ble_eq_true rfl) (Nat.le_of_ble_eq_true rfl) (c_PM_isBelow) ?_
  refine Run.iret d_Co_hasHolder_8 rfl (by first | exact bI_nar _ | decide +kernel) ?_
  exact ⟨rfl, rfl⟩
theorem c_Co_hasPiece {x : Int32} (hco : CoAt h k c) : Call X (d + 1) 0 0 M_Co_hasPiece [.ref (k + 1), .int x] h (Ret (.int (bI (inB x (npC c)))) h) := by
  show Run X (d + 1) 0 0 M_Co_hasPiece 0 [some (.ref (k + 1)), some (.int x)] [] h _
  obtain ⟨fhk, fpt, fan, fkd, fhd, li, h0, h1, h2, h3, h4, h5, hv⟩ := hco
  refine Run.iload_n d_Co_hasPiece_0 rfl ?_
  refine Run.aload_n d_Co_hasPiece_1 rfl ?_
  refine Run.getf d_Co_hasPiece_2 fl_Co_35 (by first | rfl | assumption) (by rfl) ?_
  refine Run.S2r d_Co_hasPiece_5 lk_Co_31 cm_PM_isBelow st_PM_isBelow (Nat.le_of_ble_eq_true rfl) (Nat.le_of_ble_eq_true rfl) (c_PM_isBelow) ?_
  refine Run.iret d_Co_hasPiece_8 rfl (by first | exact bI_nar _ | decide +kernel) ?_
  exact ⟨rfl, rfl⟩
theorem c_Co_showsAt {i j : Nat} {x : Int32} (hc : coOK c) (hco : CoAt h k c) (hi : i < 100) (hj : j < 100) : Call X (d + 3) 0 0 M_Co_showsAt [.ref (k + 1), .int (nI i), .int (nI j), .int x] h (Ret (.int (bI (decide (i < npC c) && (decide (j < nhC c) && sh c i j (m8 x))))) h) := by
  show Run X (d + 3) 0 0 M_Co_showsAt 0 [some (.ref (k + 1)), some (.int (nI i)), some (.int (nI j)), some (.int x)] [] h _
  have hco' := hco
  obtain ⟨fhk, fpt, fan, fkd, fhd, li, h0, h1, h2, h3, h4, h5, hv1, hv2⟩ := hco
  obtain ⟨b1, b2, b3, b4⟩ := hc
  refine Run.aload_n d_Co_showsAt_0 rfl ?_
  refine Run.iload_n d_Co_showsAt_1 rfl ?_
  refine Run.V1r d_Co_showsAt_2 lk_Co_38 cm_Co_hasPiece iv_Co_hasPiece rfl (by first | rfl | assumption) (Nat.le_of_ble_eq_true rfl) (Nat.le_of_ble_eq_true rfl) (c_Co_hasPiece hco') ?_
  first | refine Run.if_eq_b d_Co_showsAt_5 (fun c5 => ?_) (fun c5 => ?_) | refine Run.if_eq_n d_Co_showsAt_5 (by omega) (fun c5 => ?_) (fun c5 => ?_) | refine Run.if_eq d_Co_showsAt_5 (fun c5 => ?_) (fun c5 => ?_)
  · rw [inB_nI (by omega) (by omega)] at c5
    refine Run.iconst (v := nI 0) d_Co_showsAt_51 ic_0 ?_
    refine Run.iret d_Co_showsAt_52 rfl (by first | exact bI_nar _ | decide +kernel) ?_
    first | exact ret_f (by rw [c5, Bool.false_and]) | exact ret_f (by rw [c13, Bool.false_and, Bool.and_false]) | exact ret_f (by simp [sh, c44]) | exact ret_t (by simp [sh, c5, c13, c44])
  · rw [inB_nI (by omega) (by omega), decide_eq_true_eq] at c5
    refine Run.aload_n d_Co_showsAt_8 rfl ?_
    refine Run.iload_n d_Co_showsAt_9 rfl ?_
    refine Run.V1r d_Co_showsAt_10 lk_Co_42 cm_Co_hasHolder iv_Co_hasHolder rfl (by first | rfl | assumption) (Nat.le_of_ble_eq_true rfl) (Nat.le_of_ble_eq_true rfl) (c_Co_hasHolder hco') ?_
    first | refine Run.if_eq_b d_Co_showsAt_13 (fun c13 => ?_) (fun c13 => ?_) | refine Run.if_eq_n d_Co_showsAt_13 (by omega) (fun c13 => ?_) (fun c13 => ?_) | refine Run.if_eq d_Co_showsAt_13 (fun c13 => ?_) (fun c13 => ?_)
    · rw [inB_nI (by omega) (by omega)] at c13
      refine Run.iconst (v := nI 0) d_Co_showsAt_51 ic_0 ?_
      refine Run.iret d_Co_showsAt_52 rfl (by first | exact bI_nar _ | decide +kernel) ?_
      first | exact ret_f (by rw [c5, Bool.false_and]) | exact ret_f (by rw [c13, Bool.false_and, Bool.and_false]) | exact ret_f (by simp [sh, c44]) | exact ret_t (by simp [sh, c5, c13, c44])
    · rw [inB_nI (by omega) (by omega), decide_eq_true_eq] at c13
      refine Run.aload_n d_Co_showsAt_16 rfl ?_
      refine Run.getf d_Co_showsAt_17 fl_Co_15 (by first | rfl | assumption) (by rfl) ?_
      refine Run.iload_n d_Co_showsAt_20 rfl ?_
      refine Run.iald_n d_Co_showsAt_21 (by first | rfl | assumption) (by omega) (by omega) ?_
      rw [(hv2 i c5).1]
      refine Run.aload_n d_Co_showsAt_22 rfl ?_
      refine Run.getf d_Co_showsAt_23 fl_Co_18 (by first | rfl | assumption) (by rfl) ?_
      refine Run.iload_n d_Co_showsAt_26 rfl ?_
      refine Run.iald_n d_Co_showsAt_27 (by first | rfl | assumption) (by omega) (by omega) ?_
      rw [(hv2 i c5).2.1]
      refine Run.aload_n d_Co_showsAt_28 rfl ?_
      refine Run.getf d_Co_showsAt_29 fl_Co_21 (by first | rfl | assumption) (by rfl) ?_
      refine Run.iload_n d_Co_showsAt_32 rfl ?_
      refine Run.iald_n d_Co_showsAt_33 (by first | rfl | assumption) (by omega) (by omega) ?_
      rw [(hv2 i c5).2.2]
      refine Run.aload_n d_Co_showsAt_34 rfl ?_
      refine Run.getf d_Co_showsAt_35 fl_Co_9 (by first | rfl | assumption) (by rfl) ?_
      refine Run.iload_n d_Co_showsAt_38 rfl ?_
      refine Run.iald_n d_Co_showsAt_39 (by first | rfl | assumption) (by omega) (by omega) ?_
      rw [hv1 j c13]
      refine Run.iload_n d_Co_showsAt_40 rfl ?_
      refine Run.S5r d_Co_showsAt_41 lk_Co_45 cm_PM_isShown st_PM_isShown (Nat.le_of_ble_eq_true rfl) (Nat.le_of_ble_eq_true rfl) (c_PM_isShown (b4 i c5).1 (b4 i c5).2.1 (b4 i c5).2.2 (b3 j c13)) ?_
      first | refine Run.if_eq_b d_Co_showsAt_44 (fun c44 => ?_) (fun c44 => ?_) | refine Run.if_eq_n d_Co_showsAt_44 (by omega) (fun c44 => ?_) (fun c44 => ?_) | refine Run.if_eq d_Co_showsAt_44 (fun c44 => ?_) (fun c44 => ?_)
      · refine Run.iconst (v := nI 0) d_Co_showsAt_51 ic_0 ?_
        refine Run.iret d_Co_showsAt_52 rfl (by first | exact bI_nar _ | decide +kernel) ?_
        first | exact ret_f (by rw [c5, Bool.false_and]) | exact ret_f (by rw [c13, Bool.false_and, Bool.and_false]) | exact ret_f (by simp [sh, c44]) | exact ret_t (by simp [sh, c5, c13, c44])
      · refine Run.iconst (v := nI 1) d_Co_showsAt_47 ic_1 ?_
        refine Run.goto d_Co_showsAt_48 ?_
        refine Run.iret d_Co_showsAt_52 rfl (by first | exact bI_nar _ | decide +kernel) ?_
        first | exact ret_f (by rw [c5, Bool.false_and]) | exact ret_f (by rw [c13, Bool.false_and, Bool.and_false]) | exact ret_f (by simp [sh, c44]) | exact ret_t (by simp [sh, c5, c13, c44])
theorem c_St_angleOf {i : Nat} (hp : pgOK c p) (hst : StAt h k c p) (hi : i < npC c) (hn : npC c ≤ 6) : Call X (d + 1) 0 0 M_St_angleOf [.ref (k + 1), .int (nI i)] h (Ret (.int (nI (angN p i))) h) := by
  show Run X (d + 1) 0 0 M_St_angleOf 0 [some (.ref (k + 1)), some (.int (nI i))] [] h _
  obtain ⟨ft, fw, ke, h0, h1, h2, hv⟩ := hst
  refine Run.iload_n d_St_angleOf_0 rfl ?_
  refine Run.bipush (v := nI 6) d_St_angleOf_1 bp_6 ?_
  refine Run.S2r d_St_angleOf_3 lk_St_35 cm_PM_isBelow st_PM_isBelow (Nat.le_of_ble_eq_true rfl) (Nat.le_of_ble_eq_true rfl) (c_PM_isBelow) ?_
  first | refine Run.if_eq_b d_St_angleOf_6 (fun c6 => ?_) (fun c6 => ?_) | refine Run.if_eq_n d_St_angleOf_6 (by omega) (fun c6 => ?_) (fun c6 => ?_) | refine Run.if_eq d_St_angleOf_6 (fun c6 => ?_) (fun c6 => ?_)
  · simp [nI_pos' (show i < 2 ^ 31 by omega), nI_ltI (show i < 2 ^ 31 by omega) (show 6 < 2 ^ 31 by omega), show i < 6 by omega] at c6
  · refine Run.aload_n d_St_angleOf_9 rfl ?_
    refine Run.getf d_St_angleOf_10 fl_St_9 (by first | rfl | assumption) (by rfl) ?_
    refine Run.iload_n d_St_angleOf_13 rfl ?_
    refine Run.iald_n d_St_angleOf_14 (by first | rfl | assumption) (by omega) (by omega) ?_
    rw [(hv i hi).1]
    refine Run.aload_n d_St_angleOf_15 rfl ?_
    refine Run.getf d_St_angleOf_16 fl_St_25 (by first | rfl | assumption) (by rfl) ?_
    first | refine Run.iadd_n d_St_angleOf_19 ?_ | refine Run.iadd d_St_angleOf_19 ?_
    refine Run.S1r d_St_angleOf_20 lk_St_39 cm_PM_byEight st_PM_byEight (Nat.le_of_ble_eq_true rfl) (Nat.le_of_ble_eq_true rfl) (c_PM_byEight) ?_
    refine Run.goto d_St_angleOf_23 ?_
    refine Run.iret d_St_angleOf_27 rfl rfl ?_
    exact ret_n (by rw [m8_nI]; rfl)
theorem c_PM_showsAfter {i j : Nat} {x : Int32} (hc : coOK c) (hp : pgOK c p) (ht : TlAt h c) (hst : StAt h k c p) (hi : i < npC c) (hj : j < 100) : Call X (d + 4) 0 0 M_PM_showsAfter [.ref 1, .ref (k + 1), .int (nI i), .int (nI j), .int x] h (Ret (.int (bI (decide (j < nhC c) && sh c i j ((angN p i + m8 x) % 8)))) h) := by
  show Run X (d + 4) 0 0 M_PM_showsAfter 0 [some (.ref 1), some (.ref (k + 1)), some (.int (nI i)), some (.int (nI j)), some (.int x)] [] h _
  obtain ⟨kt, kd, sd, h0, hco⟩ := ht
  have hco' := hco
  have hst' := hst
  obtain ⟨fhk, fpt, fan, fkd, fhd, li, g0, -⟩ := hco'
  obtain ⟨ft, fw, ke, g1, -⟩ := hst'
  have b2 := hc.2.1
  refine Run.aload_n d_PM_showsAfter_0 rfl ?_
  refine Run.getf d_PM_showsAfter_1 fl_PM_19 (by first | rfl | assumption) (by rfl) ?_
  refine Run.iload_n d_PM_showsAfter_4 rfl ?_
  refine Run.iload_n d_PM_showsAfter_5 rfl ?_
  refine Run.aload_n d_PM_showsAfter_6 rfl ?_
  refine Run.iload_n d_PM_showsAfter_7 rfl ?_
  refine Run.V1r d_PM_showsAfter_8 lk_PM_151 cm_St_angleOf iv_St_angleOf rfl (by first | rfl | assumption) (Nat.le_of_ble_eq_true rfl) (Nat.le_of_ble_eq_true rfl) (c_St_angleOf hp hst hi b2) ?_
  refine Run.iload d_PM_showsAfter_11 rfl ?_
  first | refine Run.iadd_n d_PM_showsAfter_13 ?_ | refine Run.iadd d_PM_showsAfter_13 ?_
  refine Run.V3r d_PM_showsAfter_14 lk_PM_162 cm_Co_showsAt iv_Co_showsAt rfl (by first | rfl | assumption) (Nat.le_of_ble_eq_true rfl) (Nat.le_of_ble_eq_true rfl) (c_Co_showsAt hc hco (by omega) hj) ?_
  refine Run.iret d_PM_showsAfter_17 rfl (by first | exact bI_nar _ | decide +kernel) ?_
  exact ret_b (by rw [m8_add, m8_nI, decide_eq_true hi, Bool.true_and, angN, Nat.mod_mod])
theorem c_PM_partsSeen {j n : Nat} (hc : coOK c) (hp : pgOK c p) (ht : TlAt h c) (hst : StAt h k c p) (hj : j < nhC c) (hn : n < 1000) : Call X (d + 5) 0 0 M_PM_partsSeen [.ref 1, .ref (k + 1), .int (nI j), .int (nI n)] h (Ret (.int (nI (seenN c (hourN p n) j))) h) := by
  show Run X (d + 5) 0 0 M_PM_partsSeen 0 [some (.ref 1), some (.ref (k + 1)), some (.int (nI j)), some (.int (nI n)), none, none] [] h _
  have ht' := ht
  obtain ⟨kt, kd, sd, h0, hco⟩ := ht'
  obtain ⟨fhk, fpt, fan, fkd, fhd, li, g0, g1, g2, g3, g4, g5, hv1, hv2⟩ := hco
  have hst' := hst
  obtain ⟨ft, fw, ke, s0, s1, s2, hw⟩ := hst'
  obtain ⟨b1, b2, b3, b4⟩ := id hc
  refine Run.iconst (v := nI 0) d_PM_partsSeen_0 ic_0 ?_
  refine Run.istore d_PM_partsSeen_1 rfl rfl ?_
  show Run _ _ _ _ _ _ [_, _, _, _, _, _] _ _ _
  refine Run.iconst (v := nI 0) d_PM_partsSeen_3 ic_0 ?_
  refine Run.istore d_PM_partsSeen_4 rfl rfl ?_
  show Run _ _ _ _ _ _ [_, _, _, _, _, _] _ _ _
  refine upto (npC c) (fun i => Run X (d + 5) 0 0 M_PM_partsSeen 6 [some (.ref 1), some (.ref (k + 1)), some (.int (nI j)), some (.int (nI n)), some (.int (nI (itN (seenF c (hourN p n) j) 0 i))), some (.int (nI i))] [] h _) ?_ 0 (Nat.zero_le _)
  intro i hi ih
  have hpw : i < npC c → pgW p i < nhC c := fun q => (hp.2.2 i q).2
  refine Run.iload d_PM_partsSeen_6 rfl ?_
  refine Run.aload_n d_PM_partsSeen_8 rfl ?_
  refine Run.getf d_PM_partsSeen_9 fl_PM_19 (by first | rfl | assumption) (by rfl) ?_
  refine Run.getf d_PM_partsSeen_12 fl_PM_101 (by first | rfl | assumption) (by rfl) ?_
  first | refine Run.icmp_ge_n d_PM_partsSeen_15 (by omega) (by omega) (fun c15 => ?_) (fun c15 => ?_) | refine Run.icmp_ge d_PM_partsSeen_15 (fun c15 => ?_) (fun c15 => ?_)
  · refine Run.iload d_PM_partsSeen_64 rfl ?_
    refine Run.iret d_PM_partsSeen_66 rfl rfl ?_
    exact ret_n (by rw [show i = npC c by omega]; rfl)
  · refine Run.aload_n d_PM_partsSeen_18 rfl ?_
    refine Run.getf d_PM_partsSeen_19 fl_PM_148 (by first | rfl | assumption) (by rfl) ?_
    refine Run.iload d_PM_partsSeen_22 rfl ?_
    refine Run.iald_n d_PM_partsSeen_24 (by first | rfl | assumption) (by omega) (by omega) ?_
    rw [(hw i c15).2]
    refine Run.iload_n d_PM_partsSeen_25 rfl ?_
    have w1 := hpw c15
    first | refine Run.icmp_ne_n d_PM_partsSeen_26 (by omega) (by omega) (fun c26 => ?_) (fun c26 => ?_) | refine Run.icmp_ne d_PM_partsSeen_26 (fun c26 => ?_) (fun c26 => ?_)
    · first | refine Run.iinc_n d_PM_partsSeen_58 ic_1 rfl rfl ?_ | refine Run.iinc d_PM_partsSeen_58 rfl rfl rfl ?_
      show Run _ _ _ _ _ _ [_, _, _, _, _, _] _ _ _
      refine Run.goto d_PM_partsSeen_61 ?_
      first
      | (refine run_cg ?_ (ih c15); simp [itN, seenF, pgW_hour, angN_hour, c26]; done)
      | (refine run_cg ?_ (ih c15); simp [hj] at c38; simp [itN, seenF, pgW_hour, angN_hour, c26, c38]; done)
    · refine Run.aload_n d_PM_partsSeen_29 rfl ?_
      refine Run.aload_n d_PM_partsSeen_30 rfl ?_
      refine Run.iload d_PM_partsSeen_31 rfl ?_
      refine Run.iload_n d_PM_partsSeen_33 rfl ?_
      refine Run.iload_n d_PM_partsSeen_34 rfl ?_
      refine Run.V4r d_PM_partsSeen_35 lk_PM_154 cm_PM_showsAfter iv_PM_showsAfter rfl (by first | rfl | assumption) (Nat.le_of_ble_eq_true rfl) (Nat.le_of_ble_eq_true rfl) (c_PM_showsAfter hc hp ht hst c15 (by omega)) ?_
      first | refine Run.if_eq_b d_PM_partsSeen_38 (fun c38 => ?_) (fun c38 => ?_) | refine Run.if_eq_n d_PM_partsSeen_38 (by omega) (fun c38 => ?_) (fun c38 => ?_) | refine Run.if_eq d_PM_partsSeen_38 (fun c38 => ?_) (fun c38 => ?_)
      · first | refine Run.iinc_n d_PM_partsSeen_58 ic_1 rfl rfl ?_ | refine Run.iinc d_PM_partsSeen_58 rfl rfl rfl ?_
        show Run _ _ _ _ _ _ [_, _, _, _, _, _] _ _ _
        refine Run.goto d_PM_partsSeen_61 ?_
        first
        | (refine run_cg ?_ (ih c15); simp [itN, seenF, pgW_hour, angN_hour, c26]; done)
        | (refine run_cg ?_ (ih c15); simp [hj] at c38; simp [itN, seenF, pgW_hour, angN_hour, c26, c38]; done)
      · refine Run.iload d_PM_partsSeen_41 rfl ?_
        refine Run.iconst (v := nI 1) d_PM_partsSeen_43 ic_1 ?_
        refine Run.aload_n d_PM_partsSeen_44 rfl ?_
        refine Run.getf d_PM_partsSeen_45 fl_PM_19 (by first | rfl | assumption) (by rfl) ?_
        refine Run.getf d_PM_partsSeen_48 fl_PM_136 (by first | rfl | assumption) (by rfl) ?_
        refine Run.iload d_PM_partsSeen_51 rfl ?_
        refine Run.iald_n d_PM_partsSeen_53 (by first | rfl | assumption) (by omega) (by omega) ?_
        rw [(hv2 i c15).1]
        have w3 : 2 ^ ptC c i < 2 ^ 5 := Nat.pow_lt_pow_right (by omega) (b4 i c15).1
        have w2 := (b4 i c15).1
        first | refine Run.ishl_n d_PM_partsSeen_54 (by omega) (by omega) ?_ | refine Run.ishl d_PM_partsSeen_54 ?_
        first | refine Run.ior_n d_PM_partsSeen_55 ?_ | refine Run.ior d_PM_partsSeen_55 ?_
        refine Run.istore d_PM_partsSeen_56 rfl rfl ?_
        show Run _ _ _ _ _ _ [_, _, _, _, _, _] _ _ _
        first | refine Run.iinc_n d_PM_partsSeen_58 ic_1 rfl rfl ?_ | refine Run.iinc d_PM_partsSeen_58 rfl rfl rfl ?_
        show Run _ _ _ _ _ _ [_, _, _, _, _, _] _ _ _
        refine Run.goto d_PM_partsSeen_61 ?_
        first
        | (refine run_cg ?_ (ih c15); simp [itN, seenF, pgW_hour, angN_hour, c26]; done)
        | (refine run_cg ?_ (ih c15); simp [hj] at c38; simp [itN, seenF, pgW_hour, angN_hour, c26, c38]; done)
theorem hourN_0 {p : PG} (hp : pgOK c p) : hourN p 0 = p := by
  obtain ⟨t, w, l, hh⟩ := p
  have : l < 8 := hp.1
  simp [hourN, pgL, pgH]
  omega
theorem c_PM_whoSeesHerLook (hc : coOK c) (hp : pgOK c p) (ht : TlAt h c) (hst : StAt h k c p) : Call X (d + 6) 0 0 M_PM_whoSeesHerLook [.ref 1, .ref (k + 1)] h (Ret (.int (nI (lookN c p))) h) := by
  show Run X (d + 6) 0 0 M_PM_whoSeesHerLook 0 [some (.ref 1), some (.ref (k + 1)), none, none] [] h _
  have ht' := ht
  obtain ⟨kt, kd, sd, h0, hco⟩ := ht'
  obtain ⟨fhk, fpt, fan, fkd, fhd, li, g0, g1, g2, g3, g4, g5, hv1, hv2⟩ := hco
  obtain ⟨b1, b2, b3, b4⟩ := id hc
  refine Run.iconst (v := nI 0) d_PM_whoSeesHerLook_0 ic_0 ?_
  refine Run.istore_n d_PM_whoSeesHerLook_1 rfl rfl ?_
  show Run _ _ _ _ _ _ [_, _, _, _] _ _ _
  refine Run.iconst (v := nI 0) d_PM_whoSeesHerLook_2 ic_0 ?_
  refine Run.istore_n d_PM_whoSeesHerLook_3 rfl rfl ?_
  show Run _ _ _ _ _ _ [_, _, _, _] _ _ _
  refine upto (nhC c) (fun i => Run X (d + 6) 0 0 M_PM_whoSeesHerLook 4 [some (.ref 1), some (.ref (k + 1)), some (.int (nI (itN (lookF c p) 0 i))), some (.int (nI i))] [] h _) ?_ 0 (Nat.zero_le _)
  intro i hi ih
  have w1 := seenN_lt hc p i
  refine Run.iload_n d_PM_whoSeesHerLook_4 rfl ?_
  refine Run.aload_n d_PM_whoSeesHerLook_5 rfl ?_
  refine Run.getf d_PM_whoSeesHerLook_6 fl_PM_19 (by first | rfl | assumption) (by rfl) ?_
  refine Run.getf d_PM_whoSeesHerLook_9 fl_PM_98 (by first | rfl | assumption) (by rfl) ?_
  first | refine Run.icmp_ge_n d_PM_whoSeesHerLook_12 (by omega) (by omega) (fun c12 => ?_) (fun c12 => ?_) | refine Run.icmp_ge d_PM_whoSeesHerLook_12 (fun c12 => ?_) (fun c12 => ?_)
  · refine Run.iload_n d_PM_whoSeesHerLook_41 rfl ?_
    refine Run.iret d_PM_whoSeesHerLook_42 rfl rfl ?_
    exact ret_n (by rw [show i = nhC c by omega]; rfl)
  · refine Run.aload_n d_PM_whoSeesHerLook_15 rfl ?_
    refine Run.aload_n d_PM_whoSeesHerLook_16 rfl ?_
    refine Run.iload_n d_PM_whoSeesHerLook_17 rfl ?_
    refine Run.iconst (v := nI 0) d_PM_whoSeesHerLook_18 ic_0 ?_
    refine Run.V3r d_PM_whoSeesHerLook_19 lk_PM_129 cm_PM_partsSeen iv_PM_partsSeen rfl (by first | rfl | assumption) (Nat.le_of_ble_eq_true rfl) (Nat.le_of_ble_eq_true rfl) (c_PM_partsSeen hc hp ht hst c12 (by omega)) ?_
    rw [hourN_0 hp]
    refine Run.iconst (v := nI 2) d_PM_whoSeesHerLook_22 ic_2 ?_
    refine Run.S2r d_PM_whoSeesHerLook_23 lk_PM_193 cm_PM_hasBit st_PM_hasBit (Nat.le_of_ble_eq_true rfl) (Nat.le_of_ble_eq_true rfl) (c_PM_hasBit (by omega) (by omega)) ?_
    first | refine Run.if_eq_b d_PM_whoSeesHerLook_26 (fun c26 => ?_) (fun c26 => ?_) | refine Run.if_eq_n d_PM_whoSeesHerLook_26 (by omega) (fun c26 => ?_) (fun c26 => ?_) | refine Run.if_eq d_PM_whoSeesHerLook_26 (fun c26 => ?_) (fun c26 => ?_)
    · first | refine Run.iinc_n d_PM_whoSeesHerLook_35 ic_1 rfl rfl ?_ | refine Run.iinc d_PM_whoSeesHerLook_35 rfl rfl rfl ?_
      show Run _ _ _ _ _ _ [_, _, _, _] _ _ _
      refine Run.goto d_PM_whoSeesHerLook_38 ?_
      exact run_cg (by simp [itN, lookF, c26]) (ih c12)
    · refine Run.iload_n d_PM_whoSeesHerLook_29 rfl ?_
      refine Run.iconst (v := nI 1) d_PM_whoSeesHerLook_30 ic_1 ?_
      refine Run.iload_n d_PM_whoSeesHerLook_31 rfl ?_
      have w3 : 2 ^ i < 2 ^ 4 := Nat.pow_lt_pow_right (by omega) (by omega)
      first | refine Run.ishl_n d_PM_whoSeesHerLook_32 (by omega) (by omega) ?_ | refine Run.ishl d_PM_whoSeesHerLook_32 ?_
      first | refine Run.ior_n d_PM_whoSeesHerLook_33 ?_ | refine Run.ior d_PM_whoSeesHerLook_33 ?_
      refine Run.istore_n d_PM_whoSeesHerLook_34 rfl rfl ?_
      show Run _ _ _ _ _ _ [_, _, _, _] _ _ _
      first | refine Run.iinc_n d_PM_whoSeesHerLook_35 ic_1 rfl rfl ?_ | refine Run.iinc d_PM_whoSeesHerLook_35 rfl rfl rfl ?_
      show Run _ _ _ _ _ _ [_, _, _, _] _ _ _
      refine Run.goto d_PM_whoSeesHerLook_38 ?_
      exact run_cg (by simp [itN, lookF, c26]) (ih c12)
theorem c_PM_partsSeenTogether (hc : coOK c) (hp : pgOK c p) (ht : TlAt h c) (hst : StAt h 15 c p) : Call X (d + 6) 0 0 M_PM_partsSeenTogether [.ref 1] h (Ret (.int (nI (togN c p))) h) := by
  show Run X (d + 6) 0 0 M_PM_partsSeenTogether 0 [some (.ref 1), none, none] [] h _
  have ht' := ht
  obtain ⟨kt, kd, sd, h0, hco⟩ := ht'
  obtain ⟨fhk, fpt, fan, fkd, fhd, li, g0, g1, g2, g3, g4, g5, hv1, hv2⟩ := hco
  obtain ⟨b1, b2, b3, b4⟩ := id hc
  refine Run.iconst (v := nI 0) d_PM_partsSeenTogether_0 ic_0 ?_
  refine Run.istore_n d_PM_partsSeenTogether_1 rfl rfl ?_
  show Run _ _ _ _ _ _ [_, _, _] _ _ _
  refine Run.iconst (v := nI 0) d_PM_partsSeenTogether_2 ic_0 ?_
  refine Run.istore_n d_PM_partsSeenTogether_3 rfl rfl ?_
  show Run _ _ _ _ _ _ [_, _, _] _ _ _
  refine upto (nhC c) (fun i => Run X (d + 6) 0 0 M_PM_partsSeenTogether 4 [some (.ref 1), some (.int (nI (itN (togF c p) 0 i))), some (.int (nI i))] [] h _) ?_ 0 (Nat.zero_le _)
  intro i hi ih
  refine Run.iload_n d_PM_partsSeenTogether_4 rfl ?_
  refine Run.aload_n d_PM_partsSeenTogether_5 rfl ?_
  refine Run.getf d_PM_partsSeenTogether_6 fl_PM_19 (by first | rfl | assumption) (by rfl) ?_
  refine Run.getf d_PM_partsSeenTogether_9 fl_PM_98 (by first | rfl | assumption) (by rfl) ?_
  first | refine Run.icmp_ge_n d_PM_partsSeenTogether_12 (by omega) (by omega) (fun c12 => ?_) (fun c12 => ?_) | refine Run.icmp_ge d_PM_partsSeenTogether_12 (fun c12 => ?_) (fun c12 => ?_)
  · refine Run.iload_n d_PM_partsSeenTogether_34 rfl ?_
    refine Run.iret d_PM_partsSeenTogether_35 rfl rfl ?_
    exact ret_n (by rw [show i = nhC c by omega]; rfl)
  · refine Run.iload_n d_PM_partsSeenTogether_15 rfl ?_
    refine Run.aload_n d_PM_partsSeenTogether_16 rfl ?_
    refine Run.aload_n d_PM_partsSeenTogether_17 rfl ?_
    refine Run.getf d_PM_partsSeenTogether_18 fl_PM_29 (by first | rfl | assumption) (by rfl) ?_
    refine Run.iload_n d_PM_partsSeenTogether_21 rfl ?_
    refine Run.iconst (v := nI 0) d_PM_partsSeenTogether_22 ic_0 ?_
    refine Run.V3r d_PM_partsSeenTogether_23 lk_PM_129 cm_PM_partsSeen iv_PM_partsSeen rfl (by first | rfl | assumption) (Nat.le_of_ble_eq_true rfl) (Nat.le_of_ble_eq_true rfl) (c_PM_partsSeen hc hp ht hst c12 (by omega)) ?_
    rw [hourN_0 hp]
    first | refine Run.ior_n d_PM_partsSeenTogether_26 ?_ | refine Run.ior d_PM_partsSeenTogether_26 ?_
    refine Run.istore_n d_PM_partsSeenTogether_27 rfl rfl ?_
    show Run _ _ _ _ _ _ [_, _, _] _ _ _
    first | refine Run.iinc_n d_PM_partsSeenTogether_28 ic_1 rfl rfl ?_ | refine Run.iinc d_PM_partsSeenTogether_28 rfl rfl rfl ?_
    show Run _ _ _ _ _ _ [_, _, _] _ _ _
    refine Run.goto d_PM_partsSeenTogether_31 ?_
    exact run_cg (by simp [itN, togF]) (ih c12)
end SEEN
end
section
/-! ===== pieces held, tilts, finds, hours (the class) ===== -/
def oI (o : Option Nat) : Int32 := match o with
  | none => -9
  | some k => nI k
theorem nI_n9 {b : Nat} (hb : b < 2 ^ 31) : ¬ nI b = -9 := by
  intro q
  have h1 := nI_pos hb
  rw [q] at h1
  exact h1 (by decide)
/-- the first below e that is so -/
def fstN (P : Nat → Bool) : Nat → Option Nat
  | 0 => none
  | n + 1 => match fstN P n with
    | some k => some k
    | none => if P n = true then some n else none
theorem fstN_s {P : Nat → Bool} {i : Nat} (h : fstN P i = none) (hp : P i = true) : ∀ e, i < e → fstN P e = some i := by
  intro e he
  induction e with
  | zero => omega
  | succ e ih =>
    by_cases hie : i = e
    · subst hie
      simp [fstN, h, hp]
    · simp [fstN, ih (by omega)]
theorem fstN_n {P : Nat → Bool} {i : Nat} (h : fstN P i = none) (hp : P i = false) : fstN P (i + 1) = none := by
  simp [fstN, h, hp]
theorem fstN_lt {P : Nat → Bool} {e k : Nat} (h : fstN P e = some k) : k < e ∧ P k = true ∧ fstN P k = none := by
  induction e with
  | zero => simp [fstN] at h
  | succ e ih =>
    simp only [fstN] at h
    cases hf : fstN P e with
    | some a =>
      rw [hf] at h
      cases h
      have := ih hf
      exact ⟨by omega, this.2⟩
    | none =>
      rw [hf] at h
      dsimp only at h
      split at h
      · cases h
        rename_i hp
        exact ⟨by omega, hp, hf⟩
      · cases h
def heldF (p : PG) (j : Nat) : Nat → Nat → Nat := fun i acc => if pgW p i = j then acc ||| 2 ^ i else acc
def heldN (c : CA) (p : PG) (j : Nat) : Nat := itN (heldF p j) 0 (npC c)
def hptF (c : CA) (p : PG) (j : Nat) : Nat → Nat → Nat := fun i acc => if pgW p i = j then acc ||| 2 ^ ptC c i else acc
def hptN (c : CA) (p : PG) (j : Nat) : Nat := itN (hptF c p j) 0 (npC c)
def cntF (c : CA) (p : PG) (t : Nat) : Nat → Nat → Nat := fun i acc => if ptC c i = t ∧ sh c i (pgW p i) (angN p i) = true then acc + 1 else acc
def cntN (c : CA) (p : PG) (t : Nat) : Nat := itN (cntF c p t) 0 (npC c)
def tiltP (c : CA) (p : PG) (i j : Nat) : Nat → Bool := fun n => sh c i j ((angN p i + n) % 8) || sh c i j ((angN p i + (8 - n)) % 8)
def tiltN (c : CA) (p : PG) (i j : Nat) : Option Nat := fstN (tiltP c p i j) 5
def findF (c : CA) (p : PG) (j t : Nat) : Nat → Option Nat → Option Nat := fun i acc => if pgW p i = j ∧ ptC c i = t then (match tiltN c p i j with
  | none => acc
  | some b => match acc with
    | none => some b
    | some a => if b < a then some b else some a) else acc
def findN (c : CA) (p : PG) (j t : Nat) : Option Nat := itN (findF c p j t) none (npC c)
def whenP (c : CA) (p : PG) (j t : Nat) : Nat → Bool := fun n => (seenN c (hourN p n) j).testBit t
def whenN (c : CA) (p : PG) (j t : Nat) : Option Nat := fstN (whenP c p j t) 8
theorem hptN_lt {c : CA} (hc : coOK c) (p : PG) (j : Nat) : hptN c p j < 32 := by
  refine itN_inv (fun x => x < 32) (by decide) _ (fun i x hi hx => ?_)
  unfold hptF
  split
  · have h1 := (hc.2.2.2 i hi).1
    have h2 : 2 ^ ptC c i < 2 ^ 5 := Nat.pow_lt_pow_right (by omega) h1
    exact Nat.or_lt_two_pow (n := 5) hx h2
  · exact hx
theorem cntN_le (c : CA) (p : PG) (t n : Nat) : itN (cntF c p t) 0 n ≤ n := by
  induction n with
  | zero => exact Nat.le_refl _
  | succ n ih =>
    show cntF c p t n (itN (cntF c p t) 0 n) ≤ n + 1
    generalize itN (cntF c p t) 0 n = z at ih ⊢
    unfold cntF
    split <;> omega
theorem tiltN_lt {c : CA} {p : PG} {i j b : Nat} (h : tiltN c p i j = some b) : b < 5 := (fstN_lt h).1
theorem findN_lt {c : CA} {p : PG} {j t : Nat} (n b : Nat) (h : itN (findF c p j t) none n = some b) : b < 5 := by
  have key : ∀ b, itN (findF c p j t) none n = some b → b < 5 := by
    refine itN_inv (fun x : Option Nat => ∀ b, x = some b → b < 5) (fun b q => by cases q) _ (fun i x hi hx => ?_)
    unfold findF
    intro b hb
    split at hb
    · cases ht : tiltN c p i j with
      | none => rw [ht] at hb; exact hx b hb
      | some y =>
        rw [ht] at hb
        have hy := tiltN_lt ht
        cases x with
        | none => cases hb; exact hy
        | some a =>
          dsimp only at hb
          split at hb
          · cases hb; exact hy
          · cases hb; exact hx _ rfl
    · exact hx b hb
  exact key b h
section FINDS
variable {X : Nat × (Nat → Int32)} {d : Nat} {h : AH} {c : CA} {p : PG} {k : Nat}
theorem c_PM_piecesOf {j : Nat} (hc : coOK c) (hp : pgOK c p) (ht : TlAt h c) (hst : StAt h 15 c p) (hj : j < 100) : Call X d 0 0 M_PM_piecesOf [.ref 1, .int (nI j)] h (Ret (.int (nI (heldN c p j))) h) := by
  show Run X d 0 0 M_PM_piecesOf 0 [some (.ref 1), some (.int (nI j)), none, none] [] h _
  obtain ⟨kt, kd, sd, h0, hco⟩ := id ht
  obtain ⟨fhk, fpt, fan, fkd, fhd, li, g0, g1, g2, g3, g4, g5, hv1, hv2⟩ := hco
  obtain ⟨ft, fw, ke, s0, s1, s2, hw⟩ := id hst
  obtain ⟨b1, b2, b3, b4⟩ := id hc
  refine Run.iconst (v := nI 0) d_PM_piecesOf_0 ic_0 ?_
  refine Run.istore_n d_PM_piecesOf_1 rfl rfl ?_
  show Run _ _ _ _ _ _ [_, _, _, _] _ _ _
  refine Run.iconst (v := nI 0) d_PM_piecesOf_2 ic_0 ?_
  refine Run.istore_n d_PM_piecesOf_3 rfl rfl ?_
  show Run _ _ _ _ _ _ [_, _, _, _] _ _ _
  refine upto (npC c) (fun i => Run X d 0 0 M_PM_piecesOf 4 [some (.ref 1), some (.int (nI j)), some (.int (nI (itN (heldF p j) 0 i))), some (.int (nI i))] [] h _) ?_ 0 (Nat.zero_le _)
  intro i hi ih
  refine Run.iload_n d_PM_piecesOf_4 rfl ?_
  refine Run.aload_n d_PM_piecesOf_5 rfl ?_
  refine Run.getf d_PM_piecesOf_6 fl_PM_19 (by first | rfl | assumption) (by rfl) ?_
  refine Run.getf d_PM_piecesOf_9 fl_PM_101 (by first | rfl | assumption) (by rfl) ?_
  first | refine Run.icmp_ge_n d_PM_piecesOf_12 (by omega) (by omega) (fun c12 => ?_) (fun c12 => ?_) | refine Run.icmp_ge d_PM_piecesOf_12 (fun c12 => ?_) (fun c12 => ?_)
  · refine Run.iload_n d_PM_piecesOf_40 rfl ?_
    refine Run.iret d_PM_piecesOf_41 rfl rfl ?_
    exact ret_n (by rw [show i = npC c by omega]; rfl)
  · refine Run.aload_n d_PM_piecesOf_15 rfl ?_
    refine Run.getf d_PM_piecesOf_16 fl_PM_29 (by first | rfl | assumption) (by rfl) ?_
    refine Run.getf d_PM_piecesOf_19 fl_PM_148 (by first | rfl | assumption) (by rfl) ?_
    refine Run.iload_n d_PM_piecesOf_22 rfl ?_
    refine Run.iald_n d_PM_piecesOf_23 (by first | rfl | assumption) (by omega) (by omega) ?_
    rw [(hw i c12).2]
    have w1 := (hp.2.2 i c12).2
    refine Run.iload_n d_PM_piecesOf_24 rfl ?_
    first | refine Run.icmp_ne_n d_PM_piecesOf_25 (by omega) (by omega) (fun c25 => ?_) (fun c25 => ?_) | refine Run.icmp_ne d_PM_piecesOf_25 (fun c25 => ?_) (fun c25 => ?_)
    · first | refine Run.iinc_n d_PM_piecesOf_34 ic_1 rfl rfl ?_ | refine Run.iinc d_PM_piecesOf_34 rfl rfl rfl ?_
      show Run _ _ _ _ _ _ [_, _, _, _] _ _ _
      refine Run.goto d_PM_piecesOf_37 ?_
      exact run_cg (by simp [itN, heldF, c25]) (ih c12)
    · refine Run.iload_n d_PM_piecesOf_28 rfl ?_
      refine Run.iconst (v := nI 1) d_PM_piecesOf_29 ic_1 ?_
      refine Run.iload_n d_PM_piecesOf_30 rfl ?_
      have w3 : 2 ^ i < 2 ^ 6 := Nat.pow_lt_pow_right (by omega) (by omega)
      first | refine Run.ishl_n d_PM_piecesOf_31 (by omega) (by omega) ?_ | refine Run.ishl d_PM_piecesOf_31 ?_
      first | refine Run.ior_n d_PM_piecesOf_32 ?_ | refine Run.ior d_PM_piecesOf_32 ?_
      refine Run.istore_n d_PM_piecesOf_33 rfl rfl ?_
      show Run _ _ _ _ _ _ [_, _, _, _] _ _ _
      first | refine Run.iinc_n d_PM_piecesOf_34 ic_1 rfl rfl ?_ | refine Run.iinc d_PM_piecesOf_34 rfl rfl rfl ?_
      show Run _ _ _ _ _ _ [_, _, _, _] _ _ _
      refine Run.goto d_PM_piecesOf_37 ?_
      exact run_cg (by simp [itN, heldF, c25]) (ih c12)
theorem c_PM_partsHeld {j : Nat} (hc : coOK c) (hp : pgOK c p) (ht : TlAt h c) (hst : StAt h 15 c p) (hj : j < 100) : Call X d 0 0 M_PM_partsHeld [.ref 1, .int (nI j)] h (Ret (.int (nI (hptN c p j))) h) := by
  show Run X d 0 0 M_PM_partsHeld 0 [some (.ref 1), some (.int (nI j)), none, none] [] h _
  obtain ⟨kt, kd, sd, h0, hco⟩ := id ht
  obtain ⟨fhk, fpt, fan, fkd, fhd, li, g0, g1, g2, g3, g4, g5, hv1, hv2⟩ := hco
  obtain ⟨ft, fw, ke, s0, s1, s2, hw⟩ := id hst
  obtain ⟨b1, b2, b3, b4⟩ := id hc
  refine Run.iconst (v := nI 0) d_PM_partsHeld_0 ic_0 ?_
  refine Run.istore_n d_PM_partsHeld_1 rfl rfl ?_
  show Run _ _ _ _ _ _ [_, _, _, _] _ _ _
  refine Run.iconst (v := nI 0) d_PM_partsHeld_2 ic_0 ?_
  refine Run.istore_n d_PM_partsHeld_3 rfl rfl ?_
  show Run _ _ _ _ _ _ [_, _, _, _] _ _ _
  refine upto (npC c) (fun i => Run X d 0 0 M_PM_partsHeld 4 [some (.ref 1), some (.int (nI j)), some (.int (nI (itN (hptF c p j) 0 i))), some (.int (nI i))] [] h _) ?_ 0 (Nat.zero_le _)
  intro i hi ih
  refine Run.iload_n d_PM_partsHeld_4 rfl ?_
  refine Run.aload_n d_PM_partsHeld_5 rfl ?_
  refine Run.getf d_PM_partsHeld_6 fl_PM_19 (by first | rfl | assumption) (by rfl) ?_
  refine Run.getf d_PM_partsHeld_9 fl_PM_101 (by first | rfl | assumption) (by rfl) ?_
  first | refine Run.icmp_ge_n d_PM_partsHeld_12 (by omega) (by omega) (fun c12 => ?_) (fun c12 => ?_) | refine Run.icmp_ge d_PM_partsHeld_12 (fun c12 => ?_) (fun c12 => ?_)
  · refine Run.iload_n d_PM_partsHeld_48 rfl ?_
    refine Run.iret d_PM_partsHeld_49 rfl rfl ?_
    exact ret_n (by rw [show i = npC c by omega]; rfl)
  · refine Run.aload_n d_PM_partsHeld_15 rfl ?_
    refine Run.getf d_PM_partsHeld_16 fl_PM_29 (by first | rfl | assumption) (by rfl) ?_
    refine Run.getf d_PM_partsHeld_19 fl_PM_148 (by first | rfl | assumption) (by rfl) ?_
    refine Run.iload_n d_PM_partsHeld_22 rfl ?_
    refine Run.iald_n d_PM_partsHeld_23 (by first | rfl | assumption) (by omega) (by omega) ?_
    rw [(hw i c12).2]
    have w1 := (hp.2.2 i c12).2
    refine Run.iload_n d_PM_partsHeld_24 rfl ?_
    first | refine Run.icmp_ne_n d_PM_partsHeld_25 (by omega) (by omega) (fun c25 => ?_) (fun c25 => ?_) | refine Run.icmp_ne d_PM_partsHeld_25 (fun c25 => ?_) (fun c25 => ?_)
    · first | refine Run.iinc_n d_PM_partsHeld_42 ic_1 rfl rfl ?_ | refine Run.iinc d_PM_partsHeld_42 rfl rfl rfl ?_
      show Run _ _ _ _ _ _ [_, _, _, _] _ _ _
      refine Run.goto d_PM_partsHeld_45 ?_
      exact run_cg (by simp [itN, hptF, c25]) (ih c12)
    · refine Run.iload_n d_PM_partsHeld_28 rfl ?_
      refine Run.iconst (v := nI 1) d_PM_partsHeld_29 ic_1 ?_
      refine Run.aload_n d_PM_partsHeld_30 rfl ?_
      refine Run.getf d_PM_partsHeld_31 fl_PM_19 (by first | rfl | assumption) (by rfl) ?_
      refine Run.getf d_PM_partsHeld_34 fl_PM_136 (by first | rfl | assumption) (by rfl) ?_
      refine Run.iload_n d_PM_partsHeld_37 rfl ?_
      refine Run.iald_n d_PM_partsHeld_38 (by first | rfl | assumption) (by omega) (by omega) ?_
      rw [(hv2 i c12).1]
      have w2 := (b4 i c12).1
      have w3 : 2 ^ ptC c i < 2 ^ 5 := Nat.pow_lt_pow_right (by omega) w2
      first | refine Run.ishl_n d_PM_partsHeld_39 (by omega) (by omega) ?_ | refine Run.ishl d_PM_partsHeld_39 ?_
      first | refine Run.ior_n d_PM_partsHeld_40 ?_ | refine Run.ior d_PM_partsHeld_40 ?_
      refine Run.istore_n d_PM_partsHeld_41 rfl rfl ?_
      show Run _ _ _ _ _ _ [_, _, _, _] _ _ _
      first | refine Run.iinc_n d_PM_partsHeld_42 ic_1 rfl rfl ?_ | refine Run.iinc d_PM_partsHeld_42 rfl rfl rfl ?_
      show Run _ _ _ _ _ _ [_, _, _, _] _ _ _
      refine Run.goto d_PM_partsHeld_45 ?_
      exact run_cg (by simp [itN, hptF, c25]) (ih c12)
theorem c_PM_piecesThatShow {t : Nat} (hc : coOK c) (hp : pgOK c p) (ht : TlAt h c) (hst : StAt h 15 c p) (hj : t < 100) : Call X (d + 5) 0 0 M_PM_piecesThatShow [.ref 1, .int (nI t)] h (Ret (.int (nI (cntN c p t))) h) := by
  show Run X (d + 5) 0 0 M_PM_piecesThatShow 0 [some (.ref 1), some (.int (nI t)), none, none] [] h _
  obtain ⟨kt, kd, sd, h0, hco⟩ := id ht
  obtain ⟨fhk, fpt, fan, fkd, fhd, li, g0, g1, g2, g3, g4, g5, hv1, hv2⟩ := hco
  obtain ⟨ft, fw, ke, s0, s1, s2, hw⟩ := id hst
  obtain ⟨b1, b2, b3, b4⟩ := id hc
  refine Run.iconst (v := nI 0) d_PM_piecesThatShow_0 ic_0 ?_
  refine Run.istore_n d_PM_piecesThatShow_1 rfl rfl ?_
  show Run _ _ _ _ _ _ [_, _, _, _] _ _ _
  refine Run.iconst (v := nI 0) d_PM_piecesThatShow_2 ic_0 ?_
  refine Run.istore_n d_PM_piecesThatShow_3 rfl rfl ?_
  show Run _ _ _ _ _ _ [_, _, _, _] _ _ _
  refine upto (npC c) (fun i => Run X (d + 5) 0 0 M_PM_piecesThatShow 4 [some (.ref 1), some (.int (nI t)), some (.int (nI (itN (cntF c p t) 0 i))), some (.int (nI i))] [] h _) ?_ 0 (Nat.zero_le _)
  intro i hi ih
  refine Run.iload_n d_PM_piecesThatShow_4 rfl ?_
  refine Run.aload_n d_PM_piecesThatShow_5 rfl ?_
  refine Run.getf d_PM_piecesThatShow_6 fl_PM_19 (by first | rfl | assumption) (by rfl) ?_
  refine Run.getf d_PM_piecesThatShow_9 fl_PM_101 (by first | rfl | assumption) (by rfl) ?_
  first | refine Run.icmp_ge_n d_PM_piecesThatShow_12 (by omega) (by omega) (fun c12 => ?_) (fun c12 => ?_) | refine Run.icmp_ge d_PM_piecesThatShow_12 (fun c12 => ?_) (fun c12 => ?_)
  · refine Run.iload_n d_PM_piecesThatShow_59 rfl ?_
    refine Run.iret d_PM_piecesThatShow_60 rfl rfl ?_
    exact ret_n (by rw [show i = npC c by omega]; rfl)
  · refine Run.aload_n d_PM_piecesThatShow_15 rfl ?_
    refine Run.getf d_PM_piecesThatShow_16 fl_PM_19 (by first | rfl | assumption) (by rfl) ?_
    refine Run.getf d_PM_piecesThatShow_19 fl_PM_136 (by first | rfl | assumption) (by rfl) ?_
    refine Run.iload_n d_PM_piecesThatShow_22 rfl ?_
    refine Run.iald_n d_PM_piecesThatShow_23 (by first | rfl | assumption) (by omega) (by omega) ?_
    rw [(hv2 i c12).1]
    have w2 := (b4 i c12).1
    refine Run.iload_n d_PM_piecesThatShow_24 rfl ?_
    first | refine Run.icmp_ne_n d_PM_piecesThatShow_25 (by omega) (by omega) (fun c25 => ?_) (fun c25 => ?_) | refine Run.icmp_ne d_PM_piecesThatShow_25 (fun c25 => ?_) (fun c25 => ?_)
    · first | refine Run.iinc_n d_PM_piecesThatShow_53 ic_1 rfl rfl ?_ | refine Run.iinc d_PM_piecesThatShow_53 rfl rfl rfl ?_
      show Run _ _ _ _ _ _ [_, _, _, _] _ _ _
      refine Run.goto d_PM_piecesThatShow_56 ?_
      exact run_cg (by simp_all [itN, cntF, angN]) (ih c12)
    · refine Run.aload_n d_PM_piecesThatShow_28 rfl ?_
      refine Run.aload_n d_PM_piecesThatShow_29 rfl ?_
      refine Run.getf d_PM_piecesThatShow_30 fl_PM_29 (by first | rfl | assumption) (by rfl) ?_
      refine Run.iload_n d_PM_piecesThatShow_33 rfl ?_
      refine Run.aload_n d_PM_piecesThatShow_34 rfl ?_
      refine Run.getf d_PM_piecesThatShow_35 fl_PM_29 (by first | rfl | assumption) (by rfl) ?_
      refine Run.getf d_PM_piecesThatShow_38 fl_PM_148 (by first | rfl | assumption) (by rfl) ?_
      refine Run.iload_n d_PM_piecesThatShow_41 rfl ?_
      refine Run.iald_n d_PM_piecesThatShow_42 (by first | rfl | assumption) (by omega) (by omega) ?_
      rw [(hw i c12).2]
      have w1 := (hp.2.2 i c12).2
      refine Run.iconst (v := nI 0) d_PM_piecesThatShow_43 ic_0 ?_
      refine Run.V4r d_PM_piecesThatShow_44 lk_PM_154 cm_PM_showsAfter iv_PM_showsAfter rfl (by first | rfl | assumption) (Nat.le_of_ble_eq_true rfl) (Nat.le_of_ble_eq_true rfl) (c_PM_showsAfter hc hp ht hst c12 (by omega)) ?_
      rw [m8_nI, decide_eq_true w1, Bool.true_and]
      first | refine Run.if_eq_b d_PM_piecesThatShow_47 (fun c47 => ?_) (fun c47 => ?_) | refine Run.if_eq_n d_PM_piecesThatShow_47 (by omega) (fun c47 => ?_) (fun c47 => ?_) | refine Run.if_eq d_PM_piecesThatShow_47 (fun c47 => ?_) (fun c47 => ?_)
      · first | refine Run.iinc_n d_PM_piecesThatShow_53 ic_1 rfl rfl ?_ | refine Run.iinc d_PM_piecesThatShow_53 rfl rfl rfl ?_
        show Run _ _ _ _ _ _ [_, _, _, _] _ _ _
        refine Run.goto d_PM_piecesThatShow_56 ?_
        exact run_cg (by simp_all [itN, cntF, angN]) (ih c12)
      · first | refine Run.iinc_n d_PM_piecesThatShow_50 ic_1 rfl rfl ?_ | refine Run.iinc d_PM_piecesThatShow_50 rfl rfl rfl ?_
        show Run _ _ _ _ _ _ [_, _, _, _] _ _ _
        first | refine Run.iinc_n d_PM_piecesThatShow_53 ic_1 rfl rfl ?_ | refine Run.iinc d_PM_piecesThatShow_53 rfl rfl rfl ?_
        show Run _ _ _ _ _ _ [_, _, _, _] _ _ _
        refine Run.goto d_PM_piecesThatShow_56 ?_
        exact run_cg (by simp_all [itN, cntF, angN]) (ih c12)
theorem c_PM_fewestTilts {i j : Nat} (hc : coOK c) (hp : pgOK c p) (ht : TlAt h c) (hst : StAt h 15 c p) (hi : i < npC c) (hj : j < nhC c) : Call X (d + 5) 0 0 M_PM_fewestTilts [.ref 1, .int (nI i), .int (nI j)] h (Ret (.int (oI (tiltN c p i j))) h) := by
  show Run X (d + 5) 0 0 M_PM_fewestTilts 0 [some (.ref 1), some (.int (nI i)), some (.int (nI j)), none] [] h _
  obtain ⟨kt, kd, sd, h0, hco⟩ := id ht
  obtain ⟨ft, fw, ke, s0, s1, s2, hw⟩ := id hst
  have b1 := hc.1
  refine Run.iconst (v := nI 0) d_PM_fewestTilts_0 ic_0 ?_
  refine Run.istore_n d_PM_fewestTilts_1 rfl rfl ?_
  show Run _ _ _ _ _ _ [_, _, _, _] _ _ _
  refine upto 5 (fun n => fstN (tiltP c p i j) n = none → Run X (d + 5) 0 0 M_PM_fewestTilts 2 [some (.ref 1), some (.int (nI i)), some (.int (nI j)), some (.int (nI n))] [] h _) ?_ 0 (Nat.zero_le _) rfl
  intro n hn ih hf
  have e2 : n ≤ 4 → (angN p i + (8 - n % 8) % 8) % 8 = (angN p i + (8 - n)) % 8 := fun q => by omega
  have e1 : n ≤ 4 → n % 8 = n := fun q => by omega
  refine Run.iload_n d_PM_fewestTilts_2 rfl ?_
  refine Run.iconst (v := nI 4) d_PM_fewestTilts_3 ic_4 ?_
  first | refine Run.icmp_gt_n d_PM_fewestTilts_4 (by omega) (by omega) (fun c4 => ?_) (fun c4 => ?_) | refine Run.icmp_gt d_PM_fewestTilts_4 (fun c4 => ?_) (fun c4 => ?_)
  · refine Run.bipush (v := -9) d_PM_fewestTilts_44 bp_m9 ?_
    refine Run.iret d_PM_fewestTilts_46 rfl rfl ?_
    exact ret_i (by rw [tiltN, show 5 = n by omega, hf]; rfl)
  · refine Run.aload_n d_PM_fewestTilts_7 rfl ?_
    refine Run.aload_n d_PM_fewestTilts_8 rfl ?_
    refine Run.getf d_PM_fewestTilts_9 fl_PM_29 (by first | rfl | assumption) (by rfl) ?_
    refine Run.iload_n d_PM_fewestTilts_12 rfl ?_
    refine Run.iload_n d_PM_fewestTilts_13 rfl ?_
    refine Run.iload_n d_PM_fewestTilts_14 rfl ?_
    refine Run.V4r d_PM_fewestTilts_15 lk_PM_154 cm_PM_showsAfter iv_PM_showsAfter rfl (by first | rfl | assumption) (Nat.le_of_ble_eq_true rfl) (Nat.le_of_ble_eq_true rfl) (c_PM_showsAfter hc hp ht hst hi (by omega)) ?_
    rw [m8_nI, decide_eq_true hj, Bool.true_and, e1 c4]
    first | refine Run.if_ne_b d_PM_fewestTilts_18 (fun c18 => ?_) (fun c18 => ?_) | refine Run.if_ne_n d_PM_fewestTilts_18 (by omega) (fun c18 => ?_) (fun c18 => ?_) | refine Run.if_ne d_PM_fewestTilts_18 (fun c18 => ?_) (fun c18 => ?_)
    · refine Run.iload_n d_PM_fewestTilts_36 rfl ?_
      refine Run.iret d_PM_fewestTilts_37 rfl rfl ?_
      exact ret_i (by rw [tiltN, fstN_s hf (by simp [tiltP, *]) 5 (by omega)]; rfl)
    · refine Run.aload_n d_PM_fewestTilts_21 rfl ?_
      refine Run.aload_n d_PM_fewestTilts_22 rfl ?_
      refine Run.getf d_PM_fewestTilts_23 fl_PM_29 (by first | rfl | assumption) (by rfl) ?_
      refine Run.iload_n d_PM_fewestTilts_26 rfl ?_
      refine Run.iload_n d_PM_fewestTilts_27 rfl ?_
      refine Run.iload_n d_PM_fewestTilts_28 rfl ?_
      refine Run.ineg d_PM_fewestTilts_29 ?_
      refine Run.V4r d_PM_fewestTilts_30 lk_PM_154 cm_PM_showsAfter iv_PM_showsAfter rfl (by first | rfl | assumption) (Nat.le_of_ble_eq_true rfl) (Nat.le_of_ble_eq_true rfl) (c_PM_showsAfter hc hp ht hst hi (by omega)) ?_
      rw [m8_neg, m8_nI, decide_eq_true hj, Bool.true_and, e2 c4]
      first | refine Run.if_eq_b d_PM_fewestTilts_33 (fun c33 => ?_) (fun c33 => ?_) | refine Run.if_eq_n d_PM_fewestTilts_33 (by omega) (fun c33 => ?_) (fun c33 => ?_) | refine Run.if_eq d_PM_fewestTilts_33 (fun c33 => ?_) (fun c33 => ?_)
      · first | refine Run.iinc_n d_PM_fewestTilts_38 ic_1 rfl rfl ?_ | refine Run.iinc d_PM_fewestTilts_38 rfl rfl rfl ?_
        show Run _ _ _ _ _ _ [_, _, _, _] _ _ _
        refine Run.goto d_PM_fewestTilts_41 ?_
        exact ih (by omega) (fstN_n hf (by simp [tiltP, c18, c33]))
      · refine Run.iload_n d_PM_fewestTilts_36 rfl ?_
        refine Run.iret d_PM_fewestTilts_37 rfl rfl ?_
        exact ret_i (by rw [tiltN, fstN_s hf (by simp [tiltP, *]) 5 (by omega)]; rfl)
theorem c_PM_fewestTiltsToSee {j t : Nat} (hc : coOK c) (hp : pgOK c p) (ht : TlAt h c) (hst : StAt h 15 c p) (hj : j < nhC c) (htt : t < 100) : Call X (d + 6) 0 0 M_PM_fewestTiltsToSee [.ref 1, .int (nI j), .int (nI t)] h (Ret (.int (oI (findN c p j t))) h) := by
  show Run X (d + 6) 0 0 M_PM_fewestTiltsToSee 0 [some (.ref 1), some (.int (nI j)), some (.int (nI t)), none, none, none] [] h _
  obtain ⟨kt, kd, sd, h0, hco⟩ := id ht
  obtain ⟨fhk, fpt, fan, fkd, fhd, li, g0, g1, g2, g3, g4, g5, hv1, hv2⟩ := hco
  obtain ⟨ft, fw, ke, s0, s1, s2, hw⟩ := id hst
  obtain ⟨b1, b2, b3, b4⟩ := id hc
  refine Run.bipush (v := -9) d_PM_fewestTiltsToSee_0 bp_m9 ?_
  refine Run.istore_n d_PM_fewestTiltsToSee_2 rfl rfl ?_
  show Run _ _ _ _ _ _ [_, _, _, _, _, _] _ _ _
  refine Run.iconst (v := nI 0) d_PM_fewestTiltsToSee_3 ic_0 ?_
  refine Run.istore d_PM_fewestTiltsToSee_4 rfl rfl ?_
  show Run _ _ _ _ _ _ [_, _, _, _, _, _] _ _ _
  refine upto (npC c) (fun i => ∀ v5, Run X (d + 6) 0 0 M_PM_fewestTiltsToSee 6 [some (.ref 1), some (.int (nI j)), some (.int (nI t)), some (.int (oI (itN (findF c p j t) none i))), some (.int (nI i)), v5] [] h _) ?_ 0 (Nat.zero_le _) _
  intro i hi ih v5
  have h53 : i < npC c → pgW p i = j → ptC c i = t → Run X (d + 6) 0 0 M_PM_fewestTiltsToSee 53 [some (.ref 1), some (.int (nI j)), some (.int (nI t)), some (.int (oI (itN (findF c p j t) none i))), some (.int (nI i)), v5] [.int (oI (tiltN c p i j))] h (Ret (.int (oI (findN c p j t))) h) := by
    intro c15 c29 c43
    cases hb : tiltN c p i j with
    | none =>
      refine Run.istore d_PM_fewestTiltsToSee_53 rfl rfl ?_
      show Run _ _ _ _ _ _ [_, _, _, _, _, _] _ _ _
      refine Run.iload d_PM_fewestTiltsToSee_55 rfl ?_
      refine Run.bipush (v := -9) d_PM_fewestTiltsToSee_57 bp_m9 ?_
      first | refine Run.icmp_eq_n d_PM_fewestTiltsToSee_59 (by omega) (by omega) (fun c59 => ?_) (fun c59 => ?_) | refine Run.icmp_eq d_PM_fewestTiltsToSee_59 (fun c59 => ?_) (fun c59 => ?_)
      · first | refine Run.iinc_n d_PM_fewestTiltsToSee_77 ic_1 rfl rfl ?_ | refine Run.iinc d_PM_fewestTiltsToSee_77 rfl rfl rfl ?_
        show Run _ _ _ _ _ _ [_, _, _, _, _, _] _ _ _
        refine Run.goto d_PM_fewestTiltsToSee_80 ?_
        exact run_cg (by simp [itN, findF, c29, c43, hb]) (ih c15 (some (.int (oI none))))
      · exact absurd rfl c59
    | some b =>
      have hb5 := tiltN_lt hb
      cases ha : itN (findF c p j t) none i with
      | none =>
        show Run _ _ _ _ _ _ [_, _, _, some (.int (-9)), _, _] [.int (nI b)] _ _
        refine Run.istore d_PM_fewestTiltsToSee_53 rfl rfl ?_
        show Run _ _ _ _ _ _ [_, _, _, _, _, _] _ _ _
        refine Run.iload d_PM_fewestTiltsToSee_55 rfl ?_
        refine Run.bipush (v := -9) d_PM_fewestTiltsToSee_57 bp_m9 ?_
        first | refine Run.icmp_eq_n d_PM_fewestTiltsToSee_59 (by omega) (by omega) (fun c59 => ?_) (fun c59 => ?_) | refine Run.icmp_eq d_PM_fewestTiltsToSee_59 (fun c59 => ?_) (fun c59 => ?_)
        · exact absurd c59 (nI_n9 (by omega))
        · refine Run.iload_n d_PM_fewestTiltsToSee_62 rfl ?_
          refine Run.bipush (v := -9) d_PM_fewestTiltsToSee_63 bp_m9 ?_
          first | refine Run.icmp_eq_n d_PM_fewestTiltsToSee_65 (by omega) (by omega) (fun c65 => ?_) (fun c65 => ?_) | refine Run.icmp_eq d_PM_fewestTiltsToSee_65 (fun c65 => ?_) (fun c65 => ?_)
          · refine Run.iload d_PM_fewestTiltsToSee_74 rfl ?_
            refine Run.istore_n d_PM_fewestTiltsToSee_76 rfl rfl ?_
            show Run _ _ _ _ _ _ [_, _, _, _, _, _] _ _ _
            first | refine Run.iinc_n d_PM_fewestTiltsToSee_77 ic_1 rfl rfl ?_ | refine Run.iinc d_PM_fewestTiltsToSee_77 rfl rfl rfl ?_
            show Run _ _ _ _ _ _ [_, _, _, _, _, _] _ _ _
            refine Run.goto d_PM_fewestTiltsToSee_80 ?_
            exact run_cg (by simp [itN, findF, c29, c43, hb, ha, oI]) (ih c15 (some (.int (nI b))))
          · exact absurd rfl c65
      | some a =>
        have ha5 := findN_lt i a ha
        show Run _ _ _ _ _ _ [_, _, _, some (.int (nI a)), _, _] [.int (nI b)] _ _
        refine Run.istore d_PM_fewestTiltsToSee_53 rfl rfl ?_
        show Run _ _ _ _ _ _ [_, _, _, _, _, _] _ _ _
        refine Run.iload d_PM_fewestTiltsToSee_55 rfl ?_
        refine Run.bipush (v := -9) d_PM_fewestTiltsToSee_57 bp_m9 ?_
        first | refine Run.icmp_eq_n d_PM_fewestTiltsToSee_59 (by omega) (by omega) (fun c59 => ?_) (fun c59 => ?_) | refine Run.icmp_eq d_PM_fewestTiltsToSee_59 (fun c59 => ?_) (fun c59 => ?_)
        · exact absurd c59 (nI_n9 (by omega))
        · refine Run.iload_n d_PM_fewestTiltsToSee_62 rfl ?_
          refine Run.bipush (v := -9) d_PM_fewestTiltsToSee_63 bp_m9 ?_
          first | refine Run.icmp_eq_n d_PM_fewestTiltsToSee_65 (by omega) (by omega) (fun c65 => ?_) (fun c65 => ?_) | refine Run.icmp_eq d_PM_fewestTiltsToSee_65 (fun c65 => ?_) (fun c65 => ?_)
          · exact absurd c65 (nI_n9 (by omega))
          · refine Run.iload d_PM_fewestTiltsToSee_68 rfl ?_
            refine Run.iload_n d_PM_fewestTiltsToSee_70 rfl ?_
            first | refine Run.icmp_ge_n d_PM_fewestTiltsToSee_71 (by omega) (by omega) (fun c71 => ?_) (fun c71 => ?_) | refine Run.icmp_ge d_PM_fewestTiltsToSee_71 (fun c71 => ?_) (fun c71 => ?_)
            · first | refine Run.iinc_n d_PM_fewestTiltsToSee_77 ic_1 rfl rfl ?_ | refine Run.iinc d_PM_fewestTiltsToSee_77 rfl rfl rfl ?_
              show Run _ _ _ _ _ _ [_, _, _, _, _, _] _ _ _
              refine Run.goto d_PM_fewestTiltsToSee_80 ?_
              first
              | (refine run_cg ?_ (ih c15 (some (.int (nI b)))); simp [itN, findF, c29, c43, hb, ha, oI, c71]; done)
              | (refine run_cg ?_ (ih c15 (some (.int (nI b)))); simp [itN, findF, c29, c43, hb, ha, oI, Nat.not_lt.mpr c71]; done)
            · refine Run.iload d_PM_fewestTiltsToSee_74 rfl ?_
              refine Run.istore_n d_PM_fewestTiltsToSee_76 rfl rfl ?_
              show Run _ _ _ _ _ _ [_, _, _, _, _, _] _ _ _
              first | refine Run.iinc_n d_PM_fewestTiltsToSee_77 ic_1 rfl rfl ?_ | refine Run.iinc d_PM_fewestTiltsToSee_77 rfl rfl rfl ?_
              show Run _ _ _ _ _ _ [_, _, _, _, _, _] _ _ _
              refine Run.goto d_PM_fewestTiltsToSee_80 ?_
              first
              | (refine run_cg ?_ (ih c15 (some (.int (nI b)))); simp [itN, findF, c29, c43, hb, ha, oI, c71]; done)
              | (refine run_cg ?_ (ih c15 (some (.int (nI b)))); simp [itN, findF, c29, c43, hb, ha, oI, Nat.not_lt.mpr c71]; done)
  refine Run.iload d_PM_fewestTiltsToSee_6 rfl ?_
  refine Run.aload_n d_PM_fewestTiltsToSee_8 rfl ?_
  refine Run.getf d_PM_fewestTiltsToSee_9 fl_PM_19 (by first | rfl | assumption) (by rfl) ?_
  refine Run.getf d_PM_fewestTiltsToSee_12 fl_PM_101 (by first | rfl | assumption) (by rfl) ?_
  first | refine Run.icmp_ge_n d_PM_fewestTiltsToSee_15 (by omega) (by omega) (fun c15 => ?_) (fun c15 => ?_) | refine Run.icmp_ge d_PM_fewestTiltsToSee_15 (fun c15 => ?_) (fun c15 => ?_)
  · refine Run.iload_n d_PM_fewestTiltsToSee_83 rfl ?_
    refine Run.iret d_PM_fewestTiltsToSee_84 rfl rfl ?_
    exact ret_i (by rw [show i = npC c by omega]; rfl)
  · refine Run.aload_n d_PM_fewestTiltsToSee_18 rfl ?_
    refine Run.getf d_PM_fewestTiltsToSee_19 fl_PM_29 (by first | rfl | assumption) (by rfl) ?_
    refine Run.getf d_PM_fewestTiltsToSee_22 fl_PM_148 (by first | rfl | assumption) (by rfl) ?_
    refine Run.iload d_PM_fewestTiltsToSee_25 rfl ?_
    refine Run.iald_n d_PM_fewestTiltsToSee_27 (by first | rfl | assumption) (by omega) (by omega) ?_
    rw [(hw i c15).2]
    have w1 := (hp.2.2 i c15).2
    refine Run.iload_n d_PM_fewestTiltsToSee_28 rfl ?_
    first | refine Run.icmp_ne_n d_PM_fewestTiltsToSee_29 (by omega) (by omega) (fun c29 => ?_) (fun c29 => ?_) | refine Run.icmp_ne d_PM_fewestTiltsToSee_29 (fun c29 => ?_) (fun c29 => ?_)
    · first | refine Run.iinc_n d_PM_fewestTiltsToSee_77 ic_1 rfl rfl ?_ | refine Run.iinc d_PM_fewestTiltsToSee_77 rfl rfl rfl ?_
      show Run _ _ _ _ _ _ [_, _, _, _, _, _] _ _ _
      refine Run.goto d_PM_fewestTiltsToSee_80 ?_
      first
      | (refine run_cg ?_ (ih c15 v5); simp [itN, findF, c29]; done)
      | (refine run_cg ?_ (ih c15 v5); simp [itN, findF, c43]; done)
    · refine Run.aload_n d_PM_fewestTiltsToSee_32 rfl ?_
      refine Run.getf d_PM_fewestTiltsToSee_33 fl_PM_19 (by first | rfl | assumption) (by rfl) ?_
      refine Run.getf d_PM_fewestTiltsToSee_36 fl_PM_136 (by first | rfl | assumption) (by rfl) ?_
      refine Run.iload d_PM_fewestTiltsToSee_39 rfl ?_
      refine Run.iald_n d_PM_fewestTiltsToSee_41 (by first | rfl | assumption) (by omega) (by omega) ?_
      rw [(hv2 i c15).1]
      have w2 := (b4 i c15).1
      refine Run.iload_n d_PM_fewestTiltsToSee_42 rfl ?_
      first | refine Run.icmp_ne_n d_PM_fewestTiltsToSee_43 (by omega) (by omega) (fun c43 => ?_) (fun c43 => ?_) | refine Run.icmp_ne d_PM_fewestTiltsToSee_43 (fun c43 => ?_) (fun c43 => ?_)
      · first | refine Run.iinc_n d_PM_fewestTiltsToSee_77 ic_1 rfl rfl ?_ | refine Run.iinc d_PM_fewestTiltsToSee_77 rfl rfl rfl ?_
        show Run _ _ _ _ _ _ [_, _, _, _, _, _] _ _ _
        refine Run.goto d_PM_fewestTiltsToSee_80 ?_
        first
        | (refine run_cg ?_ (ih c15 v5); simp [itN, findF, c29]; done)
        | (refine run_cg ?_ (ih c15 v5); simp [itN, findF, c43]; done)
      · refine Run.aload_n d_PM_fewestTiltsToSee_46 rfl ?_
        refine Run.iload d_PM_fewestTiltsToSee_47 rfl ?_
        refine Run.iload_n d_PM_fewestTiltsToSee_49 rfl ?_
        refine Run.V2r d_PM_fewestTiltsToSee_50 lk_PM_183 cm_PM_fewestTilts iv_PM_fewestTilts rfl (by first | rfl | assumption) (Nat.le_of_ble_eq_true rfl) (Nat.le_of_ble_eq_true rfl) (c_PM_fewestTilts hc hp ht hst c15 hj) ?_
        exact h53 c15 c29 c43
theorem c_PM_hoursUntilSeen {j t : Nat} (hc : coOK c) (hp : pgOK c p) (ht : TlAt h c) (hst : StAt h 15 c p) (hj : j < nhC c) (htt : t < 5) : Call X (d + 6) 0 0 M_PM_hoursUntilSeen [.ref 1, .int (nI j), .int (nI t)] h (Ret (.int (oI (whenN c p j t))) h) := by
  show Run X (d + 6) 0 0 M_PM_hoursUntilSeen 0 [some (.ref 1), some (.int (nI j)), some (.int (nI t)), none] [] h _
  obtain ⟨kt, kd, sd, h0, hco⟩ := id ht
  obtain ⟨ft, fw, ke, s0, s1, s2, hw⟩ := id hst
  refine Run.iconst (v := nI 0) d_PM_hoursUntilSeen_0 ic_0 ?_
  refine Run.istore_n d_PM_hoursUntilSeen_1 rfl rfl ?_
  show Run _ _ _ _ _ _ [_, _, _, _] _ _ _
  refine upto 8 (fun n => fstN (whenP c p j t) n = none → Run X (d + 6) 0 0 M_PM_hoursUntilSeen 2 [some (.ref 1), some (.int (nI j)), some (.int (nI t)), some (.int (nI n))] [] h _) ?_ 0 (Nat.zero_le _) rfl
  intro n hn ih hf
  have w1 := seenN_lt hc (hourN p n) j
  refine Run.iload_n d_PM_hoursUntilSeen_2 rfl ?_
  refine Run.bipush (v := nI 8) d_PM_hoursUntilSeen_3 bp_8 ?_
  first | refine Run.icmp_ge_n d_PM_hoursUntilSeen_5 (by omega) (by omega) (fun c5 => ?_) (fun c5 => ?_) | refine Run.icmp_ge d_PM_hoursUntilSeen_5 (fun c5 => ?_) (fun c5 => ?_)
  · refine Run.bipush (v := -9) d_PM_hoursUntilSeen_33 bp_m9 ?_
    refine Run.iret d_PM_hoursUntilSeen_35 rfl rfl ?_
    exact ret_i (by rw [whenN, show 8 = n by omega, hf]; rfl)
  · refine Run.aload_n d_PM_hoursUntilSeen_8 rfl ?_
    refine Run.aload_n d_PM_hoursUntilSeen_9 rfl ?_
    refine Run.getf d_PM_hoursUntilSeen_10 fl_PM_29 (by first | rfl | assumption) (by rfl) ?_
    refine Run.iload_n d_PM_hoursUntilSeen_13 rfl ?_
    refine Run.iload_n d_PM_hoursUntilSeen_14 rfl ?_
    refine Run.V3r d_PM_hoursUntilSeen_15 lk_PM_129 cm_PM_partsSeen iv_PM_partsSeen rfl (by first | rfl | assumption) (Nat.le_of_ble_eq_true rfl) (Nat.le_of_ble_eq_true rfl) (c_PM_partsSeen hc hp ht hst hj (by omega)) ?_
    refine Run.iload_n d_PM_hoursUntilSeen_18 rfl ?_
    refine Run.S2r d_PM_hoursUntilSeen_19 lk_PM_193 cm_PM_hasBit st_PM_hasBit (Nat.le_of_ble_eq_true rfl) (Nat.le_of_ble_eq_true rfl) (c_PM_hasBit (by omega) (by omega)) ?_
    first | refine Run.if_eq_b d_PM_hoursUntilSeen_22 (fun c22 => ?_) (fun c22 => ?_) | refine Run.if_eq_n d_PM_hoursUntilSeen_22 (by omega) (fun c22 => ?_) (fun c22 => ?_) | refine Run.if_eq d_PM_hoursUntilSeen_22 (fun c22 => ?_) (fun c22 => ?_)
    · first | refine Run.iinc_n d_PM_hoursUntilSeen_27 ic_1 rfl rfl ?_ | refine Run.iinc d_PM_hoursUntilSeen_27 rfl rfl rfl ?_
      show Run _ _ _ _ _ _ [_, _, _, _] _ _ _
      refine Run.goto d_PM_hoursUntilSeen_30 ?_
      exact ih (by omega) (fstN_n hf c22)
    · refine Run.iload_n d_PM_hoursUntilSeen_25 rfl ?_
      refine Run.iret d_PM_hoursUntilSeen_26 rfl rfl ?_
      exact ret_i (by rw [whenN, fstN_s hf c22 8 (by omega)]; rfl)
/-- what one has of a piece: 2 if it shows, less 1 if one tilts -/
def gain (b : Bool) (o : Nat) : Int32 := nI (if b = true then 2 else 0) - nI o
theorem c_PM_worth {i j o n : Nat} (hc : coOK c) (hp : pgOK c p) (ht : TlAt h c) (hst : StAt h 15 c p) (hi : i < npC c) (hj : j < nhC c) : Call X (d + 5) 0 0 M_PM_worth [.ref 1, .int (nI i), .int (nI j), .int (nI o), .int (nI n)] h (Ret (.int (gain (sh c i j ((angN p i + n) % 8)) o)) h) := by
  show Run X (d + 5) 0 0 M_PM_worth 0 [some (.ref 1), some (.int (nI i)), some (.int (nI j)), some (.int (nI o)), some (.int (nI n))] [] h _
  obtain ⟨kt, kd, sd, h0, hco⟩ := id ht
  obtain ⟨ft, fw, ke, s0, s1, s2, hw⟩ := id hst
  have b1 := hc.1
  have e1 : (angN p i + n % 8) % 8 = (angN p i + n) % 8 := by omega
  refine Run.aload_n d_PM_worth_0 rfl ?_
  refine Run.aload_n d_PM_worth_1 rfl ?_
  refine Run.getf d_PM_worth_2 fl_PM_29 (by first | rfl | assumption) (by rfl) ?_
  refine Run.iload_n d_PM_worth_5 rfl ?_
  refine Run.iload_n d_PM_worth_6 rfl ?_
  refine Run.iload d_PM_worth_7 rfl ?_
  refine Run.V4r d_PM_worth_9 lk_PM_154 cm_PM_showsAfter iv_PM_showsAfter rfl (by first | rfl | assumption) (Nat.le_of_ble_eq_true rfl) (Nat.le_of_ble_eq_true rfl) (c_PM_showsAfter hc hp ht hst hi (by omega)) ?_
  rw [m8_nI, decide_eq_true hj, Bool.true_and, e1]
  first | refine Run.if_eq_b d_PM_worth_12 (fun c12 => ?_) (fun c12 => ?_) | refine Run.if_eq_n d_PM_worth_12 (by omega) (fun c12 => ?_) (fun c12 => ?_) | refine Run.if_eq d_PM_worth_12 (fun c12 => ?_) (fun c12 => ?_)
  · refine Run.iconst (v := nI 0) d_PM_worth_19 ic_0 ?_
    refine Run.iload_n d_PM_worth_20 rfl ?_
    refine Run.isub d_PM_worth_21 ?_
    refine Run.iret d_PM_worth_22 rfl rfl ?_
    exact ret_i (by simp [gain, c12])
  · refine Run.iconst (v := nI 2) d_PM_worth_15 ic_2 ?_
    refine Run.goto d_PM_worth_16 ?_
    refine Run.iload_n d_PM_worth_20 rfl ?_
    refine Run.isub d_PM_worth_21 ?_
    refine Run.iret d_PM_worth_22 rfl rfl ?_
    exact ret_i (by simp [gain, c12])
def staysN (c : CA) (p : PG) (i j o n : Nat) : Bool := decide (gain (sh c i j ((angN p i + (1 - o + n)) % 8)) (1 - o) ≤ gain (sh c i j ((angN p i + (o + n)) % 8)) o)
theorem c_PM_staysWith {i j o n : Nat} (hc : coOK c) (hp : pgOK c p) (ht : TlAt h c) (hst : StAt h 15 c p) (hi : i < npC c) (hj : j < nhC c) (ho : o ≤ 1) (hn : n ≤ 1) : Call X (d + 6) 0 0 M_PM_staysWith [.ref 1, .int (nI i), .int (nI j), .int (nI o), .int (nI n)] h (Ret (.int (bI (staysN c p i j o n))) h) := by
  show Run X (d + 6) 0 0 M_PM_staysWith 0 [some (.ref 1), some (.int (nI i)), some (.int (nI j)), some (.int (nI o)), some (.int (nI n)), none] [] h _
  obtain ⟨kt, kd, sd, h0, hco⟩ := id ht
  refine Run.iconst (v := nI 1) d_PM_staysWith_0 ic_1 ?_
  refine Run.iload_n d_PM_staysWith_1 rfl ?_
  first | refine Run.isub_n d_PM_staysWith_2 (by omega) ?_ | refine Run.isub d_PM_staysWith_2 ?_
  refine Run.istore d_PM_staysWith_3 rfl rfl ?_
  show Run _ _ _ _ _ _ [_, _, _, _, _, _] _ _ _
  refine Run.aload_n d_PM_staysWith_5 rfl ?_
  refine Run.iload_n d_PM_staysWith_6 rfl ?_
  refine Run.iload_n d_PM_staysWith_7 rfl ?_
  refine Run.iload_n d_PM_staysWith_8 rfl ?_
  refine Run.iload_n d_PM_staysWith_9 rfl ?_
  refine Run.iload d_PM_staysWith_10 rfl ?_
  first | refine Run.iadd_n d_PM_staysWith_12 ?_ | refine Run.iadd d_PM_staysWith_12 ?_
  refine Run.V4r d_PM_staysWith_13 lk_PM_299 cm_PM_worth iv_PM_worth rfl (by first | rfl | assumption) (Nat.le_of_ble_eq_true rfl) (Nat.le_of_ble_eq_true rfl) (c_PM_worth hc hp ht hst hi hj) ?_
  refine Run.aload_n d_PM_staysWith_16 rfl ?_
  refine Run.iload_n d_PM_staysWith_17 rfl ?_
  refine Run.iload_n d_PM_staysWith_18 rfl ?_
  refine Run.iload d_PM_staysWith_19 rfl ?_
  refine Run.iload d_PM_staysWith_21 rfl ?_
  refine Run.iload d_PM_staysWith_23 rfl ?_
  first | refine Run.iadd_n d_PM_staysWith_25 ?_ | refine Run.iadd d_PM_staysWith_25 ?_
  refine Run.V4r d_PM_staysWith_26 lk_PM_299 cm_PM_worth iv_PM_worth rfl (by first | rfl | assumption) (Nat.le_of_ble_eq_true rfl) (Nat.le_of_ble_eq_true rfl) (c_PM_worth hc hp ht hst hi hj) ?_
  first | refine Run.icmp_lt_n d_PM_staysWith_29 (by omega) (by omega) (fun c29 => ?_) (fun c29 => ?_) | refine Run.icmp_lt d_PM_staysWith_29 (fun c29 => ?_) (fun c29 => ?_)
  · refine Run.iconst (v := nI 0) d_PM_staysWith_36 ic_0 ?_
    refine Run.iret d_PM_staysWith_37 rfl (by first | exact bI_nar _ | decide +kernel) ?_
    first | exact ret_f (decide_eq_false (Int32.not_le.mpr c29)) | exact ret_t (decide_eq_true (Int32.not_lt.mp c29))
  · refine Run.iconst (v := nI 1) d_PM_staysWith_32 ic_1 ?_
    refine Run.goto d_PM_staysWith_33 ?_
    refine Run.iret d_PM_staysWith_37 rfl (by first | exact bI_nar _ | decide +kernel) ?_
    first | exact ret_f (decide_eq_false (Int32.not_le.mpr c29)) | exact ret_t (decide_eq_true (Int32.not_lt.mp c29))
end FINDS
end
section
/-! ===== what is seen (the reference) ===== -/
theorem lg_lt {x y : Int64} : lg_cmp x y < 0 ↔ x < y := by
  unfold lg_cmp
  split
  · rename_i q
    constructor
    · intro z; exact absurd z (by decide)
    · intro z; exact absurd (Int64.lt_trans z q) (Int64.lt_irrefl)
  · split
    · rename_i q
      subst q
      constructor
      · intro z; exact absurd z (by decide)
      · intro z; exact absurd z (Int64.lt_irrefl)
    · rename_i q1 q2
      constructor
      · intro _
        rcases Int64.lt_or_eq_of_le (Int64.not_lt.mp q1) with w | w
        · exact w
        · exact absurd w q2
      · intro _; decide
theorem lg_gt {x y : Int64} : 0 < lg_cmp x y ↔ y < x := by
  unfold lg_cmp
  split
  · rename_i q
    constructor
    · intro _; exact q
    · intro _; decide
  · split
    · rename_i q1 q2
      constructor
      · intro z; exact absurd z (by decide)
      · intro z; exact absurd z q1
    · rename_i q1 q2
      constructor
      · intro z; exact absurd z (by decide)
      · intro z; exact absurd z q1
theorem in_B {x : Int32} {b : Int64} {n : Nat} (hn : n < 2 ^ 31) (hb : b.toInt = (n : Int) - 1) : (decide ((0 : Int64) ≤ x.toInt64) && decide (x.toInt64 ≤ b)) = inB x n := by
  have e1 : ((0 : Int64) ≤ x.toInt64) ↔ (0 : Int32) ≤ x := by
    rw [Int64.le_iff_toInt_le, Int32.le_iff_toInt_le, Int32.toInt_toInt64]
    exact Iff.rfl
  have e2 : x.toInt64 ≤ b ↔ x < nI n := by
    rw [Int64.le_iff_toInt_le, Int32.lt_iff_toInt_lt, Int32.toInt_toInt64, hb, nI_toInt hn]
    omega
  simp only [inB, e1, e2]
/-- the cells of the reference's object: thrown stays 0 -/
def rfO (ts pl nh np rl rh rp ac tu : Int32) (sd : Int64) (mm mf rm rf : Int32) : AC := .inr (8, [.int (nI 0), .ref 45, .int ts, .int pl, .int nh, .ref 46, .int np, .ref 47, .int rl, .int rh, .ref 48, .int rp, .ref 49, .ref 50, .ref 51, .ref 52, .int ac, .ref 53, .ref 54, .int tu, .ref 55, .ref 56, .long sd, .int mm, .int mf, .int rm, .int rf, .ref 57, .ref 58, .ref 59, .ref 60])
/-- the coast that the reference has -/
def RfAt (h : AH) (c : CA) : Prop := ∃ (ts pl rl rh rp ac tu : Int32) (sd : Int64) (mm mf rm rf : Int32) (fh fp : Nat → Int32), h[43]? = some (.inr (8, [.int (nI 0), .ref 45, .int ts, .int pl, .int (nI (nhC c)), .ref 46, .int (nI (npC c)), .ref 47, .int rl, .int rh, .ref 48, .int rp, .ref 49, .ref 50, .ref 51, .ref 52, .int ac, .ref 53, .ref 54, .int tu, .ref 55, .ref 56, .long sd, .int mm, .int mf, .int rm, .int rf, .ref 57, .ref 58, .ref 59, .ref 60])) ∧ h[45]? = some (.inl (.int, 4, .inl fh)) ∧ h[46]? = some (.inl (.int, 18, .inl fp)) ∧ (∀ j, j < nhC c → fh j = nI (hkC c j)) ∧ ∀ i, i < npC c → fp (3 * i) = nI (ptC c i) ∧ fp (3 * i + 1) = nI (anC c i) ∧ fp (3 * i + 2) = nI (kdC c i)
def PgV (c : CA) (p : PG) (f : Nat → Int32) : Prop := (∀ i, i < npC c → f i = nI (pgT p i) ∧ f (6 + i) = nI (pgW p i)) ∧ f 12 = nI (pgL p) ∧ f 13 = nI (pgH p)
/-- a page of the reference at k -/
def PgAt (h : AH) (k : Nat) (c : CA) (p : PG) : Prop := ∃ f : Nat → Int32, h[k]? = some (.inl (.int, 14, .inl f)) ∧ PgV c p f
theorem set_same {h : AH} {k : Nat} {c : AC} (hk : h[k]? = some c) : h.set k c = h := by
  apply List.ext_getElem?
  intro i
  rw [List.getElem?_set]
  split
  · rename_i e
    subst e
    have := (List.getElem?_eq_some_iff.mp hk).1
    rw [if_pos this, hk]
  · rfl
/-- parts that a holder sees of some pieces -/
def sesF (c : CA) (p : PG) (j s : Nat) : Nat → Nat → Nat := fun i acc => if s.testBit i = true ∧ pgW p i = j ∧ sh c i j (angN p i) = true then acc ||| 2 ^ ptC c i else acc
def sesN (c : CA) (p : PG) (j s : Nat) : Nat := itN (sesF c p j s) 0 (npC c)
def tgsF (c : CA) (p : PG) (s : Nat) : Nat → Nat → Nat := fun j acc => acc ||| sesN c p j s
def tgsN (c : CA) (p : PG) (s : Nat) : Nat := itN (tgsF c p s) 0 (nhC c)
theorem itN_congr {α : Type} {f g : Nat → α → α} {a : α} (n : Nat) (h : ∀ i x, i < n → f i x = g i x) : itN f a n = itN g a n := by
  induction n with
  | zero => rfl
  | succ n ih =>
    show f n (itN f a n) = g n (itN g a n)
    rw [ih (fun i x hi => h i x (by omega)), h n _ (by omega)]
theorem bit63 : ∀ i, i < 6 → (63 : Nat).testBit i = true := by decide
theorem sesN_63 {c : CA} (hn : npC c ≤ 6) (p : PG) (j : Nat) : sesN c p j 63 = seenN c p j := itN_congr _ (fun i x hi => by simp [sesF, seenF, bit63 i (by omega)])
theorem tgsN_63 {c : CA} (hn : npC c ≤ 6) (p : PG) : tgsN c p 63 = togN c p := itN_congr _ (fun i x hi => by simp [tgsF, togF, sesN_63 hn])
theorem sesN_lt {c : CA} (hc : coOK c) (p : PG) (j s : Nat) : sesN c p j s < 32 := by
  refine itN_inv (fun x => x < 32) (by decide) _ (fun i x hi hx => ?_)
  unfold sesF
  split
  · have h1 := (hc.2.2.2 i hi).1
    have h2 : 2 ^ ptC c i < 2 ^ 5 := Nat.pow_lt_pow_right (by omega) h1
    exact Nat.or_lt_two_pow (n := 5) hx h2
  · exact hx
def manyF (s : Nat) : Nat → Nat → Nat := fun k acc => acc + (s / 2 ^ k &&& 1)
def manyN (s : Nat) : Nat := itN (manyF s) 0 6
theorem ap_R : ∀ a, a < 8 → ∀ b, b < 8 → (if (if b < a then a - b else b - a) ≤ 4 then (if b < a then a - b else b - a) else 8 - (if b < a then a - b else b - a)) = ap b a := by decide
section RSEEN
variable {X : Nat × (Nat → Int32)} {d : Nat} {h : AH} {c : CA} {p : PG} {k : Nat}
theorem c_Rf_in {v a b : Int64} : Call X d 0 0 M_Rf_in [.long v, .long a, .long b] h (Ret (.int (bI (decide (a ≤ v) && decide (v ≤ b)))) h) := by
  show Run X d 0 0 M_Rf_in 0 [some (.long v), none, some (.long a), none, some (.long b), none] [] h _
  refine Run.lload_n d_Rf_in_0 rfl ?_
  refine Run.lload_n d_Rf_in_1 rfl ?_
  refine Run.lcmp d_Rf_in_2 ?_
  refine Run.if_lt d_Rf_in_3 (fun c3 => ?_) (fun c3 => ?_)
  · rw [lg_lt] at c3
    refine Run.iconst (v := nI 0) d_Rf_in_17 ic_0 ?_
    refine Run.iret d_Rf_in_18 rfl (by first | exact bI_nar _ | decide +kernel) ?_
    first | exact ret_f (by rw [decide_eq_false (Int64.not_le.mpr c3), Bool.false_and]) | exact ret_f (by rw [decide_eq_false (Int64.not_le.mpr c10), Bool.and_false]) | exact ret_t (by rw [decide_eq_true (Int64.not_lt.mp c3), decide_eq_true (Int64.not_lt.mp c10)]; rfl)
  · rw [lg_lt] at c3
    refine Run.lload_n d_Rf_in_6 rfl ?_
    refine Run.lload d_Rf_in_7 rfl ?_
    refine Run.lcmp d_Rf_in_9 ?_
    first | refine Run.if_gt_n d_Rf_in_10 (by omega) (fun c10 => ?_) (fun c10 => ?_) | refine Run.if_gt d_Rf_in_10 (fun c10 => ?_) (fun c10 => ?_)
    · rw [lg_gt] at c10
      refine Run.iconst (v := nI 0) d_Rf_in_17 ic_0 ?_
      refine Run.iret d_Rf_in_18 rfl (by first | exact bI_nar _ | decide +kernel) ?_
      first | exact ret_f (by rw [decide_eq_false (Int64.not_le.mpr c3), Bool.false_and]) | exact ret_f (by rw [decide_eq_false (Int64.not_le.mpr c10), Bool.and_false]) | exact ret_t (by rw [decide_eq_true (Int64.not_lt.mp c3), decide_eq_true (Int64.not_lt.mp c10)]; rfl)
    · rw [lg_gt] at c10
      refine Run.iconst (v := nI 1) d_Rf_in_13 ic_1 ?_
      refine Run.goto d_Rf_in_14 ?_
      refine Run.iret d_Rf_in_18 rfl (by first | exact bI_nar _ | decide +kernel) ?_
      first | exact ret_f (by rw [decide_eq_false (Int64.not_le.mpr c3), Bool.false_and]) | exact ret_f (by rw [decide_eq_false (Int64.not_le.mpr c10), Bool.and_false]) | exact ret_t (by rw [decide_eq_true (Int64.not_lt.mp c3), decide_eq_true (Int64.not_lt.mp c10)]; rfl)
theorem c_Rf_has {a b : Nat} (hb : b < 32) (ha : a < 2 ^ 31) : Call X d 0 0 M_Rf_has [.int (nI a), .int (nI b)] h (Ret (.int (bI (a.testBit b))) h) := by
  show Run X d 0 0 M_Rf_has 0 [some (.int (nI a)), some (.int (nI b))] [] h _
  have e1 : a / 2 ^ b &&& 1 = (a.testBit b).toNat := by
    rw [Nat.testBit_eq_decide_div_mod_eq, Nat.and_one_is_mod]
    have : a / 2 ^ b % 2 = 0 ∨ a / 2 ^ b % 2 = 1 := by omega
    rcases this with q | q <;> simp [q]
  refine Run.iload_n d_Rf_has_0 rfl ?_
  refine Run.iload_n d_Rf_has_1 rfl ?_
  first | refine Run.ishr_n d_Rf_has_2 (by omega) (by omega) ?_ | refine Run.ishr d_Rf_has_2 ?_
  refine Run.iconst (v := nI 1) d_Rf_has_3 ic_1 ?_
  first | refine Run.iand_n d_Rf_has_4 ?_ | refine Run.iand d_Rf_has_4 ?_
  refine Run.iconst (v := nI 1) d_Rf_has_5 ic_1 ?_
  have e2 : a / 2 ^ b &&& 1 < 2 := by rw [e1]; cases a.testBit b <;> decide
  first | refine Run.icmp_ne_n d_Rf_has_6 (by omega) (by omega) (fun c6 => ?_) (fun c6 => ?_) | refine Run.icmp_ne d_Rf_has_6 (fun c6 => ?_) (fun c6 => ?_)
  · refine Run.iconst (v := nI 0) d_Rf_has_13 ic_0 ?_
    refine Run.iret d_Rf_has_14 rfl (by first | exact bI_nar _ | decide +kernel) ?_
    first | exact ret_t (by revert c6; rw [e1]; cases a.testBit b <;> simp) | exact ret_f (by revert c6; rw [e1]; cases a.testBit b <;> simp)
  · refine Run.iconst (v := nI 1) d_Rf_has_9 ic_1 ?_
    refine Run.goto d_Rf_has_10 ?_
    refine Run.iret d_Rf_has_14 rfl (by first | exact bI_nar _ | decide +kernel) ?_
    first | exact ret_t (by revert c6; rw [e1]; cases a.testBit b <;> simp) | exact ret_f (by revert c6; rw [e1]; cases a.testBit b <;> simp)
theorem c_Rf_many {s : Nat} (hs : s < 2 ^ 31) : Call X d 0 0 M_Rf_many [.int (nI s)] h (Ret (.int (nI (manyN s))) h) := by
  show Run X d 0 0 M_Rf_many 0 [some (.int (nI s)), none, none] [] h _
  refine Run.iconst (v := nI 0) d_Rf_many_0 ic_0 ?_
  refine Run.istore_n d_Rf_many_1 rfl rfl ?_
  show Run _ _ _ _ _ _ [_, _, _] _ _ _
  refine Run.iconst (v := nI 0) d_Rf_many_2 ic_0 ?_
  refine Run.istore_n d_Rf_many_3 rfl rfl ?_
  show Run _ _ _ _ _ _ [_, _, _] _ _ _
  refine upto 6 (fun i => Run X d 0 0 M_Rf_many 4 [some (.int (nI s)), some (.int (nI (itN (manyF s) 0 i))), some (.int (nI i))] [] h _) ?_ 0 (Nat.zero_le _)
  intro i hi ih
  refine Run.iload_n d_Rf_many_4 rfl ?_
  refine Run.bipush (v := nI 6) d_Rf_many_5 bp_6 ?_
  first | refine Run.icmp_ge_n d_Rf_many_7 (by omega) (by omega) (fun c7 => ?_) (fun c7 => ?_) | refine Run.icmp_ge d_Rf_many_7 (fun c7 => ?_) (fun c7 => ?_)
  · refine Run.iload_n d_Rf_many_24 rfl ?_
    refine Run.iret d_Rf_many_25 rfl rfl ?_
    exact ret_n (by rw [show i = 6 by omega]; rfl)
  · refine Run.iload_n d_Rf_many_10 rfl ?_
    refine Run.iload_n d_Rf_many_11 rfl ?_
    refine Run.iload_n d_Rf_many_12 rfl ?_
    first | refine Run.ishr_n d_Rf_many_13 (by omega) (by omega) ?_ | refine Run.ishr d_Rf_many_13 ?_
    refine Run.iconst (v := nI 1) d_Rf_many_14 ic_1 ?_
    first | refine Run.iand_n d_Rf_many_15 ?_ | refine Run.iand d_Rf_many_15 ?_
    first | refine Run.iadd_n d_Rf_many_16 ?_ | refine Run.iadd d_Rf_many_16 ?_
    refine Run.istore_n d_Rf_many_17 rfl rfl ?_
    show Run _ _ _ _ _ _ [_, _, _] _ _ _
    first | refine Run.iinc_n d_Rf_many_18 ic_1 rfl rfl ?_ | refine Run.iinc d_Rf_many_18 rfl rfl rfl ?_
    show Run _ _ _ _ _ _ [_, _, _] _ _ _
    refine Run.goto d_Rf_many_21 ?_
    exact ih c7
theorem c_Rf_power {a n : Nat} (hn : n < 100) : Call X d 0 0 M_Rf_power [.int (nI a), .int (nI n)] h (Ret (.int (nI (a ^ n))) h) := by
  show Run X d 0 0 M_Rf_power 0 [some (.int (nI a)), some (.int (nI n)), none, none] [] h _
  refine Run.iconst (v := nI 1) d_Rf_power_0 ic_1 ?_
  refine Run.istore_n d_Rf_power_1 rfl rfl ?_
  show Run _ _ _ _ _ _ [_, _, _, _] _ _ _
  refine Run.iconst (v := nI 0) d_Rf_power_2 ic_0 ?_
  refine Run.istore_n d_Rf_power_3 rfl rfl ?_
  show Run _ _ _ _ _ _ [_, _, _, _] _ _ _
  refine upto n (fun i => Run X d 0 0 M_Rf_power 4 [some (.int (nI a)), some (.int (nI n)), some (.int (nI (a ^ i))), some (.int (nI i))] [] h _) ?_ 0 (Nat.zero_le _)
  intro i hi ih
  refine Run.iload_n d_Rf_power_4 rfl ?_
  refine Run.iload_n d_Rf_power_5 rfl ?_
  first | refine Run.icmp_ge_n d_Rf_power_6 (by omega) (by omega) (fun c6 => ?_) (fun c6 => ?_) | refine Run.icmp_ge d_Rf_power_6 (fun c6 => ?_) (fun c6 => ?_)
  · refine Run.iload_n d_Rf_power_19 rfl ?_
    refine Run.iret d_Rf_power_20 rfl rfl ?_
    exact ret_n (by rw [show i = n by omega])
  · refine Run.iload_n d_Rf_power_9 rfl ?_
    refine Run.iload_n d_Rf_power_10 rfl ?_
    first | refine Run.imul_n d_Rf_power_11 ?_ | refine Run.imul d_Rf_power_11 ?_
    refine Run.istore_n d_Rf_power_12 rfl rfl ?_
    show Run _ _ _ _ _ _ [_, _, _, _] _ _ _
    first | refine Run.iinc_n d_Rf_power_13 ic_1 rfl rfl ?_ | refine Run.iinc d_Rf_power_13 rfl rfl rfl ?_
    show Run _ _ _ _ _ _ [_, _, _, _] _ _ _
    refine Run.goto d_Rf_power_16 ?_
    exact ih c6
theorem c_Rf_noHolder {x : Int32} (hc : coOK c) (hr : RfAt h c) : Call X (d + 1) 0 0 M_Rf_noHolder [.ref 44, .int x] h (Ret (.int (bI (!(inB x (nhC c))))) h) := by
  show Run X (d + 1) 0 0 M_Rf_noHolder 0 [some (.ref 44), some (.int x)] [] h _
  obtain ⟨ts, pl, rl, rh, rp, ac, tu, sd, mm, mf, rm, rf, fh, fp, g0, g1, g2, hv1, hv2⟩ := hr
  have b1 := hc.1
  have e1 : (nI (nhC c) - nI 1).toInt64.toInt = (nhC c : Int) - 1 := by rw [Int32.toInt_toInt64, pk_sub_toInt (by omega) (by omega)]; rfl
  refine Run.iload_n d_Rf_noHolder_0 rfl ?_
  refine Run.i2l d_Rf_noHolder_1 ?_
  refine Run.lconst (v := 0) d_Rf_noHolder_2 rfl ?_
  refine Run.aload_n d_Rf_noHolder_3 rfl ?_
  refine Run.getf d_Rf_noHolder_4 fl_Rf_63 (by first | rfl | assumption) (by rfl) ?_
  refine Run.iconst (v := nI 1) d_Rf_noHolder_7 ic_1 ?_
  refine Run.isub d_Rf_noHolder_8 ?_
  refine Run.i2l d_Rf_noHolder_9 ?_
  refine Run.S3r d_Rf_noHolder_10 lk_Rf_66 cm_Rf_in st_Rf_in (Nat.le_of_ble_eq_true rfl) (Nat.le_of_ble_eq_true rfl) (c_Rf_in) ?_
  rw [in_B (by omega) e1]
  first | refine Run.if_ne_b d_Rf_noHolder_13 (fun c13 => ?_) (fun c13 => ?_) | refine Run.if_ne_n d_Rf_noHolder_13 (by omega) (fun c13 => ?_) (fun c13 => ?_) | refine Run.if_ne d_Rf_noHolder_13 (fun c13 => ?_) (fun c13 => ?_)
  · refine Run.iconst (v := nI 0) d_Rf_noHolder_20 ic_0 ?_
    refine Run.iret d_Rf_noHolder_21 rfl (by first | exact bI_nar _ | decide +kernel) ?_
    first | exact ret_f (by rw [c13]; rfl) | exact ret_t (by rw [c13]; rfl)
  · refine Run.iconst (v := nI 1) d_Rf_noHolder_16 ic_1 ?_
    refine Run.goto d_Rf_noHolder_17 ?_
    refine Run.iret d_Rf_noHolder_21 rfl (by first | exact bI_nar _ | decide +kernel) ?_
    first | exact ret_f (by rw [c13]; rfl) | exact ret_t (by rw [c13]; rfl)
theorem c_Rf_noPiece {x : Int32} (hc : coOK c) (hr : RfAt h c) : Call X (d + 1) 0 0 M_Rf_noPiece [.ref 44, .int x] h (Ret (.int (bI (!(inB x (npC c))))) h) := by
  show Run X (d + 1) 0 0 M_Rf_noPiece 0 [some (.ref 44), some (.int x)] [] h _
  obtain ⟨ts, pl, rl, rh, rp, ac, tu, sd, mm, mf, rm, rf, fh, fp, g0, g1, g2, hv1, hv2⟩ := hr
  have b1 := hc.2.1
  have e1 : (nI (npC c) - nI 1).toInt64.toInt = (npC c : Int) - 1 := by rw [Int32.toInt_toInt64, pk_sub_toInt (by omega) (by omega)]; rfl
  refine Run.iload_n d_Rf_noPiece_0 rfl ?_
  refine Run.i2l d_Rf_noPiece_1 ?_
  refine Run.lconst (v := 0) d_Rf_noPiece_2 rfl ?_
  refine Run.aload_n d_Rf_noPiece_3 rfl ?_
  refine Run.getf d_Rf_noPiece_4 fl_Rf_70 (by first | rfl | assumption) (by rfl) ?_
  refine Run.iconst (v := nI 1) d_Rf_noPiece_7 ic_1 ?_
  refine Run.isub d_Rf_noPiece_8 ?_
  refine Run.i2l d_Rf_noPiece_9 ?_
  refine Run.S3r d_Rf_noPiece_10 lk_Rf_66 cm_Rf_in st_Rf_in (Nat.le_of_ble_eq_true rfl) (Nat.le_of_ble_eq_true rfl) (c_Rf_in) ?_
  rw [in_B (by omega) e1]
  first | refine Run.if_ne_b d_Rf_noPiece_13 (fun c13 => ?_) (fun c13 => ?_) | refine Run.if_ne_n d_Rf_noPiece_13 (by omega) (fun c13 => ?_) (fun c13 => ?_) | refine Run.if_ne d_Rf_noPiece_13 (fun c13 => ?_) (fun c13 => ?_)
  · refine Run.iconst (v := nI 0) d_Rf_noPiece_20 ic_0 ?_
    refine Run.iret d_Rf_noPiece_21 rfl (by first | exact bI_nar _ | decide +kernel) ?_
    first | exact ret_f (by rw [c13]; rfl) | exact ret_t (by rw [c13]; rfl)
  · refine Run.iconst (v := nI 1) d_Rf_noPiece_16 ic_1 ?_
    refine Run.goto d_Rf_noPiece_17 ?_
    refine Run.iret d_Rf_noPiece_21 rfl (by first | exact bI_nar _ | decide +kernel) ?_
    first | exact ret_f (by rw [c13]; rfl) | exact ret_t (by rw [c13]; rfl)
theorem c_Rf_apart {a b : Nat} (ha : a < 8) (hb : b < 8) : Call X d 0 0 M_Rf_apart [.int (nI a), .int (nI b)] h (Ret (.int (nI (ap b a))) h) := by
  show Run X d 0 0 M_Rf_apart 0 [some (.int (nI a)), some (.int (nI b)), none] [] h _
  have e := ap_R a ha b hb
  refine Run.iload_n d_Rf_apart_0 rfl ?_
  refine Run.iload_n d_Rf_apart_1 rfl ?_
  first | refine Run.icmp_le_n d_Rf_apart_2 (by omega) (by omega) (fun c2 => ?_) (fun c2 => ?_) | refine Run.icmp_le d_Rf_apart_2 (fun c2 => ?_) (fun c2 => ?_)
  · refine Run.iload_n d_Rf_apart_11 rfl ?_
    refine Run.iload_n d_Rf_apart_12 rfl ?_
    first | refine Run.isub_n d_Rf_apart_13 (by omega) ?_ | refine Run.isub d_Rf_apart_13 ?_
    refine Run.istore_n d_Rf_apart_14 rfl rfl ?_
    show Run _ _ _ _ _ _ [_, _, _] _ _ _
    refine Run.iload_n d_Rf_apart_15 rfl ?_
    refine Run.iconst (v := nI 4) d_Rf_apart_16 ic_4 ?_
    first | refine Run.icmp_le_n d_Rf_apart_17 (by omega) (by omega) (fun c17 => ?_) (fun c17 => ?_) | refine Run.icmp_le d_Rf_apart_17 (fun c17 => ?_) (fun c17 => ?_)
    · refine Run.iload_n d_Rf_apart_27 rfl ?_
      refine Run.iret d_Rf_apart_28 rfl rfl ?_
      exact ret_n (by rw [← e]; repeat (first | omega | split))
    · refine Run.bipush (v := nI 8) d_Rf_apart_20 bp_8 ?_
      refine Run.iload_n d_Rf_apart_22 rfl ?_
      first | refine Run.isub_n d_Rf_apart_23 (by omega) ?_ | refine Run.isub d_Rf_apart_23 ?_
      refine Run.goto d_Rf_apart_24 ?_
      refine Run.iret d_Rf_apart_28 rfl rfl ?_
      exact ret_n (by rw [← e]; repeat (first | omega | split))
  · refine Run.iload_n d_Rf_apart_5 rfl ?_
    refine Run.iload_n d_Rf_apart_6 rfl ?_
    first | refine Run.isub_n d_Rf_apart_7 (by omega) ?_ | refine Run.isub d_Rf_apart_7 ?_
    refine Run.goto d_Rf_apart_8 ?_
    refine Run.istore_n d_Rf_apart_14 rfl rfl ?_
    show Run _ _ _ _ _ _ [_, _, _] _ _ _
    refine Run.iload_n d_Rf_apart_15 rfl ?_
    refine Run.iconst (v := nI 4) d_Rf_apart_16 ic_4 ?_
    first | refine Run.icmp_le_n d_Rf_apart_17 (by omega) (by omega) (fun c17 => ?_) (fun c17 => ?_) | refine Run.icmp_le d_Rf_apart_17 (fun c17 => ?_) (fun c17 => ?_)
    · refine Run.iload_n d_Rf_apart_27 rfl ?_
      refine Run.iret d_Rf_apart_28 rfl rfl ?_
      exact ret_n (by rw [← e]; repeat (first | omega | split))
    · refine Run.bipush (v := nI 8) d_Rf_apart_20 bp_8 ?_
      refine Run.iload_n d_Rf_apart_22 rfl ?_
      first | refine Run.isub_n d_Rf_apart_23 (by omega) ?_ | refine Run.isub d_Rf_apart_23 ?_
      refine Run.goto d_Rf_apart_24 ?_
      refine Run.iret d_Rf_apart_28 rfl rfl ?_
      exact ret_n (by rw [← e]; repeat (first | omega | split))
theorem c_Rf_showsBy {t o k q a : Nat} (ht : t < 5) (ho : o < 8) (hk : k < 4) (hq : q < 4) (ha : a < 8) : Call X (d + 1) 0 0 M_Rf_showsBy [.int (nI t), .int (nI o), .int (nI k), .int (nI q), .int (nI a)] h (Ret (.int (bI (showN t o k q a))) h) := by
  show Run X (d + 1) 0 0 M_Rf_showsBy 0 [some (.int (nI t)), some (.int (nI o)), some (.int (nI k)), some (.int (nI q)), some (.int (nI a)), none] [] h _
  have e1 := ap_lt a (o % 8)
  have e2 := ap_lt a ((o + 4) % 8)
  have e3 : o % 8 = o := by omega
  rw [e3] at e1
  have h38 : ∀ z, z = rc k → ¬ q = 3 → ¬ (q = 2 ∧ t = 2) → Run X (d + 1) 0 0 M_Rf_showsBy 38 [some (.int (nI t)), some (.int (nI o)), some (.int (nI k)), some (.int (nI q)), some (.int (nI a)), none] [.int (nI z)] h (Ret (.int (bI (showN t o k q a))) h) := by
    intro z hz q1 q2
    have hz2 := rc_le k
    have e4 : showN t o k q a = (decide (ap a o ≤ z + (if q = 1 then 1 else 0)) || (decide (k = 2) && decide (ap a ((o + 4) % 8) ≤ z + (if q = 1 then 1 else 0)))) := by
      unfold showN
      rw [if_neg q1, if_neg q2, e3, hz]
    rw [e4]
    refine Run.iload_n d_Rf_showsBy_38 rfl ?_
    refine Run.iconst (v := nI 1) d_Rf_showsBy_39 ic_1 ?_
    first | refine Run.icmp_ne_n d_Rf_showsBy_40 (by omega) (by omega) (fun c40 => ?_) (fun c40 => ?_) | refine Run.icmp_ne d_Rf_showsBy_40 (fun c40 => ?_) (fun c40 => ?_)
    · refine Run.iconst (v := nI 0) d_Rf_showsBy_47 ic_0 ?_
      first | refine Run.iadd_n d_Rf_showsBy_48 ?_ | refine Run.iadd d_Rf_showsBy_48 ?_
      refine Run.istore d_Rf_showsBy_49 rfl rfl ?_
      show Run _ _ _ _ _ _ [_, _, _, _, _, _] _ _ _
      refine Run.iload_n d_Rf_showsBy_51 rfl ?_
      refine Run.iload d_Rf_showsBy_52 rfl ?_
      refine Run.S2r d_Rf_showsBy_54 lk_Rf_111 cm_Rf_apart st_Rf_apart (Nat.le_of_ble_eq_true rfl) (Nat.le_of_ble_eq_true rfl) (c_Rf_apart (by omega) (by omega)) ?_
      refine Run.iload d_Rf_showsBy_57 rfl ?_
      first | refine Run.icmp_le_n d_Rf_showsBy_59 (by omega) (by omega) (fun c59 => ?_) (fun c59 => ?_) | refine Run.icmp_le d_Rf_showsBy_59 (fun c59 => ?_) (fun c59 => ?_)
      · refine Run.iconst (v := nI 1) d_Rf_showsBy_83 ic_1 ?_
        refine Run.goto d_Rf_showsBy_84 ?_
        refine Run.iret d_Rf_showsBy_88 rfl (by first | exact bI_nar _ | decide +kernel) ?_
        first | exact ret_t (by simp_all; done) | exact ret_t (by simp_all; omega) | exact ret_f (by simp_all; done) | exact ret_f (by simp_all; omega)
      · refine Run.iload_n d_Rf_showsBy_62 rfl ?_
        refine Run.iconst (v := nI 2) d_Rf_showsBy_63 ic_2 ?_
        first | refine Run.icmp_ne_n d_Rf_showsBy_64 (by omega) (by omega) (fun c64 => ?_) (fun c64 => ?_) | refine Run.icmp_ne d_Rf_showsBy_64 (fun c64 => ?_) (fun c64 => ?_)
        · refine Run.iconst (v := nI 0) d_Rf_showsBy_87 ic_0 ?_
          refine Run.iret d_Rf_showsBy_88 rfl (by first | exact bI_nar _ | decide +kernel) ?_
          first | exact ret_t (by simp_all; done) | exact ret_t (by simp_all; omega) | exact ret_f (by simp_all; done) | exact ret_f (by simp_all; omega)
        · refine Run.iload_n d_Rf_showsBy_67 rfl ?_
          refine Run.iconst (v := nI 4) d_Rf_showsBy_68 ic_4 ?_
          first | refine Run.iadd_n d_Rf_showsBy_69 ?_ | refine Run.iadd d_Rf_showsBy_69 ?_
          refine Run.bipush (v := nI 8) d_Rf_showsBy_70 bp_8 ?_
          first | refine Run.irem_n d_Rf_showsBy_72 (by omega) (by omega) (by omega) ?_ | refine Run.irem d_Rf_showsBy_72 (by decide +kernel) ?_
          refine Run.iload d_Rf_showsBy_73 rfl ?_
          refine Run.S2r d_Rf_showsBy_75 lk_Rf_111 cm_Rf_apart st_Rf_apart (Nat.le_of_ble_eq_true rfl) (Nat.le_of_ble_eq_true rfl) (c_Rf_apart (by omega) (by omega)) ?_
          refine Run.iload d_Rf_showsBy_78 rfl ?_
          first | refine Run.icmp_gt_n d_Rf_showsBy_80 (by omega) (by omega) (fun c80 => ?_) (fun c80 => ?_) | refine Run.icmp_gt d_Rf_showsBy_80 (fun c80 => ?_) (fun c80 => ?_)
          · refine Run.iconst (v := nI 0) d_Rf_showsBy_87 ic_0 ?_
            refine Run.iret d_Rf_showsBy_88 rfl (by first | exact bI_nar _ | decide +kernel) ?_
            first | exact ret_t (by simp_all; done) | exact ret_t (by simp_all; omega) | exact ret_f (by simp_all; done) | exact ret_f (by simp_all; omega)
          · refine Run.iconst (v := nI 1) d_Rf_showsBy_83 ic_1 ?_
            refine Run.goto d_Rf_showsBy_84 ?_
            refine Run.iret d_Rf_showsBy_88 rfl (by first | exact bI_nar _ | decide +kernel) ?_
            first | exact ret_t (by simp_all; done) | exact ret_t (by simp_all; omega) | exact ret_f (by simp_all; done) | exact ret_f (by simp_all; omega)
    · refine Run.iconst (v := nI 1) d_Rf_showsBy_43 ic_1 ?_
      refine Run.goto d_Rf_showsBy_44 ?_
      first | refine Run.iadd_n d_Rf_showsBy_48 ?_ | refine Run.iadd d_Rf_showsBy_48 ?_
      refine Run.istore d_Rf_showsBy_49 rfl rfl ?_
      show Run _ _ _ _ _ _ [_, _, _, _, _, _] _ _ _
      refine Run.iload_n d_Rf_showsBy_51 rfl ?_
      refine Run.iload d_Rf_showsBy_52 rfl ?_
      refine Run.S2r d_Rf_showsBy_54 lk_Rf_111 cm_Rf_apart st_Rf_apart (Nat.le_of_ble_eq_true rfl) (Nat.le_of_ble_eq_true rfl) (c_Rf_apart (by omega) (by omega)) ?_
      refine Run.iload d_Rf_showsBy_57 rfl ?_
      first | refine Run.icmp_le_n d_Rf_showsBy_59 (by omega) (by omega) (fun c59 => ?_) (fun c59 => ?_) | refine Run.icmp_le d_Rf_showsBy_59 (fun c59 => ?_) (fun c59 => ?_)
      · refine Run.iconst (v := nI 1) d_Rf_showsBy_83 ic_1 ?_
        refine Run.goto d_Rf_showsBy_84 ?_
        refine Run.iret d_Rf_showsBy_88 rfl (by first | exact bI_nar _ | decide +kernel) ?_
        first | exact ret_t (by simp_all; done) | exact ret_t (by simp_all; omega) | exact ret_f (by simp_all; done) | exact ret_f (by simp_all; omega)
      · refine Run.iload_n d_Rf_showsBy_62 rfl ?_
        refine Run.iconst (v := nI 2) d_Rf_showsBy_63 ic_2 ?_
        first | refine Run.icmp_ne_n d_Rf_showsBy_64 (by omega) (by omega) (fun c64 => ?_) (fun c64 => ?_) | refine Run.icmp_ne d_Rf_showsBy_64 (fun c64 => ?_) (fun c64 => ?_)
        · refine Run.iconst (v := nI 0) d_Rf_showsBy_87 ic_0 ?_
          refine Run.iret d_Rf_showsBy_88 rfl (by first | exact bI_nar _ | decide +kernel) ?_
          first | exact ret_t (by simp_all; done) | exact ret_t (by simp_all; omega) | exact ret_f (by simp_all; done) | exact ret_f (by simp_all; omega)
        · refine Run.iload_n d_Rf_showsBy_67 rfl ?_
          refine Run.iconst (v := nI 4) d_Rf_showsBy_68 ic_4 ?_
          first | refine Run.iadd_n d_Rf_showsBy_69 ?_ | refine Run.iadd d_Rf_showsBy_69 ?_
          refine Run.bipush (v := nI 8) d_Rf_showsBy_70 bp_8 ?_
          first | refine Run.irem_n d_Rf_showsBy_72 (by omega) (by omega) (by omega) ?_ | refine Run.irem d_Rf_showsBy_72 (by decide +kernel) ?_
          refine Run.iload d_Rf_showsBy_73 rfl ?_
          refine Run.S2r d_Rf_showsBy_75 lk_Rf_111 cm_Rf_apart st_Rf_apart (Nat.le_of_ble_eq_true rfl) (Nat.le_of_ble_eq_true rfl) (c_Rf_apart (by omega) (by omega)) ?_
          refine Run.iload d_Rf_showsBy_78 rfl ?_
          first | refine Run.icmp_gt_n d_Rf_showsBy_80 (by omega) (by omega) (fun c80 => ?_) (fun c80 => ?_) | refine Run.icmp_gt d_Rf_showsBy_80 (fun c80 => ?_) (fun c80 => ?_)
          · refine Run.iconst (v := nI 0) d_Rf_showsBy_87 ic_0 ?_
            refine Run.iret d_Rf_showsBy_88 rfl (by first | exact bI_nar _ | decide +kernel) ?_
            first | exact ret_t (by simp_all; done) | exact ret_t (by simp_all; omega) | exact ret_f (by simp_all; done) | exact ret_f (by simp_all; omega)
          · refine Run.iconst (v := nI 1) d_Rf_showsBy_83 ic_1 ?_
            refine Run.goto d_Rf_showsBy_84 ?_
            refine Run.iret d_Rf_showsBy_88 rfl (by first | exact bI_nar _ | decide +kernel) ?_
            first | exact ret_t (by simp_all; done) | exact ret_t (by simp_all; omega) | exact ret_f (by simp_all; done) | exact ret_f (by simp_all; omega)
  refine Run.iload_n d_Rf_showsBy_0 rfl ?_
  refine Run.iconst (v := nI 3) d_Rf_showsBy_1 ic_3 ?_
  first | refine Run.icmp_ne_n d_Rf_showsBy_2 (by omega) (by omega) (fun c2 => ?_) (fun c2 => ?_) | refine Run.icmp_ne d_Rf_showsBy_2 (fun c2 => ?_) (fun c2 => ?_)
  · refine Run.iload_n d_Rf_showsBy_7 rfl ?_
    refine Run.iconst (v := nI 2) d_Rf_showsBy_8 ic_2 ?_
    first | refine Run.icmp_ne_n d_Rf_showsBy_9 (by omega) (by omega) (fun c9 => ?_) (fun c9 => ?_) | refine Run.icmp_ne d_Rf_showsBy_9 (fun c9 => ?_) (fun c9 => ?_)
    · refine Run.iload_n d_Rf_showsBy_19 rfl ?_
      refine Run.iconst (v := nI 1) d_Rf_showsBy_20 ic_1 ?_
      first | refine Run.icmp_ne_n d_Rf_showsBy_21 (by omega) (by omega) (fun c21 => ?_) (fun c21 => ?_) | refine Run.icmp_ne d_Rf_showsBy_21 (fun c21 => ?_) (fun c21 => ?_)
      · refine Run.iload_n d_Rf_showsBy_28 rfl ?_
        refine Run.iconst (v := nI 3) d_Rf_showsBy_29 ic_3 ?_
        first | refine Run.icmp_ne_n d_Rf_showsBy_30 (by omega) (by omega) (fun c30 => ?_) (fun c30 => ?_) | refine Run.icmp_ne d_Rf_showsBy_30 (fun c30 => ?_) (fun c30 => ?_)
        · refine Run.iconst (v := nI 1) d_Rf_showsBy_37 ic_1 ?_
          exact h38 _ (by simp_all [rc]) (by omega) (by omega)
        · refine Run.iconst (v := nI 2) d_Rf_showsBy_33 ic_2 ?_
          refine Run.goto d_Rf_showsBy_34 ?_
          exact h38 _ (by simp_all [rc]) (by omega) (by omega)
      · refine Run.iconst (v := nI 0) d_Rf_showsBy_24 ic_0 ?_
        refine Run.goto d_Rf_showsBy_25 ?_
        exact h38 _ (by simp_all [rc]) (by omega) (by omega)
    · refine Run.iload_n d_Rf_showsBy_12 rfl ?_
      refine Run.iconst (v := nI 2) d_Rf_showsBy_13 ic_2 ?_
      first | refine Run.icmp_ne_n d_Rf_showsBy_14 (by omega) (by omega) (fun c14 => ?_) (fun c14 => ?_) | refine Run.icmp_ne d_Rf_showsBy_14 (fun c14 => ?_) (fun c14 => ?_)
      · refine Run.iload_n d_Rf_showsBy_19 rfl ?_
        refine Run.iconst (v := nI 1) d_Rf_showsBy_20 ic_1 ?_
        first | refine Run.icmp_ne_n d_Rf_showsBy_21 (by omega) (by omega) (fun c21 => ?_) (fun c21 => ?_) | refine Run.icmp_ne d_Rf_showsBy_21 (fun c21 => ?_) (fun c21 => ?_)
        · refine Run.iload_n d_Rf_showsBy_28 rfl ?_
          refine Run.iconst (v := nI 3) d_Rf_showsBy_29 ic_3 ?_
          first | refine Run.icmp_ne_n d_Rf_showsBy_30 (by omega) (by omega) (fun c30 => ?_) (fun c30 => ?_) | refine Run.icmp_ne d_Rf_showsBy_30 (fun c30 => ?_) (fun c30 => ?_)
          · refine Run.iconst (v := nI 1) d_Rf_showsBy_37 ic_1 ?_
            exact h38 _ (by simp_all [rc]) (by omega) (by omega)
          · refine Run.iconst (v := nI 2) d_Rf_showsBy_33 ic_2 ?_
            refine Run.goto d_Rf_showsBy_34 ?_
            exact h38 _ (by simp_all [rc]) (by omega) (by omega)
        · refine Run.iconst (v := nI 0) d_Rf_showsBy_24 ic_0 ?_
          refine Run.goto d_Rf_showsBy_25 ?_
          exact h38 _ (by simp_all [rc]) (by omega) (by omega)
      · refine Run.iconst (v := nI 1) d_Rf_showsBy_17 ic_1 ?_
        refine Run.iret d_Rf_showsBy_18 rfl (by first | exact bI_nar _ | decide +kernel) ?_
        first | exact ret_f (by unfold showN; rw [if_pos c2]) | exact ret_t (by unfold showN; rw [if_neg (by omega), if_pos (by omega)])
  · refine Run.iconst (v := nI 0) d_Rf_showsBy_5 ic_0 ?_
    refine Run.iret d_Rf_showsBy_6 rfl (by first | exact bI_nar _ | decide +kernel) ?_
    first | exact ret_f (by unfold showN; rw [if_pos c2]) | exact ret_t (by unfold showN; rw [if_neg (by omega), if_pos (by omega)])
theorem c_Rf_showsTo {i j a : Nat} (hc : coOK c) (hr : RfAt h c) (hi : i < npC c) (hj : j < nhC c) (ha : a < 8) : Call X (d + 2) 0 0 M_Rf_showsTo [.ref 44, .int (nI i), .int (nI j), .int (nI a)] h (Ret (.int (bI (sh c i j a))) h) := by
  show Run X (d + 2) 0 0 M_Rf_showsTo 0 [some (.ref 44), some (.int (nI i)), some (.int (nI j)), some (.int (nI a))] [] h _
  obtain ⟨ts, pl, rl, rh, rp, ac, tu, sd, mm, mf, rm, rf, fh, fp, g0, g1, g2, hv1, hv2⟩ := hr
  obtain ⟨b1, b2, b3, b4⟩ := hc
  refine Run.aload_n d_Rf_showsTo_0 rfl ?_
  refine Run.getf d_Rf_showsTo_1 fl_Rf_16 (by first | rfl | assumption) (by rfl) ?_
  refine Run.iconst (v := nI 3) d_Rf_showsTo_4 ic_3 ?_
  refine Run.iload_n d_Rf_showsTo_5 rfl ?_
  first | refine Run.imul_n d_Rf_showsTo_6 ?_ | refine Run.imul d_Rf_showsTo_6 ?_
  refine Run.iald_n d_Rf_showsTo_7 (by first | rfl | assumption) (by omega) (by omega) ?_
  rw [(hv2 i hi).1]
  refine Run.aload_n d_Rf_showsTo_8 rfl ?_
  refine Run.getf d_Rf_showsTo_9 fl_Rf_16 (by first | rfl | assumption) (by rfl) ?_
  refine Run.iconst (v := nI 3) d_Rf_showsTo_12 ic_3 ?_
  refine Run.iload_n d_Rf_showsTo_13 rfl ?_
  first | refine Run.imul_n d_Rf_showsTo_14 ?_ | refine Run.imul d_Rf_showsTo_14 ?_
  refine Run.iconst (v := nI 1) d_Rf_showsTo_15 ic_1 ?_
  first | refine Run.iadd_n d_Rf_showsTo_16 ?_ | refine Run.iadd d_Rf_showsTo_16 ?_
  refine Run.iald_n d_Rf_showsTo_17 (by first | rfl | assumption) (by omega) (by omega) ?_
  rw [(hv2 i hi).2.1]
  refine Run.aload_n d_Rf_showsTo_18 rfl ?_
  refine Run.getf d_Rf_showsTo_19 fl_Rf_16 (by first | rfl | assumption) (by rfl) ?_
  refine Run.iconst (v := nI 3) d_Rf_showsTo_22 ic_3 ?_
  refine Run.iload_n d_Rf_showsTo_23 rfl ?_
  first | refine Run.imul_n d_Rf_showsTo_24 ?_ | refine Run.imul d_Rf_showsTo_24 ?_
  refine Run.iconst (v := nI 2) d_Rf_showsTo_25 ic_2 ?_
  first | refine Run.iadd_n d_Rf_showsTo_26 ?_ | refine Run.iadd d_Rf_showsTo_26 ?_
  refine Run.iald_n d_Rf_showsTo_27 (by first | rfl | assumption) (by omega) (by omega) ?_
  rw [(hv2 i hi).2.2]
  refine Run.aload_n d_Rf_showsTo_28 rfl ?_
  refine Run.getf d_Rf_showsTo_29 fl_Rf_13 (by first | rfl | assumption) (by rfl) ?_
  refine Run.iload_n d_Rf_showsTo_32 rfl ?_
  refine Run.iald_n d_Rf_showsTo_33 (by first | rfl | assumption) (by omega) (by omega) ?_
  rw [hv1 j hj]
  refine Run.iload_n d_Rf_showsTo_34 rfl ?_
  refine Run.S5r d_Rf_showsTo_35 lk_Rf_115 cm_Rf_showsBy st_Rf_showsBy (Nat.le_of_ble_eq_true rfl) (Nat.le_of_ble_eq_true rfl) (c_Rf_showsBy (b4 i hi).1 (b4 i hi).2.1 (b4 i hi).2.2 (b3 j hj) ha) ?_
  refine Run.iret d_Rf_showsTo_38 rfl (by first | exact bI_nar _ | decide +kernel) ?_
  exact ⟨rfl, rfl⟩
theorem c_Rf_angleOf {i : Nat} (hc : coOK c) (hp : pgOK c p) (hg : PgAt h k c p) (hi : i < npC c) : Call X d 0 0 M_Rf_angleOf [.ref (k + 1), .int (nI i)] h (Ret (.int (nI (angN p i))) h) := by
  show Run X d 0 0 M_Rf_angleOf 0 [some (.ref (k + 1)), some (.int (nI i))] [] h _
  obtain ⟨f, g0, hv1, hv2, hv3⟩ := hg
  have b2 := hc.2.1
  have w1 := (hp.2.2 i hi).1
  have w2 := hp.1
  refine Run.aload_n d_Rf_angleOf_0 rfl ?_
  refine Run.iconst (v := nI 0) d_Rf_angleOf_1 ic_0 ?_
  refine Run.iload_n d_Rf_angleOf_2 rfl ?_
  first | refine Run.iadd_n d_Rf_angleOf_3 ?_ | refine Run.iadd d_Rf_angleOf_3 ?_
  rw [Nat.zero_add]
  refine Run.iald_n d_Rf_angleOf_4 (by first | rfl | assumption) (by omega) (by omega) ?_
  rw [(hv1 i hi).1]
  refine Run.aload_n d_Rf_angleOf_5 rfl ?_
  refine Run.bipush (v := nI 12) d_Rf_angleOf_6 bp_12 ?_
  refine Run.iald_n d_Rf_angleOf_8 (by first | rfl | assumption) (by omega) (by omega) ?_
  rw [hv2]
  first | refine Run.iadd_n d_Rf_angleOf_9 ?_ | refine Run.iadd d_Rf_angleOf_9 ?_
  refine Run.bipush (v := nI 8) d_Rf_angleOf_10 bp_8 ?_
  first | refine Run.irem_n d_Rf_angleOf_12 (by omega) (by omega) (by omega) ?_ | refine Run.irem d_Rf_angleOf_12 (by decide +kernel) ?_
  refine Run.iret d_Rf_angleOf_13 rfl rfl ?_
  exact ⟨rfl, rfl⟩
theorem c_Rf_isShown {i : Nat} (hc : coOK c) (hp : pgOK c p) (hr : RfAt h c) (hg : PgAt h k c p) (hi : i < npC c) : Call X (d + 3) 0 0 M_Rf_isShown [.ref 44, .ref (k + 1), .int (nI i)] h (Ret (.int (bI (sh c i (pgW p i) (angN p i)))) h) := by
  show Run X (d + 3) 0 0 M_Rf_isShown 0 [some (.ref 44), some (.ref (k + 1)), some (.int (nI i))] [] h _
  obtain ⟨ts, pl, rl, rh, rp, ac, tu, sd, mm, mf, rm, rf, fh, fp, g0, g1, g2, hu1, hu2⟩ := id hr
  obtain ⟨f, s0, hv1, hv2, hv3⟩ := id hg
  have b2 := hc.2.1
  refine Run.aload_n d_Rf_isShown_0 rfl ?_
  refine Run.iload_n d_Rf_isShown_1 rfl ?_
  refine Run.aload_n d_Rf_isShown_2 rfl ?_
  refine Run.bipush (v := nI 6) d_Rf_isShown_3 bp_6 ?_
  refine Run.iload_n d_Rf_isShown_5 rfl ?_
  first | refine Run.iadd_n d_Rf_isShown_6 ?_ | refine Run.iadd d_Rf_isShown_6 ?_
  refine Run.iald_n d_Rf_isShown_7 (by first | rfl | assumption) (by omega) (by omega) ?_
  rw [(hv1 i hi).2]
  refine Run.aload_n d_Rf_isShown_8 rfl ?_
  refine Run.iload_n d_Rf_isShown_9 rfl ?_
  refine Run.S2r d_Rf_isShown_10 lk_Rf_119 cm_Rf_angleOf st_Rf_angleOf (Nat.le_of_ble_eq_true rfl) (Nat.le_of_ble_eq_true rfl) (c_Rf_angleOf hc hp hg hi) ?_
  refine Run.V3r d_Rf_isShown_13 lk_Rf_123 cm_Rf_showsTo iv_Rf_showsTo rfl (by first | rfl | assumption) (Nat.le_of_ble_eq_true rfl) (Nat.le_of_ble_eq_true rfl) (c_Rf_showsTo hc hr hi (hp.2.2 i hi).2 (Nat.mod_lt _ (by omega))) ?_
  refine Run.iret d_Rf_isShown_16 rfl (by first | exact bI_nar _ | decide +kernel) ?_
  exact ⟨rfl, rfl⟩
theorem c_Rf_seesOf {j s : Nat} (hc : coOK c) (hp : pgOK c p) (hr : RfAt h c) (hg : PgAt h k c p) (hj : j < 100) (hs : s < 2 ^ 31) : Call X (d + 4) 0 0 M_Rf_seesOf [.ref 44, .ref (k + 1), .int (nI j), .int (nI s)] h (Ret (.int (nI (sesN c p j s))) h) := by
  show Run X (d + 4) 0 0 M_Rf_seesOf 0 [some (.ref 44), some (.ref (k + 1)), some (.int (nI j)), some (.int (nI s)), none, none] [] h _
  obtain ⟨ts, pl, rl, rh, rp, ac, tu, sd, mm, mf, rm, rf, fh, fp, g0, g1, g2, hu1, hu2⟩ := id hr
  obtain ⟨f, s0, hv1, hv2, hv3⟩ := id hg
  obtain ⟨b1, b2, b3, b4⟩ := id hc
  refine Run.iconst (v := nI 0) d_Rf_seesOf_0 ic_0 ?_
  refine Run.istore d_Rf_seesOf_1 rfl rfl ?_
  show Run _ _ _ _ _ _ [_, _, _, _, _, _] _ _ _
  refine Run.iconst (v := nI 0) d_Rf_seesOf_3 ic_0 ?_
  refine Run.istore d_Rf_seesOf_4 rfl rfl ?_
  show Run _ _ _ _ _ _ [_, _, _, _, _, _] _ _ _
  refine upto (npC c) (fun i => Run X (d + 4) 0 0 M_Rf_seesOf 6 [some (.ref 44), some (.ref (k + 1)), some (.int (nI j)), some (.int (nI s)), some (.int (nI (itN (sesF c p j s) 0 i))), some (.int (nI i))] [] h _) ?_ 0 (Nat.zero_le _)
  intro i hi ih
  refine Run.iload d_Rf_seesOf_6 rfl ?_
  refine Run.aload_n d_Rf_seesOf_8 rfl ?_
  refine Run.getf d_Rf_seesOf_9 fl_Rf_70 (by first | rfl | assumption) (by rfl) ?_
  first | refine Run.icmp_ge_n d_Rf_seesOf_12 (by omega) (by omega) (fun c12 => ?_) (fun c12 => ?_) | refine Run.icmp_ge d_Rf_seesOf_12 (fun c12 => ?_) (fun c12 => ?_)
  · refine Run.iload d_Rf_seesOf_71 rfl ?_
    refine Run.iret d_Rf_seesOf_73 rfl rfl ?_
    exact ret_n (by rw [show i = npC c by omega]; rfl)
  · refine Run.iload d_Rf_seesOf_15 rfl ?_
    refine Run.iload_n d_Rf_seesOf_17 rfl ?_
    refine Run.iload d_Rf_seesOf_18 rfl ?_
    refine Run.S2r d_Rf_seesOf_20 lk_Rf_127 cm_Rf_has st_Rf_has (Nat.le_of_ble_eq_true rfl) (Nat.le_of_ble_eq_true rfl) (c_Rf_has (by omega) (by omega)) ?_
    first | refine Run.if_eq_b d_Rf_seesOf_23 (fun c23 => ?_) (fun c23 => ?_) | refine Run.if_eq_n d_Rf_seesOf_23 (by omega) (fun c23 => ?_) (fun c23 => ?_) | refine Run.if_eq d_Rf_seesOf_23 (fun c23 => ?_) (fun c23 => ?_)
    · refine Run.iconst (v := nI 0) d_Rf_seesOf_61 ic_0 ?_
      first | refine Run.ior_n d_Rf_seesOf_62 ?_ | refine Run.ior d_Rf_seesOf_62 ?_
      refine Run.istore d_Rf_seesOf_63 rfl rfl ?_
      show Run _ _ _ _ _ _ [_, _, _, _, _, _] _ _ _
      first | refine Run.iinc_n d_Rf_seesOf_65 ic_1 rfl rfl ?_ | refine Run.iinc d_Rf_seesOf_65 rfl rfl rfl ?_
      show Run _ _ _ _ _ _ [_, _, _, _, _, _] _ _ _
      refine Run.goto d_Rf_seesOf_68 ?_
      first
      | (refine run_cg ?_ (ih c12); simp [itN, sesF, c23]; done)
      | (refine run_cg ?_ (ih c12); simp [itN, sesF, c34]; done)
      | (refine run_cg ?_ (ih c12); simp [itN, sesF, c44]; done)
      | (refine run_cg ?_ (ih c12); simp [itN, sesF, c23, c34, c44]; done)
    · refine Run.aload_n d_Rf_seesOf_26 rfl ?_
      refine Run.bipush (v := nI 6) d_Rf_seesOf_27 bp_6 ?_
      refine Run.iload d_Rf_seesOf_29 rfl ?_
      first | refine Run.iadd_n d_Rf_seesOf_31 ?_ | refine Run.iadd d_Rf_seesOf_31 ?_
      refine Run.iald_n d_Rf_seesOf_32 (by first | rfl | assumption) (by omega) (by omega) ?_
      rw [(hv1 i c12).2]
      have w1 := (hp.2.2 i c12).2
      refine Run.iload_n d_Rf_seesOf_33 rfl ?_
      first | refine Run.icmp_ne_n d_Rf_seesOf_34 (by omega) (by omega) (fun c34 => ?_) (fun c34 => ?_) | refine Run.icmp_ne d_Rf_seesOf_34 (fun c34 => ?_) (fun c34 => ?_)
      · refine Run.iconst (v := nI 0) d_Rf_seesOf_61 ic_0 ?_
        first | refine Run.ior_n d_Rf_seesOf_62 ?_ | refine Run.ior d_Rf_seesOf_62 ?_
        refine Run.istore d_Rf_seesOf_63 rfl rfl ?_
        show Run _ _ _ _ _ _ [_, _, _, _, _, _] _ _ _
        first | refine Run.iinc_n d_Rf_seesOf_65 ic_1 rfl rfl ?_ | refine Run.iinc d_Rf_seesOf_65 rfl rfl rfl ?_
        show Run _ _ _ _ _ _ [_, _, _, _, _, _] _ _ _
        refine Run.goto d_Rf_seesOf_68 ?_
        first
        | (refine run_cg ?_ (ih c12); simp [itN, sesF, c23]; done)
        | (refine run_cg ?_ (ih c12); simp [itN, sesF, c34]; done)
        | (refine run_cg ?_ (ih c12); simp [itN, sesF, c44]; done)
        | (refine run_cg ?_ (ih c12); simp [itN, sesF, c23, c34, c44]; done)
      · refine Run.aload_n d_Rf_seesOf_37 rfl ?_
        refine Run.aload_n d_Rf_seesOf_38 rfl ?_
        refine Run.iload d_Rf_seesOf_39 rfl ?_
        refine Run.V2r d_Rf_seesOf_41 lk_Rf_131 cm_Rf_isShown iv_Rf_isShown rfl (by first | rfl | assumption) (Nat.le_of_ble_eq_true rfl) (Nat.le_of_ble_eq_true rfl) (c_Rf_isShown hc hp hr hg c12) ?_
        rw [c34]
        first | refine Run.if_eq_b d_Rf_seesOf_44 (fun c44 => ?_) (fun c44 => ?_) | refine Run.if_eq_n d_Rf_seesOf_44 (by omega) (fun c44 => ?_) (fun c44 => ?_) | refine Run.if_eq d_Rf_seesOf_44 (fun c44 => ?_) (fun c44 => ?_)
        · refine Run.iconst (v := nI 0) d_Rf_seesOf_61 ic_0 ?_
          first | refine Run.ior_n d_Rf_seesOf_62 ?_ | refine Run.ior d_Rf_seesOf_62 ?_
          refine Run.istore d_Rf_seesOf_63 rfl rfl ?_
          show Run _ _ _ _ _ _ [_, _, _, _, _, _] _ _ _
          first | refine Run.iinc_n d_Rf_seesOf_65 ic_1 rfl rfl ?_ | refine Run.iinc d_Rf_seesOf_65 rfl rfl rfl ?_
          show Run _ _ _ _ _ _ [_, _, _, _, _, _] _ _ _
          refine Run.goto d_Rf_seesOf_68 ?_
          first
          | (refine run_cg ?_ (ih c12); simp [itN, sesF, c23]; done)
          | (refine run_cg ?_ (ih c12); simp [itN, sesF, c34]; done)
          | (refine run_cg ?_ (ih c12); simp [itN, sesF, c44]; done)
          | (refine run_cg ?_ (ih c12); simp [itN, sesF, c23, c34, c44]; done)
        · refine Run.iconst (v := nI 1) d_Rf_seesOf_47 ic_1 ?_
          refine Run.aload_n d_Rf_seesOf_48 rfl ?_
          refine Run.getf d_Rf_seesOf_49 fl_Rf_16 (by first | rfl | assumption) (by rfl) ?_
          refine Run.iconst (v := nI 3) d_Rf_seesOf_52 ic_3 ?_
          refine Run.iload d_Rf_seesOf_53 rfl ?_
          first | refine Run.imul_n d_Rf_seesOf_55 ?_ | refine Run.imul d_Rf_seesOf_55 ?_
          refine Run.iald_n d_Rf_seesOf_56 (by first | rfl | assumption) (by omega) (by omega) ?_
          rw [(hu2 i c12).1]
          have w2 := (b4 i c12).1
          have w3 : 2 ^ ptC c i < 2 ^ 5 := Nat.pow_lt_pow_right (by omega) w2
          first | refine Run.ishl_n d_Rf_seesOf_57 (by omega) (by omega) ?_ | refine Run.ishl d_Rf_seesOf_57 ?_
          refine Run.goto d_Rf_seesOf_58 ?_
          first | refine Run.ior_n d_Rf_seesOf_62 ?_ | refine Run.ior d_Rf_seesOf_62 ?_
          refine Run.istore d_Rf_seesOf_63 rfl rfl ?_
          show Run _ _ _ _ _ _ [_, _, _, _, _, _] _ _ _
          first | refine Run.iinc_n d_Rf_seesOf_65 ic_1 rfl rfl ?_ | refine Run.iinc d_Rf_seesOf_65 rfl rfl rfl ?_
          show Run _ _ _ _ _ _ [_, _, _, _, _, _] _ _ _
          refine Run.goto d_Rf_seesOf_68 ?_
          first
          | (refine run_cg ?_ (ih c12); simp [itN, sesF, c23]; done)
          | (refine run_cg ?_ (ih c12); simp [itN, sesF, c34]; done)
          | (refine run_cg ?_ (ih c12); simp [itN, sesF, c44]; done)
          | (refine run_cg ?_ (ih c12); simp [itN, sesF, c23, c34, c44]; done)
theorem c_Rf_lookers (hc : coOK c) (hp : pgOK c p) (hr : RfAt h c) (hg : PgAt h k c p) : Call X (d + 5) 0 0 M_Rf_lookers [.ref 44, .ref (k + 1)] h (Ret (.int (nI (lookN c p))) h) := by
  show Run X (d + 5) 0 0 M_Rf_lookers 0 [some (.ref 44), some (.ref (k + 1)), none, none] [] h _
  obtain ⟨ts, pl, rl, rh, rp, ac, tu, sd, mm, mf, rm, rf, fh, fp, g0, g1, g2, hu1, hu2⟩ := id hr
  obtain ⟨b1, b2, b3, b4⟩ := id hc
  refine Run.iconst (v := nI 0) d_Rf_lookers_0 ic_0 ?_
  refine Run.istore_n d_Rf_lookers_1 rfl rfl ?_
  show Run _ _ _ _ _ _ [_, _, _, _] _ _ _
  refine Run.iconst (v := nI 0) d_Rf_lookers_2 ic_0 ?_
  refine Run.istore_n d_Rf_lookers_3 rfl rfl ?_
  show Run _ _ _ _ _ _ [_, _, _, _] _ _ _
  refine upto (nhC c) (fun i => Run X (d + 5) 0 0 M_Rf_lookers 4 [some (.ref 44), some (.ref (k + 1)), some (.int (nI (itN (lookF c p) 0 i))), some (.int (nI i))] [] h _) ?_ 0 (Nat.zero_le _)
  intro i hi ih
  have w1 := seenN_lt hc p i
  refine Run.iload_n d_Rf_lookers_4 rfl ?_
  refine Run.aload_n d_Rf_lookers_5 rfl ?_
  refine Run.getf d_Rf_lookers_6 fl_Rf_63 (by first | rfl | assumption) (by rfl) ?_
  first | refine Run.icmp_ge_n d_Rf_lookers_9 (by omega) (by omega) (fun c9 => ?_) (fun c9 => ?_) | refine Run.icmp_ge d_Rf_lookers_9 (fun c9 => ?_) (fun c9 => ?_)
  · refine Run.iload_n d_Rf_lookers_43 rfl ?_
    refine Run.iret d_Rf_lookers_44 rfl rfl ?_
    exact ret_n (by rw [show i = nhC c by omega]; rfl)
  · refine Run.iload_n d_Rf_lookers_12 rfl ?_
    refine Run.aload_n d_Rf_lookers_13 rfl ?_
    refine Run.aload_n d_Rf_lookers_14 rfl ?_
    refine Run.iload_n d_Rf_lookers_15 rfl ?_
    refine Run.bipush (v := nI 63) d_Rf_lookers_16 bp_63 ?_
    refine Run.V3r d_Rf_lookers_18 lk_Rf_135 cm_Rf_seesOf iv_Rf_seesOf rfl (by first | rfl | assumption) (Nat.le_of_ble_eq_true rfl) (Nat.le_of_ble_eq_true rfl) (c_Rf_seesOf hc hp hr hg (by omega) (by omega)) ?_
    rw [sesN_63 b2]
    refine Run.iconst (v := nI 2) d_Rf_lookers_21 ic_2 ?_
    refine Run.S2r d_Rf_lookers_22 lk_Rf_127 cm_Rf_has st_Rf_has (Nat.le_of_ble_eq_true rfl) (Nat.le_of_ble_eq_true rfl) (c_Rf_has (by omega) (by omega)) ?_
    first | refine Run.if_eq_b d_Rf_lookers_25 (fun c25 => ?_) (fun c25 => ?_) | refine Run.if_eq_n d_Rf_lookers_25 (by omega) (fun c25 => ?_) (fun c25 => ?_) | refine Run.if_eq d_Rf_lookers_25 (fun c25 => ?_) (fun c25 => ?_)
    · refine Run.iconst (v := nI 0) d_Rf_lookers_34 ic_0 ?_
      first | refine Run.ior_n d_Rf_lookers_35 ?_ | refine Run.ior d_Rf_lookers_35 ?_
      refine Run.istore_n d_Rf_lookers_36 rfl rfl ?_
      show Run _ _ _ _ _ _ [_, _, _, _] _ _ _
      first | refine Run.iinc_n d_Rf_lookers_37 ic_1 rfl rfl ?_ | refine Run.iinc d_Rf_lookers_37 rfl rfl rfl ?_
      show Run _ _ _ _ _ _ [_, _, _, _] _ _ _
      refine Run.goto d_Rf_lookers_40 ?_
      exact run_cg (by simp [itN, lookF, c25]) (ih c9)
    · refine Run.iconst (v := nI 1) d_Rf_lookers_28 ic_1 ?_
      refine Run.iload_n d_Rf_lookers_29 rfl ?_
      have w3 : 2 ^ i < 2 ^ 4 := Nat.pow_lt_pow_right (by omega) (by omega)
      first | refine Run.ishl_n d_Rf_lookers_30 (by omega) (by omega) ?_ | refine Run.ishl d_Rf_lookers_30 ?_
      refine Run.goto d_Rf_lookers_31 ?_
      first | refine Run.ior_n d_Rf_lookers_35 ?_ | refine Run.ior d_Rf_lookers_35 ?_
      refine Run.istore_n d_Rf_lookers_36 rfl rfl ?_
      show Run _ _ _ _ _ _ [_, _, _, _] _ _ _
      first | refine Run.iinc_n d_Rf_lookers_37 ic_1 rfl rfl ?_ | refine Run.iinc d_Rf_lookers_37 rfl rfl rfl ?_
      show Run _ _ _ _ _ _ [_, _, _, _] _ _ _
      refine Run.goto d_Rf_lookers_40 ?_
      exact run_cg (by simp [itN, lookF, c25]) (ih c9)
theorem c_Rf_together {s : Nat} (hc : coOK c) (hp : pgOK c p) (hr : RfAt h c) (hg : PgAt h k c p) (hs : s < 2 ^ 31) : Call X (d + 5) 0 0 M_Rf_together [.ref 44, .ref (k + 1), .int (nI s)] h (Ret (.int (nI (tgsN c p s))) h) := by
  show Run X (d + 5) 0 0 M_Rf_together 0 [some (.ref 44), some (.ref (k + 1)), some (.int (nI s)), none, none] [] h _
  obtain ⟨ts, pl, rl, rh, rp, ac, tu, sd, mm, mf, rm, rf, fh, fp, g0, g1, g2, hu1, hu2⟩ := id hr
  obtain ⟨b1, b2, b3, b4⟩ := id hc
  refine Run.iconst (v := nI 0) d_Rf_together_0 ic_0 ?_
  refine Run.istore_n d_Rf_together_1 rfl rfl ?_
  show Run _ _ _ _ _ _ [_, _, _, _, _] _ _ _
  refine Run.iconst (v := nI 0) d_Rf_together_2 ic_0 ?_
  refine Run.istore d_Rf_together_3 rfl rfl ?_
  show Run _ _ _ _ _ _ [_, _, _, _, _] _ _ _
  refine upto (nhC c) (fun i => Run X (d + 5) 0 0 M_Rf_together 5 [some (.ref 44), some (.ref (k + 1)), some (.int (nI s)), some (.int (nI (itN (tgsF c p s) 0 i))), some (.int (nI i))] [] h _) ?_ 0 (Nat.zero_le _)
  intro i hi ih
  refine Run.iload d_Rf_together_5 rfl ?_
  refine Run.aload_n d_Rf_together_7 rfl ?_
  refine Run.getf d_Rf_together_8 fl_Rf_63 (by first | rfl | assumption) (by rfl) ?_
  first | refine Run.icmp_ge_n d_Rf_together_11 (by omega) (by omega) (fun c11 => ?_) (fun c11 => ?_) | refine Run.icmp_ge d_Rf_together_11 (fun c11 => ?_) (fun c11 => ?_)
  · refine Run.iload_n d_Rf_together_31 rfl ?_
    refine Run.iret d_Rf_together_32 rfl rfl ?_
    exact ret_n (by rw [show i = nhC c by omega]; rfl)
  · refine Run.iload_n d_Rf_together_14 rfl ?_
    refine Run.aload_n d_Rf_together_15 rfl ?_
    refine Run.aload_n d_Rf_together_16 rfl ?_
    refine Run.iload d_Rf_together_17 rfl ?_
    refine Run.iload_n d_Rf_together_19 rfl ?_
    refine Run.V3r d_Rf_together_20 lk_Rf_135 cm_Rf_seesOf iv_Rf_seesOf rfl (by first | rfl | assumption) (Nat.le_of_ble_eq_true rfl) (Nat.le_of_ble_eq_true rfl) (c_Rf_seesOf hc hp hr hg (by omega) hs) ?_
    first | refine Run.ior_n d_Rf_together_23 ?_ | refine Run.ior d_Rf_together_23 ?_
    refine Run.istore_n d_Rf_together_24 rfl rfl ?_
    show Run _ _ _ _ _ _ [_, _, _, _, _] _ _ _
    first | refine Run.iinc_n d_Rf_together_25 ic_1 rfl rfl ?_ | refine Run.iinc d_Rf_together_25 rfl rfl rfl ?_
    show Run _ _ _ _ _ _ [_, _, _, _, _] _ _ _
    refine Run.goto d_Rf_together_28 ?_
    exact ih c11
end RSEEN
end
section
/-! ===== pieces held, tilts, finds (the reference) ===== -/
theorem fst5 (P : Nat → Bool) : fstN P 5 = if P 0 = true then some 0 else if P 1 = true then some 1 else if P 2 = true then some 2 else if P 3 = true then some 3 else if P 4 = true then some 4 else none := by
  simp only [fstN]
  cases P 0 <;> cases P 1 <;> cases P 2 <;> cases P 3 <;> cases P 4 <;> rfl
section RFINDS
variable {X : Nat × (Nat → Int32)} {d : Nat} {h : AH} {c : CA} {p : PG} {k : Nat}
theorem c_Rf_heldBy {j : Nat} (hc : coOK c) (hp : pgOK c p) (hr : RfAt h c) (hg : PgAt h k c p) (hj : j < 100) : Call X d 0 0 M_Rf_heldBy [.ref 44, .ref (k + 1), .int (nI j)] h (Ret (.int (nI (heldN c p j))) h) := by
  show Run X d 0 0 M_Rf_heldBy 0 [some (.ref 44), some (.ref (k + 1)), some (.int (nI j)), none, none] [] h _
  obtain ⟨ts, pl, rl, rh, rp, ac, tu, sd, mm, mf, rm, rf, fh, fp, g0, g1, g2, hu1, hu2⟩ := id hr
  obtain ⟨f, s0, hv1, hv2, hv3⟩ := id hg
  obtain ⟨b1, b2, b3, b4⟩ := id hc
  refine Run.iconst (v := nI 0) d_Rf_heldBy_0 ic_0 ?_
  refine Run.istore_n d_Rf_heldBy_1 rfl rfl ?_
  show Run _ _ _ _ _ _ [_, _, _, _, _] _ _ _
  refine Run.iconst (v := nI 0) d_Rf_heldBy_2 ic_0 ?_
  refine Run.istore d_Rf_heldBy_3 rfl rfl ?_
  show Run _ _ _ _ _ _ [_, _, _, _, _] _ _ _
  refine upto (npC c) (fun i => Run X d 0 0 M_Rf_heldBy 5 [some (.ref 44), some (.ref (k + 1)), some (.int (nI j)), some (.int (nI (itN (heldF p j) 0 i))), some (.int (nI i))] [] h _) ?_ 0 (Nat.zero_le _)
  intro i hi ih
  refine Run.iload d_Rf_heldBy_5 rfl ?_
  refine Run.aload_n d_Rf_heldBy_7 rfl ?_
  refine Run.getf d_Rf_heldBy_8 fl_Rf_70 (by first | rfl | assumption) (by rfl) ?_
  first | refine Run.icmp_ge_n d_Rf_heldBy_11 (by omega) (by omega) (fun c11 => ?_) (fun c11 => ?_) | refine Run.icmp_ge d_Rf_heldBy_11 (fun c11 => ?_) (fun c11 => ?_)
  · refine Run.iload_n d_Rf_heldBy_42 rfl ?_
    refine Run.iret d_Rf_heldBy_43 rfl rfl ?_
    exact ret_n (by rw [show i = npC c by omega]; rfl)
  · refine Run.iload_n d_Rf_heldBy_14 rfl ?_
    refine Run.aload_n d_Rf_heldBy_15 rfl ?_
    refine Run.bipush (v := nI 6) d_Rf_heldBy_16 bp_6 ?_
    refine Run.iload d_Rf_heldBy_18 rfl ?_
    first | refine Run.iadd_n d_Rf_heldBy_20 ?_ | refine Run.iadd d_Rf_heldBy_20 ?_
    refine Run.iald_n d_Rf_heldBy_21 (by first | rfl | assumption) (by omega) (by omega) ?_
    rw [(hv1 i c11).2]
    have w1 := (hp.2.2 i c11).2
    refine Run.iload_n d_Rf_heldBy_22 rfl ?_
    first | refine Run.icmp_ne_n d_Rf_heldBy_23 (by omega) (by omega) (fun c23 => ?_) (fun c23 => ?_) | refine Run.icmp_ne d_Rf_heldBy_23 (fun c23 => ?_) (fun c23 => ?_)
    · refine Run.iconst (v := nI 0) d_Rf_heldBy_33 ic_0 ?_
      first | refine Run.ior_n d_Rf_heldBy_34 ?_ | refine Run.ior d_Rf_heldBy_34 ?_
      refine Run.istore_n d_Rf_heldBy_35 rfl rfl ?_
      show Run _ _ _ _ _ _ [_, _, _, _, _] _ _ _
      first | refine Run.iinc_n d_Rf_heldBy_36 ic_1 rfl rfl ?_ | refine Run.iinc d_Rf_heldBy_36 rfl rfl rfl ?_
      show Run _ _ _ _ _ _ [_, _, _, _, _] _ _ _
      refine Run.goto d_Rf_heldBy_39 ?_
      exact run_cg (by simp [itN, heldF, c23]) (ih c11)
    · refine Run.iconst (v := nI 1) d_Rf_heldBy_26 ic_1 ?_
      refine Run.iload d_Rf_heldBy_27 rfl ?_
      have w3 : 2 ^ i < 2 ^ 6 := Nat.pow_lt_pow_right (by omega) (by omega)
      first | refine Run.ishl_n d_Rf_heldBy_29 (by omega) (by omega) ?_ | refine Run.ishl d_Rf_heldBy_29 ?_
      refine Run.goto d_Rf_heldBy_30 ?_
      first | refine Run.ior_n d_Rf_heldBy_34 ?_ | refine Run.ior d_Rf_heldBy_34 ?_
      refine Run.istore_n d_Rf_heldBy_35 rfl rfl ?_
      show Run _ _ _ _ _ _ [_, _, _, _, _] _ _ _
      first | refine Run.iinc_n d_Rf_heldBy_36 ic_1 rfl rfl ?_ | refine Run.iinc d_Rf_heldBy_36 rfl rfl rfl ?_
      show Run _ _ _ _ _ _ [_, _, _, _, _] _ _ _
      refine Run.goto d_Rf_heldBy_39 ?_
      exact run_cg (by simp [itN, heldF, c23]) (ih c11)
theorem c_Rf_partsHeld {j : Nat} (hc : coOK c) (hp : pgOK c p) (hr : RfAt h c) (hg : PgAt h 49 c p) (hj : j < 100) : Call X d 0 0 M_Rf_partsHeld [.ref 44, .int (nI j)] h (Ret (.int (nI (hptN c p j))) h) := by
  show Run X d 0 0 M_Rf_partsHeld 0 [some (.ref 44), some (.int (nI j)), none, none] [] h _
  obtain ⟨ts, pl, rl, rh, rp, ac, tu, sd, mm, mf, rm, rf, fh, fp, g0, g1, g2, hu1, hu2⟩ := id hr
  obtain ⟨f, s0, hv1, hv2, hv3⟩ := id hg
  obtain ⟨b1, b2, b3, b4⟩ := id hc
  refine Run.iconst (v := nI 0) d_Rf_partsHeld_0 ic_0 ?_
  refine Run.istore_n d_Rf_partsHeld_1 rfl rfl ?_
  show Run _ _ _ _ _ _ [_, _, _, _] _ _ _
  refine Run.iconst (v := nI 0) d_Rf_partsHeld_2 ic_0 ?_
  refine Run.istore_n d_Rf_partsHeld_3 rfl rfl ?_
  show Run _ _ _ _ _ _ [_, _, _, _] _ _ _
  refine upto (npC c) (fun i => Run X d 0 0 M_Rf_partsHeld 4 [some (.ref 44), some (.int (nI j)), some (.int (nI (itN (hptF c p j) 0 i))), some (.int (nI i))] [] h _) ?_ 0 (Nat.zero_le _)
  intro i hi ih
  refine Run.iload_n d_Rf_partsHeld_4 rfl ?_
  refine Run.aload_n d_Rf_partsHeld_5 rfl ?_
  refine Run.getf d_Rf_partsHeld_6 fl_Rf_70 (by first | rfl | assumption) (by rfl) ?_
  first | refine Run.icmp_ge_n d_Rf_partsHeld_9 (by omega) (by omega) (fun c9 => ?_) (fun c9 => ?_) | refine Run.icmp_ge d_Rf_partsHeld_9 (fun c9 => ?_) (fun c9 => ?_)
  · refine Run.iload_n d_Rf_partsHeld_48 rfl ?_
    refine Run.iret d_Rf_partsHeld_49 rfl rfl ?_
    exact ret_n (by rw [show i = npC c by omega]; rfl)
  · refine Run.iload_n d_Rf_partsHeld_12 rfl ?_
    refine Run.aload_n d_Rf_partsHeld_13 rfl ?_
    refine Run.getf d_Rf_partsHeld_14 fl_Rf_25 (by first | rfl | assumption) (by rfl) ?_
    refine Run.bipush (v := nI 6) d_Rf_partsHeld_17 bp_6 ?_
    refine Run.iload_n d_Rf_partsHeld_19 rfl ?_
    first | refine Run.iadd_n d_Rf_partsHeld_20 ?_ | refine Run.iadd d_Rf_partsHeld_20 ?_
    refine Run.iald_n d_Rf_partsHeld_21 (by first | rfl | assumption) (by omega) (by omega) ?_
    rw [(hv1 i c9).2]
    have w1 := (hp.2.2 i c9).2
    refine Run.iload_n d_Rf_partsHeld_22 rfl ?_
    first | refine Run.icmp_ne_n d_Rf_partsHeld_23 (by omega) (by omega) (fun c23 => ?_) (fun c23 => ?_) | refine Run.icmp_ne d_Rf_partsHeld_23 (fun c23 => ?_) (fun c23 => ?_)
    · refine Run.iconst (v := nI 0) d_Rf_partsHeld_39 ic_0 ?_
      first | refine Run.ior_n d_Rf_partsHeld_40 ?_ | refine Run.ior d_Rf_partsHeld_40 ?_
      refine Run.istore_n d_Rf_partsHeld_41 rfl rfl ?_
      show Run _ _ _ _ _ _ [_, _, _, _] _ _ _
      first | refine Run.iinc_n d_Rf_partsHeld_42 ic_1 rfl rfl ?_ | refine Run.iinc d_Rf_partsHeld_42 rfl rfl rfl ?_
      show Run _ _ _ _ _ _ [_, _, _, _] _ _ _
      refine Run.goto d_Rf_partsHeld_45 ?_
      exact run_cg (by simp [itN, hptF, c23]) (ih c9)
    · refine Run.iconst (v := nI 1) d_Rf_partsHeld_26 ic_1 ?_
      refine Run.aload_n d_Rf_partsHeld_27 rfl ?_
      refine Run.getf d_Rf_partsHeld_28 fl_Rf_16 (by first | rfl | assumption) (by rfl) ?_
      refine Run.iconst (v := nI 3) d_Rf_partsHeld_31 ic_3 ?_
      refine Run.iload_n d_Rf_partsHeld_32 rfl ?_
      first | refine Run.imul_n d_Rf_partsHeld_33 ?_ | refine Run.imul d_Rf_partsHeld_33 ?_
      refine Run.iald_n d_Rf_partsHeld_34 (by first | rfl | assumption) (by omega) (by omega) ?_
      rw [(hu2 i c9).1]
      have w2 := (b4 i c9).1
      have w3 : 2 ^ ptC c i < 2 ^ 5 := Nat.pow_lt_pow_right (by omega) w2
      first | refine Run.ishl_n d_Rf_partsHeld_35 (by omega) (by omega) ?_ | refine Run.ishl d_Rf_partsHeld_35 ?_
      refine Run.goto d_Rf_partsHeld_36 ?_
      first | refine Run.ior_n d_Rf_partsHeld_40 ?_ | refine Run.ior d_Rf_partsHeld_40 ?_
      refine Run.istore_n d_Rf_partsHeld_41 rfl rfl ?_
      show Run _ _ _ _ _ _ [_, _, _, _] _ _ _
      first | refine Run.iinc_n d_Rf_partsHeld_42 ic_1 rfl rfl ?_ | refine Run.iinc d_Rf_partsHeld_42 rfl rfl rfl ?_
      show Run _ _ _ _ _ _ [_, _, _, _] _ _ _
      refine Run.goto d_Rf_partsHeld_45 ?_
      exact run_cg (by simp [itN, hptF, c23]) (ih c9)
theorem c_Rf_tiltsOf {i j : Nat} (hc : coOK c) (hp : pgOK c p) (hr : RfAt h c) (hg : PgAt h 49 c p) (hi : i < npC c) (hj : j < nhC c) : Call X (d + 3) 0 0 M_Rf_tiltsOf [.ref 44, .int (nI i), .int (nI j)] h (Ret (.int (oI (tiltN c p i j))) h) := by
  show Run X (d + 3) 0 0 M_Rf_tiltsOf 0 [some (.ref 44), some (.int (nI i)), some (.int (nI j)), none, none, none, none] [] h _
  obtain ⟨ts, pl, rl, rh, rp, ac, tu, sd, mm, mf, rm, rf, fh, fp, g0, g1, g2, hu1, hu2⟩ := id hr
  have w1 : angN p i < 8 := Nat.mod_lt _ (by omega)
  have body : ∀ n, n ≤ 4 → ∀ (o : Int32) (v6 : Option Value), (∀ v6, Run X (d + 3) 0 0 M_Rf_tiltsOf 77 [some (.ref 44), some (.int (nI i)), some (.int (nI j)), some (.int (nI (angN p i))), some (.int (if tiltP c p i j n = true then nI n else o)), some (.int (nI n)), v6] [] h (Ret (.int (oI (tiltN c p i j))) h)) → Run X (d + 3) 0 0 M_Rf_tiltsOf 16 [some (.ref 44), some (.int (nI i)), some (.int (nI j)), some (.int (nI (angN p i))), some (.int o), some (.int (nI n)), v6] [] h (Ret (.int (oI (tiltN c p i j))) h) := by
    intro n hn o v6 kk
    have e2 : (angN p i + 8 - n) % 8 = (angN p i + (8 - n)) % 8 := by omega
    refine Run.iload d_Rf_tiltsOf_16 rfl ?_
    refine Run.if_lt d_Rf_tiltsOf_18 (fun c18 => ?_) (fun c18 => ?_)
    · exact absurd c18 (nI_pos (by omega))
    · refine Run.aload_n d_Rf_tiltsOf_21 rfl ?_
      refine Run.iload_n d_Rf_tiltsOf_22 rfl ?_
      refine Run.iload_n d_Rf_tiltsOf_23 rfl ?_
      refine Run.iload_n d_Rf_tiltsOf_24 rfl ?_
      refine Run.iload d_Rf_tiltsOf_25 rfl ?_
      first | refine Run.iadd_n d_Rf_tiltsOf_27 ?_ | refine Run.iadd d_Rf_tiltsOf_27 ?_
      refine Run.bipush (v := nI 8) d_Rf_tiltsOf_28 bp_8 ?_
      first | refine Run.irem_n d_Rf_tiltsOf_30 (by omega) (by omega) (by omega) ?_ | refine Run.irem d_Rf_tiltsOf_30 (by decide +kernel) ?_
      refine Run.V3r d_Rf_tiltsOf_31 lk_Rf_123 cm_Rf_showsTo iv_Rf_showsTo rfl (by first | rfl | assumption) (Nat.le_of_ble_eq_true rfl) (Nat.le_of_ble_eq_true rfl) (c_Rf_showsTo hc hr hi hj (Nat.mod_lt _ (by omega))) ?_
      first | refine Run.if_ne_b d_Rf_tiltsOf_34 (fun c34 => ?_) (fun c34 => ?_) | refine Run.if_ne_n d_Rf_tiltsOf_34 (by omega) (fun c34 => ?_) (fun c34 => ?_) | refine Run.if_ne d_Rf_tiltsOf_34 (fun c34 => ?_) (fun c34 => ?_)
      · refine Run.iconst (v := nI 1) d_Rf_tiltsOf_56 ic_1 ?_
        refine Run.goto d_Rf_tiltsOf_57 ?_
        refine Run.istore d_Rf_tiltsOf_61 rfl rfl ?_
        show Run _ _ _ _ _ _ [_, _, _, _, _, _, _] _ _ _
        refine Run.iload d_Rf_tiltsOf_63 rfl ?_
        first | refine Run.if_eq_b d_Rf_tiltsOf_65 (fun c65 => ?_) (fun c65 => ?_) | refine Run.if_eq_n d_Rf_tiltsOf_65 (by omega) (fun c65 => ?_) (fun c65 => ?_) | refine Run.if_eq d_Rf_tiltsOf_65 (fun c65 => ?_) (fun c65 => ?_)
        · refine Run.iload d_Rf_tiltsOf_73 rfl ?_
          refine Run.istore d_Rf_tiltsOf_75 rfl rfl ?_
          show Run _ _ _ _ _ _ [_, _, _, _, _, _, _] _ _ _
          first | (refine run_cg ?_ (kk (some (.int (nI 1)))); simp_all [tiltP]; done) | (refine run_cg ?_ (kk (some (.int (nI 0)))); simp_all [tiltP]; done)
        · refine Run.iload d_Rf_tiltsOf_68 rfl ?_
          refine Run.goto d_Rf_tiltsOf_70 ?_
          refine Run.istore d_Rf_tiltsOf_75 rfl rfl ?_
          show Run _ _ _ _ _ _ [_, _, _, _, _, _, _] _ _ _
          first | (refine run_cg ?_ (kk (some (.int (nI 1)))); simp_all [tiltP]; done) | (refine run_cg ?_ (kk (some (.int (nI 0)))); simp_all [tiltP]; done)
      · refine Run.aload_n d_Rf_tiltsOf_37 rfl ?_
        refine Run.iload_n d_Rf_tiltsOf_38 rfl ?_
        refine Run.iload_n d_Rf_tiltsOf_39 rfl ?_
        refine Run.iload_n d_Rf_tiltsOf_40 rfl ?_
        refine Run.bipush (v := nI 8) d_Rf_tiltsOf_41 bp_8 ?_
        first | refine Run.iadd_n d_Rf_tiltsOf_43 ?_ | refine Run.iadd d_Rf_tiltsOf_43 ?_
        refine Run.iload d_Rf_tiltsOf_44 rfl ?_
        first | refine Run.isub_n d_Rf_tiltsOf_46 (by omega) ?_ | refine Run.isub d_Rf_tiltsOf_46 ?_
        refine Run.bipush (v := nI 8) d_Rf_tiltsOf_47 bp_8 ?_
        first | refine Run.irem_n d_Rf_tiltsOf_49 (by omega) (by omega) (by omega) ?_ | refine Run.irem d_Rf_tiltsOf_49 (by decide +kernel) ?_
        refine Run.V3r d_Rf_tiltsOf_50 lk_Rf_123 cm_Rf_showsTo iv_Rf_showsTo rfl (by first | rfl | assumption) (Nat.le_of_ble_eq_true rfl) (Nat.le_of_ble_eq_true rfl) (c_Rf_showsTo hc hr hi hj (Nat.mod_lt _ (by omega))) ?_
        rw [e2]
        first | refine Run.if_eq_b d_Rf_tiltsOf_53 (fun c53 => ?_) (fun c53 => ?_) | refine Run.if_eq_n d_Rf_tiltsOf_53 (by omega) (fun c53 => ?_) (fun c53 => ?_) | refine Run.if_eq d_Rf_tiltsOf_53 (fun c53 => ?_) (fun c53 => ?_)
        · refine Run.iconst (v := nI 0) d_Rf_tiltsOf_60 ic_0 ?_
          refine Run.istore d_Rf_tiltsOf_61 rfl rfl ?_
          show Run _ _ _ _ _ _ [_, _, _, _, _, _, _] _ _ _
          refine Run.iload d_Rf_tiltsOf_63 rfl ?_
          first | refine Run.if_eq_b d_Rf_tiltsOf_65 (fun c65 => ?_) (fun c65 => ?_) | refine Run.if_eq_n d_Rf_tiltsOf_65 (by omega) (fun c65 => ?_) (fun c65 => ?_) | refine Run.if_eq d_Rf_tiltsOf_65 (fun c65 => ?_) (fun c65 => ?_)
          · refine Run.iload d_Rf_tiltsOf_73 rfl ?_
            refine Run.istore d_Rf_tiltsOf_75 rfl rfl ?_
            show Run _ _ _ _ _ _ [_, _, _, _, _, _, _] _ _ _
            first | (refine run_cg ?_ (kk (some (.int (nI 1)))); simp_all [tiltP]; done) | (refine run_cg ?_ (kk (some (.int (nI 0)))); simp_all [tiltP]; done)
          · refine Run.iload d_Rf_tiltsOf_68 rfl ?_
            refine Run.goto d_Rf_tiltsOf_70 ?_
            refine Run.istore d_Rf_tiltsOf_75 rfl rfl ?_
            show Run _ _ _ _ _ _ [_, _, _, _, _, _, _] _ _ _
            first | (refine run_cg ?_ (kk (some (.int (nI 1)))); simp_all [tiltP]; done) | (refine run_cg ?_ (kk (some (.int (nI 0)))); simp_all [tiltP]; done)
        · refine Run.iconst (v := nI 1) d_Rf_tiltsOf_56 ic_1 ?_
          refine Run.goto d_Rf_tiltsOf_57 ?_
          refine Run.istore d_Rf_tiltsOf_61 rfl rfl ?_
          show Run _ _ _ _ _ _ [_, _, _, _, _, _, _] _ _ _
          refine Run.iload d_Rf_tiltsOf_63 rfl ?_
          first | refine Run.if_eq_b d_Rf_tiltsOf_65 (fun c65 => ?_) (fun c65 => ?_) | refine Run.if_eq_n d_Rf_tiltsOf_65 (by omega) (fun c65 => ?_) (fun c65 => ?_) | refine Run.if_eq d_Rf_tiltsOf_65 (fun c65 => ?_) (fun c65 => ?_)
          · refine Run.iload d_Rf_tiltsOf_73 rfl ?_
            refine Run.istore d_Rf_tiltsOf_75 rfl rfl ?_
            show Run _ _ _ _ _ _ [_, _, _, _, _, _, _] _ _ _
            first | (refine run_cg ?_ (kk (some (.int (nI 1)))); simp_all [tiltP]; done) | (refine run_cg ?_ (kk (some (.int (nI 0)))); simp_all [tiltP]; done)
          · refine Run.iload d_Rf_tiltsOf_68 rfl ?_
            refine Run.goto d_Rf_tiltsOf_70 ?_
            refine Run.istore d_Rf_tiltsOf_75 rfl rfl ?_
            show Run _ _ _ _ _ _ [_, _, _, _, _, _, _] _ _ _
            first | (refine run_cg ?_ (kk (some (.int (nI 1)))); simp_all [tiltP]; done) | (refine run_cg ?_ (kk (some (.int (nI 0)))); simp_all [tiltP]; done)
  refine Run.aload_n d_Rf_tiltsOf_0 rfl ?_
  refine Run.getf d_Rf_tiltsOf_1 fl_Rf_25 (by first | rfl | assumption) (by rfl) ?_
  refine Run.iload_n d_Rf_tiltsOf_4 rfl ?_
  refine Run.S2r d_Rf_tiltsOf_5 lk_Rf_119 cm_Rf_angleOf st_Rf_angleOf (Nat.le_of_ble_eq_true rfl) (Nat.le_of_ble_eq_true rfl) (c_Rf_angleOf hc hp hg hi) ?_
  refine Run.istore_n d_Rf_tiltsOf_8 rfl rfl ?_
  show Run _ _ _ _ _ _ [_, _, _, _, _, _, _] _ _ _
  refine Run.bipush (v := -9) d_Rf_tiltsOf_9 bp_m9 ?_
  refine Run.istore d_Rf_tiltsOf_11 rfl rfl ?_
  show Run _ _ _ _ _ _ [_, _, _, _, _, _, _] _ _ _
  refine Run.iconst (v := nI 4) d_Rf_tiltsOf_13 ic_4 ?_
  refine Run.istore d_Rf_tiltsOf_14 rfl rfl ?_
  show Run _ _ _ _ _ _ [_, _, _, _, _, _, _] _ _ _
  refine body 4 (by omega) _ _ (fun v6 => ?_)
  first | refine Run.iinc_d d_Rf_tiltsOf_77 ic_m1 rfl rfl ?_ | refine Run.iinc d_Rf_tiltsOf_77 rfl rfl rfl ?_
  show Run _ _ _ _ _ _ [_, _, _, _, _, _, _] _ _ _
  refine Run.goto d_Rf_tiltsOf_80 ?_
  refine body 3 (by omega) _ _ (fun v6 => ?_)
  first | refine Run.iinc_d d_Rf_tiltsOf_77 ic_m1 rfl rfl ?_ | refine Run.iinc d_Rf_tiltsOf_77 rfl rfl rfl ?_
  show Run _ _ _ _ _ _ [_, _, _, _, _, _, _] _ _ _
  refine Run.goto d_Rf_tiltsOf_80 ?_
  refine body 2 (by omega) _ _ (fun v6 => ?_)
  first | refine Run.iinc_d d_Rf_tiltsOf_77 ic_m1 rfl rfl ?_ | refine Run.iinc d_Rf_tiltsOf_77 rfl rfl rfl ?_
  show Run _ _ _ _ _ _ [_, _, _, _, _, _, _] _ _ _
  refine Run.goto d_Rf_tiltsOf_80 ?_
  refine body 1 (by omega) _ _ (fun v6 => ?_)
  first | refine Run.iinc_d d_Rf_tiltsOf_77 ic_m1 rfl rfl ?_ | refine Run.iinc d_Rf_tiltsOf_77 rfl rfl rfl ?_
  show Run _ _ _ _ _ _ [_, _, _, _, _, _, _] _ _ _
  refine Run.goto d_Rf_tiltsOf_80 ?_
  refine body 0 (by omega) _ _ (fun v6 => ?_)
  refine Run.iinc (v := -1) d_Rf_tiltsOf_77 rfl (by decide +kernel) rfl ?_
  show Run _ _ _ _ _ _ [_, _, _, _, _, _, _] _ _ _
  refine Run.goto d_Rf_tiltsOf_80 ?_
  refine Run.iload d_Rf_tiltsOf_16 rfl ?_
  refine Run.if_lt d_Rf_tiltsOf_18 (fun c18 => ?_) (fun c18 => ?_)
  · refine Run.iload d_Rf_tiltsOf_83 rfl ?_
    refine Run.iret d_Rf_tiltsOf_85 rfl rfl ?_
    refine ret_i ?_
    rw [tiltN, fst5]
    cases tiltP c p i j 0 <;> cases tiltP c p i j 1 <;> cases tiltP c p i j 2 <;> cases tiltP c p i j 3 <;> cases tiltP c p i j 4 <;> rfl
  · exact absurd (by decide) c18
theorem c_Rf_findsOf {j t : Nat} (hc : coOK c) (hp : pgOK c p) (hr : RfAt h c) (hg : PgAt h 49 c p) (hj : j < nhC c) (htt : t < 100) : Call X (d + 4) 0 0 M_Rf_findsOf [.ref 44, .int (nI j), .int (nI t)] h (Ret (.int (oI (findN c p j t))) h) := by
  show Run X (d + 4) 0 0 M_Rf_findsOf 0 [some (.ref 44), some (.int (nI j)), some (.int (nI t)), none, none, none] [] h _
  obtain ⟨ts, pl, rl, rh, rp, ac, tu, sd, mm, mf, rm, rf, fh, fp, g0, g1, g2, hu1, hu2⟩ := id hr
  obtain ⟨f, s0, hv1, hv2, hv3⟩ := id hg
  obtain ⟨b1, b2, b3, b4⟩ := id hc
  refine Run.bipush (v := -9) d_Rf_findsOf_0 bp_m9 ?_
  refine Run.istore_n d_Rf_findsOf_2 rfl rfl ?_
  show Run _ _ _ _ _ _ [_, _, _, _, _, _] _ _ _
  refine Run.iconst (v := nI 0) d_Rf_findsOf_3 ic_0 ?_
  refine Run.istore d_Rf_findsOf_4 rfl rfl ?_
  show Run _ _ _ _ _ _ [_, _, _, _, _, _] _ _ _
  refine upto (npC c) (fun i => ∀ v5, Run X (d + 4) 0 0 M_Rf_findsOf 6 [some (.ref 44), some (.int (nI j)), some (.int (nI t)), some (.int (oI (itN (findF c p j t) none i))), some (.int (nI i)), v5] [] h _) ?_ 0 (Nat.zero_le _) _
  intro i hi ih v5
  have h49 : i < npC c → pgW p i = j → ptC c i = t → Run X (d + 4) 0 0 M_Rf_findsOf 49 [some (.ref 44), some (.int (nI j)), some (.int (nI t)), some (.int (oI (itN (findF c p j t) none i))), some (.int (nI i)), v5] [.int (oI (tiltN c p i j))] h (Ret (.int (oI (findN c p j t))) h) := by
    intro c15 c29 c43
    cases hb : tiltN c p i j with
    | none =>
      refine Run.istore d_Rf_findsOf_49 rfl rfl ?_
      show Run _ _ _ _ _ _ [_, _, _, _, _, _] _ _ _
      refine Run.iload d_Rf_findsOf_51 rfl ?_
      refine Run.bipush (v := -9) d_Rf_findsOf_53 bp_m9 ?_
      first | refine Run.icmp_eq_n d_Rf_findsOf_55 (by omega) (by omega) (fun c55 => ?_) (fun c55 => ?_) | refine Run.icmp_eq d_Rf_findsOf_55 (fun c55 => ?_) (fun c55 => ?_)
      · refine Run.iload_n d_Rf_findsOf_75 rfl ?_
        refine Run.istore_n d_Rf_findsOf_76 rfl rfl ?_
        show Run _ _ _ _ _ _ [_, _, _, _, _, _] _ _ _
        first | refine Run.iinc_n d_Rf_findsOf_77 ic_1 rfl rfl ?_ | refine Run.iinc d_Rf_findsOf_77 rfl rfl rfl ?_
        show Run _ _ _ _ _ _ [_, _, _, _, _, _] _ _ _
        refine Run.goto d_Rf_findsOf_80 ?_
        exact run_cg (by simp [itN, findF, c29, c43, hb]) (ih c15 (some (.int (oI none))))
      · exact absurd rfl c55
    | some b =>
      have hb5 := tiltN_lt hb
      cases ha : itN (findF c p j t) none i with
      | none =>
        show Run _ _ _ _ _ _ [_, _, _, some (.int (-9)), _, _] [.int (nI b)] _ _
        refine Run.istore d_Rf_findsOf_49 rfl rfl ?_
        show Run _ _ _ _ _ _ [_, _, _, _, _, _] _ _ _
        refine Run.iload d_Rf_findsOf_51 rfl ?_
        refine Run.bipush (v := -9) d_Rf_findsOf_53 bp_m9 ?_
        first | refine Run.icmp_eq_n d_Rf_findsOf_55 (by omega) (by omega) (fun c55 => ?_) (fun c55 => ?_) | refine Run.icmp_eq d_Rf_findsOf_55 (fun c55 => ?_) (fun c55 => ?_)
        · exact absurd c55 (nI_n9 (by omega))
        · refine Run.iload_n d_Rf_findsOf_58 rfl ?_
          refine Run.bipush (v := -9) d_Rf_findsOf_59 bp_m9 ?_
          first | refine Run.icmp_eq_n d_Rf_findsOf_61 (by omega) (by omega) (fun c61 => ?_) (fun c61 => ?_) | refine Run.icmp_eq d_Rf_findsOf_61 (fun c61 => ?_) (fun c61 => ?_)
          · refine Run.iload d_Rf_findsOf_70 rfl ?_
            refine Run.goto d_Rf_findsOf_72 ?_
            refine Run.istore_n d_Rf_findsOf_76 rfl rfl ?_
            show Run _ _ _ _ _ _ [_, _, _, _, _, _] _ _ _
            first | refine Run.iinc_n d_Rf_findsOf_77 ic_1 rfl rfl ?_ | refine Run.iinc d_Rf_findsOf_77 rfl rfl rfl ?_
            show Run _ _ _ _ _ _ [_, _, _, _, _, _] _ _ _
            refine Run.goto d_Rf_findsOf_80 ?_
            exact run_cg (by simp [itN, findF, c29, c43, hb, ha, oI]) (ih c15 (some (.int (nI b))))
          · exact absurd rfl c61
      | some a =>
        have ha5 := findN_lt i a ha
        show Run _ _ _ _ _ _ [_, _, _, some (.int (nI a)), _, _] [.int (nI b)] _ _
        refine Run.istore d_Rf_findsOf_49 rfl rfl ?_
        show Run _ _ _ _ _ _ [_, _, _, _, _, _] _ _ _
        refine Run.iload d_Rf_findsOf_51 rfl ?_
        refine Run.bipush (v := -9) d_Rf_findsOf_53 bp_m9 ?_
        first | refine Run.icmp_eq_n d_Rf_findsOf_55 (by omega) (by omega) (fun c55 => ?_) (fun c55 => ?_) | refine Run.icmp_eq d_Rf_findsOf_55 (fun c55 => ?_) (fun c55 => ?_)
        · exact absurd c55 (nI_n9 (by omega))
        · refine Run.iload_n d_Rf_findsOf_58 rfl ?_
          refine Run.bipush (v := -9) d_Rf_findsOf_59 bp_m9 ?_
          first | refine Run.icmp_eq_n d_Rf_findsOf_61 (by omega) (by omega) (fun c61 => ?_) (fun c61 => ?_) | refine Run.icmp_eq d_Rf_findsOf_61 (fun c61 => ?_) (fun c61 => ?_)
          · exact absurd c61 (nI_n9 (by omega))
          · refine Run.iload d_Rf_findsOf_64 rfl ?_
            refine Run.iload_n d_Rf_findsOf_66 rfl ?_
            first | refine Run.icmp_ge_n d_Rf_findsOf_67 (by omega) (by omega) (fun c67 => ?_) (fun c67 => ?_) | refine Run.icmp_ge d_Rf_findsOf_67 (fun c67 => ?_) (fun c67 => ?_)
            · refine Run.iload_n d_Rf_findsOf_75 rfl ?_
              refine Run.istore_n d_Rf_findsOf_76 rfl rfl ?_
              show Run _ _ _ _ _ _ [_, _, _, _, _, _] _ _ _
              first | refine Run.iinc_n d_Rf_findsOf_77 ic_1 rfl rfl ?_ | refine Run.iinc d_Rf_findsOf_77 rfl rfl rfl ?_
              show Run _ _ _ _ _ _ [_, _, _, _, _, _] _ _ _
              refine Run.goto d_Rf_findsOf_80 ?_
              first
              | (refine run_cg ?_ (ih c15 (some (.int (nI b)))); simp [itN, findF, c29, c43, hb, ha, oI, c67]; done)
              | (refine run_cg ?_ (ih c15 (some (.int (nI b)))); simp [itN, findF, c29, c43, hb, ha, oI, Nat.not_lt.mpr c67]; done)
            · refine Run.iload d_Rf_findsOf_70 rfl ?_
              refine Run.goto d_Rf_findsOf_72 ?_
              refine Run.istore_n d_Rf_findsOf_76 rfl rfl ?_
              show Run _ _ _ _ _ _ [_, _, _, _, _, _] _ _ _
              first | refine Run.iinc_n d_Rf_findsOf_77 ic_1 rfl rfl ?_ | refine Run.iinc d_Rf_findsOf_77 rfl rfl rfl ?_
              show Run _ _ _ _ _ _ [_, _, _, _, _, _] _ _ _
              refine Run.goto d_Rf_findsOf_80 ?_
              first
              | (refine run_cg ?_ (ih c15 (some (.int (nI b)))); simp [itN, findF, c29, c43, hb, ha, oI, c67]; done)
              | (refine run_cg ?_ (ih c15 (some (.int (nI b)))); simp [itN, findF, c29, c43, hb, ha, oI, Nat.not_lt.mpr c67]; done)
  refine Run.iload d_Rf_findsOf_6 rfl ?_
  refine Run.aload_n d_Rf_findsOf_8 rfl ?_
  refine Run.getf d_Rf_findsOf_9 fl_Rf_70 (by first | rfl | assumption) (by rfl) ?_
  first | refine Run.icmp_ge_n d_Rf_findsOf_12 (by omega) (by omega) (fun c12 => ?_) (fun c12 => ?_) | refine Run.icmp_ge d_Rf_findsOf_12 (fun c12 => ?_) (fun c12 => ?_)
  · refine Run.iload_n d_Rf_findsOf_83 rfl ?_
    refine Run.iret d_Rf_findsOf_84 rfl rfl ?_
    exact ret_i (by rw [show i = npC c by omega]; rfl)
  · refine Run.aload_n d_Rf_findsOf_15 rfl ?_
    refine Run.getf d_Rf_findsOf_16 fl_Rf_25 (by first | rfl | assumption) (by rfl) ?_
    refine Run.bipush (v := nI 6) d_Rf_findsOf_19 bp_6 ?_
    refine Run.iload d_Rf_findsOf_21 rfl ?_
    first | refine Run.iadd_n d_Rf_findsOf_23 ?_ | refine Run.iadd d_Rf_findsOf_23 ?_
    refine Run.iald_n d_Rf_findsOf_24 (by first | rfl | assumption) (by omega) (by omega) ?_
    rw [(hv1 i c12).2]
    have w1 := (hp.2.2 i c12).2
    refine Run.iload_n d_Rf_findsOf_25 rfl ?_
    first | refine Run.icmp_ne_n d_Rf_findsOf_26 (by omega) (by omega) (fun c26 => ?_) (fun c26 => ?_) | refine Run.icmp_ne d_Rf_findsOf_26 (fun c26 => ?_) (fun c26 => ?_)
    · first | refine Run.iinc_n d_Rf_findsOf_77 ic_1 rfl rfl ?_ | refine Run.iinc d_Rf_findsOf_77 rfl rfl rfl ?_
      show Run _ _ _ _ _ _ [_, _, _, _, _, _] _ _ _
      refine Run.goto d_Rf_findsOf_80 ?_
      first
      | (refine run_cg ?_ (ih c12 v5); simp [itN, findF, c26]; done)
      | (refine run_cg ?_ (ih c12 v5); simp [itN, findF, c39]; done)
    · refine Run.aload_n d_Rf_findsOf_29 rfl ?_
      refine Run.getf d_Rf_findsOf_30 fl_Rf_16 (by first | rfl | assumption) (by rfl) ?_
      refine Run.iconst (v := nI 3) d_Rf_findsOf_33 ic_3 ?_
      refine Run.iload d_Rf_findsOf_34 rfl ?_
      first | refine Run.imul_n d_Rf_findsOf_36 ?_ | refine Run.imul d_Rf_findsOf_36 ?_
      refine Run.iald_n d_Rf_findsOf_37 (by first | rfl | assumption) (by omega) (by omega) ?_
      rw [(hu2 i c12).1]
      have w2 := (b4 i c12).1
      refine Run.iload_n d_Rf_findsOf_38 rfl ?_
      first | refine Run.icmp_ne_n d_Rf_findsOf_39 (by omega) (by omega) (fun c39 => ?_) (fun c39 => ?_) | refine Run.icmp_ne d_Rf_findsOf_39 (fun c39 => ?_) (fun c39 => ?_)
      · first | refine Run.iinc_n d_Rf_findsOf_77 ic_1 rfl rfl ?_ | refine Run.iinc d_Rf_findsOf_77 rfl rfl rfl ?_
        show Run _ _ _ _ _ _ [_, _, _, _, _, _] _ _ _
        refine Run.goto d_Rf_findsOf_80 ?_
        first
        | (refine run_cg ?_ (ih c12 v5); simp [itN, findF, c26]; done)
        | (refine run_cg ?_ (ih c12 v5); simp [itN, findF, c39]; done)
      · refine Run.aload_n d_Rf_findsOf_42 rfl ?_
        refine Run.iload d_Rf_findsOf_43 rfl ?_
        refine Run.iload_n d_Rf_findsOf_45 rfl ?_
        refine Run.V2r d_Rf_findsOf_46 lk_Rf_172 cm_Rf_tiltsOf iv_Rf_tiltsOf rfl (by first | rfl | assumption) (Nat.le_of_ble_eq_true rfl) (Nat.le_of_ble_eq_true rfl) (c_Rf_tiltsOf hc hp hr hg c12 hj) ?_
        exact h49 c12 c26 c39
end RFINDS
end
