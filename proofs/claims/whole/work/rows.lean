section
-- ===== PART A: goes FIRST, ahead of the names: the tables' words, and 'selects' of the private methods out of them =====
/-- a private method of a class that the tables say can be made, by its rows of tables_1 -/
def lw_okq (q : MethodName × Nat) : Prop := (q.1.cls ≠ "java/lang/invoke/MethodHandle" ∧ q.1.cls ≠ "java/lang/invoke/VarHandle") ∧ Cond.instantiable q.1.cls q.2 ∈ tables_1 ∧ Cond.privateMethod q.1 ∈ tables_1 ∧ Cond.instanceMethod q.1 ∈ tables_1
theorem lw_p0 : lw_okq (⟨"PearlMother", "whoSeesHerLook", "(LPearlMother$State;)I"⟩, 13) := ⟨⟨by decide +kernel, by decide +kernel⟩, List.mem_of_getElem? (i := 14) (by decide +kernel), List.mem_of_getElem? (i := 299) (by decide +kernel), List.mem_of_getElem? (i := 300) (by decide +kernel)⟩
theorem lw_p1 : lw_okq (⟨"PearlMother", "partsSeen", "(LPearlMother$State;II)I"⟩, 13) := ⟨⟨by decide +kernel, by decide +kernel⟩, List.mem_of_getElem? (i := 14) (by decide +kernel), List.mem_of_getElem? (i := 303) (by decide +kernel), List.mem_of_getElem? (i := 304) (by decide +kernel)⟩
theorem lw_p2 : lw_okq (⟨"PearlMother", "showsAfter", "(LPearlMother$State;III)Z"⟩, 13) := ⟨⟨by decide +kernel, by decide +kernel⟩, List.mem_of_getElem? (i := 14) (by decide +kernel), List.mem_of_getElem? (i := 307) (by decide +kernel), List.mem_of_getElem? (i := 308) (by decide +kernel)⟩
theorem lw_p3 : lw_okq (⟨"PearlMother", "partsSeenTogether", "()I"⟩, 13) := ⟨⟨by decide +kernel, by decide +kernel⟩, List.mem_of_getElem? (i := 14) (by decide +kernel), List.mem_of_getElem? (i := 347) (by decide +kernel), List.mem_of_getElem? (i := 348) (by decide +kernel)⟩
theorem lw_p4 : lw_okq (⟨"PearlMother", "piecesOf", "(I)I"⟩, 13) := ⟨⟨by decide +kernel, by decide +kernel⟩, List.mem_of_getElem? (i := 14) (by decide +kernel), List.mem_of_getElem? (i := 356) (by decide +kernel), List.mem_of_getElem? (i := 357) (by decide +kernel)⟩
theorem lw_p5 : lw_okq (⟨"PearlMother", "takeBack", "(I)V"⟩, 13) := ⟨⟨by decide +kernel, by decide +kernel⟩, List.mem_of_getElem? (i := 14) (by decide +kernel), List.mem_of_getElem? (i := 405) (by decide +kernel), List.mem_of_getElem? (i := 406) (by decide +kernel)⟩
theorem lw_p6 : lw_okq (⟨"PearlMother", "fewestTilts", "(II)I"⟩, 13) := ⟨⟨by decide +kernel, by decide +kernel⟩, List.mem_of_getElem? (i := 14) (by decide +kernel), List.mem_of_getElem? (i := 417) (by decide +kernel), List.mem_of_getElem? (i := 418) (by decide +kernel)⟩
theorem lw_p7 : lw_okq (⟨"PearlMother", "fewestTiltsToSee", "(II)I"⟩, 13) := ⟨⟨by decide +kernel, by decide +kernel⟩, List.mem_of_getElem? (i := 14) (by decide +kernel), List.mem_of_getElem? (i := 425) (by decide +kernel), List.mem_of_getElem? (i := 426) (by decide +kernel)⟩
theorem lw_p8 : lw_okq (⟨"PearlMother", "partsHeld", "(I)I"⟩, 13) := ⟨⟨by decide +kernel, by decide +kernel⟩, List.mem_of_getElem? (i := 14) (by decide +kernel), List.mem_of_getElem? (i := 433) (by decide +kernel), List.mem_of_getElem? (i := 434) (by decide +kernel)⟩
theorem lw_p9 : lw_okq (⟨"PearlMother", "hoursUntilSeen", "(II)I"⟩, 13) := ⟨⟨by decide +kernel, by decide +kernel⟩, List.mem_of_getElem? (i := 14) (by decide +kernel), List.mem_of_getElem? (i := 441) (by decide +kernel), List.mem_of_getElem? (i := 442) (by decide +kernel)⟩
theorem lw_p10 : lw_okq (⟨"PearlMother", "canBeDone", "(I)Z"⟩, 13) := ⟨⟨by decide +kernel, by decide +kernel⟩, List.mem_of_getElem? (i := 14) (by decide +kernel), List.mem_of_getElem? (i := 499) (by decide +kernel), List.mem_of_getElem? (i := 500) (by decide +kernel)⟩
theorem lw_p11 : lw_okq (⟨"PearlMother", "piecesThatShow", "(I)I"⟩, 13) := ⟨⟨by decide +kernel, by decide +kernel⟩, List.mem_of_getElem? (i := 14) (by decide +kernel), List.mem_of_getElem? (i := 510) (by decide +kernel), List.mem_of_getElem? (i := 511) (by decide +kernel)⟩
theorem lw_p12 : lw_okq (⟨"PearlMother", "staysWith", "(IIII)Z"⟩, 13) := ⟨⟨by decide +kernel, by decide +kernel⟩, List.mem_of_getElem? (i := 14) (by decide +kernel), List.mem_of_getElem? (i := 561) (by decide +kernel), List.mem_of_getElem? (i := 562) (by decide +kernel)⟩
theorem lw_p13 : lw_okq (⟨"PearlMother", "worth", "(IIII)I"⟩, 13) := ⟨⟨by decide +kernel, by decide +kernel⟩, List.mem_of_getElem? (i := 14) (by decide +kernel), List.mem_of_getElem? (i := 565) (by decide +kernel), List.mem_of_getElem? (i := 566) (by decide +kernel)⟩
theorem lw_p14 : lw_okq (⟨"PearlMother", "spreadChances", "(II)I"⟩, 13) := ⟨⟨by decide +kernel, by decide +kernel⟩, List.mem_of_getElem? (i := 14) (by decide +kernel), List.mem_of_getElem? (i := 573) (by decide +kernel), List.mem_of_getElem? (i := 574) (by decide +kernel)⟩
theorem lw_p15 : lw_okq (⟨"PearlMother", "befall", "(I)V"⟩, 13) := ⟨⟨by decide +kernel, by decide +kernel⟩, List.mem_of_getElem? (i := 14) (by decide +kernel), List.mem_of_getElem? (i := 588) (by decide +kernel), List.mem_of_getElem? (i := 589) (by decide +kernel)⟩
def lw_privs_1 : List (MethodName × Nat) := [(⟨"PearlMother", "whoSeesHerLook", "(LPearlMother$State;)I"⟩, 13), (⟨"PearlMother", "partsSeen", "(LPearlMother$State;II)I"⟩, 13), (⟨"PearlMother", "showsAfter", "(LPearlMother$State;III)Z"⟩, 13), (⟨"PearlMother", "partsSeenTogether", "()I"⟩, 13), (⟨"PearlMother", "piecesOf", "(I)I"⟩, 13), (⟨"PearlMother", "takeBack", "(I)V"⟩, 13), (⟨"PearlMother", "fewestTilts", "(II)I"⟩, 13), (⟨"PearlMother", "fewestTiltsToSee", "(II)I"⟩, 13), (⟨"PearlMother", "partsHeld", "(I)I"⟩, 13), (⟨"PearlMother", "hoursUntilSeen", "(II)I"⟩, 13), (⟨"PearlMother", "canBeDone", "(I)Z"⟩, 13), (⟨"PearlMother", "piecesThatShow", "(I)I"⟩, 13), (⟨"PearlMother", "staysWith", "(IIII)Z"⟩, 13), (⟨"PearlMother", "worth", "(IIII)I"⟩, 13), (⟨"PearlMother", "spreadChances", "(II)I"⟩, 13), (⟨"PearlMother", "befall", "(I)V"⟩, 13)]
theorem lw_r1 : ∀ q ∈ lw_privs_1, lw_okq q := List.forall_mem_cons.mpr ⟨lw_p0, List.forall_mem_cons.mpr ⟨lw_p1, List.forall_mem_cons.mpr ⟨lw_p2, List.forall_mem_cons.mpr ⟨lw_p3, List.forall_mem_cons.mpr ⟨lw_p4, List.forall_mem_cons.mpr ⟨lw_p5, List.forall_mem_cons.mpr ⟨lw_p6, List.forall_mem_cons.mpr ⟨lw_p7, List.forall_mem_cons.mpr ⟨lw_p8, List.forall_mem_cons.mpr ⟨lw_p9, List.forall_mem_cons.mpr ⟨lw_p10, List.forall_mem_cons.mpr ⟨lw_p11, List.forall_mem_cons.mpr ⟨lw_p12, List.forall_mem_cons.mpr ⟨lw_p13, List.forall_mem_cons.mpr ⟨lw_p14, List.forall_mem_cons.mpr ⟨lw_p15, fun _ h => absurd h List.not_mem_nil⟩⟩⟩⟩⟩⟩⟩⟩⟩⟩⟩⟩⟩⟩⟩⟩
theorem lw_p16 : lw_okq (⟨"PearlMotherModel", "readCoast", "()I"⟩, 31) := ⟨⟨by decide +kernel, by decide +kernel⟩, List.mem_of_getElem? (i := 600) (by decide +kernel), List.mem_of_getElem? (i := 716) (by decide +kernel), List.mem_of_getElem? (i := 717) (by decide +kernel)⟩
theorem lw_p17 : lw_okq (⟨"PearlMotherModel", "figure", "(I)I"⟩, 31) := ⟨⟨by decide +kernel, by decide +kernel⟩, List.mem_of_getElem? (i := 600) (by decide +kernel), List.mem_of_getElem? (i := 720) (by decide +kernel), List.mem_of_getElem? (i := 721) (by decide +kernel)⟩
theorem lw_p18 : lw_okq (⟨"PearlMotherModel", "readThing", "()Z"⟩, 31) := ⟨⟨by decide +kernel, by decide +kernel⟩, List.mem_of_getElem? (i := 600) (by decide +kernel), List.mem_of_getElem? (i := 724) (by decide +kernel), List.mem_of_getElem? (i := 725) (by decide +kernel)⟩
theorem lw_p19 : lw_okq (⟨"PearlMotherModel", "readOneHolder", "()Z"⟩, 31) := ⟨⟨by decide +kernel, by decide +kernel⟩, List.mem_of_getElem? (i := 600) (by decide +kernel), List.mem_of_getElem? (i := 728) (by decide +kernel), List.mem_of_getElem? (i := 729) (by decide +kernel)⟩
theorem lw_p20 : lw_okq (⟨"PearlMotherModel", "readOnePiece", "()Z"⟩, 31) := ⟨⟨by decide +kernel, by decide +kernel⟩, List.mem_of_getElem? (i := 600) (by decide +kernel), List.mem_of_getElem? (i := 732) (by decide +kernel), List.mem_of_getElem? (i := 733) (by decide +kernel)⟩
theorem lw_p21 : lw_okq (⟨"PearlMotherModel", "lookers", "([I)I"⟩, 31) := ⟨⟨by decide +kernel, by decide +kernel⟩, List.mem_of_getElem? (i := 600) (by decide +kernel), List.mem_of_getElem? (i := 744) (by decide +kernel), List.mem_of_getElem? (i := 745) (by decide +kernel)⟩
theorem lw_p22 : lw_okq (⟨"PearlMotherModel", "seesOf", "([III)I"⟩, 31) := ⟨⟨by decide +kernel, by decide +kernel⟩, List.mem_of_getElem? (i := 600) (by decide +kernel), List.mem_of_getElem? (i := 748) (by decide +kernel), List.mem_of_getElem? (i := 749) (by decide +kernel)⟩
theorem lw_p23 : lw_okq (⟨"PearlMotherModel", "isShown", "([II)Z"⟩, 31) := ⟨⟨by decide +kernel, by decide +kernel⟩, List.mem_of_getElem? (i := 600) (by decide +kernel), List.mem_of_getElem? (i := 755) (by decide +kernel), List.mem_of_getElem? (i := 756) (by decide +kernel)⟩
theorem lw_p24 : lw_okq (⟨"PearlMotherModel", "showsTo", "(III)Z"⟩, 31) := ⟨⟨by decide +kernel, by decide +kernel⟩, List.mem_of_getElem? (i := 600) (by decide +kernel), List.mem_of_getElem? (i := 762) (by decide +kernel), List.mem_of_getElem? (i := 763) (by decide +kernel)⟩
theorem lw_p25 : lw_okq (⟨"PearlMotherModel", "together", "([II)I"⟩, 31) := ⟨⟨by decide +kernel, by decide +kernel⟩, List.mem_of_getElem? (i := 600) (by decide +kernel), List.mem_of_getElem? (i := 772) (by decide +kernel), List.mem_of_getElem? (i := 773) (by decide +kernel)⟩
theorem lw_p26 : lw_okq (⟨"PearlMotherModel", "noHolder", "(I)Z"⟩, 31) := ⟨⟨by decide +kernel, by decide +kernel⟩, List.mem_of_getElem? (i := 600) (by decide +kernel), List.mem_of_getElem? (i := 780) (by decide +kernel), List.mem_of_getElem? (i := 781) (by decide +kernel)⟩
theorem lw_p27 : lw_okq (⟨"PearlMotherModel", "heldBy", "([II)I"⟩, 31) := ⟨⟨by decide +kernel, by decide +kernel⟩, List.mem_of_getElem? (i := 600) (by decide +kernel), List.mem_of_getElem? (i := 784) (by decide +kernel), List.mem_of_getElem? (i := 785) (by decide +kernel)⟩
theorem lw_p28 : lw_okq (⟨"PearlMotherModel", "noPiece", "(I)Z"⟩, 31) := ⟨⟨by decide +kernel, by decide +kernel⟩, List.mem_of_getElem? (i := 600) (by decide +kernel), List.mem_of_getElem? (i := 792) (by decide +kernel), List.mem_of_getElem? (i := 793) (by decide +kernel)⟩
theorem lw_p29 : lw_okq (⟨"PearlMotherModel", "note", "()V"⟩, 31) := ⟨⟨by decide +kernel, by decide +kernel⟩, List.mem_of_getElem? (i := 600) (by decide +kernel), List.mem_of_getElem? (i := 805) (by decide +kernel), List.mem_of_getElem? (i := 806) (by decide +kernel)⟩
theorem lw_p30 : lw_okq (⟨"PearlMotherModel", "tiltsOf", "(II)I"⟩, 31) := ⟨⟨by decide +kernel, by decide +kernel⟩, List.mem_of_getElem? (i := 600) (by decide +kernel), List.mem_of_getElem? (i := 831) (by decide +kernel), List.mem_of_getElem? (i := 832) (by decide +kernel)⟩
theorem lw_p31 : lw_okq (⟨"PearlMotherModel", "findsOf", "(II)I"⟩, 31) := ⟨⟨by decide +kernel, by decide +kernel⟩, List.mem_of_getElem? (i := 600) (by decide +kernel), List.mem_of_getElem? (i := 840) (by decide +kernel), List.mem_of_getElem? (i := 841) (by decide +kernel)⟩
def lw_privs_2 : List (MethodName × Nat) := [(⟨"PearlMotherModel", "readCoast", "()I"⟩, 31), (⟨"PearlMotherModel", "figure", "(I)I"⟩, 31), (⟨"PearlMotherModel", "readThing", "()Z"⟩, 31), (⟨"PearlMotherModel", "readOneHolder", "()Z"⟩, 31), (⟨"PearlMotherModel", "readOnePiece", "()Z"⟩, 31), (⟨"PearlMotherModel", "lookers", "([I)I"⟩, 31), (⟨"PearlMotherModel", "seesOf", "([III)I"⟩, 31), (⟨"PearlMotherModel", "isShown", "([II)Z"⟩, 31), (⟨"PearlMotherModel", "showsTo", "(III)Z"⟩, 31), (⟨"PearlMotherModel", "together", "([II)I"⟩, 31), (⟨"PearlMotherModel", "noHolder", "(I)Z"⟩, 31), (⟨"PearlMotherModel", "heldBy", "([II)I"⟩, 31), (⟨"PearlMotherModel", "noPiece", "(I)Z"⟩, 31), (⟨"PearlMotherModel", "note", "()V"⟩, 31), (⟨"PearlMotherModel", "tiltsOf", "(II)I"⟩, 31), (⟨"PearlMotherModel", "findsOf", "(II)I"⟩, 31)]
theorem lw_r2 : ∀ q ∈ lw_privs_2, lw_okq q := List.forall_mem_cons.mpr ⟨lw_p16, List.forall_mem_cons.mpr ⟨lw_p17, List.forall_mem_cons.mpr ⟨lw_p18, List.forall_mem_cons.mpr ⟨lw_p19, List.forall_mem_cons.mpr ⟨lw_p20, List.forall_mem_cons.mpr ⟨lw_p21, List.forall_mem_cons.mpr ⟨lw_p22, List.forall_mem_cons.mpr ⟨lw_p23, List.forall_mem_cons.mpr ⟨lw_p24, List.forall_mem_cons.mpr ⟨lw_p25, List.forall_mem_cons.mpr ⟨lw_p26, List.forall_mem_cons.mpr ⟨lw_p27, List.forall_mem_cons.mpr ⟨lw_p28, List.forall_mem_cons.mpr ⟨lw_p29, List.forall_mem_cons.mpr ⟨lw_p30, List.forall_mem_cons.mpr ⟨lw_p31, fun _ h => absurd h List.not_mem_nil⟩⟩⟩⟩⟩⟩⟩⟩⟩⟩⟩⟩⟩⟩⟩⟩
theorem lw_p32 : lw_okq (⟨"PearlMotherModel", "partsHeld", "(I)I"⟩, 31) := ⟨⟨by decide +kernel, by decide +kernel⟩, List.mem_of_getElem? (i := 600) (by decide +kernel), List.mem_of_getElem? (i := 848) (by decide +kernel), List.mem_of_getElem? (i := 849) (by decide +kernel)⟩
theorem lw_p33 : lw_okq (⟨"PearlMotherModel", "begin", "()V"⟩, 31) := ⟨⟨by decide +kernel, by decide +kernel⟩, List.mem_of_getElem? (i := 600) (by decide +kernel), List.mem_of_getElem? (i := 856) (by decide +kernel), List.mem_of_getElem? (i := 857) (by decide +kernel)⟩
theorem lw_p34 : lw_okq (⟨"PearlMotherModel", "isLaid", "(II)Z"⟩, 31) := ⟨⟨by decide +kernel, by decide +kernel⟩, List.mem_of_getElem? (i := 600) (by decide +kernel), List.mem_of_getElem? (i := 867) (by decide +kernel), List.mem_of_getElem? (i := 868) (by decide +kernel)⟩
theorem lw_p35 : lw_okq (⟨"PearlMotherModel", "mayBeOne", "(II)Z"⟩, 31) := ⟨⟨by decide +kernel, by decide +kernel⟩, List.mem_of_getElem? (i := 600) (by decide +kernel), List.mem_of_getElem? (i := 871) (by decide +kernel), List.mem_of_getElem? (i := 872) (by decide +kernel)⟩
theorem lw_p36 : lw_okq (⟨"PearlMotherModel", "does", "(I)Z"⟩, 31) := ⟨⟨by decide +kernel, by decide +kernel⟩, List.mem_of_getElem? (i := 600) (by decide +kernel), List.mem_of_getElem? (i := 890) (by decide +kernel), List.mem_of_getElem? (i := 891) (by decide +kernel)⟩
theorem lw_p37 : lw_okq (⟨"PearlMotherModel", "mayBe", "(I)Z"⟩, 31) := ⟨⟨by decide +kernel, by decide +kernel⟩, List.mem_of_getElem? (i := 600) (by decide +kernel), List.mem_of_getElem? (i := 920) (by decide +kernel), List.mem_of_getElem? (i := 921) (by decide +kernel)⟩
theorem lw_p38 : lw_okq (⟨"PearlMotherModel", "greatest", "(I)I"⟩, 31) := ⟨⟨by decide +kernel, by decide +kernel⟩, List.mem_of_getElem? (i := 600) (by decide +kernel), List.mem_of_getElem? (i := 931) (by decide +kernel), List.mem_of_getElem? (i := 932) (by decide +kernel)⟩
def lw_privs_3 : List (MethodName × Nat) := [(⟨"PearlMotherModel", "partsHeld", "(I)I"⟩, 31), (⟨"PearlMotherModel", "begin", "()V"⟩, 31), (⟨"PearlMotherModel", "isLaid", "(II)Z"⟩, 31), (⟨"PearlMotherModel", "mayBeOne", "(II)Z"⟩, 31), (⟨"PearlMotherModel", "does", "(I)Z"⟩, 31), (⟨"PearlMotherModel", "mayBe", "(I)Z"⟩, 31), (⟨"PearlMotherModel", "greatest", "(I)I"⟩, 31)]
theorem lw_r3 : ∀ q ∈ lw_privs_3, lw_okq q := List.forall_mem_cons.mpr ⟨lw_p32, List.forall_mem_cons.mpr ⟨lw_p33, List.forall_mem_cons.mpr ⟨lw_p34, List.forall_mem_cons.mpr ⟨lw_p35, List.forall_mem_cons.mpr ⟨lw_p36, List.forall_mem_cons.mpr ⟨lw_p37, List.forall_mem_cons.mpr ⟨lw_p38, fun _ h => absurd h List.not_mem_nil⟩⟩⟩⟩⟩⟩⟩
def lw_privs : List (MethodName × Nat) := lw_privs_1 ++ (lw_privs_2 ++ (lw_privs_3))
def lw_tbl : List Cond := k2_sels lw_privs ++ tables_1
theorem lw_privs_ok : ∀ q ∈ lw_privs, lw_okq q := by
  show ∀ q ∈ lw_privs_1 ++ (lw_privs_2 ++ (lw_privs_3)), lw_okq q
  exact List.forall_mem_append.mpr ⟨lw_r1, List.forall_mem_append.mpr ⟨lw_r2, lw_r3⟩⟩
-- ===== names =====
def TB : List Cond := lw_tbl.filter goodWord
theorem tb_mem {w : Cond} (i : Nat) (h : lw_tbl[i]? = some w) (hg : goodWord w = true) : w ∈ TB := List.mem_filter.mpr ⟨List.mem_of_getElem? h, hg⟩
abbrev MR : Type := MethodName × ByteArray × Nat × Option FieldType
def CN_Ac : String := "PearlMother$Acts"
def CT_Ac : u_T := fun k => match k with
  | 0 => ("PearlMother$Acts", "row", "[I", true)
  | _ => ("PearlMother$Acts", "count", "I", false)
def Cy_Ac : Nat → FieldType := fun k => match k with
  | 0 => .array .int
  | _ => .int
theorem Cn_Ac : ∀ a, a < 2 → ∀ b, b < 2 → a ≠ b → (CT_Ac a).2.1 ≠ (CT_Ac b).2.1 := by decide +kernel
theorem Ck_Ac : ∀ k, k < 2 → parseFieldDescriptor (CT_Ac k).2.2.1 = some (Cy_Ac k) := by decide +kernel
set_option maxRecDepth 20000 in
theorem Ci_Ac : ∀ w ∈ u_ws CN_Ac CT_Ac 2, w ∈ TB := by
  have h : u_ws CN_Ac CT_Ac 2 = [156, 158].filterMap (fun i => lw_tbl[i]?) := by decide +kernel
  have hg : (u_ws CN_Ac CT_Ac 2).all goodWord = true := by decide +kernel
  intro w hw
  have h1 := List.all_eq_true.mp hg w hw
  rw [h] at hw
  obtain ⟨i, -, hi⟩ := List.mem_filterMap.mp hw
  exact tb_mem i hi h1
def CN_Co : String := "PearlMother$Coast"
def CT_Co : u_T := fun k => match k with
  | 0 => ("PearlMother$Coast", "holderKind", "[I", true)
  | 1 => ("PearlMother$Coast", "part", "[I", true)
  | 2 => ("PearlMother$Coast", "angle", "[I", true)
  | 3 => ("PearlMother$Coast", "kind", "[I", true)
  | 4 => ("PearlMother$Coast", "heldBy", "[I", true)
  | 5 => ("PearlMother$Coast", "light", "I", false)
  | 6 => ("PearlMother$Coast", "holders", "I", false)
  | _ => ("PearlMother$Coast", "pieces", "I", false)
def Cy_Co : Nat → FieldType := fun k => match k with
  | 0 => .array .int
  | 1 => .array .int
  | 2 => .array .int
  | 3 => .array .int
  | 4 => .array .int
  | 5 => .int
  | 6 => .int
  | _ => .int
theorem Cn_Co : ∀ a, a < 8 → ∀ b, b < 8 → a ≠ b → (CT_Co a).2.1 ≠ (CT_Co b).2.1 := by decide +kernel
theorem Ck_Co : ∀ k, k < 8 → parseFieldDescriptor (CT_Co k).2.2.1 = some (Cy_Co k) := by decide +kernel
set_option maxRecDepth 20000 in
theorem Ci_Co : ∀ w ∈ u_ws CN_Co CT_Co 8, w ∈ TB := by
  have h : u_ws CN_Co CT_Co 8 = [103, 105, 107, 109, 111, 113, 115, 117].filterMap (fun i => lw_tbl[i]?) := by decide +kernel
  have hg : (u_ws CN_Co CT_Co 8).all goodWord = true := by decide +kernel
  intro w hw
  have h1 := List.all_eq_true.mp hg w hw
  rw [h] at hw
  obtain ⟨i, -, hi⟩ := List.mem_filterMap.mp hw
  exact tb_mem i hi h1
def CN_Gi : String := "PearlMother$Givings"
def CT_Gi : u_T := fun k => match k with
  | 0 => ("PearlMother$Givings", "part", "[I", true)
  | 1 => ("PearlMother$Givings", "seers", "[I", true)
  | 2 => ("PearlMother$Givings", "hope", "[I", true)
  | 3 => ("PearlMother$Givings", "holders", "I", false)
  | 4 => ("PearlMother$Givings", "pieces", "I", false)
  | 5 => ("PearlMother$Givings", "most", "I", false)
  | _ => ("PearlMother$Givings", "way", "I", false)
def Cy_Gi : Nat → FieldType := fun k => match k with
  | 0 => .array .int
  | 1 => .array .int
  | 2 => .array .int
  | 3 => .int
  | 4 => .int
  | 5 => .int
  | _ => .int
theorem Cn_Gi : ∀ a, a < 7 → ∀ b, b < 7 → a ≠ b → (CT_Gi a).2.1 ≠ (CT_Gi b).2.1 := by decide +kernel
theorem Ck_Gi : ∀ k, k < 7 → parseFieldDescriptor (CT_Gi k).2.2.1 = some (Cy_Gi k) := by decide +kernel
set_option maxRecDepth 20000 in
theorem Ci_Gi : ∀ w ∈ u_ws CN_Gi CT_Gi 7, w ∈ TB := by
  have h : u_ws CN_Gi CT_Gi 7 = [209, 211, 213, 215, 217, 219, 221].filterMap (fun i => lw_tbl[i]?) := by decide +kernel
  have hg : (u_ws CN_Gi CT_Gi 7).all goodWord = true := by decide +kernel
  intro w hw
  have h1 := List.all_eq_true.mp hg w hw
  rw [h] at hw
  obtain ⟨i, -, hi⟩ := List.mem_filterMap.mp hw
  exact tb_mem i hi h1
def CN_Mo : String := "PearlMother$Mothers"
def CT_Mo : u_T := fun k => match k with
  | 0 => ("PearlMother$Mothers", "isRow", "[Z", true)
  | _ => ("PearlMother$Mothers", "fewest", "[I", true)
def Cy_Mo : Nat → FieldType := fun k => match k with
  | 0 => .array .boolean
  | _ => .array .int
theorem Cn_Mo : ∀ a, a < 2 → ∀ b, b < 2 → a ≠ b → (CT_Mo a).2.1 ≠ (CT_Mo b).2.1 := by decide +kernel
theorem Ck_Mo : ∀ k, k < 2 → parseFieldDescriptor (CT_Mo k).2.2.1 = some (Cy_Mo k) := by decide +kernel
set_option maxRecDepth 20000 in
theorem Ci_Mo : ∀ w ∈ u_ws CN_Mo CT_Mo 2, w ∈ TB := by
  have h : u_ws CN_Mo CT_Mo 2 = [233, 235].filterMap (fun i => lw_tbl[i]?) := by decide +kernel
  have hg : (u_ws CN_Mo CT_Mo 2).all goodWord = true := by decide +kernel
  intro w hw
  have h1 := List.all_eq_true.mp hg w hw
  rw [h] at hw
  obtain ⟨i, -, hi⟩ := List.mem_filterMap.mp hw
  exact tb_mem i hi h1
def CN_St : String := "PearlMother$State"
def CT_St : u_T := fun k => match k with
  | 0 => ("PearlMother$State", "tilt", "[I", true)
  | 1 => ("PearlMother$State", "heldBy", "[I", true)
  | 2 => ("PearlMother$State", "light", "I", false)
  | 3 => ("PearlMother$State", "hour", "I", false)
  | _ => ("PearlMother$State", "kept", "Z", false)
def Cy_St : Nat → FieldType := fun k => match k with
  | 0 => .array .int
  | 1 => .array .int
  | 2 => .int
  | 3 => .int
  | _ => .boolean
theorem Cn_St : ∀ a, a < 5 → ∀ b, b < 5 → a ≠ b → (CT_St a).2.1 ≠ (CT_St b).2.1 := by decide +kernel
theorem Ck_St : ∀ k, k < 5 → parseFieldDescriptor (CT_St k).2.2.1 = some (Cy_St k) := by decide +kernel
set_option maxRecDepth 20000 in
theorem Ci_St : ∀ w ∈ u_ws CN_St CT_St 5, w ∈ TB := by
  have h : u_ws CN_St CT_St 5 = [135, 137, 139, 141, 143].filterMap (fun i => lw_tbl[i]?) := by decide +kernel
  have hg : (u_ws CN_St CT_St 5).all goodWord = true := by decide +kernel
  intro w hw
  have h1 := List.all_eq_true.mp hg w hw
  rw [h] at hw
  obtain ⟨i, -, hi⟩ := List.mem_filterMap.mp hw
  exact tb_mem i hi h1
def CN_Te : String := "PearlMother$Text"
def CT_Te : u_T := fun k => match k with
  | 0 => ("PearlMother$Text", "bytes", "[I", true)
  | _ => ("PearlMother$Text", "length", "I", false)
def Cy_Te : Nat → FieldType := fun k => match k with
  | 0 => .array .int
  | _ => .int
theorem Cn_Te : ∀ a, a < 2 → ∀ b, b < 2 → a ≠ b → (CT_Te a).2.1 ≠ (CT_Te b).2.1 := by decide +kernel
theorem Ck_Te : ∀ k, k < 2 → parseFieldDescriptor (CT_Te k).2.2.1 = some (Cy_Te k) := by decide +kernel
set_option maxRecDepth 20000 in
theorem Ci_Te : ∀ w ∈ u_ws CN_Te CT_Te 2, w ∈ TB := by
  have h : u_ws CN_Te CT_Te 2 = [69, 71].filterMap (fun i => lw_tbl[i]?) := by decide +kernel
  have hg : (u_ws CN_Te CT_Te 2).all goodWord = true := by decide +kernel
  intro w hw
  have h1 := List.all_eq_true.mp hg w hw
  rw [h] at hw
  obtain ⟨i, -, hi⟩ := List.mem_filterMap.mp hw
  exact tb_mem i hi h1
def CN_Tu : String := "PearlMother$Turned"
def CT_Tu : u_T := fun k => match k with
  | 0 => ("PearlMother$Turned", "angles", "[I", true)
  | 1 => ("PearlMother$Turned", "answers", "[I", true)
  | 2 => ("PearlMother$Turned", "count", "I", false)
  | 3 => ("PearlMother$Turned", "fitting", "I", false)
  | 4 => ("PearlMother$Turned", "first", "I", false)
  | _ => ("PearlMother$Turned", "alike", "[I", true)
def Cy_Tu : Nat → FieldType := fun k => match k with
  | 0 => .array .int
  | 1 => .array .int
  | 2 => .int
  | 3 => .int
  | 4 => .int
  | _ => .array .int
theorem Cn_Tu : ∀ a, a < 6 → ∀ b, b < 6 → a ≠ b → (CT_Tu a).2.1 ≠ (CT_Tu b).2.1 := by decide +kernel
theorem Ck_Tu : ∀ k, k < 6 → parseFieldDescriptor (CT_Tu k).2.2.1 = some (Cy_Tu k) := by decide +kernel
set_option maxRecDepth 20000 in
theorem Ci_Tu : ∀ w ∈ u_ws CN_Tu CT_Tu 6, w ∈ TB := by
  have h : u_ws CN_Tu CT_Tu 6 = [176, 178, 180, 182, 184, 186].filterMap (fun i => lw_tbl[i]?) := by decide +kernel
  have hg : (u_ws CN_Tu CT_Tu 6).all goodWord = true := by decide +kernel
  intro w hw
  have h1 := List.all_eq_true.mp hg w hw
  rw [h] at hw
  obtain ⟨i, -, hi⟩ := List.mem_filterMap.mp hw
  exact tb_mem i hi h1
def CN_PM : String := "PearlMother"
def CT_PM : u_T := fun k => match k with
  | 0 => ("PearlMother", "text", "LPearlMother$Text;", true)
  | 1 => ("PearlMother", "told", "LPearlMother$Coast;", false)
  | 2 => ("PearlMother", "draft", "LPearlMother$Coast;", false)
  | 3 => ("PearlMother", "now", "LPearlMother$State;", true)
  | 4 => ("PearlMother", "trial", "LPearlMother$State;", true)
  | 5 => ("PearlMother", "slots", "[LPearlMother$State;", true)
  | 6 => ("PearlMother", "acts", "LPearlMother$Acts;", true)
  | 7 => ("PearlMother", "turned", "LPearlMother$Turned;", true)
  | 8 => ("PearlMother", "givings", "LPearlMother$Givings;", true)
  | 9 => ("PearlMother", "rows", "LPearlMother$Mothers;", true)
  | 10 => ("PearlMother", "doings", "[I", true)
  | 11 => ("PearlMother", "chances", "[I", true)
  | _ => ("PearlMother", "theSeed", "J", false)
def Cy_PM : Nat → FieldType := fun k => match k with
  | 0 => .object "PearlMother$Text"
  | 1 => .object "PearlMother$Coast"
  | 2 => .object "PearlMother$Coast"
  | 3 => .object "PearlMother$State"
  | 4 => .object "PearlMother$State"
  | 5 => .array (.object "PearlMother$State")
  | 6 => .object "PearlMother$Acts"
  | 7 => .object "PearlMother$Turned"
  | 8 => .object "PearlMother$Givings"
  | 9 => .object "PearlMother$Mothers"
  | 10 => .array .int
  | 11 => .array .int
  | _ => .long
theorem Cn_PM : ∀ a, a < 13 → ∀ b, b < 13 → a ≠ b → (CT_PM a).2.1 ≠ (CT_PM b).2.1 := by decide +kernel
theorem Ck_PM : ∀ k, k < 13 → parseFieldDescriptor (CT_PM k).2.2.1 = some (Cy_PM k) := by decide +kernel
set_option maxRecDepth 20000 in
theorem Ci_PM : ∀ w ∈ u_ws CN_PM CT_PM 13, w ∈ TB := by
  have h : u_ws CN_PM CT_PM 13 = [252, 254, 256, 258, 260, 262, 264, 266, 268, 270, 272, 274, 276].filterMap (fun i => lw_tbl[i]?) := by decide +kernel
  have hg : (u_ws CN_PM CT_PM 13).all goodWord = true := by decide +kernel
  intro w hw
  have h1 := List.all_eq_true.mp hg w hw
  rw [h] at hw
  obtain ⟨i, -, hi⟩ := List.mem_filterMap.mp hw
  exact tb_mem i hi h1
def CN_Rf : String := "PearlMotherModel"
def CT_Rf : u_T := fun k => match k with
  | 0 => ("PearlMotherModel", "thrown", "I", false)
  | 1 => ("PearlMotherModel", "text", "[I", true)
  | 2 => ("PearlMotherModel", "textSize", "I", false)
  | 3 => ("PearlMotherModel", "place", "I", false)
  | 4 => ("PearlMotherModel", "holders", "I", false)
  | 5 => ("PearlMotherModel", "holder", "[I", true)
  | 6 => ("PearlMotherModel", "pieces", "I", false)
  | 7 => ("PearlMotherModel", "piece", "[I", true)
  | 8 => ("PearlMotherModel", "readLight", "I", false)
  | 9 => ("PearlMotherModel", "readHolders", "I", false)
  | 10 => ("PearlMotherModel", "readHolder", "[I", true)
  | 11 => ("PearlMotherModel", "readPieces", "I", false)
  | 12 => ("PearlMotherModel", "readPiece", "[I", true)
  | 13 => ("PearlMotherModel", "page", "[I", true)
  | 14 => ("PearlMotherModel", "trial", "[I", true)
  | 15 => ("PearlMotherModel", "book", "[I", true)
  | 16 => ("PearlMotherModel", "acts", "I", false)
  | 17 => ("PearlMotherModel", "kept", "[I", true)
  | 18 => ("PearlMotherModel", "isKept", "[Z", true)
  | 19 => ("PearlMotherModel", "turned", "I", false)
  | 20 => ("PearlMotherModel", "turnedAngle", "[I", true)
  | 21 => ("PearlMotherModel", "turnedPart", "[I", true)
  | 22 => ("PearlMotherModel", "seed", "J", false)
  | 23 => ("PearlMotherModel", "mayMany", "I", false)
  | 24 => ("PearlMotherModel", "mayFirst", "I", false)
  | 25 => ("PearlMotherModel", "restMany", "I", false)
  | 26 => ("PearlMotherModel", "restFirst", "I", false)
  | 27 => ("PearlMotherModel", "gains", "[I", true)
  | 28 => ("PearlMotherModel", "groups", "[I", true)
  | 29 => ("PearlMotherModel", "value", "[I", true)
  | _ => ("PearlMotherModel", "rows", "[I", true)
def Cy_Rf : Nat → FieldType := fun k => match k with
  | 0 => .int
  | 1 => .array .int
  | 2 => .int
  | 3 => .int
  | 4 => .int
  | 5 => .array .int
  | 6 => .int
  | 7 => .array .int
  | 8 => .int
  | 9 => .int
  | 10 => .array .int
  | 11 => .int
  | 12 => .array .int
  | 13 => .array .int
  | 14 => .array .int
  | 15 => .array .int
  | 16 => .int
  | 17 => .array .int
  | 18 => .array .boolean
  | 19 => .int
  | 20 => .array .int
  | 21 => .array .int
  | 22 => .long
  | 23 => .int
  | 24 => .int
  | 25 => .int
  | 26 => .int
  | 27 => .array .int
  | 28 => .array .int
  | 29 => .array .int
  | _ => .array .int
theorem Cn_Rf : ∀ a, a < 31 → ∀ b, b < 31 → a ≠ b → (CT_Rf a).2.1 ≠ (CT_Rf b).2.1 := by decide +kernel
theorem Ck_Rf : ∀ k, k < 31 → parseFieldDescriptor (CT_Rf k).2.2.1 = some (Cy_Rf k) := by decide +kernel
set_option maxRecDepth 20000 in
theorem Ci_Rf : ∀ w ∈ u_ws CN_Rf CT_Rf 31, w ∈ TB := by
  have h : u_ws CN_Rf CT_Rf 31 = [675, 677, 679, 681, 683, 685, 687, 689, 691, 693, 695, 697, 699, 701, 703, 705, 707, 709, 711, 713, 715, 717, 719, 721, 723, 725, 727, 729, 731, 733, 735].filterMap (fun i => lw_tbl[i]?) := by decide +kernel
  have hg : (u_ws CN_Rf CT_Rf 31).all goodWord = true := by decide +kernel
  intro w hw
  have h1 := List.all_eq_true.mp hg w hw
  rw [h] at hw
  obtain ⟨i, -, hi⟩ := List.mem_filterMap.mp hw
  exact tb_mem i hi h1
abbrev KL : List vw_C := [(CN_Ac, CT_Ac, 2), (CN_Co, CT_Co, 8), (CN_Gi, CT_Gi, 7), (CN_Mo, CT_Mo, 2), (CN_St, CT_St, 5), (CN_Te, CT_Te, 2), (CN_Tu, CT_Tu, 6), (CN_PM, CT_PM, 13), (CN_Rf, CT_Rf, 31)]
def M_PM_init : MR := (⟨"PearlMother", "<init>", "()V"⟩, prog_1_method_1_code, 2, none)
def M_PM_write : MR := (⟨"PearlMother", "write", "(I)I"⟩, prog_1_method_2_code, 2, (some .int))
def M_PM_wipe : MR := (⟨"PearlMother", "wipe", "()I"⟩, prog_1_method_3_code, 2, (some .int))
def M_PM_fault : MR := (⟨"PearlMother", "fault", "()I"⟩, prog_1_method_4_code, 1, (some .int))
def M_PM_coast : MR := (⟨"PearlMother", "coast", "()I"⟩, prog_1_method_5_code, 3, (some .int))
def M_PM_about : MR := (⟨"PearlMother", "about", "(I)I"⟩, prog_1_method_6_code, 2, (some .int))
def M_PM_holder : MR := (⟨"PearlMother", "holder", "(II)I"⟩, prog_1_method_7_code, 3, (some .int))
def M_PM_piece : MR := (⟨"PearlMother", "piece", "(II)I"⟩, prog_1_method_8_code, 3, (some .int))
def M_PM_shows : MR := (⟨"PearlMother", "shows", "(III)I"⟩, prog_1_method_9_code, 4, (some .int))
def M_PM_tilt : MR := (⟨"PearlMother", "tilt", "(IZ)I"⟩, prog_1_method_10_code, 3, (some .int))
def M_PM_give : MR := (⟨"PearlMother", "give", "(II)I"⟩, prog_1_method_11_code, 4, (some .int))
def M_PM_hour : MR := (⟨"PearlMother", "hour", "()I"⟩, prog_1_method_12_code, 1, (some .int))
def M_PM_undo : MR := (⟨"PearlMother", "undo", "()I"⟩, prog_1_method_13_code, 1, (some .int))
def M_PM_tilts : MR := (⟨"PearlMother", "tilts", "(II)I"⟩, prog_1_method_14_code, 3, (some .int))
def M_PM_finds : MR := (⟨"PearlMother", "finds", "(II)I"⟩, prog_1_method_15_code, 3, (some .int))
def M_PM_all : MR := (⟨"PearlMother", "all", "(I)I"⟩, prog_1_method_16_code, 6, (some .int))
def M_PM_when : MR := (⟨"PearlMother", "when", "(II)I"⟩, prog_1_method_17_code, 3, (some .int))
def M_PM_mothers : MR := (⟨"PearlMother", "mothers", "()I"⟩, prog_1_method_18_code, 1, (some .int))
def M_PM_giving : MR := (⟨"PearlMother", "giving", "(Z)I"⟩, prog_1_method_19_code, 2, (some .int))
def M_PM_judge : MR := (⟨"PearlMother", "judge", "(IJ)I"⟩, prog_1_method_20_code, 7, (some .int))
def M_PM_share : MR := (⟨"PearlMother", "share", "(IZ)I"⟩, prog_1_method_21_code, 3, (some .int))
def M_PM_turn : MR := (⟨"PearlMother", "turn", "(II)I"⟩, prog_1_method_22_code, 3, (some .int))
def M_PM_unturn : MR := (⟨"PearlMother", "unturn", "()I"⟩, prog_1_method_23_code, 2, (some .int))
def M_PM_may : MR := (⟨"PearlMother", "may", "(I)I"⟩, prog_1_method_24_code, 2, (some .int))
def M_PM_next : MR := (⟨"PearlMother", "next", "()I"⟩, prog_1_method_25_code, 1, (some .int))
def M_PM_rests : MR := (⟨"PearlMother", "rests", "(IIII)I"⟩, prog_1_method_26_code, 9, (some .int))
def M_PM_glints : MR := (⟨"PearlMother", "glints", "(IIIIZ)I"⟩, prog_1_method_27_code, 10, (some .int))
def M_PM_seed : MR := (⟨"PearlMother", "seed", "(J)J"⟩, prog_1_method_28_code, 5, (some .long))
def M_PM_years : MR := (⟨"PearlMother", "years", "(I)I"⟩, prog_1_method_29_code, 4, (some .int))
def M_PM_keep : MR := (⟨"PearlMother", "keep", "(I)I"⟩, prog_1_method_30_code, 2, (some .int))
def M_PM_again : MR := (⟨"PearlMother", "again", "(I)I"⟩, prog_1_method_31_code, 2, (some .int))
def M_PM_isBelow : MR := (⟨"PearlMother", "isBelow", "(II)Z"⟩, prog_1_method_32_code, 2, (some .boolean))
def M_PM_hasBit : MR := (⟨"PearlMother", "hasBit", "(II)Z"⟩, prog_1_method_33_code, 2, (some .boolean))
def M_PM_byEight : MR := (⟨"PearlMother", "byEight", "(I)I"⟩, prog_1_method_34_code, 1, (some .int))
def M_PM_apart : MR := (⟨"PearlMother", "apart", "(II)I"⟩, prog_1_method_35_code, 3, (some .int))
def M_PM_reachOf : MR := (⟨"PearlMother", "reachOf", "(I)I"⟩, prog_1_method_36_code, 1, (some .int))
def M_PM_isShown : MR := (⟨"PearlMother", "isShown", "(IIIII)Z"⟩, prog_1_method_37_code, 6, (some .boolean))
def M_PM_inLeastTerms : MR := (⟨"PearlMother", "inLeastTerms", "(IIZ)I"⟩, prog_1_method_38_code, 7, (some .int))
def M_PM_showsAfter : MR := (⟨"PearlMother", "showsAfter", "(LPearlMother$State;III)Z"⟩, prog_1_method_39_code, 5, (some .boolean))
def M_PM_partsSeen : MR := (⟨"PearlMother", "partsSeen", "(LPearlMother$State;II)I"⟩, prog_1_method_40_code, 6, (some .int))
def M_PM_partsSeenTogether : MR := (⟨"PearlMother", "partsSeenTogether", "()I"⟩, prog_1_method_41_code, 3, (some .int))
def M_PM_whoSeesHerLook : MR := (⟨"PearlMother", "whoSeesHerLook", "(LPearlMother$State;)I"⟩, prog_1_method_42_code, 4, (some .int))
def M_PM_piecesOf : MR := (⟨"PearlMother", "piecesOf", "(I)I"⟩, prog_1_method_43_code, 4, (some .int))
def M_PM_partsHeld : MR := (⟨"PearlMother", "partsHeld", "(I)I"⟩, prog_1_method_44_code, 4, (some .int))
def M_PM_piecesThatShow : MR := (⟨"PearlMother", "piecesThatShow", "(I)I"⟩, prog_1_method_45_code, 4, (some .int))
def M_PM_takeBack : MR := (⟨"PearlMother", "takeBack", "(I)V"⟩, prog_1_method_46_code, 4, none)
def M_PM_fewestTilts : MR := (⟨"PearlMother", "fewestTilts", "(II)I"⟩, prog_1_method_47_code, 4, (some .int))
def M_PM_fewestTiltsToSee : MR := (⟨"PearlMother", "fewestTiltsToSee", "(II)I"⟩, prog_1_method_48_code, 6, (some .int))
def M_PM_hoursUntilSeen : MR := (⟨"PearlMother", "hoursUntilSeen", "(II)I"⟩, prog_1_method_49_code, 4, (some .int))
def M_PM_canBeDone : MR := (⟨"PearlMother", "canBeDone", "(I)Z"⟩, prog_1_method_50_code, 4, (some .boolean))
def M_PM_tryGivings : MR := (⟨"PearlMother", "tryGivings", "(LPearlMother$Givings;III)V"⟩, prog_1_method_51_code, 7, none)
def M_PM_worth : MR := (⟨"PearlMother", "worth", "(IIII)I"⟩, prog_1_method_52_code, 5, (some .int))
def M_PM_staysWith : MR := (⟨"PearlMother", "staysWith", "(IIII)Z"⟩, prog_1_method_53_code, 6, (some .boolean))
def M_PM_spreadChances : MR := (⟨"PearlMother", "spreadChances", "(II)I"⟩, prog_1_method_54_code, 6, (some .int))
def M_PM_befall : MR := (⟨"PearlMother", "befall", "(I)V"⟩, prog_1_method_55_code, 2, none)
def M_Rf_init : MR := (⟨"PearlMotherModel", "<init>", "()V"⟩, prog_10_method_1_code, 1, none)
def M_Rf_in : MR := (⟨"PearlMotherModel", "in", "(JJJ)Z"⟩, prog_10_method_3_code, 6, (some .boolean))
def M_Rf_has : MR := (⟨"PearlMotherModel", "has", "(II)Z"⟩, prog_10_method_4_code, 2, (some .boolean))
def M_Rf_many : MR := (⟨"PearlMotherModel", "many", "(I)I"⟩, prog_10_method_5_code, 3, (some .int))
def M_Rf_power : MR := (⟨"PearlMotherModel", "power", "(II)I"⟩, prog_10_method_6_code, 4, (some .int))
def M_Rf_noHolder : MR := (⟨"PearlMotherModel", "noHolder", "(I)Z"⟩, prog_10_method_7_code, 2, (some .boolean))
def M_Rf_noPiece : MR := (⟨"PearlMotherModel", "noPiece", "(I)Z"⟩, prog_10_method_8_code, 2, (some .boolean))
def M_Rf_write : MR := (⟨"PearlMotherModel", "write", "(I)I"⟩, prog_10_method_9_code, 2, (some .int))
def M_Rf_wipe : MR := (⟨"PearlMotherModel", "wipe", "()I"⟩, prog_10_method_10_code, 2, (some .int))
def M_Rf_figure : MR := (⟨"PearlMotherModel", "figure", "(I)I"⟩, prog_10_method_11_code, 2, (some .int))
def M_Rf_readOneHolder : MR := (⟨"PearlMotherModel", "readOneHolder", "()Z"⟩, prog_10_method_12_code, 2, (some .boolean))
def M_Rf_readOnePiece : MR := (⟨"PearlMotherModel", "readOnePiece", "()Z"⟩, prog_10_method_13_code, 4, (some .boolean))
def M_Rf_readThing : MR := (⟨"PearlMotherModel", "readThing", "()Z"⟩, prog_10_method_14_code, 2, (some .boolean))
def M_Rf_readCoast : MR := (⟨"PearlMotherModel", "readCoast", "()I"⟩, prog_10_method_15_code, 1, (some .int))
def M_Rf_fault : MR := (⟨"PearlMotherModel", "fault", "()I"⟩, prog_10_method_16_code, 1, (some .int))
def M_Rf_coast : MR := (⟨"PearlMotherModel", "coast", "()I"⟩, prog_10_method_17_code, 3, (some .int))
def M_Rf_apart : MR := (⟨"PearlMotherModel", "apart", "(II)I"⟩, prog_10_method_18_code, 3, (some .int))
def M_Rf_showsBy : MR := (⟨"PearlMotherModel", "showsBy", "(IIIII)Z"⟩, prog_10_method_19_code, 6, (some .boolean))
def M_Rf_showsTo : MR := (⟨"PearlMotherModel", "showsTo", "(III)Z"⟩, prog_10_method_20_code, 4, (some .boolean))
def M_Rf_angleOf : MR := (⟨"PearlMotherModel", "angleOf", "([II)I"⟩, prog_10_method_21_code, 2, (some .int))
def M_Rf_isShown : MR := (⟨"PearlMotherModel", "isShown", "([II)Z"⟩, prog_10_method_22_code, 3, (some .boolean))
def M_Rf_seesOf : MR := (⟨"PearlMotherModel", "seesOf", "([III)I"⟩, prog_10_method_23_code, 6, (some .int))
def M_Rf_heldBy : MR := (⟨"PearlMotherModel", "heldBy", "([II)I"⟩, prog_10_method_24_code, 5, (some .int))
def M_Rf_lookers : MR := (⟨"PearlMotherModel", "lookers", "([I)I"⟩, prog_10_method_25_code, 4, (some .int))
def M_Rf_together : MR := (⟨"PearlMotherModel", "together", "([II)I"⟩, prog_10_method_26_code, 5, (some .int))
def M_Rf_about : MR := (⟨"PearlMotherModel", "about", "(I)I"⟩, prog_10_method_27_code, 2, (some .int))
def M_Rf_holder : MR := (⟨"PearlMotherModel", "holder", "(II)I"⟩, prog_10_method_28_code, 3, (some .int))
def M_Rf_piece : MR := (⟨"PearlMotherModel", "piece", "(II)I"⟩, prog_10_method_29_code, 3, (some .int))
def M_Rf_shows : MR := (⟨"PearlMotherModel", "shows", "(III)I"⟩, prog_10_method_30_code, 4, (some .int))
def M_Rf_note : MR := (⟨"PearlMotherModel", "note", "()V"⟩, prog_10_method_31_code, 2, none)
def M_Rf_goTilt : MR := (⟨"PearlMotherModel", "goTilt", "([IIZ)V"⟩, prog_10_method_32_code, 3, none)
def M_Rf_tilt : MR := (⟨"PearlMotherModel", "tilt", "(IZ)I"⟩, prog_10_method_33_code, 3, (some .int))
def M_Rf_give : MR := (⟨"PearlMotherModel", "give", "(II)I"⟩, prog_10_method_34_code, 4, (some .int))
def M_Rf_goHour : MR := (⟨"PearlMotherModel", "goHour", "([I)V"⟩, prog_10_method_35_code, 1, none)
def M_Rf_hour : MR := (⟨"PearlMotherModel", "hour", "()I"⟩, prog_10_method_36_code, 1, (some .int))
def M_Rf_undo : MR := (⟨"PearlMotherModel", "undo", "()I"⟩, prog_10_method_37_code, 2, (some .int))
def M_Rf_tiltsOf : MR := (⟨"PearlMotherModel", "tiltsOf", "(II)I"⟩, prog_10_method_38_code, 7, (some .int))
def M_Rf_tilts : MR := (⟨"PearlMotherModel", "tilts", "(II)I"⟩, prog_10_method_39_code, 3, (some .int))
def M_Rf_findsOf : MR := (⟨"PearlMotherModel", "findsOf", "(II)I"⟩, prog_10_method_40_code, 6, (some .int))
def M_Rf_finds : MR := (⟨"PearlMotherModel", "finds", "(II)I"⟩, prog_10_method_41_code, 3, (some .int))
def M_Rf_partsHeld : MR := (⟨"PearlMotherModel", "partsHeld", "(I)I"⟩, prog_10_method_42_code, 4, (some .int))
def M_Rf_all : MR := (⟨"PearlMotherModel", "all", "(I)I"⟩, prog_10_method_43_code, 6, (some .int))
def M_Rf_begin : MR := (⟨"PearlMotherModel", "begin", "()V"⟩, prog_10_method_44_code, 2, none)
def M_Rf_when : MR := (⟨"PearlMotherModel", "when", "(II)I"⟩, prog_10_method_45_code, 4, (some .int))
def M_Rf_mayBeOne : MR := (⟨"PearlMotherModel", "mayBeOne", "(II)Z"⟩, prog_10_method_46_code, 3, (some .boolean))
def M_Rf_isLaid : MR := (⟨"PearlMotherModel", "isLaid", "(II)Z"⟩, prog_10_method_47_code, 6, (some .boolean))
def M_Rf_mothers : MR := (⟨"PearlMotherModel", "mothers", "()I"⟩, prog_10_method_48_code, 3, (some .int))
def M_Rf_giving : MR := (⟨"PearlMotherModel", "giving", "(Z)I"⟩, prog_10_method_49_code, 8, (some .int))
def M_Rf_longPower : MR := (⟨"PearlMotherModel", "longPower", "(JI)J"⟩, prog_10_method_50_code, 6, (some .long))
def M_Rf_does : MR := (⟨"PearlMotherModel", "does", "(I)Z"⟩, prog_10_method_51_code, 5, (some .boolean))
def M_Rf_judge : MR := (⟨"PearlMotherModel", "judge", "(IJ)I"⟩, prog_10_method_52_code, 5, (some .int))
def M_Rf_ways : MR := (⟨"PearlMotherModel", "ways", "(I)I"⟩, prog_10_method_53_code, 3, (some .int))
def M_Rf_divisor : MR := (⟨"PearlMotherModel", "divisor", "(II)I"⟩, prog_10_method_54_code, 5, (some .int))
def M_Rf_fraction : MR := (⟨"PearlMotherModel", "fraction", "(IIZ)I"⟩, prog_10_method_55_code, 4, (some .int))
def M_Rf_share : MR := (⟨"PearlMotherModel", "share", "(IZ)I"⟩, prog_10_method_56_code, 6, (some .int))
def M_Rf_turn : MR := (⟨"PearlMotherModel", "turn", "(II)I"⟩, prog_10_method_57_code, 3, (some .int))
def M_Rf_unturn : MR := (⟨"PearlMotherModel", "unturn", "()I"⟩, prog_10_method_58_code, 2, (some .int))
def M_Rf_answer : MR := (⟨"PearlMotherModel", "answer", "(II)I"⟩, prog_10_method_59_code, 3, (some .int))
def M_Rf_mayBe : MR := (⟨"PearlMotherModel", "mayBe", "(I)Z"⟩, prog_10_method_60_code, 4, (some .boolean))
def M_Rf_may : MR := (⟨"PearlMotherModel", "may", "(I)I"⟩, prog_10_method_61_code, 4, (some .int))
def M_Rf_greatest : MR := (⟨"PearlMotherModel", "greatest", "(I)I"⟩, prog_10_method_62_code, 5, (some .int))
def M_Rf_next : MR := (⟨"PearlMotherModel", "next", "()I"⟩, prog_10_method_63_code, 5, (some .int))
def M_Rf_rests : MR := (⟨"PearlMotherModel", "rests", "(IIII)I"⟩, prog_10_method_64_code, 7, (some .int))
def M_Rf_glints : MR := (⟨"PearlMotherModel", "glints", "(IIIIZ)I"⟩, prog_10_method_65_code, 10, (some .int))
def M_Rf_seed : MR := (⟨"PearlMotherModel", "seed", "(J)J"⟩, prog_10_method_66_code, 5, (some .long))
def M_Rf_years : MR := (⟨"PearlMotherModel", "years", "(I)I"⟩, prog_10_method_67_code, 5, (some .int))
def M_Rf_keep : MR := (⟨"PearlMotherModel", "keep", "(I)I"⟩, prog_10_method_68_code, 3, (some .int))
def M_Rf_again : MR := (⟨"PearlMotherModel", "again", "(I)I"⟩, prog_10_method_69_code, 3, (some .int))
def M_Ac_init : MR := (⟨"PearlMother$Acts", "<init>", "()V"⟩, prog_2_method_1_code, 1, none)
def M_Ac_add : MR := (⟨"PearlMother$Acts", "add", "(III)V"⟩, prog_2_method_2_code, 4, none)
def M_Ac_removeLast : MR := (⟨"PearlMother$Acts", "removeLast", "()I"⟩, prog_2_method_3_code, 1, (some .int))
def M_Co_init : MR := (⟨"PearlMother$Coast", "<init>", "()V"⟩, prog_3_method_1_code, 1, none)
def M_Co_hasHolder : MR := (⟨"PearlMother$Coast", "hasHolder", "(I)Z"⟩, prog_3_method_2_code, 2, (some .boolean))
def M_Co_hasPiece : MR := (⟨"PearlMother$Coast", "hasPiece", "(I)Z"⟩, prog_3_method_3_code, 2, (some .boolean))
def M_Co_showsAt : MR := (⟨"PearlMother$Coast", "showsAt", "(III)Z"⟩, prog_3_method_4_code, 4, (some .boolean))
def M_Co_clear : MR := (⟨"PearlMother$Coast", "clear", "()V"⟩, prog_3_method_5_code, 1, none)
def M_Co_take : MR := (⟨"PearlMother$Coast", "take", "(II)I"⟩, prog_3_method_6_code, 4, (some .int))
def M_Co_takeThing : MR := (⟨"PearlMother$Coast", "takeThing", "(I)I"⟩, prog_3_method_7_code, 2, (some .int))
def M_Co_takeFigure : MR := (⟨"PearlMother$Coast", "takeFigure", "([IIII)Z"⟩, prog_3_method_8_code, 4, (some .boolean))
def M_Co_endHolder : MR := (⟨"PearlMother$Coast", "endHolder", "()I"⟩, prog_3_method_9_code, 1, (some .int))
def M_Co_endPiece : MR := (⟨"PearlMother$Coast", "endPiece", "()I"⟩, prog_3_method_10_code, 1, (some .int))
def M_Gi_init : MR := (⟨"PearlMother$Givings", "<init>", "()V"⟩, prog_4_method_1_code, 1, none)
def M_Gi_begin : MR := (⟨"PearlMother$Givings", "begin", "(LPearlMother$Coast;LPearlMother$State;)V"⟩, prog_4_method_2_code, 4, none)
def M_Gi_seersOf : MR := (⟨"PearlMother$Givings", "seersOf", "(LPearlMother$Coast;II)I"⟩, prog_4_method_3_code, 5, (some .int))
def M_Mo_init : MR := (⟨"PearlMother$Mothers", "<init>", "()V"⟩, prog_5_method_1_code, 1, none)
def M_Mo_find : MR := (⟨"PearlMother$Mothers", "find", "(LPearlMother$Coast;)V"⟩, prog_5_method_2_code, 5, none)
def M_Mo_goesWith : MR := (⟨"PearlMother$Mothers", "goesWith", "(LPearlMother$Coast;II)Z"⟩, prog_5_method_3_code, 4, (some .boolean))
def M_Mo_fewestOf : MR := (⟨"PearlMother$Mothers", "fewestOf", "(II)I"⟩, prog_5_method_4_code, 5, (some .int))
def M_St_init : MR := (⟨"PearlMother$State", "<init>", "()V"⟩, prog_6_method_1_code, 1, none)
def M_St_begin : MR := (⟨"PearlMother$State", "begin", "(LPearlMother$Coast;)V"⟩, prog_6_method_2_code, 3, none)
def M_St_copyFrom : MR := (⟨"PearlMother$State", "copyFrom", "(LPearlMother$State;)V"⟩, prog_6_method_3_code, 2, none)
def M_St_angleOf : MR := (⟨"PearlMother$State", "angleOf", "(I)I"⟩, prog_6_method_4_code, 2, (some .int))
def M_St_tiltBy : MR := (⟨"PearlMother$State", "tiltBy", "(II)V"⟩, prog_6_method_5_code, 3, none)
def M_St_giveTo : MR := (⟨"PearlMother$State", "giveTo", "(II)V"⟩, prog_6_method_6_code, 3, none)
def M_St_passHours : MR := (⟨"PearlMother$State", "passHours", "(I)V"⟩, prog_6_method_7_code, 2, none)
def M_Te_init : MR := (⟨"PearlMother$Text", "<init>", "()V"⟩, prog_7_method_1_code, 1, none)
def M_Te_add : MR := (⟨"PearlMother$Text", "add", "(I)Z"⟩, prog_7_method_2_code, 2, (some .boolean))
def M_Te_readInto : MR := (⟨"PearlMother$Text", "readInto", "(LPearlMother$Coast;)I"⟩, prog_7_method_3_code, 4, (some .int))
def M_Tu_init : MR := (⟨"PearlMother$Turned", "<init>", "()V"⟩, prog_8_method_1_code, 1, none)
def M_Tu_add : MR := (⟨"PearlMother$Turned", "add", "(II)Z"⟩, prog_8_method_2_code, 3, (some .boolean))
def M_Tu_answerOf : MR := (⟨"PearlMother$Turned", "answerOf", "(IIII)I"⟩, prog_8_method_3_code, 4, (some .int))
def M_Tu_fits : MR := (⟨"PearlMother$Turned", "fits", "(III)Z"⟩, prog_8_method_4_code, 5, (some .boolean))
def M_Tu_weigh : MR := (⟨"PearlMother$Turned", "weigh", "()V"⟩, prog_8_method_5_code, 4, none)
def M_Tu_tally : MR := (⟨"PearlMother$Turned", "tally", "(III)V"⟩, prog_8_method_6_code, 5, none)
def M_Tu_bestAngle : MR := (⟨"PearlMother$Turned", "bestAngle", "()I"⟩, prog_8_method_7_code, 6, (some .int))
def M_In_bitCount : MR := (⟨"java/lang/Integer", "bitCount", "(I)I"⟩, prog_11_method_49_code, 1, (some .int))
def M_In_numberOfLeadingZeros : MR := (⟨"java/lang/Integer", "numberOfLeadingZeros", "(I)I"⟩, prog_11_method_47_code, 2, (some .int))
def M_Ma_max : MR := (⟨"java/lang/Math", "max", "(II)I"⟩, prog_12_method_65_code, 2, (some .int))
def M_Ma_min : MR := (⟨"java/lang/Math", "min", "(II)I"⟩, prog_12_method_69_code, 2, (some .int))
def M_La_law : MR := (⟨"PearlMotherLaw", "law", "([I)Z"⟩, code, 4, some .boolean)
def NW : List Cond := [Cond.methodLinkNest "PearlMother" 11 ⟨"PearlMother$Text", "<init>", "()V"⟩ "PearlMother", Cond.methodLinkNest "PearlMother" 18 ⟨"PearlMother$Coast", "<init>", "()V"⟩ "PearlMother", Cond.methodLinkNest "PearlMother" 28 ⟨"PearlMother$State", "<init>", "()V"⟩ "PearlMother", Cond.methodLinkNest "PearlMother" 42 ⟨"PearlMother$Acts", "<init>", "()V"⟩ "PearlMother", Cond.methodLinkNest "PearlMother" 49 ⟨"PearlMother$Turned", "<init>", "()V"⟩ "PearlMother", Cond.methodLinkNest "PearlMother" 56 ⟨"PearlMother$Givings", "<init>", "()V"⟩ "PearlMother", Cond.methodLinkNest "PearlMother" 63 ⟨"PearlMother$Mothers", "<init>", "()V"⟩ "PearlMother", Cond.methodLinkNest "PearlMother$Coast" 31 ⟨"PearlMother", "isBelow", "(II)Z"⟩ "PearlMother", Cond.methodLinkNest "PearlMother$State" 35 ⟨"PearlMother", "isBelow", "(II)Z"⟩ "PearlMother", Cond.methodLinkNest "PearlMother$State" 39 ⟨"PearlMother", "byEight", "(I)I"⟩ "PearlMother", Cond.methodLinkNest "PearlMother$Coast" 45 ⟨"PearlMother", "isShown", "(IIIII)Z"⟩ "PearlMother", Cond.methodLinkNest "PearlMother$Mothers" 39 ⟨"PearlMother", "hasBit", "(II)Z"⟩ "PearlMother", Cond.methodLinkNest "PearlMother$Mothers" 49 ⟨"PearlMother", "apart", "(II)I"⟩ "PearlMother", Cond.methodLinkNest "PearlMother$Turned" 25 ⟨"PearlMother", "isShown", "(IIIII)Z"⟩ "PearlMother"]
set_option maxRecDepth 20000 in
theorem nw_in : NW = [62, 77, 122, 149, 163, 191, 226, 307, 353, 354, 369, 498, 499, 579].filterMap (fun i => lw_tbl[i]?) := by decide +kernel
theorem ob_1 : Cond.instanceMethod objectInit ∈ TB := tb_mem 58 (by decide +kernel) (by decide +kernel)
theorem ob_2 : Cond.code objectInit ⟨#[0xb1]⟩ 1 none ∈ TB := tb_mem 59 (by decide +kernel) (by decide +kernel)
theorem cp_1 : Cond.native arraycopyName ∈ TB := tb_mem 422 (by decide +kernel) (by decide +kernel)
theorem cp_2 : Cond.static arraycopyName ∈ TB := tb_mem 421 (by decide +kernel) (by decide +kernel)
theorem cp_3 : Cond.initialized "java/lang/System" ∈ TB := tb_mem 50 (by decide +kernel) (by decide +kernel)
theorem ac_int : Cond.arrayClass (newarray.typeOf .int) ∈ TB := tb_mem 74 (by decide +kernel) (by decide +kernel)
theorem ac_bool : Cond.arrayClass (newarray.typeOf .boolean) ∈ TB := tb_mem 238 (by decide +kernel) (by decide +kernel)
end
section
/-! ===== the worlds of this claim: a heap as a list of cells, references by their places (0: the script; k + 1: the cell k) ===== -/
abbrev AC : Type := (FieldType × vp_A) ⊕ (Nat × List Value)
abbrev AH : Type := List AC
/-- script's address, base, the classes' numbers and slots, the array classes -/
abbrev EV : Type := Nat × Nat × va_G × (FieldType → ClassId)
def e_ad (E : EV) (k : Nat) : Nat := match k with
  | 0 => E.1
  | k + 1 => E.2.1 + k
def e_v (E : EV) (v : Value) : Value := match v with
  | .ref k => .ref (e_ad E k)
  | v => v
def e_a (E : EV) (a : vp_A) : vp_A := match a with
  | (n, .inr (.inr (.inr (.inr f)))) => (n, .inr (.inr (.inr (.inr (fun j => (f j).map (e_ad E))))))
  | a => a
def e_c (E : EV) (c : AC) : va_E := match c with
  | .inl (ty, a) => .inl (E.2.2.2 ty, e_a E a)
  | .inr (ci, fs) => .inr (ci, fs.map (e_v E))
def e_h (E : EV) (h : AH) : va_W := h.mapIdx (fun k c => (E.2.1 + k, e_c E c))
def e_tys (E : EV) : List (ClassId × FieldType) := [(E.2.2.2 .int, .int), (E.2.2.2 .boolean, .boolean), (E.2.2.2 (.object "PearlMother$State"), .object "PearlMother$State")]
def e_A (E : EV) : Nat → Prop := fun q => E.2.1 ≤ q
/-- the heap holds the cells h; all that was made since the base is in h -/
def hpOK (E : EV) (s : State) (cells : Nat) (h : AH) (H : Heap) : Prop := s.heap.size + cells = E.2.1 + h.length ∧ va_P E.2.2.1 KL (e_h E h) H
def lvOK (E : EV) (nL : Nat) (ls : Array Slot) (L : List (Option Value)) : Prop := ls.size = nL ∧ L.length = nL ∧ lv_wf ls ∧ ∀ (i : Nat) (v : Value), L[i]? = some (some v) → ls[i]? = some (.val (e_v E v))
/-- what holds of the machine while a method runs -/
def Cx (X : Nat × (Nat → Int32)) (E : EV) (M : MR) (p : Program) (s : State) (m : MethodId) (args : Array Value) (meth : Method) (c : Code) : Prop :=
  p.tables.exec = Jvm.exec ∧ c.code = M.2.1 ∧ meth.sig.returnType = M.2.2.2 ∧ c.maxLocals = M.2.2.1 ∧ s.vm.findClass M.1.cls = some m.cls ∧ (∀ w ∈ TB, w.before args s = true) ∧ meth.locks = false ∧ meth.name = M.1.name ∧
  va_K E.2.2.1 KL (e_tys E) s ∧ (∀ w ∈ NW, va_Nw w s) ∧ va_AO "PearlMother$State" s ∧ va_X E.1 X.1 X.2 s s.heap ∧ E.1 < E.2.1 ∧ E.2.1 ≤ s.heap.size
/-- a frame that is about to return r -/
def RetAt (E : EV) (M : MR) (m : MethodId) (r : Option Value) (g : JFrame) : Prop :=
  ∃ (pc : Nat) (ls : Array Slot), (r = none ∧ g = F0 m pc ls [] ∧ decode M.2.1 pc = .ok (.return_, 1) ∧ M.2.2.2 = none) ∨
    (∃ (x : Int32) (ty : FieldType), r = some (.int x) ∧ g = F0 m pc ls [.int x] ∧ decode M.2.1 pc = .ok (.ireturn, 1) ∧ M.2.2.2 = some ty ∧ narrow ty (.int x) = .int x) ∨
    (∃ x : Int64, r = some (.long x) ∧ g = F0 m pc ls [.long x] ∧ decode M.2.1 pc = .ok (.lreturn, 1) ∧ M.2.2.2 = some .long)
/-- from pc on, with locals L, operands S and heap h, the method M returns with Q; d: frames that it may open; kc, ks: cells and slots that it may make -/
def Run (X : Nat × (Nat → Int32)) (d kc ks : Nat) (M : MR) (pc : Nat) (L : List (Option Value)) (S : List Value) (h : AH) (Q : Option Value → AH → Prop) : Prop :=
  ∀ (E : EV) (p : Program) (l : Launch) (e : Env) (R : Room) (s : State) (m : MethodId) (args : Array Value) (below : List Frame) (meth : Method) (c : Code) (H : Heap) (locs : List Loc) (cells slots : Nat) (Z : State → Prop) (ls : Array Slot),
    Cx X E M p s m args meth c → d ≤ R.frames → 60 * d ≤ R.locals → cells + kc ≤ R.cells → slots + ks ≤ R.slots → hpOK E s cells h H → va_S (e_A E) s.heap H locs → lvOK E M.2.2.1 ls L →
    (∀ (r : Option Value) (h' : AH) (H' : Heap) (locs' : List Loc) (cells' slots' : Nat) (g : JFrame), Q r h' → RetAt E M m r g → hpOK E s cells' h' H' → va_S (e_A E) s.heap H' locs' → cells' ≤ cells + kc → slots' ≤ slots + ks → W p l e R s m args below meth c H' locs' cells' slots' Z g) →
    W p l e R s m args below meth c H locs cells slots Z (F0 m pc ls (S.map (e_v E)))
/-- an instruction: its length, the next place -/
def DI (M : MR) (pc : Nat) (i : Instr) (len nx : Nat) : Prop := decode M.2.1 pc = .ok (i, len) ∧ pc + len = nx
/-- a branch: its length, the next place, the target -/
def DJ (M : MR) (pc : Nat) (i : Instr) (off : Int) (len nx tgt : Nat) : Prop := decode M.2.1 pc = .ok (i, len) ∧ pc + len = nx ∧ (pc : Int) + off = (tgt : Int)
theorem e_h_at {E : EV} {h : AH} {k : Nat} {c : AC} (hk : h[k]? = some c) : (e_h E h)[k]? = some (E.2.1 + k, e_c E c) := by
  simp [e_h, List.getElem?_mapIdx, hk]
theorem e_h_set {E : EV} {h : AH} {k : Nat} {c : AC} : e_h E (h.set k c) = (e_h E h).set k (E.2.1 + k, e_c E c) := by
  apply List.ext_getElem?
  intro i
  simp only [e_h, List.getElem?_mapIdx, List.getElem?_set, List.length_mapIdx]
  by_cases hi : k = i
  · subst hi
    by_cases hl : k < h.length
    · simp [hl]
    · simp [hl]
  · simp [hi]
theorem e_h_push {E : EV} {h : AH} {c : AC} : e_h E (h ++ [c]) = e_h E h ++ [(E.2.1 + h.length, e_c E c)] := by
  simp [e_h, List.mapIdx_append]
theorem e_D {E : EV} (h : AH) : va_D (e_A E) (e_h E h) := by
  have key : ∀ (k : Nat) (q : Nat × va_E), (e_h E h)[k]? = some q → q.1 = E.2.1 + k := by
    intro k q hq
    simp only [e_h, List.getElem?_mapIdx, Option.map_eq_some_iff] at hq
    obtain ⟨c, -, rfl⟩ := hq
    rfl
  refine ⟨fun i j x y hi hj hxy => ?_, fun k q hq => ?_⟩
  · have h1 := key i x hi
    have h2 := key j y hj
    omega
  · have h1 := key k q hq
    show E.2.1 ≤ q.1
    omega
theorem lv_of {E : EV} {nL : Nat} {ls : Array Slot} {L : List (Option Value)} (h : lvOK E nL ls L) {i : Nat} {v : Value} (hi : L[i]? = some (some v)) : ls[i]? = some (.val (e_v E v)) := h.2.2.2 i v hi
/-- the listed values, for the kit -/
def lvL (E : EV) (L : List (Option Value)) : List (Nat × Value) := (List.range L.length).filterMap (fun i => match L[i]? with
  | some (some v) => some (i, e_v E v)
  | _ => none)
theorem lvL_mem {E : EV} {L : List (Option Value)} {i : Nat} {v : Value} (h : L[i]? = some (some v)) : (i, e_v E v) ∈ lvL E L := by
  refine List.mem_filterMap.mpr ⟨i, List.mem_range.mpr (List.getElem?_eq_some_iff.mp h).1, ?_⟩
  simp [h]
theorem lvL_has {E : EV} {nL : Nat} {ls : Array Slot} {L : List (Option Value)} (h : lvOK E nL ls L) : lv_has ls nL (lvL E L) := by
  refine ⟨h.1, h.2.2.1, fun q hq => ?_⟩
  obtain ⟨i, -, hi⟩ := List.mem_filterMap.mp hq
  revert hi
  split
  · rename_i v hv
    intro hi
    cases hi
    exact h.2.2.2 i v hv
  · intro hi
    cases hi
theorem e_cat (E : EV) (v : Value) : (e_v E v).category = v.category := by cases v <;> rfl
/-- nothing of two words stands right ahead of the place -/
def freeAt (L : List (Option Value)) (i : Nat) : Bool := match i with
  | 0 => true
  | i + 1 => match L[i]? with
    | some (some v) => v.category == 1
    | _ => true
theorem freeAt_ne {L : List (Option Value)} {i j : Nat} {v : Value} (h : freeAt L i = true) (hj : L[j]? = some (some v)) (hji : j + 1 = i) : ¬ v.category = 2 := by
  subst hji
  simp only [freeAt, hj] at h
  intro q
  rw [q] at h
  cases h
theorem lvOK_1 {E : EV} {nL : Nat} {ls ls' : Array Slot} {L : List (Option Value)} {i : Nat} {v : Value} (h : lvOK E nL ls L) (hf : freeAt L i = true) (hi : i < nL)
    (h' : lv_has ls' nL ((i, e_v E v) :: (lvL E L).filter (fun q => !(q.1 == i) && !(q.1 + 1 == i && q.2.category == 2)))) : lvOK E nL ls' (L.set i (some v)) := by
  refine ⟨h'.1, by simp [h.2.1], h'.2.1, fun j w hj => ?_⟩
  by_cases hji : j = i
  · subst hji
    rw [List.getElem?_set_self (by rw [h.2.1]; exact hi)] at hj
    cases hj
    exact h'.2.2 _ List.mem_cons_self
  · rw [List.getElem?_set_ne (Ne.symm hji)] at hj
    refine h'.2.2 (j, e_v E w) (List.mem_cons_of_mem _ (List.mem_filter.mpr ⟨lvL_mem hj, ?_⟩))
    by_cases hq : j + 1 = i
    · have := freeAt_ne hf hj hq
      simp [hji, hq, e_cat, this]
    · simp [hji, hq]
theorem lvOK_2 {E : EV} {nL : Nat} {ls ls' : Array Slot} {L : List (Option Value)} {i : Nat} {v : Value} (h : lvOK E nL ls L) (hf : freeAt L i = true) (hi : i + 1 < nL)
    (h' : lv_has ls' nL ((i, e_v E v) :: (lvL E L).filter (fun q => !(q.1 == i) && (!(q.1 == i + 1) && !(q.1 + 1 == i && q.2.category == 2))))) : lvOK E nL ls' ((L.set i (some v)).set (i + 1) none) := by
  refine ⟨h'.1, by simp [h.2.1], h'.2.1, fun j w hj => ?_⟩
  by_cases hj1 : j = i + 1
  · subst hj1
    rw [List.getElem?_set_self (by simp [h.2.1]; omega)] at hj
    cases hj
  · rw [List.getElem?_set_ne (Ne.symm hj1)] at hj
    by_cases hji : j = i
    · subst hji
      rw [List.getElem?_set_self (by rw [h.2.1]; omega)] at hj
      cases hj
      exact h'.2.2 _ List.mem_cons_self
    · rw [List.getElem?_set_ne (Ne.symm hji)] at hj
      refine h'.2.2 (j, e_v E w) (List.mem_cons_of_mem _ (List.mem_filter.mpr ⟨lvL_mem hj, ?_⟩))
      by_cases hq : j + 1 = i
      · have := freeAt_ne hf hj hq
        simp [hji, hj1, hq, e_cat, this]
      · simp [hji, hj1, hq]
end
section
/-! ===== rows for Run, an instruction each ===== -/
section RUN
variable {X : Nat × (Nat → Int32)} {d kc ks : Nat} {M : MR} {pc nx tgt : Nat} {L : List (Option Value)} {S : List Value} {h : AH} {Q : Option Value → AH → Prop}
theorem Run.iadd {x y : Int32} (hd : DI M pc (.iadd) 1 nx) (k : Run X d kc ks M nx L (.int (x + y) :: S) h Q) : Run X d kc ks M pc L (.int y :: .int x :: S) h Q := by
  obtain ⟨hd, rfl⟩ := hd
  intro E p l e R s m args below meth c H locs cells slots Z ls C h1 h2 h3 h4 hH hS hl kz
  exact lv_iadd C.1 C.2.1 hd (k E p l e R s m args below meth c H locs cells slots Z ls C h1 h2 h3 h4 hH hS hl kz)
theorem Run.isub {x y : Int32} (hd : DI M pc (.isub) 1 nx) (k : Run X d kc ks M nx L (.int (x - y) :: S) h Q) : Run X d kc ks M pc L (.int y :: .int x :: S) h Q := by
  obtain ⟨hd, rfl⟩ := hd
  intro E p l e R s m args below meth c H locs cells slots Z ls C h1 h2 h3 h4 hH hS hl kz
  exact lv_isub C.1 C.2.1 hd (k E p l e R s m args below meth c H locs cells slots Z ls C h1 h2 h3 h4 hH hS hl kz)
theorem Run.imul {x y : Int32} (hd : DI M pc (.imul) 1 nx) (k : Run X d kc ks M nx L (.int (x * y) :: S) h Q) : Run X d kc ks M pc L (.int y :: .int x :: S) h Q := by
  obtain ⟨hd, rfl⟩ := hd
  intro E p l e R s m args below meth c H locs cells slots Z ls C h1 h2 h3 h4 hH hS hl kz
  exact lv_imul C.1 C.2.1 hd (k E p l e R s m args below meth c H locs cells slots Z ls C h1 h2 h3 h4 hH hS hl kz)
theorem Run.iand {x y : Int32} (hd : DI M pc (.iand) 1 nx) (k : Run X d kc ks M nx L (.int (x &&& y) :: S) h Q) : Run X d kc ks M pc L (.int y :: .int x :: S) h Q := by
  obtain ⟨hd, rfl⟩ := hd
  intro E p l e R s m args below meth c H locs cells slots Z ls C h1 h2 h3 h4 hH hS hl kz
  exact lv_iand C.1 C.2.1 hd (k E p l e R s m args below meth c H locs cells slots Z ls C h1 h2 h3 h4 hH hS hl kz)
theorem Run.ior {x y : Int32} (hd : DI M pc (.ior) 1 nx) (k : Run X d kc ks M nx L (.int (x ||| y) :: S) h Q) : Run X d kc ks M pc L (.int y :: .int x :: S) h Q := by
  obtain ⟨hd, rfl⟩ := hd
  intro E p l e R s m args below meth c H locs cells slots Z ls C h1 h2 h3 h4 hH hS hl kz
  exact lv_ior C.1 C.2.1 hd (k E p l e R s m args below meth c H locs cells slots Z ls C h1 h2 h3 h4 hH hS hl kz)
theorem Run.ixor {x y : Int32} (hd : DI M pc (.ixor) 1 nx) (k : Run X d kc ks M nx L (.int (x ^^^ y) :: S) h Q) : Run X d kc ks M pc L (.int y :: .int x :: S) h Q := by
  obtain ⟨hd, rfl⟩ := hd
  intro E p l e R s m args below meth c H locs cells slots Z ls C h1 h2 h3 h4 hH hS hl kz
  exact lv_ixor C.1 C.2.1 hd (k E p l e R s m args below meth c H locs cells slots Z ls C h1 h2 h3 h4 hH hS hl kz)
theorem Run.ishl {x y : Int32} (hd : DI M pc (.ishl) 1 nx) (k : Run X d kc ks M nx L (.int (x <<< (y &&& 31)) :: S) h Q) : Run X d kc ks M pc L (.int y :: .int x :: S) h Q := by
  obtain ⟨hd, rfl⟩ := hd
  intro E p l e R s m args below meth c H locs cells slots Z ls C h1 h2 h3 h4 hH hS hl kz
  exact lv_ishl C.1 C.2.1 hd (k E p l e R s m args below meth c H locs cells slots Z ls C h1 h2 h3 h4 hH hS hl kz)
theorem Run.ishr {x y : Int32} (hd : DI M pc (.ishr) 1 nx) (k : Run X d kc ks M nx L (.int (x >>> (y &&& 31)) :: S) h Q) : Run X d kc ks M pc L (.int y :: .int x :: S) h Q := by
  obtain ⟨hd, rfl⟩ := hd
  intro E p l e R s m args below meth c H locs cells slots Z ls C h1 h2 h3 h4 hH hS hl kz
  exact lv_ishr C.1 C.2.1 hd (k E p l e R s m args below meth c H locs cells slots Z ls C h1 h2 h3 h4 hH hS hl kz)
theorem Run.idiv {x y : Int32} (hd : DI M pc (.idiv) 1 nx) (hy : ¬ y = 0) (k : Run X d kc ks M nx L (.int (x / y) :: S) h Q) : Run X d kc ks M pc L (.int y :: .int x :: S) h Q := by
  obtain ⟨hd, rfl⟩ := hd
  intro E p l e R s m args below meth c H locs cells slots Z ls C h1 h2 h3 h4 hH hS hl kz
  exact lv_idiv C.1 C.2.1 hd hy (k E p l e R s m args below meth c H locs cells slots Z ls C h1 h2 h3 h4 hH hS hl kz)
theorem Run.irem {x y : Int32} (hd : DI M pc (.irem) 1 nx) (hy : ¬ y = 0) (k : Run X d kc ks M nx L (.int (x - x / y * y) :: S) h Q) : Run X d kc ks M pc L (.int y :: .int x :: S) h Q := by
  obtain ⟨hd, rfl⟩ := hd
  intro E p l e R s m args below meth c H locs cells slots Z ls C h1 h2 h3 h4 hH hS hl kz
  exact lv_irem C.1 C.2.1 hd hy (k E p l e R s m args below meth c H locs cells slots Z ls C h1 h2 h3 h4 hH hS hl kz)
theorem Run.ineg {x : Int32} (hd : DI M pc (.ineg) 1 nx) (k : Run X d kc ks M nx L (.int (-x) :: S) h Q) : Run X d kc ks M pc L (.int x :: S) h Q := by
  obtain ⟨hd, rfl⟩ := hd
  intro E p l e R s m args below meth c H locs cells slots Z ls C h1 h2 h3 h4 hH hS hl kz
  exact lv_ineg C.1 C.2.1 hd (k E p l e R s m args below meth c H locs cells slots Z ls C h1 h2 h3 h4 hH hS hl kz)
theorem Run.iushr {x y : Int32} (hd : DI M pc (.iushr) 1 nx) (k : Run X d kc ks M nx L (.int (x.toUInt32 >>> (y.toUInt32 &&& Int32.toUInt32 31)).toInt32 :: S) h Q) : Run X d kc ks M pc L (.int y :: .int x :: S) h Q := by
  obtain ⟨hd, rfl⟩ := hd
  intro E p l e R s m args below meth c H locs cells slots Z ls C h1 h2 h3 h4 hH hS hl kz
  exact lv_iushr C.1 C.2.1 hd rfl (k E p l e R s m args below meth c H locs cells slots Z ls C h1 h2 h3 h4 hH hS hl kz)
theorem Run.ladd {x y : Int64} (hd : DI M pc (.ladd) 1 nx) (k : Run X d kc ks M nx L (.long (x + y) :: S) h Q) : Run X d kc ks M pc L (.long y :: .long x :: S) h Q := by
  obtain ⟨hd, rfl⟩ := hd
  intro E p l e R s m args below meth c H locs cells slots Z ls C h1 h2 h3 h4 hH hS hl kz
  exact lv_ladd C.1 C.2.1 hd (k E p l e R s m args below meth c H locs cells slots Z ls C h1 h2 h3 h4 hH hS hl kz)
theorem Run.lsub {x y : Int64} (hd : DI M pc (.lsub) 1 nx) (k : Run X d kc ks M nx L (.long (x - y) :: S) h Q) : Run X d kc ks M pc L (.long y :: .long x :: S) h Q := by
  obtain ⟨hd, rfl⟩ := hd
  intro E p l e R s m args below meth c H locs cells slots Z ls C h1 h2 h3 h4 hH hS hl kz
  exact lv_lsub C.1 C.2.1 hd (k E p l e R s m args below meth c H locs cells slots Z ls C h1 h2 h3 h4 hH hS hl kz)
theorem Run.lmul {x y : Int64} (hd : DI M pc (.lmul) 1 nx) (k : Run X d kc ks M nx L (.long (x * y) :: S) h Q) : Run X d kc ks M pc L (.long y :: .long x :: S) h Q := by
  obtain ⟨hd, rfl⟩ := hd
  intro E p l e R s m args below meth c H locs cells slots Z ls C h1 h2 h3 h4 hH hS hl kz
  exact lv_lmul C.1 C.2.1 hd (k E p l e R s m args below meth c H locs cells slots Z ls C h1 h2 h3 h4 hH hS hl kz)
theorem Run.land {x y : Int64} (hd : DI M pc (.land) 1 nx) (k : Run X d kc ks M nx L (.long (x &&& y) :: S) h Q) : Run X d kc ks M pc L (.long y :: .long x :: S) h Q := by
  obtain ⟨hd, rfl⟩ := hd
  intro E p l e R s m args below meth c H locs cells slots Z ls C h1 h2 h3 h4 hH hS hl kz
  exact lv_land C.1 C.2.1 hd (k E p l e R s m args below meth c H locs cells slots Z ls C h1 h2 h3 h4 hH hS hl kz)
theorem Run.lor {x y : Int64} (hd : DI M pc (.lor) 1 nx) (k : Run X d kc ks M nx L (.long (x ||| y) :: S) h Q) : Run X d kc ks M pc L (.long y :: .long x :: S) h Q := by
  obtain ⟨hd, rfl⟩ := hd
  intro E p l e R s m args below meth c H locs cells slots Z ls C h1 h2 h3 h4 hH hS hl kz
  exact lv_lor C.1 C.2.1 hd (k E p l e R s m args below meth c H locs cells slots Z ls C h1 h2 h3 h4 hH hS hl kz)
theorem Run.ldiv {x y : Int64} (hd : DI M pc (.ldiv) 1 nx) (hy : ¬ y = 0) (k : Run X d kc ks M nx L (.long (x / y) :: S) h Q) : Run X d kc ks M pc L (.long y :: .long x :: S) h Q := by
  obtain ⟨hd, rfl⟩ := hd
  intro E p l e R s m args below meth c H locs cells slots Z ls C h1 h2 h3 h4 hH hS hl kz
  exact lv_ldiv C.1 C.2.1 hd hy (k E p l e R s m args below meth c H locs cells slots Z ls C h1 h2 h3 h4 hH hS hl kz)
theorem Run.lrem {x y : Int64} (hd : DI M pc (.lrem) 1 nx) (hy : ¬ y = 0) (k : Run X d kc ks M nx L (.long (x - x / y * y) :: S) h Q) : Run X d kc ks M pc L (.long y :: .long x :: S) h Q := by
  obtain ⟨hd, rfl⟩ := hd
  intro E p l e R s m args below meth c H locs cells slots Z ls C h1 h2 h3 h4 hH hS hl kz
  exact lv_lrem C.1 C.2.1 hd hy (k E p l e R s m args below meth c H locs cells slots Z ls C h1 h2 h3 h4 hH hS hl kz)
theorem Run.i2l {x : Int32} (hd : DI M pc (.i2l) 1 nx) (k : Run X d kc ks M nx L (.long x.toInt64 :: S) h Q) : Run X d kc ks M pc L (.int x :: S) h Q := by
  obtain ⟨hd, rfl⟩ := hd
  intro E p l e R s m args below meth c H locs cells slots Z ls C h1 h2 h3 h4 hH hS hl kz
  exact lv_i2l C.1 C.2.1 hd rfl (k E p l e R s m args below meth c H locs cells slots Z ls C h1 h2 h3 h4 hH hS hl kz)
theorem Run.l2i {x : Int64} (hd : DI M pc (.l2i) 1 nx) (k : Run X d kc ks M nx L (.int x.toInt32 :: S) h Q) : Run X d kc ks M pc L (.long x :: S) h Q := by
  obtain ⟨hd, rfl⟩ := hd
  intro E p l e R s m args below meth c H locs cells slots Z ls C h1 h2 h3 h4 hH hS hl kz
  exact lv_l2i C.1 C.2.1 hd rfl (k E p l e R s m args below meth c H locs cells slots Z ls C h1 h2 h3 h4 hH hS hl kz)
theorem Run.lushr {x : Int64} {y : Int32} (hd : DI M pc (.lushr) 1 nx) (k : Run X d kc ks M nx L (.long (x.toUInt64 >>> (y.toInt64.toUInt64 &&& Int64.toUInt64 63)).toInt64 :: S) h Q) : Run X d kc ks M pc L (.int y :: .long x :: S) h Q := by
  obtain ⟨hd, rfl⟩ := hd
  intro E p l e R s m args below meth c H locs cells slots Z ls C h1 h2 h3 h4 hH hS hl kz
  exact lv_lushr C.1 C.2.1 hd rfl (k E p l e R s m args below meth c H locs cells slots Z ls C h1 h2 h3 h4 hH hS hl kz)
theorem Run.lshl {x : Int64} {y : Int32} (hd : DI M pc (.lshl) 1 nx) (k : Run X d kc ks M nx L (.long (x <<< (y.toInt64 &&& 63)) :: S) h Q) : Run X d kc ks M pc L (.int y :: .long x :: S) h Q := by
  obtain ⟨hd, rfl⟩ := hd
  intro E p l e R s m args below meth c H locs cells slots Z ls C h1 h2 h3 h4 hH hS hl kz
  exact lv_lshl C.1 C.2.1 hd rfl (k E p l e R s m args below meth c H locs cells slots Z ls C h1 h2 h3 h4 hH hS hl kz)
theorem Run.lcmp {x y : Int64} (hd : DI M pc (.lcmp) 1 nx) (k : Run X d kc ks M nx L (.int (lg_cmp x y) :: S) h Q) : Run X d kc ks M pc L (.long y :: .long x :: S) h Q := by
  obtain ⟨hd, rfl⟩ := hd
  intro E p l e R s m args below meth c H locs cells slots Z ls C h1 h2 h3 h4 hH hS hl kz
  exact W.lcmp C.1 C.2.1 hd (k E p l e R s m args below meth c H locs cells slots Z ls C h1 h2 h3 h4 hH hS hl kz)
theorem Run.iconst {n : Int} {v : Int32} (hd : DI M pc (.iconst n) 1 nx) (hv : Int32.ofInt n = v) (k : Run X d kc ks M nx L (.int v :: S) h Q) : Run X d kc ks M pc L S h Q := by
  obtain ⟨hd, rfl⟩ := hd
  intro E p l e R s m args below meth c H locs cells slots Z ls C h1 h2 h3 h4 hH hS hl kz
  exact lv_iconst C.1 C.2.1 hd hv (k E p l e R s m args below meth c H locs cells slots Z ls C h1 h2 h3 h4 hH hS hl kz)
theorem Run.bipush {n : Int} {v : Int32} (hd : DI M pc (.bipush n) 2 nx) (hv : (Int8.ofInt n).toInt32 = v) (k : Run X d kc ks M nx L (.int v :: S) h Q) : Run X d kc ks M pc L S h Q := by
  obtain ⟨hd, rfl⟩ := hd
  intro E p l e R s m args below meth c H locs cells slots Z ls C h1 h2 h3 h4 hH hS hl kz
  exact lv_bipush C.1 C.2.1 hd hv (k E p l e R s m args below meth c H locs cells slots Z ls C h1 h2 h3 h4 hH hS hl kz)
theorem Run.sipush {n : Int} {v : Int32} (hd : DI M pc (.sipush n) 3 nx) (hv : (Int16.ofInt n).toInt32 = v) (k : Run X d kc ks M nx L (.int v :: S) h Q) : Run X d kc ks M pc L S h Q := by
  obtain ⟨hd, rfl⟩ := hd
  intro E p l e R s m args below meth c H locs cells slots Z ls C h1 h2 h3 h4 hH hS hl kz
  exact lv_sipush C.1 C.2.1 hd hv (k E p l e R s m args below meth c H locs cells slots Z ls C h1 h2 h3 h4 hH hS hl kz)
theorem Run.lconst {n : Fin 2} {v : Int64} (hd : DI M pc (.lconst n) 1 nx) (hv : Int64.ofNat (n : Nat) = v) (k : Run X d kc ks M nx L (.long v :: S) h Q) : Run X d kc ks M pc L S h Q := by
  obtain ⟨hd, rfl⟩ := hd
  intro E p l e R s m args below meth c H locs cells slots Z ls C h1 h2 h3 h4 hH hS hl kz
  exact lv_lconst C.1 C.2.1 hd hv (k E p l e R s m args below meth c H locs cells slots Z ls C h1 h2 h3 h4 hH hS hl kz)
theorem Run.ldcw {n : Nat} {v : Int32} (hd : DI M pc (.ldc_w n) 3 nx) (hc : Cond.constant M.1.cls n v ∈ TB) (k : Run X d kc ks M nx L (.int v :: S) h Q) : Run X d kc ks M pc L S h Q := by
  obtain ⟨hd, rfl⟩ := hd
  intro E p l e R s m args below meth c H locs cells slots Z ls C h1 h2 h3 h4 hH hS hl kz
  exact lv_ldcw C.1 C.2.1 C.2.2.2.2.1 (C.2.2.2.2.2.1 _ hc) hd (k E p l e R s m args below meth c H locs cells slots Z ls C h1 h2 h3 h4 hH hS hl kz)
theorem Run.ldc2 {n : Nat} {v : Int64} (hd : DI M pc (.ldc2_w n) 3 nx) (hc : Cond.constantLong M.1.cls n v ∈ TB) (k : Run X d kc ks M nx L (.long v :: S) h Q) : Run X d kc ks M pc L S h Q := by
  obtain ⟨hd, rfl⟩ := hd
  intro E p l e R s m args below meth c H locs cells slots Z ls C h1 h2 h3 h4 hH hS hl kz
  exact lv_ldc2 C.1 C.2.1 C.2.2.2.2.1 (C.2.2.2.2.2.1 _ hc) hd (k E p l e R s m args below meth c H locs cells slots Z ls C h1 h2 h3 h4 hH hS hl kz)
theorem Run.dup {v : Value} (hd : DI M pc (.dup) 1 nx) (hv : v.category = 1) (k : Run X d kc ks M nx L (v :: v :: S) h Q) : Run X d kc ks M pc L (v :: S) h Q := by
  obtain ⟨hd, rfl⟩ := hd
  intro E p l e R s m args below meth c H locs cells slots Z ls C h1 h2 h3 h4 hH hS hl kz
  exact lv_dup C.1 C.2.1 hd ((e_cat E v).trans hv) (k E p l e R s m args below meth c H locs cells slots Z ls C h1 h2 h3 h4 hH hS hl kz)
theorem Run.dup2 {v w : Value} (hd : DI M pc (.dup2) 1 nx) (hv : v.category = 1) (hw : w.category = 1) (k : Run X d kc ks M nx L (v :: w :: v :: w :: S) h Q) : Run X d kc ks M pc L (v :: w :: S) h Q := by
  obtain ⟨hd, rfl⟩ := hd
  intro E p l e R s m args below meth c H locs cells slots Z ls C h1 h2 h3 h4 hH hS hl kz
  exact lv_dup2_11 C.1 C.2.1 hd ((e_cat E v).trans hv) ((e_cat E w).trans hw) (k E p l e R s m args below meth c H locs cells slots Z ls C h1 h2 h3 h4 hH hS hl kz)
theorem Run.iload_n {i : Fin 4} {x : Int32} (hd : DI M pc (.iload_n i) 1 nx) (hi : L[(i : Nat)]? = some (some (.int x))) (k : Run X d kc ks M nx L (.int x :: S) h Q) : Run X d kc ks M pc L S h Q := by
  obtain ⟨hd, rfl⟩ := hd
  intro E p l e R s m args below meth c H locs cells slots Z ls C h1 h2 h3 h4 hH hS hl kz
  exact lv_iload_n C.1 C.2.1 hd rfl (lv_of hl hi) (k E p l e R s m args below meth c H locs cells slots Z ls C h1 h2 h3 h4 hH hS hl kz)
theorem Run.iload {i : Nat} {x : Int32} (hd : DI M pc (.iload i) 2 nx) (hi : L[i]? = some (some (.int x))) (k : Run X d kc ks M nx L (.int x :: S) h Q) : Run X d kc ks M pc L S h Q := by
  obtain ⟨hd, rfl⟩ := hd
  intro E p l e R s m args below meth c H locs cells slots Z ls C h1 h2 h3 h4 hH hS hl kz
  exact lv_iload C.1 C.2.1 hd (lv_of hl hi) (k E p l e R s m args below meth c H locs cells slots Z ls C h1 h2 h3 h4 hH hS hl kz)
theorem Run.istore_n {i : Fin 4} {x : Int32} (hd : DI M pc (.istore_n i) 1 nx) (hf : freeAt L (i : Nat) = true) (hi : (L[(i : Nat)]?).isSome = true) (k : Run X d kc ks M nx (L.set (i : Nat) (some (.int x))) S h Q) : Run X d kc ks M pc L (.int x :: S) h Q := by
  obtain ⟨hd, rfl⟩ := hd
  intro E p l e R s m args below meth c H locs cells slots Z ls C h1 h2 h3 h4 hH hS hl kz
  have hi2 : (i : Nat) < M.2.2.1 := by
    rw [← hl.2.1]
    exact (List.getElem?_eq_some_iff.mp (Option.eq_some_of_isSome hi)).1
  refine lv_istore_n C.1 C.2.1 hd rfl (lvL_has hl) hi2 rfl (fun ls2 hl2 => ?_)
  exact k E p l e R s m args below meth c H locs cells slots Z ls2 C h1 h2 h3 h4 hH hS (lvOK_1 (v := .int x) hl hf hi2 hl2) kz
theorem Run.istore {i : Nat} {x : Int32} (hd : DI M pc (.istore i) 2 nx) (hf : freeAt L i = true) (hi : (L[i]?).isSome = true) (k : Run X d kc ks M nx (L.set i (some (.int x))) S h Q) : Run X d kc ks M pc L (.int x :: S) h Q := by
  obtain ⟨hd, rfl⟩ := hd
  intro E p l e R s m args below meth c H locs cells slots Z ls C h1 h2 h3 h4 hH hS hl kz
  have hi2 : i < M.2.2.1 := by
    rw [← hl.2.1]
    exact (List.getElem?_eq_some_iff.mp (Option.eq_some_of_isSome hi)).1
  refine lv_istore C.1 C.2.1 hd (lvL_has hl) hi2 rfl (fun ls2 hl2 => ?_)
  exact k E p l e R s m args below meth c H locs cells slots Z ls2 C h1 h2 h3 h4 hH hS (lvOK_1 (v := .int x) hl hf hi2 hl2) kz
theorem Run.lload_n {i : Fin 4} {x : Int64} (hd : DI M pc (.lload_n i) 1 nx) (hi : L[(i : Nat)]? = some (some (.long x))) (k : Run X d kc ks M nx L (.long x :: S) h Q) : Run X d kc ks M pc L S h Q := by
  obtain ⟨hd, rfl⟩ := hd
  intro E p l e R s m args below meth c H locs cells slots Z ls C h1 h2 h3 h4 hH hS hl kz
  exact lv_lload_n C.1 C.2.1 hd rfl (lv_of hl hi) (k E p l e R s m args below meth c H locs cells slots Z ls C h1 h2 h3 h4 hH hS hl kz)
theorem Run.lload {i : Nat} {x : Int64} (hd : DI M pc (.lload i) 2 nx) (hi : L[i]? = some (some (.long x))) (k : Run X d kc ks M nx L (.long x :: S) h Q) : Run X d kc ks M pc L S h Q := by
  obtain ⟨hd, rfl⟩ := hd
  intro E p l e R s m args below meth c H locs cells slots Z ls C h1 h2 h3 h4 hH hS hl kz
  exact lv_lload C.1 C.2.1 hd (lv_of hl hi) (k E p l e R s m args below meth c H locs cells slots Z ls C h1 h2 h3 h4 hH hS hl kz)
theorem Run.lstore_n {i : Fin 4} {x : Int64} (hd : DI M pc (.lstore_n i) 1 nx) (hf : freeAt L (i : Nat) = true) (hi : (L[(i : Nat) + 1]?).isSome = true) (k : Run X d kc ks M nx ((L.set (i : Nat) (some (.long x))).set ((i : Nat) + 1) none) S h Q) : Run X d kc ks M pc L (.long x :: S) h Q := by
  obtain ⟨hd, rfl⟩ := hd
  intro E p l e R s m args below meth c H locs cells slots Z ls C h1 h2 h3 h4 hH hS hl kz
  have hi2 : (i : Nat) + 1 < M.2.2.1 := by
    rw [← hl.2.1]
    exact (List.getElem?_eq_some_iff.mp (Option.eq_some_of_isSome hi)).1
  refine lv_lstore_n C.1 C.2.1 hd rfl (lvL_has hl) hi2 rfl (fun ls2 hl2 => ?_)
  exact k E p l e R s m args below meth c H locs cells slots Z ls2 C h1 h2 h3 h4 hH hS (lvOK_2 (v := .long x) hl hf hi2 hl2) kz
theorem Run.lstore {i : Nat} {x : Int64} (hd : DI M pc (.lstore i) 2 nx) (hf : freeAt L i = true) (hi : (L[i + 1]?).isSome = true) (k : Run X d kc ks M nx ((L.set i (some (.long x))).set (i + 1) none) S h Q) : Run X d kc ks M pc L (.long x :: S) h Q := by
  obtain ⟨hd, rfl⟩ := hd
  intro E p l e R s m args below meth c H locs cells slots Z ls C h1 h2 h3 h4 hH hS hl kz
  have hi2 : i + 1 < M.2.2.1 := by
    rw [← hl.2.1]
    exact (List.getElem?_eq_some_iff.mp (Option.eq_some_of_isSome hi)).1
  refine lv_lstore C.1 C.2.1 hd (lvL_has hl) hi2 rfl (fun ls2 hl2 => ?_)
  exact k E p l e R s m args below meth c H locs cells slots Z ls2 C h1 h2 h3 h4 hH hS (lvOK_2 (v := .long x) hl hf hi2 hl2) kz
theorem Run.aload_n {i : Fin 4} {x : Nat} (hd : DI M pc (.aload_n i) 1 nx) (hi : L[(i : Nat)]? = some (some (.ref x))) (k : Run X d kc ks M nx L (.ref x :: S) h Q) : Run X d kc ks M pc L S h Q := by
  obtain ⟨hd, rfl⟩ := hd
  intro E p l e R s m args below meth c H locs cells slots Z ls C h1 h2 h3 h4 hH hS hl kz
  exact lv_aload_n C.1 C.2.1 hd rfl (lv_of hl hi) (k E p l e R s m args below meth c H locs cells slots Z ls C h1 h2 h3 h4 hH hS hl kz)
theorem Run.aload {i : Nat} {x : Nat} (hd : DI M pc (.aload i) 2 nx) (hi : L[i]? = some (some (.ref x))) (k : Run X d kc ks M nx L (.ref x :: S) h Q) : Run X d kc ks M pc L S h Q := by
  obtain ⟨hd, rfl⟩ := hd
  intro E p l e R s m args below meth c H locs cells slots Z ls C h1 h2 h3 h4 hH hS hl kz
  exact lv_aload C.1 C.2.1 hd (lv_of hl hi) (k E p l e R s m args below meth c H locs cells slots Z ls C h1 h2 h3 h4 hH hS hl kz)
theorem Run.astore_n {i : Fin 4} {x : Nat} (hd : DI M pc (.astore_n i) 1 nx) (hf : freeAt L (i : Nat) = true) (hi : (L[(i : Nat)]?).isSome = true) (k : Run X d kc ks M nx (L.set (i : Nat) (some (.ref x))) S h Q) : Run X d kc ks M pc L (.ref x :: S) h Q := by
  obtain ⟨hd, rfl⟩ := hd
  intro E p l e R s m args below meth c H locs cells slots Z ls C h1 h2 h3 h4 hH hS hl kz
  have hi2 : (i : Nat) < M.2.2.1 := by
    rw [← hl.2.1]
    exact (List.getElem?_eq_some_iff.mp (Option.eq_some_of_isSome hi)).1
  refine lv_astore_n C.1 C.2.1 hd rfl (lvL_has hl) hi2 rfl (fun ls2 hl2 => ?_)
  exact k E p l e R s m args below meth c H locs cells slots Z ls2 C h1 h2 h3 h4 hH hS (lvOK_1 (v := .ref x) hl hf hi2 hl2) kz
theorem Run.astore {i : Nat} {x : Nat} (hd : DI M pc (.astore i) 2 nx) (hf : freeAt L i = true) (hi : (L[i]?).isSome = true) (k : Run X d kc ks M nx (L.set i (some (.ref x))) S h Q) : Run X d kc ks M pc L (.ref x :: S) h Q := by
  obtain ⟨hd, rfl⟩ := hd
  intro E p l e R s m args below meth c H locs cells slots Z ls C h1 h2 h3 h4 hH hS hl kz
  have hi2 : i < M.2.2.1 := by
    rw [← hl.2.1]
    exact (List.getElem?_eq_some_iff.mp (Option.eq_some_of_isSome hi)).1
  refine lv_astore C.1 C.2.1 hd (lvL_has hl) hi2 rfl (fun ls2 hl2 => ?_)
  exact k E p l e R s m args below meth c H locs cells slots Z ls2 C h1 h2 h3 h4 hH hS (lvOK_1 (v := .ref x) hl hf hi2 hl2) kz
theorem Run.iinc {i : Nat} {n : Int} {x v : Int32} (hd : DI M pc (.iinc i n) 3 nx) (hx : L[i]? = some (some (.int x))) (hv : x + Int32.ofInt n = v) (hf : freeAt L i = true) (k : Run X d kc ks M nx (L.set i (some (.int v))) S h Q) : Run X d kc ks M pc L S h Q := by
  obtain ⟨hd, rfl⟩ := hd
  intro E p l e R s m args below meth c H locs cells slots Z ls C h1 h2 h3 h4 hH hS hl kz
  have hi2 : i < M.2.2.1 := by
    rw [← hl.2.1]
    exact (List.getElem?_eq_some_iff.mp hx).1
  obtain ⟨j, hj⟩ := List.getElem?_of_mem (lvL_mem (E := E) hx)
  refine lv_iinc C.1 C.2.1 hd (lvL_has hl) hj hv hi2 rfl (fun ls2 hl2 => ?_)
  exact k E p l e R s m args below meth c H locs cells slots Z ls2 C h1 h2 h3 h4 hH hS (lvOK_1 (v := .int v) hl hf hi2 hl2) kz
theorem Run.if_eq {x : Int32} {off : Int} (hd : DJ M pc (.ifCond .eq off) off 3 nx tgt) (kt : x = 0 → Run X d kc ks M tgt L S h Q) (kf : ¬ x = 0 → Run X d kc ks M nx L S h Q) : Run X d kc ks M pc L (.int x :: S) h Q := by
  obtain ⟨hd, rfl, ht⟩ := hd
  intro E p l e R s m args below meth c H locs cells slots Z ls C h1 h2 h3 h4 hH hS hl kz
  exact lv_if_eq C.1 C.2.1 hd ht (fun q => kt q E p l e R s m args below meth c H locs cells slots Z ls C h1 h2 h3 h4 hH hS hl kz) (fun q => kf q E p l e R s m args below meth c H locs cells slots Z ls C h1 h2 h3 h4 hH hS hl kz)
theorem Run.icmp_eq {x y : Int32} {off : Int} (hd : DJ M pc (.if_icmp .eq off) off 3 nx tgt) (kt : x = y → Run X d kc ks M tgt L S h Q) (kf : ¬ x = y → Run X d kc ks M nx L S h Q) : Run X d kc ks M pc L (.int y :: .int x :: S) h Q := by
  obtain ⟨hd, rfl, ht⟩ := hd
  intro E p l e R s m args below meth c H locs cells slots Z ls C h1 h2 h3 h4 hH hS hl kz
  exact lv_icmp_eq C.1 C.2.1 hd ht (fun q => kt q E p l e R s m args below meth c H locs cells slots Z ls C h1 h2 h3 h4 hH hS hl kz) (fun q => kf q E p l e R s m args below meth c H locs cells slots Z ls C h1 h2 h3 h4 hH hS hl kz)
theorem Run.if_ne {x : Int32} {off : Int} (hd : DJ M pc (.ifCond .ne off) off 3 nx tgt) (kt : ¬ x = 0 → Run X d kc ks M tgt L S h Q) (kf : x = 0 → Run X d kc ks M nx L S h Q) : Run X d kc ks M pc L (.int x :: S) h Q := by
  obtain ⟨hd, rfl, ht⟩ := hd
  intro E p l e R s m args below meth c H locs cells slots Z ls C h1 h2 h3 h4 hH hS hl kz
  exact lv_if_ne C.1 C.2.1 hd ht (fun q => kt q E p l e R s m args below meth c H locs cells slots Z ls C h1 h2 h3 h4 hH hS hl kz) (fun q => kf q E p l e R s m args below meth c H locs cells slots Z ls C h1 h2 h3 h4 hH hS hl kz)
theorem Run.icmp_ne {x y : Int32} {off : Int} (hd : DJ M pc (.if_icmp .ne off) off 3 nx tgt) (kt : ¬ x = y → Run X d kc ks M tgt L S h Q) (kf : x = y → Run X d kc ks M nx L S h Q) : Run X d kc ks M pc L (.int y :: .int x :: S) h Q := by
  obtain ⟨hd, rfl, ht⟩ := hd
  intro E p l e R s m args below meth c H locs cells slots Z ls C h1 h2 h3 h4 hH hS hl kz
  exact lv_icmp_ne C.1 C.2.1 hd ht (fun q => kt q E p l e R s m args below meth c H locs cells slots Z ls C h1 h2 h3 h4 hH hS hl kz) (fun q => kf q E p l e R s m args below meth c H locs cells slots Z ls C h1 h2 h3 h4 hH hS hl kz)
theorem Run.if_lt {x : Int32} {off : Int} (hd : DJ M pc (.ifCond .lt off) off 3 nx tgt) (kt : x < 0 → Run X d kc ks M tgt L S h Q) (kf : ¬ x < 0 → Run X d kc ks M nx L S h Q) : Run X d kc ks M pc L (.int x :: S) h Q := by
  obtain ⟨hd, rfl, ht⟩ := hd
  intro E p l e R s m args below meth c H locs cells slots Z ls C h1 h2 h3 h4 hH hS hl kz
  exact lv_if_lt C.1 C.2.1 hd ht (fun q => kt q E p l e R s m args below meth c H locs cells slots Z ls C h1 h2 h3 h4 hH hS hl kz) (fun q => kf q E p l e R s m args below meth c H locs cells slots Z ls C h1 h2 h3 h4 hH hS hl kz)
theorem Run.icmp_lt {x y : Int32} {off : Int} (hd : DJ M pc (.if_icmp .lt off) off 3 nx tgt) (kt : x < y → Run X d kc ks M tgt L S h Q) (kf : ¬ x < y → Run X d kc ks M nx L S h Q) : Run X d kc ks M pc L (.int y :: .int x :: S) h Q := by
  obtain ⟨hd, rfl, ht⟩ := hd
  intro E p l e R s m args below meth c H locs cells slots Z ls C h1 h2 h3 h4 hH hS hl kz
  exact lv_icmp_lt C.1 C.2.1 hd ht (fun q => kt q E p l e R s m args below meth c H locs cells slots Z ls C h1 h2 h3 h4 hH hS hl kz) (fun q => kf q E p l e R s m args below meth c H locs cells slots Z ls C h1 h2 h3 h4 hH hS hl kz)
theorem Run.if_ge {x : Int32} {off : Int} (hd : DJ M pc (.ifCond .ge off) off 3 nx tgt) (kt : 0 ≤ x → Run X d kc ks M tgt L S h Q) (kf : ¬ 0 ≤ x → Run X d kc ks M nx L S h Q) : Run X d kc ks M pc L (.int x :: S) h Q := by
  obtain ⟨hd, rfl, ht⟩ := hd
  intro E p l e R s m args below meth c H locs cells slots Z ls C h1 h2 h3 h4 hH hS hl kz
  exact lv_if_ge C.1 C.2.1 hd ht (fun q => kt q E p l e R s m args below meth c H locs cells slots Z ls C h1 h2 h3 h4 hH hS hl kz) (fun q => kf q E p l e R s m args below meth c H locs cells slots Z ls C h1 h2 h3 h4 hH hS hl kz)
theorem Run.icmp_ge {x y : Int32} {off : Int} (hd : DJ M pc (.if_icmp .ge off) off 3 nx tgt) (kt : y ≤ x → Run X d kc ks M tgt L S h Q) (kf : ¬ y ≤ x → Run X d kc ks M nx L S h Q) : Run X d kc ks M pc L (.int y :: .int x :: S) h Q := by
  obtain ⟨hd, rfl, ht⟩ := hd
  intro E p l e R s m args below meth c H locs cells slots Z ls C h1 h2 h3 h4 hH hS hl kz
  exact lv_icmp_ge C.1 C.2.1 hd ht (fun q => kt q E p l e R s m args below meth c H locs cells slots Z ls C h1 h2 h3 h4 hH hS hl kz) (fun q => kf q E p l e R s m args below meth c H locs cells slots Z ls C h1 h2 h3 h4 hH hS hl kz)
theorem Run.if_gt {x : Int32} {off : Int} (hd : DJ M pc (.ifCond .gt off) off 3 nx tgt) (kt : 0 < x → Run X d kc ks M tgt L S h Q) (kf : ¬ 0 < x → Run X d kc ks M nx L S h Q) : Run X d kc ks M pc L (.int x :: S) h Q := by
  obtain ⟨hd, rfl, ht⟩ := hd
  intro E p l e R s m args below meth c H locs cells slots Z ls C h1 h2 h3 h4 hH hS hl kz
  exact lv_if_gt C.1 C.2.1 hd ht (fun q => kt q E p l e R s m args below meth c H locs cells slots Z ls C h1 h2 h3 h4 hH hS hl kz) (fun q => kf q E p l e R s m args below meth c H locs cells slots Z ls C h1 h2 h3 h4 hH hS hl kz)
theorem Run.icmp_gt {x y : Int32} {off : Int} (hd : DJ M pc (.if_icmp .gt off) off 3 nx tgt) (kt : y < x → Run X d kc ks M tgt L S h Q) (kf : ¬ y < x → Run X d kc ks M nx L S h Q) : Run X d kc ks M pc L (.int y :: .int x :: S) h Q := by
  obtain ⟨hd, rfl, ht⟩ := hd
  intro E p l e R s m args below meth c H locs cells slots Z ls C h1 h2 h3 h4 hH hS hl kz
  exact lv_icmp_gt C.1 C.2.1 hd ht (fun q => kt q E p l e R s m args below meth c H locs cells slots Z ls C h1 h2 h3 h4 hH hS hl kz) (fun q => kf q E p l e R s m args below meth c H locs cells slots Z ls C h1 h2 h3 h4 hH hS hl kz)
theorem Run.if_le {x : Int32} {off : Int} (hd : DJ M pc (.ifCond .le off) off 3 nx tgt) (kt : x ≤ 0 → Run X d kc ks M tgt L S h Q) (kf : ¬ x ≤ 0 → Run X d kc ks M nx L S h Q) : Run X d kc ks M pc L (.int x :: S) h Q := by
  obtain ⟨hd, rfl, ht⟩ := hd
  intro E p l e R s m args below meth c H locs cells slots Z ls C h1 h2 h3 h4 hH hS hl kz
  exact lv_if_le C.1 C.2.1 hd ht (fun q => kt q E p l e R s m args below meth c H locs cells slots Z ls C h1 h2 h3 h4 hH hS hl kz) (fun q => kf q E p l e R s m args below meth c H locs cells slots Z ls C h1 h2 h3 h4 hH hS hl kz)
theorem Run.icmp_le {x y : Int32} {off : Int} (hd : DJ M pc (.if_icmp .le off) off 3 nx tgt) (kt : x ≤ y → Run X d kc ks M tgt L S h Q) (kf : ¬ x ≤ y → Run X d kc ks M nx L S h Q) : Run X d kc ks M pc L (.int y :: .int x :: S) h Q := by
  obtain ⟨hd, rfl, ht⟩ := hd
  intro E p l e R s m args below meth c H locs cells slots Z ls C h1 h2 h3 h4 hH hS hl kz
  exact lv_icmp_le C.1 C.2.1 hd ht (fun q => kt q E p l e R s m args below meth c H locs cells slots Z ls C h1 h2 h3 h4 hH hS hl kz) (fun q => kf q E p l e R s m args below meth c H locs cells slots Z ls C h1 h2 h3 h4 hH hS hl kz)
theorem Run.goto {off : Int} (hd : DJ M pc (.goto off) off 3 nx tgt) (k : Run X d kc ks M tgt L S h Q) : Run X d kc ks M pc L S h Q := by
  obtain ⟨hd, rfl, ht⟩ := hd
  intro E p l e R s m args below meth c H locs cells slots Z ls C h1 h2 h3 h4 hH hS hl kz
  exact lv_goto C.1 C.2.1 hd ht (k E p l e R s m args below meth c H locs cells slots Z ls C h1 h2 h3 h4 hH hS hl kz)
theorem Run.tswIn {dflt lo hi : Int} {offs : Array Int} {x : Int32} {off : Int} {len : Nat} (hd : decode M.2.1 pc = .ok (.tableswitch dflt lo hi offs, len)) (a1 : ¬ x.toInt < lo) (a2 : ¬ hi < x.toInt) (ho : offs[(x.toInt - lo).toNat]? = some off) (ht : (pc : Int) + off = (tgt : Int)) (k : Run X d kc ks M tgt L S h Q) : Run X d kc ks M pc L (.int x :: S) h Q := by
  intro E p l e R s m args below meth c H locs cells slots Z ls C h1 h2 h3 h4 hH hS hl kz
  exact lv_tableIn C.1 C.2.1 hd a1 a2 ho ht (k E p l e R s m args below meth c H locs cells slots Z ls C h1 h2 h3 h4 hH hS hl kz)
theorem Run.tswOut {dflt lo hi : Int} {offs : Array Int} {x : Int32} {len : Nat} (hd : decode M.2.1 pc = .ok (.tableswitch dflt lo hi offs, len)) (a1 : x.toInt < lo ∨ hi < x.toInt) (ht : (pc : Int) + dflt = (tgt : Int)) (k : Run X d kc ks M tgt L S h Q) : Run X d kc ks M pc L (.int x :: S) h Q := by
  intro E p l e R s m args below meth c H locs cells slots Z ls C h1 h2 h3 h4 hH hS hl kz
  exact lv_tableOut C.1 C.2.1 hd a1 ht (k E p l e R s m args below meth c H locs cells slots Z ls C h1 h2 h3 h4 hH hS hl kz)
theorem Run.lsw {dflt : Int} {ps : Array (Int × Int)} {x : Int32} {off : Int} {len : Nat} (hd : decode M.2.1 pc = .ok (.lookupswitch dflt ps, len)) (hp : (ps.toList.zip (ps.toList.drop 1)).all (fun (a, next) => a.1 < next.1) = true) (ho : Op.lookupswitch.offset ps.toList dflt x.toInt = off) (ht : (pc : Int) + off = (tgt : Int)) (k : Run X d kc ks M tgt L S h Q) : Run X d kc ks M pc L (.int x :: S) h Q := by
  intro E p l e R s m args below meth c H locs cells slots Z ls C h1 h2 h3 h4 hH hS hl kz
  exact lv_lookup C.1 C.2.1 hd hp ho ht (k E p l e R s m args below meth c H locs cells slots Z ls C h1 h2 h3 h4 hH hS hl kz)
theorem Run.iret {x : Int32} {ty : FieldType} (hd : DI M pc .ireturn 1 nx) (hr : M.2.2.2 = some ty) (hn : narrow ty (.int x) = .int x) (hq : Q (some (.int x)) h) : Run X d kc ks M pc L [.int x] h Q := by
  intro E p l e R s m args below meth c H locs cells slots Z ls C h1 h2 h3 h4 hH hS hl kz
  exact kz _ h H locs cells slots _ hq ⟨pc, ls, Or.inr (Or.inl ⟨x, ty, rfl, rfl, hd.1, hr, hn⟩)⟩ hH hS (Nat.le_add_right _ _) (Nat.le_add_right _ _)
theorem Run.lret {x : Int64} (hd : DI M pc .lreturn 1 nx) (hr : M.2.2.2 = some .long) (hq : Q (some (.long x)) h) : Run X d kc ks M pc L [.long x] h Q := by
  intro E p l e R s m args below meth c H locs cells slots Z ls C h1 h2 h3 h4 hH hS hl kz
  exact kz _ h H locs cells slots _ hq ⟨pc, ls, Or.inr (Or.inr ⟨x, rfl, rfl, hd.1, hr⟩)⟩ hH hS (Nat.le_add_right _ _) (Nat.le_add_right _ _)
theorem Run.vret (hd : DI M pc .return_ 1 nx) (hr : M.2.2.2 = none) (hq : Q none h) : Run X d kc ks M pc L [] h Q := by
  intro E p l e R s m args below meth c H locs cells slots Z ls C h1 h2 h3 h4 hH hS hl kz
  exact kz _ h H locs cells slots _ hq ⟨pc, ls, Or.inl ⟨rfl, rfl, hd.1, hr⟩⟩ hH hS (Nat.le_add_right _ _) (Nat.le_add_right _ _)
theorem Run.weaken {Q2 : Option Value → AH → Prop} (hQ : ∀ r h2, Q2 r h2 → Q r h2) (k : Run X d kc ks M pc L S h Q2) : Run X d kc ks M pc L S h Q := by
  intro E p l e R s m args below meth c H locs cells slots Z ls C h1 h2 h3 h4 hH hS hl kz
  exact k E p l e R s m args below meth c H locs cells slots Z ls C h1 h2 h3 h4 hH hS hl (fun r h9 H9 l9 c9 s9 g q => kz r h9 H9 l9 c9 s9 g (hQ _ _ q))
end RUN
end
section
/-! ===== rows for Run: fields and arrays ===== -/
theorem kl_in {ci : Nat} {C : String} {T : u_T} {N : Nat} (h : KL[ci]? = some (C, T, N)) : (∀ w ∈ u_ws C T N, w ∈ TB) ∧ (∃ ty : Nat → FieldType, ∀ k, k < N → parseFieldDescriptor (T k).2.2.1 = some (ty k)) ∧ ∀ a, a < N → ∀ b, b < N → a ≠ b → (T a).2.1 ≠ (T b).2.1 := by
  match ci, h with
  | 0, h => cases h; exact ⟨Ci_Ac, ⟨_, Ck_Ac⟩, Cn_Ac⟩
  | 1, h => cases h; exact ⟨Ci_Co, ⟨_, Ck_Co⟩, Cn_Co⟩
  | 2, h => cases h; exact ⟨Ci_Gi, ⟨_, Ck_Gi⟩, Cn_Gi⟩
  | 3, h => cases h; exact ⟨Ci_Mo, ⟨_, Ck_Mo⟩, Cn_Mo⟩
  | 4, h => cases h; exact ⟨Ci_St, ⟨_, Ck_St⟩, Cn_St⟩
  | 5, h => cases h; exact ⟨Ci_Te, ⟨_, Ck_Te⟩, Cn_Te⟩
  | 6, h => cases h; exact ⟨Ci_Tu, ⟨_, Ck_Tu⟩, Cn_Tu⟩
  | 7, h => cases h; exact ⟨Ci_PM, ⟨_, Ck_PM⟩, Cn_PM⟩
  | 8, h => cases h; exact ⟨Ci_Rf, ⟨_, Ck_Rf⟩, Cn_Rf⟩
  | k + 9, h => simp [KL] at h
/-- a field's link of a class: the object's class, the place of the field, its type, whether it is final -/
def FL (own : String) (idx ci slot : Nat) (ty : FieldType) (fin : Bool) : Prop := ∃ (C : String) (T : u_T) (N : Nat), KL[ci]? = some (C, T, N) ∧ slot < N ∧ (T slot).1 = C ∧ Cond.fieldLink own idx C (T slot).2.1 (T slot).2.2.1 ∈ TB ∧ parseFieldDescriptor (T slot).2.2.1 = some ty ∧ (T slot).2.2.2 = fin
section RUNH
variable {X : Nat × (Nat → Int32)} {d kc ks : Nat} {M : MR} {pc nx tgt : Nat} {L : List (Option Value)} {S : List Value} {h : AH} {Q : Option Value → AH → Prop}
theorem Cx.ts {E : EV} {p : Program} {s : State} {m : MethodId} {args : Array Value} {meth : Method} {c : Code} (C : Cx X E M p s m args meth c) : ∀ w ∈ TB, w.before args s = true := C.2.2.2.2.2.1
theorem Cx.own {E : EV} {p : Program} {s : State} {m : MethodId} {args : Array Value} {meth : Method} {c : Code} (C : Cx X E M p s m args meth c) : s.vm.findClass M.1.cls = some m.cls := C.2.2.2.2.1
theorem Cx.K {E : EV} {p : Program} {s : State} {m : MethodId} {args : Array Value} {meth : Method} {c : Code} (C : Cx X E M p s m args meth c) : va_K E.2.2.1 KL (e_tys E) s := C.2.2.2.2.2.2.2.2.1
theorem Cx.hA {E : EV} {p : Program} {s : State} {m : MethodId} {args : Array Value} {meth : Method} {c : Code} (C : Cx X E M p s m args meth c) : ∀ q, s.heap.size ≤ q → e_A E q := fun q h => Nat.le_trans C.2.2.2.2.2.2.2.2.2.2.2.2.2 h
theorem hpOK.set {E : EV} {s : State} {cells : Nat} {H1 : Heap} {k : Nat} {c : AC} (hs : s.heap.size + cells = E.2.1 + h.length) (hP : va_P E.2.2.1 KL ((e_h E h).set k (E.2.1 + k, e_c E c)) H1) : hpOK E s cells (h.set k c) H1 := ⟨by rw [List.length_set]; exact hs, by rw [e_h_set]; exact hP⟩
theorem Run.getf {idx ci slot k : Nat} {ty : FieldType} {fin : Bool} {fs : List Value} {v : Value} (hd : DI M pc (.getfield idx) 3 nx) (fl : FL M.1.cls idx ci slot ty fin) (hk : h[k]? = some (.inr (ci, fs))) (hv : fs[slot]? = some v) (kk : Run X d kc ks M nx L (v :: S) h Q) : Run X d kc ks M pc L (.ref (k + 1) :: S) h Q := by
  obtain ⟨hd, rfl⟩ := hd
  obtain ⟨C0, T, N, hc, hs, hC, hlk, -, -⟩ := fl
  intro E p l e R s m args below meth c H locs cells slots Z ls C h1 h2 h3 h4 hH hS hl kz
  exact va_get (D := E.2.2.1) (cl := KL) C.1 C.2.1 C.ts (kl_in hc).1 C.own C.K hH.2 k (e_h_at hk) hc slot hs (C.ts _ hlk) (by rw [hC]; exact fun _ q => q) (by rw [List.getElem?_map, hv]; rfl) hd (kk E p l e R s m args below meth c H locs cells slots Z ls C h1 h2 h3 h4 hH hS hl kz)
theorem Run.putf {idx ci slot k : Nat} {ty : FieldType} {fs : List Value} {v : Value} (hd : DI M pc (.putfield idx) 3 nx) (fl : FL M.1.cls idx ci slot ty false) (hn : ∀ E, narrow ty (e_v E v) = e_v E v) (hf : ∀ E, fits ty (e_v E v) = true) (hk : h[k]? = some (.inr (ci, fs))) (hsl : slot < fs.length) (kk : Run X d kc ks M nx L S (h.set k (.inr (ci, fs.set slot v))) Q) : Run X d kc ks M pc L (v :: .ref (k + 1) :: S) h Q := by
  obtain ⟨hd, rfl⟩ := hd
  obtain ⟨C0, T, N, hc, hs, hC, hlk, hty, hfin⟩ := fl
  obtain ⟨q1, ⟨tyf, q2⟩, q3⟩ := kl_in hc
  intro E p l e R s m args below meth c H locs cells slots Z ls C h1 h2 h3 h4 hH hS hl kz
  refine va_put (D := E.2.2.1) (cl := KL) C.1 C.2.1 C.ts q1 tyf q2 q3 C.own C.K hH.2 (e_D h) hS k (e_h_at hk) hc slot hs (C.ts _ hlk) (by rw [hC]; exact fun _ q => q) hfin hty (hn E) (hf E) (by simpa using hsl) hd (fun H1 locs1 hP1 _ hS1 => ?_)
  rw [← List.map_set] at hP1
  exact kk E p l e R s m args below meth c H1 locs1 cells slots Z ls C h1 h2 h3 h4 (hpOK.set hH.1 hP1) hS1 hl kz
theorem Run.putF {idx ci slot k : Nat} {ty : FieldType} {fs : List Value} {v : Value} (hd : DI M pc (.putfield idx) 3 nx) (fl : FL M.1.cls idx ci slot ty true) (hn : ∀ E, narrow ty (e_v E v) = e_v E v) (hf : ∀ E, fits ty (e_v E v) = true) (hi : M.1.name = "<init>") (hcl : (KL[ci]?).map (fun q => q.1) = some M.1.cls) (hk : h[k]? = some (.inr (ci, fs))) (hsl : slot < fs.length) (kk : Run X d kc ks M nx L S (h.set k (.inr (ci, fs.set slot v))) Q) : Run X d kc ks M pc L (v :: .ref (k + 1) :: S) h Q := by
  obtain ⟨hd, rfl⟩ := hd
  obtain ⟨C0, T, N, hc, hs, hC, hlk, hty, hfin⟩ := fl
  obtain ⟨q1, ⟨tyf, q2⟩, q3⟩ := kl_in hc
  rw [hc] at hcl
  have hcl2 : C0 = M.1.cls := Option.some.inj hcl
  intro E p l e R s m args below meth c H locs cells slots Z ls C h1 h2 h3 h4 hH hS hl kz
  refine va_putF (D := E.2.2.1) (cl := KL) C.1 C.2.1 C.ts q1 tyf q2 q3 C.own C.K hH.2 (e_D h) hS k (e_h_at hk) hc slot hs (C.ts _ hlk) (by rw [hC]; exact fun _ q => q) hfin (C.2.2.2.2.2.2.2.1.trans hi) (hC.trans hcl2) hty (hn E) (hf E) (by simpa using hsl) hd (fun H1 locs1 hP1 _ hS1 => ?_)
  rw [← List.map_set] at hP1
  exact kk E p l e R s m args below meth c H1 locs1 cells slots Z ls C h1 h2 h3 h4 (hpOK.set hH.1 hP1) hS1 hl kz
theorem Run.iald {k n : Nat} {f : Nat → Int32} {i : Int32} (hd : DI M pc .iaload 1 nx) (hk : h[k]? = some (.inl (.int, n, .inl f))) (hi : vp_in i n) (kk : Run X d kc ks M nx L (.int (f i.toNatClampNeg) :: S) h Q) : Run X d kc ks M pc L (.int i :: .ref (k + 1) :: S) h Q := by
  obtain ⟨hd, rfl⟩ := hd
  intro E p l e R s m args below meth c H locs cells slots Z ls C h1 h2 h3 h4 hH hS hl kz
  exact va_iald (D := E.2.2.1) (cl := KL) C.1 C.2.1 C.K hH.2 k 0 (e_h_at hk) rfl hi hd (kk E p l e R s m args below meth c H locs cells slots Z ls C h1 h2 h3 h4 hH hS hl kz)
theorem Run.zald {k n : Nat} {f : Nat → Int32} {i : Int32} (hd : DI M pc .baload 1 nx) (hk : h[k]? = some (.inl (.boolean, n, .inl f))) (hi : vp_in i n) (kk : Run X d kc ks M nx L (.int (f i.toNatClampNeg) :: S) h Q) : Run X d kc ks M pc L (.int i :: .ref (k + 1) :: S) h Q := by
  obtain ⟨hd, rfl⟩ := hd
  intro E p l e R s m args below meth c H locs cells slots Z ls C h1 h2 h3 h4 hH hS hl kz
  exact va_zald (D := E.2.2.1) (cl := KL) C.1 C.2.1 C.K hH.2 k 1 (e_h_at hk) rfl hi hd (kk E p l e R s m args below meth c H locs cells slots Z ls C h1 h2 h3 h4 hH hS hl kz)
theorem Run.aald {k n r : Nat} {f : Nat → Option Nat} {i : Int32} (hd : DI M pc .aaload 1 nx) (hk : h[k]? = some (.inl (.object "PearlMother$State", n, .inr (.inr (.inr (.inr f)))))) (hi : vp_in i n) (hr : f i.toNatClampNeg = some r) (kk : Run X d kc ks M nx L (.ref r :: S) h Q) : Run X d kc ks M pc L (.int i :: .ref (k + 1) :: S) h Q := by
  obtain ⟨hd, rfl⟩ := hd
  intro E p l e R s m args below meth c H locs cells slots Z ls C h1 h2 h3 h4 hH hS hl kz
  refine va_aldq (D := E.2.2.1) (cl := KL) (C := "PearlMother$State") C.1 C.2.1 C.K hH.2 k 2 (e_h_at hk) rfl hi hd ?_
  have := kk E p l e R s m args below meth c H locs cells slots Z ls C h1 h2 h3 h4 hH hS hl kz
  rw [hr]
  exact this
theorem Run.iast {k n : Nat} {f : Nat → Int32} {i x : Int32} (hd : DI M pc .iastore 1 nx) (hk : h[k]? = some (.inl (.int, n, .inl f))) (hi : vp_in i n) (kk : Run X d kc ks M nx L S (h.set k (.inl (.int, n, .inl (upd f i.toNatClampNeg x)))) Q) : Run X d kc ks M pc L (.int x :: .int i :: .ref (k + 1) :: S) h Q := by
  obtain ⟨hd, rfl⟩ := hd
  intro E p l e R s m args below meth c H locs cells slots Z ls C h1 h2 h3 h4 hH hS hl kz
  exact va_iast (D := E.2.2.1) (cl := KL) C.1 C.2.1 C.K hH.2 (e_D h) hS k 0 (e_h_at hk) rfl hi hd (fun H1 locs1 hP1 _ hS1 => kk E p l e R s m args below meth c H1 locs1 cells slots Z ls C h1 h2 h3 h4 (hpOK.set (c := .inl (.int, n, .inl (upd f i.toNatClampNeg x))) hH.1 hP1) hS1 hl kz)
theorem Run.zast {k n : Nat} {f : Nat → Int32} {i x : Int32} (hd : DI M pc .bastore 1 nx) (hk : h[k]? = some (.inl (.boolean, n, .inl f))) (hi : vp_in i n) (hx : vp_nar .boolean x = x) (kk : Run X d kc ks M nx L S (h.set k (.inl (.boolean, n, .inl (upd f i.toNatClampNeg x)))) Q) : Run X d kc ks M pc L (.int x :: .int i :: .ref (k + 1) :: S) h Q := by
  obtain ⟨hd, rfl⟩ := hd
  intro E p l e R s m args below meth c H locs cells slots Z ls C h1 h2 h3 h4 hH hS hl kz
  refine va_zast (D := E.2.2.1) (cl := KL) C.1 C.2.1 C.K hH.2 (e_D h) hS k 1 (e_h_at hk) rfl hi hd (fun H1 locs1 hP1 _ hS1 => ?_)
  rw [hx] at hP1
  exact kk E p l e R s m args below meth c H1 locs1 cells slots Z ls C h1 h2 h3 h4 (hpOK.set (c := .inl (.boolean, n, .inl (upd f i.toNatClampNeg x))) hH.1 hP1) hS1 hl kz
theorem Run.aast {k n r ci : Nat} {fs : List Value} {f : Nat → Option Nat} {i : Int32} (hd : DI M pc .aastore 1 nx) (hk : h[k]? = some (.inl (.object "PearlMother$State", n, .inr (.inr (.inr (.inr f)))))) (hr : h[r]? = some (.inr (4, fs))) (hi : vp_in i n) (kk : Run X d kc ks M nx L S (h.set k (.inl (.object "PearlMother$State", n, .inr (.inr (.inr (.inr (va_up f i.toNatClampNeg (some (r + 1)))))))) ) Q) : Run X d kc ks M pc L (.ref (r + 1) :: .int i :: .ref (k + 1) :: S) h Q := by
  obtain ⟨hd, rfl⟩ := hd
  intro E p l e R s m args below meth c H locs cells slots Z ls C h1 h2 h3 h4 hH hS hl kz
  refine va_astq (D := E.2.2.1) (cl := KL) C.1 C.2.1 C.K hH.2 (e_D h) hS k 2 r 4 (e_h_at hk) (r := (CN_St, CT_St, 5)) rfl (e_h_at hr) rfl hi hd (fun H1 locs1 hP1 _ hS1 => ?_)
  refine kk E p l e R s m args below meth c H1 locs1 cells slots Z ls C h1 h2 h3 h4 (hpOK.set hH.1 ?_) hS1 hl kz
  have e1 : (fun j => (va_up f i.toNatClampNeg (some (r + 1)) j).map (e_ad E)) = va_up (fun j => (f j).map (e_ad E)) i.toNatClampNeg (some (E.2.1 + r)) := by
    funext j
    simp only [va_up]
    split
    · rfl
    · rfl
  show va_P E.2.2.1 KL ((e_h E h).set k (E.2.1 + k, .inl (E.2.2.2 (.object "PearlMother$State"), n, .inr (.inr (.inr (.inr (fun j => (va_up f i.toNatClampNeg (some (r + 1)) j).map (e_ad E)))))))) H1
  rw [e1]
  exact hP1
theorem Run.alen {k n : Nat} {f : Nat → Int32} {v : Int32} (hd : DI M pc .arraylength 1 nx) (hk : h[k]? = some (.inl (.int, n, .inl f))) (hv : Int32.ofNat n = v) (kk : Run X d kc ks M nx L (.int v :: S) h Q) : Run X d kc ks M pc L (.ref (k + 1) :: S) h Q := by
  obtain ⟨hd, rfl⟩ := hd
  intro E p l e R s m args below meth c H locs cells slots Z ls C h1 h2 h3 h4 hH hS hl kz
  exact va_alen (D := E.2.2.1) (cl := KL) C.1 C.2.1 C.K hH.2 k 0 (e_h_at hk) (ty := .int) rfl hv hd (kk E p l e R s m args below meth c H locs cells slots Z ls C h1 h2 h3 h4 hH hS hl kz)
theorem Run.sld {i : Int32} (hd : DI M pc .iaload 1 nx) (hi : vp_in i X.1) (kk : Run X d kc ks M nx L (.int (X.2 i.toNatClampNeg) :: S) h Q) : Run X d kc ks M pc L (.int i :: .ref 0 :: S) h Q := by
  obtain ⟨hd, rfl⟩ := hd
  intro E p l e R s m args below meth c H locs cells slots Z ls C h1 h2 h3 h4 hH hS hl kz
  have hb : E.1 < E.2.1 := C.2.2.2.2.2.2.2.2.2.2.2.2.1
  exact va_sld C.1 C.2.1 C.2.2.2.2.2.2.2.2.2.2.2.1 (Nat.lt_of_lt_of_le hb C.2.2.2.2.2.2.2.2.2.2.2.2.2) (A := e_A E) (Nat.not_le.mpr hb) hS hi hd (kk E p l e R s m args below meth c H locs cells slots Z ls C h1 h2 h3 h4 hH hS hl kz)
theorem Run.slen (hd : DI M pc .arraylength 1 nx) (kk : Run X d kc ks M nx L (.int (nI X.1) :: S) h Q) : Run X d kc ks M pc L (.ref 0 :: S) h Q := by
  obtain ⟨hd, rfl⟩ := hd
  intro E p l e R s m args below meth c H locs cells slots Z ls C h1 h2 h3 h4 hH hS hl kz
  have hb : E.1 < E.2.1 := C.2.2.2.2.2.2.2.2.2.2.2.2.1
  exact va_slen C.1 C.2.1 C.2.2.2.2.2.2.2.2.2.2.2.1 (Nat.lt_of_lt_of_le hb C.2.2.2.2.2.2.2.2.2.2.2.2.2) (A := e_A E) (Nat.not_le.mpr hb) hS hd (kk E p l e R s m args below meth c H locs cells slots Z ls C h1 h2 h3 h4 hH hS hl kz)
end RUNH
end
section
/-! ===== rows for Run: what is made, calls ===== -/
def enA (vs : List Value) : List (Option Value) := vs.flatMap (fun v => if v.category = 2 then [some v, none] else [some v])
def enL (n : Nat) (vs : List Value) : List (Option Value) := enA vs ++ List.replicate (n - (enA vs).length) none
def Call (X : Nat × (Nat → Int32)) (d kc ks : Nat) (M : MR) (As : List Value) (h : AH) (Q : Option Value → AH → Prop) : Prop := Run X d kc ks M 0 (enL M.2.2.1 As) [] h Q
theorem enA_args (E : EV) : ∀ (vs : List Value) (off i : Nat) (v : Value), (enA vs)[i]? = some (some v) → (off + i, e_v E v) ∈ lv_args off (vs.map (e_v E))
  | [], off, i, v, h => by simp [enA] at h
  | w :: vs, off, i, v, h => by
    have ih := enA_args E vs
    by_cases hw : w.category = 2
    · have h' : (some w :: none :: enA vs)[i]? = some (some v) := by simpa [enA, hw] using h
      have e1 : lv_args off ((w :: vs).map (e_v E)) = (off, e_v E w) :: lv_args (off + 2) (vs.map (e_v E)) := by simp [lv_args, e_cat, hw]
      rw [e1]
      match i, h' with
      | 0, h' => cases h'; exact List.mem_cons_self
      | 1, h' => simp at h'
      | i + 2, h' =>
        have := ih (off + 2) i v (by simpa using h')
        rw [show off + 2 + i = off + (i + 2) by omega] at this
        exact List.mem_cons_of_mem _ this
    · have h' : (some w :: enA vs)[i]? = some (some v) := by simpa [enA, hw] using h
      have e1 : lv_args off ((w :: vs).map (e_v E)) = (off, e_v E w) :: lv_args (off + 1) (vs.map (e_v E)) := by simp [lv_args, e_cat, hw]
      rw [e1]
      match i, h' with
      | 0, h' => cases h'; exact List.mem_cons_self
      | i + 1, h' =>
        have := ih (off + 1) i v (by simpa using h')
        rw [show off + 1 + i = off + (i + 1) by omega] at this
        exact List.mem_cons_of_mem _ this
theorem enA_len (E : EV) (vs : List Value) : (lg_sl (vs.map (e_v E))).length = (enA vs).length := by
  induction vs with
  | nil => rfl
  | cons w vs ih =>
    by_cases hw : w.category = 2
    · simp [lg_sl, enA, e_cat, hw] at ih ⊢
      exact ih
    · simp [lg_sl, enA, e_cat, hw] at ih ⊢
      exact ih
theorem lvOK_entry {E : EV} {n : Nat} {As : List Value} {ls : Array Slot} (hn : (enA As).length ≤ n) (hl : lv_has ls n (lv_args 0 (As.map (e_v E)))) : lvOK E n ls (enL n As) := by
  refine ⟨hl.1, by simp [enL]; omega, hl.2.1, fun i v hi => ?_⟩
  by_cases hlt : i < (enA As).length
  · rw [enL, List.getElem?_append_left hlt] at hi
    have := enA_args E As 0 i v hi
    rw [Nat.zero_add] at this
    exact hl.2.2 _ this
  · rw [enL, List.getElem?_append_right (by omega), List.getElem?_replicate] at hi
    split at hi
    · cases hi
    · cases hi
theorem fresh_eq {E : EV} {h : AH} {q : Nat} {e : va_E} (hD : va_D (e_A E) (e_h E h ++ [(q, e)])) (hq : q ≤ E.2.1 + h.length) : q = E.2.1 + h.length := by
  have hlen : (e_h E h).length = h.length := by simp [e_h]
  have h1 : (e_h E h ++ [(q, e)])[h.length]? = some (q, e) := by
    rw [List.getElem?_append_right (by omega), hlen, Nat.sub_self]; rfl
  have hB : E.2.1 ≤ q := hD.2 _ _ h1
  rcases Nat.lt_or_ge q (E.2.1 + h.length) with hlt | hge
  · exfalso
    have hj : q - E.2.1 < h.length := by omega
    have h2 : (e_h E h ++ [(q, e)])[q - E.2.1]? = some (E.2.1 + (q - E.2.1), e_c E h[q - E.2.1]) := by
      rw [List.getElem?_append_left (by omega)]
      exact e_h_at (List.getElem?_eq_getElem hj)
    have := hD.1 _ _ _ _ h1 h2 (by show q = _; omega)
    omega
  · omega
/-- a class that is made: its link, its number, its first fields -/
def NL (own : String) (idx ci : Nat) (fs : List Value) : Prop := ∃ (C : String) (T : u_T) (N : Nat) (ty : Nat → FieldType), KL[ci]? = some (C, T, N) ∧ Cond.classLink own idx C ∈ TB ∧ Cond.instantiable C N ∈ TB ∧ Cond.initialized C ∈ TB ∧ (∀ k, k < N → parseFieldDescriptor (T k).2.2.1 = some (ty k)) ∧ (∀ j, j < N → defaultValue (ty j) = vp_V fs j) ∧ fs.length = N ∧ ∀ E, fs.map (e_v E) = fs
def CM (M : MR) (n : Nat) : Prop := Cond.code M.1 M.2.1 M.2.2.1 M.2.2.2 ∈ TB ∧ Cond.initialized M.1.cls ∈ TB ∧ (M.1.cls ≠ "java/lang/invoke/MethodHandle" ∧ M.1.cls ≠ "java/lang/invoke/VarHandle" ∧ (parseMethodDescriptor M.1.desc).map (fun d => d.parameters.length) = some n) ∧ M.2.2.1 ≤ 40 ∧ plainName M.1.cls = true
def LK (own : String) (idx : Nat) (M : MR) : Prop := Cond.methodLink own idx M.1 ∈ TB ∨ ∃ host, Cond.methodLinkNest own idx M.1 host ∈ NW
def WS (M : MR) : List Cond := Cond.code M.1 M.2.1 M.2.2.1 M.2.2.2 :: TB
def RM (d mc ms : Nat) : Room := { frames := d, cells := mc, slots := ms, locals := 60 * d }
def PcR (X : Nat × (Nat → Int32)) (E : EV) (As : List Value) (h : AH) : Array Value → State → Prop := fun a U => a = (As.map (e_v E)).toArray ∧ U.heap.size = E.2.1 + h.length ∧ va_P E.2.2.1 KL (e_h E h) U.heap ∧ va_K E.2.2.1 KL (e_tys E) U ∧ (∀ w ∈ NW, va_Nw w U) ∧ va_AO "PearlMother$State" U ∧ va_X E.1 X.1 X.2 U U.heap ∧ E.1 < E.2.1
def QcR (E : EV) (h : AH) (mc : Nat) (Q1 : Option Value → AH → Prop) : Array Value → State → Outcome → State → Prop := fun _ st o t => (∃ (r : Option Value) (h1 : AH), o = .returned (r.map (e_v E)) ∧ Q1 r h1 ∧ va_P E.2.2.1 KL (e_h E h1) t.heap ∧ h.length ≤ h1.length ∧ h1.length ≤ h.length + mc) ∧ va_F (e_A E) st t
theorem nw_tab {w : Cond} (h : w ∈ NW) : w.onTables = true := by
  have h1 : NW.all (fun w => w.onTables) = true := by decide +kernel
  exact List.all_eq_true.mp h1 w h
theorem nw_nest {w : Cond} (h : w ∈ NW) : ∃ a i x b, w = .methodLinkNest a i x b := by
  have h1 : NW.all (fun w => match w with | .methodLinkNest _ _ _ _ => true | _ => false) = true := by decide +kernel
  have h2 := List.all_eq_true.mp h1 w h
  revert h2
  split
  · intro _; exact ⟨_, _, _, _, rfl⟩
  · intro q; cases q
theorem tb_good (M : MR) (h : Cond.code M.1 M.2.1 M.2.2.1 M.2.2.2 ∈ TB) : GoodIn TB (WS M) := by
  intro w hw
  have hm : w ∈ TB := by
    rcases List.mem_cons.mp hw with e | e
    · rw [e]; exact h
    · exact e
  exact ⟨hm, good_of_word (List.mem_filter.mp hm).2⟩
section RUNC
variable {X : Nat × (Nat → Int32)} {d kc ks mc ms : Nat} {M M' : MR} {pc nx n : Nat} {L : List (Option Value)} {S As : List Value} {h : AH} {Q Q1 : Option Value → AH → Prop}
theorem PcR.blind {E : EV} : FrameBlind (PcR X E As h) := by
  intro a U g mk q
  obtain ⟨q1, q2, q3, q4, q5, q6, q7, q8⟩ := q
  exact ⟨q1, q2, q3, va_K.moved (u := U) (U := U.calling g mk a) (Vm.Alike.refl U.vm) q4, fun w hw => va_Nw.same (u := U) (U := U.calling g mk a) (nw_tab hw) rfl (q5 w hw), va_AO.moved (u := U) (U := U.calling g mk a) (Vm.Alike.refl U.vm) q6, va_X.moved (u := U) (U := U.calling g mk a) (Vm.Alike.refl U.vm) q7, q8⟩
theorem PcR.at {E : EV} {p : Program} {s : State} {m : MethodId} {args : Array Value} {meth : Method} {c : Code} {H : Heap} {locs : List Loc} (C : Cx X E M p s m args meth c) (hz : H.size = E.2.1 + h.length) (hP : va_P E.2.2.1 KL (e_h E h) H) (hS : va_S (e_A E) s.heap H locs) : ∀ U : State, U.heap = H → s.WarmedH U.vm → PcR X E As h (As.map (e_v E)).toArray U := by
  obtain ⟨-, -, -, -, -, -, -, -, c9, c10, c11, c12, c13, c14⟩ := C
  intro U hU hW
  have hk : H[E.1]? = s.heap[E.1]? := hS.2.1 _ (Nat.lt_of_lt_of_le c13 c14) (Nat.not_le.mpr c13)
  refine ⟨rfl, by rw [hU]; exact hz, by rw [hU]; exact hP, va_K.moved hW.alike c9, fun w hw => ?_, va_AO.moved hW.alike c11, ?_, c13⟩
  · obtain ⟨a, i, x, b, rfl⟩ := nw_nest hw
    exact va_Nw.warmM hW (c10 _ hw)
  · rw [hU]
    exact va_X.moved hW.alike (va_X.kept c12 hk)
theorem met_of (cm : CM M' n) (hln : (enA As).length ≤ M'.2.2.1) (body : Call X d mc ms M' As h Q1) (E : EV) (l : Launch) : Met l M'.1 (WS M') (RM d mc ms) (PcR X E As h) (QcR E h mc Q1) mc ms (e_A E) := by
  refine Met.ofW (cc := M'.2.1) (maxL := M'.2.2.1) (ret := M'.2.2.2) cm.2.2.2.2 rfl ?_
  intro p e s m args below meth c s₁ B hml hv
  obtain ⟨rfl, hsz, hP, hK, hN, hAO, hX, hb⟩ := hv
  have hts := atoms_spec (ws := WS M') B.pre
  have hlk : meth.locks = false := B.notSynchronized
  have C : Cx X E M' p s m (As.map (e_v E)).toArray meth c := ⟨B.exec, B.bytes, B.returns, hml, findClass_of_methodNamed B.named, fun w hw => hts w (List.mem_cons_of_mem _ hw), hlk, (name_of_methodNamed B.named B.method).1, hK, hN, hAO, hX, hb, by omega⟩
  have hl := lv_entry (As.map (e_v E)) (n := M'.2.2.1) (by rw [enA_len]; exact hln)
  rw [lg_entry_eq]
  refine body E p l e (RM d mc ms) s m _ below meth c s.heap [] 0 0 _ _ C (Nat.le_refl _) (Nat.le_refl _) (by show 0 + mc ≤ mc; omega) (by show 0 + ms ≤ ms; omega) ⟨by omega, hP⟩ va_S.rf (lvOK_entry hln hl) (fun r h' H' locs' cells' slots' g hq hr hH hS hc hs => ?_)
  refine W.widen (k := mc) (n := ms) (by omega) (by omega) ?_
  have hQ : ∀ t : State, t.heap = H' → QcR E h mc Q1 (As.map (e_v E)).toArray s (.returned (r.map (e_v E))) t := fun t ht => by
    have e1 := hH.1
    exact ⟨⟨r, h', rfl, hq, by rw [ht]; exact hH.2, by omega, by omega⟩, hS.F ht⟩
  obtain ⟨pc, ls, hr⟩ := hr
  rcases hr with ⟨rfl, rfl, hd, hrt⟩ | ⟨x, ty, rfl, rfl, hd, hrt, hn⟩ | ⟨x, rfl, rfl, hd, hrt⟩
  · exact W.vret B.exec B.bytes (B.returns.trans hrt) (fun t ht _ => hQ t ht) hS.2.2 hd hlk
  · exact W.zret B.exec B.bytes (B.returns.trans hrt) hn (fun t ht _ => hQ t ht) hS.2.2 hd hlk
  · exact W.lret B.exec B.bytes (B.returns.trans hrt) (fun t ht _ => hQ t ht) hS.2.2 hd hlk
theorem run_go {E : EV} {p : Program} {l : Launch} {e : Env} {R : Room} {s : State} {m : MethodId} {args : Array Value} {below : List Frame} {meth : Method} {c : Code} {H : Heap} {locs : List Loc} {cells slots : Nat} {Z : State → Prop} {ls : Array Slot} {st0 rest : List Value} {a : Array Value} (hr : va_Run p l e R s m args below meth c H locs cells slots mc ms (F0 m pc ls st0) rest (QcR E h mc Q1 a) (e_A E)) (hS : va_S (e_A E) s.heap H locs)
    (kk : ∀ (r : Option Value) (h1 : AH) (H1 : Heap) (locs1 : List Loc), Q1 r h1 → va_P E.2.2.1 KL (e_h E h1) H1 → h.length ≤ h1.length → h1.length ≤ h.length + mc → va_S (e_A E) s.heap H1 locs1 → W p l e R s m args below meth c H1 locs1 (cells + mc) (slots + ms) Z (F0 m (pc + 3) ls ((r.map (e_v E)).toList ++ rest))) : W p l e R s m args below meth c H locs cells slots Z (F0 m pc ls st0) := by
  intro T hT Y
  obtain ⟨v, st₀, t, T', L2, h0, Y', hL, e1, e2, ⟨⟨r, h1, hv, hp, hb, hl1, hl2⟩, hz, hk⟩, st⟩ := hr T hT Y
  cases hv
  rw [h0] at hz hk
  obtain ⟨t2, a1, b1⟩ := kk r h1 T'.heap (locs ++ L2) hp (by rw [e1]; exact hb) hl1 hl2 ⟨Nat.le_trans hS.1 (by rw [e1]; exact hz), fun q g1 g2 => by rw [e1, hk q (Nat.lt_of_lt_of_le g1 hS.1) g2]; exact hS.2.1 q g1 g2, fun q hq => by
    rcases List.mem_append.mp hq with g | g
    · exact hS.2.2 q g
    · exact hL q g⟩ T' rfl Y'
  exact ⟨t2, st t2 a1, b1⟩
/-- the heap's size, from the frame's own count -/
theorem W.sized {E : EV} {p : Program} {l : Launch} {e : Env} {R : Room} {s : State} {m : MethodId} {args : Array Value} {below : List Frame} {meth : Method} {c : Code} {H : Heap} {locs : List Loc} {cells slots : Nat} {Z : State → Prop} {g : JFrame} (hH : hpOK E s cells h H) (hS : va_S (e_A E) s.heap H locs) (hB : E.2.1 ≤ s.heap.size) (kk : H.size = E.2.1 + h.length → W p l e R s m args below meth c H locs cells slots Z g) : W p l e R s m args below meth c H locs cells slots Z g := by
  intro T hT Y
  have h1 : T.heap.size ≤ s.heap.size + cells := Y.same.2.2.1
  rw [hT] at h1
  have h2 := hH.1
  have h3 := hS.1
  have h4 : E.2.1 + h.length ≤ H.size := by
    rcases Nat.eq_zero_or_pos h.length with hz | hz
    · omega
    · have hj : h.length - 1 < h.length := by omega
      have := (hH.2 _ _ (e_h_at (E := E) (List.getElem?_eq_getElem hj))).lt
      have h5 : E.2.1 + (h.length - 1) < H.size := this
      omega
  exact kk (by omega) T hT Y
theorem word_ok {own : String} {idx : Nat} {E : EV} {p : Program} {R : Room} {s : State} {m : MethodId} {args : Array Value} {meth : Method} {c : Code} (C : Cx X E M p s m args meth c) (hd : d + 1 ≤ R.frames) (hd2 : 60 * (d + 1) ≤ R.locals) (cm : CM M' n) (hlk : Cond.methodLink own idx M'.1 ∈ TB) : CallB R s args own idx M'.1 M'.2.1 M'.2.2.1 M'.2.2.2 (WS M') (RM d mc ms) mc ms n :=
  callB_of n C.ts (tb_good M' cm.1) rfl rfl rfl (C.ts _ cm.2.1) (C.ts _ hlk) cm.2.2.1 ⟨hd, by have := cm.2.2.2.1; show 8 + (M'.2.2.1 + 11) + 60 * d ≤ R.locals; omega⟩
theorem word_okN {own host : String} {idx : Nat} {E : EV} {p : Program} {R : Room} {s : State} {m : MethodId} {args : Array Value} {meth : Method} {c : Code} (C : Cx X E M p s m args meth c) (hd : d + 1 ≤ R.frames) (hd2 : 60 * (d + 1) ≤ R.locals) (cm : CM M' n) (hlk : Cond.methodLinkNest own idx M'.1 host ∈ NW) : va_CN R s args own idx M'.1 host M'.2.1 M'.2.2.1 M'.2.2.2 (WS M') (RM d mc ms) mc ms n :=
  va_cnB n C.ts (tb_good M' cm.1) rfl rfl rfl (C.2.2.2.2.2.2.2.2.2.1 _ hlk) (C.ts _ cm.2.1) cm.2.2.1 ⟨hd, by have := cm.2.2.2.1; show 8 + (M'.2.2.1 + 11) + 60 * d ≤ R.locals; omega⟩
theorem e_sum (E : EV) (S : List Value) : ((S.map (e_v E)).map fun v => v.category).sum = (S.map fun v => v.category).sum := by
  simp [List.map_map, Function.comp_def, e_cat]
/-- a call of a static method -/
theorem Run.callS {idx : Nat} (hd : DI M pc (.invokestatic idx) 3 nx) (lk : LK M.1.cls idx M') (cm : CM M' n) (st : Cond.static M'.1 ∈ TB) (hn : As.length = n) (hln : (enA As).length ≤ M'.2.2.1) (hw : (S.map fun v => v.category).sum ≤ 8) (body : Call X d 0 0 M' As h Q1) (kk : ∀ r h1, Q1 r h1 → Run X (d + 1) kc ks M nx L (r.toList ++ S) h1 Q) : Run X (d + 1) kc ks M pc L (As.reverse ++ S) h Q := by
  obtain ⟨hd, rfl⟩ := hd
  intro E p l e R s m args below meth c H locs cells slots Z ls C h1 h2 h3 h4 hH hS hl kz
  refine W.sized hH hS C.2.2.2.2.2.2.2.2.2.2.2.2.2 (fun hz => ?_)
  have hM := met_of cm hln body E l
  have hpre : PreS s H (PcR X E As h) (As.map (e_v E)) := ⟨PcR.blind, PcR.at C hz hH.2 hS⟩
  have hst : (F0 m pc ls ((As.reverse ++ S).map (e_v E))).stack = (As.map (e_v E)).reverse ++ S.map (e_v E) := by simp
  have hrun : va_Run p l e R s m args below meth c H locs cells slots 0 0 (F0 m pc ls ((As.reverse ++ S).map (e_v E))) (S.map (e_v E)) (QcR E h 0 Q1 (As.map (e_v E)).toArray) (e_A E) := by
    rcases lk with lk | ⟨host, lk⟩
    · exact va_runS (As := As.map (e_v E)) (rest := S.map (e_v E)) (own := M.1.cls) (Ts := TB) ⟨C.1, C.2.1, C.2.2.2.1, C.own, C.ts⟩ hM ⟨word_ok C h1 h2 cm lk, C.ts _ st⟩ hpre rfl (by simpa using hn) hl.1 hst (lv_room (by rw [e_sum]; exact hw)) hd ⟨by omega, by omega⟩
    · exact va_runSN (As := As.map (e_v E)) (rest := S.map (e_v E)) (own := M.1.cls) (Ts := TB) ⟨C.1, C.2.1, C.2.2.2.1, C.own, C.ts⟩ hM ⟨word_okN C h1 h2 cm lk, C.ts _ st, trivial⟩ hpre rfl (by simpa using hn) hl.1 hst (lv_room (by rw [e_sum]; exact hw)) hd ⟨by omega, by omega⟩
  refine run_go hrun hS (fun r h1' H1 locs1 hq hP1 hl1 hl2 hS1 => ?_)
  have := kk r h1' hq E p l e R s m args below meth c H1 locs1 (cells + 0) (slots + 0) Z ls C h1 h2 h3 h4 ⟨by have := hH.1; omega, hP1⟩ hS1 hl kz
  rw [List.map_append] at this
  have e3 : (r.map (e_v E)).toList = r.toList.map (e_v E) := by cases r <;> rfl
  rw [e3]
  exact this
/-- a call of a method of an object -/
theorem Run.callV {idx ci k : Nat} {fs : List Value} (hd : DI M pc (.invokevirtual idx) 3 nx) (lk : LK M.1.cls idx M') (cm : CM M' n) (st : Cond.instanceMethod M'.1 ∈ TB ∧ Cond.selects M'.1.cls M'.1 M'.1 ∈ TB) (hcl : (KL[ci]?).map (fun q => q.1) = some M'.1.cls) (hk : h[k]? = some (.inr (ci, fs))) (hn : As.length = n) (hln : (enA (.ref (k + 1) :: As)).length ≤ M'.2.2.1) (hw : (S.map fun v => v.category).sum ≤ 8) (body : Call X d 0 0 M' (.ref (k + 1) :: As) h Q1) (kk : ∀ r h1, Q1 r h1 → Run X (d + 1) kc ks M nx L (r.toList ++ S) h1 Q) : Run X (d + 1) kc ks M pc L (As.reverse ++ .ref (k + 1) :: S) h Q := by
  obtain ⟨hd, rfl⟩ := hd
  intro E p l e R s m args below meth c H locs cells slots Z ls C h1 h2 h3 h4 hH hS hl kz
  refine W.sized hH hS C.2.2.2.2.2.2.2.2.2.2.2.2.2 (fun hz => ?_)
  have hM := met_of cm hln body E l
  obtain ⟨q, hq0, hq1⟩ := Option.map_eq_some_iff.mp hcl
  have hrec := va_recv C.K hH.2 hq0 (e_h_at (E := E) hk)
  rw [hq1] at hrec
  have hpre : PreV s H M'.1.cls (E.2.1 + k) (PcR X E (.ref (k + 1) :: As) h) (As.map (e_v E)) := ⟨PcR.blind, hrec, PcR.at C hz hH.2 hS⟩
  have hst : (F0 m pc ls ((As.reverse ++ .ref (k + 1) :: S).map (e_v E))).stack = (As.map (e_v E)).reverse ++ .ref (E.2.1 + k) :: S.map (e_v E) := by
    show (As.reverse ++ .ref (k + 1) :: S).map (e_v E) = _
    rw [List.map_append, List.map_cons, List.map_reverse]
    rfl
  have hrun : va_Run p l e R s m args below meth c H locs cells slots 0 0 (F0 m pc ls ((As.reverse ++ .ref (k + 1) :: S).map (e_v E))) (S.map (e_v E)) (QcR E h 0 Q1 (Value.ref (E.2.1 + k) :: As.map (e_v E)).toArray) (e_A E) := by
    rcases lk with lk | ⟨host, lk⟩
    · exact va_runV (As := As.map (e_v E)) (rest := S.map (e_v E)) (own := M.1.cls) (Ts := TB) ⟨C.1, C.2.1, C.2.2.2.1, C.own, C.ts⟩ hM ⟨word_ok C h1 h2 cm lk, C.ts _ st.1, C.ts _ st.2⟩ hpre rfl (by simpa using hn) hl.1 hst (lv_room (by rw [e_sum]; exact hw)) hd ⟨by omega, by omega⟩
    · exact va_runVN (As := As.map (e_v E)) (rest := S.map (e_v E)) (own := M.1.cls) (Ts := TB) ⟨C.1, C.2.1, C.2.2.2.1, C.own, C.ts⟩ hM ⟨word_okN C h1 h2 cm lk, C.ts _ st.1, C.ts _ st.2⟩ hpre rfl (by simpa using hn) hl.1 hst (lv_room (by rw [e_sum]; exact hw)) hd ⟨by omega, by omega⟩
  refine run_go hrun hS (fun r h1' H1 locs1 hq hP1 hl1 hl2 hS1 => ?_)
  have := kk r h1' hq E p l e R s m args below meth c H1 locs1 (cells + 0) (slots + 0) Z ls C h1 h2 h3 h4 ⟨by have := hH.1; omega, hP1⟩ hS1 hl kz
  rw [List.map_append] at this
  have e3 : (r.map (e_v E)).toList = r.toList.map (e_v E) := by cases r <;> rfl
  rw [e3]
  exact this
/-- a call of a constructor: it makes exactly mc cells -/
theorem Run.callI {idx k : Nat} (hd : DI M pc (.invokespecial idx) 3 nx) (lk : LK M.1.cls idx M') (cm : CM M' n) (st : Cond.instanceMethod M'.1 ∈ TB) (hret : M'.2.2.2 = none) (hname : M'.1.name = "<init>") (hn : As.length = n) (hln : (enA (.ref (k + 1) :: As)).length ≤ M'.2.2.1) (hw : (S.map fun v => v.category).sum ≤ 8) (body : Call X d mc ms M' (.ref (k + 1) :: As) h Q1) (hmc : ∀ r h1, Q1 r h1 → h1.length = h.length + mc) (kk : ∀ r h1, Q1 r h1 → Run X (d + 1) kc ks M nx L (r.toList ++ S) h1 Q) : Run X (d + 1) (mc + kc) (ms + ks) M pc L (As.reverse ++ .ref (k + 1) :: S) h Q := by
  obtain ⟨hd, rfl⟩ := hd
  intro E p l e R s m args below meth c H locs cells slots Z ls C h1 h2 h3 h4 hH hS hl kz
  refine W.sized hH hS C.2.2.2.2.2.2.2.2.2.2.2.2.2 (fun hz => ?_)
  have hM := met_of cm hln body E l
  have hpre : PreS s H (PcR X E (.ref (k + 1) :: As) h) (.ref (E.2.1 + k) :: As.map (e_v E)) := ⟨PcR.blind, PcR.at C hz hH.2 hS⟩
  have hst : (F0 m pc ls ((As.reverse ++ .ref (k + 1) :: S).map (e_v E))).stack = (As.map (e_v E)).reverse ++ .ref (E.2.1 + k) :: S.map (e_v E) := by
    show (As.reverse ++ .ref (k + 1) :: S).map (e_v E) = _
    rw [List.map_append, List.map_cons, List.map_reverse]
    rfl
  have hrun : va_Run p l e R s m args below meth c H locs cells slots mc ms (F0 m pc ls ((As.reverse ++ .ref (k + 1) :: S).map (e_v E))) (S.map (e_v E)) (QcR E h mc Q1 (Value.ref (E.2.1 + k) :: As.map (e_v E)).toArray) (e_A E) := by
    rcases lk with lk | ⟨host, lk⟩
    · have cw := word_ok (mc := mc) (ms := ms) C h1 h2 cm lk
      rw [hret] at cw
      exact va_runI (As := As.map (e_v E)) (rest := S.map (e_v E)) (own := M.1.cls) (Ts := TB) ⟨C.1, C.2.1, C.2.2.2.1, C.own, C.ts⟩ hM ⟨cw, hname, C.ts _ st⟩ hpre rfl (by simpa using hn) hl.1 hst (lv_room (by rw [e_sum]; exact hw)) hd ⟨by omega, by omega⟩
    · have cw := word_okN (mc := mc) (ms := ms) C h1 h2 cm lk
      rw [hret] at cw
      exact va_runIN (As := As.map (e_v E)) (rest := S.map (e_v E)) (own := M.1.cls) (Ts := TB) ⟨C.1, C.2.1, C.2.2.2.1, C.own, C.ts⟩ hM ⟨cw, hname, C.ts _ st⟩ hpre rfl (by simpa using hn) hl.1 hst (lv_room (by rw [e_sum]; exact hw)) hd ⟨by omega, by omega⟩
  refine run_go hrun hS (fun r h1' H1 locs1 hq hP1 hl1 hl2 hS1 => ?_)
  have hm := hmc r h1' hq
  have := kk r h1' hq E p l e R s m args below meth c H1 locs1 (cells + mc) (slots + ms) Z ls C h1 h2 (by omega) (by omega) ⟨by have := hH.1; omega, hP1⟩ hS1 hl (fun r2 h2 H2 l2 c2 s2 g2 a1 a2 a3 a4 a5 a6 => kz r2 h2 H2 l2 c2 s2 g2 a1 a2 a3 a4 (by omega) (by omega))
  rw [List.map_append] at this
  have e3 : (r.map (e_v E)).toList = r.toList.map (e_v E) := by cases r <;> rfl
  rw [e3]
  exact this
/-- Object's constructor -/
theorem Run.objI {idx k : Nat} (hd : DI M pc (.invokespecial idx) 3 nx) (hl1 : Cond.methodLink M.1.cls idx objectInit ∈ TB) (hw : (S.map fun v => v.category).sum ≤ 8) (kk : Run X (d + 1) kc ks M nx L S h Q) : Run X (d + 1) kc ks M pc L (.ref k :: S) h Q := by
  obtain ⟨hd, rfl⟩ := hd
  intro E p l e R s m args below meth c H locs cells slots Z ls C h1 h2 h3 h4 hH hS hl kz
  refine W.objInit C.1 C.2.1 C.own (C.ts _ hl1) (C.ts _ ob_1) (C.ts _ ob_2) rfl (by rw [C.2.2.2.1]; exact hl.1) rfl hd (by omega) ?_ ?_
  · show 2 * 0 + ((S.map (e_v E)).map fun v => v.category).sum + 12 ≤ R.locals
    rw [e_sum]
    omega
  · exact kk E p l e R s m args below meth c H locs cells slots Z ls C h1 h2 h3 h4 hH hS hl kz
theorem Run.newo {idx ci k : Nat} {fs : List Value} (hd : DI M pc (.new idx) 3 nx) (nl : NL M.1.cls idx ci fs) (hk : h.length = k) (kk : Run X d kc ks M nx L (.ref (k + 1) :: S) (h ++ [.inr (ci, fs)]) Q) : Run X d (kc + 1) (ks + fs.length) M pc L S h Q := by
  obtain ⟨hd, rfl⟩ := hd
  subst hk
  obtain ⟨C0, T, N, ty, hc, g1, g2, g3, g4, g5, rfl, g6⟩ := nl
  intro E p l e R s m args below meth c H locs cells slots Z ls C h1 h2 h3 h4 hH hS hl kz
  refine va_new (D := E.2.2.1) (cl := KL) C.1 C.2.1 C.ts (kl_in hc).1 ty g4 C.own (C.ts _ g1) (C.ts _ g2) (C.ts _ g3) C.K hH.2 (e_D h) hS C.hA hc g5 (by omega) (by omega) hd (fun q H1 hP1 hD1 hS1 => ?_)
  intro T2 hT2 Y
  have b1 : T2.heap.size ≤ s.heap.size + (cells + 1) := Y.same.2.2.1
  rw [hT2] at b1
  have b2 : q < H1.size := (hP1 _ _ (show (e_h E h ++ [(q, Sum.inr (ci, fs))])[(e_h E h).length]? = some (q, Sum.inr (ci, fs)) by rw [List.getElem?_append_right (Nat.le_refl _), Nat.sub_self]; rfl)).lt
  have b3 := hH.1
  obtain rfl := fresh_eq hD1 (by omega)
  refine kk E p l e R s m args below meth c H1 locs (cells + 1) (slots + fs.length) Z ls C h1 h2 (by omega) (by omega) ⟨by simp; omega, ?_⟩ hS1 hl (fun r2 h2 H2 l2 c2 s2 g2 a1 a2 a3 a4 a5 a6 => kz r2 h2 H2 l2 c2 s2 g2 a1 a2 a3 a4 (by omega) (by omega)) T2 hT2 Y
  rw [e_h_push]
  show va_P E.2.2.1 KL (e_h E h ++ [(E.2.1 + h.length, .inr (ci, fs.map (e_v E)))]) H1
  rw [g6 E]
  exact hP1
theorem arr_of {E : EV} {s : State} {cA : ClassId} {ty : FieldType} {j : Nat} (hK : va_K E.2.2.1 KL (e_tys E) s) (hj : (e_tys E)[j]? = some (E.2.2.2 ty, ty)) (hc : s.vm.findClass ("[" ++ ty.toString) = some cA) (hty : ∀ c0, va_RA s c0 ty → s.vm.findClass ("[" ++ ty.toString) = some c0) : cA = E.2.2.2 ty :=
  Option.some.inj (hc.symm.trans (hty _ (hK.2 j _ hj).2))
theorem Run.newa {k N : Nat} {v : Int32} (hd : DI M pc (.newarray .int) 2 nx) (hk : h.length = k) (hv : v = nI N) (hN : N ≤ 100000) (kk : Run X d kc ks M nx L (.ref (k + 1) :: S) (h ++ [.inl (.int, N, .inl (fun _ => 0))]) Q) : Run X d (kc + 1) (ks + N) M pc L (.int v :: S) h Q := by
  obtain ⟨hd, rfl⟩ := hd
  subst hk
  subst hv
  intro E p l e R s m args below meth c H locs cells slots Z ls C h1 h2 h3 h4 hH hS hl kz
  refine va_newa (atype := .int) (D := E.2.2.1) (cl := KL) (a0 := (N, .inl (fun _ => 0))) C.1 C.2.1 (C.ts _ ac_int) (ty := .int) rfl C.K hH.2 (e_D h) hS C.hA (fun cA => rfl) (nI_pos (by omega)) (nI_clamp (by omega)) (by show N * 4 ≤ _; omega) (by omega) (by omega) hd (fun q cA H1 hK1 hP1 hD1 hS1 => ?_)
  intro T2 hT2 Y
  have b1 : T2.heap.size ≤ s.heap.size + (cells + 1) := Y.same.2.2.1
  rw [hT2] at b1
  have b2 : q < H1.size := (hP1 _ _ (show (e_h E h ++ [(q, Sum.inl (cA, N, Sum.inl (fun _ => (0 : Int32))))])[(e_h E h).length]? = some (q, Sum.inl (cA, N, Sum.inl (fun _ => (0 : Int32)))) by rw [List.getElem?_append_right (Nat.le_refl _), Nat.sub_self]; rfl)).lt
  have b3 := hH.1
  obtain rfl := fresh_eq hD1 (by omega)
  have hcA : cA = E.2.2.2 .int := by
    have h5 := (hK1.2 (e_tys E).length (cA, .int) (by rw [List.getElem?_append_right (Nat.le_refl _), Nat.sub_self]; rfl)).2
    exact arr_of (ty := .int) (j := 0) C.K rfl h5 (fun c0 q => q)
  subst hcA
  refine kk E p l e R s m args below meth c H1 locs (cells + 1) (slots + N) Z ls C h1 h2 (by omega) (by omega) ⟨by simp; omega, ?_⟩ hS1 hl (fun r2 h2 H2 l2 c2 s2 g2 a1 a2 a3 a4 a5 a6 => kz r2 h2 H2 l2 c2 s2 g2 a1 a2 a3 a4 (by omega) (by omega)) T2 hT2 Y
  rw [e_h_push]
  exact hP1
theorem Run.newz {k N : Nat} {v : Int32} (hd : DI M pc (.newarray .boolean) 2 nx) (hk : h.length = k) (hv : v = nI N) (hN : N ≤ 100000) (kk : Run X d kc ks M nx L (.ref (k + 1) :: S) (h ++ [.inl (.boolean, N, .inl (fun _ => 0))]) Q) : Run X d (kc + 1) (ks + N) M pc L (.int v :: S) h Q := by
  obtain ⟨hd, rfl⟩ := hd
  subst hk
  subst hv
  intro E p l e R s m args below meth c H locs cells slots Z ls C h1 h2 h3 h4 hH hS hl kz
  refine va_newa (atype := .boolean) (D := E.2.2.1) (cl := KL) (a0 := (N, .inl (fun _ => 0))) C.1 C.2.1 (C.ts _ ac_bool) (ty := .boolean) rfl C.K hH.2 (e_D h) hS C.hA (fun cA => rfl) (nI_pos (by omega)) (nI_clamp (by omega)) (by show N * 1 ≤ _; omega) (by omega) (by omega) hd (fun q cA H1 hK1 hP1 hD1 hS1 => ?_)
  intro T2 hT2 Y
  have b1 : T2.heap.size ≤ s.heap.size + (cells + 1) := Y.same.2.2.1
  rw [hT2] at b1
  have b2 : q < H1.size := (hP1 _ _ (show (e_h E h ++ [(q, Sum.inl (cA, N, Sum.inl (fun _ => (0 : Int32))))])[(e_h E h).length]? = some (q, Sum.inl (cA, N, Sum.inl (fun _ => (0 : Int32)))) by rw [List.getElem?_append_right (Nat.le_refl _), Nat.sub_self]; rfl)).lt
  have b3 := hH.1
  obtain rfl := fresh_eq hD1 (by omega)
  have hcA : cA = E.2.2.2 .boolean := by
    have h5 := (hK1.2 (e_tys E).length (cA, .boolean) (by rw [List.getElem?_append_right (Nat.le_refl _), Nat.sub_self]; rfl)).2
    exact arr_of (ty := .boolean) (j := 1) C.K rfl h5 (fun c0 q => q)
  subst hcA
  refine kk E p l e R s m args below meth c H1 locs (cells + 1) (slots + N) Z ls C h1 h2 (by omega) (by omega) ⟨by simp; omega, ?_⟩ hS1 hl (fun r2 h2 H2 l2 c2 s2 g2 a1 a2 a3 a4 a5 a6 => kz r2 h2 H2 l2 c2 s2 g2 a1 a2 a3 a4 (by omega) (by omega)) T2 hT2 Y
  rw [e_h_push]
  exact hP1
theorem Run.newq {k N idx : Nat} {v : Int32} (hd : DI M pc (.anewarray idx) 3 nx) (hcl : Cond.classLink M.1.cls idx "PearlMother$State" ∈ TB) (hk : h.length = k) (hv : v = nI N) (hN : N ≤ 100000) (kk : Run X d kc ks M nx L (.ref (k + 1) :: S) (h ++ [.inl (.object "PearlMother$State", N, .inr (.inr (.inr (.inr (fun _ => none)))))]) Q) : Run X d (kc + 1) (ks + N) M pc L (.int v :: S) h Q := by
  obtain ⟨hd, rfl⟩ := hd
  subst hk
  subst hv
  intro E p l e R s m args below meth c H locs cells slots Z ls C h1 h2 h3 h4 hH hS hl kz
  refine va_newq (D := E.2.2.1) (cl := KL) C.1 C.2.1 C.own (C.ts _ hcl) C.2.2.2.2.2.2.2.2.2.2.1 C.K hH.2 (e_D h) hS C.hA (nI_pos (by omega)) (nI_clamp (by omega)) (by omega) (by omega) (by omega) hd (fun q cA H1 hK1 hP1 hD1 hS1 => ?_)
  intro T2 hT2 Y
  have b1 : T2.heap.size ≤ s.heap.size + (cells + 1) := Y.same.2.2.1
  rw [hT2] at b1
  have b2 : q < H1.size := (hP1 _ _ (show (e_h E h ++ [(q, Sum.inl (cA, N, Sum.inr (.inr (.inr (.inr (fun _ => none))))))])[(e_h E h).length]? = some (q, Sum.inl (cA, N, Sum.inr (.inr (.inr (.inr (fun _ => none)))))) by rw [List.getElem?_append_right (Nat.le_refl _), Nat.sub_self]; rfl)).lt
  have b3 := hH.1
  obtain rfl := fresh_eq hD1 (by omega)
  have hcA : cA = E.2.2.2 (.object "PearlMother$State") := by
    obtain ⟨k5, c5, -, -, -, h5⟩ := (hK1.2 (e_tys E).length (cA, .object "PearlMother$State") (by rw [List.getElem?_append_right (Nat.le_refl _), Nat.sub_self]; rfl)).2
    exact arr_of (ty := .object "PearlMother$State") (j := 2) C.K rfl h5 (fun c0 ⟨_, _, _, _, _, q⟩ => q)
  subst hcA
  refine kk E p l e R s m args below meth c H1 locs (cells + 1) (slots + N) Z ls C h1 h2 (by omega) (by omega) ⟨by simp; omega, ?_⟩ hS1 hl (fun r2 h2 H2 l2 c2 s2 g2 a1 a2 a3 a4 a5 a6 => kz r2 h2 H2 l2 c2 s2 g2 a1 a2 a3 a4 (by omega) (by omega)) T2 hT2 Y
  rw [e_h_push]
  exact hP1
/-- System.arraycopy over ints -/
theorem Run.copyi {idx k0 k1 n0 n1 sp dp cn : Nat} {f g : Nat → Int32} (hd : DI M pc (.invokestatic idx) 3 nx) (hlk : Cond.methodLink M.1.cls idx arraycopyName ∈ TB) (hk0 : h[k0]? = some (.inl (.int, n0, .inl f))) (hk1 : h[k1]? = some (.inl (.int, n1, .inl g))) (hsp : sp + cn ≤ n0) (hdp : dp + cn ≤ n1) (hsm : n0 < 100000 ∧ n1 < 100000) (hw : (S.map fun v => v.category).sum ≤ 8) (kk : Run X (d + 1) kc ks M nx L S (h.set k1 (.inl (.int, n1, .inl (va_cpy f g sp dp cn)))) Q) : Run X (d + 1) kc ks M pc L (.int (nI cn) :: .int (nI dp) :: .ref (k1 + 1) :: .int (nI sp) :: .ref (k0 + 1) :: S) h Q := by
  obtain ⟨hd, rfl⟩ := hd
  intro E p l e R s m args below meth c H locs cells slots Z ls C h1 h2 h3 h4 hH hS hl kz
  refine va_copyi (D := E.2.2.1) (cl := KL) C.1 C.2.1 (by rw [C.2.2.2.1]; exact hl.1.symm) C.own (C.ts _ hlk) (C.ts _ cp_1) (C.ts _ cp_2) (C.ts _ cp_3) C.K hH.2 (e_D h) hS k0 k1 0 0 (ty := .int) (e_h_at hk0) (e_h_at hk1) rfl rfl rfl (nI_pos (by omega)) (nI_pos (by omega)) (nI_pos (by omega)) (by rw [nI_clamp (by omega), nI_clamp (by omega)]; exact hsp) (by rw [nI_clamp (by omega), nI_clamp (by omega)]; exact hdp) (fun i _ => rfl) (by omega) ?_ hd (fun H1 locs1 hP1 _ hS1 => ?_)
  · rw [e_sum]
    have e5 : nativeFrameWords "java/lang/System" "arraycopy" 5 + 11 ≤ 52 := by decide +kernel
    omega
  · rw [nI_clamp (by omega), nI_clamp (by omega), nI_clamp (by omega)] at hP1
    exact kk E p l e R s m args below meth c H1 locs1 cells slots Z ls C h1 h2 h3 h4 (hpOK.set (c := .inl (.int, n1, .inl (va_cpy f g sp dp cn))) hH.1 hP1) hS1 hl kz
end RUNC
end
