-- ===== PART A: goes FIRST, ahead of the names: the tables' words, and 'selects' of the private methods out of them =====
/-- a private method of a class that the tables say can be made, by its rows of tables_1 -/
def lw_okq (q : MethodName × Nat) : Prop := (q.1.cls ≠ "java/lang/invoke/MethodHandle" ∧ q.1.cls ≠ "java/lang/invoke/VarHandle") ∧ Cond.instantiable q.1.cls q.2 ∈ tables_1 ∧ Cond.privateMethod q.1 ∈ tables_1 ∧ Cond.instanceMethod q.1 ∈ tables_1
theorem lw_p0 : lw_okq (⟨"PearlMother", "whoSeesHerLook", "(LPearlMother$State;)I"⟩, 13) := ⟨⟨by decide +kernel, by decide +kernel⟩, List.mem_of_getElem? (i := 14) (by decide +kernel), List.mem_of_getElem? (i := 299) (by decide +kernel), List.mem_of_getElem? (i := 300) (by decide +kernel)⟩
theorem lw_p1 : lw_okq (⟨"PearlMother", "partsSeen", "(LPearlMother$State;II)I"⟩, 13) := ⟨⟨by decide +kernel, by decide +kernel⟩, List.mem_of_getElem? (i := 14) (by decide +kernel), List.mem_of_getElem? (i := 303) (by decide +kernel), List.mem_of_getElem? (i := 304) (by decide +kernel)⟩
theorem lw_p2 : lw_okq (⟨"PearlMother", "showsAfter", "(LPearlMother$State;III)Z"⟩, 13) := ⟨⟨by decide +kernel, by decide +kernel⟩, List.mem_of_getElem? (i := 14) (by decide +kernel), List.mem_of_getElem? (i := 307) (by decide +kernel), List.mem_of_getElem? (i := 308) (by decide +kernel)⟩
theorem lw_p3 : lw_okq (⟨"PearlMother", "partsSeenTogether", "()I"⟩, 13) := ⟨⟨by decide +kernel, by decide +kernel⟩, List.mem_of_getElem? (i := 14) (by decide +kernel), List.mem_of_getElem? (i := 347) (by decide +kernel), List.mem_of_getElem? (i := 348) (by decide +kernel)⟩
theorem lw_p4 : lw_okq (⟨"PearlMother", "piecesOf", "(I)I"⟩, 13) := ⟨⟨by decide +kernel, by decide +kernel⟩, List.mem_of_getElem? (i := 14) (by decide +kernel), List.mem_of_getElem? (i := 356) (by decide +kernel), List.mem_of_getElem? (i := 357) (by decide +kernel)⟩
theorem lw_p5 : lw_okq (⟨"PearlMother", "takeBack", "(I)V"⟩, 13) := ⟨⟨by decide +kernel, by decide +kernel⟩, List.mem_of_getElem? (i := 14) (by decide +kernel), List.mem_of_getElem? (i := 405) (by decide +kernel), List.mem_of_getElem? (i := 406) (by decide +kernel)⟩
theorem lw_p6 : lw_okq (⟨"PearlMother", "fewestTilts", "(II)I"⟩, 13) := ⟨⟨by decide +kernel, by decide +kernel⟩, List.mem_of_getElem? (i := 14) (by decide +kernel), List.mem_of_getElem? (i := 417) (by decide +kernel), List.mem_of_getElem? (i := 418) (by decide +kernel)⟩
theorem lw_p7 : lw_okq (⟨"PearlMother", "fewestTiltsToSee", "(II)I"⟩, 13) := ⟨⟨by decide +kernel, by decide +kernel⟩, List.mem_of_getElem? (i := 14) (by decide +kernel), List.mem_of_getElem? (i := 425) (by decide +kernel), List.mem_of_getElem? (i := 426) (by decide +kernel)⟩
theorem lw_p8 : lw_okq (⟨"PearlMother", "partsHeld", "(I)I"⟩, 13) := ⟨⟨by decide +kernel, by decide +kernel⟩, List.mem_of_getElem? (i := 14) (by decide +kernel), List.mem_of_getElem? (i := 433) (by decide +kernel), List.mem_of_getElem? (i := 434) (by decide +kernel)⟩
theorem lw_p9 : lw_okq (⟨"PearlMother", "hoursUntilSeen", "(II)I"⟩, 13) := ⟨⟨by decide +kernel, by decide +kernel⟩, List.mem_of_getElem? (i := 14) (by decide +kernel), List.mem_of_getElem? (i := 441) (by decide +kernel), List.mem_of_getElem? (i := 442) (by decide +kernel)⟩
theorem lw_p10 : lw_okq (⟨"PearlMother", "canBeDone", "(I)Z"⟩, 13) := ⟨⟨by decide +kernel, by decide +kernel⟩, List.mem_of_getElem? (i := 14) (by decide +kernel), List.mem_of_getElem? (i := 499) (by decide +kernel), List.mem_of_getElem? (i := 500) (by decide +kernel)⟩
theorem lw_p11 : lw_okq (⟨"PearlMother", "piecesThatShow", "(I)I"⟩, 13) := ⟨⟨by decide +kernel, by decide +kernel⟩, List.mem_of_getElem? (i := 14) (by decide +kernel), List.mem_of_getElem? (i := 510) (by decide +kernel), List.mem_of_getElem? (i := 511) (by decide +kernel)⟩
theorem lw_p12 : lw_okq (⟨"PearlMother", "staysWith", "(IIII)Z"⟩, 13) := ⟨⟨by decide +kernel, by decide +kernel⟩, List.mem_of_getElem? (i := 14) (by decide +kernel), List.mem_of_getElem? (i := 561) (by decide +kernel), List.mem_of_getElem? (i := 562) (by decide +kernel)⟩
theorem lw_p13 : lw_okq (⟨"PearlMother", "worth", "(IIII)I"⟩, 13) := ⟨⟨by decide +kernel, by decide +kernel⟩, List.mem_of_getElem? (i := 14) (by decide +kernel), List.mem_of_getElem? (i := 565) (by decide +kernel), List.mem_of_getElem? (i := 566) (by decide +kernel)⟩
theorem lw_p14 : lw_okq (⟨"PearlMother", "spreadChances", "(II)I"⟩, 13) := ⟨⟨by decide +kernel, by decide +kernel⟩, List.mem_of_getElem? (i := 14) (by decide +kernel), List.mem_of_getElem? (i := 573) (by decide +kernel), List.mem_of_getElem? (i := 574) (by decide +kernel)⟩
theorem lw_p15 : lw_okq (⟨"PearlMother", "befall", "(I)V"⟩, 13) := ⟨⟨by decide +kernel, by decide +kernel⟩, List.mem_of_getElem? (i := 14) (by decide +kernel), List.mem_of_getElem? (i := 588) (by decide +kernel), List.mem_of_getElem? (i := 589) (by decide +kernel)⟩
def lw_privs_1 : List (MethodName × Nat) := [(⟨"PearlMother", "whoSeesHerLook", "(LPearlMother$State;)I"⟩, 13), (⟨"PearlMother", "partsSeen", "(LPearlMother$State;II)I"⟩, 13), (⟨"PearlMother", "showsAfter", "(LPearlMother$State;III)Z"⟩, 13), (⟨"PearlMother", "partsSeenTogether", "()I"⟩, 13), (⟨"PearlMother", "piecesOf", "(I)I"⟩, 13), (⟨"PearlMother", "takeBack", "(I)V"⟩, 13), (⟨"PearlMother", "fewestTilts", "(II)I"⟩, 13), (⟨"PearlMother", "fewestTiltsToSee", "(II)I"⟩, 13), (⟨"PearlMother", "partsHeld", "(I)I"⟩, 13), (⟨"PearlMother", "hoursUntilSeen", "(II)I"⟩, 13), (⟨"PearlMother", "canBeDone", "(I)Z"⟩, 13), (⟨"PearlMother", "piecesThatShow", "(I)I"⟩, 13), (⟨"PearlMother", "staysWith", "(IIII)Z"⟩, 13), (⟨"PearlMother", "worth", "(IIII)I"⟩, 13), (⟨"PearlMother", "spreadChances", "(II)I"⟩, 13), (⟨"PearlMother", "befall", "(I)V"⟩, 13)]
theorem lw_r1 : ∀ q ∈ lw_privs_1, lw_okq q := List.forall_mem_cons.mpr ⟨lw_p0, List.forall_mem_cons.mpr ⟨lw_p1, List.forall_mem_cons.mpr ⟨lw_p2, List.forall_mem_cons.mpr ⟨lw_p3, List.forall_mem_cons.mpr ⟨lw_p4, List.forall_mem_cons.mpr ⟨lw_p5, List.forall_mem_cons.mpr ⟨lw_p6, List.forall_mem_cons.mpr ⟨lw_p7, List.forall_mem_cons.mpr ⟨lw_p8, List.forall_mem_cons.mpr ⟨lw_p9, List.forall_mem_cons.mpr ⟨lw_p10, List.forall_mem_cons.mpr ⟨lw_p11, List.forall_mem_cons.mpr ⟨lw_p12, List.forall_mem_cons.mpr ⟨lw_p13, List.forall_mem_cons.mpr ⟨lw_p14, List.forall_mem_cons.mpr ⟨lw_p15, fun _ h => absurd h List.not_mem_nil⟩⟩⟩⟩⟩⟩⟩⟩⟩⟩⟩⟩⟩⟩⟩⟩
theorem lw_p16 : lw_okq (⟨"PearlMotherModel", "readCoast", "()I"⟩, 31) := ⟨⟨by decide +kernel, by decide +kernel⟩, List.mem_of_getElem? (i := 600) (by decide +kernel), List.mem_of_getElem? (i := 716) (by decide +kernel), List.mem_of_getElem? (i := 717) (by decide +kernel)⟩
theorem lw_p17 : lw_okq (⟨"PearlMotherModel", "figure", "(I)I"⟩, 31) := ⟨⟨by decide +kernel, by decide +kernel⟩, List.mem_of_getElem? (i := 600) (by decide +kernel), List.mem_of_getElem? (i := 720) (by decide +kernel), List.mem_of_getElem? (i := 721) (by decide +kernel)⟩
theorem lw_p18 : lw_okq (⟨"PearlMotherModel", "readThing", "()Z"⟩, 31) := ⟨⟨by decide +kernel, by decide +kernel⟩, List.mem_of_getElem? (i := 600) (by decide +kernel), List.mem_of_getElem? (i := 724) (by decide +kernel), List.mem_of_getElem? (i := 725) (by decide +kernel)⟩
theorem lw_p19 : lw_okq (⟨"PearlMotherModel", "readOneHolder", "()Z"⟩, 31) := ⟨⟨by decide +kernel, by decide +kernel⟩, List.mem_of_getElem? (i := 600) (by decide +kernel), List.mem_of_getElem? (i := 728) (by decide +kernel), List.mem_of_getElem? (i := 729) (by decide +kernel)⟩
theorem lw_p20 : lw_okq (⟨"PearlMotherModel", "readOnePiece", "()Z"⟩, 31) := ⟨⟨by decide +kernel, by decide +kernel⟩, List.mem_of_getElem? (i := 600) (by decide +kernel), List.mem_of_getElem? (i := 732) (by decide +kernel), List.mem_of_getElem? (i := 733) (by decide +kernel)⟩
theorem lw_p21 : lw_okq (⟨"PearlMotherModel", "lookers", "([I)I"⟩, 31) := ⟨⟨by decide +kernel, by decide +kernel⟩, List.mem_of_getElem? (i := 600) (by decide +kernel), List.mem_of_getElem? (i := 744) (by decide +kernel), List.mem_of_getElem? (i := 745) (by decide +kernel)⟩
theorem lw_p22 : lw_okq (⟨"PearlMotherModel", "seesOf", "([III)I"⟩, 31) := ⟨⟨by decide +kernel, by decide +kernel⟩, List.mem_of_getElem? (i := 600) (by decide +kernel), List.mem_of_getElem? (i := 748) (by decide +kernel), List.mem_of_getElem? (i := 749) (by decide +kernel)⟩
theorem lw_p23 : lw_okq (⟨"PearlMotherModel", "isShown", "([II)Z"⟩, 31) := ⟨⟨by decide +kernel, by decide +kernel⟩, List.mem_of_getElem? (i := 600) (by decide +kernel), List.mem_of_getElem? (i := 755) (by decide +kernel), List.mem_of_getElem? (i := 756) (by decide +kernel)⟩
theorem lw_p24 : lw_okq (⟨"PearlMotherModel", "showsTo", "(III)Z"⟩, 31) := ⟨⟨by decide +kernel, by decide +kernel⟩, List.mem_of_getElem? (i := 600) (by decide +kernel), List.mem_of_getElem? (i := 762) (by decide +kernel), List.mem_of_getElem? (i := 763) (by decide +kernel)⟩
theorem lw_p25 : lw_okq (⟨"PearlMotherModel", "together", "([II)I"⟩, 31) := ⟨⟨by decide +kernel, by decide +kernel⟩, List.mem_of_getElem? (i := 600) (by decide +kernel), List.mem_of_getElem? (i := 772) (by decide +kernel), List.mem_of_getElem? (i := 773) (by decide +kernel)⟩
theorem lw_p26 : lw_okq (⟨"PearlMotherModel", "noHolder", "(I)Z"⟩, 31) := ⟨⟨by decide +kernel, by decide +kernel⟩, List.mem_of_getElem? (i := 600) (by decide +kernel), List.mem_of_getElem? (i := 780) (by decide +kernel), List.mem_of_getElem? (i := 781) (by decide +kernel)⟩
theorem lw_p27 : lw_okq (⟨"PearlMotherModel", "heldBy", "([II)I"⟩, 31) := ⟨⟨by decide +kernel, by decide +kernel⟩, List.mem_of_getElem? (i := 600) (by decide +kernel), List.mem_of_getElem? (i := 784) (by decide +kernel), List.mem_of_getElem? (i := 785) (by decide +kernel)⟩
theorem lw_p28 : lw_okq (⟨"PearlMotherModel", "noPiece", "(I)Z"⟩, 31) := ⟨⟨by decide +kernel, by decide +kernel⟩, List.mem_of_getElem? (i := 600) (by decide +kernel), List.mem_of_getElem? (i := 792) (by decide +kernel), List.mem_of_getElem? (i := 793) (by decide +kernel)⟩
theorem lw_p29 : lw_okq (⟨"PearlMotherModel", "note", "()V"⟩, 31) := ⟨⟨by decide +kernel, by decide +kernel⟩, List.mem_of_getElem? (i := 600) (by decide +kernel), List.mem_of_getElem? (i := 805) (by decide +kernel), List.mem_of_getElem? (i := 806) (by decide +kernel)⟩
theorem lw_p30 : lw_okq (⟨"PearlMotherModel", "tiltsOf", "(II)I"⟩, 31) := ⟨⟨by decide +kernel, by decide +kernel⟩, List.mem_of_getElem? (i := 600) (by decide +kernel), List.mem_of_getElem? (i := 831) (by decide +kernel), List.mem_of_getElem? (i := 832) (by decide +kernel)⟩
theorem lw_p31 : lw_okq (⟨"PearlMotherModel", "findsOf", "(II)I"⟩, 31) := ⟨⟨by decide +kernel, by decide +kernel⟩, List.mem_of_getElem? (i := 600) (by decide +kernel), List.mem_of_getElem? (i := 840) (by decide +kernel), List.mem_of_getElem? (i := 841) (by decide +kernel)⟩
def lw_privs_2 : List (MethodName × Nat) := [(⟨"PearlMotherModel", "readCoast", "()I"⟩, 31), (⟨"PearlMotherModel", "figure", "(I)I"⟩, 31), (⟨"PearlMotherModel", "readThing", "()Z"⟩, 31), (⟨"PearlMotherModel", "readOneHolder", "()Z"⟩, 31), (⟨"PearlMotherModel", "readOnePiece", "()Z"⟩, 31), (⟨"PearlMotherModel", "lookers", "([I)I"⟩, 31), (⟨"PearlMotherModel", "seesOf", "([III)I"⟩, 31), (⟨"PearlMotherModel", "isShown", "([II)Z"⟩, 31), (⟨"PearlMotherModel", "showsTo", "(III)Z"⟩, 31), (⟨"PearlMotherModel", "together", "([II)I"⟩, 31), (⟨"PearlMotherModel", "noHolder", "(I)Z"⟩, 31), (⟨"PearlMotherModel", "heldBy", "([II)I"⟩, 31), (⟨"PearlMotherModel", "noPiece", "(I)Z"⟩, 31), (⟨"PearlMotherModel", "note", "()V"⟩, 31), (⟨"PearlMotherModel", "tiltsOf", "(II)I"⟩, 31), (⟨"PearlMotherModel", "findsOf", "(II)I"⟩, 31)]
theorem lw_r2 : ∀ q ∈ lw_privs_2, lw_okq q := List.forall_mem_cons.mpr ⟨lw_p16, List.forall_mem_cons.mpr ⟨lw_p17, List.forall_mem_cons.mpr ⟨lw_p18, List.forall_mem_cons.mpr ⟨lw_p19, List.forall_mem_cons.mpr ⟨lw_p20, List.forall_mem_cons.mpr ⟨lw_p21, List.forall_mem_cons.mpr ⟨lw_p22, List.forall_mem_cons.mpr ⟨lw_p23, List.forall_mem_cons.mpr ⟨lw_p24, List.forall_mem_cons.mpr ⟨lw_p25, List.forall_mem_cons.mpr ⟨lw_p26, List.forall_mem_cons.mpr ⟨lw_p27, List.forall_mem_cons.mpr ⟨lw_p28, List.forall_mem_cons.mpr ⟨lw_p29, List.forall_mem_cons.mpr ⟨lw_p30, List.forall_mem_cons.mpr ⟨lw_p31, fun _ h => absurd h List.not_mem_nil⟩⟩⟩⟩⟩⟩⟩⟩⟩⟩⟩⟩⟩⟩⟩⟩
theorem lw_p32 : lw_okq (⟨"PearlMotherModel", "partsHeld", "(I)I"⟩, 31) := ⟨⟨by decide +kernel, by decide +kernel⟩, List.mem_of_getElem? (i := 600) (by decide +kernel), List.mem_of_getElem? (i := 848) (by decide +kernel), List.mem_of_getElem? (i := 849) (by decide +kernel)⟩
theorem lw_p33 : lw_okq (⟨"PearlMotherModel", "begin", "()V"⟩, 31) := ⟨⟨by decide +kernel, by decide +kernel⟩, List.mem_of_getElem? (i := 600) (by decide +kernel), List.mem_of_getElem? (i := 856) (by decide +kernel), List.mem_of_getElem? (i := 857) (by decide +kernel)⟩
theorem lw_p34 : lw_okq (⟨"PearlMotherModel", "isLaid", "(II)Z"⟩, 31) := ⟨⟨by decide +kernel, by decide +kernel⟩, List.mem_of_getElem? (i := 600) (by decide +kernel), List.mem_of_getElem? (i := 867) (by decide +kernel), List.mem_of_getElem? (i := 868) (by decide +kernel)⟩
theorem lw_p35 : lw_okq (⟨"PearlMotherModel", "mayBeOne", "(II)Z"⟩, 31) := ⟨⟨by decide +kernel, by decide +kernel⟩, List.mem_of_getElem? (i := 600) (by decide +kernel), List.mem_of_getElem? (i := 871) (by decide +kernel), List.mem_of_getElem? (i := 872) (by decide +kernel)⟩
theorem lw_p36 : lw_okq (⟨"PearlMotherModel", "does", "(I)Z"⟩, 31) := ⟨⟨by decide +kernel, by decide +kernel⟩, List.mem_of_getElem? (i := 600) (by decide +kernel), List.mem_of_getElem? (i := 890) (by decide +kernel), List.mem_of_getElem? (i := 891) (by decide +kernel)⟩
theorem lw_p37 : lw_okq (⟨"PearlMotherModel", "mayBe", "(I)Z"⟩, 31) := ⟨⟨by decide +kernel, by decide +kernel⟩, List.mem_of_getElem? (i := 600) (by decide +kernel), List.mem_of_getElem? (i := 920) (by decide +kernel), List.mem_of_getElem? (i := 921) (by decide +kernel)⟩
theorem lw_p38 : lw_okq (⟨"PearlMotherModel", "greatest", "(I)I"⟩, 31) := ⟨⟨by decide +kernel, by decide +kernel⟩, List.mem_of_getElem? (i := 600) (by decide +kernel), List.mem_of_getElem? (i := 931) (by decide +kernel), List.mem_of_getElem? (i := 932) (by decide +kernel)⟩
def lw_privs_3 : List (MethodName × Nat) := [(⟨"PearlMotherModel", "partsHeld", "(I)I"⟩, 31), (⟨"PearlMotherModel", "begin", "()V"⟩, 31), (⟨"PearlMotherModel", "isLaid", "(II)Z"⟩, 31), (⟨"PearlMotherModel", "mayBeOne", "(II)Z"⟩, 31), (⟨"PearlMotherModel", "does", "(I)Z"⟩, 31), (⟨"PearlMotherModel", "mayBe", "(I)Z"⟩, 31), (⟨"PearlMotherModel", "greatest", "(I)I"⟩, 31)]
theorem lw_r3 : ∀ q ∈ lw_privs_3, lw_okq q := List.forall_mem_cons.mpr ⟨lw_p32, List.forall_mem_cons.mpr ⟨lw_p33, List.forall_mem_cons.mpr ⟨lw_p34, List.forall_mem_cons.mpr ⟨lw_p35, List.forall_mem_cons.mpr ⟨lw_p36, List.forall_mem_cons.mpr ⟨lw_p37, List.forall_mem_cons.mpr ⟨lw_p38, fun _ h => absurd h List.not_mem_nil⟩⟩⟩⟩⟩⟩⟩
def lw_privs : List (MethodName × Nat) := lw_privs_1 ++ (lw_privs_2 ++ (lw_privs_3))
def lw_tbl : List Cond := k2_sels lw_privs ++ tables_1
theorem lw_privs_ok : ∀ q ∈ lw_privs, lw_okq q := by
  show ∀ q ∈ lw_privs_1 ++ (lw_privs_2 ++ (lw_privs_3)), lw_okq q
  exact List.forall_mem_append.mpr ⟨lw_r1, List.forall_mem_append.mpr ⟨lw_r2, lw_r3⟩⟩
-- ===== names =====
def TB : List Cond := lw_tbl.filter goodWord
theorem tb_mem {w : Cond} (i : Nat) (h : lw_tbl[i]? = some w) (hg : goodWord w = true) : w ∈ TB := List.mem_filter.mpr ⟨List.mem_of_getElem? h, hg⟩
abbrev MR : Type := MethodName × ByteArray × Nat × Option FieldType
def CN_Ac : String := "PearlMother$Acts"
def CT_Ac : u_T := fun k => match k with
  | 0 => ("PearlMother$Acts", "row", "[I", true)
  | _ => ("PearlMother$Acts", "count", "I", false)
def Cy_Ac : Nat → FieldType := fun k => match k with
  | 0 => .array .int
  | _ => .int
theorem Cn_Ac : ∀ a, a < 2 → ∀ b, b < 2 → a ≠ b → (CT_Ac a).2.1 ≠ (CT_Ac b).2.1 := by decide +kernel
theorem Ck_Ac : ∀ k, k < 2 → parseFieldDescriptor (CT_Ac k).2.2.1 = some (Cy_Ac k) := by decide +kernel
set_option maxRecDepth 20000 in
theorem Ci_Ac : ∀ w ∈ u_ws CN_Ac CT_Ac 2, w ∈ TB := by
  have h : u_ws CN_Ac CT_Ac 2 = [156, 158].filterMap (fun i => lw_tbl[i]?) := by decide +kernel
  have hg : (u_ws CN_Ac CT_Ac 2).all goodWord = true := by decide +kernel
  intro w hw
  have h1 := List.all_eq_true.mp hg w hw
  rw [h] at hw
  obtain ⟨i, -, hi⟩ := List.mem_filterMap.mp hw
  exact tb_mem i hi h1
def CN_Co : String := "PearlMother$Coast"
def CT_Co : u_T := fun k => match k with
  | 0 => ("PearlMother$Coast", "holderKind", "[I", true)
  | 1 => ("PearlMother$Coast", "part", "[I", true)
  | 2 => ("PearlMother$Coast", "angle", "[I", true)
  | 3 => ("PearlMother$Coast", "kind", "[I", true)
  | 4 => ("PearlMother$Coast", "heldBy", "[I", true)
  | 5 => ("PearlMother$Coast", "light", "I", false)
  | 6 => ("PearlMother$Coast", "holders", "I", false)
  | _ => ("PearlMother$Coast", "pieces", "I", false)
def Cy_Co : Nat → FieldType := fun k => match k with
  | 0 => .array .int
  | 1 => .array .int
  | 2 => .array .int
  | 3 => .array .int
  | 4 => .array .int
  | 5 => .int
  | 6 => .int
  | _ => .int
theorem Cn_Co : ∀ a, a < 8 → ∀ b, b < 8 → a ≠ b → (CT_Co a).2.1 ≠ (CT_Co b).2.1 := by decide +kernel
theorem Ck_Co : ∀ k, k < 8 → parseFieldDescriptor (CT_Co k).2.2.1 = some (Cy_Co k) := by decide +kernel
set_option maxRecDepth 20000 in
theorem Ci_Co : ∀ w ∈ u_ws CN_Co CT_Co 8, w ∈ TB := by
  have h : u_ws CN_Co CT_Co 8 = [103, 105, 107, 109, 111, 113, 115, 117].filterMap (fun i => lw_tbl[i]?) := by decide +kernel
  have hg : (u_ws CN_Co CT_Co 8).all goodWord = true := by decide +kernel
  intro w hw
  have h1 := List.all_eq_true.mp hg w hw
  rw [h] at hw
  obtain ⟨i, -, hi⟩ := List.mem_filterMap.mp hw
  exact tb_mem i hi h1
def CN_Gi : String := "PearlMother$Givings"
def CT_Gi : u_T := fun k => match k with
  | 0 => ("PearlMother$Givings", "part", "[I", true)
  | 1 => ("PearlMother$Givings", "seers", "[I", true)
  | 2 => ("PearlMother$Givings", "hope", "[I", true)
  | 3 => ("PearlMother$Givings", "holders", "I", false)
  | 4 => ("PearlMother$Givings", "pieces", "I", false)
  | 5 => ("PearlMother$Givings", "most", "I", false)
  | _ => ("PearlMother$Givings", "way", "I", false)
def Cy_Gi : Nat → FieldType := fun k => match k with
  | 0 => .array .int
  | 1 => .array .int
  | 2 => .array .int
  | 3 => .int
  | 4 => .int
  | 5 => .int
  | _ => .int
theorem Cn_Gi : ∀ a, a < 7 → ∀ b, b < 7 → a ≠ b → (CT_Gi a).2.1 ≠ (CT_Gi b).2.1 := by decide +kernel
theorem Ck_Gi : ∀ k, k < 7 → parseFieldDescriptor (CT_Gi k).2.2.1 = some (Cy_Gi k) := by decide +kernel
set_option maxRecDepth 20000 in
theorem Ci_Gi : ∀ w ∈ u_ws CN_Gi CT_Gi 7, w ∈ TB := by
  have h : u_ws CN_Gi CT_Gi 7 = [209, 211, 213, 215, 217, 219, 221].filterMap (fun i => lw_tbl[i]?) := by decide +kernel
  have hg : (u_ws CN_Gi CT_Gi 7).all goodWord = true := by decide +kernel
  intro w hw
  have h1 := List.all_eq_true.mp hg w hw
  rw [h] at hw
  obtain ⟨i, -, hi⟩ := List.mem_filterMap.mp hw
  exact tb_mem i hi h1
def CN_Mo : String := "PearlMother$Mothers"
def CT_Mo : u_T := fun k => match k with
  | 0 => ("PearlMother$Mothers", "isRow", "[Z", true)
  | _ => ("PearlMother$Mothers", "fewest", "[I", true)
def Cy_Mo : Nat → FieldType := fun k => match k with
  | 0 => .array .boolean
  | _ => .array .int
theorem Cn_Mo : ∀ a, a < 2 → ∀ b, b < 2 → a ≠ b → (CT_Mo a).2.1 ≠ (CT_Mo b).2.1 := by decide +kernel
theorem Ck_Mo : ∀ k, k < 2 → parseFieldDescriptor (CT_Mo k).2.2.1 = some (Cy_Mo k) := by decide +kernel
set_option maxRecDepth 20000 in
theorem Ci_Mo : ∀ w ∈ u_ws CN_Mo CT_Mo 2, w ∈ TB := by
  have h : u_ws CN_Mo CT_Mo 2 = [233, 235].filterMap (fun i => lw_tbl[i]?) := by decide +kernel
  have hg : (u_ws CN_Mo CT_Mo 2).all goodWord = true := by decide +kernel
  intro w hw
  have h1 := List.all_eq_true.mp hg w hw
  rw [h] at hw
  obtain ⟨i, -, hi⟩ := List.mem_filterMap.mp hw
  exact tb_mem i hi h1
def CN_St : String := "PearlMother$State"
def CT_St : u_T := fun k => match k with
  | 0 => ("PearlMother$State", "tilt", "[I", true)
  | 1 => ("PearlMother$State", "heldBy", "[I", true)
  | 2 => ("PearlMother$State", "light", "I", false)
  | 3 => ("PearlMother$State", "hour", "I", false)
  | _ => ("PearlMother$State", "kept", "Z", false)
def Cy_St : Nat → FieldType := fun k => match k with
  | 0 => .array .int
  | 1 => .array .int
  | 2 => .int
  | 3 => .int
  | _ => .boolean
theorem Cn_St : ∀ a, a < 5 → ∀ b, b < 5 → a ≠ b → (CT_St a).2.1 ≠ (CT_St b).2.1 := by decide +kernel
theorem Ck_St : ∀ k, k < 5 → parseFieldDescriptor (CT_St k).2.2.1 = some (Cy_St k) := by decide +kernel
set_option maxRecDepth 20000 in
theorem Ci_St : ∀ w ∈ u_ws CN_St CT_St 5, w ∈ TB := by
  have h : u_ws CN_St CT_St 5 = [135, 137, 139, 141, 143].filterMap (fun i => lw_tbl[i]?) := by decide +kernel
  have hg : (u_ws CN_St CT_St 5).all goodWord = true := by decide +kernel
  intro w hw
  have h1 := List.all_eq_true.mp hg w hw
  rw [h] at hw
  obtain ⟨i, -, hi⟩ := List.mem_filterMap.mp hw
  exact tb_mem i hi h1
def CN_Te : String := "PearlMother$Text"
def CT_Te : u_T := fun k => match k with
  | 0 => ("PearlMother$Text", "bytes", "[I", true)
  | _ => ("PearlMother$Text", "length", "I", false)
def Cy_Te : Nat → FieldType := fun k => match k with
  | 0 => .array .int
  | _ => .int
theorem Cn_Te : ∀ a, a < 2 → ∀ b, b < 2 → a ≠ b → (CT_Te a).2.1 ≠ (CT_Te b).2.1 := by decide +kernel
theorem Ck_Te : ∀ k, k < 2 → parseFieldDescriptor (CT_Te k).2.2.1 = some (Cy_Te k) := by decide +kernel
set_option maxRecDepth 20000 in
theorem Ci_Te : ∀ w ∈ u_ws CN_Te CT_Te 2, w ∈ TB := by
  have h : u_ws CN_Te CT_Te 2 = [69, 71].filterMap (fun i => lw_tbl[i]?) := by decide +kernel
  have hg : (u_ws CN_Te CT_Te 2).all goodWord = true := by decide +kernel
  intro w hw
  have h1 := List.all_eq_true.mp hg w hw
  rw [h] at hw
  obtain ⟨i, -, hi⟩ := List.mem_filterMap.mp hw
  exact tb_mem i hi h1
def CN_Tu : String := "PearlMother$Turned"
def CT_Tu : u_T := fun k => match k with
  | 0 => ("PearlMother$Turned", "angles", "[I", true)
  | 1 => ("PearlMother$Turned", "answers", "[I", true)
  | 2 => ("PearlMother$Turned", "count", "I", false)
  | 3 => ("PearlMother$Turned", "fitting", "I", false)
  | 4 => ("PearlMother$Turned", "first", "I", false)
  | _ => ("PearlMother$Turned", "alike", "[I", true)
def Cy_Tu : Nat → FieldType := fun k => match k with
  | 0 => .array .int
  | 1 => .array .int
  | 2 => .int
  | 3 => .int
  | 4 => .int
  | _ => .array .int
theorem Cn_Tu : ∀ a, a < 6 → ∀ b, b < 6 → a ≠ b → (CT_Tu a).2.1 ≠ (CT_Tu b).2.1 := by decide +kernel
theorem Ck_Tu : ∀ k, k < 6 → parseFieldDescriptor (CT_Tu k).2.2.1 = some (Cy_Tu k) := by decide +kernel
set_option maxRecDepth 20000 in
theorem Ci_Tu : ∀ w ∈ u_ws CN_Tu CT_Tu 6, w ∈ TB := by
  have h : u_ws CN_Tu CT_Tu 6 = [176, 178, 180, 182, 184, 186].filterMap (fun i => lw_tbl[i]?) := by decide +kernel
  have hg : (u_ws CN_Tu CT_Tu 6).all goodWord = true := by decide +kernel
  intro w hw
  have h1 := List.all_eq_true.mp hg w hw
  rw [h] at hw
  obtain ⟨i, -, hi⟩ := List.mem_filterMap.mp hw
  exact tb_mem i hi h1
def CN_PM : String := "PearlMother"
def CT_PM : u_T := fun k => match k with
  | 0 => ("PearlMother", "text", "LPearlMother$Text;", true)
  | 1 => ("PearlMother", "told", "LPearlMother$Coast;", false)
  | 2 => ("PearlMother", "draft", "LPearlMother$Coast;", false)
  | 3 => ("PearlMother", "now", "LPearlMother$State;", true)
  | 4 => ("PearlMother", "trial", "LPearlMother$State;", true)
  | 5 => ("PearlMother", "slots", "[LPearlMother$State;", true)
  | 6 => ("PearlMother", "acts", "LPearlMother$Acts;", true)
  | 7 => ("PearlMother", "turned", "LPearlMother$Turned;", true)
  | 8 => ("PearlMother", "givings", "LPearlMother$Givings;", true)
  | 9 => ("PearlMother", "rows", "LPearlMother$Mothers;", true)
  | 10 => ("PearlMother", "doings", "[I", true)
  | 11 => ("PearlMother", "chances", "[I", true)
  | _ => ("PearlMother", "theSeed", "J", false)
def Cy_PM : Nat → FieldType := fun k => match k with
  | 0 => .object "PearlMother$Text"
  | 1 => .object "PearlMother$Coast"
  | 2 => .object "PearlMother$Coast"
  | 3 => .object "PearlMother$State"
  | 4 => .object "PearlMother$State"
  | 5 => .array (.object "PearlMother$State")
  | 6 => .object "PearlMother$Acts"
  | 7 => .object "PearlMother$Turned"
  | 8 => .object "PearlMother$Givings"
  | 9 => .object "PearlMother$Mothers"
  | 10 => .array .int
  | 11 => .array .int
  | _ => .long
theorem Cn_PM : ∀ a, a < 13 → ∀ b, b < 13 → a ≠ b → (CT_PM a).2.1 ≠ (CT_PM b).2.1 := by decide +kernel
theorem Ck_PM : ∀ k, k < 13 → parseFieldDescriptor (CT_PM k).2.2.1 = some (Cy_PM k) := by decide +kernel
set_option maxRecDepth 20000 in
theorem Ci_PM : ∀ w ∈ u_ws CN_PM CT_PM 13, w ∈ TB := by
  have h : u_ws CN_PM CT_PM 13 = [252, 254, 256, 258, 260, 262, 264, 266, 268, 270, 272, 274, 276].filterMap (fun i => lw_tbl[i]?) := by decide +kernel
  have hg : (u_ws CN_PM CT_PM 13).all goodWord = true := by decide +kernel
  intro w hw
  have h1 := List.all_eq_true.mp hg w hw
  rw [h] at hw
  obtain ⟨i, -, hi⟩ := List.mem_filterMap.mp hw
  exact tb_mem i hi h1
def CN_Rf : String := "PearlMotherModel"
def CT_Rf : u_T := fun k => match k with
  | 0 => ("PearlMotherModel", "thrown", "I", false)
  | 1 => ("PearlMotherModel", "text", "[I", true)
  | 2 => ("PearlMotherModel", "textSize", "I", false)
  | 3 => ("PearlMotherModel", "place", "I", false)
  | 4 => ("PearlMotherModel", "holders", "I", false)
  | 5 => ("PearlMotherModel", "holder", "[I", true)
  | 6 => ("PearlMotherModel", "pieces", "I", false)
  | 7 => ("PearlMotherModel", "piece", "[I", true)
  | 8 => ("PearlMotherModel", "readLight", "I", false)
  | 9 => ("PearlMotherModel", "readHolders", "I", false)
  | 10 => ("PearlMotherModel", "readHolder", "[I", true)
  | 11 => ("PearlMotherModel", "readPieces", "I", false)
  | 12 => ("PearlMotherModel", "readPiece", "[I", true)
  | 13 => ("PearlMotherModel", "page", "[I", true)
  | 14 => ("PearlMotherModel", "trial", "[I", true)
  | 15 => ("PearlMotherModel", "book", "[I", true)
  | 16 => ("PearlMotherModel", "acts", "I", false)
  | 17 => ("PearlMotherModel", "kept", "[I", true)
  | 18 => ("PearlMotherModel", "isKept", "[Z", true)
  | 19 => ("PearlMotherModel", "turned", "I", false)
  | 20 => ("PearlMotherModel", "turnedAngle", "[I", true)
  | 21 => ("PearlMotherModel", "turnedPart", "[I", true)
  | 22 => ("PearlMotherModel", "seed", "J", false)
  | 23 => ("PearlMotherModel", "mayMany", "I", false)
  | 24 => ("PearlMotherModel", "mayFirst", "I", false)
  | 25 => ("PearlMotherModel", "restMany", "I", false)
  | 26 => ("PearlMotherModel", "restFirst", "I", false)
  | 27 => ("PearlMotherModel", "gains", "[I", true)
  | 28 => ("PearlMotherModel", "groups", "[I", true)
  | 29 => ("PearlMotherModel", "value", "[I", true)
  | _ => ("PearlMotherModel", "rows", "[I", true)
def Cy_Rf : Nat → FieldType := fun k => match k with
  | 0 => .int
  | 1 => .array .int
  | 2 => .int
  | 3 => .int
  | 4 => .int
  | 5 => .array .int
  | 6 => .int
  | 7 => .array .int
  | 8 => .int
  | 9 => .int
  | 10 => .array .int
  | 11 => .int
  | 12 => .array .int
  | 13 => .array .int
  | 14 => .array .int
  | 15 => .array .int
  | 16 => .int
  | 17 => .array .int
  | 18 => .array .boolean
  | 19 => .int
  | 20 => .array .int
  | 21 => .array .int
  | 22 => .long
  | 23 => .int
  | 24 => .int
  | 25 => .int
  | 26 => .int
  | 27 => .array .int
  | 28 => .array .int
  | 29 => .array .int
  | _ => .array .int
theorem Cn_Rf : ∀ a, a < 31 → ∀ b, b < 31 → a ≠ b → (CT_Rf a).2.1 ≠ (CT_Rf b).2.1 := by decide +kernel
theorem Ck_Rf : ∀ k, k < 31 → parseFieldDescriptor (CT_Rf k).2.2.1 = some (Cy_Rf k) := by decide +kernel
set_option maxRecDepth 20000 in
theorem Ci_Rf : ∀ w ∈ u_ws CN_Rf CT_Rf 31, w ∈ TB := by
  have h : u_ws CN_Rf CT_Rf 31 = [675, 677, 679, 681, 683, 685, 687, 689, 691, 693, 695, 697, 699, 701, 703, 705, 707, 709, 711, 713, 715, 717, 719, 721, 723, 725, 727, 729, 731, 733, 735].filterMap (fun i => lw_tbl[i]?) := by decide +kernel
  have hg : (u_ws CN_Rf CT_Rf 31).all goodWord = true := by decide +kernel
  intro w hw
  have h1 := List.all_eq_true.mp hg w hw
  rw [h] at hw
  obtain ⟨i, -, hi⟩ := List.mem_filterMap.mp hw
  exact tb_mem i hi h1
abbrev KL : List vw_C := [(CN_Ac, CT_Ac, 2), (CN_Co, CT_Co, 8), (CN_Gi, CT_Gi, 7), (CN_Mo, CT_Mo, 2), (CN_St, CT_St, 5), (CN_Te, CT_Te, 2), (CN_Tu, CT_Tu, 6), (CN_PM, CT_PM, 13), (CN_Rf, CT_Rf, 31)]
def M_PM_init : MR := (⟨"PearlMother", "<init>", "()V"⟩, prog_1_method_1_code, 2, none)
def M_PM_write : MR := (⟨"PearlMother", "write", "(I)I"⟩, prog_1_method_2_code, 2, (some .int))
def M_PM_wipe : MR := (⟨"PearlMother", "wipe", "()I"⟩, prog_1_method_3_code, 2, (some .int))
def M_PM_fault : MR := (⟨"PearlMother", "fault", "()I"⟩, prog_1_method_4_code, 1, (some .int))
def M_PM_coast : MR := (⟨"PearlMother", "coast", "()I"⟩, prog_1_method_5_code, 3, (some .int))
def M_PM_about : MR := (⟨"PearlMother", "about", "(I)I"⟩, prog_1_method_6_code, 2, (some .int))
def M_PM_holder : MR := (⟨"PearlMother", "holder", "(II)I"⟩, prog_1_method_7_code, 3, (some .int))
def M_PM_piece : MR := (⟨"PearlMother", "piece", "(II)I"⟩, prog_1_method_8_code, 3, (some .int))
def M_PM_shows : MR := (⟨"PearlMother", "shows", "(III)I"⟩, prog_1_method_9_code, 4, (some .int))
def M_PM_tilt : MR := (⟨"PearlMother", "tilt", "(IZ)I"⟩, prog_1_method_10_code, 3, (some .int))
def M_PM_give : MR := (⟨"PearlMother", "give", "(II)I"⟩, prog_1_method_11_code, 4, (some .int))
def M_PM_hour : MR := (⟨"PearlMother", "hour", "()I"⟩, prog_1_method_12_code, 1, (some .int))
def M_PM_undo : MR := (⟨"PearlMother", "undo", "()I"⟩, prog_1_method_13_code, 1, (some .int))
def M_PM_tilts : MR := (⟨"PearlMother", "tilts", "(II)I"⟩, prog_1_method_14_code, 3, (some .int))
def M_PM_finds : MR := (⟨"PearlMother", "finds", "(II)I"⟩, prog_1_method_15_code, 3, (some .int))
def M_PM_all : MR := (⟨"PearlMother", "all", "(I)I"⟩, prog_1_method_16_code, 6, (some .int))
def M_PM_when : MR := (⟨"PearlMother", "when", "(II)I"⟩, prog_1_method_17_code, 3, (some .int))
def M_PM_mothers : MR := (⟨"PearlMother", "mothers", "()I"⟩, prog_1_method_18_code, 1, (some .int))
def M_PM_giving : MR := (⟨"PearlMother", "giving", "(Z)I"⟩, prog_1_method_19_code, 2, (some .int))
def M_PM_judge : MR := (⟨"PearlMother", "judge", "(IJ)I"⟩, prog_1_method_20_code, 7, (some .int))
def M_PM_share : MR := (⟨"PearlMother", "share", "(IZ)I"⟩, prog_1_method_21_code, 3, (some .int))
def M_PM_turn : MR := (⟨"PearlMother", "turn", "(II)I"⟩, prog_1_method_22_code, 3, (some .int))
def M_PM_unturn : MR := (⟨"PearlMother", "unturn", "()I"⟩, prog_1_method_23_code, 2, (some .int))
def M_PM_may : MR := (⟨"PearlMother", "may", "(I)I"⟩, prog_1_method_24_code, 2, (some .int))
def M_PM_next : MR := (⟨"PearlMother", "next", "()I"⟩, prog_1_method_25_code, 1, (some .int))
def M_PM_rests : MR := (⟨"PearlMother", "rests", "(IIII)I"⟩, prog_1_method_26_code, 9, (some .int))
def M_PM_glints : MR := (⟨"PearlMother", "glints", "(IIIIZ)I"⟩, prog_1_method_27_code, 10, (some .int))
def M_PM_seed : MR := (⟨"PearlMother", "seed", "(J)J"⟩, prog_1_method_28_code, 5, (some .long))
def M_PM_years : MR := (⟨"PearlMother", "years", "(I)I"⟩, prog_1_method_29_code, 4, (some .int))
def M_PM_keep : MR := (⟨"PearlMother", "keep", "(I)I"⟩, prog_1_method_30_code, 2, (some .int))
def M_PM_again : MR := (⟨"PearlMother", "again", "(I)I"⟩, prog_1_method_31_code, 2, (some .int))
def M_PM_isBelow : MR := (⟨"PearlMother", "isBelow", "(II)Z"⟩, prog_1_method_32_code, 2, (some .boolean))
def M_PM_hasBit : MR := (⟨"PearlMother", "hasBit", "(II)Z"⟩, prog_1_method_33_code, 2, (some .boolean))
def M_PM_byEight : MR := (⟨"PearlMother", "byEight", "(I)I"⟩, prog_1_method_34_code, 1, (some .int))
def M_PM_apart : MR := (⟨"PearlMother", "apart", "(II)I"⟩, prog_1_method_35_code, 3, (some .int))
def M_PM_reachOf : MR := (⟨"PearlMother", "reachOf", "(I)I"⟩, prog_1_method_36_code, 1, (some .int))
def M_PM_isShown : MR := (⟨"PearlMother", "isShown", "(IIIII)Z"⟩, prog_1_method_37_code, 6, (some .boolean))
def M_PM_inLeastTerms : MR := (⟨"PearlMother", "inLeastTerms", "(IIZ)I"⟩, prog_1_method_38_code, 7, (some .int))
def M_PM_showsAfter : MR := (⟨"PearlMother", "showsAfter", "(LPearlMother$State;III)Z"⟩, prog_1_method_39_code, 5, (some .boolean))
def M_PM_partsSeen : MR := (⟨"PearlMother", "partsSeen", "(LPearlMother$State;II)I"⟩, prog_1_method_40_code, 6, (some .int))
def M_PM_partsSeenTogether : MR := (⟨"PearlMother", "partsSeenTogether", "()I"⟩, prog_1_method_41_code, 3, (some .int))
def M_PM_whoSeesHerLook : MR := (⟨"PearlMother", "whoSeesHerLook", "(LPearlMother$State;)I"⟩, prog_1_method_42_code, 4, (some .int))
def M_PM_piecesOf : MR := (⟨"PearlMother", "piecesOf", "(I)I"⟩, prog_1_method_43_code, 4, (some .int))
def M_PM_partsHeld : MR := (⟨"PearlMother", "partsHeld", "(I)I"⟩, prog_1_method_44_code, 4, (some .int))
def M_PM_piecesThatShow : MR := (⟨"PearlMother", "piecesThatShow", "(I)I"⟩, prog_1_method_45_code, 4, (some .int))
def M_PM_takeBack : MR := (⟨"PearlMother", "takeBack", "(I)V"⟩, prog_1_method_46_code, 4, none)
def M_PM_fewestTilts : MR := (⟨"PearlMother", "fewestTilts", "(II)I"⟩, prog_1_method_47_code, 4, (some .int))
def M_PM_fewestTiltsToSee : MR := (⟨"PearlMother", "fewestTiltsToSee", "(II)I"⟩, prog_1_method_48_code, 6, (some .int))
def M_PM_hoursUntilSeen : MR := (⟨"PearlMother", "hoursUntilSeen", "(II)I"⟩, prog_1_method_49_code, 4, (some .int))
def M_PM_canBeDone : MR := (⟨"PearlMother", "canBeDone", "(I)Z"⟩, prog_1_method_50_code, 4, (some .boolean))
def M_PM_tryGivings : MR := (⟨"PearlMother", "tryGivings", "(LPearlMother$Givings;III)V"⟩, prog_1_method_51_code, 7, none)
def M_PM_worth : MR := (⟨"PearlMother", "worth", "(IIII)I"⟩, prog_1_method_52_code, 5, (some .int))
def M_PM_staysWith : MR := (⟨"PearlMother", "staysWith", "(IIII)Z"⟩, prog_1_method_53_code, 6, (some .boolean))
def M_PM_spreadChances : MR := (⟨"PearlMother", "spreadChances", "(II)I"⟩, prog_1_method_54_code, 6, (some .int))
def M_PM_befall : MR := (⟨"PearlMother", "befall", "(I)V"⟩, prog_1_method_55_code, 2, none)
def M_Rf_init : MR := (⟨"PearlMotherModel", "<init>", "()V"⟩, prog_10_method_1_code, 1, none)
def M_Rf_in : MR := (⟨"PearlMotherModel", "in", "(JJJ)Z"⟩, prog_10_method_3_code, 6, (some .boolean))
def M_Rf_has : MR := (⟨"PearlMotherModel", "has", "(II)Z"⟩, prog_10_method_4_code, 2, (some .boolean))
def M_Rf_many : MR := (⟨"PearlMotherModel", "many", "(I)I"⟩, prog_10_method_5_code, 3, (some .int))
def M_Rf_power : MR := (⟨"PearlMotherModel", "power", "(II)I"⟩, prog_10_method_6_code, 4, (some .int))
def M_Rf_noHolder : MR := (⟨"PearlMotherModel", "noHolder", "(I)Z"⟩, prog_10_method_7_code, 2, (some .boolean))
def M_Rf_noPiece : MR := (⟨"PearlMotherModel", "noPiece", "(I)Z"⟩, prog_10_method_8_code, 2, (some .boolean))
def M_Rf_write : MR := (⟨"PearlMotherModel", "write", "(I)I"⟩, prog_10_method_9_code, 2, (some .int))
def M_Rf_wipe : MR := (⟨"PearlMotherModel", "wipe", "()I"⟩, prog_10_method_10_code, 2, (some .int))
def M_Rf_figure : MR := (⟨"PearlMotherModel", "figure", "(I)I"⟩, prog_10_method_11_code, 2, (some .int))
def M_Rf_readOneHolder : MR := (⟨"PearlMotherModel", "readOneHolder", "()Z"⟩, prog_10_method_12_code, 2, (some .boolean))
def M_Rf_readOnePiece : MR := (⟨"PearlMotherModel", "readOnePiece", "()Z"⟩, prog_10_method_13_code, 4, (some .boolean))
def M_Rf_readThing : MR := (⟨"PearlMotherModel", "readThing", "()Z"⟩, prog_10_method_14_code, 2, (some .boolean))
def M_Rf_readCoast : MR := (⟨"PearlMotherModel", "readCoast", "()I"⟩, prog_10_method_15_code, 1, (some .int))
def M_Rf_fault : MR := (⟨"PearlMotherModel", "fault", "()I"⟩, prog_10_method_16_code, 1, (some .int))
def M_Rf_coast : MR := (⟨"PearlMotherModel", "coast", "()I"⟩, prog_10_method_17_code, 3, (some .int))
def M_Rf_apart : MR := (⟨"PearlMotherModel", "apart", "(II)I"⟩, prog_10_method_18_code, 3, (some .int))
def M_Rf_showsBy : MR := (⟨"PearlMotherModel", "showsBy", "(IIIII)Z"⟩, prog_10_method_19_code, 6, (some .boolean))
def M_Rf_showsTo : MR := (⟨"PearlMotherModel", "showsTo", "(III)Z"⟩, prog_10_method_20_code, 4, (some .boolean))
def M_Rf_angleOf : MR := (⟨"PearlMotherModel", "angleOf", "([II)I"⟩, prog_10_method_21_code, 2, (some .int))
def M_Rf_isShown : MR := (⟨"PearlMotherModel", "isShown", "([II)Z"⟩, prog_10_method_22_code, 3, (some .boolean))
def M_Rf_seesOf : MR := (⟨"PearlMotherModel", "seesOf", "([III)I"⟩, prog_10_method_23_code, 6, (some .int))
def M_Rf_heldBy : MR := (⟨"PearlMotherModel", "heldBy", "([II)I"⟩, prog_10_method_24_code, 5, (some .int))
def M_Rf_lookers : MR := (⟨"PearlMotherModel", "lookers", "([I)I"⟩, prog_10_method_25_code, 4, (some .int))
def M_Rf_together : MR := (⟨"PearlMotherModel", "together", "([II)I"⟩, prog_10_method_26_code, 5, (some .int))
def M_Rf_about : MR := (⟨"PearlMotherModel", "about", "(I)I"⟩, prog_10_method_27_code, 2, (some .int))
def M_Rf_holder : MR := (⟨"PearlMotherModel", "holder", "(II)I"⟩, prog_10_method_28_code, 3, (some .int))
def M_Rf_piece : MR := (⟨"PearlMotherModel", "piece", "(II)I"⟩, prog_10_method_29_code, 3, (some .int))
def M_Rf_shows : MR := (⟨"PearlMotherModel", "shows", "(III)I"⟩, prog_10_method_30_code, 4, (some .int))
def M_Rf_note : MR := (⟨"PearlMotherModel", "note", "()V"⟩, prog_10_method_31_code, 2, none)
def M_Rf_goTilt : MR := (⟨"PearlMotherModel", "goTilt", "([IIZ)V"⟩, prog_10_method_32_code, 3, none)
def M_Rf_tilt : MR := (⟨"PearlMotherModel", "tilt", "(IZ)I"⟩, prog_10_method_33_code, 3, (some .int))
def M_Rf_give : MR := (⟨"PearlMotherModel", "give", "(II)I"⟩, prog_10_method_34_code, 4, (some .int))
def M_Rf_goHour : MR := (⟨"PearlMotherModel", "goHour", "([I)V"⟩, prog_10_method_35_code, 1, none)
def M_Rf_hour : MR := (⟨"PearlMotherModel", "hour", "()I"⟩, prog_10_method_36_code, 1, (some .int))
def M_Rf_undo : MR := (⟨"PearlMotherModel", "undo", "()I"⟩, prog_10_method_37_code, 2, (some .int))
def M_Rf_tiltsOf : MR := (⟨"PearlMotherModel", "tiltsOf", "(II)I"⟩, prog_10_method_38_code, 7, (some .int))
def M_Rf_tilts : MR := (⟨"PearlMotherModel", "tilts", "(II)I"⟩, prog_10_method_39_code, 3, (some .int))
def M_Rf_findsOf : MR := (⟨"PearlMotherModel", "findsOf", "(II)I"⟩, prog_10_method_40_code, 6, (some .int))
def M_Rf_finds : MR := (⟨"PearlMotherModel", "finds", "(II)I"⟩, prog_10_method_41_code, 3, (some .int))
def M_Rf_partsHeld : MR := (⟨"PearlMotherModel", "partsHeld", "(I)I"⟩, prog_10_method_42_code, 4, (some .int))
def M_Rf_all : MR := (⟨"PearlMotherModel", "all", "(I)I"⟩, prog_10_method_43_code, 6, (some .int))
def M_Rf_begin : MR := (⟨"PearlMotherModel", "begin", "()V"⟩, prog_10_method_44_code, 2, none)
def M_Rf_when : MR := (⟨"PearlMotherModel", "when", "(II)I"⟩, prog_10_method_45_code, 4, (some .int))
def M_Rf_mayBeOne : MR := (⟨"PearlMotherModel", "mayBeOne", "(II)Z"⟩, prog_10_method_46_code, 3, (some .boolean))
def M_Rf_isLaid : MR := (⟨"PearlMotherModel", "isLaid", "(II)Z"⟩, prog_10_method_47_code, 6, (some .boolean))
def M_Rf_mothers : MR := (⟨"PearlMotherModel", "mothers", "()I"⟩, prog_10_method_48_code, 3, (some .int))
def M_Rf_giving : MR := (⟨"PearlMotherModel", "giving", "(Z)I"⟩, prog_10_method_49_code, 8, (some .int))
def M_Rf_longPower : MR := (⟨"PearlMotherModel", "longPower", "(JI)J"⟩, prog_10_method_50_code, 6, (some .long))
def M_Rf_does : MR := (⟨"PearlMotherModel", "does", "(I)Z"⟩, prog_10_method_51_code, 5, (some .boolean))
def M_Rf_judge : MR := (⟨"PearlMotherModel", "judge", "(IJ)I"⟩, prog_10_method_52_code, 5, (some .int))
def M_Rf_ways : MR := (⟨"PearlMotherModel", "ways", "(I)I"⟩, prog_10_method_53_code, 3, (some .int))
def M_Rf_divisor : MR := (⟨"PearlMotherModel", "divisor", "(II)I"⟩, prog_10_method_54_code, 5, (some .int))
def M_Rf_fraction : MR := (⟨"PearlMotherModel", "fraction", "(IIZ)I"⟩, prog_10_method_55_code, 4, (some .int))
def M_Rf_share : MR := (⟨"PearlMotherModel", "share", "(IZ)I"⟩, prog_10_method_56_code, 6, (some .int))
def M_Rf_turn : MR := (⟨"PearlMotherModel", "turn", "(II)I"⟩, prog_10_method_57_code, 3, (some .int))
def M_Rf_unturn : MR := (⟨"PearlMotherModel", "unturn", "()I"⟩, prog_10_method_58_code, 2, (some .int))
def M_Rf_answer : MR := (⟨"PearlMotherModel", "answer", "(II)I"⟩, prog_10_method_59_code, 3, (some .int))
def M_Rf_mayBe : MR := (⟨"PearlMotherModel", "mayBe", "(I)Z"⟩, prog_10_method_60_code, 4, (some .boolean))
def M_Rf_may : MR := (⟨"PearlMotherModel", "may", "(I)I"⟩, prog_10_method_61_code, 4, (some .int))
def M_Rf_greatest : MR := (⟨"PearlMotherModel", "greatest", "(I)I"⟩, prog_10_method_62_code, 5, (some .int))
def M_Rf_next : MR := (⟨"PearlMotherModel", "next", "()I"⟩, prog_10_method_63_code, 5, (some .int))
def M_Rf_rests : MR := (⟨"PearlMotherModel", "rests", "(IIII)I"⟩, prog_10_method_64_code, 7, (some .int))
def M_Rf_glints : MR := (⟨"PearlMotherModel", "glints", "(IIIIZ)I"⟩, prog_10_method_65_code, 10, (some .int))
def M_Rf_seed : MR := (⟨"PearlMotherModel", "seed", "(J)J"⟩, prog_10_method_66_code, 5, (some .long))
def M_Rf_years : MR := (⟨"PearlMotherModel", "years", "(I)I"⟩, prog_10_method_67_code, 5, (some .int))
def M_Rf_keep : MR := (⟨"PearlMotherModel", "keep", "(I)I"⟩, prog_10_method_68_code, 3, (some .int))
def M_Rf_again : MR := (⟨"PearlMotherModel", "again", "(I)I"⟩, prog_10_method_69_code, 3, (some .int))
def M_Ac_init : MR := (⟨"PearlMother$Acts", "<init>", "()V"⟩, prog_2_method_1_code, 1, none)
def M_Ac_add : MR := (⟨"PearlMother$Acts", "add", "(III)V"⟩, prog_2_method_2_code, 4, none)
def M_Ac_removeLast : MR := (⟨"PearlMother$Acts", "removeLast", "()I"⟩, prog_2_method_3_code, 1, (some .int))
def M_Co_init : MR := (⟨"PearlMother$Coast", "<init>", "()V"⟩, prog_3_method_1_code, 1, none)
def M_Co_hasHolder : MR := (⟨"PearlMother$Coast", "hasHolder", "(I)Z"⟩, prog_3_method_2_code, 2, (some .boolean))
def M_Co_hasPiece : MR := (⟨"PearlMother$Coast", "hasPiece", "(I)Z"⟩, prog_3_method_3_code, 2, (some .boolean))
def M_Co_showsAt : MR := (⟨"PearlMother$Coast", "showsAt", "(III)Z"⟩, prog_3_method_4_code, 4, (some .boolean))
def M_Co_clear : MR := (⟨"PearlMother$Coast", "clear", "()V"⟩, prog_3_method_5_code, 1, none)
def M_Co_take : MR := (⟨"PearlMother$Coast", "take", "(II)I"⟩, prog_3_method_6_code, 4, (some .int))
def M_Co_takeThing : MR := (⟨"PearlMother$Coast", "takeThing", "(I)I"⟩, prog_3_method_7_code, 2, (some .int))
def M_Co_takeFigure : MR := (⟨"PearlMother$Coast", "takeFigure", "([IIII)Z"⟩, prog_3_method_8_code, 4, (some .boolean))
def M_Co_endHolder : MR := (⟨"PearlMother$Coast", "endHolder", "()I"⟩, prog_3_method_9_code, 1, (some .int))
def M_Co_endPiece : MR := (⟨"PearlMother$Coast", "endPiece", "()I"⟩, prog_3_method_10_code, 1, (some .int))
def M_Gi_init : MR := (⟨"PearlMother$Givings", "<init>", "()V"⟩, prog_4_method_1_code, 1, none)
def M_Gi_begin : MR := (⟨"PearlMother$Givings", "begin", "(LPearlMother$Coast;LPearlMother$State;)V"⟩, prog_4_method_2_code, 4, none)
def M_Gi_seersOf : MR := (⟨"PearlMother$Givings", "seersOf", "(LPearlMother$Coast;II)I"⟩, prog_4_method_3_code, 5, (some .int))
def M_Mo_init : MR := (⟨"PearlMother$Mothers", "<init>", "()V"⟩, prog_5_method_1_code, 1, none)
def M_Mo_find : MR := (⟨"PearlMother$Mothers", "find", "(LPearlMother$Coast;)V"⟩, prog_5_method_2_code, 5, none)
def M_Mo_goesWith : MR := (⟨"PearlMother$Mothers", "goesWith", "(LPearlMother$Coast;II)Z"⟩, prog_5_method_3_code, 4, (some .boolean))
def M_Mo_fewestOf : MR := (⟨"PearlMother$Mothers", "fewestOf", "(II)I"⟩, prog_5_method_4_code, 5, (some .int))
def M_St_init : MR := (⟨"PearlMother$State", "<init>", "()V"⟩, prog_6_method_1_code, 1, none)
def M_St_begin : MR := (⟨"PearlMother$State", "begin", "(LPearlMother$Coast;)V"⟩, prog_6_method_2_code, 3, none)
def M_St_copyFrom : MR := (⟨"PearlMother$State", "copyFrom", "(LPearlMother$State;)V"⟩, prog_6_method_3_code, 2, none)
def M_St_angleOf : MR := (⟨"PearlMother$State", "angleOf", "(I)I"⟩, prog_6_method_4_code, 2, (some .int))
def M_St_tiltBy : MR := (⟨"PearlMother$State", "tiltBy", "(II)V"⟩, prog_6_method_5_code, 3, none)
def M_St_giveTo : MR := (⟨"PearlMother$State", "giveTo", "(II)V"⟩, prog_6_method_6_code, 3, none)
def M_St_passHours : MR := (⟨"PearlMother$State", "passHours", "(I)V"⟩, prog_6_method_7_code, 2, none)
def M_Te_init : MR := (⟨"PearlMother$Text", "<init>", "()V"⟩, prog_7_method_1_code, 1, none)
def M_Te_add : MR := (⟨"PearlMother$Text", "add", "(I)Z"⟩, prog_7_method_2_code, 2, (some .boolean))
def M_Te_readInto : MR := (⟨"PearlMother$Text", "readInto", "(LPearlMother$Coast;)I"⟩, prog_7_method_3_code, 4, (some .int))
def M_Tu_init : MR := (⟨"PearlMother$Turned", "<init>", "()V"⟩, prog_8_method_1_code, 1, none)
def M_Tu_add : MR := (⟨"PearlMother$Turned", "add", "(II)Z"⟩, prog_8_method_2_code, 3, (some .boolean))
def M_Tu_answerOf : MR := (⟨"PearlMother$Turned", "answerOf", "(IIII)I"⟩, prog_8_method_3_code, 4, (some .int))
def M_Tu_fits : MR := (⟨"PearlMother$Turned", "fits", "(III)Z"⟩, prog_8_method_4_code, 5, (some .boolean))
def M_Tu_weigh : MR := (⟨"PearlMother$Turned", "weigh", "()V"⟩, prog_8_method_5_code, 4, none)
def M_Tu_tally : MR := (⟨"PearlMother$Turned", "tally", "(III)V"⟩, prog_8_method_6_code, 5, none)
def M_Tu_bestAngle : MR := (⟨"PearlMother$Turned", "bestAngle", "()I"⟩, prog_8_method_7_code, 6, (some .int))
def M_In_bitCount : MR := (⟨"java/lang/Integer", "bitCount", "(I)I"⟩, prog_11_method_49_code, 1, (some .int))
def M_In_numberOfLeadingZeros : MR := (⟨"java/lang/Integer", "numberOfLeadingZeros", "(I)I"⟩, prog_11_method_47_code, 2, (some .int))
def M_Ma_max : MR := (⟨"java/lang/Math", "max", "(II)I"⟩, prog_12_method_65_code, 2, (some .int))
def M_Ma_min : MR := (⟨"java/lang/Math", "min", "(II)I"⟩, prog_12_method_69_code, 2, (some .int))
def M_La_law : MR := (⟨"PearlMotherLaw", "law", "([I)Z"⟩, code, 4, some .boolean)
def NW : List Cond := [Cond.methodLinkNest "PearlMother" 11 ⟨"PearlMother$Text", "<init>", "()V"⟩ "PearlMother", Cond.methodLinkNest "PearlMother" 18 ⟨"PearlMother$Coast", "<init>", "()V"⟩ "PearlMother", Cond.methodLinkNest "PearlMother" 28 ⟨"PearlMother$State", "<init>", "()V"⟩ "PearlMother", Cond.methodLinkNest "PearlMother" 42 ⟨"PearlMother$Acts", "<init>", "()V"⟩ "PearlMother", Cond.methodLinkNest "PearlMother" 49 ⟨"PearlMother$Turned", "<init>", "()V"⟩ "PearlMother", Cond.methodLinkNest "PearlMother" 56 ⟨"PearlMother$Givings", "<init>", "()V"⟩ "PearlMother", Cond.methodLinkNest "PearlMother" 63 ⟨"PearlMother$Mothers", "<init>", "()V"⟩ "PearlMother", Cond.methodLinkNest "PearlMother$Coast" 31 ⟨"PearlMother", "isBelow", "(II)Z"⟩ "PearlMother", Cond.methodLinkNest "PearlMother$State" 35 ⟨"PearlMother", "isBelow", "(II)Z"⟩ "PearlMother", Cond.methodLinkNest "PearlMother$State" 39 ⟨"PearlMother", "byEight", "(I)I"⟩ "PearlMother", Cond.methodLinkNest "PearlMother$Coast" 45 ⟨"PearlMother", "isShown", "(IIIII)Z"⟩ "PearlMother", Cond.methodLinkNest "PearlMother$Mothers" 39 ⟨"PearlMother", "hasBit", "(II)Z"⟩ "PearlMother", Cond.methodLinkNest "PearlMother$Mothers" 49 ⟨"PearlMother", "apart", "(II)I"⟩ "PearlMother", Cond.methodLinkNest "PearlMother$Turned" 25 ⟨"PearlMother", "isShown", "(IIIII)Z"⟩ "PearlMother"]
set_option maxRecDepth 20000 in
theorem nw_in : NW = [62, 77, 122, 149, 163, 191, 226, 307, 353, 354, 369, 498, 499, 579].filterMap (fun i => lw_tbl[i]?) := by decide +kernel
theorem ob_1 : Cond.instanceMethod objectInit ∈ TB := tb_mem 58 (by decide +kernel) (by decide +kernel)
theorem ob_2 : Cond.code objectInit ⟨#[0xb1]⟩ 1 none ∈ TB := tb_mem 59 (by decide +kernel) (by decide +kernel)
theorem cp_1 : Cond.native arraycopyName ∈ TB := tb_mem 422 (by decide +kernel) (by decide +kernel)
theorem cp_2 : Cond.static arraycopyName ∈ TB := tb_mem 421 (by decide +kernel) (by decide +kernel)
theorem cp_3 : Cond.initialized "java/lang/System" ∈ TB := tb_mem 50 (by decide +kernel) (by decide +kernel)
theorem ac_int : Cond.arrayClass (newarray.typeOf .int) ∈ TB := tb_mem 74 (by decide +kernel) (by decide +kernel)
theorem ac_bool : Cond.arrayClass (newarray.typeOf .boolean) ∈ TB := tb_mem 238 (by decide +kernel) (by decide +kernel)
