section
-- ===== PART A: goes FIRST, ahead of the names: the tables' words, and 'selects' of the private methods out of them =====
/-- a private method of a class that the tables say can be made, by its rows of tables_1 -/
def lw_okq (q : MethodName × Nat) : Prop := (q.1.cls ≠ "java/lang/invoke/MethodHandle" ∧ q.1.cls ≠ "java/lang/invoke/VarHandle") ∧ Cond.instantiable q.1.cls q.2 ∈ tables_1 ∧ Cond.privateMethod q.1 ∈ tables_1 ∧ Cond.instanceMethod q.1 ∈ tables_1
theorem lw_p0 : lw_okq (⟨"ReadPass$Tape", "takeWays", "(LReadPass$Road;)Z"⟩, 3) := ⟨⟨by decide +kernel, by decide +kernel⟩, List.mem_of_getElem? (i := 73) (by decide +kernel), List.mem_of_getElem? (i := 319) (by decide +kernel), List.mem_of_getElem? (i := 320) (by decide +kernel)⟩
theorem lw_p1 : lw_okq (⟨"ReadPass$Tape", "take", "(C)Z"⟩, 3) := ⟨⟨by decide +kernel, by decide +kernel⟩, List.mem_of_getElem? (i := 73) (by decide +kernel), List.mem_of_getElem? (i := 323) (by decide +kernel), List.mem_of_getElem? (i := 324) (by decide +kernel)⟩
theorem lw_p2 : lw_okq (⟨"ReadPass$Tape", "sign", "()I"⟩, 3) := ⟨⟨by decide +kernel, by decide +kernel⟩, List.mem_of_getElem? (i := 73) (by decide +kernel), List.mem_of_getElem? (i := 327) (by decide +kernel), List.mem_of_getElem? (i := 328) (by decide +kernel)⟩
theorem lw_p3 : lw_okq (⟨"ReadPass$Tape", "takeWay", "(LReadPass$Road;)Z"⟩, 3) := ⟨⟨by decide +kernel, by decide +kernel⟩, List.mem_of_getElem? (i := 73) (by decide +kernel), List.mem_of_getElem? (i := 331) (by decide +kernel), List.mem_of_getElem? (i := 332) (by decide +kernel)⟩
theorem lw_p4 : lw_okq (⟨"ReadPass$Tape", "digit", "()I"⟩, 3) := ⟨⟨by decide +kernel, by decide +kernel⟩, List.mem_of_getElem? (i := 73) (by decide +kernel), List.mem_of_getElem? (i := 335) (by decide +kernel), List.mem_of_getElem? (i := 336) (by decide +kernel)⟩
theorem lw_p5 : lw_okq (⟨"ReadPass$Tape", "takeStones", "(LReadPass$Road;)Z"⟩, 3) := ⟨⟨by decide +kernel, by decide +kernel⟩, List.mem_of_getElem? (i := 73) (by decide +kernel), List.mem_of_getElem? (i := 343) (by decide +kernel), List.mem_of_getElem? (i := 344) (by decide +kernel)⟩
theorem lw_p6 : lw_okq (⟨"ReadPass$Tape", "takeStone", "(LReadPass$Road;)Z"⟩, 3) := ⟨⟨by decide +kernel, by decide +kernel⟩, List.mem_of_getElem? (i := 73) (by decide +kernel), List.mem_of_getElem? (i := 347) (by decide +kernel), List.mem_of_getElem? (i := 348) (by decide +kernel)⟩
theorem lw_p7 : lw_okq (⟨"ReadPass", "travel", "(III)V"⟩, 8) := ⟨⟨by decide +kernel, by decide +kernel⟩, List.mem_of_getElem? (i := 13) (by decide +kernel), List.mem_of_getElem? (i := 386) (by decide +kernel), List.mem_of_getElem? (i := 387) (by decide +kernel)⟩
theorem lw_p8 : lw_okq (⟨"ReadPass$Journey", "look", "(LReadPass$Road;)V"⟩, 10) := ⟨⟨by decide +kernel, by decide +kernel⟩, List.mem_of_getElem? (i := 91) (by decide +kernel), List.mem_of_getElem? (i := 398) (by decide +kernel), List.mem_of_getElem? (i := 399) (by decide +kernel)⟩
theorem lw_p9 : lw_okq (⟨"ReadPass$Journey", "believe", "(LReadPass$Road;II)V"⟩, 10) := ⟨⟨by decide +kernel, by decide +kernel⟩, List.mem_of_getElem? (i := 91) (by decide +kernel), List.mem_of_getElem? (i := 423) (by decide +kernel), List.mem_of_getElem? (i := 424) (by decide +kernel)⟩
theorem lw_p10 : lw_okq (⟨"ReadPass$Journey", "heed", "(LReadPass$Road;I)V"⟩, 10) := ⟨⟨by decide +kernel, by decide +kernel⟩, List.mem_of_getElem? (i := 91) (by decide +kernel), List.mem_of_getElem? (i := 432) (by decide +kernel), List.mem_of_getElem? (i := 433) (by decide +kernel)⟩
theorem lw_p11 : lw_okq (⟨"ReadPass", "struckOfSize", "(IIZI)I"⟩, 8) := ⟨⟨by decide +kernel, by decide +kernel⟩, List.mem_of_getElem? (i := 13) (by decide +kernel), List.mem_of_getElem? (i := 463) (by decide +kernel), List.mem_of_getElem? (i := 464) (by decide +kernel)⟩
theorem lw_p12 : lw_okq (⟨"ReadPass", "leaves", "(IIILReadPass$Sheet;II)Z"⟩, 8) := ⟨⟨by decide +kernel, by decide +kernel⟩, List.mem_of_getElem? (i := 13) (by decide +kernel), List.mem_of_getElem? (i := 494) (by decide +kernel), List.mem_of_getElem? (i := 495) (by decide +kernel)⟩
theorem lw_p13 : lw_okq (⟨"ReadPass", "layTrail", "(III)I"⟩, 8) := ⟨⟨by decide +kernel, by decide +kernel⟩, List.mem_of_getElem? (i := 13) (by decide +kernel), List.mem_of_getElem? (i := 508) (by decide +kernel), List.mem_of_getElem? (i := 509) (by decide +kernel)⟩
theorem lw_p14 : lw_okq (⟨"ReadPassModel", "between", "(II)I"⟩, 28) := ⟨⟨by decide +kernel, by decide +kernel⟩, List.mem_of_getElem? (i := 543) (by decide +kernel), List.mem_of_getElem? (i := 646) (by decide +kernel), List.mem_of_getElem? (i := 647) (by decide +kernel)⟩
theorem lw_p15 : lw_okq (⟨"ReadPassModel", "isWay", "(I)Z"⟩, 28) := ⟨⟨by decide +kernel, by decide +kernel⟩, List.mem_of_getElem? (i := 543) (by decide +kernel), List.mem_of_getElem? (i := 657) (by decide +kernel), List.mem_of_getElem? (i := 658) (by decide +kernel)⟩
def lw_privs_1 : List (MethodName × Nat) := [(⟨"ReadPass$Tape", "takeWays", "(LReadPass$Road;)Z"⟩, 3), (⟨"ReadPass$Tape", "take", "(C)Z"⟩, 3), (⟨"ReadPass$Tape", "sign", "()I"⟩, 3), (⟨"ReadPass$Tape", "takeWay", "(LReadPass$Road;)Z"⟩, 3), (⟨"ReadPass$Tape", "digit", "()I"⟩, 3), (⟨"ReadPass$Tape", "takeStones", "(LReadPass$Road;)Z"⟩, 3), (⟨"ReadPass$Tape", "takeStone", "(LReadPass$Road;)Z"⟩, 3), (⟨"ReadPass", "travel", "(III)V"⟩, 8), (⟨"ReadPass$Journey", "look", "(LReadPass$Road;)V"⟩, 10), (⟨"ReadPass$Journey", "believe", "(LReadPass$Road;II)V"⟩, 10), (⟨"ReadPass$Journey", "heed", "(LReadPass$Road;I)V"⟩, 10), (⟨"ReadPass", "struckOfSize", "(IIZI)I"⟩, 8), (⟨"ReadPass", "leaves", "(IIILReadPass$Sheet;II)Z"⟩, 8), (⟨"ReadPass", "layTrail", "(III)I"⟩, 8), (⟨"ReadPassModel", "between", "(II)I"⟩, 28), (⟨"ReadPassModel", "isWay", "(I)Z"⟩, 28)]
theorem lw_r1 : ∀ q ∈ lw_privs_1, lw_okq q := List.forall_mem_cons.mpr ⟨lw_p0, List.forall_mem_cons.mpr ⟨lw_p1, List.forall_mem_cons.mpr ⟨lw_p2, List.forall_mem_cons.mpr ⟨lw_p3, List.forall_mem_cons.mpr ⟨lw_p4, List.forall_mem_cons.mpr ⟨lw_p5, List.forall_mem_cons.mpr ⟨lw_p6, List.forall_mem_cons.mpr ⟨lw_p7, List.forall_mem_cons.mpr ⟨lw_p8, List.forall_mem_cons.mpr ⟨lw_p9, List.forall_mem_cons.mpr ⟨lw_p10, List.forall_mem_cons.mpr ⟨lw_p11, List.forall_mem_cons.mpr ⟨lw_p12, List.forall_mem_cons.mpr ⟨lw_p13, List.forall_mem_cons.mpr ⟨lw_p14, List.forall_mem_cons.mpr ⟨lw_p15, fun _ h => absurd h List.not_mem_nil⟩⟩⟩⟩⟩⟩⟩⟩⟩⟩⟩⟩⟩⟩⟩⟩
theorem lw_p16 : lw_okq (⟨"ReadPassModel", "isPass", "()Z"⟩, 28) := ⟨⟨by decide +kernel, by decide +kernel⟩, List.mem_of_getElem? (i := 543) (by decide +kernel), List.mem_of_getElem? (i := 697) (by decide +kernel), List.mem_of_getElem? (i := 698) (by decide +kernel)⟩
theorem lw_p17 : lw_okq (⟨"ReadPassModel", "takesWay", "()Z"⟩, 28) := ⟨⟨by decide +kernel, by decide +kernel⟩, List.mem_of_getElem? (i := 543) (by decide +kernel), List.mem_of_getElem? (i := 701) (by decide +kernel), List.mem_of_getElem? (i := 702) (by decide +kernel)⟩
theorem lw_p18 : lw_okq (⟨"ReadPassModel", "ahead", "()I"⟩, 28) := ⟨⟨by decide +kernel, by decide +kernel⟩, List.mem_of_getElem? (i := 543) (by decide +kernel), List.mem_of_getElem? (i := 705) (by decide +kernel), List.mem_of_getElem? (i := 706) (by decide +kernel)⟩
theorem lw_p19 : lw_okq (⟨"ReadPassModel", "isRead", "(II)Z"⟩, 28) := ⟨⟨by decide +kernel, by decide +kernel⟩, List.mem_of_getElem? (i := 543) (by decide +kernel), List.mem_of_getElem? (i := 709) (by decide +kernel), List.mem_of_getElem? (i := 710) (by decide +kernel)⟩
theorem lw_p20 : lw_okq (⟨"ReadPassModel", "takesStone", "()Z"⟩, 28) := ⟨⟨by decide +kernel, by decide +kernel⟩, List.mem_of_getElem? (i := 543) (by decide +kernel), List.mem_of_getElem? (i := 713) (by decide +kernel), List.mem_of_getElem? (i := 714) (by decide +kernel)⟩
theorem lw_p21 : lw_okq (⟨"ReadPassModel", "tells", "(III)I"⟩, 28) := ⟨⟨by decide +kernel, by decide +kernel⟩, List.mem_of_getElem? (i := 543) (by decide +kernel), List.mem_of_getElem? (i := 725) (by decide +kernel), List.mem_of_getElem? (i := 726) (by decide +kernel)⟩
theorem lw_p22 : lw_okq (⟨"ReadPassModel", "goNow", "(II)V"⟩, 28) := ⟨⟨by decide +kernel, by decide +kernel⟩, List.mem_of_getElem? (i := 543) (by decide +kernel), List.mem_of_getElem? (i := 737) (by decide +kernel), List.mem_of_getElem? (i := 738) (by decide +kernel)⟩
theorem lw_p23 : lw_okq (⟨"ReadPassModel", "layWays", "()V"⟩, 28) := ⟨⟨by decide +kernel, by decide +kernel⟩, List.mem_of_getElem? (i := 543) (by decide +kernel), List.mem_of_getElem? (i := 741) (by decide +kernel), List.mem_of_getElem? (i := 742) (by decide +kernel)⟩
theorem lw_p24 : lw_okq (⟨"ReadPassModel", "go", "(IIII)V"⟩, 28) := ⟨⟨by decide +kernel, by decide +kernel⟩, List.mem_of_getElem? (i := 543) (by decide +kernel), List.mem_of_getElem? (i := 745) (by decide +kernel), List.mem_of_getElem? (i := 746) (by decide +kernel)⟩
theorem lw_p25 : lw_okq (⟨"ReadPassModel", "layHomes", "(I)V"⟩, 28) := ⟨⟨by decide +kernel, by decide +kernel⟩, List.mem_of_getElem? (i := 543) (by decide +kernel), List.mem_of_getElem? (i := 749) (by decide +kernel), List.mem_of_getElem? (i := 750) (by decide +kernel)⟩
theorem lw_p26 : lw_okq (⟨"ReadPassModel", "choose", "(II)I"⟩, 28) := ⟨⟨by decide +kernel, by decide +kernel⟩, List.mem_of_getElem? (i := 543) (by decide +kernel), List.mem_of_getElem? (i := 753) (by decide +kernel), List.mem_of_getElem? (i := 754) (by decide +kernel)⟩
theorem lw_p27 : lw_okq (⟨"ReadPassModel", "reads", "(IIIII)I"⟩, 28) := ⟨⟨by decide +kernel, by decide +kernel⟩, List.mem_of_getElem? (i := 543) (by decide +kernel), List.mem_of_getElem? (i := 757) (by decide +kernel), List.mem_of_getElem? (i := 758) (by decide +kernel)⟩
theorem lw_p28 : lw_okq (⟨"ReadPassModel", "layNeeds", "()V"⟩, 28) := ⟨⟨by decide +kernel, by decide +kernel⟩, List.mem_of_getElem? (i := 543) (by decide +kernel), List.mem_of_getElem? (i := 774) (by decide +kernel), List.mem_of_getElem? (i := 775) (by decide +kernel)⟩
theorem lw_p29 : lw_okq (⟨"ReadPassModel", "layThrees", "()V"⟩, 28) := ⟨⟨by decide +kernel, by decide +kernel⟩, List.mem_of_getElem? (i := 543) (by decide +kernel), List.mem_of_getElem? (i := 778) (by decide +kernel), List.mem_of_getElem? (i := 779) (by decide +kernel)⟩
theorem lw_p30 : lw_okq (⟨"ReadPassModel", "needBy", "(III)I"⟩, 28) := ⟨⟨by decide +kernel, by decide +kernel⟩, List.mem_of_getElem? (i := 543) (by decide +kernel), List.mem_of_getElem? (i := 782) (by decide +kernel), List.mem_of_getElem? (i := 783) (by decide +kernel)⟩
theorem lw_p31 : lw_okq (⟨"ReadPassModel", "knows", "(II)I"⟩, 28) := ⟨⟨by decide +kernel, by decide +kernel⟩, List.mem_of_getElem? (i := 543) (by decide +kernel), List.mem_of_getElem? (i := 786) (by decide +kernel), List.mem_of_getElem? (i := 787) (by decide +kernel)⟩
def lw_privs_2 : List (MethodName × Nat) := [(⟨"ReadPassModel", "isPass", "()Z"⟩, 28), (⟨"ReadPassModel", "takesWay", "()Z"⟩, 28), (⟨"ReadPassModel", "ahead", "()I"⟩, 28), (⟨"ReadPassModel", "isRead", "(II)Z"⟩, 28), (⟨"ReadPassModel", "takesStone", "()Z"⟩, 28), (⟨"ReadPassModel", "tells", "(III)I"⟩, 28), (⟨"ReadPassModel", "goNow", "(II)V"⟩, 28), (⟨"ReadPassModel", "layWays", "()V"⟩, 28), (⟨"ReadPassModel", "go", "(IIII)V"⟩, 28), (⟨"ReadPassModel", "layHomes", "(I)V"⟩, 28), (⟨"ReadPassModel", "choose", "(II)I"⟩, 28), (⟨"ReadPassModel", "reads", "(IIIII)I"⟩, 28), (⟨"ReadPassModel", "layNeeds", "()V"⟩, 28), (⟨"ReadPassModel", "layThrees", "()V"⟩, 28), (⟨"ReadPassModel", "needBy", "(III)I"⟩, 28), (⟨"ReadPassModel", "knows", "(II)I"⟩, 28)]
theorem lw_r2 : ∀ q ∈ lw_privs_2, lw_okq q := List.forall_mem_cons.mpr ⟨lw_p16, List.forall_mem_cons.mpr ⟨lw_p17, List.forall_mem_cons.mpr ⟨lw_p18, List.forall_mem_cons.mpr ⟨lw_p19, List.forall_mem_cons.mpr ⟨lw_p20, List.forall_mem_cons.mpr ⟨lw_p21, List.forall_mem_cons.mpr ⟨lw_p22, List.forall_mem_cons.mpr ⟨lw_p23, List.forall_mem_cons.mpr ⟨lw_p24, List.forall_mem_cons.mpr ⟨lw_p25, List.forall_mem_cons.mpr ⟨lw_p26, List.forall_mem_cons.mpr ⟨lw_p27, List.forall_mem_cons.mpr ⟨lw_p28, List.forall_mem_cons.mpr ⟨lw_p29, List.forall_mem_cons.mpr ⟨lw_p30, List.forall_mem_cons.mpr ⟨lw_p31, fun _ h => absurd h List.not_mem_nil⟩⟩⟩⟩⟩⟩⟩⟩⟩⟩⟩⟩⟩⟩⟩⟩
theorem lw_p32 : lw_okq (⟨"ReadPassModel", "come", "(II)I"⟩, 28) := ⟨⟨by decide +kernel, by decide +kernel⟩, List.mem_of_getElem? (i := 543) (by decide +kernel), List.mem_of_getElem? (i := 790) (by decide +kernel), List.mem_of_getElem? (i := 791) (by decide +kernel)⟩
theorem lw_p33 : lw_okq (⟨"ReadPassModel", "bars", "(IIII)I"⟩, 28) := ⟨⟨by decide +kernel, by decide +kernel⟩, List.mem_of_getElem? (i := 543) (by decide +kernel), List.mem_of_getElem? (i := 821) (by decide +kernel), List.mem_of_getElem? (i := 822) (by decide +kernel)⟩
def lw_privs_3 : List (MethodName × Nat) := [(⟨"ReadPassModel", "come", "(II)I"⟩, 28), (⟨"ReadPassModel", "bars", "(IIII)I"⟩, 28)]
theorem lw_r3 : ∀ q ∈ lw_privs_3, lw_okq q := List.forall_mem_cons.mpr ⟨lw_p32, List.forall_mem_cons.mpr ⟨lw_p33, fun _ h => absurd h List.not_mem_nil⟩⟩
def lw_privs : List (MethodName × Nat) := lw_privs_1 ++ (lw_privs_2 ++ (lw_privs_3))
def lw_tbl : List Cond := k2_sels lw_privs ++ tables_1
theorem lw_privs_ok : ∀ q ∈ lw_privs, lw_okq q := by
  show ∀ q ∈ lw_privs_1 ++ (lw_privs_2 ++ (lw_privs_3)), lw_okq q
  exact List.forall_mem_append.mpr ⟨lw_r1, List.forall_mem_append.mpr ⟨lw_r2, lw_r3⟩⟩
end
section
/-! THE SMALL MACHINE, words of it: ints and longs of the world as two functions of (cell, place); what refers to what never changes, and stands in a list of shapes -/
abbrev am_I : Type := Nat → Nat → Int32
abbrev am_J : Type := Nat → Nat → Int64
abbrev am_Lv : Type := List (Option Value)
abbrev am_C : Type := (Nat × List Nat) ⊕ (Nat × Nat × List Nat)
abbrev am_Po : Type := Option Value → am_I → am_J → Prop
abbrev am_Sp : Type := List Value → am_I → am_J → am_Po → Prop
abbrev am_G : Type := Nat → am_Lv → List Value → am_I → am_J → Prop
abbrev am_E : Type := Nat × Instr × Nat × Nat × Nat × Int32 × Int64 × List Nat
/-- the tables' words that a call may hand on -/
def am_U : List Cond := lw_tbl.filter goodWord
theorem am_inU {w : Cond} (i : Nat) (h : lw_tbl[i]? = some w) (hg : goodWord w = true) : w ∈ am_U := List.mem_filter.mpr ⟨List.mem_of_getElem? h, hg⟩
theorem am_Utbl {w : Cond} (h : w ∈ am_U) : w ∈ lw_tbl := (List.mem_filter.mp h).1
theorem am_goodU {ws : List Cond} (h : ∀ w ∈ ws, w ∈ am_U) : GoodIn am_U ws := fun w hw => ⟨h w hw, good_of_word (List.mem_filter.mp (h w hw)).2⟩
def am_val (ad : Nat → Nat) : Value → Value
  | .ref a => .ref (ad a)
  | v => v
theorem am_val_cat (ad : Nat → Nat) (v : Value) : (am_val ad v).category = v.category := by cases v <;> rfl
def am_fv (ad : Nat → Nat) (I : am_I) (L : am_J) (o k : Nat) : Nat → Value
  | 0 => .int (I o k)
  | 1 => .long (L o k)
  | 2 => .int (I o k)
  | n + 3 => .ref (ad n)
def am_fs (ad : Nat → Nat) (I : am_I) (L : am_J) (o : Nat) : Nat → List Nat → List Value
  | _, [] => []
  | k, c :: cs => am_fv ad I L o k c :: am_fs ad I L o (k + 1) cs
def am_cell (ad : Nat → Nat) (ca : Nat → ClassId) (I : am_I) (L : am_J) (o : Nat) : am_C → va_E
  | .inl (ci, fs) => .inr (ci, am_fs ad I L o 0 fs)
  | .inr (0, n, _) => .inl (ca 0, n, .inl (I o))
  | .inr (1, n, _) => .inl (ca 1, n, .inr (.inl (L o)))
  | .inr (2, n, _) => .inl (ca 2, n, .inl (I o))
  | .inr (_ + 3, n, rs) => .inl (ca 3, n, .inr (.inr (.inr (.inr (fun j => (rs[j]?).map ad)))))
def am_ty (ca : Nat → ClassId) : List (ClassId × FieldType) := [(ca 0, .int), (ca 1, .long), (ca 2, .byte), (ca 3, .object "ReadPass$Sheet")]
def am_w (S : List am_C) (ad : Nat → Nat) (ca : Nat → ClassId) (I : am_I) (L : am_J) : va_W := S.mapIdx (fun k c => (ad k, am_cell ad ca I L k c))
def am_ui (I : am_I) (o k : Nat) (x : Int32) : am_I := fun a b => if a = o ∧ b = k then x else I a b
def am_uj (L : am_J) (o k : Nat) (x : Int64) : am_J := fun a b => if a = o ∧ b = k then x else L a b
def am_cpi (I : am_I) (src dst sp dp n : Nat) : am_I := fun a b => if a = dst ∧ (dp ≤ b ∧ b < dp + n) then I src (sp + (b - dp)) else I a b
def am_cpj (L : am_J) (src dst sp dp n : Nat) : am_J := fun a b => if a = dst ∧ (dp ≤ b ∧ b < dp + n) then L src (sp + (b - dp)) else L a b
theorem am_w_get {S : List am_C} {ad : Nat → Nat} {ca : Nat → ClassId} {I : am_I} {L : am_J} {o : Nat} {c : am_C} (h : S[o]? = some c) : (am_w S ad ca I L)[o]? = some (ad o, am_cell ad ca I L o c) := by
  unfold am_w
  rw [List.getElem?_mapIdx, h]
  rfl
theorem am_fs_get {ad : Nat → Nat} {I : am_I} {L : am_J} {o : Nat} : ∀ {fs : List Nat} {i k c : Nat}, fs[k]? = some c → (am_fs ad I L o i fs)[k]? = some (am_fv ad I L o (i + k) c) := by
  intro fs
  induction fs with
  | nil => intro i k c h; simp at h
  | cons x fs ih =>
    intro i k c h
    cases k with
    | zero =>
      simp only [List.getElem?_cons_zero, Option.some.injEq] at h
      subst h
      rfl
    | succ k =>
      rw [List.getElem?_cons_succ] at h
      have h2 := ih (i := i + 1) h
      rw [show i + 1 + k = i + (k + 1) by omega] at h2
      rw [← h2]
      rfl
theorem am_fs_len {ad : Nat → Nat} {I : am_I} {L : am_J} {o : Nat} : ∀ (fs : List Nat) (i : Nat), (am_fs ad I L o i fs).length = fs.length := by
  intro fs
  induction fs with
  | nil => intro i; rfl
  | cons x fs ih => intro i; show (am_fs ad I L o (i + 1) fs).length + 1 = fs.length + 1; rw [ih]
theorem am_fv_congr {ad : Nat → Nat} {I I' : am_I} {L L' : am_J} {o k : Nat} (h1 : I' o k = I o k) (h2 : L' o k = L o k) (c : Nat) : am_fv ad I' L' o k c = am_fv ad I L o k c := by
  match c with
  | 0 => simp [am_fv, h1]
  | 1 => simp [am_fv, h2]
  | 2 => simp [am_fv, h1]
  | n + 3 => rfl
theorem am_fs_congr {ad : Nat → Nat} {I I' : am_I} {L L' : am_J} {o : Nat} : ∀ (fs : List Nat) (i : Nat), (∀ j, i ≤ j → I' o j = I o j ∧ L' o j = L o j) → am_fs ad I' L' o i fs = am_fs ad I L o i fs := by
  intro fs
  induction fs with
  | nil => intro i _; rfl
  | cons x fs ih =>
    intro i h
    show am_fv ad I' L' o i x :: am_fs ad I' L' o (i + 1) fs = _
    rw [ih (i + 1) (fun j hj => h j (by omega)), am_fv_congr (h i (Nat.le_refl i)).1 (h i (Nat.le_refl i)).2]
    rfl
theorem am_fs_set {ad : Nat → Nat} {I I' : am_I} {L L' : am_J} {o : Nat} : ∀ (fs : List Nat) (i k c : Nat), fs[k]? = some c → (∀ j, j ≠ i + k → I' o j = I o j ∧ L' o j = L o j) → (am_fs ad I L o i fs).set k (am_fv ad I' L' o (i + k) c) = am_fs ad I' L' o i fs := by
  intro fs
  induction fs with
  | nil => intro i k c h _; simp at h
  | cons x fs ih =>
    intro i k c h hj
    cases k with
    | zero =>
      simp only [List.getElem?_cons_zero, Option.some.injEq] at h
      subst h
      show am_fv ad I' L' o i x :: am_fs ad I L o (i + 1) fs = am_fv ad I' L' o i x :: am_fs ad I' L' o (i + 1) fs
      rw [am_fs_congr fs (i + 1) (fun j h => hj j (by omega))]
    | succ k =>
      rw [List.getElem?_cons_succ] at h
      have h2 := ih (i + 1) k c h (fun j h => hj j (by omega))
      rw [show i + 1 + k = i + (k + 1) by omega] at h2
      show am_fv ad I L o i x :: (am_fs ad I L o (i + 1) fs).set k (am_fv ad I' L' o (i + (k + 1)) c) = am_fv ad I' L' o i x :: am_fs ad I' L' o (i + 1) fs
      rw [h2, am_fv_congr (hj i (by omega)).1 (hj i (by omega)).2]
theorem am_cell_congr {ad : Nat → Nat} {ca : Nat → ClassId} {I I' : am_I} {L L' : am_J} {o : Nat} (h1 : I' o = I o) (h2 : L' o = L o) (c : am_C) : am_cell ad ca I' L' o c = am_cell ad ca I L o c := by
  match c with
  | .inl (ci, fs) =>
    show Sum.inr (ci, am_fs ad I' L' o 0 fs) = Sum.inr (ci, am_fs ad I L o 0 fs)
    rw [am_fs_congr fs 0 (fun j _ => ⟨by rw [h1], by rw [h2]⟩)]
  | .inr (0, n, rs) => simp [am_cell, h1]
  | .inr (1, n, rs) => simp [am_cell, h2]
  | .inr (2, n, rs) => simp [am_cell, h1]
  | .inr (k + 3, n, rs) => rfl
theorem am_w_set {S : List am_C} {ad : Nat → Nat} {ca : Nat → ClassId} {I I' : am_I} {L L' : am_J} {o : Nat} {c : am_C} (h : S[o]? = some c) (hI : ∀ a, a ≠ o → I' a = I a ∧ L' a = L a) : (am_w S ad ca I L).set o (ad o, am_cell ad ca I' L' o c) = am_w S ad ca I' L' := by
  apply List.ext_getElem?
  intro k
  by_cases hk : k = o
  · subst hk
    rw [am_w_get h, List.getElem?_set_self]
    have := am_w_get (ad := ad) (ca := ca) (I := I) (L := L) h
    exact (List.getElem?_eq_some_iff.mp this).1
  · rw [List.getElem?_set_ne (Ne.symm hk)]
    unfold am_w
    rw [List.getElem?_mapIdx, List.getElem?_mapIdx]
    cases S[k]? with
    | none => rfl
    | some c2 =>
      show some (ad k, am_cell ad ca I L k c2) = some (ad k, am_cell ad ca I' L' k c2)
      rw [am_cell_congr (hI k hk).1 (hI k hk).2]
theorem am_D {S : List am_C} {ad : Nat → Nat} {ca : Nat → ClassId} {I I' : am_I} {L L' : am_J} {A : Nat → Prop} (h : va_D A (am_w S ad ca I L)) : va_D A (am_w S ad ca I' L') := by
  have key : ∀ (k : Nat) (q : Nat × va_E), (am_w S ad ca I' L')[k]? = some q → ∃ e, (am_w S ad ca I L)[k]? = some (q.1, e) := by
    intro k q hq
    unfold am_w at hq ⊢
    rw [List.getElem?_mapIdx] at hq ⊢
    cases hs : S[k]? with
    | none => rw [hs] at hq; cases hq
    | some c =>
      rw [hs] at hq
      cases hq
      exact ⟨_, rfl⟩
  refine ⟨fun i j p q hi hj hpq => ?_, fun k q hk => ?_⟩
  · obtain ⟨e1, h1⟩ := key i p hi
    obtain ⟨e2, h2⟩ := key j q hj
    exact h.1 i j _ _ h1 h2 hpq
  · obtain ⟨e1, h1⟩ := key k q hk
    exact h.2 k (q.1, e1) h1
/-! the locals -/
def am_lc (ad : Nat → Nat) : Nat → am_Lv → List (Nat × Value)
  | _, [] => []
  | k, some v :: t => (k, am_val ad v) :: am_lc ad (k + 1) t
  | k, none :: t => am_lc ad (k + 1) t
theorem am_lc_mem {ad : Nat → Nat} : ∀ (ls : am_Lv) (k : Nat) (q : Nat × Value), q ∈ am_lc ad k ls ↔ ∃ (j : Nat) (v : Value), ls[j]? = some (some v) ∧ q = (k + j, am_val ad v) := by
  intro ls
  induction ls with
  | nil => intro k q; simp [am_lc]
  | cons x ls ih =>
    intro k q
    have key : (∃ (j : Nat) (v : Value), (x :: ls)[j]? = some (some v) ∧ q = (k + j, am_val ad v)) ↔ ((∃ v, x = some v ∧ q = (k, am_val ad v)) ∨ ∃ (j : Nat) (v : Value), ls[j]? = some (some v) ∧ q = (k + 1 + j, am_val ad v)) := by
      constructor
      · rintro ⟨j, v, h1, h2⟩
        cases j with
        | zero => exact Or.inl ⟨v, by simpa using h1, h2⟩
        | succ j => exact Or.inr ⟨j, v, by simpa using h1, by rw [h2, show k + (j + 1) = k + 1 + j by omega]⟩
      · rintro (⟨v, h1, h2⟩ | ⟨j, v, h1, h2⟩)
        · exact ⟨0, v, by simp [h1], h2⟩
        · exact ⟨j + 1, v, by simpa using h1, by rw [h2, show k + (j + 1) = k + 1 + j by omega]⟩
    rw [key, ← ih (k + 1) q]
    cases x with
    | none => simp [am_lc]
    | some v => simp [am_lc]
theorem am_lv_sub {ad : Nat → Nat} {a : Array Slot} {n : Nat} {ls ls2 : am_Lv} (h : lv_has a n (am_lc ad 0 ls)) (hs : ∀ (j : Nat) (v : Value), ls2[j]? = some (some v) → ls[j]? = some (some v)) : lv_has a n (am_lc ad 0 ls2) := by
  refine ⟨h.1, h.2.1, fun q hq => ?_⟩
  obtain ⟨j, v, h1, rfl⟩ := (am_lc_mem ls2 0 q).mp hq
  exact h.2.2 _ ((am_lc_mem ls 0 _).mpr ⟨j, v, hs j v h1, rfl⟩)
theorem am_lv_at {ad : Nat → Nat} {a : Array Slot} {n : Nat} {ls : am_Lv} (h : lv_has a n (am_lc ad 0 ls)) {j : Nat} {v : Value} (hv : ls[j]? = some (some v)) : a[j]? = some (.val (am_val ad v)) := by
  have h1 := h.2.2 (0 + j, am_val ad v) ((am_lc_mem ls 0 _).mpr ⟨j, v, hv, rfl⟩)
  rw [show 0 + j = j by omega] at h1
  exact h1
def am_gl : am_Lv → Nat → (Value → Prop) → Prop
  | [], _, _ => False
  | none :: _, 0, _ => False
  | some v :: _, 0, f => f v
  | _ :: t, n + 1, f => am_gl t n f
theorem am_gl_ok : ∀ {ls : am_Lv} {n : Nat} {f : Value → Prop}, am_gl ls n f → ∃ v, ls[n]? = some (some v) ∧ f v := by
  intro ls
  induction ls with
  | nil => intro n f h; exact h.elim
  | cons x ls ih =>
    intro n f h
    cases n with
    | zero =>
      cases x with
      | none => exact h.elim
      | some v => exact ⟨v, rfl, h⟩
    | succ n =>
      have h' : am_gl ls n f := by cases x <;> exact h
      obtain ⟨v, h1, h2⟩ := ih h'
      exact ⟨v, by simpa using h1, h2⟩
def am_s1 : Nat → Value → am_Lv → (am_Lv → Prop) → Prop
  | 0, v, _ :: t, f => f (some v :: t)
  | 1, v, x :: _ :: t, f => (match x with
    | some (.long _) => f (none :: some v :: t)
    | some (.double _) => f (none :: some v :: t)
    | y => f (y :: some v :: t))
  | n + 2, v, x :: t, f => am_s1 (n + 1) v t (fun t' => f (x :: t'))
  | _, _, _, _ => False
def am_s2 : Nat → Value → am_Lv → (am_Lv → Prop) → Prop
  | 0, v, _ :: _ :: t, f => f (some v :: none :: t)
  | 1, v, x :: _ :: _ :: t, f => (match x with
    | some (.long _) => f (none :: some v :: none :: t)
    | some (.double _) => f (none :: some v :: none :: t)
    | y => f (y :: some v :: none :: t))
  | n + 2, v, x :: t, f => am_s2 (n + 1) v t (fun t' => f (x :: t'))
  | _, _, _, _ => False
theorem am_s1_ok : ∀ (ls : am_Lv) (i : Nat) (v : Value) (f : am_Lv → Prop), am_s1 i v ls f → ∃ ls2, f ls2 ∧ ls2.length = ls.length ∧ i < ls.length ∧ ∀ j u, ls2[j]? = some (some u) → (j = i ∧ u = v) ∨ (ls[j]? = some (some u) ∧ j ≠ i ∧ ¬ (j + 1 = i ∧ u.category = 2)) := by
  intro ls
  induction ls with
  | nil => intro i v f h; match i, h with
    | 0, h => exact h.elim
    | 1, h => exact h.elim
    | n + 2, h => exact h.elim
  | cons x ls ih =>
    intro i v f h
    match i, h with
    | 0, h =>
      refine ⟨_, h, rfl, by simp, fun j u hj => ?_⟩
      cases j with
      | zero => left; simp at hj; exact ⟨rfl, hj.symm⟩
      | succ j => right; exact ⟨by simpa using hj, by omega, by omega⟩
    | 1, h =>
      cases ls with
      | nil => exact h.elim
      | cons y t =>
        have key : ∀ x', (x' = none ∨ (x' = x ∧ ∀ u, x = some u → u.category ≠ 2)) → ∀ (j : Nat) (u : Value), (x' :: some v :: t)[j]? = some (some u) → (j = 1 ∧ u = v) ∨ ((x :: y :: t)[j]? = some (some u) ∧ j ≠ 1 ∧ ¬ (j + 1 = 1 ∧ u.category = 2)) := by
          intro x' hx' j u hj
          match j, hj with
          | 0, hj =>
            right
            rcases hx' with rfl | ⟨rfl, hc⟩
            · simp at hj
            · simp at hj
              exact ⟨by simp [hj], by omega, fun q => hc u hj q.2⟩
          | 1, hj => left; simp at hj; exact ⟨rfl, hj.symm⟩
          | j + 2, hj => right; exact ⟨by simpa using hj, by omega, by omega⟩
        have h2 : (∃ x', (x' = none ∨ (x' = x ∧ ∀ u, x = some u → u.category ≠ 2)) ∧ f (x' :: some v :: t)) := by
          match x, h with
          | none, h => exact ⟨none, Or.inl rfl, h⟩
          | some (.long a), h => exact ⟨none, Or.inl rfl, h⟩
          | some (.double a), h => exact ⟨none, Or.inl rfl, h⟩
          | some (.int a), h => exact ⟨_, Or.inr ⟨rfl, fun u hu => by cases hu; exact (by simp [Value.category])⟩, h⟩
          | some (.float a), h => exact ⟨_, Or.inr ⟨rfl, fun u hu => by cases hu; exact (by simp [Value.category])⟩, h⟩
          | some .null, h => exact ⟨_, Or.inr ⟨rfl, fun u hu => by cases hu; exact (by simp [Value.category])⟩, h⟩
          | some (.ref a), h => exact ⟨_, Or.inr ⟨rfl, fun u hu => by cases hu; exact (by simp [Value.category])⟩, h⟩
          | some (.retAddr a), h => exact ⟨_, Or.inr ⟨rfl, fun u hu => by cases hu; exact (by simp [Value.category])⟩, h⟩
        obtain ⟨x', hx', hf⟩ := h2
        exact ⟨_, hf, by simp, by simp, key x' hx'⟩
    | n + 2, h =>
      obtain ⟨ls2, h1, h2, h3, h4⟩ := ih (n + 1) v _ h
      refine ⟨_, h1, by simp [h2], by simp; omega, fun j u hj => ?_⟩
      cases j with
      | zero => right; exact ⟨by simpa using hj, by omega, by omega⟩
      | succ j =>
        rcases h4 j u (by simpa using hj) with ⟨a, b⟩ | ⟨a, b, c⟩
        · left; exact ⟨by omega, b⟩
        · right; exact ⟨by simpa using a, by omega, fun q => c ⟨by omega, q.2⟩⟩
theorem am_s2_ok : ∀ (ls : am_Lv) (i : Nat) (v : Value) (f : am_Lv → Prop), am_s2 i v ls f → ∃ ls2, f ls2 ∧ ls2.length = ls.length ∧ i + 1 < ls.length ∧ ∀ j u, ls2[j]? = some (some u) → (j = i ∧ u = v) ∨ (ls[j]? = some (some u) ∧ j ≠ i ∧ j ≠ i + 1 ∧ ¬ (j + 1 = i ∧ u.category = 2)) := by
  intro ls
  induction ls with
  | nil => intro i v f h; match i, h with
    | 0, h => exact h.elim
    | 1, h => exact h.elim
    | n + 2, h => exact h.elim
  | cons x ls ih =>
    intro i v f h
    match i, h with
    | 0, h =>
      cases ls with
      | nil => exact h.elim
      | cons y t =>
        refine ⟨_, h, by simp, by simp, fun j u hj => ?_⟩
        match j, hj with
        | 0, hj => left; simp at hj; exact ⟨rfl, hj.symm⟩
        | 1, hj => simp at hj
        | j + 2, hj => right; exact ⟨by simpa using hj, by omega, by omega, by omega⟩
    | 1, h =>
      match ls, h with
      | [], h => exact h.elim
      | [y], h => exact h.elim
      | y :: y2 :: t, h =>
        have key : ∀ x', (x' = none ∨ (x' = x ∧ ∀ u, x = some u → u.category ≠ 2)) → ∀ (j : Nat) (u : Value), (x' :: some v :: none :: t)[j]? = some (some u) → (j = 1 ∧ u = v) ∨ ((x :: y :: y2 :: t)[j]? = some (some u) ∧ j ≠ 1 ∧ j ≠ 1 + 1 ∧ ¬ (j + 1 = 1 ∧ u.category = 2)) := by
          intro x' hx' j u hj
          match j, hj with
          | 0, hj =>
            right
            rcases hx' with rfl | ⟨rfl, hc⟩
            · simp at hj
            · simp at hj
              exact ⟨by simp [hj], by omega, by omega, fun q => hc u hj q.2⟩
          | 1, hj => left; simp at hj; exact ⟨rfl, hj.symm⟩
          | 2, hj => simp at hj
          | j + 3, hj => right; exact ⟨by simpa using hj, by omega, by omega, by omega⟩
        have h2 : (∃ x', (x' = none ∨ (x' = x ∧ ∀ u, x = some u → u.category ≠ 2)) ∧ f (x' :: some v :: none :: t)) := by
          match x, h with
          | none, h => exact ⟨none, Or.inl rfl, h⟩
          | some (.long a), h => exact ⟨none, Or.inl rfl, h⟩
          | some (.double a), h => exact ⟨none, Or.inl rfl, h⟩
          | some (.int a), h => exact ⟨_, Or.inr ⟨rfl, fun u hu => by cases hu; exact (by simp [Value.category])⟩, h⟩
          | some (.float a), h => exact ⟨_, Or.inr ⟨rfl, fun u hu => by cases hu; exact (by simp [Value.category])⟩, h⟩
          | some .null, h => exact ⟨_, Or.inr ⟨rfl, fun u hu => by cases hu; exact (by simp [Value.category])⟩, h⟩
          | some (.ref a), h => exact ⟨_, Or.inr ⟨rfl, fun u hu => by cases hu; exact (by simp [Value.category])⟩, h⟩
          | some (.retAddr a), h => exact ⟨_, Or.inr ⟨rfl, fun u hu => by cases hu; exact (by simp [Value.category])⟩, h⟩
        obtain ⟨x', hx', hf⟩ := h2
        exact ⟨_, hf, by simp, by simp, key x' hx'⟩
    | n + 2, h =>
      obtain ⟨ls2, h1, h2, h3, h4⟩ := ih (n + 1) v _ h
      refine ⟨_, h1, by simp [h2], by simp; omega, fun j u hj => ?_⟩
      cases j with
      | zero => right; exact ⟨by simpa using hj, by omega, by omega, by omega⟩
      | succ j =>
        rcases h4 j u (by simpa using hj) with ⟨a, b⟩ | ⟨a, b, c, d⟩
        · left; exact ⟨by omega, b⟩
        · right; exact ⟨by simpa using a, by omega, by omega, fun q => d ⟨by omega, q.2⟩⟩
def am_keep : List Nat → am_Lv → (am_Lv → Prop) → Prop
  | [], ls, f => f ls
  | _ :: _, [], f => f []
  | 0 :: m, _ :: t, f => am_keep m t (fun t' => f (none :: t'))
  | (_ + 1) :: m, x :: t, f => am_keep m t (fun t' => f (x :: t'))
theorem am_keep_ok : ∀ (m : List Nat) (ls : am_Lv) (f : am_Lv → Prop), am_keep m ls f → ∃ ls2, f ls2 ∧ ls2.length = ls.length ∧ ∀ (j : Nat) (u : Value), ls2[j]? = some (some u) → ls[j]? = some (some u) := by
  intro m
  induction m with
  | nil => intro ls f h; exact ⟨ls, h, rfl, fun _ _ h => h⟩
  | cons a m ih =>
    intro ls f h
    cases ls with
    | nil => exact ⟨[], h, rfl, fun _ _ h => h⟩
    | cons x t =>
      cases a with
      | zero =>
        obtain ⟨l2, h1, h2, h3⟩ := ih t _ h
        refine ⟨_, h1, by simp [h2], fun j u hj => ?_⟩
        cases j with
        | zero => simp at hj
        | succ j => simpa using h3 j u (by simpa using hj)
      | succ a =>
        obtain ⟨l2, h1, h2, h3⟩ := ih t _ h
        refine ⟨_, h1, by simp [h2], fun j u hj => ?_⟩
        cases j with
        | zero => simpa using hj
        | succ j => simpa using h3 j u (by simpa using hj)
def am_tk : Nat → List Value → List Value → (List Value → List Value → Prop) → Prop
  | 0, st, acc, f => f acc st
  | n + 1, v :: st, acc, f => am_tk n st (v :: acc) f
  | _ + 1, [], _, _ => False
theorem am_tk_ok : ∀ (n : Nat) (st acc : List Value) (f : List Value → List Value → Prop), am_tk n st acc f → ∃ vs r, f (vs ++ acc) r ∧ vs.length = n ∧ st = vs.reverse ++ r := by
  intro n
  induction n with
  | zero => intro st acc f h; exact ⟨[], st, h, rfl, rfl⟩
  | succ n ih =>
    intro st acc f h
    cases st with
    | nil => exact h.elim
    | cons v st =>
      obtain ⟨vs, r, h1, h2, h3⟩ := ih st (v :: acc) f h
      exact ⟨vs ++ [v], r, by simpa using h1, by simp [h2], by simp [h3]⟩
def am_cat : List Value → Nat
  | [] => 0
  | v :: r => v.category + am_cat r
theorem am_cat_ok (ad : Nat → Nat) : ∀ (st : List Value), ((st.map (am_val ad)).map fun v => v.category).sum = am_cat st := by
  intro st
  induction st with
  | nil => rfl
  | cons v r ih => simp [am_cat, am_val_cat, ← ih]
def am_sh : List am_C → Nat → (am_C → Prop) → Prop
  | [], _, _ => False
  | c :: _, 0, f => f c
  | _ :: t, n + 1, f => am_sh t n f
theorem am_sh_ok : ∀ {S : List am_C} {n : Nat} {f : am_C → Prop}, am_sh S n f → ∃ c, S[n]? = some c ∧ f c := by
  intro S
  induction S with
  | nil => intro n f h; exact h.elim
  | cons x S ih =>
    intro n f h
    cases n with
    | zero => exact ⟨x, rfl, h⟩
    | succ n => obtain ⟨c, h1, h2⟩ := ih h; exact ⟨c, by simpa using h1, h2⟩
def am_fc : List Nat → Nat → (Nat → Prop) → Prop
  | [], _, _ => False
  | c :: _, 0, f => f c
  | _ :: t, n + 1, f => am_fc t n f
theorem am_fc_ok : ∀ {S : List Nat} {n : Nat} {f : Nat → Prop}, am_fc S n f → ∃ c, S[n]? = some c ∧ f c := by
  intro S
  induction S with
  | nil => intro n f h; exact h.elim
  | cons x S ih =>
    intro n f h
    cases n with
    | zero => exact ⟨x, rfl, h⟩
    | succ n => obtain ⟨c, h1, h2⟩ := ih h; exact ⟨c, by simpa using h1, h2⟩
def am_al : List Nat → Nat → Int32 → (Nat → Prop) → Prop
  | [], _, _, _ => True
  | r :: t, j, i, f => (i = Int32.ofNat j → f r) ∧ am_al t (j + 1) i f
theorem am_al_ok : ∀ (rs : List Nat) (j : Nat) (i : Int32) (f : Nat → Prop), am_al rs j i f → ∀ k r, rs[k]? = some r → i = Int32.ofNat (j + k) → f r := by
  intro rs
  induction rs with
  | nil => intro j i f _ k r h; simp at h
  | cons x rs ih =>
    intro j i f h k r hk hi
    cases k with
    | zero => simp at hk; subst hk; exact h.1 hi
    | succ k => exact ih (j + 1) i f h.2 k r (by simpa using hk) (by rw [hi, show j + (k + 1) = j + 1 + k by omega])
def am_ts : List Nat → Nat → Int32 → (Nat → Prop) → Nat → Prop
  | [], _, _, f, d => f d
  | t :: ts, n, a, f, d => (a = Int32.ofNat n → f t) ∧ (¬ a = Int32.ofNat n → am_ts ts (n + 1) a f d)
theorem am_ts_ok : ∀ (ts : List Nat) (n : Nat) (a : Int32) (f : Nat → Prop) (d : Nat), am_ts ts n a f d → (∃ k t, ts[k]? = some t ∧ a = Int32.ofNat (n + k) ∧ f t) ∨ ((∀ k, k < ts.length → ¬ a = Int32.ofNat (n + k)) ∧ f d) := by
  intro ts
  induction ts with
  | nil => intro n a f d h; exact Or.inr ⟨fun k hk => by simp at hk, h⟩
  | cons t ts ih =>
    intro n a f d h
    by_cases ha : a = Int32.ofNat n
    · exact Or.inl ⟨0, t, rfl, ha, h.1 ha⟩
    · rcases ih (n + 1) a f d (h.2 ha) with ⟨k, u, h1, h2, h3⟩ | ⟨h1, h2⟩
      · exact Or.inl ⟨k + 1, u, by simpa using h1, by rw [h2, show n + 1 + k = n + (k + 1) by omega], h3⟩
      · refine Or.inr ⟨fun k hk => ?_, h2⟩
        cases k with
        | zero => exact ha
        | succ k => rw [show n + (k + 1) = n + 1 + k by omega]; exact h1 k (by simpa using hk)
def am_fd : List am_E → Nat → (am_E → Prop) → Prop
  | [], _, _ => False
  | q :: t, pc, f => match Nat.beq q.1 pc with
    | true => f q
    | false => am_fd t pc f
theorem am_fd_ok : ∀ {code : List am_E} {pc : Nat} {f : am_E → Prop}, am_fd code pc f → ∃ q, q ∈ code ∧ q.1 = pc ∧ f q := by
  intro code
  induction code with
  | nil => intro pc f h; exact h.elim
  | cons x code ih =>
    intro pc f h
    unfold am_fd at h
    cases hb : Nat.beq x.1 pc with
    | true => rw [hb] at h; exact ⟨x, List.mem_cons_self, Nat.eq_of_beq_eq_true hb, h⟩
    | false =>
      rw [hb] at h
      obtain ⟨q, h1, h2, h3⟩ := ih h
      exact ⟨q, List.mem_cons_of_mem _ h1, h2, h3⟩
def am_ct : List (Nat × List Nat) → Nat → (List Nat → Prop) → Prop → Prop
  | [], _, _, d => d
  | q :: t, pc, f, d => match Nat.beq q.1 pc with
    | true => f q.2
    | false => am_ct t pc f d
theorem am_ct_ok : ∀ {cuts : List (Nat × List Nat)} {pc : Nat} {f : List Nat → Prop} {d : Prop}, am_ct cuts pc f d → (∃ m, f m) ∨ d := by
  intro cuts
  induction cuts with
  | nil => intro pc f d h; exact Or.inr h
  | cons x cuts ih =>
    intro pc f d h
    unfold am_ct at h
    cases hb : Nat.beq x.1 pc with
    | true => rw [hb] at h; exact Or.inl ⟨_, h⟩
    | false => rw [hb] at h; exact ih h
def am_en : List Value → am_Lv
  | [] => []
  | v :: vs => match v with
    | .long a => some (.long a) :: none :: am_en vs
    | .double a => some (.double a) :: none :: am_en vs
    | v => some v :: am_en vs
def am_pad : Nat → am_Lv → am_Lv
  | 0, ls => ls
  | n + 1, [] => none :: am_pad n []
  | n + 1, x :: ls => x :: am_pad n ls
def am_ent (vs : List Value) (n : Nat) : am_Lv := am_pad n (am_en vs)
theorem am_en_cons (v : Value) (vs : List Value) : am_en (v :: vs) = some v :: ((if v.category = 2 then [none] else []) ++ am_en vs) := by
  cases v <;> simp [am_en, Value.category]
theorem am_pad_len : ∀ (n : Nat) (ls : am_Lv), ls.length ≤ n → (am_pad n ls).length = n := by
  intro n
  induction n with
  | zero => intro ls h; simpa [am_pad] using h
  | succ n ih =>
    intro ls h
    cases ls with
    | nil => simp [am_pad, ih]
    | cons x ls => simp at h; simp [am_pad, ih ls h]
theorem am_pad_at : ∀ (n : Nat) (ls : am_Lv) (j : Nat) (v : Value), (am_pad n ls)[j]? = some (some v) → ls[j]? = some (some v) := by
  intro n
  induction n with
  | zero => intro ls j v h; exact h
  | succ n ih =>
    intro ls j v h
    cases ls with
    | nil =>
      cases j with
      | zero => simp [am_pad] at h
      | succ j =>
        have := ih [] j v (by simpa [am_pad] using h)
        simp at this
    | cons x ls =>
      cases j with
      | zero => simpa [am_pad] using h
      | succ j => simpa using ih ls j v (by simpa [am_pad] using h)
theorem am_en_sub {ad : Nat → Nat} : ∀ (vs : List Value) (k : Nat) (q : Nat × Value), q ∈ am_lc ad k (am_en vs) → q ∈ lv_args k (vs.map (am_val ad)) := by
  intro vs
  induction vs with
  | nil => intro k q h; exact h
  | cons v vs ih =>
    intro k q h
    rw [am_en_cons] at h
    have e : lv_args k ((v :: vs).map (am_val ad)) = (k, am_val ad v) :: lv_args (if v.category = 2 then k + 2 else k + 1) (vs.map (am_val ad)) := by
      show (k, am_val ad v) :: lv_args (if (am_val ad v).category = 2 then k + 2 else k + 1) (vs.map (am_val ad)) = _
      rw [am_val_cat]
    rw [e]
    by_cases hc : v.category = 2
    · rw [if_pos hc] at h ⊢
      rcases List.mem_cons.mp h with h | h
      · exact List.mem_cons.mpr (Or.inl h)
      · exact List.mem_cons_of_mem _ (ih (k + 2) q h)
    · rw [if_neg hc] at h ⊢
      rcases List.mem_cons.mp h with h | h
      · exact List.mem_cons.mpr (Or.inl h)
      · exact List.mem_cons_of_mem _ (ih (k + 1) q h)
theorem am_en_len : ∀ (ad : Nat → Nat) (vs : List Value), (lg_sl (vs.map (am_val ad))).length = (am_en vs).length := by
  intro ad vs
  induction vs with
  | nil => rfl
  | cons v vs ih =>
    rw [am_en_cons]
    have : lg_sl ((v :: vs).map (am_val ad)) = (if (am_val ad v).category = 2 then [Slot.val (am_val ad v), .second] else [.val (am_val ad v)]) ++ lg_sl (vs.map (am_val ad)) := rfl
    rw [this, am_val_cat]
    by_cases hc : v.category = 2
    · simp [hc, ih]
    · simp [hc, ih]
end
section
/-! the classes of the world: 0 ReadPass, 1 Road, 2 Tape, 3 Journey, 4 Seen, 5 Sheet, 6 ReadPassModel -/
def am_T0 : u_T := fun k => match k with
  | 0 => ("ReadPass", "road", "LReadPass$Road;", true)
  | 1 => ("ReadPass", "kept", "LReadPass$Road;", true)
  | 2 => ("ReadPass", "draft", "LReadPass$Road;", true)
  | 3 => ("ReadPass", "tape", "LReadPass$Tape;", true)
  | 4 => ("ReadPass", "journey", "LReadPass$Journey;", true)
  | 5 => ("ReadPass", "sheets", "[LReadPass$Sheet;", true)
  | 6 => ("ReadPass", "trail", "[I", true)
  | _ => ("ReadPass", "hasImage", "Z", false)
def am_T1 : u_T := fun k => match k with
  | 0 => ("ReadPass$Road", "lesser", "[I", true)
  | 1 => ("ReadPass$Road", "greater", "[I", true)
  | 2 => ("ReadPass$Road", "joints", "[I", true)
  | 3 => ("ReadPass$Road", "sides", "[I", true)
  | 4 => ("ReadPass$Road", "abouts", "[I", true)
  | 5 => ("ReadPass$Road", "ways", "I", false)
  | 6 => ("ReadPass$Road", "doubtful", "I", false)
  | 7 => ("ReadPass$Road", "covered", "I", false)
  | 8 => ("ReadPass$Road", "stones", "I", false)
  | 9 => ("ReadPass$Road", "goal", "I", false)
  | 10 => ("ReadPass$Road", "net", "J", false)
  | _ => ("ReadPass$Road", "clearNet", "J", false)
def am_T2 : u_T := fun k => match k with
  | 0 => ("ReadPass$Tape", "bytes", "[B", true)
  | 1 => ("ReadPass$Tape", "length", "I", false)
  | _ => ("ReadPass$Tape", "spot", "I", false)
def am_T3 : u_T := fun k => match k with
  | 0 => ("ReadPass$Journey", "seen", "LReadPass$Seen;", true)
  | 1 => ("ReadPass$Journey", "kind", "I", false)
  | 2 => ("ReadPass$Journey", "snow", "I", false)
  | 3 => ("ReadPass$Journey", "stones", "I", false)
  | 4 => ("ReadPass$Journey", "place", "I", false)
  | 5 => ("ReadPass$Journey", "target", "I", false)
  | 6 => ("ReadPass$Journey", "steps", "I", false)
  | 7 => ("ReadPass$Journey", "ending", "I", false)
  | 8 => ("ReadPass$Journey", "believedShut", "I", false)
  | _ => ("ReadPass$Journey", "believedNet", "J", false)
def am_T4 : u_T := fun k => match k with
  | 0 => ("ReadPass$Seen", "words", "[J", true)
  | 1 => ("ReadPass$Seen", "used", "[I", true)
  | _ => ("ReadPass$Seen", "count", "I", false)
def am_T5 : u_T := fun k => match k with
  | 0 => ("ReadPass$Sheet", "items", "[J", true)
  | 1 => ("ReadPass$Sheet", "lane", "I", false)
  | _ => ("ReadPass$Sheet", "length", "I", false)
def am_T6 : u_T := fun k => match k with
  | 0 => ("ReadPassModel", "w", "[I", true)
  | 1 => ("ReadPassModel", "isKept", "Z", false)
  | 2 => ("ReadPassModel", "tape", "[I", true)
  | 3 => ("ReadPassModel", "taped", "I", false)
  | 4 => ("ReadPassModel", "at", "I", false)
  | 5 => ("ReadPassModel", "readA", "[I", true)
  | 6 => ("ReadPassModel", "readB", "[I", true)
  | 7 => ("ReadPassModel", "readMany", "I", false)
  | 8 => ("ReadPassModel", "readDoubt", "I", false)
  | 9 => ("ReadPassModel", "readSide", "[I", true)
  | 10 => ("ReadPassModel", "readAbout", "[I", true)
  | 11 => ("ReadPassModel", "readStones", "I", false)
  | 12 => ("ReadPassModel", "joined", "[I", true)
  | 13 => ("ReadPassModel", "homes", "[I", true)
  | 14 => ("ReadPassModel", "stands", "[I", true)
  | 15 => ("ReadPassModel", "steps", "I", false)
  | 16 => ("ReadPassModel", "ended", "I", false)
  | 17 => ("ReadPassModel", "where", "I", false)
  | 18 => ("ReadPassModel", "believed", "I", false)
  | 19 => ("ReadPassModel", "seen", "[I", true)
  | 20 => ("ReadPassModel", "journeys", "I", false)
  | 21 => ("ReadPassModel", "needs", "[I", true)
  | 22 => ("ReadPassModel", "threes", "[I", true)
  | 23 => ("ReadPassModel", "all", "I", false)
  | 24 => ("ReadPassModel", "lanes", "[I", true)
  | 25 => ("ReadPassModel", "sizes", "[I", true)
  | 26 => ("ReadPassModel", "items", "[J", true)
  | _ => ("ReadPassModel", "taken", "[J", true)
abbrev am_cl : List vw_C := [("ReadPass", am_T0, 8), ("ReadPass$Road", am_T1, 12), ("ReadPass$Tape", am_T2, 3), ("ReadPass$Journey", am_T3, 10), ("ReadPass$Seen", am_T4, 3), ("ReadPass$Sheet", am_T5, 3), ("ReadPassModel", am_T6, 28)]
def am_fchk (own : String) (idx ci k pos : Nat) (put : Bool) : Bool := match am_cl[ci]? with
  | none => false
  | some (C, T, N) => decide (k < N) && (decide ((T k).1 = C) && ((decide (lw_tbl[pos]? = some (.fieldLink own idx C (T k).2.1 (T k).2.2.1)) || decide (lw_tbl[pos]? = some (.fieldLinkNest own idx C (T k).2.1 (T k).2.2.1 "ReadPass"))) && (!put || decide ((T k).2.2.2 = false))))
def am_len (y : Nat) : Instr → Nat
  | .bipush _ | .iload _ | .lload _ | .aload _ | .istore _ | .lstore _ | .astore _ | .ldc _ | .newarray _ => 2
  | .sipush _ | .ldc_w _ | .ldc2_w _ | .iinc _ _ | .ifCond _ _ | .if_icmp _ _ | .goto _ | .getfield _ | .putfield _ | .invokevirtual _ | .invokestatic _ | .invokespecial _ | .new _ | .anewarray _ => 3
  | .tableswitch _ _ _ _ | .lookupswitch _ _ => y
  | _ => 1
def am_hd (ws : List Nat) : Nat := match ws with
  | [] => 0
  | a :: _ => a
/-- an entry of a code table says what the bytes say; keys: the calls (entry of the pool, how many values, how it is called) -/
def am_chk (own : String) (cc : ByteArray) (keys : List (Nat × Nat × Nat)) (q : am_E) : Bool := match q with
  | (pc, i, nx, x, y, z, zl, ws) => decide (decode cc pc = .ok (i, am_len y i)) && (decide (nx = pc + am_len y i) && (match i with
    | .iconst n => decide (Int32.ofInt n = z)
    | .bipush n => decide ((Int8.ofInt n).toInt32 = z)
    | .sipush n => decide ((Int16.ofInt n).toInt32 = z)
    | .lconst n => decide (Int64.ofNat n.val = zl)
    | .iinc _ n => decide (Int32.ofInt n = z)
    | .ldc idx => decide (lw_tbl[x]? = some (.constant own idx z))
    | .ldc_w idx => decide (lw_tbl[x]? = some (.constant own idx z))
    | .ldc2_w idx => decide (lw_tbl[x]? = some (.constantLong own idx zl))
    | .ifCond _ off => decide ((pc : Int) + off = (x : Int))
    | .if_icmp _ off => decide ((pc : Int) + off = (x : Int))
    | .goto off => decide ((pc : Int) + off = (x : Int))
    | .getfield idx => am_fchk own idx x y (am_hd ws) false
    | .putfield idx => am_fchk own idx x y (am_hd ws) true
    | .invokevirtual idx => decide (x = idx) && decide ((idx, y, 10 + am_hd ws) ∈ keys)
    | .invokestatic idx => decide (x = idx) && decide ((idx, y, 0) ∈ keys)
    | .tableswitch d lo hi offs => decide (lo = 0) && (decide (hi + 1 = (ws.length : Int)) && (decide ((pc : Int) + d = (x : Int)) && (decide (ws.length < 100) && decide (offs.toList.map (fun o => (pc : Int) + o) = ws.map Int.ofNat))))
    | .lookupswitch d ps => decide (ps.toList.map (fun q => q.1) = (List.range ws.length).map Int.ofNat) && (decide ((pc : Int) + d = (x : Int)) && (decide (ws.length < 100) && decide (ps.toList.map (fun q => (pc : Int) + q.2) = ws.map Int.ofNat)))
    | _ => true))
/-- one instruction -/
def am_st (S : List am_C) (sp : Nat → am_Sp) (rb : Bool) (post : am_Po) (K : am_G) (q : am_E) (ls : am_Lv) (st : List Value) (I : am_I) (L : am_J) : Prop := match q with
  | (_, i, nx, x, y, z, zl, ws) => match i with
    | .iconst _ => K nx ls (.int z :: st) I L
    | .bipush _ => K nx ls (.int z :: st) I L
    | .sipush _ => K nx ls (.int z :: st) I L
    | .ldc _ => K nx ls (.int z :: st) I L
    | .ldc_w _ => K nx ls (.int z :: st) I L
    | .lconst _ => K nx ls (.long zl :: st) I L
    | .ldc2_w _ => K nx ls (.long zl :: st) I L
    | .iload k => am_gl ls k (fun v => match v with | .int a => K nx ls (.int a :: st) I L | _ => False)
    | .iload_n k => am_gl ls k.val (fun v => match v with | .int a => K nx ls (.int a :: st) I L | _ => False)
    | .lload k => am_gl ls k (fun v => match v with | .long a => K nx ls (.long a :: st) I L | _ => False)
    | .lload_n k => am_gl ls k.val (fun v => match v with | .long a => K nx ls (.long a :: st) I L | _ => False)
    | .aload k => am_gl ls k (fun v => match v with | .ref a => K nx ls (.ref a :: st) I L | _ => False)
    | .aload_n k => am_gl ls k.val (fun v => match v with | .ref a => K nx ls (.ref a :: st) I L | _ => False)
    | .istore k => (match st with | .int a :: r => am_s1 k (.int a) ls (fun l2 => K nx l2 r I L) | _ => False)
    | .istore_n k => (match st with | .int a :: r => am_s1 k.val (.int a) ls (fun l2 => K nx l2 r I L) | _ => False)
    | .lstore k => (match st with | .long a :: r => am_s2 k (.long a) ls (fun l2 => K nx l2 r I L) | _ => False)
    | .lstore_n k => (match st with | .long a :: r => am_s2 k.val (.long a) ls (fun l2 => K nx l2 r I L) | _ => False)
    | .astore k => (match st with | .ref a :: r => am_s1 k (.ref a) ls (fun l2 => K nx l2 r I L) | _ => False)
    | .astore_n k => (match st with | .ref a :: r => am_s1 k.val (.ref a) ls (fun l2 => K nx l2 r I L) | _ => False)
    | .iinc k _ => am_gl ls k (fun v => match v with | .int a => am_s1 k (.int (a + z)) ls (fun l2 => K nx l2 st I L) | _ => False)
    | .iadd => (match st with | .int b :: .int a :: r => K nx ls (.int (a + b) :: r) I L | _ => False)
    | .isub => (match st with | .int b :: .int a :: r => K nx ls (.int (a - b) :: r) I L | _ => False)
    | .imul => (match st with | .int b :: .int a :: r => K nx ls (.int (a * b) :: r) I L | _ => False)
    | .iand => (match st with | .int b :: .int a :: r => K nx ls (.int (a &&& b) :: r) I L | _ => False)
    | .ior => (match st with | .int b :: .int a :: r => K nx ls (.int (a ||| b) :: r) I L | _ => False)
    | .ixor => (match st with | .int b :: .int a :: r => K nx ls (.int (a ^^^ b) :: r) I L | _ => False)
    | .idiv => (match st with | .int b :: .int a :: r => (¬ b = 0) ∧ K nx ls (.int (a / b) :: r) I L | _ => False)
    | .irem => (match st with | .int b :: .int a :: r => (¬ b = 0) ∧ K nx ls (.int (a - a / b * b) :: r) I L | _ => False)
    | .ishl => (match st with | .int b :: .int a :: r => K nx ls (.int (a <<< (b &&& 31)) :: r) I L | _ => False)
    | .ishr => (match st with | .int b :: .int a :: r => K nx ls (.int (a >>> (b &&& 31)) :: r) I L | _ => False)
    | .iushr => (match st with | .int b :: .int a :: r => K nx ls (.int (a.toUInt32 >>> (b.toUInt32 &&& Int32.toUInt32 31)).toInt32 :: r) I L | _ => False)
    | .ladd => (match st with | .long b :: .long a :: r => K nx ls (.long (a + b) :: r) I L | _ => False)
    | .land => (match st with | .long b :: .long a :: r => K nx ls (.long (a &&& b) :: r) I L | _ => False)
    | .lor => (match st with | .long b :: .long a :: r => K nx ls (.long (a ||| b) :: r) I L | _ => False)
    | .lxor => (match st with | .long b :: .long a :: r => K nx ls (.long (a ^^^ b) :: r) I L | _ => False)
    | .lshl => (match st with | .int b :: .long a :: r => K nx ls (.long (a <<< (b.toInt64 &&& 63)) :: r) I L | _ => False)
    | .lshr => (match st with | .int b :: .long a :: r => K nx ls (.long (a >>> (b.toInt64 &&& 63)) :: r) I L | _ => False)
    | .lushr => (match st with | .int b :: .long a :: r => K nx ls (.long (a.toUInt64 >>> (b.toInt64.toUInt64 &&& Int64.toUInt64 63)).toInt64 :: r) I L | _ => False)
    | .lcmp => (match st with | .long b :: .long a :: r => K nx ls (.int (lg_cmp a b) :: r) I L | _ => False)
    | .i2l => (match st with | .int a :: r => K nx ls (.long a.toInt64 :: r) I L | _ => False)
    | .l2i => (match st with | .long a :: r => K nx ls (.int a.toInt32 :: r) I L | _ => False)
    | .i2b => (match st with | .int a :: r => K nx ls (.int a.toInt8.toInt32 :: r) I L | _ => False)
    | .i2s => (match st with | .int a :: r => K nx ls (.int a.toInt16.toInt32 :: r) I L | _ => False)
    | .dup => (match st with | v :: r => v.category = 1 ∧ K nx ls (v :: v :: r) I L | _ => False)
    | .dup2 => (match st with | v :: w :: r => v.category = 1 ∧ (w.category = 1 ∧ K nx ls (v :: w :: v :: w :: r) I L) | _ => False)
    | .goto _ => K x ls st I L
    | .ifCond cd _ => (match st with
      | .int a :: r => (match cd with
        | .eq => (a = 0 → K x ls r I L) ∧ (¬ a = 0 → K nx ls r I L)
        | .ne => (¬ a = 0 → K x ls r I L) ∧ (a = 0 → K nx ls r I L)
        | .lt => (a < 0 → K x ls r I L) ∧ (¬ a < 0 → K nx ls r I L)
        | .ge => (¬ a < 0 → K x ls r I L) ∧ (a < 0 → K nx ls r I L)
        | .gt => (0 < a → K x ls r I L) ∧ (¬ 0 < a → K nx ls r I L)
        | .le => (¬ 0 < a → K x ls r I L) ∧ (0 < a → K nx ls r I L))
      | _ => False)
    | .if_icmp cd _ => (match st with
      | .int b :: .int a :: r => (match cd with
        | .eq => (a = b → K x ls r I L) ∧ (¬ a = b → K nx ls r I L)
        | .ne => (¬ a = b → K x ls r I L) ∧ (a = b → K nx ls r I L)
        | .lt => (a < b → K x ls r I L) ∧ (¬ a < b → K nx ls r I L)
        | .ge => (¬ a < b → K x ls r I L) ∧ (a < b → K nx ls r I L)
        | .gt => (b < a → K x ls r I L) ∧ (¬ b < a → K nx ls r I L)
        | .le => (¬ b < a → K x ls r I L) ∧ (b < a → K nx ls r I L))
      | _ => False)
    | .tableswitch _ _ _ _ => (match st with | .int a :: r => am_ts ws 0 a (fun t => K t ls r I L) x | _ => False)
    | .lookupswitch _ _ => (match st with | .int a :: r => am_ts ws 0 a (fun t => K t ls r I L) x | _ => False)
    | .getfield _ => (match st with
      | .ref o :: r => am_sh S o (fun c => match c with
        | .inl (ci, fs) => (match Nat.beq ci x with
          | true => am_fc fs y (fun code => match code with
            | 0 => K nx ls (.int (I o y) :: r) I L
            | 1 => K nx ls (.long (L o y) :: r) I L
            | 2 => K nx ls (.int (I o y) :: r) I L
            | n + 3 => K nx ls (.ref n :: r) I L)
          | false => False)
        | _ => False)
      | _ => False)
    | .putfield _ => (match st with
      | .int a :: .ref o :: r => am_sh S o (fun c => match c with
        | .inl (ci, fs) => (match Nat.beq ci x with
          | true => am_fc fs y (fun code => match code with
            | 0 => K nx ls r (am_ui I o y a) L
            | 2 => (a = 0 ∨ a = 1) ∧ K nx ls r (am_ui I o y a) L
            | _ => False)
          | false => False)
        | _ => False)
      | .long a :: .ref o :: r => am_sh S o (fun c => match c with
        | .inl (ci, fs) => (match Nat.beq ci x with
          | true => am_fc fs y (fun code => match code with
            | 1 => K nx ls r I (am_uj L o y a)
            | _ => False)
          | false => False)
        | _ => False)
      | _ => False)
    | .iaload => (match st with
      | .int j :: .ref o :: r => am_sh S o (fun c => match c with
        | .inr (0, n, _) => vp_in j n ∧ K nx ls (.int (I o j.toNatClampNeg) :: r) I L
        | _ => False)
      | _ => False)
    | .baload => (match st with
      | .int j :: .ref o :: r => am_sh S o (fun c => match c with
        | .inr (2, n, _) => vp_in j n ∧ K nx ls (.int (I o j.toNatClampNeg) :: r) I L
        | _ => False)
      | _ => False)
    | .laload => (match st with
      | .int j :: .ref o :: r => am_sh S o (fun c => match c with
        | .inr (1, n, _) => vp_in j n ∧ K nx ls (.long (L o j.toNatClampNeg) :: r) I L
        | _ => False)
      | _ => False)
    | .aaload => (match st with
      | .int j :: .ref o :: r => am_sh S o (fun c => match c with
        | .inr (3, n, rs) => vp_in j n ∧ (n = rs.length ∧ (n < 100 ∧ am_al rs 0 j (fun a => K nx ls (.ref a :: r) I L)))
        | _ => False)
      | _ => False)
    | .iastore => (match st with
      | .int a :: .int j :: .ref o :: r => am_sh S o (fun c => match c with
        | .inr (0, n, _) => vp_in j n ∧ K nx ls r (am_ui I o j.toNatClampNeg a) L
        | _ => False)
      | _ => False)
    | .bastore => (match st with
      | .int a :: .int j :: .ref o :: r => am_sh S o (fun c => match c with
        | .inr (2, n, _) => vp_in j n ∧ K nx ls r (am_ui I o j.toNatClampNeg (vp_nar .byte a)) L
        | _ => False)
      | _ => False)
    | .lastore => (match st with
      | .long a :: .int j :: .ref o :: r => am_sh S o (fun c => match c with
        | .inr (1, n, _) => vp_in j n ∧ K nx ls r I (am_uj L o j.toNatClampNeg a)
        | _ => False)
      | _ => False)
    | .arraylength => (match st with
      | .ref o :: r => am_sh S o (fun c => match c with
        | .inr (t, n, _) => (match Nat.ble t 2 with
          | true => K nx ls (.int (Int32.ofNat n) :: r) I L
          | false => False)
        | _ => False)
      | _ => False)
    | .invokestatic _ => am_tk y st [] (fun vs r => Nat.ble (am_cat r) 8 = true ∧ sp x vs I L (fun v I' L' => match v with
      | none => K nx ls r I' L'
      | some a => K nx ls (a :: r) I' L'))
    | .invokevirtual _ => am_tk y st [] (fun vs r => Nat.ble (am_cat r) 8 = true ∧ (match vs with
      | .ref o :: _ => am_sh S o (fun c => match c with
        | .inl (ci, _) => Nat.beq ci (am_hd ws) = true ∧ sp x vs I L (fun v I' L' => match v with
          | none => K nx ls r I' L'
          | some a => K nx ls (a :: r) I' L')
        | _ => False)
      | _ => False))
    | .ireturn => (match st with
      | [.int a] => (match rb with
        | true => (a = 0 ∨ a = 1) ∧ post (some (.int a)) I L
        | false => post (some (.int a)) I L)
      | _ => False)
    | .lreturn => (match st with
      | [.long a] => post (some (.long a)) I L
      | _ => False)
    | .return_ => (match st with
      | [] => post none I L
      | _ => False)
    | _ => False
def am_ev (S : List am_C) (sp : Nat → am_Sp) (rb : Bool) (post : am_Po) (code : List am_E) (cuts : List (Nat × List Nat)) (G : am_G) : Nat → am_G
  | 0 => fun pc ls st I L => G pc ls st I L
  | n + 1 => fun pc ls st I L => am_fd code pc (fun q => am_st S sp rb post (fun pc' ls' st' I' L' => am_ct cuts pc' (fun m => am_keep m ls' (fun l2 => G pc' l2 st' I' L')) (am_ev S sp rb post code cuts G n pc' ls' st' I' L')) q ls st I L)
/-- a method answers as its words say: G holds wherever the small machine can go on to it -/
def am_Ok (S : List am_C) (sp : Nat → am_Sp) (rb : Bool) (code : List am_E) (maxL : Nat) (T : am_Sp) : Prop := ∀ (vs : List Value) (I : am_I) (L : am_J) (post : am_Po), T vs I L post → (am_en vs).length ≤ maxL ∧ ∀ G : am_G, (∀ (cuts : List (Nat × List Nat)) (n pc : Nat) (ls : am_Lv) (st : List Value) (I : am_I) (L : am_J), am_ev S sp rb post code cuts G n pc ls st I L → G pc ls st I L) → G 0 (am_ent vs maxL) [] I L
end
section
/-! THE SMALL MACHINE stands for the machine -/
def am_kind (k idx : Nat) : Instr := if k = 0 then .invokestatic idx else .invokevirtual idx
/-- what a call of a method may count on, and what it leaves -/
def am_Qc (S : List am_C) (ad : Nat → Nat) (ca : Nat → ClassId) (D : va_G) (A : Nat → Prop) (post : am_Po) : Array Value → State → Outcome → State → Prop := fun _ st oc t => (∃ (v : Option Value) (I : am_I) (L : am_J), oc = .returned (v.map (am_val ad)) ∧ post v I L ∧ va_P D am_cl (am_w S ad ca I L) t.heap) ∧ va_F A st t
/-- the class descriptors and the shapes agree: I, J, Z -/
def am_shOK (S : List am_C) : Bool := S.all (fun c => match c with
  | .inr _ => true
  | .inl (ci, fs) => match am_cl[ci]? with
    | none => false
    | some (_, T, N) => decide (fs.length = N) && (List.range N).all (fun k => match fs[k]? with
      | some 0 => decide ((T k).2.2.1 = "I")
      | some 1 => decide ((T k).2.2.1 = "J")
      | some 2 => decide ((T k).2.2.1 = "Z")
      | some _ => true
      | none => false))
/-- the words of nest mates: they stay, but are handed on apart -/
def am_isN : Cond → Bool
  | .fieldLinkNest .. => true
  | .methodLinkNest .. => true
  | _ => false
def am_N : List Cond := lw_tbl.filter am_isN
theorem am_N_tabs {w : Cond} (h : w ∈ am_N) : w.onTables = true := by
  have h2 := (List.mem_filter.mp h).2
  cases w <;> first | rfl | cases h2
theorem am_N_warm {s U : State} (hW : s.WarmedH U.vm) (h : ∀ w ∈ am_N, va_Nw w s) : ∀ w ∈ am_N, va_Nw w U := by
  intro w hw
  have h1 := h w hw
  have h2 := (List.mem_filter.mp hw).2
  cases w <;> first | exact va_Nw.warmF hW h1 | exact va_Nw.warmM hW h1 | cases h2
section AM
variable {p : Program} {l : Launch} {e : Env} {R : Room} {s : State} {m : MethodId} {args : Array Value} {below : List Frame} {meth : Method} {c : Code} {cc : ByteArray} {own : String} {nL : Nat} {S : List am_C} {ad : Nat → Nat} {ca : Nat → ClassId} {D : va_G} {A : Nat → Prop} {Q : State → Prop}
def am_V (p : Program) (l : Launch) (e : Env) (R : Room) (s : State) (m : MethodId) (args : Array Value) (below : List Frame) (meth : Method) (c : Code) (nL : Nat) (S : List am_C) (ad : Nat → Nat) (ca : Nat → ClassId) (D : va_G) (A : Nat → Prop) (Q : State → Prop) : am_G := fun pc ls st I L =>
  ls.length = nL → ∀ (H : Heap) (locs : List Loc) (lsA : Array Slot), va_P D am_cl (am_w S ad ca I L) H → va_S A s.heap H locs → lv_has lsA nL (am_lc ad 0 ls) → W p l e R s m args below meth c H locs 0 0 Q (F0 m pc lsA (st.map (am_val ad)))
def am_CO (p : Program) (l : Launch) (e : Env) (R : Room) (s : State) (m : MethodId) (args : Array Value) (below : List Frame) (meth : Method) (c : Code) (cc : ByteArray) (nL : Nat) (S : List am_C) (ad : Nat → Nat) (ca : Nat → ClassId) (D : va_G) (A : Nat → Prop) (Q : State → Prop) (idx n k : Nat) (T : am_Sp) : Prop :=
  ∀ (pc : Nat) (vs r : List Value) (I : am_I) (L : am_J) (post : am_Po) (H : Heap) (locs : List Loc) (lsA : Array Slot), decode cc pc = .ok (am_kind k idx, 3) → vs.length = n → am_cat r ≤ 8 → (∀ ci, k = 10 + ci → ∃ o t fs, vs = .ref o :: t ∧ S[o]? = some (.inl (ci, fs))) → T vs I L post → lsA.size = nL → va_P D am_cl (am_w S ad ca I L) H → va_S A s.heap H locs →
    (∀ (v : Option Value) (I' : am_I) (L' : am_J) (H' : Heap) (locs' : List Loc), post v I' L' → va_P D am_cl (am_w S ad ca I' L') H' → va_S A s.heap H' locs' → W p l e R s m args below meth c H' locs' 0 0 Q (F0 m (pc + 3) lsA ((v.toList ++ r).map (am_val ad)))) →
    W p l e R s m args below meth c H locs 0 0 Q (F0 m pc lsA ((vs.reverse ++ r).map (am_val ad)))
/-- what stands all along a method's run -/
def am_X (p : Program) (s : State) (m : MethodId) (args : Array Value) (c : Code) (cc : ByteArray) (own : String) (nL : Nat) (S : List am_C) (ad : Nat → Nat) (ca : Nat → ClassId) (D : va_G) (A : Nat → Prop) : Prop :=
  p.tables.exec = Jvm.exec ∧ c.code = cc ∧ c.maxLocals = nL ∧ s.vm.findClass own = some m.cls ∧ (∀ w ∈ am_U, w.before args s = true) ∧ (∀ w ∈ am_N, w.before args s = true) ∧ va_K D am_cl (am_ty ca) s ∧ (∀ (I : am_I) (L : am_J), va_D A (am_w S ad ca I L)) ∧ am_shOK S = true ∧ ∀ q : Nat, s.heap.size ≤ q → A q
theorem am_store1 {pc : Nat} {i nx : Nat} {v : Value} {ls : am_Lv} {lsA : Array Slot} {G : am_Lv → Prop} (hl : lv_has lsA nL (am_lc ad 0 ls)) (hn : ls.length = nL) (h : am_s1 i v ls G) : ∃ ls2, G ls2 ∧ ls2.length = nL ∧ i < nL ∧ ∀ a : Array Slot, lv_has a nL ((i, am_val ad v) :: (am_lc ad 0 ls).filter (fun q => !(q.1 == i) && !(q.1 + 1 == i && q.2.category == 2))) → lv_has a nL (am_lc ad 0 ls2) := by
  obtain ⟨ls2, h1, h2, h3, h4⟩ := am_s1_ok ls i v G h
  refine ⟨ls2, h1, h2.trans hn, by omega, fun a ha => ⟨ha.1, ha.2.1, fun q hq => ha.2.2 q ?_⟩⟩
  obtain ⟨j, u, g1, rfl⟩ := (am_lc_mem ls2 0 q).mp hq
  rcases h4 j u g1 with ⟨rfl, rfl⟩ | ⟨g2, g3, g4⟩
  · rw [show 0 + j = j by omega]; exact List.mem_cons_self
  · refine List.mem_cons_of_mem _ (List.mem_filter.mpr ⟨(am_lc_mem ls 0 _).mpr ⟨j, u, g2, rfl⟩, ?_⟩)
    simp only [Nat.zero_add, am_val_cat]
    simp only [Bool.and_eq_true, Bool.not_eq_true', beq_eq_false_iff_ne, ne_eq, Bool.and_eq_false_iff]
    refine ⟨g3, ?_⟩
    by_cases hj : j + 1 = i
    · right; exact fun q => g4 ⟨hj, q⟩
    · left; exact hj
theorem am_store2 {pc : Nat} {i nx : Nat} {v : Value} {ls : am_Lv} {lsA : Array Slot} {G : am_Lv → Prop} (hl : lv_has lsA nL (am_lc ad 0 ls)) (hn : ls.length = nL) (h : am_s2 i v ls G) : ∃ ls2, G ls2 ∧ ls2.length = nL ∧ i + 1 < nL ∧ ∀ a : Array Slot, lv_has a nL ((i, am_val ad v) :: (am_lc ad 0 ls).filter (fun q => !(q.1 == i) && (!(q.1 == i + 1) && !(q.1 + 1 == i && q.2.category == 2)))) → lv_has a nL (am_lc ad 0 ls2) := by
  obtain ⟨ls2, h1, h2, h3, h4⟩ := am_s2_ok ls i v G h
  refine ⟨ls2, h1, h2.trans hn, by omega, fun a ha => ⟨ha.1, ha.2.1, fun q hq => ha.2.2 q ?_⟩⟩
  obtain ⟨j, u, g1, rfl⟩ := (am_lc_mem ls2 0 q).mp hq
  rcases h4 j u g1 with ⟨rfl, rfl⟩ | ⟨g2, g3, g5, g4⟩
  · rw [show 0 + j = j by omega]; exact List.mem_cons_self
  · refine List.mem_cons_of_mem _ (List.mem_filter.mpr ⟨(am_lc_mem ls 0 _).mpr ⟨j, u, g2, rfl⟩, ?_⟩)
    simp only [Nat.zero_add, am_val_cat]
    simp only [Bool.and_eq_true, Bool.not_eq_true', beq_eq_false_iff_ne, ne_eq, Bool.and_eq_false_iff]
    refine ⟨g3, g5, ?_⟩
    by_cases hj : j + 1 = i
    · right; exact fun q => g4 ⟨hj, q⟩
    · left; exact hj
theorem am_inR {j : Int32} {n : Nat} (h : vp_in j n) (hn : n < 100) : ∃ k : Nat, k < n ∧ j = Int32.ofNat k := vp_in_of h (by omega)
theorem am_gld {ls : am_Lv} {lsA : Array Slot} {k : Nat} {f : Value → Prop} (hl : lv_has lsA nL (am_lc ad 0 ls)) (h : am_gl ls k f) : ∃ v, f v ∧ lsA[k]? = some (.val (am_val ad v)) := by
  obtain ⟨v, h1, h2⟩ := am_gl_ok h
  exact ⟨v, h2, am_lv_at hl h1⟩
end AM
/-- per class: its words, names, types -/
theorem am_cls0 : (∀ w ∈ u_ws "ReadPass" am_T0 8, w ∈ lw_tbl ∧ goodWord w = true) ∧ (∀ a, a < 8 → ∀ b, b < 8 → a ≠ b → (am_T0 a).2.1 ≠ (am_T0 b).2.1) ∧ (∀ k, k < 8 → (parseFieldDescriptor (am_T0 k).2.2.1).isSome = true) := ⟨by decide +kernel, by decide +kernel, by decide +kernel⟩
theorem am_cls1 : (∀ w ∈ u_ws "ReadPass$Road" am_T1 12, w ∈ lw_tbl ∧ goodWord w = true) ∧ (∀ a, a < 12 → ∀ b, b < 12 → a ≠ b → (am_T1 a).2.1 ≠ (am_T1 b).2.1) ∧ (∀ k, k < 12 → (parseFieldDescriptor (am_T1 k).2.2.1).isSome = true) := ⟨by decide +kernel, by decide +kernel, by decide +kernel⟩
theorem am_cls2 : (∀ w ∈ u_ws "ReadPass$Tape" am_T2 3, w ∈ lw_tbl ∧ goodWord w = true) ∧ (∀ a, a < 3 → ∀ b, b < 3 → a ≠ b → (am_T2 a).2.1 ≠ (am_T2 b).2.1) ∧ (∀ k, k < 3 → (parseFieldDescriptor (am_T2 k).2.2.1).isSome = true) := ⟨by decide +kernel, by decide +kernel, by decide +kernel⟩
theorem am_cls3 : (∀ w ∈ u_ws "ReadPass$Journey" am_T3 10, w ∈ lw_tbl ∧ goodWord w = true) ∧ (∀ a, a < 10 → ∀ b, b < 10 → a ≠ b → (am_T3 a).2.1 ≠ (am_T3 b).2.1) ∧ (∀ k, k < 10 → (parseFieldDescriptor (am_T3 k).2.2.1).isSome = true) := ⟨by decide +kernel, by decide +kernel, by decide +kernel⟩
theorem am_cls4 : (∀ w ∈ u_ws "ReadPass$Seen" am_T4 3, w ∈ lw_tbl ∧ goodWord w = true) ∧ (∀ a, a < 3 → ∀ b, b < 3 → a ≠ b → (am_T4 a).2.1 ≠ (am_T4 b).2.1) ∧ (∀ k, k < 3 → (parseFieldDescriptor (am_T4 k).2.2.1).isSome = true) := ⟨by decide +kernel, by decide +kernel, by decide +kernel⟩
theorem am_cls5 : (∀ w ∈ u_ws "ReadPass$Sheet" am_T5 3, w ∈ lw_tbl ∧ goodWord w = true) ∧ (∀ a, a < 3 → ∀ b, b < 3 → a ≠ b → (am_T5 a).2.1 ≠ (am_T5 b).2.1) ∧ (∀ k, k < 3 → (parseFieldDescriptor (am_T5 k).2.2.1).isSome = true) := ⟨by decide +kernel, by decide +kernel, by decide +kernel⟩
theorem am_cls6 : (∀ w ∈ u_ws "ReadPassModel" am_T6 28, w ∈ lw_tbl ∧ goodWord w = true) ∧ (∀ a, a < 28 → ∀ b, b < 28 → a ≠ b → (am_T6 a).2.1 ≠ (am_T6 b).2.1) ∧ (∀ k, k < 28 → (parseFieldDescriptor (am_T6 k).2.2.1).isSome = true) := ⟨by decide +kernel, by decide +kernel, by decide +kernel⟩
theorem am_cls {ci N : Nat} {C : String} {T : u_T} (h : am_cl[ci]? = some (C, T, N)) : (∀ w ∈ u_ws C T N, w ∈ lw_tbl ∧ goodWord w = true) ∧ (∀ a, a < N → ∀ b, b < N → a ≠ b → (T a).2.1 ≠ (T b).2.1) ∧ (∀ k, k < N → (parseFieldDescriptor (T k).2.2.1).isSome = true) := by
  match ci, h with
  | 0, h => cases h; exact am_cls0
  | 1, h => cases h; exact am_cls1
  | 2, h => cases h; exact am_cls2
  | 3, h => cases h; exact am_cls3
  | 4, h => cases h; exact am_cls4
  | 5, h => cases h; exact am_cls5
  | 6, h => cases h; exact am_cls6
  | k + 7, h => simp [am_cl] at h
end
section
theorem am_fk {own : String} {idx ci k pos : Nat} {put : Bool} (h : am_fchk own idx ci k pos put = true) : ∃ (C : String) (T : u_T) (N : Nat), am_cl[ci]? = some (C, T, N) ∧ k < N ∧ (T k).1 = C ∧ (Cond.fieldLink own idx C (T k).2.1 (T k).2.2.1 ∈ am_U ∨ Cond.fieldLinkNest own idx C (T k).2.1 (T k).2.2.1 "ReadPass" ∈ am_N) ∧ (put = true → (T k).2.2.2 = false) := by
  unfold am_fchk at h
  cases hc : am_cl[ci]? with
  | none => rw [hc] at h; cases h
  | some q =>
    obtain ⟨C, T, N⟩ := q
    rw [hc] at h
    simp only [Bool.and_eq_true, Bool.or_eq_true, decide_eq_true_eq, Bool.not_eq_true'] at h
    obtain ⟨h1, h2, h3, h4⟩ := h
    refine ⟨C, T, N, rfl, h1, h2, ?_, ?_⟩
    · rcases h3 with h3 | h3
      · exact Or.inl (am_inU pos h3 rfl)
      · exact Or.inr (List.mem_filter.mpr ⟨List.mem_of_getElem? h3, rfl⟩)
    · intro hp
      rcases h4 with h4 | h4
      · rw [hp] at h4; cases h4
      · exact h4
theorem am_shc {S : List am_C} {o ci N k code : Nat} {fs : List Nat} {C : String} {T : u_T} (h : am_shOK S = true) (hs : S[o]? = some (.inl (ci, fs))) (hc : am_cl[ci]? = some (C, T, N)) (hf : fs[k]? = some code) : fs.length = N ∧ (code = 0 → (T k).2.2.1 = "I") ∧ (code = 1 → (T k).2.2.1 = "J") ∧ (code = 2 → (T k).2.2.1 = "Z") := by
  unfold am_shOK at h
  have h1 := List.all_eq_true.mp h _ (List.mem_of_getElem? hs)
  simp only [hc, Bool.and_eq_true, decide_eq_true_eq] at h1
  have hk : k < fs.length := (List.getElem?_eq_some_iff.mp hf).1
  have h2 := List.all_eq_true.mp h1.2 k (List.mem_range.mpr (by omega))
  refine ⟨h1.1, fun e => ?_, fun e => ?_, fun e => ?_⟩
  · subst e; rw [hf] at h2; exact of_decide_eq_true h2
  · subst e; rw [hf] at h2; exact of_decide_eq_true h2
  · subst e; rw [hf] at h2; exact of_decide_eq_true h2
theorem am_putw {S : List am_C} {ad : Nat → Nat} {ca : Nat → ClassId} {I I' : am_I} {L L' : am_J} {o ci k code : Nat} {fs : List Nat} {v : Value} (hs : S[o]? = some (.inl (ci, fs))) (hf : fs[k]? = some code) (hv : am_fv ad I' L' o k code = v) (hI : ∀ a, a ≠ o → I' a = I a ∧ L' a = L a) (hj : ∀ j, j ≠ k → I' o j = I o j ∧ L' o j = L o j) : (am_w S ad ca I L).set o (ad o, .inr (ci, (am_fs ad I L o 0 fs).set k v)) = am_w S ad ca I' L' := by
  rw [← am_w_set hs hI]
  congr 2
  show Sum.inr (ci, _) = Sum.inr (ci, am_fs ad I' L' o 0 fs)
  rw [← am_fs_set fs 0 k code hf (fun j h => hj j (by omega)), show 0 + k = k by omega, hv]
theorem am_ui_o {I : am_I} {o k a : Nat} {x : Int32} (h : a ≠ o) : am_ui I o k x a = I a := by
  funext b; simp [am_ui, h]
theorem am_uj_o {I : am_J} {o k a : Nat} {x : Int64} (h : a ≠ o) : am_uj I o k x a = I a := by
  funext b; simp [am_uj, h]
theorem am_ui_s {I : am_I} {o k : Nat} {x : Int32} : am_ui I o k x o = upd (I o) k x := by
  funext b; simp [am_ui, upd]
theorem am_uj_s {I : am_J} {o k : Nat} {x : Int64} : am_uj I o k x o = vp_updL (I o) k x := by
  funext b; simp [am_uj, vp_updL]
def am_rchk (ret : Option FieldType) (rb : Bool) (q : am_E) : Bool := match q.2.1 with
  | .ireturn => (rb && decide (ret = some .boolean)) || (!rb && decide (ret = some .int))
  | .lreturn => decide (ret = some .long)
  | .return_ => decide (ret = none)
  | _ => true
theorem am_lk_sorted (ps : List (Int × Int)) (n : Nat) (h : ps.map (fun q => q.1) = (List.range n).map Int.ofNat) : (ps.zip (ps.drop 1)).all (fun (a, next) => a.1 < next.1) = true := by
  rw [List.all_eq_true]
  intro q hq
  obtain ⟨k, hk⟩ := List.getElem?_of_mem hq
  rw [List.getElem?_zip_eq_some] at hk
  obtain ⟨h1, h2⟩ := hk
  rw [List.getElem?_drop] at h2
  have e1 : (ps.map (fun q => q.1))[k]? = some q.1.1 := by rw [List.getElem?_map, h1]; rfl
  have e2 : (ps.map (fun q => q.1))[1 + k]? = some q.2.1 := by rw [List.getElem?_map, h2]; rfl
  rw [h, List.getElem?_map] at e1 e2
  obtain ⟨a, a1, a2⟩ := Option.map_eq_some_iff.mp e1
  obtain ⟨b, b1, b2⟩ := Option.map_eq_some_iff.mp e2
  rw [List.getElem?_range (by have := (List.getElem?_eq_some_iff.mp a1).1; simpa using this)] at a1
  rw [List.getElem?_range (by have := (List.getElem?_eq_some_iff.mp b1).1; simpa using this)] at b1
  cases a1
  cases b1
  simp only [decide_eq_true_eq]
  rw [← a2, ← b2]
  simp only [Int.ofNat_eq_natCast]
  omega
theorem am_lk_hit : ∀ (ps : List (Int × Int)) (j n : Nat), ps.map (fun q => q.1) = (List.range' j n).map Int.ofNat → ∀ (d : Int) (k : Nat) (pr : Int × Int), ps[k]? = some pr → Op.lookupswitch.offset ps d ((j + k : Nat) : Int) = pr.2 := by
  intro ps
  induction ps with
  | nil => intro j n h d k pr hk; simp at hk
  | cons q ps ih =>
    intro j n h d k pr hk
    cases n with
    | zero => simp at h
    | succ n =>
      rw [List.range'_succ, List.map_cons, List.map_cons, List.cons.injEq] at h
      obtain ⟨h1, h2⟩ := h
      obtain ⟨a, o⟩ := q
      rw [Op.lookupswitch.offset_cons]
      cases k with
      | zero =>
        simp only [List.getElem?_cons_zero, Option.some.injEq] at hk
        subst hk
        rw [if_pos]
        dsimp only at h1
        rw [h1]
        simp
      | succ k =>
        rw [if_neg, show j + (k + 1) = j + 1 + k by omega]
        · exact ih (j + 1) n h2 d k pr (by simpa using hk)
        · dsimp only at h1
          rw [h1]
          simp only [Int.ofNat_eq_natCast]
          omega
theorem am_lk_miss : ∀ (ps : List (Int × Int)) (j n : Nat), ps.map (fun q => q.1) = (List.range' j n).map Int.ofNat → ∀ (d x : Int), (∀ k : Nat, k < n → x ≠ ((j + k : Nat) : Int)) → Op.lookupswitch.offset ps d x = d := by
  intro ps
  induction ps with
  | nil => intro j n h d x hx; simp [Op.lookupswitch.offset]
  | cons q ps ih =>
    intro j n h d x hx
    cases n with
    | zero => simp at h
    | succ n =>
      rw [List.range'_succ, List.map_cons, List.map_cons, List.cons.injEq] at h
      obtain ⟨h1, h2⟩ := h
      obtain ⟨a, o⟩ := q
      rw [Op.lookupswitch.offset_cons, if_neg]
      · exact ih (j + 1) n h2 d x (fun k hk => by have := hx (k + 1) (by omega); rw [show j + 1 + k = j + (k + 1) by omega]; exact this)
      · dsimp only at h1
        rw [h1]
        have := hx 0 (by omega)
        simp only [Int.ofNat_eq_natCast]
        intro q
        exact this (by rw [← q]; simp)
section AM2
variable {p : Program} {l : Launch} {e : Env} {R : Room} {s : State} {m : MethodId} {args : Array Value} {below : List Frame} {meth : Method} {c : Code} {cc : ByteArray} {own : String} {nL : Nat} {S : List am_C} {ad : Nat → Nat} {ca : Nat → ClassId} {D : va_G} {A : Nat → Prop}
set_option maxHeartbeats 4000000 in
theorem am_sound1 {rb : Bool} {post : am_Po} {keys : List (Nat × Nat × Nat)} {sp : Nat → am_Sp} {ret : Option FieldType} (X : am_X p s m args c cc own nL S ad ca D A) (hr : meth.sig.returnType = ret) (hlocks : meth.locks = false)
    (hc : ∀ k ∈ keys, am_CO p l e R s m args below meth c cc nL S ad ca D A (MQ below (am_Qc S ad ca D A post) args s 0 0 A) k.1 k.2.1 k.2.2 (sp k.1))
    {K : am_G} (hK : ∀ (pc : Nat) (ls : am_Lv) (st : List Value) (I : am_I) (L : am_J), K pc ls st I L → am_V p l e R s m args below meth c nL S ad ca D A (MQ below (am_Qc S ad ca D A post) args s 0 0 A) pc ls st I L)
    {q : am_E} (h1 : am_chk own cc keys q = true) (h2 : am_rchk ret rb q = true) {ls : am_Lv} {st : List Value} {I : am_I} {L : am_J} (h : am_st S sp rb post K q ls st I L) : am_V p l e R s m args below meth c nL S ad ca D A (MQ below (am_Qc S ad ca D A post) args s 0 0 A) q.1 ls st I L := by
  obtain ⟨hx, hb, hml, hown, hU, hN, hKk, hD, hsh, -⟩ := X
  obtain ⟨pc, i, nx, x, y, z, zl, ws⟩ := q
  simp only [am_chk, Bool.and_eq_true, decide_eq_true_eq] at h1
  obtain ⟨hd, rfl, h1⟩ := h1
  intro hlen H locs lsA hP hS hl
  show W p l e R s m args below meth c H locs 0 0 _ (F0 m pc lsA (st.map (am_val ad)))
  cases i <;> try exact False.elim h
  case iconst n => exact lv_iconst hx hb hd (of_decide_eq_true h1) (hK _ _ _ _ _ h hlen H locs lsA hP hS hl)
  case bipush n => exact lv_bipush hx hb hd (of_decide_eq_true h1) (hK _ _ _ _ _ h hlen H locs lsA hP hS hl)
  case sipush n => exact lv_sipush hx hb hd (of_decide_eq_true h1) (hK _ _ _ _ _ h hlen H locs lsA hP hS hl)
  case lconst n => exact lv_lconst hx hb hd (of_decide_eq_true h1) (hK _ _ _ _ _ h hlen H locs lsA hP hS hl)
  case ldc idx => exact lv_ldc hx hb hown (hU _ (am_inU x (of_decide_eq_true h1) rfl)) hd (hK _ _ _ _ _ h hlen H locs lsA hP hS hl)
  case ldc_w idx => exact lv_ldcw hx hb hown (hU _ (am_inU x (of_decide_eq_true h1) rfl)) hd (hK _ _ _ _ _ h hlen H locs lsA hP hS hl)
  case ldc2_w idx => exact lv_ldc2 hx hb hown (hU _ (am_inU x (of_decide_eq_true h1) rfl)) hd (hK _ _ _ _ _ h hlen H locs lsA hP hS hl)
  case iload k =>
    obtain ⟨v, h, hv⟩ := am_gld hl h
    cases v <;> try exact False.elim h
    exact lv_iload hx hb hd hv (hK _ _ _ _ _ h hlen H locs lsA hP hS hl)
  case iload_n k =>
    obtain ⟨v, h, hv⟩ := am_gld hl h
    cases v <;> try exact False.elim h
    exact lv_iload_n hx hb hd rfl hv (hK _ _ _ _ _ h hlen H locs lsA hP hS hl)
  case istore k =>
    simp only [am_st] at h
    split at h
    · obtain ⟨ls2, g1, g2, g3, g4⟩ := am_store1 (pc := 0) (nx := 0) hl hlen h
      exact lv_istore hx hb hd hl g3 rfl (fun ls' hl' => hK _ _ _ _ _ g1 g2 H locs ls' hP hS (g4 ls' hl'))
    · exact h.elim
  case istore_n k =>
    simp only [am_st] at h
    split at h
    · obtain ⟨ls2, g1, g2, g3, g4⟩ := am_store1 (pc := 0) (nx := 0) hl hlen h
      exact lv_istore_n hx hb hd rfl hl g3 rfl (fun ls' hl' => hK _ _ _ _ _ g1 g2 H locs ls' hP hS (g4 ls' hl'))
    · exact h.elim
  case lload k =>
    obtain ⟨v, h, hv⟩ := am_gld hl h
    cases v <;> try exact False.elim h
    exact lv_lload hx hb hd hv (hK _ _ _ _ _ h hlen H locs lsA hP hS hl)
  case lload_n k =>
    obtain ⟨v, h, hv⟩ := am_gld hl h
    cases v <;> try exact False.elim h
    exact lv_lload_n hx hb hd rfl hv (hK _ _ _ _ _ h hlen H locs lsA hP hS hl)
  case lstore k =>
    simp only [am_st] at h
    split at h
    · obtain ⟨ls2, g1, g2, g3, g4⟩ := am_store2 (pc := 0) (nx := 0) hl hlen h
      exact lv_lstore hx hb hd hl g3 rfl (fun ls' hl' => hK _ _ _ _ _ g1 g2 H locs ls' hP hS (g4 ls' hl'))
    · exact h.elim
  case lstore_n k =>
    simp only [am_st] at h
    split at h
    · obtain ⟨ls2, g1, g2, g3, g4⟩ := am_store2 (pc := 0) (nx := 0) hl hlen h
      exact lv_lstore_n hx hb hd rfl hl g3 rfl (fun ls' hl' => hK _ _ _ _ _ g1 g2 H locs ls' hP hS (g4 ls' hl'))
    · exact h.elim
  case aload k =>
    obtain ⟨v, h, hv⟩ := am_gld hl h
    cases v <;> try exact False.elim h
    exact lv_aload hx hb hd hv (hK _ _ _ _ _ h hlen H locs lsA hP hS hl)
  case aload_n k =>
    obtain ⟨v, h, hv⟩ := am_gld hl h
    cases v <;> try exact False.elim h
    exact lv_aload_n hx hb hd rfl hv (hK _ _ _ _ _ h hlen H locs lsA hP hS hl)
  case astore k =>
    simp only [am_st] at h
    split at h
    · obtain ⟨ls2, g1, g2, g3, g4⟩ := am_store1 (pc := 0) (nx := 0) hl hlen h
      exact lv_astore hx hb hd hl g3 rfl (fun ls' hl' => hK _ _ _ _ _ g1 g2 H locs ls' hP hS (g4 ls' hl'))
    · exact h.elim
  case astore_n k =>
    simp only [am_st] at h
    split at h
    · obtain ⟨ls2, g1, g2, g3, g4⟩ := am_store1 (pc := 0) (nx := 0) hl hlen h
      exact lv_astore_n hx hb hd rfl hl g3 rfl (fun ls' hl' => hK _ _ _ _ _ g1 g2 H locs ls' hP hS (g4 ls' hl'))
    · exact h.elim
  case iinc k n =>
    obtain ⟨v, hv1, h⟩ := am_gl_ok h
    cases v <;> try exact False.elim h
    rename_i a
    obtain ⟨ls2, g1, g2, g3, g4⟩ := am_store1 (pc := 0) (nx := 0) hl hlen h
    have hm : (k, Value.int a) ∈ am_lc ad 0 ls := (am_lc_mem ls 0 _).mpr ⟨k, _, hv1, by rw [show 0 + k = k by omega]; rfl⟩
    obtain ⟨k', hk'⟩ := List.getElem?_of_mem hm
    exact lv_iinc (k := k') hx hb hd hl hk' (by rw [of_decide_eq_true h1]) g3 rfl (fun ls' hl' => hK _ _ _ _ _ g1 g2 H locs ls' hP hS (g4 ls' hl'))
  case iadd =>
    simp only [am_st] at h
    split at h
    · exact lv_iadd hx hb hd (hK _ _ _ _ _ h hlen H locs lsA hP hS hl)
    · exact h.elim
  case isub =>
    simp only [am_st] at h
    split at h
    · exact lv_isub hx hb hd (hK _ _ _ _ _ h hlen H locs lsA hP hS hl)
    · exact h.elim
  case imul =>
    simp only [am_st] at h
    split at h
    · exact lv_imul hx hb hd (hK _ _ _ _ _ h hlen H locs lsA hP hS hl)
    · exact h.elim
  case iand =>
    simp only [am_st] at h
    split at h
    · exact lv_iand hx hb hd (hK _ _ _ _ _ h hlen H locs lsA hP hS hl)
    · exact h.elim
  case ior =>
    simp only [am_st] at h
    split at h
    · exact lv_ior hx hb hd (hK _ _ _ _ _ h hlen H locs lsA hP hS hl)
    · exact h.elim
  case ixor =>
    simp only [am_st] at h
    split at h
    · exact lv_ixor hx hb hd (hK _ _ _ _ _ h hlen H locs lsA hP hS hl)
    · exact h.elim
  case ishl =>
    simp only [am_st] at h
    split at h
    · exact lv_ishl hx hb hd (hK _ _ _ _ _ h hlen H locs lsA hP hS hl)
    · exact h.elim
  case ishr =>
    simp only [am_st] at h
    split at h
    · exact lv_ishr hx hb hd (hK _ _ _ _ _ h hlen H locs lsA hP hS hl)
    · exact h.elim
  case idiv =>
    simp only [am_st] at h
    split at h
    · exact lv_idiv hx hb hd h.1 (hK _ _ _ _ _ h.2 hlen H locs lsA hP hS hl)
    · exact h.elim
  case irem =>
    simp only [am_st] at h
    split at h
    · exact lv_irem hx hb hd h.1 (hK _ _ _ _ _ h.2 hlen H locs lsA hP hS hl)
    · exact h.elim
  case ladd =>
    simp only [am_st] at h
    split at h
    · exact lv_ladd hx hb hd (hK _ _ _ _ _ h hlen H locs lsA hP hS hl)
    · exact h.elim
  case land =>
    simp only [am_st] at h
    split at h
    · exact lv_land hx hb hd (hK _ _ _ _ _ h hlen H locs lsA hP hS hl)
    · exact h.elim
  case lor =>
    simp only [am_st] at h
    split at h
    · exact lv_lor hx hb hd (hK _ _ _ _ _ h hlen H locs lsA hP hS hl)
    · exact h.elim
  case lxor =>
    simp only [am_st] at h
    split at h
    · exact lv_lxor hx hb hd (hK _ _ _ _ _ h hlen H locs lsA hP hS hl)
    · exact h.elim
  case iushr =>
    simp only [am_st] at h
    split at h
    · exact lv_iushr hx hb hd rfl (hK _ _ _ _ _ h hlen H locs lsA hP hS hl)
    · exact h.elim
  case lshl =>
    simp only [am_st] at h
    split at h
    · exact lv_lshl hx hb hd rfl (hK _ _ _ _ _ h hlen H locs lsA hP hS hl)
    · exact h.elim
  case lshr =>
    simp only [am_st] at h
    split at h
    · exact lv_lshr hx hb hd rfl (hK _ _ _ _ _ h hlen H locs lsA hP hS hl)
    · exact h.elim
  case lushr =>
    simp only [am_st] at h
    split at h
    · exact lv_lushr hx hb hd rfl (hK _ _ _ _ _ h hlen H locs lsA hP hS hl)
    · exact h.elim
  case i2l =>
    simp only [am_st] at h
    split at h
    · exact lv_i2l hx hb hd rfl (hK _ _ _ _ _ h hlen H locs lsA hP hS hl)
    · exact h.elim
  case l2i =>
    simp only [am_st] at h
    split at h
    · exact lv_l2i hx hb hd rfl (hK _ _ _ _ _ h hlen H locs lsA hP hS hl)
    · exact h.elim
  case i2b =>
    simp only [am_st] at h
    split at h
    · exact lv_i2b hx hb hd rfl (hK _ _ _ _ _ h hlen H locs lsA hP hS hl)
    · exact h.elim
  case i2s =>
    simp only [am_st] at h
    split at h
    · exact lv_i2s hx hb hd rfl (hK _ _ _ _ _ h hlen H locs lsA hP hS hl)
    · exact h.elim
  case lcmp =>
    simp only [am_st] at h
    split at h
    · exact W.lcmp hx hb hd (hK _ _ _ _ _ h hlen H locs lsA hP hS hl)
    · exact h.elim
  case dup =>
    simp only [am_st] at h
    split at h
    · exact lv_dup hx hb hd (by rw [am_val_cat]; exact h.1) (hK _ _ _ _ _ h.2 hlen H locs lsA hP hS hl)
    · exact h.elim
  case dup2 =>
    simp only [am_st] at h
    split at h
    · exact lv_dup2_11 hx hb hd (by rw [am_val_cat]; exact h.1) (by rw [am_val_cat]; exact h.2.1) (hK _ _ _ _ _ h.2.2 hlen H locs lsA hP hS hl)
    · exact h.elim
  case goto off => exact lv_goto (tgt := x) hx hb hd (of_decide_eq_true h1) (hK _ _ _ _ _ h hlen H locs lsA hP hS hl)
  case ifCond cd off =>
    simp only [am_st] at h
    split at h
    · cases cd
      case eq => exact lv_if_eq (tgt := x) hx hb hd (of_decide_eq_true h1) (fun q => (hK _ _ _ _ _ (h.1 q) hlen H locs lsA hP hS hl)) (fun q => (hK _ _ _ _ _ (h.2 q) hlen H locs lsA hP hS hl))
      case ne => exact lv_if_ne (tgt := x) hx hb hd (of_decide_eq_true h1) (fun q => (hK _ _ _ _ _ (h.1 q) hlen H locs lsA hP hS hl)) (fun q => (hK _ _ _ _ _ (h.2 q) hlen H locs lsA hP hS hl))
      case lt => exact lv_if_lt (tgt := x) hx hb hd (of_decide_eq_true h1) (fun q => (hK _ _ _ _ _ (h.1 q) hlen H locs lsA hP hS hl)) (fun q => (hK _ _ _ _ _ (h.2 q) hlen H locs lsA hP hS hl))
      case ge => exact lv_if_ge (tgt := x) hx hb hd (of_decide_eq_true h1) (fun q => (hK _ _ _ _ _ (h.1 (Int32.not_lt.mpr q)) hlen H locs lsA hP hS hl)) (fun q => (hK _ _ _ _ _ (h.2 (Int32.not_le.mp q)) hlen H locs lsA hP hS hl))
      case gt => exact lv_if_gt (tgt := x) hx hb hd (of_decide_eq_true h1) (fun q => (hK _ _ _ _ _ (h.1 q) hlen H locs lsA hP hS hl)) (fun q => (hK _ _ _ _ _ (h.2 q) hlen H locs lsA hP hS hl))
      case le => exact lv_if_le (tgt := x) hx hb hd (of_decide_eq_true h1) (fun q => (hK _ _ _ _ _ (h.1 (Int32.not_lt.mpr q)) hlen H locs lsA hP hS hl)) (fun q => (hK _ _ _ _ _ (h.2 (Int32.not_le.mp q)) hlen H locs lsA hP hS hl))
    · exact h.elim
  case if_icmp cd off =>
    simp only [am_st] at h
    split at h
    · cases cd
      case eq => exact lv_icmp_eq (tgt := x) hx hb hd (of_decide_eq_true h1) (fun q => (hK _ _ _ _ _ (h.1 q) hlen H locs lsA hP hS hl)) (fun q => (hK _ _ _ _ _ (h.2 q) hlen H locs lsA hP hS hl))
      case ne => exact lv_icmp_ne (tgt := x) hx hb hd (of_decide_eq_true h1) (fun q => (hK _ _ _ _ _ (h.1 q) hlen H locs lsA hP hS hl)) (fun q => (hK _ _ _ _ _ (h.2 q) hlen H locs lsA hP hS hl))
      case lt => exact lv_icmp_lt (tgt := x) hx hb hd (of_decide_eq_true h1) (fun q => (hK _ _ _ _ _ (h.1 q) hlen H locs lsA hP hS hl)) (fun q => (hK _ _ _ _ _ (h.2 q) hlen H locs lsA hP hS hl))
      case ge => exact lv_icmp_ge (tgt := x) hx hb hd (of_decide_eq_true h1) (fun q => (hK _ _ _ _ _ (h.1 (Int32.not_lt.mpr q)) hlen H locs lsA hP hS hl)) (fun q => (hK _ _ _ _ _ (h.2 (Int32.not_le.mp q)) hlen H locs lsA hP hS hl))
      case gt => exact lv_icmp_gt (tgt := x) hx hb hd (of_decide_eq_true h1) (fun q => (hK _ _ _ _ _ (h.1 q) hlen H locs lsA hP hS hl)) (fun q => (hK _ _ _ _ _ (h.2 q) hlen H locs lsA hP hS hl))
      case le => exact lv_icmp_le (tgt := x) hx hb hd (of_decide_eq_true h1) (fun q => (hK _ _ _ _ _ (h.1 (Int32.not_lt.mpr q)) hlen H locs lsA hP hS hl)) (fun q => (hK _ _ _ _ _ (h.2 (Int32.not_le.mp q)) hlen H locs lsA hP hS hl))
    · exact h.elim
  case getfield idx =>
    simp only [am_st] at h
    split at h
    · rename_i o r
      obtain ⟨C, T, N, hcl, hkN, hdecl, hlink, -⟩ := am_fk h1
      obtain ⟨cl, hs, h3⟩ := am_sh_ok h
      clear h
      rcases cl with ⟨ci, fs⟩ | cl
      · dsimp only at h3
        cases hbq : Nat.beq ci x with
        | false => rw [hbq] at h3; exact h3.elim
        | true =>
          rw [hbq] at h3
          have hci := Nat.eq_of_beq_eq_true hbq
          subst hci
          obtain ⟨code, hf, h⟩ := am_fc_ok h3
          have hin : ∀ w ∈ u_ws C T N, w ∈ am_U := fun w hw => List.mem_filter.mpr ((am_cls hcl).1 w hw)
          have hv : (am_fs ad I L o 0 fs)[y]? = some (am_fv ad I L o y code) := by
            have := am_fs_get (ad := ad) (I := I) (L := L) (o := o) (i := 0) hf
            rwa [show 0 + y = y by omega] at this
          have hw := am_w_get (ad := ad) (ca := ca) (I := I) (L := L) hs
          have kk : W p l e R s m args below meth c H locs 0 0 (MQ below (am_Qc S ad ca D A post) args s 0 0 A) (F0 m (pc + 3) lsA (am_fv ad I L o y code :: r.map (am_val ad))) := by
            match code, h with
            | 0, h => exact (hK _ _ _ _ _ h hlen H locs lsA hP hS hl)
            | 1, h => exact (hK _ _ _ _ _ h hlen H locs lsA hP hS hl)
            | 2, h => exact (hK _ _ _ _ _ h hlen H locs lsA hP hS hl)
            | n + 3, h => exact (hK _ _ _ _ _ h hlen H locs lsA hP hS hl)
          rcases hlink with hlink | hlink
          · exact va_get hx hb hU hin hown hKk hP o hw hcl y hkN (hU _ hlink) (fun x hx => by rw [hdecl] at hx; exact hx) hv hd kk
          · exact va_getN hx hb hU hin hown hKk hP o hw hcl y hkN (hN _ hlink) (fun x hx => by rw [hdecl] at hx; exact hx) hv hd kk
      · exact h3.elim
    · exact h.elim
  case putfield idx =>
    simp only [am_st] at h
    split at h
    · rename_i a o r
      obtain ⟨C, T, N, hcl, hkN, hdecl, hlink, hfin⟩ := am_fk h1
      obtain ⟨cl, hs, h3⟩ := am_sh_ok h
      clear h
      rcases cl with ⟨ci, fs⟩ | cl
      · dsimp only at h3
        cases hbq : Nat.beq ci x with
        | false => rw [hbq] at h3; exact h3.elim
        | true =>
          rw [hbq] at h3
          have hci := Nat.eq_of_beq_eq_true hbq
          subst hci
          obtain ⟨code, hf, h⟩ := am_fc_ok h3
          have hin : ∀ w ∈ u_ws C T N, w ∈ am_U := fun w hw => List.mem_filter.mpr ((am_cls hcl).1 w hw)
          have hty : ∀ k, k < N → parseFieldDescriptor (T k).2.2.1 = some ((parseFieldDescriptor (T k).2.2.1).getD .int) := fun k hk => by
            have := (am_cls hcl).2.2 k hk
            cases hq : parseFieldDescriptor (T k).2.2.1 with
            | none => rw [hq] at this; cases this
            | some t => rfl
          have hw := am_w_get (ad := ad) (ca := ca) (I := I) (L := L) hs
          match code, hf, h with
          | 0, hf, h =>
              have hsc := am_shc hsh hs hcl hf
              have e1 : parseFieldDescriptor (T y).2.2.1 = some .int := by rw [hsc.2.1 rfl]; decide +kernel
              have e2 : (am_w S ad ca I L).set o (ad o, .inr (ci, (am_fs ad I L o 0 fs).set y (.int a))) = am_w S ad ca (am_ui I o y a) (L) := am_putw hs hf (by simp [am_fv, am_ui]) (fun a h => ⟨am_ui_o h, rfl⟩) (fun j h => ⟨by simp [am_ui, h], rfl⟩)
              have e3 : y < (am_fs ad I L o 0 fs).length := by rw [am_fs_len]; exact (List.getElem?_eq_some_iff.mp hf).1
              rcases hlink with hlink | hlink
              · exact va_put hx hb hU hin (fun k => (parseFieldDescriptor (T k).2.2.1).getD .int) hty (am_cls hcl).2.1 hown hKk hP (hD I L) hS o hw hcl y hkN (hU _ hlink) (fun x hx => by rw [hdecl] at hx; exact hx) (hfin rfl) e1 rfl rfl e3 hd (fun H1 locs1 hP1 _ hS1 => hK _ _ _ _ _ h hlen H1 locs1 lsA (e2 ▸ hP1) hS1 hl)
              · exact va_putN hx hb hU hin (fun k => (parseFieldDescriptor (T k).2.2.1).getD .int) hty (am_cls hcl).2.1 hown hKk hP (hD I L) hS o hw hcl y hkN (hN _ hlink) (fun x hx => by rw [hdecl] at hx; exact hx) (hfin rfl) e1 rfl rfl e3 hd (fun H1 locs1 hP1 _ hS1 => hK _ _ _ _ _ h hlen H1 locs1 lsA (e2 ▸ hP1) hS1 hl)
          | 1, hf, h => exact h.elim
          | 2, hf, h =>
              have hsc := am_shc hsh hs hcl hf
              have e1 : parseFieldDescriptor (T y).2.2.1 = some .boolean := by rw [hsc.2.2.2 rfl]; decide +kernel
              have e2 : (am_w S ad ca I L).set o (ad o, .inr (ci, (am_fs ad I L o 0 fs).set y (.int a))) = am_w S ad ca (am_ui I o y a) (L) := am_putw hs hf (by simp [am_fv, am_ui]) (fun a h => ⟨am_ui_o h, rfl⟩) (fun j h => ⟨by simp [am_ui, h], rfl⟩)
              have e3 : y < (am_fs ad I L o 0 fs).length := by rw [am_fs_len]; exact (List.getElem?_eq_some_iff.mp hf).1
              rcases hlink with hlink | hlink
              · exact va_put hx hb hU hin (fun k => (parseFieldDescriptor (T k).2.2.1).getD .int) hty (am_cls hcl).2.1 hown hKk hP (hD I L) hS o hw hcl y hkN (hU _ hlink) (fun x hx => by rw [hdecl] at hx; exact hx) (hfin rfl) e1 (by rcases h.1 with rfl | rfl <;> rfl) (by rcases h.1 with rfl | rfl <;> rfl) e3 hd (fun H1 locs1 hP1 _ hS1 => hK _ _ _ _ _ h.2 hlen H1 locs1 lsA (e2 ▸ hP1) hS1 hl)
              · exact va_putN hx hb hU hin (fun k => (parseFieldDescriptor (T k).2.2.1).getD .int) hty (am_cls hcl).2.1 hown hKk hP (hD I L) hS o hw hcl y hkN (hN _ hlink) (fun x hx => by rw [hdecl] at hx; exact hx) (hfin rfl) e1 (by rcases h.1 with rfl | rfl <;> rfl) (by rcases h.1 with rfl | rfl <;> rfl) e3 hd (fun H1 locs1 hP1 _ hS1 => hK _ _ _ _ _ h.2 hlen H1 locs1 lsA (e2 ▸ hP1) hS1 hl)
          | n + 3, hf, h => exact h.elim
      · exact h3.elim
    · rename_i a o r
      obtain ⟨C, T, N, hcl, hkN, hdecl, hlink, hfin⟩ := am_fk h1
      obtain ⟨cl, hs, h3⟩ := am_sh_ok h
      clear h
      rcases cl with ⟨ci, fs⟩ | cl
      · dsimp only at h3
        cases hbq : Nat.beq ci x with
        | false => rw [hbq] at h3; exact h3.elim
        | true =>
          rw [hbq] at h3
          have hci := Nat.eq_of_beq_eq_true hbq
          subst hci
          obtain ⟨code, hf, h⟩ := am_fc_ok h3
          have hin : ∀ w ∈ u_ws C T N, w ∈ am_U := fun w hw => List.mem_filter.mpr ((am_cls hcl).1 w hw)
          have hty : ∀ k, k < N → parseFieldDescriptor (T k).2.2.1 = some ((parseFieldDescriptor (T k).2.2.1).getD .int) := fun k hk => by
            have := (am_cls hcl).2.2 k hk
            cases hq : parseFieldDescriptor (T k).2.2.1 with
            | none => rw [hq] at this; cases this
            | some t => rfl
          have hw := am_w_get (ad := ad) (ca := ca) (I := I) (L := L) hs
          match code, hf, h with
          | 0, hf, h => exact h.elim
          | 1, hf, h =>
              have hsc := am_shc hsh hs hcl hf
              have e1 : parseFieldDescriptor (T y).2.2.1 = some .long := by rw [hsc.2.2.1 rfl]; decide +kernel
              have e2 : (am_w S ad ca I L).set o (ad o, .inr (ci, (am_fs ad I L o 0 fs).set y (.long a))) = am_w S ad ca (I) (am_uj L o y a) := am_putw hs hf (by simp [am_fv, am_uj]) (fun a h => ⟨rfl, am_uj_o h⟩) (fun j h => ⟨rfl, by simp [am_uj, h]⟩)
              have e3 : y < (am_fs ad I L o 0 fs).length := by rw [am_fs_len]; exact (List.getElem?_eq_some_iff.mp hf).1
              rcases hlink with hlink | hlink
              · exact va_put hx hb hU hin (fun k => (parseFieldDescriptor (T k).2.2.1).getD .int) hty (am_cls hcl).2.1 hown hKk hP (hD I L) hS o hw hcl y hkN (hU _ hlink) (fun x hx => by rw [hdecl] at hx; exact hx) (hfin rfl) e1 rfl rfl e3 hd (fun H1 locs1 hP1 _ hS1 => hK _ _ _ _ _ h hlen H1 locs1 lsA (e2 ▸ hP1) hS1 hl)
              · exact va_putN hx hb hU hin (fun k => (parseFieldDescriptor (T k).2.2.1).getD .int) hty (am_cls hcl).2.1 hown hKk hP (hD I L) hS o hw hcl y hkN (hN _ hlink) (fun x hx => by rw [hdecl] at hx; exact hx) (hfin rfl) e1 rfl rfl e3 hd (fun H1 locs1 hP1 _ hS1 => hK _ _ _ _ _ h hlen H1 locs1 lsA (e2 ▸ hP1) hS1 hl)
          | n + 2, hf, h => exact h.elim
      · exact h3.elim
    · exact h.elim
  case iaload =>
    simp only [am_st] at h
    split at h
    · rename_i j o r
      obtain ⟨cl, hs, h⟩ := am_sh_ok h
      match cl, hs, h with
      | .inr (0, n, rs), hs, h => exact va_iald hx hb hKk hP o 0 (am_w_get hs) rfl h.1 hd (hK _ _ _ _ _ h.2 hlen H locs lsA hP hS hl)
    · exact h.elim
  case baload =>
    simp only [am_st] at h
    split at h
    · rename_i j o r
      obtain ⟨cl, hs, h⟩ := am_sh_ok h
      match cl, hs, h with
      | .inr (2, n, rs), hs, h => exact va_bald hx hb hKk hP o 2 (am_w_get hs) rfl h.1 hd (hK _ _ _ _ _ h.2 hlen H locs lsA hP hS hl)
    · exact h.elim
  case laload =>
    simp only [am_st] at h
    split at h
    · rename_i j o r
      obtain ⟨cl, hs, h⟩ := am_sh_ok h
      match cl, hs, h with
      | .inr (1, n, rs), hs, h => exact va_lald hx hb hKk hP o 1 (am_w_get hs) rfl h.1 hd (hK _ _ _ _ _ h.2 hlen H locs lsA hP hS hl)
    · exact h.elim
  case aaload =>
    simp only [am_st] at h
    split at h
    · rename_i j o r
      obtain ⟨cl, hs, h⟩ := am_sh_ok h
      match cl, hs, h with
      | .inr (3, n, rs), hs, h =>
        obtain ⟨hin, hn, hn2, h⟩ := h
        obtain ⟨k, hk, hj⟩ := am_inR hin hn2
        obtain ⟨a, ha⟩ : ∃ a, rs[k]? = some a := ⟨_, List.getElem?_eq_getElem (by omega)⟩
        have h3 := am_al_ok rs 0 j _ h k a ha (by rw [hj, show 0 + k = k by omega])
        refine va_aldq hx hb hKk hP o 3 (am_w_get hs) rfl hin hd ?_
        have e1 : j.toNatClampNeg = k := by rw [hj]; exact nI_clamp (by omega)
        rw [e1]
        show W p l e R s m args below meth c H locs 0 0 _ (F0 m (pc + 1) lsA (va_rf ((rs[k]?).map ad) :: _))
        rw [ha]
        exact (hK _ _ _ _ _ h3 hlen H locs lsA hP hS hl)
    · exact h.elim
  case iastore =>
    simp only [am_st] at h
    split at h
    · rename_i a j o r
      obtain ⟨cl, hs, h⟩ := am_sh_ok h
      match cl, hs, h with
      | .inr (0, n, rs), hs, h =>
        have e2 : (am_w S ad ca I L).set o (ad o, .inl (ca 0, n, .inl (upd (I o) j.toNatClampNeg a))) = am_w S ad ca (am_ui I o j.toNatClampNeg a) (L) := by
          have e3 : am_cell ad ca (am_ui I o j.toNatClampNeg a) (L) o (.inr (0, n, rs)) = .inl (ca 0, n, .inl (upd (I o) j.toNatClampNeg a)) := by
            show (Sum.inl (ca 0, n, .inl (am_ui I o j.toNatClampNeg a o)) : va_E) = _
            rw [am_ui_s]
          rw [← am_w_set hs (fun a h => ⟨am_ui_o h, rfl⟩), e3]
        exact va_iast hx hb hKk hP (hD I L) hS o 0 (am_w_get hs) rfl h.1 hd (fun H1 locs1 hP1 _ hS1 => hK _ _ _ _ _ h.2 hlen H1 locs1 lsA (e2 ▸ hP1) hS1 hl)
    · exact h.elim
  case bastore =>
    simp only [am_st] at h
    split at h
    · rename_i a j o r
      obtain ⟨cl, hs, h⟩ := am_sh_ok h
      match cl, hs, h with
      | .inr (2, n, rs), hs, h =>
        have e2 : (am_w S ad ca I L).set o (ad o, .inl (ca 2, n, .inl (upd (I o) j.toNatClampNeg (vp_nar .byte a)))) = am_w S ad ca (am_ui I o j.toNatClampNeg (vp_nar .byte a)) (L) := by
          have e3 : am_cell ad ca (am_ui I o j.toNatClampNeg (vp_nar .byte a)) (L) o (.inr (2, n, rs)) = .inl (ca 2, n, .inl (upd (I o) j.toNatClampNeg (vp_nar .byte a))) := by
            show (Sum.inl (ca 2, n, .inl (am_ui I o j.toNatClampNeg (vp_nar .byte a) o)) : va_E) = _
            rw [am_ui_s]
          rw [← am_w_set hs (fun a h => ⟨am_ui_o h, rfl⟩), e3]
        exact va_bast hx hb hKk hP (hD I L) hS o 2 (am_w_get hs) rfl h.1 hd (fun H1 locs1 hP1 _ hS1 => hK _ _ _ _ _ h.2 hlen H1 locs1 lsA (e2 ▸ hP1) hS1 hl)
    · exact h.elim
  case lastore =>
    simp only [am_st] at h
    split at h
    · rename_i a j o r
      obtain ⟨cl, hs, h⟩ := am_sh_ok h
      match cl, hs, h with
      | .inr (1, n, rs), hs, h =>
        have e2 : (am_w S ad ca I L).set o (ad o, .inl (ca 1, n, .inr (.inl (vp_updL (L o) j.toNatClampNeg a)))) = am_w S ad ca (I) (am_uj L o j.toNatClampNeg a) := by
          have e3 : am_cell ad ca (I) (am_uj L o j.toNatClampNeg a) o (.inr (1, n, rs)) = .inl (ca 1, n, .inr (.inl (vp_updL (L o) j.toNatClampNeg a))) := by
            show (Sum.inl (ca 1, n, .inr (.inl (am_uj L o j.toNatClampNeg a o))) : va_E) = _
            rw [am_uj_s]
          rw [← am_w_set hs (fun a h => ⟨rfl, am_uj_o h⟩), e3]
        exact va_last hx hb hKk hP (hD I L) hS o 1 (am_w_get hs) rfl h.1 hd (fun H1 locs1 hP1 _ hS1 => hK _ _ _ _ _ h.2 hlen H1 locs1 lsA (e2 ▸ hP1) hS1 hl)
    · exact h.elim
  case arraylength =>
    simp only [am_st] at h
    split at h
    · rename_i o r
      obtain ⟨cl, hs, h⟩ := am_sh_ok h
      match cl, hs, h with
      | .inr (0, n, rs), hs, h => exact va_alen hx hb hKk hP o 0 (am_w_get hs) rfl rfl hd (hK _ _ _ _ _ h hlen H locs lsA hP hS hl)
      | .inr (1, n, rs), hs, h => exact va_alen hx hb hKk hP o 1 (am_w_get hs) rfl rfl hd (hK _ _ _ _ _ h hlen H locs lsA hP hS hl)
      | .inr (2, n, rs), hs, h => exact va_alen hx hb hKk hP o 2 (am_w_get hs) rfl rfl hd (hK _ _ _ _ _ h hlen H locs lsA hP hS hl)
      | .inr (t + 3, n, rs), hs, h =>
        have : Nat.ble (t + 3) 2 = false := by cases hq : Nat.ble (t + 3) 2 with
          | false => rfl
          | true => have := Nat.le_of_ble_eq_true hq; omega
        simp only [this] at h
    · exact h.elim
  case tableswitch d lo hi offs =>
    simp only [am_st] at h
    split at h
    · rename_i a r
      simp only [Bool.and_eq_true, decide_eq_true_eq] at h1
      obtain ⟨rfl, hhi, hdf, hlw, hof⟩ := h1
      rcases am_ts_ok ws 0 a _ x h with ⟨k, t, g1, g2, g3⟩ | ⟨g1, g2⟩
      · have hk : k < ws.length := (List.getElem?_eq_some_iff.mp g1).1
        rw [show 0 + k = k by omega] at g2
        have ha : a.toInt = (k : Int) := by rw [g2]; exact nI_toInt (by omega)
        have h4 : (offs.toList.map (fun o => (pc : Int) + o))[k]? = some (t : Int) := by rw [hof, List.getElem?_map, g1]; rfl
        rw [List.getElem?_map] at h4
        obtain ⟨off, h5, h6⟩ := Option.map_eq_some_iff.mp h4
        exact lv_tableIn (off := off) (tgt := t) hx hb hd (by omega) (by omega) (by rw [ha, ← Array.getElem?_toList]; simpa using h5) h6 (hK _ _ _ _ _ g3 hlen H locs lsA hP hS hl)
      · have ha : ∀ k : Nat, k < ws.length → a.toInt ≠ (k : Int) := fun k hk q => g1 k hk (Int32.toInt_inj.mp (by rw [q, show 0 + k = k by omega]; exact (nI_toInt (by omega)).symm))
        refine lv_tableOut (tgt := x) hx hb hd ?_ hdf (hK _ _ _ _ _ g2 hlen H locs lsA hP hS hl)
        by_cases h0 : a.toInt < 0
        · exact Or.inl h0
        · right
          have := ha a.toInt.toNat
          omega
    · exact h.elim
  case lookupswitch d ps =>
    simp only [am_st] at h
    split at h
    · rename_i a r
      simp only [Bool.and_eq_true, decide_eq_true_eq] at h1
      obtain ⟨hks, hdf, hlw, hof⟩ := h1
      rcases am_ts_ok ws 0 a _ x h with ⟨k, t, g1, g2, g3⟩ | ⟨g1, g2⟩
      · have hk : k < ws.length := (List.getElem?_eq_some_iff.mp g1).1
        rw [show 0 + k = k by omega] at g2
        have ha : a.toInt = (k : Int) := by rw [g2]; exact nI_toInt (by omega)
        have h4 : (ps.toList.map (fun q => (pc : Int) + q.2))[k]? = some (t : Int) := by rw [hof, List.getElem?_map, g1]; rfl
        rw [List.getElem?_map] at h4
        obtain ⟨pr, h5, h6⟩ := Option.map_eq_some_iff.mp h4
        refine lv_lookup (off := pr.2) (tgt := t) hx hb hd (am_lk_sorted _ _ hks) ?_ h6 (hK _ _ _ _ _ g3 hlen H locs lsA hP hS hl)
        rw [ha]
        have h7 := am_lk_hit ps.toList 0 ws.length (by rw [hks, List.range_eq_range']) d k pr h5
        rwa [Nat.zero_add] at h7
      · have ha : ∀ k : Nat, k < ws.length → a.toInt ≠ (k : Int) := fun k hk q => g1 k hk (Int32.toInt_inj.mp (by rw [q, show 0 + k = k by omega]; exact (nI_toInt (by omega)).symm))
        refine lv_lookup (off := d) (tgt := x) hx hb hd (am_lk_sorted _ _ hks) ?_ hdf (hK _ _ _ _ _ g2 hlen H locs lsA hP hS hl)
        exact am_lk_miss ps.toList 0 ws.length (by rw [hks, List.range_eq_range']) d _ (fun k hk => by rw [Nat.zero_add]; exact ha k hk)
    · exact h.elim
  case invokestatic idx =>
    simp only [Bool.and_eq_true, decide_eq_true_eq] at h1
    obtain ⟨rfl, hk⟩ := h1
    obtain ⟨vs, r, ⟨g1, g2⟩, g3, g4⟩ := am_tk_ok y st [] _ h
    rw [List.append_nil] at g2
    subst g4
    exact hc _ hk pc vs r I L _ H locs lsA hd g3 (Nat.le_of_ble_eq_true g1) (fun ci q => by dsimp only at q; omega) g2 hl.1 hP hS (fun v I' L' H' locs' hv hP' hS' => by
      cases v with
      | none => exact hK _ _ _ _ _ hv hlen H' locs' lsA hP' hS' hl
      | some v => exact hK _ _ _ _ _ hv hlen H' locs' lsA hP' hS' hl)
  case invokevirtual idx =>
    simp only [Bool.and_eq_true, decide_eq_true_eq] at h1
    obtain ⟨rfl, hk⟩ := h1
    obtain ⟨vs, r, ⟨g1, g2⟩, g3, g4⟩ := am_tk_ok y st [] _ h
    rw [List.append_nil] at g2
    subst g4
    split at g2
    · rename_i o t
      obtain ⟨cl, hs, g2⟩ := am_sh_ok g2
      rcases cl with ⟨ci, fs⟩ | cl
      · obtain ⟨hci, g2⟩ := g2
        have hci := Nat.eq_of_beq_eq_true hci
        subst hci
        exact hc _ hk pc _ r I L _ H locs lsA (by rw [am_kind, if_neg (by dsimp only; omega)]; exact hd) g3 (Nat.le_of_ble_eq_true g1) (fun ci q => ⟨o, t, fs, rfl, by dsimp only at q; rw [hs, show ci = am_hd ws by omega]⟩) g2 hl.1 hP hS (fun v I' L' H' locs' hv hP' hS' => by
          cases v with
          | none => exact hK _ _ _ _ _ hv hlen H' locs' lsA hP' hS' hl
          | some v => exact hK _ _ _ _ _ hv hlen H' locs' lsA hP' hS' hl)
      · exact g2.elim
    · exact g2.elim
  case ireturn =>
    simp only [am_st] at h
    split at h
    · rename_i a
      cases rb with
      | true =>
        simp only [am_rchk, Bool.true_and, Bool.not_true, Bool.false_and, Bool.or_false, decide_eq_true_eq] at h2
        exact W.zret (ty := .boolean) hx hb (hr.trans h2) (by rcases h.1 with rfl | rfl <;> rfl) (fun t ht _ => ⟨⟨some (.int a), I, L, rfl, h.2, by rw [ht]; exact hP⟩, hS.F ht⟩) hS.2.2 hd hlocks
      | false =>
        simp only [am_rchk, Bool.false_and, Bool.not_false, Bool.true_and, Bool.false_or, decide_eq_true_eq] at h2
        exact W.iret hx hb (hr.trans h2) (fun t ht _ => ⟨⟨some (.int a), I, L, rfl, h, by rw [ht]; exact hP⟩, hS.F ht⟩) hS.2.2 hd hlocks
    · exact h.elim
  case lreturn =>
    simp only [am_st] at h
    split at h
    · rename_i a
      simp only [am_rchk, decide_eq_true_eq] at h2
      exact W.lret hx hb (hr.trans h2) (fun t ht _ => ⟨⟨some (.long a), I, L, rfl, h, by rw [ht]; exact hP⟩, hS.F ht⟩) hS.2.2 hd hlocks
    · exact h.elim
  case return_ =>
    simp only [am_st] at h
    split at h
    · simp only [am_rchk, decide_eq_true_eq] at h2
      exact W.vret hx hb (hr.trans h2) (fun t ht _ => ⟨⟨none, I, L, rfl, h, by rw [ht]; exact hP⟩, hS.F ht⟩) hS.2.2 hd hlocks
    · exact h.elim
end AM2
end
section
/-! A METHOD'S CONTRACT out of the small machine -/
def am_B (S : List am_C) (ad : Nat → Nat) (ca : Nat → ClassId) (D : va_G) (sz : Nat) (I : am_I) (L : am_J) : State → Prop := fun U => U.heap.size = sz ∧ va_P D am_cl (am_w S ad ca I L) U.heap ∧ va_K D am_cl (am_ty ca) U ∧ va_D (fun _ => True) (am_w S ad ca I L) ∧ (∀ w ∈ am_N, va_Nw w U)
def am_Met (l : Launch) (S : List am_C) (y : MethodName) (cc : ByteArray) (maxL : Nat) (ret : Option FieldType) (rm : Room) (T : am_Sp) : Prop :=
  ∀ (ad : Nat → Nat) (ca : Nat → ClassId) (D : va_G) (sz : Nat) (vs : List Value) (I : am_I) (L : am_J) (post : am_Po), T vs I L post → Met l y (.code y cc maxL ret :: am_U) rm (va_Pc (vs.map (am_val ad)) (am_B S ad ca D sz I L)) (am_Qc S ad ca D (va_A (am_w S ad ca I L) sz) post) 0 0 (va_A (am_w S ad ca I L) sz)
def am_Call (l : Launch) (S : List am_C) (own : String) (rm : Room) (idx n k : Nat) (T : am_Sp) : Prop :=
  ∀ (p : Program) (e : Env) (s : State) (m : MethodId) (args : Array Value) (below : List Frame) (meth : Method) (c : Code) (cc : ByteArray) (nL : Nat) (ad : Nat → Nat) (ca : Nat → ClassId) (D : va_G) (A : Nat → Prop) (Q : State → Prop), am_X p s m args c cc own nL S ad ca D A → am_CO p l e rm s m args below meth c cc nL S ad ca D A Q idx n k T
section AM3
variable {p : Program} {l : Launch} {e : Env} {R : Room} {s : State} {m : MethodId} {args : Array Value} {below : List Frame} {meth : Method} {c : Code} {cc : ByteArray} {own : String} {nL : Nat} {S : List am_C} {ad : Nat → Nat} {ca : Nat → ClassId} {D : va_G} {A : Nat → Prop}
theorem am_sound {rb : Bool} {post : am_Po} {keys : List (Nat × Nat × Nat)} {sp : Nat → am_Sp} {ret : Option FieldType} (X : am_X p s m args c cc own nL S ad ca D A) (hr : meth.sig.returnType = ret) (hlocks : meth.locks = false)
    (hc : ∀ k ∈ keys, am_CO p l e R s m args below meth c cc nL S ad ca D A (MQ below (am_Qc S ad ca D A post) args s 0 0 A) k.1 k.2.1 k.2.2 (sp k.1))
    {code : List am_E} (h1 : ∀ q ∈ code, am_chk own cc keys q = true) (h2 : ∀ q ∈ code, am_rchk ret rb q = true) {cuts : List (Nat × List Nat)} : ∀ (n pc : Nat) (ls : am_Lv) (st : List Value) (I : am_I) (L : am_J), am_ev S sp rb post code cuts (am_V p l e R s m args below meth c nL S ad ca D A (MQ below (am_Qc S ad ca D A post) args s 0 0 A)) n pc ls st I L → am_V p l e R s m args below meth c nL S ad ca D A (MQ below (am_Qc S ad ca D A post) args s 0 0 A) pc ls st I L := by
  intro n
  induction n with
  | zero => intro pc ls st I L h; exact h
  | succ n ih =>
    intro pc ls st I L h
    obtain ⟨q, hq, hpc, h3⟩ := am_fd_ok h
    clear h
    subst hpc
    refine am_sound1 X hr hlocks hc (fun pc' ls' st' I' L' hk => ?_) (h1 q hq) (h2 q hq) h3
    rcases am_ct_ok hk with ⟨m, hm⟩ | hk
    · obtain ⟨ls2, g1, g2, g3⟩ := am_keep_ok _ _ _ hm
      intro hlen H locs lsA hP hS hl
      exact g1 (g2.trans hlen) H locs lsA hP hS (am_lv_sub hl g3)
    · exact ih _ _ _ _ _ hk
theorem am_entry (vs : List Value) {n : Nat} (h : (am_en vs).length ≤ n) : lv_has ((lg_sl (vs.map (am_val ad)) ++ List.replicate (n - (lg_sl (vs.map (am_val ad))).length) Slot.unset).toArray) n (am_lc ad 0 (am_ent vs n)) := by
  have hl := lv_entry (vs.map (am_val ad)) (n := n) (by rw [am_en_len]; exact h)
  refine ⟨hl.1, hl.2.1, fun q hq => hl.2.2 q ?_⟩
  obtain ⟨j, v, h1, rfl⟩ := (am_lc_mem _ 0 q).mp hq
  exact am_en_sub vs 0 _ ((am_lc_mem _ 0 _).mpr ⟨j, v, am_pad_at _ _ _ _ h1, rfl⟩)
theorem am_callR {pc H : _} {A1 : Nat → Prop} {locs : List Loc} {lsA : Array Slot} {st0 rest : List Value} {post : am_Po} {a : Array Value} {free : Addr → Prop} {Q : State → Prop} (hr : va_Run p l e R s m args below meth c H locs 0 0 0 0 (F0 m pc lsA st0) rest (am_Qc S ad ca D A1 post a) free) (hS : va_S A s.heap H locs) (hA : ∀ q, q < H.size → A1 q → A q) (hf : ∀ q, free q → A q)
    (kk : ∀ (v : Option Value) (I' : am_I) (L' : am_J) (H' : Heap) (locs' : List Loc), post v I' L' → va_P D am_cl (am_w S ad ca I' L') H' → va_S A s.heap H' locs' → W p l e R s m args below meth c H' locs' 0 0 Q (F0 m (pc + 3) lsA ((v.map (am_val ad)).toList ++ rest))) : W p l e R s m args below meth c H locs 0 0 Q (F0 m pc lsA st0) := by
  intro T hT X
  obtain ⟨v, st₀, t, T', L, h0, X', hL, e1, e2, ⟨⟨v', I', L', hv, hp, hP⟩, hz, hk⟩, st⟩ := hr T hT X
  cases hv
  rw [h0] at hz hk
  obtain ⟨t2, a1, b1⟩ := kk v' I' L' T'.heap (locs ++ L) hp (by rw [e1]; exact hP)
    ⟨Nat.le_trans hS.1 (by rw [e1]; exact hz), fun q h1 h2 => by rw [e1, hk q (Nat.lt_of_lt_of_le h1 hS.1) (fun z => h2 (hA q (Nat.lt_of_lt_of_le h1 hS.1) z))]; exact hS.2.1 q h1 h2, fun q hq => by
      rcases List.mem_append.mp hq with h | h
      · exact hS.2.2 q h
      · exact hf _ (hL q h)⟩ T' rfl X'
  exact ⟨t2, st t2 a1, b1⟩
theorem am_blind {vs : List Value} {sz : Nat} {I : am_I} {L : am_J} : FrameBlind (va_Pc vs (am_B S ad ca D sz I L)) := by
  intro a U g mk q
  obtain ⟨e, h1, h2, h3, h4, h5⟩ := q
  exact ⟨e, h1, h2, va_K.moved (u := U) (U := U.calling g mk a) (Vm.Alike.refl U.vm) h3, h4, fun w hw => va_Nw.same (u := U) (U := U.calling g mk a) (am_N_tabs hw) rfl (h5 w hw)⟩
theorem am_freeA {H : Heap} {locs : List Loc} {I : am_I} {L : am_J} (hD : va_D A (am_w S ad ca I L)) (hS : va_S A s.heap H locs) (hA : ∀ q : Nat, s.heap.size ≤ q → A q) : ∀ q, va_A (am_w S ad ca I L) H.size q → A q := by
  intro q h
  rcases h with ⟨k, e, h⟩ | h
  · exact hD.2 k (q, e) h
  · exact hA q (Nat.le_trans hS.1 h)
end AM3
theorem am_MetOf {l : Launch} {S : List am_C} {y : MethodName} {cc : ByteArray} {maxL : Nat} {ret : Option FieldType} {rm : Room} {T : am_Sp} (keys : List (Nat × Nat × Nat)) {sp : Nat → am_Sp} {rb : Bool} {code : List am_E} (hok : am_Ok S sp rb code maxL T) (hy : plainName y.cls = true) (hchk : code.all (am_chk y.cls cc keys) = true) (hrchk : code.all (am_rchk ret rb) = true) (hS : am_shOK S = true) (hcalls : ∀ k ∈ keys, am_Call l S y.cls rm k.1 k.2.1 k.2.2 (sp k.1)) : am_Met l S y cc maxL ret rm T := by
  intro ad ca D sz vs I L post hT
  obtain ⟨hen, hG⟩ := hok vs I L post hT
  refine Met.ofW (cc := cc) (maxL := maxL) (ret := ret) hy rfl ?_
  intro p e s m args below meth c s₁ B hml hv
  obtain ⟨rfl, hsz, hP, hK, hD0, hN⟩ := hv
  have hts := atoms_spec (ws := Cond.code y cc maxL ret :: am_U) B.pre
  subst hsz
  have hD := hD0.self (sz := s.heap.size)
  have X : am_X p s m (vs.map (am_val ad)).toArray c cc y.cls maxL S ad ca D (va_A (am_w S ad ca I L) s.heap.size) := ⟨B.exec, B.bytes, hml, findClass_of_methodNamed B.named, fun w hw => hts w (List.mem_cons_of_mem _ hw), fun w hw => va_Nw.use (am_N_tabs hw) (hN w hw), hK, fun I' L' => am_D hD, hS, fun q h => Or.inr h⟩
  have key := hG (am_V p l e rm s m (vs.map (am_val ad)).toArray below meth c maxL S ad ca D (va_A (am_w S ad ca I L) s.heap.size) (MQ below (am_Qc S ad ca D (va_A (am_w S ad ca I L) s.heap.size) post) (vs.map (am_val ad)).toArray s 0 0 (va_A (am_w S ad ca I L) s.heap.size))) (fun cuts n pc ls st I L h => am_sound X B.returns B.notSynchronized (fun k hk => hcalls k hk p e s m _ below meth c cc maxL ad ca D _ _ X) (fun q hq => List.all_eq_true.mp hchk q hq) (fun q hq => List.all_eq_true.mp hrchk q hq) n pc ls st I L h)
  rw [lg_entry_eq]
  exact key (am_pad_len _ _ hen) s.heap [] _ hP va_S.rf (am_entry vs hen)
theorem am_co_V {l : Launch} {S : List am_C} {own : String} {rm rm' : Room} {idx n ci N : Nat} {y : MethodName} {bytes : ByteArray} {maxL : Nat} {ret : Option FieldType} {T : am_Sp} {TT : u_T} (hM : am_Met l S y bytes maxL ret rm' T) (hl : Cond.methodLink own idx y ∈ am_U) (hi : Cond.instanceMethod y ∈ am_U) (hse : Cond.selects y.cls y y ∈ am_U) (hini : Cond.initialized y.cls ∈ am_U) (hcode : Cond.code y bytes maxL ret ∈ am_U)
    (hd : y.cls ≠ "java/lang/invoke/MethodHandle" ∧ y.cls ≠ "java/lang/invoke/VarHandle" ∧ (parseMethodDescriptor y.desc).map (fun d => d.parameters.length) = some n) (hrc : rm'.cells = 0) (hrs : rm'.slots = 0) (hR : rm'.frames + 1 ≤ rm.frames ∧ 8 + (maxL + 11) + rm'.locals ≤ rm.locals) (hcl : am_cl[ci]? = some (y.cls, TT, N)) : am_Call l S own rm idx (n + 1) (10 + ci) T := by
  intro p e s m args below meth c cc nL ad ca D A Q X pc vs r I L post H locs lsA hdg hlen hcat hobj hT hsz hP hS kk
  obtain ⟨hx, hb, hml, hown, hU, hN, hK, hD, hsh, hA⟩ := X
  obtain ⟨o, t, fs, rfl, hs⟩ := hobj ci rfl
  have hlen : t.length = n := by simpa using hlen
  rw [am_kind, if_neg (by omega)] at hdg
  have hfree := am_freeA (hD I L) hS hA
  have hG : GoodIn am_U (Cond.code y bytes maxL ret :: am_U) := am_goodU (fun w hw => by rcases List.mem_cons.mp hw with h | h; exact h ▸ hcode; exact h)
  refine am_callR (H := H) (A1 := va_A (am_w S ad ca I L) H.size) (rest := r.map (am_val ad)) (free := va_A (am_w S ad ca I L) H.size) (va_runV (As := t.map (am_val ad)) (b := ad o) ⟨hx, hb, hml, hown, hU⟩ (hM ad ca D H.size (.ref o :: t) I L post hT) ⟨callB_of n hU hG rfl hrc hrs (hU _ hini) (hU _ hl) hd hR, hU _ hi, hU _ hse⟩ ⟨am_blind, va_recv hK hP hcl (am_w_get hs), fun U hU2 hW => ⟨rfl, by rw [hU2], by rw [hU2]; exact hP, va_K.moved hW.alike hK, (hD I L).weaken (fun _ _ _ _ => trivial), am_N_warm hW (fun w hw => va_Nw.of (am_N_tabs hw) (hN w hw))⟩⟩ rfl (by simpa using hlen) hsz ?_ (lv_room (by rw [am_cat_ok]; exact hcat)) hdg ⟨Nat.zero_le _, Nat.zero_le _⟩) hS (fun q _ h => hfree q h) hfree (fun v I' L' H' locs' h1 h2 h3 => ?_)
  · simp [am_val]
  · have := kk v I' L' H' locs' h1 h2 h3
    cases v <;> exact this
theorem am_co_S {l : Launch} {S : List am_C} {own : String} {rm rm' : Room} {idx n : Nat} {y : MethodName} {bytes : ByteArray} {maxL : Nat} {ret : Option FieldType} {T : am_Sp} (hM : am_Met l S y bytes maxL ret rm' T) (hl : Cond.methodLink own idx y ∈ am_U) (hst : Cond.static y ∈ am_U) (hini : Cond.initialized y.cls ∈ am_U) (hcode : Cond.code y bytes maxL ret ∈ am_U)
    (hd : y.cls ≠ "java/lang/invoke/MethodHandle" ∧ y.cls ≠ "java/lang/invoke/VarHandle" ∧ (parseMethodDescriptor y.desc).map (fun d => d.parameters.length) = some n) (hrc : rm'.cells = 0) (hrs : rm'.slots = 0) (hR : rm'.frames + 1 ≤ rm.frames ∧ 8 + (maxL + 11) + rm'.locals ≤ rm.locals) : am_Call l S own rm idx n 0 T := by
  intro p e s m args below meth c cc nL ad ca D A Q X pc vs r I L post H locs lsA hdg hlen hcat hobj hT hsz hP hS kk
  obtain ⟨hx, hb, hml, hown, hU, hN, hK, hD, hsh, hA⟩ := X
  rw [am_kind, if_pos rfl] at hdg
  have hfree := am_freeA (hD I L) hS hA
  have hG : GoodIn am_U (Cond.code y bytes maxL ret :: am_U) := am_goodU (fun w hw => by rcases List.mem_cons.mp hw with h | h; exact h ▸ hcode; exact h)
  refine am_callR (H := H) (A1 := va_A (am_w S ad ca I L) H.size) (rest := r.map (am_val ad)) (free := va_A (am_w S ad ca I L) H.size) (va_runS (As := vs.map (am_val ad)) ⟨hx, hb, hml, hown, hU⟩ (hM ad ca D H.size vs I L post hT) ⟨callB_of n hU hG rfl hrc hrs (hU _ hini) (hU _ hl) hd hR, hU _ hst⟩ ⟨am_blind, fun U hU2 hW => ⟨rfl, by rw [hU2], by rw [hU2]; exact hP, va_K.moved hW.alike hK, (hD I L).weaken (fun _ _ _ _ => trivial), am_N_warm hW (fun w hw => va_Nw.of (am_N_tabs hw) (hN w hw))⟩⟩ rfl (by simpa using hlen) hsz ?_ (lv_room (by rw [am_cat_ok]; exact hcat)) hdg ⟨Nat.zero_le _, Nat.zero_le _⟩) hS (fun q _ h => hfree q h) hfree (fun v I' L' H' locs' h1 h2 h3 => ?_)
  · simp
  · have := kk v I' L' H' locs' h1 h2 h3
    cases v <;> exact this
theorem am_co_SN {l : Launch} {S : List am_C} {own : String} {rm rm' : Room} {idx n : Nat} {y : MethodName} {bytes : ByteArray} {maxL : Nat} {ret : Option FieldType} {T : am_Sp} (hM : am_Met l S y bytes maxL ret rm' T) (hl : Cond.methodLinkNest own idx y "ReadPass" ∈ am_N) (hst : Cond.static y ∈ am_U) (hini : Cond.initialized y.cls ∈ am_U) (hcode : Cond.code y bytes maxL ret ∈ am_U)
    (hd : y.cls ≠ "java/lang/invoke/MethodHandle" ∧ y.cls ≠ "java/lang/invoke/VarHandle" ∧ (parseMethodDescriptor y.desc).map (fun d => d.parameters.length) = some n) (hrc : rm'.cells = 0) (hrs : rm'.slots = 0) (hR : rm'.frames + 1 ≤ rm.frames ∧ 8 + (maxL + 11) + rm'.locals ≤ rm.locals) : am_Call l S own rm idx n 0 T := by
  intro p e s m args below meth c cc nL ad ca D A Q X pc vs r I L post H locs lsA hdg hlen hcat hobj hT hsz hP hS kk
  obtain ⟨hx, hb, hml, hown, hU, hN, hK, hD, hsh, hA⟩ := X
  rw [am_kind, if_pos rfl] at hdg
  have hfree := am_freeA (hD I L) hS hA
  have hG : GoodIn am_U (Cond.code y bytes maxL ret :: am_U) := am_goodU (fun w hw => by rcases List.mem_cons.mp hw with h | h; exact h ▸ hcode; exact h)
  refine am_callR (H := H) (A1 := va_A (am_w S ad ca I L) H.size) (rest := r.map (am_val ad)) (free := va_A (am_w S ad ca I L) H.size) (va_runSN (As := vs.map (am_val ad)) ⟨hx, hb, hml, hown, hU⟩ (hM ad ca D H.size vs I L post hT) ⟨va_cnB n hU hG rfl hrc hrs (va_Nw.of (am_N_tabs hl) (hN _ hl)) (hU _ hini) hd hR, hU _ hst, trivial⟩ ⟨am_blind, fun U hU2 hW => ⟨rfl, by rw [hU2], by rw [hU2]; exact hP, va_K.moved hW.alike hK, (hD I L).weaken (fun _ _ _ _ => trivial), am_N_warm hW (fun w hw => va_Nw.of (am_N_tabs hw) (hN w hw))⟩⟩ rfl (by simpa using hlen) hsz ?_ (lv_room (by rw [am_cat_ok]; exact hcat)) hdg ⟨Nat.zero_le _, Nat.zero_le _⟩) hS (fun q _ h => hfree q h) hfree (fun v I' L' H' locs' h1 h2 h3 => ?_)
  · simp
  · have := kk v I' L' H' locs' h1 h2 h3
    cases v <;> exact this
end
