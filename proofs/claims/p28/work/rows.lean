section
-- ===== PART A: goes FIRST, ahead of the names: the tables' words, and 'selects' of the private methods out of them =====
/-- a private method of a class that the tables say can be made, by its rows of tables_1 -/
def lw_okq (q : MethodName × Nat) : Prop := (q.1.cls ≠ "java/lang/invoke/MethodHandle" ∧ q.1.cls ≠ "java/lang/invoke/VarHandle") ∧ Cond.instantiable q.1.cls q.2 ∈ tables_1 ∧ Cond.privateMethod q.1 ∈ tables_1 ∧ Cond.instanceMethod q.1 ∈ tables_1
theorem lw_p0 : lw_okq (⟨"ReadPass$Tape", "takeWays", "(LReadPass$Road;)Z"⟩, 3) := ⟨⟨by decide +kernel, by decide +kernel⟩, List.mem_of_getElem? (i := 72) (by decide +kernel), List.mem_of_getElem? (i := 330) (by decide +kernel), List.mem_of_getElem? (i := 331) (by decide +kernel)⟩
theorem lw_p1 : lw_okq (⟨"ReadPass$Tape", "take", "(C)Z"⟩, 3) := ⟨⟨by decide +kernel, by decide +kernel⟩, List.mem_of_getElem? (i := 72) (by decide +kernel), List.mem_of_getElem? (i := 334) (by decide +kernel), List.mem_of_getElem? (i := 335) (by decide +kernel)⟩
theorem lw_p2 : lw_okq (⟨"ReadPass$Tape", "sign", "()I"⟩, 3) := ⟨⟨by decide +kernel, by decide +kernel⟩, List.mem_of_getElem? (i := 72) (by decide +kernel), List.mem_of_getElem? (i := 338) (by decide +kernel), List.mem_of_getElem? (i := 339) (by decide +kernel)⟩
theorem lw_p3 : lw_okq (⟨"ReadPass$Tape", "takeWay", "(LReadPass$Road;)Z"⟩, 3) := ⟨⟨by decide +kernel, by decide +kernel⟩, List.mem_of_getElem? (i := 72) (by decide +kernel), List.mem_of_getElem? (i := 342) (by decide +kernel), List.mem_of_getElem? (i := 343) (by decide +kernel)⟩
theorem lw_p4 : lw_okq (⟨"ReadPass$Tape", "digit", "()I"⟩, 3) := ⟨⟨by decide +kernel, by decide +kernel⟩, List.mem_of_getElem? (i := 72) (by decide +kernel), List.mem_of_getElem? (i := 346) (by decide +kernel), List.mem_of_getElem? (i := 347) (by decide +kernel)⟩
theorem lw_p5 : lw_okq (⟨"ReadPass$Tape", "takeStones", "(LReadPass$Road;)Z"⟩, 3) := ⟨⟨by decide +kernel, by decide +kernel⟩, List.mem_of_getElem? (i := 72) (by decide +kernel), List.mem_of_getElem? (i := 354) (by decide +kernel), List.mem_of_getElem? (i := 355) (by decide +kernel)⟩
theorem lw_p6 : lw_okq (⟨"ReadPass$Tape", "takeStone", "(LReadPass$Road;)Z"⟩, 3) := ⟨⟨by decide +kernel, by decide +kernel⟩, List.mem_of_getElem? (i := 72) (by decide +kernel), List.mem_of_getElem? (i := 358) (by decide +kernel), List.mem_of_getElem? (i := 359) (by decide +kernel)⟩
theorem lw_p7 : lw_okq (⟨"ReadPass", "layTrail", "(III)I"⟩, 8) := ⟨⟨by decide +kernel, by decide +kernel⟩, List.mem_of_getElem? (i := 12) (by decide +kernel), List.mem_of_getElem? (i := 399) (by decide +kernel), List.mem_of_getElem? (i := 400) (by decide +kernel)⟩
theorem lw_p8 : lw_okq (⟨"ReadPass$Journey", "look", "(LReadPass$Road;)V"⟩, 10) := ⟨⟨by decide +kernel, by decide +kernel⟩, List.mem_of_getElem? (i := 90) (by decide +kernel), List.mem_of_getElem? (i := 411) (by decide +kernel), List.mem_of_getElem? (i := 412) (by decide +kernel)⟩
theorem lw_p9 : lw_okq (⟨"ReadPass$Journey", "believe", "(LReadPass$Road;II)V"⟩, 10) := ⟨⟨by decide +kernel, by decide +kernel⟩, List.mem_of_getElem? (i := 90) (by decide +kernel), List.mem_of_getElem? (i := 436) (by decide +kernel), List.mem_of_getElem? (i := 437) (by decide +kernel)⟩
theorem lw_p10 : lw_okq (⟨"ReadPass$Journey", "heed", "(LReadPass$Road;I)V"⟩, 10) := ⟨⟨by decide +kernel, by decide +kernel⟩, List.mem_of_getElem? (i := 90) (by decide +kernel), List.mem_of_getElem? (i := 446) (by decide +kernel), List.mem_of_getElem? (i := 447) (by decide +kernel)⟩
theorem lw_p11 : lw_okq (⟨"ReadPass", "leaves", "(IIILReadPass$Sheet;II)Z"⟩, 8) := ⟨⟨by decide +kernel, by decide +kernel⟩, List.mem_of_getElem? (i := 12) (by decide +kernel), List.mem_of_getElem? (i := 480) (by decide +kernel), List.mem_of_getElem? (i := 481) (by decide +kernel)⟩
theorem lw_p12 : lw_okq (⟨"ReadPass", "travel", "(III)V"⟩, 8) := ⟨⟨by decide +kernel, by decide +kernel⟩, List.mem_of_getElem? (i := 12) (by decide +kernel), List.mem_of_getElem? (i := 531) (by decide +kernel), List.mem_of_getElem? (i := 532) (by decide +kernel)⟩
theorem lw_p13 : lw_okq (⟨"ReadPass", "struckOfSize", "(IIZI)I"⟩, 8) := ⟨⟨by decide +kernel, by decide +kernel⟩, List.mem_of_getElem? (i := 12) (by decide +kernel), List.mem_of_getElem? (i := 556) (by decide +kernel), List.mem_of_getElem? (i := 557) (by decide +kernel)⟩
def lw_privs_1 : List (MethodName × Nat) := [(⟨"ReadPass$Tape", "takeWays", "(LReadPass$Road;)Z"⟩, 3), (⟨"ReadPass$Tape", "take", "(C)Z"⟩, 3), (⟨"ReadPass$Tape", "sign", "()I"⟩, 3), (⟨"ReadPass$Tape", "takeWay", "(LReadPass$Road;)Z"⟩, 3), (⟨"ReadPass$Tape", "digit", "()I"⟩, 3), (⟨"ReadPass$Tape", "takeStones", "(LReadPass$Road;)Z"⟩, 3), (⟨"ReadPass$Tape", "takeStone", "(LReadPass$Road;)Z"⟩, 3), (⟨"ReadPass", "layTrail", "(III)I"⟩, 8), (⟨"ReadPass$Journey", "look", "(LReadPass$Road;)V"⟩, 10), (⟨"ReadPass$Journey", "believe", "(LReadPass$Road;II)V"⟩, 10), (⟨"ReadPass$Journey", "heed", "(LReadPass$Road;I)V"⟩, 10), (⟨"ReadPass", "leaves", "(IIILReadPass$Sheet;II)Z"⟩, 8), (⟨"ReadPass", "travel", "(III)V"⟩, 8), (⟨"ReadPass", "struckOfSize", "(IIZI)I"⟩, 8)]
theorem lw_r1 : ∀ q ∈ lw_privs_1, lw_okq q := List.forall_mem_cons.mpr ⟨lw_p0, List.forall_mem_cons.mpr ⟨lw_p1, List.forall_mem_cons.mpr ⟨lw_p2, List.forall_mem_cons.mpr ⟨lw_p3, List.forall_mem_cons.mpr ⟨lw_p4, List.forall_mem_cons.mpr ⟨lw_p5, List.forall_mem_cons.mpr ⟨lw_p6, List.forall_mem_cons.mpr ⟨lw_p7, List.forall_mem_cons.mpr ⟨lw_p8, List.forall_mem_cons.mpr ⟨lw_p9, List.forall_mem_cons.mpr ⟨lw_p10, List.forall_mem_cons.mpr ⟨lw_p11, List.forall_mem_cons.mpr ⟨lw_p12, List.forall_mem_cons.mpr ⟨lw_p13, fun _ h => absurd h List.not_mem_nil⟩⟩⟩⟩⟩⟩⟩⟩⟩⟩⟩⟩⟩⟩
def lw_privs : List (MethodName × Nat) := lw_privs_1
def lw_tbl : List Cond := k2_sels lw_privs ++ tables_1
theorem lw_privs_ok : ∀ q ∈ lw_privs, lw_okq q := lw_r1
end
section
/-! THE SMALL MACHINE, words of it: ints and longs of the world as two functions of (cell, place); what refers to what never changes, and stands in a list of shapes -/
abbrev am_I : Type := Nat → Nat → Int32
abbrev am_J : Type := Nat → Nat → Int64
abbrev am_Lv : Type := List (Option Value)
abbrev am_C : Type := (Nat × List Nat) ⊕ (Nat × Nat × List Nat)
abbrev am_Po : Type := Option Value → am_I → am_J → Prop
abbrev am_Sp : Type := List Value → am_I → am_J → am_Po → Prop
abbrev am_G : Type := Nat → am_Lv → List Value → am_I → am_J → Prop
abbrev am_E : Type := Nat × Instr × Nat × Nat × Nat × Int32 × Int64 × List Nat
/-- the tables' words that a call may hand on -/
def am_U : List Cond := lw_tbl.filter goodWord
theorem am_inU {w : Cond} (i : Nat) (h : lw_tbl[i]? = some w) (hg : goodWord w = true) : w ∈ am_U := List.mem_filter.mpr ⟨List.mem_of_getElem? h, hg⟩
theorem am_Utbl {w : Cond} (h : w ∈ am_U) : w ∈ lw_tbl := (List.mem_filter.mp h).1
theorem am_goodU {ws : List Cond} (h : ∀ w ∈ ws, w ∈ am_U) : GoodIn am_U ws := fun w hw => ⟨h w hw, good_of_word (List.mem_filter.mp (h w hw)).2⟩
def am_val (ad : Nat → Nat) : Value → Value
  | .ref a => .ref (ad a)
  | v => v
theorem am_val_cat (ad : Nat → Nat) (v : Value) : (am_val ad v).category = v.category := by cases v <;> rfl
def am_fv (ad : Nat → Nat) (I : am_I) (L : am_J) (o k : Nat) : Nat → Value
  | 0 => .int (I o k)
  | 1 => .long (L o k)
  | 2 => .int (I o k)
  | n + 3 => .ref (ad n)
def am_fs (ad : Nat → Nat) (I : am_I) (L : am_J) (o : Nat) : Nat → List Nat → List Value
  | _, [] => []
  | k, c :: cs => am_fv ad I L o k c :: am_fs ad I L o (k + 1) cs
def am_cell (ad : Nat → Nat) (ca : Nat → ClassId) (I : am_I) (L : am_J) (o : Nat) : am_C → va_E
  | .inl (ci, fs) => .inr (ci, am_fs ad I L o 0 fs)
  | .inr (0, n, _) => .inl (ca 0, n, .inl (I o))
  | .inr (1, n, _) => .inl (ca 1, n, .inr (.inl (L o)))
  | .inr (2, n, _) => .inl (ca 2, n, .inl (I o))
  | .inr (_ + 3, n, rs) => .inl (ca 3, n, .inr (.inr (.inr (.inr (fun j => (rs[j]?).map ad)))))
def am_ty (ca : Nat → ClassId) : List (ClassId × FieldType) := [(ca 0, .int), (ca 1, .long), (ca 2, .byte), (ca 3, .object "ReadPass$Sheet")]
def am_w (S : List am_C) (ad : Nat → Nat) (ca : Nat → ClassId) (I : am_I) (L : am_J) : va_W := S.mapIdx (fun k c => (ad k, am_cell ad ca I L k c))
def am_ui (I : am_I) (o k : Nat) (x : Int32) : am_I := fun a b => if a = o ∧ b = k then x else I a b
def am_uj (L : am_J) (o k : Nat) (x : Int64) : am_J := fun a b => if a = o ∧ b = k then x else L a b
def am_cpi (I : am_I) (src dst sp dp n : Nat) : am_I := fun a b => if a = dst ∧ (dp ≤ b ∧ b < dp + n) then I src (sp + (b - dp)) else I a b
def am_cpj (L : am_J) (src dst sp dp n : Nat) : am_J := fun a b => if a = dst ∧ (dp ≤ b ∧ b < dp + n) then L src (sp + (b - dp)) else L a b
theorem am_w_get {S : List am_C} {ad : Nat → Nat} {ca : Nat → ClassId} {I : am_I} {L : am_J} {o : Nat} {c : am_C} (h : S[o]? = some c) : (am_w S ad ca I L)[o]? = some (ad o, am_cell ad ca I L o c) := by
  unfold am_w
  rw [List.getElem?_mapIdx, h]
  rfl
theorem am_fs_get {ad : Nat → Nat} {I : am_I} {L : am_J} {o : Nat} : ∀ {fs : List Nat} {i k c : Nat}, fs[k]? = some c → (am_fs ad I L o i fs)[k]? = some (am_fv ad I L o (i + k) c) := by
  intro fs
  induction fs with
  | nil => intro i k c h; simp at h
  | cons x fs ih =>
    intro i k c h
    cases k with
    | zero =>
      simp only [List.getElem?_cons_zero, Option.some.injEq] at h
      subst h
      rfl
    | succ k =>
      rw [List.getElem?_cons_succ] at h
      have h2 := ih (i := i + 1) h
      rw [show i + 1 + k = i + (k + 1) by omega] at h2
      rw [← h2]
      rfl
theorem am_fs_len {ad : Nat → Nat} {I : am_I} {L : am_J} {o : Nat} : ∀ (fs : List Nat) (i : Nat), (am_fs ad I L o i fs).length = fs.length := by
  intro fs
  induction fs with
  | nil => intro i; rfl
  | cons x fs ih => intro i; show (am_fs ad I L o (i + 1) fs).length + 1 = fs.length + 1; rw [ih]
theorem am_fv_congr {ad : Nat → Nat} {I I' : am_I} {L L' : am_J} {o k : Nat} (h1 : I' o k = I o k) (h2 : L' o k = L o k) (c : Nat) : am_fv ad I' L' o k c = am_fv ad I L o k c := by
  match c with
  | 0 => simp [am_fv, h1]
  | 1 => simp [am_fv, h2]
  | 2 => simp [am_fv, h1]
  | n + 3 => rfl
theorem am_fs_congr {ad : Nat → Nat} {I I' : am_I} {L L' : am_J} {o : Nat} : ∀ (fs : List Nat) (i : Nat), (∀ j, i ≤ j → I' o j = I o j ∧ L' o j = L o j) → am_fs ad I' L' o i fs = am_fs ad I L o i fs := by
  intro fs
  induction fs with
  | nil => intro i _; rfl
  | cons x fs ih =>
    intro i h
    show am_fv ad I' L' o i x :: am_fs ad I' L' o (i + 1) fs = _
    rw [ih (i + 1) (fun j hj => h j (by omega)), am_fv_congr (h i (Nat.le_refl i)).1 (h i (Nat.le_refl i)).2]
    rfl
theorem am_fs_set {ad : Nat → Nat} {I I' : am_I} {L L' : am_J} {o : Nat} : ∀ (fs : List Nat) (i k c : Nat), fs[k]? = some c → (∀ j, j ≠ i + k → I' o j = I o j ∧ L' o j = L o j) → (am_fs ad I L o i fs).set k (am_fv ad I' L' o (i + k) c) = am_fs ad I' L' o i fs := by
  intro fs
  induction fs with
  | nil => intro i k c h _; simp at h
  | cons x fs ih =>
    intro i k c h hj
    cases k with
    | zero =>
      simp only [List.getElem?_cons_zero, Option.some.injEq] at h
      subst h
      show am_fv ad I' L' o i x :: am_fs ad I L o (i + 1) fs = am_fv ad I' L' o i x :: am_fs ad I' L' o (i + 1) fs
      rw [am_fs_congr fs (i + 1) (fun j h => hj j (by omega))]
    | succ k =>
      rw [List.getElem?_cons_succ] at h
      have h2 := ih (i + 1) k c h (fun j h => hj j (by omega))
      rw [show i + 1 + k = i + (k + 1) by omega] at h2
      show am_fv ad I L o i x :: (am_fs ad I L o (i + 1) fs).set k (am_fv ad I' L' o (i + (k + 1)) c) = am_fv ad I' L' o i x :: am_fs ad I' L' o (i + 1) fs
      rw [h2, am_fv_congr (hj i (by omega)).1 (hj i (by omega)).2]
theorem am_cell_congr {ad : Nat → Nat} {ca : Nat → ClassId} {I I' : am_I} {L L' : am_J} {o : Nat} (h1 : I' o = I o) (h2 : L' o = L o) (c : am_C) : am_cell ad ca I' L' o c = am_cell ad ca I L o c := by
  match c with
  | .inl (ci, fs) =>
    show Sum.inr (ci, am_fs ad I' L' o 0 fs) = Sum.inr (ci, am_fs ad I L o 0 fs)
    rw [am_fs_congr fs 0 (fun j _ => ⟨by rw [h1], by rw [h2]⟩)]
  | .inr (0, n, rs) => simp [am_cell, h1]
  | .inr (1, n, rs) => simp [am_cell, h2]
  | .inr (2, n, rs) => simp [am_cell, h1]
  | .inr (k + 3, n, rs) => rfl
theorem am_w_set {S : List am_C} {ad : Nat → Nat} {ca : Nat → ClassId} {I I' : am_I} {L L' : am_J} {o : Nat} {c : am_C} (h : S[o]? = some c) (hI : ∀ a, a ≠ o → I' a = I a ∧ L' a = L a) : (am_w S ad ca I L).set o (ad o, am_cell ad ca I' L' o c) = am_w S ad ca I' L' := by
  apply List.ext_getElem?
  intro k
  by_cases hk : k = o
  · subst hk
    rw [am_w_get h, List.getElem?_set_self]
    have := am_w_get (ad := ad) (ca := ca) (I := I) (L := L) h
    exact (List.getElem?_eq_some_iff.mp this).1
  · rw [List.getElem?_set_ne (Ne.symm hk)]
    unfold am_w
    rw [List.getElem?_mapIdx, List.getElem?_mapIdx]
    cases S[k]? with
    | none => rfl
    | some c2 =>
      show some (ad k, am_cell ad ca I L k c2) = some (ad k, am_cell ad ca I' L' k c2)
      rw [am_cell_congr (hI k hk).1 (hI k hk).2]
theorem am_D {S : List am_C} {ad : Nat → Nat} {ca : Nat → ClassId} {I I' : am_I} {L L' : am_J} {A : Nat → Prop} (h : va_D A (am_w S ad ca I L)) : va_D A (am_w S ad ca I' L') := by
  have key : ∀ (k : Nat) (q : Nat × va_E), (am_w S ad ca I' L')[k]? = some q → ∃ e, (am_w S ad ca I L)[k]? = some (q.1, e) := by
    intro k q hq
    unfold am_w at hq ⊢
    rw [List.getElem?_mapIdx] at hq ⊢
    cases hs : S[k]? with
    | none => rw [hs] at hq; cases hq
    | some c =>
      rw [hs] at hq
      cases hq
      exact ⟨_, rfl⟩
  refine ⟨fun i j p q hi hj hpq => ?_, fun k q hk => ?_⟩
  · obtain ⟨e1, h1⟩ := key i p hi
    obtain ⟨e2, h2⟩ := key j q hj
    exact h.1 i j _ _ h1 h2 hpq
  · obtain ⟨e1, h1⟩ := key k q hk
    exact h.2 k (q.1, e1) h1
/-! the locals -/
def am_lc (ad : Nat → Nat) : Nat → am_Lv → List (Nat × Value)
  | _, [] => []
  | k, some v :: t => (k, am_val ad v) :: am_lc ad (k + 1) t
  | k, none :: t => am_lc ad (k + 1) t
theorem am_lc_mem {ad : Nat → Nat} : ∀ (ls : am_Lv) (k : Nat) (q : Nat × Value), q ∈ am_lc ad k ls ↔ ∃ (j : Nat) (v : Value), ls[j]? = some (some v) ∧ q = (k + j, am_val ad v) := by
  intro ls
  induction ls with
  | nil => intro k q; simp [am_lc]
  | cons x ls ih =>
    intro k q
    have key : (∃ (j : Nat) (v : Value), (x :: ls)[j]? = some (some v) ∧ q = (k + j, am_val ad v)) ↔ ((∃ v, x = some v ∧ q = (k, am_val ad v)) ∨ ∃ (j : Nat) (v : Value), ls[j]? = some (some v) ∧ q = (k + 1 + j, am_val ad v)) := by
      constructor
      · rintro ⟨j, v, h1, h2⟩
        cases j with
        | zero => exact Or.inl ⟨v, by simpa using h1, h2⟩
        | succ j => exact Or.inr ⟨j, v, by simpa using h1, by rw [h2, show k + (j + 1) = k + 1 + j by omega]⟩
      · rintro (⟨v, h1, h2⟩ | ⟨j, v, h1, h2⟩)
        · exact ⟨0, v, by simp [h1], h2⟩
        · exact ⟨j + 1, v, by simpa using h1, by rw [h2, show k + (j + 1) = k + 1 + j by omega]⟩
    rw [key, ← ih (k + 1) q]
    cases x with
    | none => simp [am_lc]
    | some v => simp [am_lc]
theorem am_lv_sub {ad : Nat → Nat} {a : Array Slot} {n : Nat} {ls ls2 : am_Lv} (h : lv_has a n (am_lc ad 0 ls)) (hs : ∀ (j : Nat) (v : Value), ls2[j]? = some (some v) → ls[j]? = some (some v)) : lv_has a n (am_lc ad 0 ls2) := by
  refine ⟨h.1, h.2.1, fun q hq => ?_⟩
  obtain ⟨j, v, h1, rfl⟩ := (am_lc_mem ls2 0 q).mp hq
  exact h.2.2 _ ((am_lc_mem ls 0 _).mpr ⟨j, v, hs j v h1, rfl⟩)
theorem am_lv_at {ad : Nat → Nat} {a : Array Slot} {n : Nat} {ls : am_Lv} (h : lv_has a n (am_lc ad 0 ls)) {j : Nat} {v : Value} (hv : ls[j]? = some (some v)) : a[j]? = some (.val (am_val ad v)) := by
  have h1 := h.2.2 (0 + j, am_val ad v) ((am_lc_mem ls 0 _).mpr ⟨j, v, hv, rfl⟩)
  rw [show 0 + j = j by omega] at h1
  exact h1
def am_gl : am_Lv → Nat → (Value → Prop) → Prop
  | [], _, _ => False
  | none :: _, 0, _ => False
  | some v :: _, 0, f => f v
  | _ :: t, n + 1, f => am_gl t n f
theorem am_gl_ok : ∀ {ls : am_Lv} {n : Nat} {f : Value → Prop}, am_gl ls n f → ∃ v, ls[n]? = some (some v) ∧ f v := by
  intro ls
  induction ls with
  | nil => intro n f h; exact h.elim
  | cons x ls ih =>
    intro n f h
    cases n with
    | zero =>
      cases x with
      | none => exact h.elim
      | some v => exact ⟨v, rfl, h⟩
    | succ n =>
      have h' : am_gl ls n f := by cases x <;> exact h
      obtain ⟨v, h1, h2⟩ := ih h'
      exact ⟨v, by simpa using h1, h2⟩
def am_s1 : Nat → Value → am_Lv → (am_Lv → Prop) → Prop
  | 0, v, _ :: t, f => f (some v :: t)
  | 1, v, x :: _ :: t, f => (match x with
    | some (.long _) => f (none :: some v :: t)
    | some (.double _) => f (none :: some v :: t)
    | y => f (y :: some v :: t))
  | n + 2, v, x :: t, f => am_s1 (n + 1) v t (fun t' => f (x :: t'))
  | _, _, _, _ => False
def am_s2 : Nat → Value → am_Lv → (am_Lv → Prop) → Prop
  | 0, v, _ :: _ :: t, f => f (some v :: none :: t)
  | 1, v, x :: _ :: _ :: t, f => (match x with
    | some (.long _) => f (none :: some v :: none :: t)
    | some (.double _) => f (none :: some v :: none :: t)
    | y => f (y :: some v :: none :: t))
  | n + 2, v, x :: t, f => am_s2 (n + 1) v t (fun t' => f (x :: t'))
  | _, _, _, _ => False
theorem am_s1_ok : ∀ (ls : am_Lv) (i : Nat) (v : Value) (f : am_Lv → Prop), am_s1 i v ls f → ∃ ls2, f ls2 ∧ ls2.length = ls.length ∧ i < ls.length ∧ ∀ j u, ls2[j]? = some (some u) → (j = i ∧ u = v) ∨ (ls[j]? = some (some u) ∧ j ≠ i ∧ ¬ (j + 1 = i ∧ u.category = 2)) := by
  intro ls
  induction ls with
  | nil => intro i v f h; match i, h with
    | 0, h => exact h.elim
    | 1, h => exact h.elim
    | n + 2, h => exact h.elim
  | cons x ls ih =>
    intro i v f h
    match i, h with
    | 0, h =>
      refine ⟨_, h, rfl, by simp, fun j u hj => ?_⟩
      cases j with
      | zero => left; simp at hj; exact ⟨rfl, hj.symm⟩
      | succ j => right; exact ⟨by simpa using hj, by omega, by omega⟩
    | 1, h =>
      cases ls with
      | nil => exact h.elim
      | cons y t =>
        have key : ∀ x', (x' = none ∨ (x' = x ∧ ∀ u, x = some u → u.category ≠ 2)) → ∀ (j : Nat) (u : Value), (x' :: some v :: t)[j]? = some (some u) → (j = 1 ∧ u = v) ∨ ((x :: y :: t)[j]? = some (some u) ∧ j ≠ 1 ∧ ¬ (j + 1 = 1 ∧ u.category = 2)) := by
          intro x' hx' j u hj
          match j, hj with
          | 0, hj =>
            right
            rcases hx' with rfl | ⟨rfl, hc⟩
            · simp at hj
            · simp at hj
              exact ⟨by simp [hj], by omega, fun q => hc u hj q.2⟩
          | 1, hj => left; simp at hj; exact ⟨rfl, hj.symm⟩
          | j + 2, hj => right; exact ⟨by simpa using hj, by omega, by omega⟩
        have h2 : (∃ x', (x' = none ∨ (x' = x ∧ ∀ u, x = some u → u.category ≠ 2)) ∧ f (x' :: some v :: t)) := by
          match x, h with
          | none, h => exact ⟨none, Or.inl rfl, h⟩
          | some (.long a), h => exact ⟨none, Or.inl rfl, h⟩
          | some (.double a), h => exact ⟨none, Or.inl rfl, h⟩
          | some (.int a), h => exact ⟨_, Or.inr ⟨rfl, fun u hu => by cases hu; exact (by simp [Value.category])⟩, h⟩
          | some (.float a), h => exact ⟨_, Or.inr ⟨rfl, fun u hu => by cases hu; exact (by simp [Value.category])⟩, h⟩
          | some .null, h => exact ⟨_, Or.inr ⟨rfl, fun u hu => by cases hu; exact (by simp [Value.category])⟩, h⟩
          | some (.ref a), h => exact ⟨_, Or.inr ⟨rfl, fun u hu => by cases hu; exact (by simp [Value.category])⟩, h⟩
          | some (.retAddr a), h => exact ⟨_, Or.inr ⟨rfl, fun u hu => by cases hu; exact (by simp [Value.category])⟩, h⟩
        obtain ⟨x', hx', hf⟩ := h2
        exact ⟨_, hf, by simp, by simp, key x' hx'⟩
    | n + 2, h =>
      obtain ⟨ls2, h1, h2, h3, h4⟩ := ih (n + 1) v _ h
      refine ⟨_, h1, by simp [h2], by simp; omega, fun j u hj => ?_⟩
      cases j with
      | zero => right; exact ⟨by simpa using hj, by omega, by omega⟩
      | succ j =>
        rcases h4 j u (by simpa using hj) with ⟨a, b⟩ | ⟨a, b, c⟩
        · left; exact ⟨by omega, b⟩
        · right; exact ⟨by simpa using a, by omega, fun q => c ⟨by omega, q.2⟩⟩
theorem am_s2_ok : ∀ (ls : am_Lv) (i : Nat) (v : Value) (f : am_Lv → Prop), am_s2 i v ls f → ∃ ls2, f ls2 ∧ ls2.length = ls.length ∧ i + 1 < ls.length ∧ ∀ j u, ls2[j]? = some (some u) → (j = i ∧ u = v) ∨ (ls[j]? = some (some u) ∧ j ≠ i ∧ j ≠ i + 1 ∧ ¬ (j + 1 = i ∧ u.category = 2)) := by
  intro ls
  induction ls with
  | nil => intro i v f h; match i, h with
    | 0, h => exact h.elim
    | 1, h => exact h.elim
    | n + 2, h => exact h.elim
  | cons x ls ih =>
    intro i v f h
    match i, h with
    | 0, h =>
      cases ls with
      | nil => exact h.elim
      | cons y t =>
        refine ⟨_, h, by simp, by simp, fun j u hj => ?_⟩
        match j, hj with
        | 0, hj => left; simp at hj; exact ⟨rfl, hj.symm⟩
        | 1, hj => simp at hj
        | j + 2, hj => right; exact ⟨by simpa using hj, by omega, by omega, by omega⟩
    | 1, h =>
      match ls, h with
      | [], h => exact h.elim
      | [y], h => exact h.elim
      | y :: y2 :: t, h =>
        have key : ∀ x', (x' = none ∨ (x' = x ∧ ∀ u, x = some u → u.category ≠ 2)) → ∀ (j : Nat) (u : Value), (x' :: some v :: none :: t)[j]? = some (some u) → (j = 1 ∧ u = v) ∨ ((x :: y :: y2 :: t)[j]? = some (some u) ∧ j ≠ 1 ∧ j ≠ 1 + 1 ∧ ¬ (j + 1 = 1 ∧ u.category = 2)) := by
          intro x' hx' j u hj
          match j, hj with
          | 0, hj =>
            right
            rcases hx' with rfl | ⟨rfl, hc⟩
            · simp at hj
            · simp at hj
              exact ⟨by simp [hj], by omega, by omega, fun q => hc u hj q.2⟩
          | 1, hj => left; simp at hj; exact ⟨rfl, hj.symm⟩
          | 2, hj => simp at hj
          | j + 3, hj => right; exact ⟨by simpa using hj, by omega, by omega, by omega⟩
        have h2 : (∃ x', (x' = none ∨ (x' = x ∧ ∀ u, x = some u → u.category ≠ 2)) ∧ f (x' :: some v :: none :: t)) := by
          match x, h with
          | none, h => exact ⟨none, Or.inl rfl, h⟩
          | some (.long a), h => exact ⟨none, Or.inl rfl, h⟩
          | some (.double a), h => exact ⟨none, Or.inl rfl, h⟩
          | some (.int a), h => exact ⟨_, Or.inr ⟨rfl, fun u hu => by cases hu; exact (by simp [Value.category])⟩, h⟩
          | some (.float a), h => exact ⟨_, Or.inr ⟨rfl, fun u hu => by cases hu; exact (by simp [Value.category])⟩, h⟩
          | some .null, h => exact ⟨_, Or.inr ⟨rfl, fun u hu => by cases hu; exact (by simp [Value.category])⟩, h⟩
          | some (.ref a), h => exact ⟨_, Or.inr ⟨rfl, fun u hu => by cases hu; exact (by simp [Value.category])⟩, h⟩
          | some (.retAddr a), h => exact ⟨_, Or.inr ⟨rfl, fun u hu => by cases hu; exact (by simp [Value.category])⟩, h⟩
        obtain ⟨x', hx', hf⟩ := h2
        exact ⟨_, hf, by simp, by simp, key x' hx'⟩
    | n + 2, h =>
      obtain ⟨ls2, h1, h2, h3, h4⟩ := ih (n + 1) v _ h
      refine ⟨_, h1, by simp [h2], by simp; omega, fun j u hj => ?_⟩
      cases j with
      | zero => right; exact ⟨by simpa using hj, by omega, by omega, by omega⟩
      | succ j =>
        rcases h4 j u (by simpa using hj) with ⟨a, b⟩ | ⟨a, b, c, d⟩
        · left; exact ⟨by omega, b⟩
        · right; exact ⟨by simpa using a, by omega, by omega, fun q => d ⟨by omega, q.2⟩⟩
def am_keep : List Nat → am_Lv → (am_Lv → Prop) → Prop
  | [], ls, f => f ls
  | _ :: _, [], f => f []
  | 0 :: m, _ :: t, f => am_keep m t (fun t' => f (none :: t'))
  | (_ + 1) :: m, x :: t, f => am_keep m t (fun t' => f (x :: t'))
theorem am_keep_ok : ∀ (m : List Nat) (ls : am_Lv) (f : am_Lv → Prop), am_keep m ls f → ∃ ls2, f ls2 ∧ ls2.length = ls.length ∧ ∀ (j : Nat) (u : Value), ls2[j]? = some (some u) → ls[j]? = some (some u) := by
  intro m
  induction m with
  | nil => intro ls f h; exact ⟨ls, h, rfl, fun _ _ h => h⟩
  | cons a m ih =>
    intro ls f h
    cases ls with
    | nil => exact ⟨[], h, rfl, fun _ _ h => h⟩
    | cons x t =>
      cases a with
      | zero =>
        obtain ⟨l2, h1, h2, h3⟩ := ih t _ h
        refine ⟨_, h1, by simp [h2], fun j u hj => ?_⟩
        cases j with
        | zero => simp at hj
        | succ j => simpa using h3 j u (by simpa using hj)
      | succ a =>
        obtain ⟨l2, h1, h2, h3⟩ := ih t _ h
        refine ⟨_, h1, by simp [h2], fun j u hj => ?_⟩
        cases j with
        | zero => simpa using hj
        | succ j => simpa using h3 j u (by simpa using hj)
def am_tk : Nat → List Value → List Value → (List Value → List Value → Prop) → Prop
  | 0, st, acc, f => f acc st
  | n + 1, v :: st, acc, f => am_tk n st (v :: acc) f
  | _ + 1, [], _, _ => False
theorem am_tk_ok : ∀ (n : Nat) (st acc : List Value) (f : List Value → List Value → Prop), am_tk n st acc f → ∃ vs r, f (vs ++ acc) r ∧ vs.length = n ∧ st = vs.reverse ++ r := by
  intro n
  induction n with
  | zero => intro st acc f h; exact ⟨[], st, h, rfl, rfl⟩
  | succ n ih =>
    intro st acc f h
    cases st with
    | nil => exact h.elim
    | cons v st =>
      obtain ⟨vs, r, h1, h2, h3⟩ := ih st (v :: acc) f h
      exact ⟨vs ++ [v], r, by simpa using h1, by simp [h2], by simp [h3]⟩
def am_cat : List Value → Nat
  | [] => 0
  | v :: r => v.category + am_cat r
theorem am_cat_ok (ad : Nat → Nat) : ∀ (st : List Value), ((st.map (am_val ad)).map fun v => v.category).sum = am_cat st := by
  intro st
  induction st with
  | nil => rfl
  | cons v r ih => simp [am_cat, am_val_cat, ← ih]
def am_sh : List am_C → Nat → (am_C → Prop) → Prop
  | [], _, _ => False
  | c :: _, 0, f => f c
  | _ :: t, n + 1, f => am_sh t n f
theorem am_sh_ok : ∀ {S : List am_C} {n : Nat} {f : am_C → Prop}, am_sh S n f → ∃ c, S[n]? = some c ∧ f c := by
  intro S
  induction S with
  | nil => intro n f h; exact h.elim
  | cons x S ih =>
    intro n f h
    cases n with
    | zero => exact ⟨x, rfl, h⟩
    | succ n => obtain ⟨c, h1, h2⟩ := ih h; exact ⟨c, by simpa using h1, h2⟩
def am_fc : List Nat → Nat → (Nat → Prop) → Prop
  | [], _, _ => False
  | c :: _, 0, f => f c
  | _ :: t, n + 1, f => am_fc t n f
theorem am_fc_ok : ∀ {S : List Nat} {n : Nat} {f : Nat → Prop}, am_fc S n f → ∃ c, S[n]? = some c ∧ f c := by
  intro S
  induction S with
  | nil => intro n f h; exact h.elim
  | cons x S ih =>
    intro n f h
    cases n with
    | zero => exact ⟨x, rfl, h⟩
    | succ n => obtain ⟨c, h1, h2⟩ := ih h; exact ⟨c, by simpa using h1, h2⟩
def am_al : List Nat → Nat → Int32 → (Nat → Prop) → Prop
  | [], _, _, _ => True
  | r :: t, j, i, f => (i = Int32.ofNat j → f r) ∧ am_al t (j + 1) i f
theorem am_al_ok : ∀ (rs : List Nat) (j : Nat) (i : Int32) (f : Nat → Prop), am_al rs j i f → ∀ k r, rs[k]? = some r → i = Int32.ofNat (j + k) → f r := by
  intro rs
  induction rs with
  | nil => intro j i f _ k r h; simp at h
  | cons x rs ih =>
    intro j i f h k r hk hi
    cases k with
    | zero => simp at hk; subst hk; exact h.1 hi
    | succ k => exact ih (j + 1) i f h.2 k r (by simpa using hk) (by rw [hi, show j + (k + 1) = j + 1 + k by omega])
def am_ts : List Nat → Nat → Int32 → (Nat → Prop) → Nat → Prop
  | [], _, _, f, d => f d
  | t :: ts, n, a, f, d => (a = Int32.ofNat n → f t) ∧ (¬ a = Int32.ofNat n → am_ts ts (n + 1) a f d)
theorem am_ts_ok : ∀ (ts : List Nat) (n : Nat) (a : Int32) (f : Nat → Prop) (d : Nat), am_ts ts n a f d → (∃ k t, ts[k]? = some t ∧ a = Int32.ofNat (n + k) ∧ f t) ∨ ((∀ k, k < ts.length → ¬ a = Int32.ofNat (n + k)) ∧ f d) := by
  intro ts
  induction ts with
  | nil => intro n a f d h; exact Or.inr ⟨fun k hk => by simp at hk, h⟩
  | cons t ts ih =>
    intro n a f d h
    by_cases ha : a = Int32.ofNat n
    · exact Or.inl ⟨0, t, rfl, ha, h.1 ha⟩
    · rcases ih (n + 1) a f d (h.2 ha) with ⟨k, u, h1, h2, h3⟩ | ⟨h1, h2⟩
      · exact Or.inl ⟨k + 1, u, by simpa using h1, by rw [h2, show n + 1 + k = n + (k + 1) by omega], h3⟩
      · refine Or.inr ⟨fun k hk => ?_, h2⟩
        cases k with
        | zero => exact ha
        | succ k => rw [show n + (k + 1) = n + 1 + k by omega]; exact h1 k (by simpa using hk)
def am_fd : List am_E → Nat → (am_E → Prop) → Prop
  | [], _, _ => False
  | q :: t, pc, f => match Nat.beq q.1 pc with
    | true => f q
    | false => am_fd t pc f
theorem am_fd_ok : ∀ {code : List am_E} {pc : Nat} {f : am_E → Prop}, am_fd code pc f → ∃ q, q ∈ code ∧ q.1 = pc ∧ f q := by
  intro code
  induction code with
  | nil => intro pc f h; exact h.elim
  | cons x code ih =>
    intro pc f h
    unfold am_fd at h
    cases hb : Nat.beq x.1 pc with
    | true => rw [hb] at h; exact ⟨x, List.mem_cons_self, Nat.eq_of_beq_eq_true hb, h⟩
    | false =>
      rw [hb] at h
      obtain ⟨q, h1, h2, h3⟩ := ih h
      exact ⟨q, List.mem_cons_of_mem _ h1, h2, h3⟩
def am_ct : List (Nat × List Nat) → Nat → (List Nat → Prop) → Prop → Prop
  | [], _, _, d => d
  | q :: t, pc, f, d => match Nat.beq q.1 pc with
    | true => f q.2
    | false => am_ct t pc f d
theorem am_ct_ok : ∀ {cuts : List (Nat × List Nat)} {pc : Nat} {f : List Nat → Prop} {d : Prop}, am_ct cuts pc f d → (∃ m, f m) ∨ d := by
  intro cuts
  induction cuts with
  | nil => intro pc f d h; exact Or.inr h
  | cons x cuts ih =>
    intro pc f d h
    unfold am_ct at h
    cases hb : Nat.beq x.1 pc with
    | true => rw [hb] at h; exact Or.inl ⟨_, h⟩
    | false => rw [hb] at h; exact ih h
def am_en : List Value → am_Lv
  | [] => []
  | v :: vs => match v with
    | .long a => some (.long a) :: none :: am_en vs
    | .double a => some (.double a) :: none :: am_en vs
    | v => some v :: am_en vs
def am_pad : Nat → am_Lv → am_Lv
  | 0, ls => ls
  | n + 1, [] => none :: am_pad n []
  | n + 1, x :: ls => x :: am_pad n ls
def am_ent (vs : List Value) (n : Nat) : am_Lv := am_pad n (am_en vs)
theorem am_en_cons (v : Value) (vs : List Value) : am_en (v :: vs) = some v :: ((if v.category = 2 then [none] else []) ++ am_en vs) := by
  cases v <;> simp [am_en, Value.category]
theorem am_pad_len : ∀ (n : Nat) (ls : am_Lv), ls.length ≤ n → (am_pad n ls).length = n := by
  intro n
  induction n with
  | zero => intro ls h; simpa [am_pad] using h
  | succ n ih =>
    intro ls h
    cases ls with
    | nil => simp [am_pad, ih]
    | cons x ls => simp at h; simp [am_pad, ih ls h]
theorem am_pad_at : ∀ (n : Nat) (ls : am_Lv) (j : Nat) (v : Value), (am_pad n ls)[j]? = some (some v) → ls[j]? = some (some v) := by
  intro n
  induction n with
  | zero => intro ls j v h; exact h
  | succ n ih =>
    intro ls j v h
    cases ls with
    | nil =>
      cases j with
      | zero => simp [am_pad] at h
      | succ j =>
        have := ih [] j v (by simpa [am_pad] using h)
        simp at this
    | cons x ls =>
      cases j with
      | zero => simpa [am_pad] using h
      | succ j => simpa using ih ls j v (by simpa [am_pad] using h)
theorem am_en_sub {ad : Nat → Nat} : ∀ (vs : List Value) (k : Nat) (q : Nat × Value), q ∈ am_lc ad k (am_en vs) → q ∈ lv_args k (vs.map (am_val ad)) := by
  intro vs
  induction vs with
  | nil => intro k q h; exact h
  | cons v vs ih =>
    intro k q h
    rw [am_en_cons] at h
    have e : lv_args k ((v :: vs).map (am_val ad)) = (k, am_val ad v) :: lv_args (if v.category = 2 then k + 2 else k + 1) (vs.map (am_val ad)) := by
      show (k, am_val ad v) :: lv_args (if (am_val ad v).category = 2 then k + 2 else k + 1) (vs.map (am_val ad)) = _
      rw [am_val_cat]
    rw [e]
    by_cases hc : v.category = 2
    · rw [if_pos hc] at h ⊢
      rcases List.mem_cons.mp h with h | h
      · exact List.mem_cons.mpr (Or.inl h)
      · exact List.mem_cons_of_mem _ (ih (k + 2) q h)
    · rw [if_neg hc] at h ⊢
      rcases List.mem_cons.mp h with h | h
      · exact List.mem_cons.mpr (Or.inl h)
      · exact List.mem_cons_of_mem _ (ih (k + 1) q h)
theorem am_en_len : ∀ (ad : Nat → Nat) (vs : List Value), (lg_sl (vs.map (am_val ad))).length = (am_en vs).length := by
  intro ad vs
  induction vs with
  | nil => rfl
  | cons v vs ih =>
    rw [am_en_cons]
    have : lg_sl ((v :: vs).map (am_val ad)) = (if (am_val ad v).category = 2 then [Slot.val (am_val ad v), .second] else [.val (am_val ad v)]) ++ lg_sl (vs.map (am_val ad)) := rfl
    rw [this, am_val_cat]
    by_cases hc : v.category = 2
    · simp [hc, ih]
    · simp [hc, ih]
end
section
/-! the classes of the world: 0 ReadPass, 1 Road, 2 Tape, 3 Journey, 4 Seen, 5 Sheet, 6 ReadPassModel -/
def am_T0 : u_T := fun k => match k with
  | 0 => ("ReadPass", "road", "LReadPass$Road;", true)
  | 1 => ("ReadPass", "kept", "LReadPass$Road;", true)
  | 2 => ("ReadPass", "draft", "LReadPass$Road;", true)
  | 3 => ("ReadPass", "tape", "LReadPass$Tape;", true)
  | 4 => ("ReadPass", "journey", "LReadPass$Journey;", true)
  | 5 => ("ReadPass", "sheets", "[LReadPass$Sheet;", true)
  | 6 => ("ReadPass", "trail", "[I", true)
  | _ => ("ReadPass", "hasImage", "Z", false)
def am_T1 : u_T := fun k => match k with
  | 0 => ("ReadPass$Road", "lesser", "[I", true)
  | 1 => ("ReadPass$Road", "greater", "[I", true)
  | 2 => ("ReadPass$Road", "joints", "[I", true)
  | 3 => ("ReadPass$Road", "sides", "[I", true)
  | 4 => ("ReadPass$Road", "abouts", "[I", true)
  | 5 => ("ReadPass$Road", "ways", "I", false)
  | 6 => ("ReadPass$Road", "doubtful", "I", false)
  | 7 => ("ReadPass$Road", "covered", "I", false)
  | 8 => ("ReadPass$Road", "stones", "I", false)
  | 9 => ("ReadPass$Road", "goal", "I", false)
  | 10 => ("ReadPass$Road", "net", "J", false)
  | _ => ("ReadPass$Road", "clearNet", "J", false)
def am_T2 : u_T := fun k => match k with
  | 0 => ("ReadPass$Tape", "bytes", "[B", true)
  | 1 => ("ReadPass$Tape", "length", "I", false)
  | _ => ("ReadPass$Tape", "spot", "I", false)
def am_T3 : u_T := fun k => match k with
  | 0 => ("ReadPass$Journey", "seen", "LReadPass$Seen;", true)
  | 1 => ("ReadPass$Journey", "kind", "I", false)
  | 2 => ("ReadPass$Journey", "snow", "I", false)
  | 3 => ("ReadPass$Journey", "stones", "I", false)
  | 4 => ("ReadPass$Journey", "place", "I", false)
  | 5 => ("ReadPass$Journey", "target", "I", false)
  | 6 => ("ReadPass$Journey", "steps", "I", false)
  | 7 => ("ReadPass$Journey", "ending", "I", false)
  | 8 => ("ReadPass$Journey", "believedShut", "I", false)
  | _ => ("ReadPass$Journey", "believedNet", "J", false)
def am_T4 : u_T := fun k => match k with
  | 0 => ("ReadPass$Seen", "words", "[J", true)
  | 1 => ("ReadPass$Seen", "used", "[I", true)
  | _ => ("ReadPass$Seen", "count", "I", false)
def am_T5 : u_T := fun k => match k with
  | 0 => ("ReadPass$Sheet", "items", "[J", true)
  | 1 => ("ReadPass$Sheet", "lane", "I", false)
  | _ => ("ReadPass$Sheet", "length", "I", false)
abbrev am_cl : List vw_C := [("ReadPass", am_T0, 8), ("ReadPass$Road", am_T1, 12), ("ReadPass$Tape", am_T2, 3), ("ReadPass$Journey", am_T3, 10), ("ReadPass$Seen", am_T4, 3), ("ReadPass$Sheet", am_T5, 3)]
def am_fchk (own : String) (idx ci k pos : Nat) (put : Bool) : Bool := match am_cl[ci]? with
  | none => false
  | some (C, T, N) => decide (k < N) && (decide ((T k).1 = C) && ((decide (lw_tbl[pos]? = some (.fieldLink own idx C (T k).2.1 (T k).2.2.1)) || decide (lw_tbl[pos]? = some (.fieldLinkNest own idx C (T k).2.1 (T k).2.2.1 "ReadPass"))) && (!put || decide ((T k).2.2.2 = false))))
def am_len (y : Nat) : Instr → Nat
  | .bipush _ | .iload _ | .lload _ | .aload _ | .istore _ | .lstore _ | .astore _ | .ldc _ | .newarray _ => 2
  | .sipush _ | .ldc_w _ | .ldc2_w _ | .iinc _ _ | .ifCond _ _ | .if_icmp _ _ | .goto _ | .getfield _ | .putfield _ | .invokevirtual _ | .invokestatic _ | .invokespecial _ | .new _ | .anewarray _ => 3
  | .tableswitch _ _ _ _ | .lookupswitch _ _ => y
  | _ => 1
def am_hd (ws : List Nat) : Nat := match ws with
  | [] => 0
  | a :: _ => a
/-- an entry of a code table says what the bytes say; keys: the calls (entry of the pool, how many values, how it is called) -/
def am_chk (own : String) (cc : ByteArray) (keys : List (Nat × Nat × Nat)) (q : am_E) : Bool := match q with
  | (pc, i, nx, x, y, z, zl, ws) => decide (decode cc pc = .ok (i, am_len y i)) && (decide (nx = pc + am_len y i) && (match i with
    | .iconst n => decide (Int32.ofInt n = z)
    | .bipush n => decide ((Int8.ofInt n).toInt32 = z)
    | .sipush n => decide ((Int16.ofInt n).toInt32 = z)
    | .lconst n => decide (Int64.ofNat n.val = zl)
    | .iinc _ n => decide (Int32.ofInt n = z)
    | .ldc idx => decide (lw_tbl[x]? = some (.constant own idx z))
    | .ldc_w idx => decide (lw_tbl[x]? = some (.constant own idx z))
    | .ldc2_w idx => decide (lw_tbl[x]? = some (.constantLong own idx zl))
    | .ifCond _ off => decide ((pc : Int) + off = (x : Int))
    | .if_icmp _ off => decide ((pc : Int) + off = (x : Int))
    | .goto off => decide ((pc : Int) + off = (x : Int))
    | .getfield idx => am_fchk own idx x y (am_hd ws) false
    | .putfield idx => am_fchk own idx x y (am_hd ws) true
    | .invokevirtual idx => decide (x = idx) && decide ((idx, y, 10 + am_hd ws) ∈ keys)
    | .invokestatic idx => decide (x = idx) && decide ((idx, y, 0) ∈ keys)
    | .tableswitch d lo hi offs => decide (lo = 0) && (decide (hi + 1 = (ws.length : Int)) && (decide ((pc : Int) + d = (x : Int)) && (decide (ws.length < 100) && decide (offs.toList.map (fun o => (pc : Int) + o) = ws.map Int.ofNat))))
    | .lookupswitch d ps => decide (ps.toList.map (fun q => q.1) = (List.range ws.length).map Int.ofNat) && (decide ((pc : Int) + d = (x : Int)) && (decide (ws.length < 100) && decide (ps.toList.map (fun q => (pc : Int) + q.2) = ws.map Int.ofNat)))
    | _ => true))
/-- one instruction -/
def am_st (S : List am_C) (sp : Nat → am_Sp) (rb : Bool) (post : am_Po) (K : am_G) (q : am_E) (ls : am_Lv) (st : List Value) (I : am_I) (L : am_J) : Prop := match q with
  | (_, i, nx, x, y, z, zl, ws) => match i with
    | .iconst _ => K nx ls (.int z :: st) I L
    | .bipush _ => K nx ls (.int z :: st) I L
    | .sipush _ => K nx ls (.int z :: st) I L
    | .ldc _ => K nx ls (.int z :: st) I L
    | .ldc_w _ => K nx ls (.int z :: st) I L
    | .lconst _ => K nx ls (.long zl :: st) I L
    | .ldc2_w _ => K nx ls (.long zl :: st) I L
    | .iload k => am_gl ls k (fun v => match v with | .int a => K nx ls (.int a :: st) I L | _ => False)
    | .iload_n k => am_gl ls k.val (fun v => match v with | .int a => K nx ls (.int a :: st) I L | _ => False)
    | .lload k => am_gl ls k (fun v => match v with | .long a => K nx ls (.long a :: st) I L | _ => False)
    | .lload_n k => am_gl ls k.val (fun v => match v with | .long a => K nx ls (.long a :: st) I L | _ => False)
    | .aload k => am_gl ls k (fun v => match v with | .ref a => K nx ls (.ref a :: st) I L | _ => False)
    | .aload_n k => am_gl ls k.val (fun v => match v with | .ref a => K nx ls (.ref a :: st) I L | _ => False)
    | .istore k => (match st with | .int a :: r => am_s1 k (.int a) ls (fun l2 => K nx l2 r I L) | _ => False)
    | .istore_n k => (match st with | .int a :: r => am_s1 k.val (.int a) ls (fun l2 => K nx l2 r I L) | _ => False)
    | .lstore k => (match st with | .long a :: r => am_s2 k (.long a) ls (fun l2 => K nx l2 r I L) | _ => False)
    | .lstore_n k => (match st with | .long a :: r => am_s2 k.val (.long a) ls (fun l2 => K nx l2 r I L) | _ => False)
    | .astore k => (match st with | .ref a :: r => am_s1 k (.ref a) ls (fun l2 => K nx l2 r I L) | _ => False)
    | .astore_n k => (match st with | .ref a :: r => am_s1 k.val (.ref a) ls (fun l2 => K nx l2 r I L) | _ => False)
    | .iinc k _ => am_gl ls k (fun v => match v with | .int a => am_s1 k (.int (a + z)) ls (fun l2 => K nx l2 st I L) | _ => False)
    | .iadd => (match st with | .int b :: .int a :: r => K nx ls (.int (a + b) :: r) I L | _ => False)
    | .isub => (match st with | .int b :: .int a :: r => K nx ls (.int (a - b) :: r) I L | _ => False)
    | .imul => (match st with | .int b :: .int a :: r => K nx ls (.int (a * b) :: r) I L | _ => False)
    | .iand => (match st with | .int b :: .int a :: r => K nx ls (.int (a &&& b) :: r) I L | _ => False)
    | .ior => (match st with | .int b :: .int a :: r => K nx ls (.int (a ||| b) :: r) I L | _ => False)
    | .ixor => (match st with | .int b :: .int a :: r => K nx ls (.int (a ^^^ b) :: r) I L | _ => False)
    | .idiv => (match st with | .int b :: .int a :: r => (¬ b = 0) ∧ K nx ls (.int (a / b) :: r) I L | _ => False)
    | .irem => (match st with | .int b :: .int a :: r => (¬ b = 0) ∧ K nx ls (.int (a - a / b * b) :: r) I L | _ => False)
    | .ishl => (match st with | .int b :: .int a :: r => K nx ls (.int (a <<< (b &&& 31)) :: r) I L | _ => False)
    | .ishr => (match st with | .int b :: .int a :: r => K nx ls (.int (a >>> (b &&& 31)) :: r) I L | _ => False)
    | .iushr => (match st with | .int b :: .int a :: r => K nx ls (.int (a.toUInt32 >>> (b.toUInt32 &&& Int32.toUInt32 31)).toInt32 :: r) I L | _ => False)
    | .ladd => (match st with | .long b :: .long a :: r => K nx ls (.long (a + b) :: r) I L | _ => False)
    | .land => (match st with | .long b :: .long a :: r => K nx ls (.long (a &&& b) :: r) I L | _ => False)
    | .lor => (match st with | .long b :: .long a :: r => K nx ls (.long (a ||| b) :: r) I L | _ => False)
    | .lxor => (match st with | .long b :: .long a :: r => K nx ls (.long (a ^^^ b) :: r) I L | _ => False)
    | .lshl => (match st with | .int b :: .long a :: r => K nx ls (.long (a <<< (b.toInt64 &&& 63)) :: r) I L | _ => False)
    | .lshr => (match st with | .int b :: .long a :: r => K nx ls (.long (a >>> (b.toInt64 &&& 63)) :: r) I L | _ => False)
    | .lushr => (match st with | .int b :: .long a :: r => K nx ls (.long (a.toUInt64 >>> (b.toInt64.toUInt64 &&& Int64.toUInt64 63)).toInt64 :: r) I L | _ => False)
    | .lcmp => (match st with | .long b :: .long a :: r => K nx ls (.int (lg_cmp a b) :: r) I L | _ => False)
    | .i2l => (match st with | .int a :: r => K nx ls (.long a.toInt64 :: r) I L | _ => False)
    | .l2i => (match st with | .long a :: r => K nx ls (.int a.toInt32 :: r) I L | _ => False)
    | .i2b => (match st with | .int a :: r => K nx ls (.int a.toInt8.toInt32 :: r) I L | _ => False)
    | .i2s => (match st with | .int a :: r => K nx ls (.int a.toInt16.toInt32 :: r) I L | _ => False)
    | .dup => (match st with | v :: r => (match Nat.beq v.category 1 with | true => K nx ls (v :: v :: r) I L | false => False) | _ => False)
    | .dup2 => (match st with | v :: w :: r => (match Nat.beq v.category 1 with | true => (match Nat.beq w.category 1 with | true => K nx ls (v :: w :: v :: w :: r) I L | false => False) | false => False) | _ => False)
    | .goto _ => K x ls st I L
    | .ifCond cd _ => (match st with
      | .int a :: r => (match cd with
        | .eq => (a = 0 → K x ls r I L) ∧ (¬ a = 0 → K nx ls r I L)
        | .ne => (¬ a = 0 → K x ls r I L) ∧ (a = 0 → K nx ls r I L)
        | .lt => (a < 0 → K x ls r I L) ∧ (¬ a < 0 → K nx ls r I L)
        | .ge => (¬ a < 0 → K x ls r I L) ∧ (a < 0 → K nx ls r I L)
        | .gt => (0 < a → K x ls r I L) ∧ (¬ 0 < a → K nx ls r I L)
        | .le => (¬ 0 < a → K x ls r I L) ∧ (0 < a → K nx ls r I L))
      | _ => False)
    | .if_icmp cd _ => (match st with
      | .int b :: .int a :: r => (match cd with
        | .eq => (a = b → K x ls r I L) ∧ (¬ a = b → K nx ls r I L)
        | .ne => (¬ a = b → K x ls r I L) ∧ (a = b → K nx ls r I L)
        | .lt => (a < b → K x ls r I L) ∧ (¬ a < b → K nx ls r I L)
        | .ge => (¬ a < b → K x ls r I L) ∧ (a < b → K nx ls r I L)
        | .gt => (b < a → K x ls r I L) ∧ (¬ b < a → K nx ls r I L)
        | .le => (¬ b < a → K x ls r I L) ∧ (b < a → K nx ls r I L))
      | _ => False)
    | .tableswitch _ _ _ _ => (match st with | .int a :: r => am_ts ws 0 a (fun t => K t ls r I L) x | _ => False)
    | .lookupswitch _ _ => (match st with | .int a :: r => am_ts ws 0 a (fun t => K t ls r I L) x | _ => False)
    | .getfield _ => (match st with
      | .ref o :: r => am_sh S o (fun c => match c with
        | .inl (ci, fs) => (match Nat.beq ci x with
          | true => am_fc fs y (fun code => match code with
            | 0 => K nx ls (.int (I o y) :: r) I L
            | 1 => K nx ls (.long (L o y) :: r) I L
            | 2 => K nx ls (.int (I o y) :: r) I L
            | n + 3 => K nx ls (.ref n :: r) I L)
          | false => False)
        | _ => False)
      | _ => False)
    | .putfield _ => (match st with
      | .int a :: .ref o :: r => am_sh S o (fun c => match c with
        | .inl (ci, fs) => (match Nat.beq ci x with
          | true => am_fc fs y (fun code => match code with
            | 0 => K nx ls r (am_ui I o y a) L
            | 2 => (a = 0 ∨ a = 1) ∧ K nx ls r (am_ui I o y a) L
            | _ => False)
          | false => False)
        | _ => False)
      | .long a :: .ref o :: r => am_sh S o (fun c => match c with
        | .inl (ci, fs) => (match Nat.beq ci x with
          | true => am_fc fs y (fun code => match code with
            | 1 => K nx ls r I (am_uj L o y a)
            | _ => False)
          | false => False)
        | _ => False)
      | _ => False)
    | .iaload => (match st with
      | .int j :: .ref o :: r => am_sh S o (fun c => match c with
        | .inr (0, n, _) => vp_in j n ∧ K nx ls (.int (I o j.toNatClampNeg) :: r) I L
        | _ => False)
      | _ => False)
    | .baload => (match st with
      | .int j :: .ref o :: r => am_sh S o (fun c => match c with
        | .inr (2, n, _) => vp_in j n ∧ K nx ls (.int (I o j.toNatClampNeg) :: r) I L
        | _ => False)
      | _ => False)
    | .laload => (match st with
      | .int j :: .ref o :: r => am_sh S o (fun c => match c with
        | .inr (1, n, _) => vp_in j n ∧ K nx ls (.long (L o j.toNatClampNeg) :: r) I L
        | _ => False)
      | _ => False)
    | .aaload => (match st with
      | .int j :: .ref o :: r => am_sh S o (fun c => match c with
        | .inr (3, n, rs) => vp_in j n ∧ (n = rs.length ∧ (n < 100 ∧ am_al rs 0 j (fun a => K nx ls (.ref a :: r) I L)))
        | _ => False)
      | _ => False)
    | .iastore => (match st with
      | .int a :: .int j :: .ref o :: r => am_sh S o (fun c => match c with
        | .inr (0, n, _) => vp_in j n ∧ K nx ls r (am_ui I o j.toNatClampNeg a) L
        | _ => False)
      | _ => False)
    | .bastore => (match st with
      | .int a :: .int j :: .ref o :: r => am_sh S o (fun c => match c with
        | .inr (2, n, _) => vp_in j n ∧ K nx ls r (am_ui I o j.toNatClampNeg (vp_nar .byte a)) L
        | _ => False)
      | _ => False)
    | .lastore => (match st with
      | .long a :: .int j :: .ref o :: r => am_sh S o (fun c => match c with
        | .inr (1, n, _) => vp_in j n ∧ K nx ls r I (am_uj L o j.toNatClampNeg a)
        | _ => False)
      | _ => False)
    | .arraylength => (match st with
      | .ref o :: r => am_sh S o (fun c => match c with
        | .inr (t, n, _) => (match Nat.ble t 2 with
          | true => K nx ls (.int (Int32.ofNat n) :: r) I L
          | false => False)
        | _ => False)
      | _ => False)
    | .invokestatic _ => am_tk y st [] (fun vs r => match Nat.ble (am_cat r) 8 with
      | true => sp x vs I L (fun v I' L' => match v with
        | none => K nx ls r I' L'
        | some a => K nx ls (a :: r) I' L')
      | false => False)
    | .invokevirtual _ => am_tk y st [] (fun vs r => match Nat.ble (am_cat r) 8 with
      | true => (match vs with
        | .ref o :: _ => am_sh S o (fun c => match c with
          | .inl (ci, _) => (match Nat.beq ci (am_hd ws) with
            | true => sp x vs I L (fun v I' L' => match v with
              | none => K nx ls r I' L'
              | some a => K nx ls (a :: r) I' L')
            | false => False)
          | _ => False)
        | _ => False)
      | false => False)
    | .ireturn => (match st with
      | [.int a] => (match rb with
        | true => (a = 0 ∨ a = 1) ∧ post (some (.int a)) I L
        | false => post (some (.int a)) I L)
      | _ => False)
    | .lreturn => (match st with
      | [.long a] => post (some (.long a)) I L
      | _ => False)
    | .return_ => (match st with
      | [] => post none I L
      | _ => False)
    | _ => False
def am_ev (S : List am_C) (sp : Nat → am_Sp) (rb : Bool) (post : am_Po) (code : List am_E) (cuts : List (Nat × List Nat)) (G : am_G) : Nat → am_G
  | 0 => fun pc ls st I L => G pc ls st I L
  | n + 1 => fun pc ls st I L => am_fd code pc (fun q => am_st S sp rb post (fun pc' ls' st' I' L' => am_ct cuts pc' (fun m => am_keep m ls' (fun l2 => G pc' l2 st' I' L')) (am_ev S sp rb post code cuts G n pc' ls' st' I' L')) q ls st I L)
/-- a method answers as its words say: G holds wherever the small machine can go on to it -/
def am_Ok (S : List am_C) (sp : Nat → am_Sp) (rb : Bool) (code : List am_E) (maxL : Nat) (T : am_Sp) : Prop := ∀ (vs : List Value) (I : am_I) (L : am_J) (post : am_Po), T vs I L post → (am_en vs).length ≤ maxL ∧ ∀ G : am_G, (∀ (cuts : List (Nat × List Nat)) (n pc : Nat) (ls : am_Lv) (st : List Value) (I : am_I) (L : am_J), am_ev S sp rb post code cuts G n pc ls st I L → G pc ls st I L) → G 0 (am_ent vs maxL) [] I L
end
section
/-! THE SMALL MACHINE stands for the machine -/
def am_kind (k idx : Nat) : Instr := if k = 0 then .invokestatic idx else .invokevirtual idx
/-- what a call of a method may count on, and what it leaves -/
def am_Qc (S : List am_C) (ad : Nat → Nat) (ca : Nat → ClassId) (D : va_G) (A : Nat → Prop) (post : am_Po) : Array Value → State → Outcome → State → Prop := fun _ st oc t => (∃ (v : Option Value) (I : am_I) (L : am_J), oc = .returned (v.map (am_val ad)) ∧ post v I L ∧ va_P D am_cl (am_w S ad ca I L) t.heap) ∧ va_F A st t
/-- the class descriptors and the shapes agree: I, J, Z -/
def am_shOK (S : List am_C) : Bool := S.all (fun c => match c with
  | .inr _ => true
  | .inl (ci, fs) => match am_cl[ci]? with
    | none => false
    | some (_, T, N) => decide (fs.length = N) && (List.range N).all (fun k => match fs[k]? with
      | some 0 => decide ((T k).2.2.1 = "I")
      | some 1 => decide ((T k).2.2.1 = "J")
      | some 2 => decide ((T k).2.2.1 = "Z")
      | some _ => true
      | none => false))
/-- the words of nest mates: they stay, but are handed on apart -/
def am_isN : Cond → Bool
  | .fieldLinkNest .. => true
  | .methodLinkNest .. => true
  | _ => false
def am_N : List Cond := lw_tbl.filter am_isN
theorem am_N_tabs {w : Cond} (h : w ∈ am_N) : w.onTables = true := by
  have h2 := (List.mem_filter.mp h).2
  cases w <;> first | rfl | cases h2
theorem am_N_warm {s U : State} (hW : s.WarmedH U.vm) (h : ∀ w ∈ am_N, va_Nw w s) : ∀ w ∈ am_N, va_Nw w U := by
  intro w hw
  have h1 := h w hw
  have h2 := (List.mem_filter.mp hw).2
  cases w <;> first | exact va_Nw.warmF hW h1 | exact va_Nw.warmM hW h1 | cases h2
section AM
variable {p : Program} {l : Launch} {e : Env} {R : Room} {s : State} {m : MethodId} {args : Array Value} {below : List Frame} {meth : Method} {c : Code} {cc : ByteArray} {own : String} {nL : Nat} {S : List am_C} {ad : Nat → Nat} {ca : Nat → ClassId} {D : va_G} {A : Nat → Prop} {Q : State → Prop}
def am_V (p : Program) (l : Launch) (e : Env) (R : Room) (s : State) (m : MethodId) (args : Array Value) (below : List Frame) (meth : Method) (c : Code) (nL : Nat) (S : List am_C) (ad : Nat → Nat) (ca : Nat → ClassId) (D : va_G) (A : Nat → Prop) (Q : State → Prop) : am_G := fun pc ls st I L =>
  ls.length = nL → ∀ (H : Heap) (locs : List Loc) (lsA : Array Slot), va_P D am_cl (am_w S ad ca I L) H → va_S A s.heap H locs → lv_has lsA nL (am_lc ad 0 ls) → W p l e R s m args below meth c H locs 0 0 Q (F0 m pc lsA (st.map (am_val ad)))
def am_CO (p : Program) (l : Launch) (e : Env) (R : Room) (s : State) (m : MethodId) (args : Array Value) (below : List Frame) (meth : Method) (c : Code) (cc : ByteArray) (nL : Nat) (S : List am_C) (ad : Nat → Nat) (ca : Nat → ClassId) (D : va_G) (A : Nat → Prop) (Q : State → Prop) (idx n k : Nat) (T : am_Sp) : Prop :=
  ∀ (pc : Nat) (vs r : List Value) (I : am_I) (L : am_J) (post : am_Po) (H : Heap) (locs : List Loc) (lsA : Array Slot), decode cc pc = .ok (am_kind k idx, 3) → vs.length = n → am_cat r ≤ 8 → (∀ ci, k = 10 + ci → ∃ o t fs, vs = .ref o :: t ∧ S[o]? = some (.inl (ci, fs))) → T vs I L post → lsA.size = nL → va_P D am_cl (am_w S ad ca I L) H → va_S A s.heap H locs →
    (∀ (v : Option Value) (I' : am_I) (L' : am_J) (H' : Heap) (locs' : List Loc), post v I' L' → va_P D am_cl (am_w S ad ca I' L') H' → va_S A s.heap H' locs' → W p l e R s m args below meth c H' locs' 0 0 Q (F0 m (pc + 3) lsA ((v.toList ++ r).map (am_val ad)))) →
    W p l e R s m args below meth c H locs 0 0 Q (F0 m pc lsA ((vs.reverse ++ r).map (am_val ad)))
/-- what stands all along a method's run -/
def am_X (p : Program) (s : State) (m : MethodId) (args : Array Value) (c : Code) (cc : ByteArray) (own : String) (nL : Nat) (S : List am_C) (ad : Nat → Nat) (ca : Nat → ClassId) (D : va_G) (A : Nat → Prop) : Prop :=
  p.tables.exec = Jvm.exec ∧ c.code = cc ∧ c.maxLocals = nL ∧ s.vm.findClass own = some m.cls ∧ (∀ w ∈ am_U, w.before args s = true) ∧ (∀ w ∈ am_N, w.before args s = true) ∧ va_K D am_cl (am_ty ca) s ∧ (∀ (I : am_I) (L : am_J), va_D A (am_w S ad ca I L)) ∧ am_shOK S = true ∧ ∀ q : Nat, s.heap.size ≤ q → A q
theorem am_store1 {pc : Nat} {i nx : Nat} {v : Value} {ls : am_Lv} {lsA : Array Slot} {G : am_Lv → Prop} (hl : lv_has lsA nL (am_lc ad 0 ls)) (hn : ls.length = nL) (h : am_s1 i v ls G) : ∃ ls2, G ls2 ∧ ls2.length = nL ∧ i < nL ∧ ∀ a : Array Slot, lv_has a nL ((i, am_val ad v) :: (am_lc ad 0 ls).filter (fun q => !(q.1 == i) && !(q.1 + 1 == i && q.2.category == 2))) → lv_has a nL (am_lc ad 0 ls2) := by
  obtain ⟨ls2, h1, h2, h3, h4⟩ := am_s1_ok ls i v G h
  refine ⟨ls2, h1, h2.trans hn, by omega, fun a ha => ⟨ha.1, ha.2.1, fun q hq => ha.2.2 q ?_⟩⟩
  obtain ⟨j, u, g1, rfl⟩ := (am_lc_mem ls2 0 q).mp hq
  rcases h4 j u g1 with ⟨rfl, rfl⟩ | ⟨g2, g3, g4⟩
  · rw [show 0 + j = j by omega]; exact List.mem_cons_self
  · refine List.mem_cons_of_mem _ (List.mem_filter.mpr ⟨(am_lc_mem ls 0 _).mpr ⟨j, u, g2, rfl⟩, ?_⟩)
    simp only [Nat.zero_add, am_val_cat]
    simp only [Bool.and_eq_true, Bool.not_eq_true', beq_eq_false_iff_ne, ne_eq, Bool.and_eq_false_iff]
    refine ⟨g3, ?_⟩
    by_cases hj : j + 1 = i
    · right; exact fun q => g4 ⟨hj, q⟩
    · left; exact hj
theorem am_store2 {pc : Nat} {i nx : Nat} {v : Value} {ls : am_Lv} {lsA : Array Slot} {G : am_Lv → Prop} (hl : lv_has lsA nL (am_lc ad 0 ls)) (hn : ls.length = nL) (h : am_s2 i v ls G) : ∃ ls2, G ls2 ∧ ls2.length = nL ∧ i + 1 < nL ∧ ∀ a : Array Slot, lv_has a nL ((i, am_val ad v) :: (am_lc ad 0 ls).filter (fun q => !(q.1 == i) && (!(q.1 == i + 1) && !(q.1 + 1 == i && q.2.category == 2)))) → lv_has a nL (am_lc ad 0 ls2) := by
  obtain ⟨ls2, h1, h2, h3, h4⟩ := am_s2_ok ls i v G h
  refine ⟨ls2, h1, h2.trans hn, by omega, fun a ha => ⟨ha.1, ha.2.1, fun q hq => ha.2.2 q ?_⟩⟩
  obtain ⟨j, u, g1, rfl⟩ := (am_lc_mem ls2 0 q).mp hq
  rcases h4 j u g1 with ⟨rfl, rfl⟩ | ⟨g2, g3, g5, g4⟩
  · rw [show 0 + j = j by omega]; exact List.mem_cons_self
  · refine List.mem_cons_of_mem _ (List.mem_filter.mpr ⟨(am_lc_mem ls 0 _).mpr ⟨j, u, g2, rfl⟩, ?_⟩)
    simp only [Nat.zero_add, am_val_cat]
    simp only [Bool.and_eq_true, Bool.not_eq_true', beq_eq_false_iff_ne, ne_eq, Bool.and_eq_false_iff]
    refine ⟨g3, g5, ?_⟩
    by_cases hj : j + 1 = i
    · right; exact fun q => g4 ⟨hj, q⟩
    · left; exact hj
theorem am_inR {j : Int32} {n : Nat} (h : vp_in j n) (hn : n < 100) : ∃ k : Nat, k < n ∧ j = Int32.ofNat k := vp_in_of h (by omega)
theorem am_gld {ls : am_Lv} {lsA : Array Slot} {k : Nat} {f : Value → Prop} (hl : lv_has lsA nL (am_lc ad 0 ls)) (h : am_gl ls k f) : ∃ v, f v ∧ lsA[k]? = some (.val (am_val ad v)) := by
  obtain ⟨v, h1, h2⟩ := am_gl_ok h
  exact ⟨v, h2, am_lv_at hl h1⟩
end AM
/-- per class: its words, names, types -/
theorem am_cls0 : (∀ w ∈ u_ws "ReadPass" am_T0 8, w ∈ lw_tbl ∧ goodWord w = true) ∧ (∀ a, a < 8 → ∀ b, b < 8 → a ≠ b → (am_T0 a).2.1 ≠ (am_T0 b).2.1) ∧ (∀ k, k < 8 → (parseFieldDescriptor (am_T0 k).2.2.1).isSome = true) := ⟨by decide +kernel, by decide +kernel, by decide +kernel⟩
theorem am_cls1 : (∀ w ∈ u_ws "ReadPass$Road" am_T1 12, w ∈ lw_tbl ∧ goodWord w = true) ∧ (∀ a, a < 12 → ∀ b, b < 12 → a ≠ b → (am_T1 a).2.1 ≠ (am_T1 b).2.1) ∧ (∀ k, k < 12 → (parseFieldDescriptor (am_T1 k).2.2.1).isSome = true) := ⟨by decide +kernel, by decide +kernel, by decide +kernel⟩
theorem am_cls2 : (∀ w ∈ u_ws "ReadPass$Tape" am_T2 3, w ∈ lw_tbl ∧ goodWord w = true) ∧ (∀ a, a < 3 → ∀ b, b < 3 → a ≠ b → (am_T2 a).2.1 ≠ (am_T2 b).2.1) ∧ (∀ k, k < 3 → (parseFieldDescriptor (am_T2 k).2.2.1).isSome = true) := ⟨by decide +kernel, by decide +kernel, by decide +kernel⟩
theorem am_cls3 : (∀ w ∈ u_ws "ReadPass$Journey" am_T3 10, w ∈ lw_tbl ∧ goodWord w = true) ∧ (∀ a, a < 10 → ∀ b, b < 10 → a ≠ b → (am_T3 a).2.1 ≠ (am_T3 b).2.1) ∧ (∀ k, k < 10 → (parseFieldDescriptor (am_T3 k).2.2.1).isSome = true) := ⟨by decide +kernel, by decide +kernel, by decide +kernel⟩
theorem am_cls4 : (∀ w ∈ u_ws "ReadPass$Seen" am_T4 3, w ∈ lw_tbl ∧ goodWord w = true) ∧ (∀ a, a < 3 → ∀ b, b < 3 → a ≠ b → (am_T4 a).2.1 ≠ (am_T4 b).2.1) ∧ (∀ k, k < 3 → (parseFieldDescriptor (am_T4 k).2.2.1).isSome = true) := ⟨by decide +kernel, by decide +kernel, by decide +kernel⟩
theorem am_cls5 : (∀ w ∈ u_ws "ReadPass$Sheet" am_T5 3, w ∈ lw_tbl ∧ goodWord w = true) ∧ (∀ a, a < 3 → ∀ b, b < 3 → a ≠ b → (am_T5 a).2.1 ≠ (am_T5 b).2.1) ∧ (∀ k, k < 3 → (parseFieldDescriptor (am_T5 k).2.2.1).isSome = true) := ⟨by decide +kernel, by decide +kernel, by decide +kernel⟩
theorem am_cls {ci N : Nat} {C : String} {T : u_T} (h : am_cl[ci]? = some (C, T, N)) : (∀ w ∈ u_ws C T N, w ∈ lw_tbl ∧ goodWord w = true) ∧ (∀ a, a < N → ∀ b, b < N → a ≠ b → (T a).2.1 ≠ (T b).2.1) ∧ (∀ k, k < N → (parseFieldDescriptor (T k).2.2.1).isSome = true) := by
  match ci, h with
  | 0, h => cases h; exact am_cls0
  | 1, h => cases h; exact am_cls1
  | 2, h => cases h; exact am_cls2
  | 3, h => cases h; exact am_cls3
  | 4, h => cases h; exact am_cls4
  | 5, h => cases h; exact am_cls5
  | k + 6, h => simp [am_cl] at h
end
section
theorem am_fk {own : String} {idx ci k pos : Nat} {put : Bool} (h : am_fchk own idx ci k pos put = true) : ∃ (C : String) (T : u_T) (N : Nat), am_cl[ci]? = some (C, T, N) ∧ k < N ∧ (T k).1 = C ∧ (Cond.fieldLink own idx C (T k).2.1 (T k).2.2.1 ∈ am_U ∨ Cond.fieldLinkNest own idx C (T k).2.1 (T k).2.2.1 "ReadPass" ∈ am_N) ∧ (put = true → (T k).2.2.2 = false) := by
  unfold am_fchk at h
  cases hc : am_cl[ci]? with
  | none => rw [hc] at h; cases h
  | some q =>
    obtain ⟨C, T, N⟩ := q
    rw [hc] at h
    simp only [Bool.and_eq_true, Bool.or_eq_true, decide_eq_true_eq, Bool.not_eq_true'] at h
    obtain ⟨h1, h2, h3, h4⟩ := h
    refine ⟨C, T, N, rfl, h1, h2, ?_, ?_⟩
    · rcases h3 with h3 | h3
      · exact Or.inl (am_inU pos h3 rfl)
      · exact Or.inr (List.mem_filter.mpr ⟨List.mem_of_getElem? h3, rfl⟩)
    · intro hp
      rcases h4 with h4 | h4
      · rw [hp] at h4; cases h4
      · exact h4
theorem am_shc {S : List am_C} {o ci N k code : Nat} {fs : List Nat} {C : String} {T : u_T} (h : am_shOK S = true) (hs : S[o]? = some (.inl (ci, fs))) (hc : am_cl[ci]? = some (C, T, N)) (hf : fs[k]? = some code) : fs.length = N ∧ (code = 0 → (T k).2.2.1 = "I") ∧ (code = 1 → (T k).2.2.1 = "J") ∧ (code = 2 → (T k).2.2.1 = "Z") := by
  unfold am_shOK at h
  have h1 := List.all_eq_true.mp h _ (List.mem_of_getElem? hs)
  simp only [hc, Bool.and_eq_true, decide_eq_true_eq] at h1
  have hk : k < fs.length := (List.getElem?_eq_some_iff.mp hf).1
  have h2 := List.all_eq_true.mp h1.2 k (List.mem_range.mpr (by omega))
  refine ⟨h1.1, fun e => ?_, fun e => ?_, fun e => ?_⟩
  · subst e; rw [hf] at h2; exact of_decide_eq_true h2
  · subst e; rw [hf] at h2; exact of_decide_eq_true h2
  · subst e; rw [hf] at h2; exact of_decide_eq_true h2
theorem am_putw {S : List am_C} {ad : Nat → Nat} {ca : Nat → ClassId} {I I' : am_I} {L L' : am_J} {o ci k code : Nat} {fs : List Nat} {v : Value} (hs : S[o]? = some (.inl (ci, fs))) (hf : fs[k]? = some code) (hv : am_fv ad I' L' o k code = v) (hI : ∀ a, a ≠ o → I' a = I a ∧ L' a = L a) (hj : ∀ j, j ≠ k → I' o j = I o j ∧ L' o j = L o j) : (am_w S ad ca I L).set o (ad o, .inr (ci, (am_fs ad I L o 0 fs).set k v)) = am_w S ad ca I' L' := by
  rw [← am_w_set hs hI]
  congr 2
  show Sum.inr (ci, _) = Sum.inr (ci, am_fs ad I' L' o 0 fs)
  rw [← am_fs_set fs 0 k code hf (fun j h => hj j (by omega)), show 0 + k = k by omega, hv]
theorem am_ui_o {I : am_I} {o k a : Nat} {x : Int32} (h : a ≠ o) : am_ui I o k x a = I a := by
  funext b; simp [am_ui, h]
theorem am_uj_o {I : am_J} {o k a : Nat} {x : Int64} (h : a ≠ o) : am_uj I o k x a = I a := by
  funext b; simp [am_uj, h]
theorem am_ui_s {I : am_I} {o k : Nat} {x : Int32} : am_ui I o k x o = upd (I o) k x := by
  funext b; simp [am_ui, upd]
theorem am_uj_s {I : am_J} {o k : Nat} {x : Int64} : am_uj I o k x o = vp_updL (I o) k x := by
  funext b; simp [am_uj, vp_updL]
def am_rchk (ret : Option FieldType) (rb : Bool) (q : am_E) : Bool := match q.2.1 with
  | .ireturn => (rb && decide (ret = some .boolean)) || (!rb && decide (ret = some .int))
  | .lreturn => decide (ret = some .long)
  | .return_ => decide (ret = none)
  | _ => true
theorem am_lk_sorted (ps : List (Int × Int)) (n : Nat) (h : ps.map (fun q => q.1) = (List.range n).map Int.ofNat) : (ps.zip (ps.drop 1)).all (fun (a, next) => a.1 < next.1) = true := by
  rw [List.all_eq_true]
  intro q hq
  obtain ⟨k, hk⟩ := List.getElem?_of_mem hq
  rw [List.getElem?_zip_eq_some] at hk
  obtain ⟨h1, h2⟩ := hk
  rw [List.getElem?_drop] at h2
  have e1 : (ps.map (fun q => q.1))[k]? = some q.1.1 := by rw [List.getElem?_map, h1]; rfl
  have e2 : (ps.map (fun q => q.1))[1 + k]? = some q.2.1 := by rw [List.getElem?_map, h2]; rfl
  rw [h, List.getElem?_map] at e1 e2
  obtain ⟨a, a1, a2⟩ := Option.map_eq_some_iff.mp e1
  obtain ⟨b, b1, b2⟩ := Option.map_eq_some_iff.mp e2
  rw [List.getElem?_range (by have := (List.getElem?_eq_some_iff.mp a1).1; simpa using this)] at a1
  rw [List.getElem?_range (by have := (List.getElem?_eq_some_iff.mp b1).1; simpa using this)] at b1
  cases a1
  cases b1
  simp only [decide_eq_true_eq]
  rw [← a2, ← b2]
  simp only [Int.ofNat_eq_natCast]
  omega
theorem am_lk_hit : ∀ (ps : List (Int × Int)) (j n : Nat), ps.map (fun q => q.1) = (List.range' j n).map Int.ofNat → ∀ (d : Int) (k : Nat) (pr : Int × Int), ps[k]? = some pr → Op.lookupswitch.offset ps d ((j + k : Nat) : Int) = pr.2 := by
  intro ps
  induction ps with
  | nil => intro j n h d k pr hk; simp at hk
  | cons q ps ih =>
    intro j n h d k pr hk
    cases n with
    | zero => simp at h
    | succ n =>
      rw [List.range'_succ, List.map_cons, List.map_cons, List.cons.injEq] at h
      obtain ⟨h1, h2⟩ := h
      obtain ⟨a, o⟩ := q
      rw [Op.lookupswitch.offset_cons]
      cases k with
      | zero =>
        simp only [List.getElem?_cons_zero, Option.some.injEq] at hk
        subst hk
        rw [if_pos]
        dsimp only at h1
        rw [h1]
        simp
      | succ k =>
        rw [if_neg, show j + (k + 1) = j + 1 + k by omega]
        · exact ih (j + 1) n h2 d k pr (by simpa using hk)
        · dsimp only at h1
          rw [h1]
          simp only [Int.ofNat_eq_natCast]
          omega
theorem am_lk_miss : ∀ (ps : List (Int × Int)) (j n : Nat), ps.map (fun q => q.1) = (List.range' j n).map Int.ofNat → ∀ (d x : Int), (∀ k : Nat, k < n → x ≠ ((j + k : Nat) : Int)) → Op.lookupswitch.offset ps d x = d := by
  intro ps
  induction ps with
  | nil => intro j n h d x hx; simp [Op.lookupswitch.offset]
  | cons q ps ih =>
    intro j n h d x hx
    cases n with
    | zero => simp at h
    | succ n =>
      rw [List.range'_succ, List.map_cons, List.map_cons, List.cons.injEq] at h
      obtain ⟨h1, h2⟩ := h
      obtain ⟨a, o⟩ := q
      rw [Op.lookupswitch.offset_cons, if_neg]
      · exact ih (j + 1) n h2 d x (fun k hk => by have := hx (k + 1) (by omega); rw [show j + 1 + k = j + (k + 1) by omega]; exact this)
      · dsimp only at h1
        rw [h1]
        have := hx 0 (by omega)
        simp only [Int.ofNat_eq_natCast]
        intro q
        exact this (by rw [← q]; simp)
section AM2
variable {p : Program} {l : Launch} {e : Env} {R : Room} {s : State} {m : MethodId} {args : Array Value} {below : List Frame} {meth : Method} {c : Code} {cc : ByteArray} {own : String} {nL : Nat} {S : List am_C} {ad : Nat → Nat} {ca : Nat → ClassId} {D : va_G} {A : Nat → Prop}
set_option maxHeartbeats 4000000 in
theorem am_sound1 {rb : Bool} {post : am_Po} {keys : List (Nat × Nat × Nat)} {sp : Nat → am_Sp} {ret : Option FieldType} (X : am_X p s m args c cc own nL S ad ca D A) (hr : meth.sig.returnType = ret) (hlocks : meth.locks = false)
    (hc : ∀ k ∈ keys, am_CO p l e R s m args below meth c cc nL S ad ca D A (MQ below (am_Qc S ad ca D A post) args s 0 0 A) k.1 k.2.1 k.2.2 (sp k.1))
    {K : am_G} (hK : ∀ (pc : Nat) (ls : am_Lv) (st : List Value) (I : am_I) (L : am_J), K pc ls st I L → am_V p l e R s m args below meth c nL S ad ca D A (MQ below (am_Qc S ad ca D A post) args s 0 0 A) pc ls st I L)
    {q : am_E} (h1 : am_chk own cc keys q = true) (h2 : am_rchk ret rb q = true) {ls : am_Lv} {st : List Value} {I : am_I} {L : am_J} (h : am_st S sp rb post K q ls st I L) : am_V p l e R s m args below meth c nL S ad ca D A (MQ below (am_Qc S ad ca D A post) args s 0 0 A) q.1 ls st I L := by
  obtain ⟨hx, hb, hml, hown, hU, hN, hKk, hD, hsh, -⟩ := X
  obtain ⟨pc, i, nx, x, y, z, zl, ws⟩ := q
  simp only [am_chk, Bool.and_eq_true, decide_eq_true_eq] at h1
  obtain ⟨hd, rfl, h1⟩ := h1
  intro hlen H locs lsA hP hS hl
  show W p l e R s m args below meth c H locs 0 0 _ (F0 m pc lsA (st.map (am_val ad)))
  cases i <;> try exact False.elim h
  case iconst n => exact lv_iconst hx hb hd (of_decide_eq_true h1) (hK _ _ _ _ _ h hlen H locs lsA hP hS hl)
  case bipush n => exact lv_bipush hx hb hd (of_decide_eq_true h1) (hK _ _ _ _ _ h hlen H locs lsA hP hS hl)
  case sipush n => exact lv_sipush hx hb hd (of_decide_eq_true h1) (hK _ _ _ _ _ h hlen H locs lsA hP hS hl)
  case lconst n => exact lv_lconst hx hb hd (of_decide_eq_true h1) (hK _ _ _ _ _ h hlen H locs lsA hP hS hl)
  case ldc idx => exact lv_ldc hx hb hown (hU _ (am_inU x (of_decide_eq_true h1) rfl)) hd (hK _ _ _ _ _ h hlen H locs lsA hP hS hl)
  case ldc_w idx => exact lv_ldcw hx hb hown (hU _ (am_inU x (of_decide_eq_true h1) rfl)) hd (hK _ _ _ _ _ h hlen H locs lsA hP hS hl)
  case ldc2_w idx => exact lv_ldc2 hx hb hown (hU _ (am_inU x (of_decide_eq_true h1) rfl)) hd (hK _ _ _ _ _ h hlen H locs lsA hP hS hl)
  case iload k =>
    obtain ⟨v, h, hv⟩ := am_gld hl h
    cases v <;> try exact False.elim h
    exact lv_iload hx hb hd hv (hK _ _ _ _ _ h hlen H locs lsA hP hS hl)
  case iload_n k =>
    obtain ⟨v, h, hv⟩ := am_gld hl h
    cases v <;> try exact False.elim h
    exact lv_iload_n hx hb hd rfl hv (hK _ _ _ _ _ h hlen H locs lsA hP hS hl)
  case istore k =>
    simp only [am_st] at h
    split at h
    · obtain ⟨ls2, g1, g2, g3, g4⟩ := am_store1 (pc := 0) (nx := 0) hl hlen h
      exact lv_istore hx hb hd hl g3 rfl (fun ls' hl' => hK _ _ _ _ _ g1 g2 H locs ls' hP hS (g4 ls' hl'))
    · exact h.elim
  case istore_n k =>
    simp only [am_st] at h
    split at h
    · obtain ⟨ls2, g1, g2, g3, g4⟩ := am_store1 (pc := 0) (nx := 0) hl hlen h
      exact lv_istore_n hx hb hd rfl hl g3 rfl (fun ls' hl' => hK _ _ _ _ _ g1 g2 H locs ls' hP hS (g4 ls' hl'))
    · exact h.elim
  case lload k =>
    obtain ⟨v, h, hv⟩ := am_gld hl h
    cases v <;> try exact False.elim h
    exact lv_lload hx hb hd hv (hK _ _ _ _ _ h hlen H locs lsA hP hS hl)
  case lload_n k =>
    obtain ⟨v, h, hv⟩ := am_gld hl h
    cases v <;> try exact False.elim h
    exact lv_lload_n hx hb hd rfl hv (hK _ _ _ _ _ h hlen H locs lsA hP hS hl)
  case lstore k =>
    simp only [am_st] at h
    split at h
    · obtain ⟨ls2, g1, g2, g3, g4⟩ := am_store2 (pc := 0) (nx := 0) hl hlen h
      exact lv_lstore hx hb hd hl g3 rfl (fun ls' hl' => hK _ _ _ _ _ g1 g2 H locs ls' hP hS (g4 ls' hl'))
    · exact h.elim
  case lstore_n k =>
    simp only [am_st] at h
    split at h
    · obtain ⟨ls2, g1, g2, g3, g4⟩ := am_store2 (pc := 0) (nx := 0) hl hlen h
      exact lv_lstore_n hx hb hd rfl hl g3 rfl (fun ls' hl' => hK _ _ _ _ _ g1 g2 H locs ls' hP hS (g4 ls' hl'))
    · exact h.elim
  case aload k =>
    obtain ⟨v, h, hv⟩ := am_gld hl h
    cases v <;> try exact False.elim h
    exact lv_aload hx hb hd hv (hK _ _ _ _ _ h hlen H locs lsA hP hS hl)
  case aload_n k =>
    obtain ⟨v, h, hv⟩ := am_gld hl h
    cases v <;> try exact False.elim h
    exact lv_aload_n hx hb hd rfl hv (hK _ _ _ _ _ h hlen H locs lsA hP hS hl)
  case astore k =>
    simp only [am_st] at h
    split at h
    · obtain ⟨ls2, g1, g2, g3, g4⟩ := am_store1 (pc := 0) (nx := 0) hl hlen h
      exact lv_astore hx hb hd hl g3 rfl (fun ls' hl' => hK _ _ _ _ _ g1 g2 H locs ls' hP hS (g4 ls' hl'))
    · exact h.elim
  case astore_n k =>
    simp only [am_st] at h
    split at h
    · obtain ⟨ls2, g1, g2, g3, g4⟩ := am_store1 (pc := 0) (nx := 0) hl hlen h
      exact lv_astore_n hx hb hd rfl hl g3 rfl (fun ls' hl' => hK _ _ _ _ _ g1 g2 H locs ls' hP hS (g4 ls' hl'))
    · exact h.elim
  case iinc k n =>
    obtain ⟨v, hv1, h⟩ := am_gl_ok h
    cases v <;> try exact False.elim h
    rename_i a
    obtain ⟨ls2, g1, g2, g3, g4⟩ := am_store1 (pc := 0) (nx := 0) hl hlen h
    have hm : (k, Value.int a) ∈ am_lc ad 0 ls := (am_lc_mem ls 0 _).mpr ⟨k, _, hv1, by rw [show 0 + k = k by omega]; rfl⟩
    obtain ⟨k', hk'⟩ := List.getElem?_of_mem hm
    exact lv_iinc (k := k') hx hb hd hl hk' (by rw [of_decide_eq_true h1]) g3 rfl (fun ls' hl' => hK _ _ _ _ _ g1 g2 H locs ls' hP hS (g4 ls' hl'))
  case iadd =>
    simp only [am_st] at h
    split at h
    · exact lv_iadd hx hb hd (hK _ _ _ _ _ h hlen H locs lsA hP hS hl)
    · exact h.elim
  case isub =>
    simp only [am_st] at h
    split at h
    · exact lv_isub hx hb hd (hK _ _ _ _ _ h hlen H locs lsA hP hS hl)
    · exact h.elim
  case imul =>
    simp only [am_st] at h
    split at h
    · exact lv_imul hx hb hd (hK _ _ _ _ _ h hlen H locs lsA hP hS hl)
    · exact h.elim
  case iand =>
    simp only [am_st] at h
    split at h
    · exact lv_iand hx hb hd (hK _ _ _ _ _ h hlen H locs lsA hP hS hl)
    · exact h.elim
  case ior =>
    simp only [am_st] at h
    split at h
    · exact lv_ior hx hb hd (hK _ _ _ _ _ h hlen H locs lsA hP hS hl)
    · exact h.elim
  case ixor =>
    simp only [am_st] at h
    split at h
    · exact lv_ixor hx hb hd (hK _ _ _ _ _ h hlen H locs lsA hP hS hl)
    · exact h.elim
  case ishl =>
    simp only [am_st] at h
    split at h
    · exact lv_ishl hx hb hd (hK _ _ _ _ _ h hlen H locs lsA hP hS hl)
    · exact h.elim
  case ishr =>
    simp only [am_st] at h
    split at h
    · exact lv_ishr hx hb hd (hK _ _ _ _ _ h hlen H locs lsA hP hS hl)
    · exact h.elim
  case idiv =>
    simp only [am_st] at h
    split at h
    · exact lv_idiv hx hb hd h.1 (hK _ _ _ _ _ h.2 hlen H locs lsA hP hS hl)
    · exact h.elim
  case irem =>
    simp only [am_st] at h
    split at h
    · exact lv_irem hx hb hd h.1 (hK _ _ _ _ _ h.2 hlen H locs lsA hP hS hl)
    · exact h.elim
  case ladd =>
    simp only [am_st] at h
    split at h
    · exact lv_ladd hx hb hd (hK _ _ _ _ _ h hlen H locs lsA hP hS hl)
    · exact h.elim
  case land =>
    simp only [am_st] at h
    split at h
    · exact lv_land hx hb hd (hK _ _ _ _ _ h hlen H locs lsA hP hS hl)
    · exact h.elim
  case lor =>
    simp only [am_st] at h
    split at h
    · exact lv_lor hx hb hd (hK _ _ _ _ _ h hlen H locs lsA hP hS hl)
    · exact h.elim
  case lxor =>
    simp only [am_st] at h
    split at h
    · exact lv_lxor hx hb hd (hK _ _ _ _ _ h hlen H locs lsA hP hS hl)
    · exact h.elim
  case iushr =>
    simp only [am_st] at h
    split at h
    · exact lv_iushr hx hb hd rfl (hK _ _ _ _ _ h hlen H locs lsA hP hS hl)
    · exact h.elim
  case lshl =>
    simp only [am_st] at h
    split at h
    · exact lv_lshl hx hb hd rfl (hK _ _ _ _ _ h hlen H locs lsA hP hS hl)
    · exact h.elim
  case lshr =>
    simp only [am_st] at h
    split at h
    · exact lv_lshr hx hb hd rfl (hK _ _ _ _ _ h hlen H locs lsA hP hS hl)
    · exact h.elim
  case lushr =>
    simp only [am_st] at h
    split at h
    · exact lv_lushr hx hb hd rfl (hK _ _ _ _ _ h hlen H locs lsA hP hS hl)
    · exact h.elim
  case i2l =>
    simp only [am_st] at h
    split at h
    · exact lv_i2l hx hb hd rfl (hK _ _ _ _ _ h hlen H locs lsA hP hS hl)
    · exact h.elim
  case l2i =>
    simp only [am_st] at h
    split at h
    · exact lv_l2i hx hb hd rfl (hK _ _ _ _ _ h hlen H locs lsA hP hS hl)
    · exact h.elim
  case i2b =>
    simp only [am_st] at h
    split at h
    · exact lv_i2b hx hb hd rfl (hK _ _ _ _ _ h hlen H locs lsA hP hS hl)
    · exact h.elim
  case i2s =>
    simp only [am_st] at h
    split at h
    · exact lv_i2s hx hb hd rfl (hK _ _ _ _ _ h hlen H locs lsA hP hS hl)
    · exact h.elim
  case lcmp =>
    simp only [am_st] at h
    split at h
    · exact W.lcmp hx hb hd (hK _ _ _ _ _ h hlen H locs lsA hP hS hl)
    · exact h.elim
  case dup =>
    simp only [am_st] at h
    split at h
    · split at h
      · rename_i hq
        exact lv_dup hx hb hd (by rw [am_val_cat]; exact Nat.eq_of_beq_eq_true hq) (hK _ _ _ _ _ h hlen H locs lsA hP hS hl)
      · exact h.elim
    · exact h.elim
  case dup2 =>
    simp only [am_st] at h
    split at h
    · split at h
      · rename_i hq
        split at h
        · rename_i hq2
          exact lv_dup2_11 hx hb hd (by rw [am_val_cat]; exact Nat.eq_of_beq_eq_true hq) (by rw [am_val_cat]; exact Nat.eq_of_beq_eq_true hq2) (hK _ _ _ _ _ h hlen H locs lsA hP hS hl)
        · exact h.elim
      · exact h.elim
    · exact h.elim
  case goto off => exact lv_goto (tgt := x) hx hb hd (of_decide_eq_true h1) (hK _ _ _ _ _ h hlen H locs lsA hP hS hl)
  case ifCond cd off =>
    simp only [am_st] at h
    split at h
    · cases cd
      case eq => exact lv_if_eq (tgt := x) hx hb hd (of_decide_eq_true h1) (fun q => (hK _ _ _ _ _ (h.1 q) hlen H locs lsA hP hS hl)) (fun q => (hK _ _ _ _ _ (h.2 q) hlen H locs lsA hP hS hl))
      case ne => exact lv_if_ne (tgt := x) hx hb hd (of_decide_eq_true h1) (fun q => (hK _ _ _ _ _ (h.1 q) hlen H locs lsA hP hS hl)) (fun q => (hK _ _ _ _ _ (h.2 q) hlen H locs lsA hP hS hl))
      case lt => exact lv_if_lt (tgt := x) hx hb hd (of_decide_eq_true h1) (fun q => (hK _ _ _ _ _ (h.1 q) hlen H locs lsA hP hS hl)) (fun q => (hK _ _ _ _ _ (h.2 q) hlen H locs lsA hP hS hl))
      case ge => exact lv_if_ge (tgt := x) hx hb hd (of_decide_eq_true h1) (fun q => (hK _ _ _ _ _ (h.1 (Int32.not_lt.mpr q)) hlen H locs lsA hP hS hl)) (fun q => (hK _ _ _ _ _ (h.2 (Int32.not_le.mp q)) hlen H locs lsA hP hS hl))
      case gt => exact lv_if_gt (tgt := x) hx hb hd (of_decide_eq_true h1) (fun q => (hK _ _ _ _ _ (h.1 q) hlen H locs lsA hP hS hl)) (fun q => (hK _ _ _ _ _ (h.2 q) hlen H locs lsA hP hS hl))
      case le => exact lv_if_le (tgt := x) hx hb hd (of_decide_eq_true h1) (fun q => (hK _ _ _ _ _ (h.1 (Int32.not_lt.mpr q)) hlen H locs lsA hP hS hl)) (fun q => (hK _ _ _ _ _ (h.2 (Int32.not_le.mp q)) hlen H locs lsA hP hS hl))
    · exact h.elim
  case if_icmp cd off =>
    simp only [am_st] at h
    split at h
    · cases cd
      case eq => exact lv_icmp_eq (tgt := x) hx hb hd (of_decide_eq_true h1) (fun q => (hK _ _ _ _ _ (h.1 q) hlen H locs lsA hP hS hl)) (fun q => (hK _ _ _ _ _ (h.2 q) hlen H locs lsA hP hS hl))
      case ne => exact lv_icmp_ne (tgt := x) hx hb hd (of_decide_eq_true h1) (fun q => (hK _ _ _ _ _ (h.1 q) hlen H locs lsA hP hS hl)) (fun q => (hK _ _ _ _ _ (h.2 q) hlen H locs lsA hP hS hl))
      case lt => exact lv_icmp_lt (tgt := x) hx hb hd (of_decide_eq_true h1) (fun q => (hK _ _ _ _ _ (h.1 q) hlen H locs lsA hP hS hl)) (fun q => (hK _ _ _ _ _ (h.2 q) hlen H locs lsA hP hS hl))
      case ge => exact lv_icmp_ge (tgt := x) hx hb hd (of_decide_eq_true h1) (fun q => (hK _ _ _ _ _ (h.1 (Int32.not_lt.mpr q)) hlen H locs lsA hP hS hl)) (fun q => (hK _ _ _ _ _ (h.2 (Int32.not_le.mp q)) hlen H locs lsA hP hS hl))
      case gt => exact lv_icmp_gt (tgt := x) hx hb hd (of_decide_eq_true h1) (fun q => (hK _ _ _ _ _ (h.1 q) hlen H locs lsA hP hS hl)) (fun q => (hK _ _ _ _ _ (h.2 q) hlen H locs lsA hP hS hl))
      case le => exact lv_icmp_le (tgt := x) hx hb hd (of_decide_eq_true h1) (fun q => (hK _ _ _ _ _ (h.1 (Int32.not_lt.mpr q)) hlen H locs lsA hP hS hl)) (fun q => (hK _ _ _ _ _ (h.2 (Int32.not_le.mp q)) hlen H locs lsA hP hS hl))
    · exact h.elim
  case getfield idx =>
    simp only [am_st] at h
    split at h
    · rename_i o r
      obtain ⟨C, T, N, hcl, hkN, hdecl, hlink, -⟩ := am_fk h1
      obtain ⟨cl, hs, h3⟩ := am_sh_ok h
      clear h
      rcases cl with ⟨ci, fs⟩ | cl
      · dsimp only at h3
        cases hbq : Nat.beq ci x with
        | false => rw [hbq] at h3; exact h3.elim
        | true =>
          rw [hbq] at h3
          have hci := Nat.eq_of_beq_eq_true hbq
          subst hci
          obtain ⟨code, hf, h⟩ := am_fc_ok h3
          have hin : ∀ w ∈ u_ws C T N, w ∈ am_U := fun w hw => List.mem_filter.mpr ((am_cls hcl).1 w hw)
          have hv : (am_fs ad I L o 0 fs)[y]? = some (am_fv ad I L o y code) := by
            have := am_fs_get (ad := ad) (I := I) (L := L) (o := o) (i := 0) hf
            rwa [show 0 + y = y by omega] at this
          have hw := am_w_get (ad := ad) (ca := ca) (I := I) (L := L) hs
          have kk : W p l e R s m args below meth c H locs 0 0 (MQ below (am_Qc S ad ca D A post) args s 0 0 A) (F0 m (pc + 3) lsA (am_fv ad I L o y code :: r.map (am_val ad))) := by
            match code, h with
            | 0, h => exact (hK _ _ _ _ _ h hlen H locs lsA hP hS hl)
            | 1, h => exact (hK _ _ _ _ _ h hlen H locs lsA hP hS hl)
            | 2, h => exact (hK _ _ _ _ _ h hlen H locs lsA hP hS hl)
            | n + 3, h => exact (hK _ _ _ _ _ h hlen H locs lsA hP hS hl)
          rcases hlink with hlink | hlink
          · exact va_get hx hb hU hin hown hKk hP o hw hcl y hkN (hU _ hlink) (fun x hx => by rw [hdecl] at hx; exact hx) hv hd kk
          · exact va_getN hx hb hU hin hown hKk hP o hw hcl y hkN (hN _ hlink) (fun x hx => by rw [hdecl] at hx; exact hx) hv hd kk
      · exact h3.elim
    · exact h.elim
  case putfield idx =>
    simp only [am_st] at h
    split at h
    · rename_i a o r
      obtain ⟨C, T, N, hcl, hkN, hdecl, hlink, hfin⟩ := am_fk h1
      obtain ⟨cl, hs, h3⟩ := am_sh_ok h
      clear h
      rcases cl with ⟨ci, fs⟩ | cl
      · dsimp only at h3
        cases hbq : Nat.beq ci x with
        | false => rw [hbq] at h3; exact h3.elim
        | true =>
          rw [hbq] at h3
          have hci := Nat.eq_of_beq_eq_true hbq
          subst hci
          obtain ⟨code, hf, h⟩ := am_fc_ok h3
          have hin : ∀ w ∈ u_ws C T N, w ∈ am_U := fun w hw => List.mem_filter.mpr ((am_cls hcl).1 w hw)
          have hty : ∀ k, k < N → parseFieldDescriptor (T k).2.2.1 = some ((parseFieldDescriptor (T k).2.2.1).getD .int) := fun k hk => by
            have := (am_cls hcl).2.2 k hk
            cases hq : parseFieldDescriptor (T k).2.2.1 with
            | none => rw [hq] at this; cases this
            | some t => rfl
          have hw := am_w_get (ad := ad) (ca := ca) (I := I) (L := L) hs
          match code, hf, h with
          | 0, hf, h =>
              have hsc := am_shc hsh hs hcl hf
              have e1 : parseFieldDescriptor (T y).2.2.1 = some .int := by rw [hsc.2.1 rfl]; decide +kernel
              have e2 : (am_w S ad ca I L).set o (ad o, .inr (ci, (am_fs ad I L o 0 fs).set y (.int a))) = am_w S ad ca (am_ui I o y a) (L) := am_putw hs hf (by simp [am_fv, am_ui]) (fun a h => ⟨am_ui_o h, rfl⟩) (fun j h => ⟨by simp [am_ui, h], rfl⟩)
              have e3 : y < (am_fs ad I L o 0 fs).length := by rw [am_fs_len]; exact (List.getElem?_eq_some_iff.mp hf).1
              rcases hlink with hlink | hlink
              · exact va_put hx hb hU hin (fun k => (parseFieldDescriptor (T k).2.2.1).getD .int) hty (am_cls hcl).2.1 hown hKk hP (hD I L) hS o hw hcl y hkN (hU _ hlink) (fun x hx => by rw [hdecl] at hx; exact hx) (hfin rfl) e1 rfl rfl e3 hd (fun H1 locs1 hP1 _ hS1 => hK _ _ _ _ _ h hlen H1 locs1 lsA (e2 ▸ hP1) hS1 hl)
              · exact va_putN hx hb hU hin (fun k => (parseFieldDescriptor (T k).2.2.1).getD .int) hty (am_cls hcl).2.1 hown hKk hP (hD I L) hS o hw hcl y hkN (hN _ hlink) (fun x hx => by rw [hdecl] at hx; exact hx) (hfin rfl) e1 rfl rfl e3 hd (fun H1 locs1 hP1 _ hS1 => hK _ _ _ _ _ h hlen H1 locs1 lsA (e2 ▸ hP1) hS1 hl)
          | 1, hf, h => exact h.elim
          | 2, hf, h =>
              have hsc := am_shc hsh hs hcl hf
              have e1 : parseFieldDescriptor (T y).2.2.1 = some .boolean := by rw [hsc.2.2.2 rfl]; decide +kernel
              have e2 : (am_w S ad ca I L).set o (ad o, .inr (ci, (am_fs ad I L o 0 fs).set y (.int a))) = am_w S ad ca (am_ui I o y a) (L) := am_putw hs hf (by simp [am_fv, am_ui]) (fun a h => ⟨am_ui_o h, rfl⟩) (fun j h => ⟨by simp [am_ui, h], rfl⟩)
              have e3 : y < (am_fs ad I L o 0 fs).length := by rw [am_fs_len]; exact (List.getElem?_eq_some_iff.mp hf).1
              rcases hlink with hlink | hlink
              · exact va_put hx hb hU hin (fun k => (parseFieldDescriptor (T k).2.2.1).getD .int) hty (am_cls hcl).2.1 hown hKk hP (hD I L) hS o hw hcl y hkN (hU _ hlink) (fun x hx => by rw [hdecl] at hx; exact hx) (hfin rfl) e1 (by rcases h.1 with rfl | rfl <;> rfl) (by rcases h.1 with rfl | rfl <;> rfl) e3 hd (fun H1 locs1 hP1 _ hS1 => hK _ _ _ _ _ h.2 hlen H1 locs1 lsA (e2 ▸ hP1) hS1 hl)
              · exact va_putN hx hb hU hin (fun k => (parseFieldDescriptor (T k).2.2.1).getD .int) hty (am_cls hcl).2.1 hown hKk hP (hD I L) hS o hw hcl y hkN (hN _ hlink) (fun x hx => by rw [hdecl] at hx; exact hx) (hfin rfl) e1 (by rcases h.1 with rfl | rfl <;> rfl) (by rcases h.1 with rfl | rfl <;> rfl) e3 hd (fun H1 locs1 hP1 _ hS1 => hK _ _ _ _ _ h.2 hlen H1 locs1 lsA (e2 ▸ hP1) hS1 hl)
          | n + 3, hf, h => exact h.elim
      · exact h3.elim
    · rename_i a o r
      obtain ⟨C, T, N, hcl, hkN, hdecl, hlink, hfin⟩ := am_fk h1
      obtain ⟨cl, hs, h3⟩ := am_sh_ok h
      clear h
      rcases cl with ⟨ci, fs⟩ | cl
      · dsimp only at h3
        cases hbq : Nat.beq ci x with
        | false => rw [hbq] at h3; exact h3.elim
        | true =>
          rw [hbq] at h3
          have hci := Nat.eq_of_beq_eq_true hbq
          subst hci
          obtain ⟨code, hf, h⟩ := am_fc_ok h3
          have hin : ∀ w ∈ u_ws C T N, w ∈ am_U := fun w hw => List.mem_filter.mpr ((am_cls hcl).1 w hw)
          have hty : ∀ k, k < N → parseFieldDescriptor (T k).2.2.1 = some ((parseFieldDescriptor (T k).2.2.1).getD .int) := fun k hk => by
            have := (am_cls hcl).2.2 k hk
            cases hq : parseFieldDescriptor (T k).2.2.1 with
            | none => rw [hq] at this; cases this
            | some t => rfl
          have hw := am_w_get (ad := ad) (ca := ca) (I := I) (L := L) hs
          match code, hf, h with
          | 0, hf, h => exact h.elim
          | 1, hf, h =>
              have hsc := am_shc hsh hs hcl hf
              have e1 : parseFieldDescriptor (T y).2.2.1 = some .long := by rw [hsc.2.2.1 rfl]; decide +kernel
              have e2 : (am_w S ad ca I L).set o (ad o, .inr (ci, (am_fs ad I L o 0 fs).set y (.long a))) = am_w S ad ca (I) (am_uj L o y a) := am_putw hs hf (by simp [am_fv, am_uj]) (fun a h => ⟨rfl, am_uj_o h⟩) (fun j h => ⟨rfl, by simp [am_uj, h]⟩)
              have e3 : y < (am_fs ad I L o 0 fs).length := by rw [am_fs_len]; exact (List.getElem?_eq_some_iff.mp hf).1
              rcases hlink with hlink | hlink
              · exact va_put hx hb hU hin (fun k => (parseFieldDescriptor (T k).2.2.1).getD .int) hty (am_cls hcl).2.1 hown hKk hP (hD I L) hS o hw hcl y hkN (hU _ hlink) (fun x hx => by rw [hdecl] at hx; exact hx) (hfin rfl) e1 rfl rfl e3 hd (fun H1 locs1 hP1 _ hS1 => hK _ _ _ _ _ h hlen H1 locs1 lsA (e2 ▸ hP1) hS1 hl)
              · exact va_putN hx hb hU hin (fun k => (parseFieldDescriptor (T k).2.2.1).getD .int) hty (am_cls hcl).2.1 hown hKk hP (hD I L) hS o hw hcl y hkN (hN _ hlink) (fun x hx => by rw [hdecl] at hx; exact hx) (hfin rfl) e1 rfl rfl e3 hd (fun H1 locs1 hP1 _ hS1 => hK _ _ _ _ _ h hlen H1 locs1 lsA (e2 ▸ hP1) hS1 hl)
          | n + 2, hf, h => exact h.elim
      · exact h3.elim
    · exact h.elim
  case iaload =>
    simp only [am_st] at h
    split at h
    · rename_i j o r
      obtain ⟨cl, hs, h⟩ := am_sh_ok h
      match cl, hs, h with
      | .inr (0, n, rs), hs, h => exact va_iald hx hb hKk hP o 0 (am_w_get hs) rfl h.1 hd (hK _ _ _ _ _ h.2 hlen H locs lsA hP hS hl)
    · exact h.elim
  case baload =>
    simp only [am_st] at h
    split at h
    · rename_i j o r
      obtain ⟨cl, hs, h⟩ := am_sh_ok h
      match cl, hs, h with
      | .inr (2, n, rs), hs, h => exact va_bald hx hb hKk hP o 2 (am_w_get hs) rfl h.1 hd (hK _ _ _ _ _ h.2 hlen H locs lsA hP hS hl)
    · exact h.elim
  case laload =>
    simp only [am_st] at h
    split at h
    · rename_i j o r
      obtain ⟨cl, hs, h⟩ := am_sh_ok h
      match cl, hs, h with
      | .inr (1, n, rs), hs, h => exact va_lald hx hb hKk hP o 1 (am_w_get hs) rfl h.1 hd (hK _ _ _ _ _ h.2 hlen H locs lsA hP hS hl)
    · exact h.elim
  case aaload =>
    simp only [am_st] at h
    split at h
    · rename_i j o r
      obtain ⟨cl, hs, h⟩ := am_sh_ok h
      match cl, hs, h with
      | .inr (3, n, rs), hs, h =>
        obtain ⟨hin, hn, hn2, h⟩ := h
        obtain ⟨k, hk, hj⟩ := am_inR hin hn2
        obtain ⟨a, ha⟩ : ∃ a, rs[k]? = some a := ⟨_, List.getElem?_eq_getElem (by omega)⟩
        have h3 := am_al_ok rs 0 j _ h k a ha (by rw [hj, show 0 + k = k by omega])
        refine va_aldq hx hb hKk hP o 3 (am_w_get hs) rfl hin hd ?_
        have e1 : j.toNatClampNeg = k := by rw [hj]; exact nI_clamp (by omega)
        rw [e1]
        show W p l e R s m args below meth c H locs 0 0 _ (F0 m (pc + 1) lsA (va_rf ((rs[k]?).map ad) :: _))
        rw [ha]
        exact (hK _ _ _ _ _ h3 hlen H locs lsA hP hS hl)
    · exact h.elim
  case iastore =>
    simp only [am_st] at h
    split at h
    · rename_i a j o r
      obtain ⟨cl, hs, h⟩ := am_sh_ok h
      match cl, hs, h with
      | .inr (0, n, rs), hs, h =>
        have e2 : (am_w S ad ca I L).set o (ad o, .inl (ca 0, n, .inl (upd (I o) j.toNatClampNeg a))) = am_w S ad ca (am_ui I o j.toNatClampNeg a) (L) := by
          have e3 : am_cell ad ca (am_ui I o j.toNatClampNeg a) (L) o (.inr (0, n, rs)) = .inl (ca 0, n, .inl (upd (I o) j.toNatClampNeg a)) := by
            show (Sum.inl (ca 0, n, .inl (am_ui I o j.toNatClampNeg a o)) : va_E) = _
            rw [am_ui_s]
          rw [← am_w_set hs (fun a h => ⟨am_ui_o h, rfl⟩), e3]
        exact va_iast hx hb hKk hP (hD I L) hS o 0 (am_w_get hs) rfl h.1 hd (fun H1 locs1 hP1 _ hS1 => hK _ _ _ _ _ h.2 hlen H1 locs1 lsA (e2 ▸ hP1) hS1 hl)
    · exact h.elim
  case bastore =>
    simp only [am_st] at h
    split at h
    · rename_i a j o r
      obtain ⟨cl, hs, h⟩ := am_sh_ok h
      match cl, hs, h with
      | .inr (2, n, rs), hs, h =>
        have e2 : (am_w S ad ca I L).set o (ad o, .inl (ca 2, n, .inl (upd (I o) j.toNatClampNeg (vp_nar .byte a)))) = am_w S ad ca (am_ui I o j.toNatClampNeg (vp_nar .byte a)) (L) := by
          have e3 : am_cell ad ca (am_ui I o j.toNatClampNeg (vp_nar .byte a)) (L) o (.inr (2, n, rs)) = .inl (ca 2, n, .inl (upd (I o) j.toNatClampNeg (vp_nar .byte a))) := by
            show (Sum.inl (ca 2, n, .inl (am_ui I o j.toNatClampNeg (vp_nar .byte a) o)) : va_E) = _
            rw [am_ui_s]
          rw [← am_w_set hs (fun a h => ⟨am_ui_o h, rfl⟩), e3]
        exact va_bast hx hb hKk hP (hD I L) hS o 2 (am_w_get hs) rfl h.1 hd (fun H1 locs1 hP1 _ hS1 => hK _ _ _ _ _ h.2 hlen H1 locs1 lsA (e2 ▸ hP1) hS1 hl)
    · exact h.elim
  case lastore =>
    simp only [am_st] at h
    split at h
    · rename_i a j o r
      obtain ⟨cl, hs, h⟩ := am_sh_ok h
      match cl, hs, h with
      | .inr (1, n, rs), hs, h =>
        have e2 : (am_w S ad ca I L).set o (ad o, .inl (ca 1, n, .inr (.inl (vp_updL (L o) j.toNatClampNeg a)))) = am_w S ad ca (I) (am_uj L o j.toNatClampNeg a) := by
          have e3 : am_cell ad ca (I) (am_uj L o j.toNatClampNeg a) o (.inr (1, n, rs)) = .inl (ca 1, n, .inr (.inl (vp_updL (L o) j.toNatClampNeg a))) := by
            show (Sum.inl (ca 1, n, .inr (.inl (am_uj L o j.toNatClampNeg a o))) : va_E) = _
            rw [am_uj_s]
          rw [← am_w_set hs (fun a h => ⟨rfl, am_uj_o h⟩), e3]
        exact va_last hx hb hKk hP (hD I L) hS o 1 (am_w_get hs) rfl h.1 hd (fun H1 locs1 hP1 _ hS1 => hK _ _ _ _ _ h.2 hlen H1 locs1 lsA (e2 ▸ hP1) hS1 hl)
    · exact h.elim
  case arraylength =>
    simp only [am_st] at h
    split at h
    · rename_i o r
      obtain ⟨cl, hs, h⟩ := am_sh_ok h
      match cl, hs, h with
      | .inr (0, n, rs), hs, h => exact va_alen hx hb hKk hP o 0 (am_w_get hs) rfl rfl hd (hK _ _ _ _ _ h hlen H locs lsA hP hS hl)
      | .inr (1, n, rs), hs, h => exact va_alen hx hb hKk hP o 1 (am_w_get hs) rfl rfl hd (hK _ _ _ _ _ h hlen H locs lsA hP hS hl)
      | .inr (2, n, rs), hs, h => exact va_alen hx hb hKk hP o 2 (am_w_get hs) rfl rfl hd (hK _ _ _ _ _ h hlen H locs lsA hP hS hl)
      | .inr (t + 3, n, rs), hs, h =>
        have : Nat.ble (t + 3) 2 = false := by cases hq : Nat.ble (t + 3) 2 with
          | false => rfl
          | true => have := Nat.le_of_ble_eq_true hq; omega
        simp only [this] at h
    · exact h.elim
  case tableswitch d lo hi offs =>
    simp only [am_st] at h
    split at h
    · rename_i a r
      simp only [Bool.and_eq_true, decide_eq_true_eq] at h1
      obtain ⟨rfl, hhi, hdf, hlw, hof⟩ := h1
      rcases am_ts_ok ws 0 a _ x h with ⟨k, t, g1, g2, g3⟩ | ⟨g1, g2⟩
      · have hk : k < ws.length := (List.getElem?_eq_some_iff.mp g1).1
        rw [show 0 + k = k by omega] at g2
        have ha : a.toInt = (k : Int) := by rw [g2]; exact nI_toInt (by omega)
        have h4 : (offs.toList.map (fun o => (pc : Int) + o))[k]? = some (t : Int) := by rw [hof, List.getElem?_map, g1]; rfl
        rw [List.getElem?_map] at h4
        obtain ⟨off, h5, h6⟩ := Option.map_eq_some_iff.mp h4
        exact lv_tableIn (off := off) (tgt := t) hx hb hd (by omega) (by omega) (by rw [ha, ← Array.getElem?_toList]; simpa using h5) h6 (hK _ _ _ _ _ g3 hlen H locs lsA hP hS hl)
      · have ha : ∀ k : Nat, k < ws.length → a.toInt ≠ (k : Int) := fun k hk q => g1 k hk (Int32.toInt_inj.mp (by rw [q, show 0 + k = k by omega]; exact (nI_toInt (by omega)).symm))
        refine lv_tableOut (tgt := x) hx hb hd ?_ hdf (hK _ _ _ _ _ g2 hlen H locs lsA hP hS hl)
        by_cases h0 : a.toInt < 0
        · exact Or.inl h0
        · right
          have := ha a.toInt.toNat
          omega
    · exact h.elim
  case lookupswitch d ps =>
    simp only [am_st] at h
    split at h
    · rename_i a r
      simp only [Bool.and_eq_true, decide_eq_true_eq] at h1
      obtain ⟨hks, hdf, hlw, hof⟩ := h1
      rcases am_ts_ok ws 0 a _ x h with ⟨k, t, g1, g2, g3⟩ | ⟨g1, g2⟩
      · have hk : k < ws.length := (List.getElem?_eq_some_iff.mp g1).1
        rw [show 0 + k = k by omega] at g2
        have ha : a.toInt = (k : Int) := by rw [g2]; exact nI_toInt (by omega)
        have h4 : (ps.toList.map (fun q => (pc : Int) + q.2))[k]? = some (t : Int) := by rw [hof, List.getElem?_map, g1]; rfl
        rw [List.getElem?_map] at h4
        obtain ⟨pr, h5, h6⟩ := Option.map_eq_some_iff.mp h4
        refine lv_lookup (off := pr.2) (tgt := t) hx hb hd (am_lk_sorted _ _ hks) ?_ h6 (hK _ _ _ _ _ g3 hlen H locs lsA hP hS hl)
        rw [ha]
        have h7 := am_lk_hit ps.toList 0 ws.length (by rw [hks, List.range_eq_range']) d k pr h5
        rwa [Nat.zero_add] at h7
      · have ha : ∀ k : Nat, k < ws.length → a.toInt ≠ (k : Int) := fun k hk q => g1 k hk (Int32.toInt_inj.mp (by rw [q, show 0 + k = k by omega]; exact (nI_toInt (by omega)).symm))
        refine lv_lookup (off := d) (tgt := x) hx hb hd (am_lk_sorted _ _ hks) ?_ hdf (hK _ _ _ _ _ g2 hlen H locs lsA hP hS hl)
        exact am_lk_miss ps.toList 0 ws.length (by rw [hks, List.range_eq_range']) d _ (fun k hk => by rw [Nat.zero_add]; exact ha k hk)
    · exact h.elim
  case invokestatic idx =>
    simp only [Bool.and_eq_true, decide_eq_true_eq] at h1
    obtain ⟨rfl, hk⟩ := h1
    obtain ⟨vs, r, g2, g3, g4⟩ := am_tk_ok y st [] _ h
    rw [List.append_nil] at g2
    subst g4
    split at g2
    · rename_i g1
      exact hc _ hk pc vs r I L _ H locs lsA hd g3 (Nat.le_of_ble_eq_true g1) (fun ci q => by dsimp only at q; omega) g2 hl.1 hP hS (fun v I' L' H' locs' hv hP' hS' => by
        cases v with
        | none => exact hK _ _ _ _ _ hv hlen H' locs' lsA hP' hS' hl
        | some v => exact hK _ _ _ _ _ hv hlen H' locs' lsA hP' hS' hl)
    · exact g2.elim
  case invokevirtual idx =>
    simp only [Bool.and_eq_true, decide_eq_true_eq] at h1
    obtain ⟨rfl, hk⟩ := h1
    obtain ⟨vs, r, g2, g3, g4⟩ := am_tk_ok y st [] _ h
    rw [List.append_nil] at g2
    subst g4
    split at g2
    · rename_i g1
      split at g2
      · rename_i o t
        obtain ⟨cl, hs, g2⟩ := am_sh_ok g2
        rcases cl with ⟨ci, fs⟩ | cl
        · dsimp only at g2
          split at g2
          · rename_i hci
            have hci := Nat.eq_of_beq_eq_true hci
            subst hci
            exact hc _ hk pc _ r I L _ H locs lsA (by rw [am_kind, if_neg (by dsimp only; omega)]; exact hd) g3 (Nat.le_of_ble_eq_true g1) (fun ci q => ⟨o, t, fs, rfl, by dsimp only at q; rw [hs, show ci = am_hd ws by omega]⟩) g2 hl.1 hP hS (fun v I' L' H' locs' hv hP' hS' => by
              cases v with
              | none => exact hK _ _ _ _ _ hv hlen H' locs' lsA hP' hS' hl
              | some v => exact hK _ _ _ _ _ hv hlen H' locs' lsA hP' hS' hl)
          · exact g2.elim
        · exact g2.elim
      · exact g2.elim
    · exact g2.elim
  case ireturn =>
    simp only [am_st] at h
    split at h
    · rename_i a
      cases rb with
      | true =>
        simp only [am_rchk, Bool.true_and, Bool.not_true, Bool.false_and, Bool.or_false, decide_eq_true_eq] at h2
        exact W.zret (ty := .boolean) hx hb (hr.trans h2) (by rcases h.1 with rfl | rfl <;> rfl) (fun t ht _ => ⟨⟨some (.int a), I, L, rfl, h.2, by rw [ht]; exact hP⟩, hS.F ht⟩) hS.2.2 hd hlocks
      | false =>
        simp only [am_rchk, Bool.false_and, Bool.not_false, Bool.true_and, Bool.false_or, decide_eq_true_eq] at h2
        exact W.iret hx hb (hr.trans h2) (fun t ht _ => ⟨⟨some (.int a), I, L, rfl, h, by rw [ht]; exact hP⟩, hS.F ht⟩) hS.2.2 hd hlocks
    · exact h.elim
  case lreturn =>
    simp only [am_st] at h
    split at h
    · rename_i a
      simp only [am_rchk, decide_eq_true_eq] at h2
      exact W.lret hx hb (hr.trans h2) (fun t ht _ => ⟨⟨some (.long a), I, L, rfl, h, by rw [ht]; exact hP⟩, hS.F ht⟩) hS.2.2 hd hlocks
    · exact h.elim
  case return_ =>
    simp only [am_st] at h
    split at h
    · simp only [am_rchk, decide_eq_true_eq] at h2
      exact W.vret hx hb (hr.trans h2) (fun t ht _ => ⟨⟨none, I, L, rfl, h, by rw [ht]; exact hP⟩, hS.F ht⟩) hS.2.2 hd hlocks
    · exact h.elim
end AM2
end
section
/-! A METHOD'S CONTRACT out of the small machine -/
def am_B (S : List am_C) (ad : Nat → Nat) (ca : Nat → ClassId) (D : va_G) (sz : Nat) (I : am_I) (L : am_J) : State → Prop := fun U => U.heap.size = sz ∧ va_P D am_cl (am_w S ad ca I L) U.heap ∧ va_K D am_cl (am_ty ca) U ∧ va_D (fun _ => True) (am_w S ad ca I L) ∧ (∀ w ∈ am_N, va_Nw w U)
def am_Met (l : Launch) (S : List am_C) (y : MethodName) (cc : ByteArray) (maxL : Nat) (ret : Option FieldType) (rm : Room) (T : am_Sp) : Prop :=
  ∀ (ad : Nat → Nat) (ca : Nat → ClassId) (D : va_G) (sz : Nat) (vs : List Value) (I : am_I) (L : am_J) (post : am_Po), T vs I L post → Met l y (.code y cc maxL ret :: am_U) rm (va_Pc (vs.map (am_val ad)) (am_B S ad ca D sz I L)) (am_Qc S ad ca D (va_A (am_w S ad ca I L) sz) post) 0 0 (va_A (am_w S ad ca I L) sz)
def am_Call (l : Launch) (S : List am_C) (own : String) (rm : Room) (idx n k : Nat) (T : am_Sp) : Prop :=
  ∀ (p : Program) (e : Env) (s : State) (m : MethodId) (args : Array Value) (below : List Frame) (meth : Method) (c : Code) (cc : ByteArray) (nL : Nat) (ad : Nat → Nat) (ca : Nat → ClassId) (D : va_G) (A : Nat → Prop) (Q : State → Prop), am_X p s m args c cc own nL S ad ca D A → am_CO p l e rm s m args below meth c cc nL S ad ca D A Q idx n k T
section AM3
variable {p : Program} {l : Launch} {e : Env} {R : Room} {s : State} {m : MethodId} {args : Array Value} {below : List Frame} {meth : Method} {c : Code} {cc : ByteArray} {own : String} {nL : Nat} {S : List am_C} {ad : Nat → Nat} {ca : Nat → ClassId} {D : va_G} {A : Nat → Prop}
theorem am_sound {rb : Bool} {post : am_Po} {keys : List (Nat × Nat × Nat)} {sp : Nat → am_Sp} {ret : Option FieldType} (X : am_X p s m args c cc own nL S ad ca D A) (hr : meth.sig.returnType = ret) (hlocks : meth.locks = false)
    (hc : ∀ k ∈ keys, am_CO p l e R s m args below meth c cc nL S ad ca D A (MQ below (am_Qc S ad ca D A post) args s 0 0 A) k.1 k.2.1 k.2.2 (sp k.1))
    {code : List am_E} (h1 : ∀ q ∈ code, am_chk own cc keys q = true) (h2 : ∀ q ∈ code, am_rchk ret rb q = true) {cuts : List (Nat × List Nat)} : ∀ (n pc : Nat) (ls : am_Lv) (st : List Value) (I : am_I) (L : am_J), am_ev S sp rb post code cuts (am_V p l e R s m args below meth c nL S ad ca D A (MQ below (am_Qc S ad ca D A post) args s 0 0 A)) n pc ls st I L → am_V p l e R s m args below meth c nL S ad ca D A (MQ below (am_Qc S ad ca D A post) args s 0 0 A) pc ls st I L := by
  intro n
  induction n with
  | zero => intro pc ls st I L h; exact h
  | succ n ih =>
    intro pc ls st I L h
    obtain ⟨q, hq, hpc, h3⟩ := am_fd_ok h
    clear h
    subst hpc
    refine am_sound1 X hr hlocks hc (fun pc' ls' st' I' L' hk => ?_) (h1 q hq) (h2 q hq) h3
    rcases am_ct_ok hk with ⟨m, hm⟩ | hk
    · obtain ⟨ls2, g1, g2, g3⟩ := am_keep_ok _ _ _ hm
      intro hlen H locs lsA hP hS hl
      exact g1 (g2.trans hlen) H locs lsA hP hS (am_lv_sub hl g3)
    · exact ih _ _ _ _ _ hk
theorem am_entry (vs : List Value) {n : Nat} (h : (am_en vs).length ≤ n) : lv_has ((lg_sl (vs.map (am_val ad)) ++ List.replicate (n - (lg_sl (vs.map (am_val ad))).length) Slot.unset).toArray) n (am_lc ad 0 (am_ent vs n)) := by
  have hl := lv_entry (vs.map (am_val ad)) (n := n) (by rw [am_en_len]; exact h)
  refine ⟨hl.1, hl.2.1, fun q hq => hl.2.2 q ?_⟩
  obtain ⟨j, v, h1, rfl⟩ := (am_lc_mem _ 0 q).mp hq
  exact am_en_sub vs 0 _ ((am_lc_mem _ 0 _).mpr ⟨j, v, am_pad_at _ _ _ _ h1, rfl⟩)
theorem am_callR {pc H : _} {A1 : Nat → Prop} {locs : List Loc} {lsA : Array Slot} {st0 rest : List Value} {post : am_Po} {a : Array Value} {free : Addr → Prop} {Q : State → Prop} (hr : va_Run p l e R s m args below meth c H locs 0 0 0 0 (F0 m pc lsA st0) rest (am_Qc S ad ca D A1 post a) free) (hS : va_S A s.heap H locs) (hA : ∀ q, q < H.size → A1 q → A q) (hf : ∀ q, free q → A q)
    (kk : ∀ (v : Option Value) (I' : am_I) (L' : am_J) (H' : Heap) (locs' : List Loc), post v I' L' → va_P D am_cl (am_w S ad ca I' L') H' → va_S A s.heap H' locs' → W p l e R s m args below meth c H' locs' 0 0 Q (F0 m (pc + 3) lsA ((v.map (am_val ad)).toList ++ rest))) : W p l e R s m args below meth c H locs 0 0 Q (F0 m pc lsA st0) := by
  intro T hT X
  obtain ⟨v, st₀, t, T', L, h0, X', hL, e1, e2, ⟨⟨v', I', L', hv, hp, hP⟩, hz, hk⟩, st⟩ := hr T hT X
  cases hv
  rw [h0] at hz hk
  obtain ⟨t2, a1, b1⟩ := kk v' I' L' T'.heap (locs ++ L) hp (by rw [e1]; exact hP)
    ⟨Nat.le_trans hS.1 (by rw [e1]; exact hz), fun q h1 h2 => by rw [e1, hk q (Nat.lt_of_lt_of_le h1 hS.1) (fun z => h2 (hA q (Nat.lt_of_lt_of_le h1 hS.1) z))]; exact hS.2.1 q h1 h2, fun q hq => by
      rcases List.mem_append.mp hq with h | h
      · exact hS.2.2 q h
      · exact hf _ (hL q h)⟩ T' rfl X'
  exact ⟨t2, st t2 a1, b1⟩
theorem am_blind {vs : List Value} {sz : Nat} {I : am_I} {L : am_J} : FrameBlind (va_Pc vs (am_B S ad ca D sz I L)) := by
  intro a U g mk q
  obtain ⟨e, h1, h2, h3, h4, h5⟩ := q
  exact ⟨e, h1, h2, va_K.moved (u := U) (U := U.calling g mk a) (Vm.Alike.refl U.vm) h3, h4, fun w hw => va_Nw.same (u := U) (U := U.calling g mk a) (am_N_tabs hw) rfl (h5 w hw)⟩
theorem am_freeA {H : Heap} {locs : List Loc} {I : am_I} {L : am_J} (hD : va_D A (am_w S ad ca I L)) (hS : va_S A s.heap H locs) (hA : ∀ q : Nat, s.heap.size ≤ q → A q) : ∀ q, va_A (am_w S ad ca I L) H.size q → A q := by
  intro q h
  rcases h with ⟨k, e, h⟩ | h
  · exact hD.2 k (q, e) h
  · exact hA q (Nat.le_trans hS.1 h)
end AM3
theorem am_MetOf {l : Launch} {S : List am_C} {y : MethodName} {cc : ByteArray} {maxL : Nat} {ret : Option FieldType} {rm : Room} {T : am_Sp} (keys : List (Nat × Nat × Nat)) {sp : Nat → am_Sp} {rb : Bool} {code : List am_E} (hok : am_Ok S sp rb code maxL T) (hy : plainName y.cls = true) (hchk : code.all (am_chk y.cls cc keys) = true) (hrchk : code.all (am_rchk ret rb) = true) (hS : am_shOK S = true) (hcalls : ∀ k ∈ keys, am_Call l S y.cls rm k.1 k.2.1 k.2.2 (sp k.1)) : am_Met l S y cc maxL ret rm T := by
  intro ad ca D sz vs I L post hT
  obtain ⟨hen, hG⟩ := hok vs I L post hT
  refine Met.ofW (cc := cc) (maxL := maxL) (ret := ret) hy rfl ?_
  intro p e s m args below meth c s₁ B hml hv
  obtain ⟨rfl, hsz, hP, hK, hD0, hN⟩ := hv
  have hts := atoms_spec (ws := Cond.code y cc maxL ret :: am_U) B.pre
  subst hsz
  have hD := hD0.self (sz := s.heap.size)
  have X : am_X p s m (vs.map (am_val ad)).toArray c cc y.cls maxL S ad ca D (va_A (am_w S ad ca I L) s.heap.size) := ⟨B.exec, B.bytes, hml, findClass_of_methodNamed B.named, fun w hw => hts w (List.mem_cons_of_mem _ hw), fun w hw => va_Nw.use (am_N_tabs hw) (hN w hw), hK, fun I' L' => am_D hD, hS, fun q h => Or.inr h⟩
  have key := hG (am_V p l e rm s m (vs.map (am_val ad)).toArray below meth c maxL S ad ca D (va_A (am_w S ad ca I L) s.heap.size) (MQ below (am_Qc S ad ca D (va_A (am_w S ad ca I L) s.heap.size) post) (vs.map (am_val ad)).toArray s 0 0 (va_A (am_w S ad ca I L) s.heap.size))) (fun cuts n pc ls st I L h => am_sound X B.returns B.notSynchronized (fun k hk => hcalls k hk p e s m _ below meth c cc maxL ad ca D _ _ X) (fun q hq => List.all_eq_true.mp hchk q hq) (fun q hq => List.all_eq_true.mp hrchk q hq) n pc ls st I L h)
  rw [lg_entry_eq]
  exact key (am_pad_len _ _ hen) s.heap [] _ hP va_S.rf (am_entry vs hen)
theorem am_co_V {l : Launch} {S : List am_C} {own : String} {rm rm' : Room} {idx n ci N : Nat} {y : MethodName} {bytes : ByteArray} {maxL : Nat} {ret : Option FieldType} {T : am_Sp} {TT : u_T} (hM : am_Met l S y bytes maxL ret rm' T) (hl : Cond.methodLink own idx y ∈ am_U) (hi : Cond.instanceMethod y ∈ am_U) (hse : Cond.selects y.cls y y ∈ am_U) (hini : Cond.initialized y.cls ∈ am_U) (hcode : Cond.code y bytes maxL ret ∈ am_U)
    (hd : y.cls ≠ "java/lang/invoke/MethodHandle" ∧ y.cls ≠ "java/lang/invoke/VarHandle" ∧ (parseMethodDescriptor y.desc).map (fun d => d.parameters.length) = some n) (hrc : rm'.cells = 0) (hrs : rm'.slots = 0) (hR : rm'.frames + 1 ≤ rm.frames ∧ 8 + (maxL + 11) + rm'.locals ≤ rm.locals) (hcl : am_cl[ci]? = some (y.cls, TT, N)) : am_Call l S own rm idx (n + 1) (10 + ci) T := by
  intro p e s m args below meth c cc nL ad ca D A Q X pc vs r I L post H locs lsA hdg hlen hcat hobj hT hsz hP hS kk
  obtain ⟨hx, hb, hml, hown, hU, hN, hK, hD, hsh, hA⟩ := X
  obtain ⟨o, t, fs, rfl, hs⟩ := hobj ci rfl
  have hlen : t.length = n := by simpa using hlen
  rw [am_kind, if_neg (by omega)] at hdg
  have hfree := am_freeA (hD I L) hS hA
  have hG : GoodIn am_U (Cond.code y bytes maxL ret :: am_U) := am_goodU (fun w hw => by rcases List.mem_cons.mp hw with h | h; exact h ▸ hcode; exact h)
  refine am_callR (H := H) (A1 := va_A (am_w S ad ca I L) H.size) (rest := r.map (am_val ad)) (free := va_A (am_w S ad ca I L) H.size) (va_runV (As := t.map (am_val ad)) (b := ad o) ⟨hx, hb, hml, hown, hU⟩ (hM ad ca D H.size (.ref o :: t) I L post hT) ⟨callB_of n hU hG rfl hrc hrs (hU _ hini) (hU _ hl) hd hR, hU _ hi, hU _ hse⟩ ⟨am_blind, va_recv hK hP hcl (am_w_get hs), fun U hU2 hW => ⟨rfl, by rw [hU2], by rw [hU2]; exact hP, va_K.moved hW.alike hK, (hD I L).weaken (fun _ _ _ _ => trivial), am_N_warm hW (fun w hw => va_Nw.of (am_N_tabs hw) (hN w hw))⟩⟩ rfl (by simpa using hlen) hsz ?_ (lv_room (by rw [am_cat_ok]; exact hcat)) hdg ⟨Nat.zero_le _, Nat.zero_le _⟩) hS (fun q _ h => hfree q h) hfree (fun v I' L' H' locs' h1 h2 h3 => ?_)
  · simp [am_val]
  · have := kk v I' L' H' locs' h1 h2 h3
    cases v <;> exact this
theorem am_co_S {l : Launch} {S : List am_C} {own : String} {rm rm' : Room} {idx n : Nat} {y : MethodName} {bytes : ByteArray} {maxL : Nat} {ret : Option FieldType} {T : am_Sp} (hM : am_Met l S y bytes maxL ret rm' T) (hl : Cond.methodLink own idx y ∈ am_U) (hst : Cond.static y ∈ am_U) (hini : Cond.initialized y.cls ∈ am_U) (hcode : Cond.code y bytes maxL ret ∈ am_U)
    (hd : y.cls ≠ "java/lang/invoke/MethodHandle" ∧ y.cls ≠ "java/lang/invoke/VarHandle" ∧ (parseMethodDescriptor y.desc).map (fun d => d.parameters.length) = some n) (hrc : rm'.cells = 0) (hrs : rm'.slots = 0) (hR : rm'.frames + 1 ≤ rm.frames ∧ 8 + (maxL + 11) + rm'.locals ≤ rm.locals) : am_Call l S own rm idx n 0 T := by
  intro p e s m args below meth c cc nL ad ca D A Q X pc vs r I L post H locs lsA hdg hlen hcat hobj hT hsz hP hS kk
  obtain ⟨hx, hb, hml, hown, hU, hN, hK, hD, hsh, hA⟩ := X
  rw [am_kind, if_pos rfl] at hdg
  have hfree := am_freeA (hD I L) hS hA
  have hG : GoodIn am_U (Cond.code y bytes maxL ret :: am_U) := am_goodU (fun w hw => by rcases List.mem_cons.mp hw with h | h; exact h ▸ hcode; exact h)
  refine am_callR (H := H) (A1 := va_A (am_w S ad ca I L) H.size) (rest := r.map (am_val ad)) (free := va_A (am_w S ad ca I L) H.size) (va_runS (As := vs.map (am_val ad)) ⟨hx, hb, hml, hown, hU⟩ (hM ad ca D H.size vs I L post hT) ⟨callB_of n hU hG rfl hrc hrs (hU _ hini) (hU _ hl) hd hR, hU _ hst⟩ ⟨am_blind, fun U hU2 hW => ⟨rfl, by rw [hU2], by rw [hU2]; exact hP, va_K.moved hW.alike hK, (hD I L).weaken (fun _ _ _ _ => trivial), am_N_warm hW (fun w hw => va_Nw.of (am_N_tabs hw) (hN w hw))⟩⟩ rfl (by simpa using hlen) hsz ?_ (lv_room (by rw [am_cat_ok]; exact hcat)) hdg ⟨Nat.zero_le _, Nat.zero_le _⟩) hS (fun q _ h => hfree q h) hfree (fun v I' L' H' locs' h1 h2 h3 => ?_)
  · simp
  · have := kk v I' L' H' locs' h1 h2 h3
    cases v <;> exact this
theorem am_co_SN {l : Launch} {S : List am_C} {own : String} {rm rm' : Room} {idx n : Nat} {y : MethodName} {bytes : ByteArray} {maxL : Nat} {ret : Option FieldType} {T : am_Sp} (hM : am_Met l S y bytes maxL ret rm' T) (hl : Cond.methodLinkNest own idx y "ReadPass" ∈ am_N) (hst : Cond.static y ∈ am_U) (hini : Cond.initialized y.cls ∈ am_U) (hcode : Cond.code y bytes maxL ret ∈ am_U)
    (hd : y.cls ≠ "java/lang/invoke/MethodHandle" ∧ y.cls ≠ "java/lang/invoke/VarHandle" ∧ (parseMethodDescriptor y.desc).map (fun d => d.parameters.length) = some n) (hrc : rm'.cells = 0) (hrs : rm'.slots = 0) (hR : rm'.frames + 1 ≤ rm.frames ∧ 8 + (maxL + 11) + rm'.locals ≤ rm.locals) : am_Call l S own rm idx n 0 T := by
  intro p e s m args below meth c cc nL ad ca D A Q X pc vs r I L post H locs lsA hdg hlen hcat hobj hT hsz hP hS kk
  obtain ⟨hx, hb, hml, hown, hU, hN, hK, hD, hsh, hA⟩ := X
  rw [am_kind, if_pos rfl] at hdg
  have hfree := am_freeA (hD I L) hS hA
  have hG : GoodIn am_U (Cond.code y bytes maxL ret :: am_U) := am_goodU (fun w hw => by rcases List.mem_cons.mp hw with h | h; exact h ▸ hcode; exact h)
  refine am_callR (H := H) (A1 := va_A (am_w S ad ca I L) H.size) (rest := r.map (am_val ad)) (free := va_A (am_w S ad ca I L) H.size) (va_runSN (As := vs.map (am_val ad)) ⟨hx, hb, hml, hown, hU⟩ (hM ad ca D H.size vs I L post hT) ⟨va_cnB n hU hG rfl hrc hrs (va_Nw.of (am_N_tabs hl) (hN _ hl)) (hU _ hini) hd hR, hU _ hst, trivial⟩ ⟨am_blind, fun U hU2 hW => ⟨rfl, by rw [hU2], by rw [hU2]; exact hP, va_K.moved hW.alike hK, (hD I L).weaken (fun _ _ _ _ => trivial), am_N_warm hW (fun w hw => va_Nw.of (am_N_tabs hw) (hN w hw))⟩⟩ rfl (by simpa using hlen) hsz ?_ (lv_room (by rw [am_cat_ok]; exact hcat)) hdg ⟨Nat.zero_le _, Nat.zero_le _⟩) hS (fun q _ h => hfree q h) hfree (fun v I' L' H' locs' h1 h2 h3 => ?_)
  · simp
  · have := kk v I' L' H' locs' h1 h2 h3
    cases v <;> exact this
end
section
/-! the world of the class, and the code of its methods, as tables (written by program) -/
def am_SX : List am_C := [.inl (0, [4, 10, 16, 22, 24, 28, 37, 2]), .inl (1, [5, 6, 7, 8, 9, 0, 0, 0, 0, 0, 1, 1]), .inr (0, 12, []), .inr (0, 12, []), .inr (0, 64, []), .inr (0, 8, []), .inr (0, 8, []), .inl (1, [11, 12, 13, 14, 15, 0, 0, 0, 0, 0, 1, 1]), .inr (0, 12, []), .inr (0, 12, []), .inr (0, 64, []), .inr (0, 8, []), .inr (0, 8, []), .inl (1, [17, 18, 19, 20, 21, 0, 0, 0, 0, 0, 1, 1]), .inr (0, 12, []), .inr (0, 12, []), .inr (0, 64, []), .inr (0, 8, []), .inr (0, 8, []), .inl (2, [23, 0, 0]), .inr (2, 100, []), .inl (3, [25, 0, 0, 0, 0, 0, 0, 0, 0, 1]), .inl (4, [26, 27, 0]), .inr (1, 512, []), .inr (0, 512, []), .inr (3, 4, [26, 28, 30, 32]), .inl (5, [30, 0, 0]), .inr (1, 24, []), .inl (5, [32, 0, 0]), .inr (1, 24, []), .inl (5, [34, 0, 0]), .inr (1, 24, []), .inl (5, [36, 0, 0]), .inr (1, 24, []), .inr (0, 24, [])]
def k_RP_way : List am_E := [
  (0, .iload_n 1, 1, 0, 0, 0, 0, []),
  (1, .invokestatic 47, 4, 47, 1, 0, 0, []),
  (4, .ifCond .eq 15, 7, 19, 0, 0, 0, []),
  (7, .iload_n 2, 8, 0, 0, 0, 0, []),
  (8, .invokestatic 47, 11, 47, 1, 0, 0, []),
  (11, .ifCond .eq 8, 14, 19, 0, 0, 0, []),
  (14, .iload_n 1, 15, 0, 0, 0, 0, []),
  (15, .iload_n 2, 16, 0, 0, 0, 0, []),
  (16, .if_icmp .ne 5, 19, 21, 0, 0, 0, []),
  (19, .iconst (-1), 20, 0, 0, (-1), 0, []),
  (20, .ireturn, 21, 0, 0, 0, 0, []),
  (21, .aload_n 0, 22, 0, 0, 0, 0, []),
  (22, .getfield 12, 25, 0, 0, 0, 0, [181]),
  (25, .iload_n 1, 26, 0, 0, 0, 0, []),
  (26, .iload_n 2, 27, 0, 0, 0, 0, []),
  (27, .invokevirtual 51, 30, 51, 3, 0, 0, [1]),
  (30, .ifCond .eq 6, 33, 36, 0, 0, 0, []),
  (33, .bipush (-2), 35, 0, 0, (-2), 0, []),
  (35, .ireturn, 36, 0, 0, 0, 0, []),
  (36, .aload_n 0, 37, 0, 0, 0, 0, []),
  (37, .getfield 12, 40, 0, 0, 0, 0, [181]),
  (40, .iload_n 3, 41, 0, 0, 0, 0, []),
  (41, .invokevirtual 55, 44, 55, 2, 0, 0, [1]),
  (44, .ifCond .ne 6, 47, 50, 0, 0, 0, []),
  (47, .bipush (-3), 49, 0, 0, (-3), 0, []),
  (49, .ireturn, 50, 0, 0, 0, 0, []),
  (50, .aload_n 0, 51, 0, 0, 0, 0, []),
  (51, .getfield 12, 54, 0, 0, 0, 0, [181]),
  (54, .iload_n 1, 55, 0, 0, 0, 0, []),
  (55, .iload_n 2, 56, 0, 0, 0, 0, []),
  (56, .iload_n 3, 57, 0, 0, 0, 0, []),
  (57, .invokevirtual 59, 60, 59, 4, 0, 0, [1]),
  (60, .ireturn, 61, 0, 0, 0, 0, [])]
def k_RP_isPlace : List am_E := [
  (0, .iload_n 0, 1, 0, 0, 0, 0, []),
  (1, .ifCond .lt 13, 4, 14, 0, 0, 0, []),
  (4, .iload_n 0, 5, 0, 0, 0, 0, []),
  (5, .bipush 8, 7, 0, 0, 8, 0, []),
  (7, .if_icmp .ge 7, 10, 14, 0, 0, 0, []),
  (10, .iconst 1, 11, 0, 0, 1, 0, []),
  (11, .goto 4, 14, 15, 0, 0, 0, []),
  (14, .iconst 0, 15, 0, 0, 0, 0, []),
  (15, .ireturn, 16, 0, 0, 0, 0, [])]
def k_RD_isJoined : List am_E := [
  (0, .aload_n 0, 1, 0, 0, 0, 0, []),
  (1, .iload_n 1, 2, 0, 0, 0, 0, []),
  (2, .iload_n 2, 3, 0, 0, 0, 0, []),
  (3, .invokevirtual 43, 6, 43, 3, 0, 0, [1]),
  (6, .iconst (-1), 7, 0, 0, (-1), 0, []),
  (7, .if_icmp .eq 7, 10, 14, 0, 0, 0, []),
  (10, .iconst 1, 11, 0, 0, 1, 0, []),
  (11, .goto 4, 14, 15, 0, 0, 0, []),
  (14, .iconst 0, 15, 0, 0, 0, 0, []),
  (15, .ireturn, 16, 0, 0, 0, 0, [])]
def k_RD_wayBetween : List am_E := [
  (0, .iload_n 1, 1, 0, 0, 0, 0, []),
  (1, .invokestatic 47, 4, 47, 1, 0, 0, []),
  (4, .ifCond .eq 26, 7, 30, 0, 0, 0, []),
  (7, .iload_n 2, 8, 0, 0, 0, 0, []),
  (8, .invokestatic 47, 11, 47, 1, 0, 0, []),
  (11, .ifCond .eq 19, 14, 30, 0, 0, 0, []),
  (14, .aload_n 0, 15, 0, 0, 0, 0, []),
  (15, .getfield 18, 18, 1, 2, 0, 0, [41]),
  (18, .iload_n 1, 19, 0, 0, 0, 0, []),
  (19, .bipush 8, 21, 0, 0, 8, 0, []),
  (21, .imul, 22, 0, 0, 0, 0, []),
  (22, .iload_n 2, 23, 0, 0, 0, 0, []),
  (23, .iadd, 24, 0, 0, 0, 0, []),
  (24, .iaload, 25, 0, 0, 0, 0, []),
  (25, .iconst 1, 26, 0, 0, 1, 0, []),
  (26, .isub, 27, 0, 0, 0, 0, []),
  (27, .goto 4, 30, 31, 0, 0, 0, []),
  (30, .iconst (-1), 31, 0, 0, (-1), 0, []),
  (31, .ireturn, 32, 0, 0, 0, 0, [])]
def k_RD_hasRoom : List am_E := [
  (0, .aload_n 0, 1, 0, 0, 0, 0, []),
  (1, .getfield 31, 4, 1, 5, 0, 0, [44]),
  (4, .bipush 12, 6, 0, 0, 12, 0, []),
  (6, .if_icmp .ge 23, 9, 29, 0, 0, 0, []),
  (9, .iload_n 1, 10, 0, 0, 0, 0, []),
  (10, .ifCond .eq 15, 13, 25, 0, 0, 0, []),
  (13, .aload_n 0, 14, 0, 0, 0, 0, []),
  (14, .getfield 34, 17, 1, 6, 0, 0, [46]),
  (17, .invokestatic 37, 20, 37, 1, 0, 0, []),
  (20, .bipush 6, 22, 0, 0, 6, 0, []),
  (22, .if_icmp .ge 7, 25, 29, 0, 0, 0, []),
  (25, .iconst 1, 26, 0, 0, 1, 0, []),
  (26, .goto 4, 29, 30, 0, 0, 0, []),
  (29, .iconst 0, 30, 0, 0, 0, 0, []),
  (30, .ireturn, 31, 0, 0, 0, 0, [])]
def k_IN_bitCount : List am_E := [
  (0, .iload_n 0, 1, 0, 0, 0, 0, []),
  (1, .iload_n 0, 2, 0, 0, 0, 0, []),
  (2, .iconst 1, 3, 0, 0, 1, 0, []),
  (3, .iushr, 4, 0, 0, 0, 0, []),
  (4, .ldc_w 265, 7, 229, 0, 1431655765, 0, []),
  (7, .iand, 8, 0, 0, 0, 0, []),
  (8, .isub, 9, 0, 0, 0, 0, []),
  (9, .istore_n 0, 10, 0, 0, 0, 0, []),
  (10, .iload_n 0, 11, 0, 0, 0, 0, []),
  (11, .ldc_w 266, 14, 230, 0, 858993459, 0, []),
  (14, .iand, 15, 0, 0, 0, 0, []),
  (15, .iload_n 0, 16, 0, 0, 0, 0, []),
  (16, .iconst 2, 17, 0, 0, 2, 0, []),
  (17, .iushr, 18, 0, 0, 0, 0, []),
  (18, .ldc_w 266, 21, 230, 0, 858993459, 0, []),
  (21, .iand, 22, 0, 0, 0, 0, []),
  (22, .iadd, 23, 0, 0, 0, 0, []),
  (23, .istore_n 0, 24, 0, 0, 0, 0, []),
  (24, .iload_n 0, 25, 0, 0, 0, 0, []),
  (25, .iload_n 0, 26, 0, 0, 0, 0, []),
  (26, .iconst 4, 27, 0, 0, 4, 0, []),
  (27, .iushr, 28, 0, 0, 0, 0, []),
  (28, .iadd, 29, 0, 0, 0, 0, []),
  (29, .ldc_w 267, 32, 231, 0, 252645135, 0, []),
  (32, .iand, 33, 0, 0, 0, 0, []),
  (33, .istore_n 0, 34, 0, 0, 0, 0, []),
  (34, .iload_n 0, 35, 0, 0, 0, 0, []),
  (35, .iload_n 0, 36, 0, 0, 0, 0, []),
  (36, .bipush 8, 38, 0, 0, 8, 0, []),
  (38, .iushr, 39, 0, 0, 0, 0, []),
  (39, .iadd, 40, 0, 0, 0, 0, []),
  (40, .istore_n 0, 41, 0, 0, 0, 0, []),
  (41, .iload_n 0, 42, 0, 0, 0, 0, []),
  (42, .iload_n 0, 43, 0, 0, 0, 0, []),
  (43, .bipush 16, 45, 0, 0, 16, 0, []),
  (45, .iushr, 46, 0, 0, 0, 0, []),
  (46, .iadd, 47, 0, 0, 0, 0, []),
  (47, .istore_n 0, 48, 0, 0, 0, 0, []),
  (48, .iload_n 0, 49, 0, 0, 0, 0, []),
  (49, .bipush 63, 51, 0, 0, 63, 0, []),
  (51, .iand, 52, 0, 0, 0, 0, []),
  (52, .ireturn, 53, 0, 0, 0, 0, [])]
def k_RD_join : List am_E := [
  (0, .aload_n 0, 1, 0, 0, 0, 0, []),
  (1, .getfield 31, 4, 1, 5, 0, 0, [44]),
  (4, .istore 4, 6, 0, 0, 0, 0, []),
  (6, .iload_n 1, 7, 0, 0, 0, 0, []),
  (7, .invokestatic 47, 10, 47, 1, 0, 0, []),
  (10, .ifCond .eq 17, 13, 27, 0, 0, 0, []),
  (13, .iload_n 2, 14, 0, 0, 0, 0, []),
  (14, .invokestatic 47, 17, 47, 1, 0, 0, []),
  (17, .ifCond .eq 10, 20, 27, 0, 0, 0, []),
  (20, .iload 4, 22, 0, 0, 0, 0, []),
  (22, .bipush 12, 24, 0, 0, 12, 0, []),
  (24, .if_icmp .lt 5, 27, 29, 0, 0, 0, []),
  (27, .iconst (-1), 28, 0, 0, (-1), 0, []),
  (28, .ireturn, 29, 0, 0, 0, 0, []),
  (29, .aload_n 0, 30, 0, 0, 0, 0, []),
  (30, .getfield 9, 33, 1, 0, 0, 0, [39]),
  (33, .iload 4, 35, 0, 0, 0, 0, []),
  (35, .iload_n 1, 36, 0, 0, 0, 0, []),
  (36, .iload_n 2, 37, 0, 0, 0, 0, []),
  (37, .if_icmp .ge 7, 40, 44, 0, 0, 0, []),
  (40, .iload_n 1, 41, 0, 0, 0, 0, []),
  (41, .goto 4, 44, 45, 0, 0, 0, []),
  (44, .iload_n 2, 45, 0, 0, 0, 0, []),
  (45, .iastore, 46, 0, 0, 0, 0, []),
  (46, .aload_n 0, 47, 0, 0, 0, 0, []),
  (47, .getfield 15, 50, 1, 1, 0, 0, [40]),
  (50, .iload 4, 52, 0, 0, 0, 0, []),
  (52, .iload_n 1, 53, 0, 0, 0, 0, []),
  (53, .iload_n 2, 54, 0, 0, 0, 0, []),
  (54, .if_icmp .ge 7, 57, 61, 0, 0, 0, []),
  (57, .iload_n 2, 58, 0, 0, 0, 0, []),
  (58, .goto 4, 61, 62, 0, 0, 0, []),
  (61, .iload_n 1, 62, 0, 0, 0, 0, []),
  (62, .iastore, 63, 0, 0, 0, 0, []),
  (63, .aload_n 0, 64, 0, 0, 0, 0, []),
  (64, .getfield 18, 67, 1, 2, 0, 0, [41]),
  (67, .iload_n 1, 68, 0, 0, 0, 0, []),
  (68, .bipush 8, 70, 0, 0, 8, 0, []),
  (70, .imul, 71, 0, 0, 0, 0, []),
  (71, .iload_n 2, 72, 0, 0, 0, 0, []),
  (72, .iadd, 73, 0, 0, 0, 0, []),
  (73, .iload 4, 75, 0, 0, 0, 0, []),
  (75, .iconst 1, 76, 0, 0, 1, 0, []),
  (76, .iadd, 77, 0, 0, 0, 0, []),
  (77, .iastore, 78, 0, 0, 0, 0, []),
  (78, .aload_n 0, 79, 0, 0, 0, 0, []),
  (79, .getfield 18, 82, 1, 2, 0, 0, [41]),
  (82, .iload_n 2, 83, 0, 0, 0, 0, []),
  (83, .bipush 8, 85, 0, 0, 8, 0, []),
  (85, .imul, 86, 0, 0, 0, 0, []),
  (86, .iload_n 1, 87, 0, 0, 0, 0, []),
  (87, .iadd, 88, 0, 0, 0, 0, []),
  (88, .iload 4, 90, 0, 0, 0, 0, []),
  (90, .iconst 1, 91, 0, 0, 1, 0, []),
  (91, .iadd, 92, 0, 0, 0, 0, []),
  (92, .iastore, 93, 0, 0, 0, 0, []),
  (93, .aload_n 0, 94, 0, 0, 0, 0, []),
  (94, .dup, 95, 0, 0, 0, 0, []),
  (95, .getfield 67, 98, 1, 10, 0, 0, [56]),
  (98, .iload_n 1, 99, 0, 0, 0, 0, []),
  (99, .iload_n 2, 100, 0, 0, 0, 0, []),
  (100, .invokestatic 71, 103, 71, 2, 0, 0, []),
  (103, .lor, 104, 0, 0, 0, 0, []),
  (104, .putfield 67, 107, 1, 10, 0, 0, [56]),
  (107, .iload_n 3, 108, 0, 0, 0, 0, []),
  (108, .ifCond .eq 19, 111, 127, 0, 0, 0, []),
  (111, .aload_n 0, 112, 0, 0, 0, 0, []),
  (112, .dup, 113, 0, 0, 0, 0, []),
  (113, .getfield 34, 116, 1, 6, 0, 0, [46]),
  (116, .iconst 1, 117, 0, 0, 1, 0, []),
  (117, .iload 4, 119, 0, 0, 0, 0, []),
  (119, .ishl, 120, 0, 0, 0, 0, []),
  (120, .ior, 121, 0, 0, 0, 0, []),
  (121, .putfield 34, 124, 1, 6, 0, 0, [46]),
  (124, .goto 17, 127, 141, 0, 0, 0, []),
  (127, .aload_n 0, 128, 0, 0, 0, 0, []),
  (128, .dup, 129, 0, 0, 0, 0, []),
  (129, .getfield 77, 132, 1, 11, 0, 0, [57]),
  (132, .iload_n 1, 133, 0, 0, 0, 0, []),
  (133, .iload_n 2, 134, 0, 0, 0, 0, []),
  (134, .invokestatic 71, 137, 71, 2, 0, 0, []),
  (137, .lor, 138, 0, 0, 0, 0, []),
  (138, .putfield 77, 141, 1, 11, 0, 0, [57]),
  (141, .aload_n 0, 142, 0, 0, 0, 0, []),
  (142, .dup, 143, 0, 0, 0, 0, []),
  (143, .getfield 31, 146, 1, 5, 0, 0, [44]),
  (146, .iconst 1, 147, 0, 0, 1, 0, []),
  (147, .iadd, 148, 0, 0, 0, 0, []),
  (148, .putfield 31, 151, 1, 5, 0, 0, [44]),
  (151, .iload 4, 153, 0, 0, 0, 0, []),
  (153, .ireturn, 154, 0, 0, 0, 0, [])]
def k_NT_pair : List am_E := [
  (0, .lconst 1, 1, 0, 0, 0, 1, []),
  (1, .iload_n 0, 2, 0, 0, 0, 0, []),
  (2, .bipush 8, 4, 0, 0, 8, 0, []),
  (4, .imul, 5, 0, 0, 0, 0, []),
  (5, .iload_n 1, 6, 0, 0, 0, 0, []),
  (6, .iadd, 7, 0, 0, 0, 0, []),
  (7, .lshl, 8, 0, 0, 0, 0, []),
  (8, .lconst 1, 9, 0, 0, 0, 1, []),
  (9, .iload_n 1, 10, 0, 0, 0, 0, []),
  (10, .bipush 8, 12, 0, 0, 8, 0, []),
  (12, .imul, 13, 0, 0, 0, 0, []),
  (13, .iload_n 0, 14, 0, 0, 0, 0, []),
  (14, .iadd, 15, 0, 0, 0, 0, []),
  (15, .lshl, 16, 0, 0, 0, 0, []),
  (16, .lor, 17, 0, 0, 0, 0, []),
  (17, .lreturn, 18, 0, 0, 0, 0, [])]
def k_RP_strike : List am_E := [
  (0, .iload_n 1, 1, 0, 0, 0, 0, []),
  (1, .invokestatic 47, 4, 47, 1, 0, 0, []),
  (4, .ifCond .ne 5, 7, 9, 0, 0, 0, []),
  (7, .iconst (-1), 8, 0, 0, (-1), 0, []),
  (8, .ireturn, 9, 0, 0, 0, 0, []),
  (9, .aload_n 0, 10, 0, 0, 0, 0, []),
  (10, .getfield 12, 13, 0, 0, 0, 0, [181]),
  (13, .iload_n 1, 14, 0, 0, 0, 0, []),
  (14, .invokevirtual 96, 17, 96, 2, 0, 0, [1]),
  (17, .ifCond .ne 6, 20, 23, 0, 0, 0, []),
  (20, .bipush (-2), 22, 0, 0, (-2), 0, []),
  (22, .ireturn, 23, 0, 0, 0, 0, []),
  (23, .aload_n 0, 24, 0, 0, 0, 0, []),
  (24, .getfield 12, 27, 0, 0, 0, 0, [181]),
  (27, .iload_n 1, 28, 0, 0, 0, 0, []),
  (28, .invokevirtual 99, 31, 99, 2, 0, 0, [1]),
  (31, .aload_n 0, 32, 0, 0, 0, 0, []),
  (32, .getfield 12, 35, 0, 0, 0, 0, [181]),
  (35, .getfield 88, 38, 1, 8, 0, 0, [50]),
  (38, .invokestatic 91, 41, 91, 1, 0, 0, []),
  (41, .ireturn, 42, 0, 0, 0, 0, [])]
def k_RD_hasStone : List am_E := [
  (0, .aload_n 0, 1, 0, 0, 0, 0, []),
  (1, .getfield 54, 4, 1, 8, 0, 0, [51]),
  (4, .iload_n 1, 5, 0, 0, 0, 0, []),
  (5, .invokestatic 57, 8, 57, 2, 0, 0, []),
  (8, .iconst 1, 9, 0, 0, 1, 0, []),
  (9, .if_icmp .ne 7, 12, 16, 0, 0, 0, []),
  (12, .iconst 1, 13, 0, 0, 1, 0, []),
  (13, .goto 4, 16, 17, 0, 0, 0, []),
  (16, .iconst 0, 17, 0, 0, 0, 0, []),
  (17, .ireturn, 18, 0, 0, 0, 0, [])]
def k_RP_bitOf : List am_E := [
  (0, .iload_n 0, 1, 0, 0, 0, 0, []),
  (1, .iload_n 1, 2, 0, 0, 0, 0, []),
  (2, .iushr, 3, 0, 0, 0, 0, []),
  (3, .iconst 1, 4, 0, 0, 1, 0, []),
  (4, .iand, 5, 0, 0, 0, 0, []),
  (5, .ireturn, 6, 0, 0, 0, 0, [])]
def k_RD_takeStone : List am_E := [
  (0, .aload_n 0, 1, 0, 0, 0, 0, []),
  (1, .dup, 2, 0, 0, 0, 0, []),
  (2, .getfield 54, 5, 1, 8, 0, 0, [51]),
  (5, .iconst 1, 6, 0, 0, 1, 0, []),
  (6, .iload_n 1, 7, 0, 0, 0, 0, []),
  (7, .ishl, 8, 0, 0, 0, 0, []),
  (8, .iconst (-1), 9, 0, 0, (-1), 0, []),
  (9, .ixor, 10, 0, 0, 0, 0, []),
  (10, .iand, 11, 0, 0, 0, 0, []),
  (11, .putfield 54, 14, 1, 8, 0, 0, [51]),
  (14, .return_, 15, 0, 0, 0, 0, [])]
def k_RP_home : List am_E := [
  (0, .iload_n 1, 1, 0, 0, 0, 0, []),
  (1, .invokestatic 47, 4, 47, 1, 0, 0, []),
  (4, .ifCond .ne 5, 7, 9, 0, 0, 0, []),
  (7, .iconst (-1), 8, 0, 0, (-1), 0, []),
  (8, .ireturn, 9, 0, 0, 0, 0, []),
  (9, .aload_n 0, 10, 0, 0, 0, 0, []),
  (10, .getfield 12, 13, 0, 0, 0, 0, [181]),
  (13, .getfield 112, 16, 1, 9, 0, 0, [54]),
  (16, .istore_n 2, 17, 0, 0, 0, 0, []),
  (17, .aload_n 0, 18, 0, 0, 0, 0, []),
  (18, .getfield 12, 21, 0, 0, 0, 0, [181]),
  (21, .iload_n 1, 22, 0, 0, 0, 0, []),
  (22, .putfield 112, 25, 1, 9, 0, 0, [54]),
  (25, .iload_n 2, 26, 0, 0, 0, 0, []),
  (26, .ireturn, 27, 0, 0, 0, 0, [])]
def k_RP_snow : List am_E := [
  (0, .iload_n 1, 1, 0, 0, 0, 0, []),
  (1, .aload_n 0, 2, 0, 0, 0, 0, []),
  (2, .getfield 12, 5, 0, 0, 0, 0, [181]),
  (5, .getfield 73, 8, 1, 6, 0, 0, [47]),
  (8, .iconst (-1), 9, 0, 0, (-1), 0, []),
  (9, .ixor, 10, 0, 0, 0, 0, []),
  (10, .iand, 11, 0, 0, 0, 0, []),
  (11, .ifCond .eq 5, 14, 16, 0, 0, 0, []),
  (14, .iconst (-1), 15, 0, 0, (-1), 0, []),
  (15, .ireturn, 16, 0, 0, 0, 0, []),
  (16, .aload_n 0, 17, 0, 0, 0, 0, []),
  (17, .getfield 12, 20, 0, 0, 0, 0, [181]),
  (20, .getfield 81, 23, 1, 7, 0, 0, [48]),
  (23, .istore_n 2, 24, 0, 0, 0, 0, []),
  (24, .aload_n 0, 25, 0, 0, 0, 0, []),
  (25, .getfield 12, 28, 0, 0, 0, 0, [181]),
  (28, .iload_n 1, 29, 0, 0, 0, 0, []),
  (29, .putfield 81, 32, 1, 7, 0, 0, [48]),
  (32, .iload_n 2, 33, 0, 0, 0, 0, []),
  (33, .ireturn, 34, 0, 0, 0, 0, [])]
def k_RP_image : List am_E := [
  (0, .aload_n 0, 1, 0, 0, 0, 0, []),
  (1, .getfield 16, 4, 0, 1, 0, 0, [182]),
  (4, .aload_n 0, 5, 0, 0, 0, 0, []),
  (5, .getfield 12, 8, 0, 0, 0, 0, [181]),
  (8, .invokevirtual 129, 11, 129, 2, 0, 0, [1]),
  (11, .aload_n 0, 12, 0, 0, 0, 0, []),
  (12, .iconst 1, 13, 0, 0, 1, 0, []),
  (13, .putfield 173, 16, 0, 7, 0, 0, [188]),
  (16, .iconst 1, 17, 0, 0, 1, 0, []),
  (17, .ireturn, 18, 0, 0, 0, 0, [])]
def k_RD_become : List am_E := [
  (0, .aload_n 1, 1, 0, 0, 0, 0, []),
  (1, .getfield 9, 4, 1, 0, 0, 0, [39]),
  (4, .iconst 0, 5, 0, 0, 0, 0, []),
  (5, .aload_n 0, 6, 0, 0, 0, 0, []),
  (6, .getfield 9, 9, 1, 0, 0, 0, [39]),
  (9, .iconst 0, 10, 0, 0, 0, 0, []),
  (10, .bipush 12, 12, 0, 0, 12, 0, []),
  (12, .invokestatic 83, 15, 83, 5, 0, 0, []),
  (15, .aload_n 1, 16, 0, 0, 0, 0, []),
  (16, .getfield 15, 19, 1, 1, 0, 0, [40]),
  (19, .iconst 0, 20, 0, 0, 0, 0, []),
  (20, .aload_n 0, 21, 0, 0, 0, 0, []),
  (21, .getfield 15, 24, 1, 1, 0, 0, [40]),
  (24, .iconst 0, 25, 0, 0, 0, 0, []),
  (25, .bipush 12, 27, 0, 0, 12, 0, []),
  (27, .invokestatic 83, 30, 83, 5, 0, 0, []),
  (30, .aload_n 1, 31, 0, 0, 0, 0, []),
  (31, .getfield 18, 34, 1, 2, 0, 0, [41]),
  (34, .iconst 0, 35, 0, 0, 0, 0, []),
  (35, .aload_n 0, 36, 0, 0, 0, 0, []),
  (36, .getfield 18, 39, 1, 2, 0, 0, [41]),
  (39, .iconst 0, 40, 0, 0, 0, 0, []),
  (40, .bipush 64, 42, 0, 0, 64, 0, []),
  (42, .invokestatic 83, 45, 83, 5, 0, 0, []),
  (45, .aload_n 1, 46, 0, 0, 0, 0, []),
  (46, .getfield 21, 49, 1, 3, 0, 0, [42]),
  (49, .iconst 0, 50, 0, 0, 0, 0, []),
  (50, .aload_n 0, 51, 0, 0, 0, 0, []),
  (51, .getfield 21, 54, 1, 3, 0, 0, [42]),
  (54, .iconst 0, 55, 0, 0, 0, 0, []),
  (55, .bipush 8, 57, 0, 0, 8, 0, []),
  (57, .invokestatic 83, 60, 83, 5, 0, 0, []),
  (60, .aload_n 1, 61, 0, 0, 0, 0, []),
  (61, .getfield 24, 64, 1, 4, 0, 0, [43]),
  (64, .iconst 0, 65, 0, 0, 0, 0, []),
  (65, .aload_n 0, 66, 0, 0, 0, 0, []),
  (66, .getfield 24, 69, 1, 4, 0, 0, [43]),
  (69, .iconst 0, 70, 0, 0, 0, 0, []),
  (70, .bipush 8, 72, 0, 0, 8, 0, []),
  (72, .invokestatic 83, 75, 83, 5, 0, 0, []),
  (75, .aload_n 0, 76, 0, 0, 0, 0, []),
  (76, .aload_n 1, 77, 0, 0, 0, 0, []),
  (77, .getfield 31, 80, 1, 5, 0, 0, [44]),
  (80, .putfield 31, 83, 1, 5, 0, 0, [44]),
  (83, .aload_n 0, 84, 0, 0, 0, 0, []),
  (84, .aload_n 1, 85, 0, 0, 0, 0, []),
  (85, .getfield 34, 88, 1, 6, 0, 0, [46]),
  (88, .putfield 34, 91, 1, 6, 0, 0, [46]),
  (91, .aload_n 0, 92, 0, 0, 0, 0, []),
  (92, .aload_n 1, 93, 0, 0, 0, 0, []),
  (93, .getfield 80, 96, 1, 7, 0, 0, [49]),
  (96, .putfield 80, 99, 1, 7, 0, 0, [49]),
  (99, .aload_n 0, 100, 0, 0, 0, 0, []),
  (100, .aload_n 1, 101, 0, 0, 0, 0, []),
  (101, .getfield 54, 104, 1, 8, 0, 0, [51]),
  (104, .putfield 54, 107, 1, 8, 0, 0, [51]),
  (107, .aload_n 0, 108, 0, 0, 0, 0, []),
  (108, .aload_n 1, 109, 0, 0, 0, 0, []),
  (109, .getfield 27, 112, 1, 9, 0, 0, [52]),
  (112, .putfield 27, 115, 1, 9, 0, 0, [52]),
  (115, .aload_n 0, 116, 0, 0, 0, 0, []),
  (116, .aload_n 1, 117, 0, 0, 0, 0, []),
  (117, .getfield 67, 120, 1, 10, 0, 0, [56]),
  (120, .putfield 67, 123, 1, 10, 0, 0, [56]),
  (123, .aload_n 0, 124, 0, 0, 0, 0, []),
  (124, .aload_n 1, 125, 0, 0, 0, 0, []),
  (125, .getfield 77, 128, 1, 11, 0, 0, [57]),
  (128, .putfield 77, 131, 1, 11, 0, 0, [57]),
  (131, .return_, 132, 0, 0, 0, 0, [])]
def k_RP_restore : List am_E := [
  (0, .aload_n 0, 1, 0, 0, 0, 0, []),
  (1, .getfield 173, 4, 0, 7, 0, 0, [188]),
  (4, .ifCond .ne 6, 7, 10, 0, 0, 0, []),
  (7, .bipush (-4), 9, 0, 0, (-4), 0, []),
  (9, .ireturn, 10, 0, 0, 0, 0, []),
  (10, .aload_n 0, 11, 0, 0, 0, 0, []),
  (11, .getfield 12, 14, 0, 0, 0, 0, [181]),
  (14, .aload_n 0, 15, 0, 0, 0, 0, []),
  (15, .getfield 16, 18, 0, 1, 0, 0, [182]),
  (18, .invokevirtual 129, 21, 129, 2, 0, 0, [1]),
  (21, .iconst 1, 22, 0, 0, 1, 0, []),
  (22, .ireturn, 23, 0, 0, 0, 0, [])]
def k_RP_stone : List am_E := [
  (0, .iload_n 1, 1, 0, 0, 0, 0, []),
  (1, .invokestatic 47, 4, 47, 1, 0, 0, []),
  (4, .ifCond .eq 21, 7, 25, 0, 0, 0, []),
  (7, .iload_n 2, 8, 0, 0, 0, 0, []),
  (8, .invokestatic 47, 11, 47, 1, 0, 0, []),
  (11, .ifCond .eq 14, 14, 25, 0, 0, 0, []),
  (14, .aload_n 0, 15, 0, 0, 0, 0, []),
  (15, .getfield 12, 18, 0, 0, 0, 0, [181]),
  (18, .iload_n 3, 19, 0, 0, 0, 0, []),
  (19, .invokevirtual 63, 22, 63, 2, 0, 0, [1]),
  (22, .ifCond .ne 5, 25, 27, 0, 0, 0, []),
  (25, .iconst (-1), 26, 0, 0, (-1), 0, []),
  (26, .ireturn, 27, 0, 0, 0, 0, []),
  (27, .aload_n 0, 28, 0, 0, 0, 0, []),
  (28, .getfield 12, 31, 0, 0, 0, 0, [181]),
  (31, .iload_n 1, 32, 0, 0, 0, 0, []),
  (32, .iload_n 2, 33, 0, 0, 0, 0, []),
  (33, .invokevirtual 51, 36, 51, 3, 0, 0, [1]),
  (36, .ifCond .ne 6, 39, 42, 0, 0, 0, []),
  (39, .bipush (-2), 41, 0, 0, (-2), 0, []),
  (41, .ireturn, 42, 0, 0, 0, 0, []),
  (42, .aload_n 0, 43, 0, 0, 0, 0, []),
  (43, .getfield 12, 46, 0, 0, 0, 0, [181]),
  (46, .iload_n 1, 47, 0, 0, 0, 0, []),
  (47, .iload_n 2, 48, 0, 0, 0, 0, []),
  (48, .iload_n 3, 49, 0, 0, 0, 0, []),
  (49, .invokevirtual 84, 52, 84, 4, 0, 0, [1]),
  (52, .aload_n 0, 53, 0, 0, 0, 0, []),
  (53, .getfield 12, 56, 0, 0, 0, 0, [181]),
  (56, .getfield 88, 59, 1, 8, 0, 0, [50]),
  (59, .invokestatic 91, 62, 91, 1, 0, 0, []),
  (62, .ireturn, 63, 0, 0, 0, 0, [])]
def k_RD_isWay : List am_E := [
  (0, .iload_n 1, 1, 0, 0, 0, 0, []),
  (1, .ifCond .lt 15, 4, 16, 0, 0, 0, []),
  (4, .iload_n 1, 5, 0, 0, 0, 0, []),
  (5, .aload_n 0, 6, 0, 0, 0, 0, []),
  (6, .getfield 31, 9, 1, 5, 0, 0, [44]),
  (9, .if_icmp .ge 7, 12, 16, 0, 0, 0, []),
  (12, .iconst 1, 13, 0, 0, 1, 0, []),
  (13, .goto 4, 16, 17, 0, 0, 0, []),
  (16, .iconst 0, 17, 0, 0, 0, 0, []),
  (17, .ireturn, 18, 0, 0, 0, 0, [])]
def k_RD_setStone : List am_E := [
  (0, .iload_n 1, 1, 0, 0, 0, 0, []),
  (1, .invokestatic 47, 4, 47, 1, 0, 0, []),
  (4, .ifCond .eq 29, 7, 33, 0, 0, 0, []),
  (7, .aload_n 0, 8, 0, 0, 0, 0, []),
  (8, .getfield 21, 11, 1, 3, 0, 0, [42]),
  (11, .iload_n 1, 12, 0, 0, 0, 0, []),
  (12, .iload_n 2, 13, 0, 0, 0, 0, []),
  (13, .iastore, 14, 0, 0, 0, 0, []),
  (14, .aload_n 0, 15, 0, 0, 0, 0, []),
  (15, .getfield 24, 18, 1, 4, 0, 0, [43]),
  (18, .iload_n 1, 19, 0, 0, 0, 0, []),
  (19, .iload_n 3, 20, 0, 0, 0, 0, []),
  (20, .iastore, 21, 0, 0, 0, 0, []),
  (21, .aload_n 0, 22, 0, 0, 0, 0, []),
  (22, .dup, 23, 0, 0, 0, 0, []),
  (23, .getfield 54, 26, 1, 8, 0, 0, [51]),
  (26, .iconst 1, 27, 0, 0, 1, 0, []),
  (27, .iload_n 1, 28, 0, 0, 0, 0, []),
  (28, .ishl, 29, 0, 0, 0, 0, []),
  (29, .ior, 30, 0, 0, 0, 0, []),
  (30, .putfield 54, 33, 1, 8, 0, 0, [51]),
  (33, .return_, 34, 0, 0, 0, 0, [])]
def k_RP_count : List am_E := [
  (0, .iload_n 1, 1, 0, 0, 0, 0, []),
  (1, .tableswitch 78 0 4 #[35, 43, 51, 62, 70], 36, 79, 35, 0, 0, [36, 44, 52, 63, 71]),
  (36, .aload_n 0, 37, 0, 0, 0, 0, []),
  (37, .getfield 12, 40, 0, 0, 0, 0, [181]),
  (40, .getfield 133, 43, 1, 5, 0, 0, [45]),
  (43, .ireturn, 44, 0, 0, 0, 0, []),
  (44, .aload_n 0, 45, 0, 0, 0, 0, []),
  (45, .getfield 12, 48, 0, 0, 0, 0, [181]),
  (48, .getfield 73, 51, 1, 6, 0, 0, [47]),
  (51, .ireturn, 52, 0, 0, 0, 0, []),
  (52, .aload_n 0, 53, 0, 0, 0, 0, []),
  (53, .getfield 12, 56, 0, 0, 0, 0, [181]),
  (56, .getfield 88, 59, 1, 8, 0, 0, [50]),
  (59, .invokestatic 91, 62, 91, 1, 0, 0, []),
  (62, .ireturn, 63, 0, 0, 0, 0, []),
  (63, .aload_n 0, 64, 0, 0, 0, 0, []),
  (64, .getfield 12, 67, 0, 0, 0, 0, [181]),
  (67, .getfield 112, 70, 1, 9, 0, 0, [54]),
  (70, .ireturn, 71, 0, 0, 0, 0, []),
  (71, .aload_n 0, 72, 0, 0, 0, 0, []),
  (72, .getfield 12, 75, 0, 0, 0, 0, [181]),
  (75, .getfield 81, 78, 1, 7, 0, 0, [48]),
  (78, .ireturn, 79, 0, 0, 0, 0, []),
  (79, .iconst (-1), 80, 0, 0, (-1), 0, []),
  (80, .ireturn, 81, 0, 0, 0, 0, [])]
def k_RP_type : List am_E := [
  (0, .lload_n 1, 1, 0, 0, 0, 0, []),
  (1, .iload_n 3, 2, 0, 0, 0, 0, []),
  (2, .invokestatic 115, 5, 115, 2, 0, 0, []),
  (5, .ifCond .ne 5, 8, 10, 0, 0, 0, []),
  (8, .iconst (-1), 9, 0, 0, (-1), 0, []),
  (9, .ireturn, 10, 0, 0, 0, 0, []),
  (10, .aload_n 0, 11, 0, 0, 0, 0, []),
  (11, .getfield 25, 14, 0, 3, 0, 0, [184]),
  (14, .lload_n 1, 15, 0, 0, 0, 0, []),
  (15, .iload_n 3, 16, 0, 0, 0, 0, []),
  (16, .invokevirtual 119, 19, 119, 3, 0, 0, [2]),
  (19, .ifCond .eq 13, 22, 32, 0, 0, 0, []),
  (22, .aload_n 0, 23, 0, 0, 0, 0, []),
  (23, .getfield 25, 26, 0, 3, 0, 0, [184]),
  (26, .getfield 122, 29, 2, 1, 0, 0, [93]),
  (29, .goto 5, 32, 34, 0, 0, 0, []),
  (32, .bipush (-3), 34, 0, 0, (-3), 0, []),
  (34, .ireturn, 35, 0, 0, 0, 0, [])]
def k_RP_isTypeable : List am_E := [
  (0, .iload_n 2, 1, 0, 0, 0, 0, []),
  (1, .iconst 1, 2, 0, 0, 1, 0, []),
  (2, .if_icmp .lt 9, 5, 11, 0, 0, 0, []),
  (5, .iload_n 2, 6, 0, 0, 0, 0, []),
  (6, .bipush 8, 8, 0, 0, 8, 0, []),
  (8, .if_icmp .le 5, 11, 13, 0, 0, 0, []),
  (11, .iconst 0, 12, 0, 0, 0, 0, []),
  (12, .ireturn, 13, 0, 0, 0, 0, []),
  (13, .iconst 0, 14, 0, 0, 0, 0, []),
  (14, .istore_n 3, 15, 0, 0, 0, 0, []),
  (15, .iload_n 3, 16, 0, 0, 0, 0, []),
  (16, .iload_n 2, 17, 0, 0, 0, 0, []),
  (17, .if_icmp .ge 32, 20, 49, 0, 0, 0, []),
  (20, .lload_n 0, 21, 0, 0, 0, 0, []),
  (21, .iload_n 3, 22, 0, 0, 0, 0, []),
  (22, .invokestatic 223, 25, 223, 2, 0, 0, []),
  (25, .istore 4, 27, 0, 0, 0, 0, []),
  (27, .iload 4, 29, 0, 0, 0, 0, []),
  (29, .bipush 32, 31, 0, 0, 32, 0, []),
  (31, .if_icmp .lt 10, 34, 41, 0, 0, 0, []),
  (34, .iload 4, 36, 0, 0, 0, 0, []),
  (36, .bipush 126, 38, 0, 0, 126, 0, []),
  (38, .if_icmp .le 5, 41, 43, 0, 0, 0, []),
  (41, .iconst 0, 42, 0, 0, 0, 0, []),
  (42, .ireturn, 43, 0, 0, 0, 0, []),
  (43, .iinc 3 1, 46, 0, 0, 1, 0, []),
  (46, .goto (-31), 49, 15, 0, 0, 0, []),
  (49, .iconst 1, 50, 0, 0, 1, 0, []),
  (50, .ireturn, 51, 0, 0, 0, 0, [])]
def k_RP_byteOf : List am_E := [
  (0, .lload_n 0, 1, 0, 0, 0, 0, []),
  (1, .bipush 8, 3, 0, 0, 8, 0, []),
  (3, .iload_n 2, 4, 0, 0, 0, 0, []),
  (4, .imul, 5, 0, 0, 0, 0, []),
  (5, .lushr, 6, 0, 0, 0, 0, []),
  (6, .l2i, 7, 0, 0, 0, 0, []),
  (7, .sipush 255, 10, 0, 0, 255, 0, []),
  (10, .iand, 11, 0, 0, 0, 0, []),
  (11, .ireturn, 12, 0, 0, 0, 0, [])]
def k_TP_add : List am_E := [
  (0, .iload_n 3, 1, 0, 0, 0, 0, []),
  (1, .bipush 100, 3, 0, 0, 100, 0, []),
  (3, .aload_n 0, 4, 0, 0, 0, 0, []),
  (4, .getfield 15, 7, 2, 1, 0, 0, [92]),
  (7, .isub, 8, 0, 0, 0, 0, []),
  (8, .if_icmp .le 5, 11, 13, 0, 0, 0, []),
  (11, .iconst 0, 12, 0, 0, 0, 0, []),
  (12, .ireturn, 13, 0, 0, 0, 0, []),
  (13, .iload_n 3, 14, 0, 0, 0, 0, []),
  (14, .iconst 1, 15, 0, 0, 1, 0, []),
  (15, .isub, 16, 0, 0, 0, 0, []),
  (16, .istore 4, 18, 0, 0, 0, 0, []),
  (18, .iload 4, 20, 0, 0, 0, 0, []),
  (20, .ifCond .lt 35, 23, 55, 0, 0, 0, []),
  (23, .aload_n 0, 24, 0, 0, 0, 0, []),
  (24, .getfield 11, 27, 2, 0, 0, 0, [91]),
  (27, .aload_n 0, 28, 0, 0, 0, 0, []),
  (28, .getfield 15, 31, 2, 1, 0, 0, [92]),
  (31, .lload_n 1, 32, 0, 0, 0, 0, []),
  (32, .iload 4, 34, 0, 0, 0, 0, []),
  (34, .invokestatic 19, 37, 19, 2, 0, 0, []),
  (37, .i2b, 38, 0, 0, 0, 0, []),
  (38, .bastore, 39, 0, 0, 0, 0, []),
  (39, .aload_n 0, 40, 0, 0, 0, 0, []),
  (40, .dup, 41, 0, 0, 0, 0, []),
  (41, .getfield 15, 44, 2, 1, 0, 0, [92]),
  (44, .iconst 1, 45, 0, 0, 1, 0, []),
  (45, .iadd, 46, 0, 0, 0, 0, []),
  (46, .putfield 15, 49, 2, 1, 0, 0, [92]),
  (49, .iinc 4 (-1), 52, 0, 0, (-1), 0, []),
  (52, .goto (-34), 55, 18, 0, 0, 0, []),
  (55, .iconst 1, 56, 0, 0, 1, 0, []),
  (56, .ireturn, 57, 0, 0, 0, 0, [])]
def k_RP_pass : List am_E := [
  (0, .aload_n 0, 1, 0, 0, 0, 0, []),
  (1, .getfield 25, 4, 0, 3, 0, 0, [184]),
  (4, .aload_n 0, 5, 0, 0, 0, 0, []),
  (5, .getfield 19, 8, 0, 2, 0, 0, [183]),
  (8, .invokevirtual 125, 11, 125, 2, 0, 0, [2]),
  (11, .istore_n 1, 12, 0, 0, 0, 0, []),
  (12, .aload_n 0, 13, 0, 0, 0, 0, []),
  (13, .getfield 25, 16, 0, 3, 0, 0, [184]),
  (16, .iconst 0, 17, 0, 0, 0, 0, []),
  (17, .putfield 122, 20, 2, 1, 0, 0, [93]),
  (20, .iload_n 1, 21, 0, 0, 0, 0, []),
  (21, .ifCond .ge 5, 24, 26, 0, 0, 0, []),
  (24, .iload_n 1, 25, 0, 0, 0, 0, []),
  (25, .ireturn, 26, 0, 0, 0, 0, []),
  (26, .aload_n 0, 27, 0, 0, 0, 0, []),
  (27, .getfield 19, 30, 0, 2, 0, 0, [183]),
  (30, .aload_n 0, 31, 0, 0, 0, 0, []),
  (31, .getfield 12, 34, 0, 0, 0, 0, [181]),
  (34, .getfield 112, 37, 1, 9, 0, 0, [54]),
  (37, .putfield 112, 40, 1, 9, 0, 0, [54]),
  (40, .aload_n 0, 41, 0, 0, 0, 0, []),
  (41, .getfield 12, 44, 0, 0, 0, 0, [181]),
  (44, .aload_n 0, 45, 0, 0, 0, 0, []),
  (45, .getfield 19, 48, 0, 2, 0, 0, [183]),
  (48, .invokevirtual 129, 51, 129, 2, 0, 0, [1]),
  (51, .aload_n 0, 52, 0, 0, 0, 0, []),
  (52, .getfield 12, 55, 0, 0, 0, 0, [181]),
  (55, .getfield 133, 58, 1, 5, 0, 0, [45]),
  (58, .ireturn, 59, 0, 0, 0, 0, [])]
def k_TP_parse : List am_E := [
  (0, .aload_n 0, 1, 0, 0, 0, 0, []),
  (1, .iconst 0, 2, 0, 0, 0, 0, []),
  (2, .putfield 23, 5, 2, 2, 0, 0, [94]),
  (5, .aload_n 1, 6, 0, 0, 0, 0, []),
  (6, .invokevirtual 26, 9, 26, 1, 0, 0, [1]),
  (9, .aload_n 0, 10, 0, 0, 0, 0, []),
  (10, .aload_n 1, 11, 0, 0, 0, 0, []),
  (11, .invokevirtual 31, 14, 31, 2, 0, 0, [2]),
  (14, .ifCond .eq 32, 17, 46, 0, 0, 0, []),
  (17, .aload_n 0, 18, 0, 0, 0, 0, []),
  (18, .invokevirtual 35, 21, 35, 1, 0, 0, [2]),
  (21, .bipush 59, 23, 0, 0, 59, 0, []),
  (23, .if_icmp .ne 11, 26, 34, 0, 0, 0, []),
  (26, .aload_n 0, 27, 0, 0, 0, 0, []),
  (27, .aload_n 1, 28, 0, 0, 0, 0, []),
  (28, .invokevirtual 39, 31, 39, 2, 0, 0, [2]),
  (31, .ifCond .eq 15, 34, 46, 0, 0, 0, []),
  (34, .aload_n 0, 35, 0, 0, 0, 0, []),
  (35, .invokevirtual 35, 38, 35, 1, 0, 0, [2]),
  (38, .iconst (-1), 39, 0, 0, (-1), 0, []),
  (39, .if_icmp .ne 7, 42, 46, 0, 0, 0, []),
  (42, .iconst 1, 43, 0, 0, 1, 0, []),
  (43, .goto 4, 46, 47, 0, 0, 0, []),
  (46, .iconst 0, 47, 0, 0, 0, 0, []),
  (47, .istore_n 2, 48, 0, 0, 0, 0, []),
  (48, .iload_n 2, 49, 0, 0, 0, 0, []),
  (49, .ifCond .eq 7, 52, 56, 0, 0, 0, []),
  (52, .iconst 0, 53, 0, 0, 0, 0, []),
  (53, .goto 10, 56, 63, 0, 0, 0, []),
  (56, .bipush (-20), 58, 0, 0, (-20), 0, []),
  (58, .aload_n 0, 59, 0, 0, 0, 0, []),
  (59, .getfield 23, 62, 2, 2, 0, 0, [94]),
  (62, .isub, 63, 0, 0, 0, 0, []),
  (63, .ireturn, 64, 0, 0, 0, 0, [])]
def k_RD_clear : List am_E := [
  (0, .iconst 0, 1, 0, 0, 0, 0, []),
  (1, .istore_n 1, 2, 0, 0, 0, 0, []),
  (2, .iload_n 1, 3, 0, 0, 0, 0, []),
  (3, .aload_n 0, 4, 0, 0, 0, 0, []),
  (4, .getfield 18, 7, 1, 2, 0, 0, [41]),
  (7, .arraylength, 8, 0, 0, 0, 0, []),
  (8, .if_icmp .ge 16, 11, 24, 0, 0, 0, []),
  (11, .aload_n 0, 12, 0, 0, 0, 0, []),
  (12, .getfield 18, 15, 1, 2, 0, 0, [41]),
  (15, .iload_n 1, 16, 0, 0, 0, 0, []),
  (16, .iconst 0, 17, 0, 0, 0, 0, []),
  (17, .iastore, 18, 0, 0, 0, 0, []),
  (18, .iinc 1 1, 21, 0, 0, 1, 0, []),
  (21, .goto (-19), 24, 2, 0, 0, 0, []),
  (24, .aload_n 0, 25, 0, 0, 0, 0, []),
  (25, .iconst 0, 26, 0, 0, 0, 0, []),
  (26, .putfield 31, 29, 1, 5, 0, 0, [44]),
  (29, .aload_n 0, 30, 0, 0, 0, 0, []),
  (30, .iconst 0, 31, 0, 0, 0, 0, []),
  (31, .putfield 34, 34, 1, 6, 0, 0, [46]),
  (34, .aload_n 0, 35, 0, 0, 0, 0, []),
  (35, .iconst 0, 36, 0, 0, 0, 0, []),
  (36, .putfield 80, 39, 1, 7, 0, 0, [49]),
  (39, .aload_n 0, 40, 0, 0, 0, 0, []),
  (40, .iconst 0, 41, 0, 0, 0, 0, []),
  (41, .putfield 54, 44, 1, 8, 0, 0, [51]),
  (44, .aload_n 0, 45, 0, 0, 0, 0, []),
  (45, .lconst 0, 46, 0, 0, 0, 0, []),
  (46, .putfield 67, 49, 1, 10, 0, 0, [56]),
  (49, .aload_n 0, 50, 0, 0, 0, 0, []),
  (50, .lconst 0, 51, 0, 0, 0, 0, []),
  (51, .putfield 77, 54, 1, 11, 0, 0, [57]),
  (54, .return_, 55, 0, 0, 0, 0, [])]
def k_TP_takeWays : List am_E := [
  (0, .iconst 0, 1, 0, 0, 0, 0, []),
  (1, .istore_n 2, 2, 0, 0, 0, 0, []),
  (2, .iload_n 2, 3, 0, 0, 0, 0, []),
  (3, .bipush 12, 5, 0, 0, 12, 0, []),
  (5, .if_icmp .ge 34, 8, 39, 0, 0, 0, []),
  (8, .iload_n 2, 9, 0, 0, 0, 0, []),
  (9, .ifCond .le 14, 12, 23, 0, 0, 0, []),
  (12, .aload_n 0, 13, 0, 0, 0, 0, []),
  (13, .bipush 44, 15, 0, 0, 44, 0, []),
  (15, .invokevirtual 42, 18, 42, 2, 0, 0, [2]),
  (18, .ifCond .ne 5, 21, 23, 0, 0, 0, []),
  (21, .iconst 1, 22, 0, 0, 1, 0, []),
  (22, .ireturn, 23, 0, 0, 0, 0, []),
  (23, .aload_n 0, 24, 0, 0, 0, 0, []),
  (24, .aload_n 1, 25, 0, 0, 0, 0, []),
  (25, .invokevirtual 46, 28, 46, 2, 0, 0, [2]),
  (28, .ifCond .ne 5, 31, 33, 0, 0, 0, []),
  (31, .iconst 0, 32, 0, 0, 0, 0, []),
  (32, .ireturn, 33, 0, 0, 0, 0, []),
  (33, .iinc 2 1, 36, 0, 0, 1, 0, []),
  (36, .goto (-34), 39, 2, 0, 0, 0, []),
  (39, .iconst 1, 40, 0, 0, 1, 0, []),
  (40, .ireturn, 41, 0, 0, 0, 0, [])]
def k_TP_take : List am_E := [
  (0, .aload_n 0, 1, 0, 0, 0, 0, []),
  (1, .invokevirtual 35, 4, 35, 1, 0, 0, [2]),
  (4, .iload_n 1, 5, 0, 0, 0, 0, []),
  (5, .if_icmp .ne 7, 8, 12, 0, 0, 0, []),
  (8, .iconst 1, 9, 0, 0, 1, 0, []),
  (9, .goto 4, 12, 13, 0, 0, 0, []),
  (12, .iconst 0, 13, 0, 0, 0, 0, []),
  (13, .istore_n 2, 14, 0, 0, 0, 0, []),
  (14, .iload_n 2, 15, 0, 0, 0, 0, []),
  (15, .ifCond .eq 13, 18, 28, 0, 0, 0, []),
  (18, .aload_n 0, 19, 0, 0, 0, 0, []),
  (19, .dup, 20, 0, 0, 0, 0, []),
  (20, .getfield 23, 23, 2, 2, 0, 0, [94]),
  (23, .iconst 1, 24, 0, 0, 1, 0, []),
  (24, .iadd, 25, 0, 0, 0, 0, []),
  (25, .putfield 23, 28, 2, 2, 0, 0, [94]),
  (28, .iload_n 2, 29, 0, 0, 0, 0, []),
  (29, .ireturn, 30, 0, 0, 0, 0, [])]
def k_TP_sign : List am_E := [
  (0, .aload_n 0, 1, 0, 0, 0, 0, []),
  (1, .getfield 23, 4, 2, 2, 0, 0, [94]),
  (4, .aload_n 0, 5, 0, 0, 0, 0, []),
  (5, .getfield 15, 8, 2, 1, 0, 0, [92]),
  (8, .if_icmp .ge 30, 11, 38, 0, 0, 0, []),
  (11, .aload_n 0, 12, 0, 0, 0, 0, []),
  (12, .getfield 11, 15, 2, 0, 0, 0, [91]),
  (15, .aload_n 0, 16, 0, 0, 0, 0, []),
  (16, .getfield 23, 19, 2, 2, 0, 0, [94]),
  (19, .baload, 20, 0, 0, 0, 0, []),
  (20, .bipush 32, 22, 0, 0, 32, 0, []),
  (22, .if_icmp .ne 16, 25, 38, 0, 0, 0, []),
  (25, .aload_n 0, 26, 0, 0, 0, 0, []),
  (26, .dup, 27, 0, 0, 0, 0, []),
  (27, .getfield 23, 30, 2, 2, 0, 0, [94]),
  (30, .iconst 1, 31, 0, 0, 1, 0, []),
  (31, .iadd, 32, 0, 0, 0, 0, []),
  (32, .putfield 23, 35, 2, 2, 0, 0, [94]),
  (35, .goto (-35), 38, 0, 0, 0, 0, []),
  (38, .aload_n 0, 39, 0, 0, 0, 0, []),
  (39, .getfield 23, 42, 2, 2, 0, 0, [94]),
  (42, .aload_n 0, 43, 0, 0, 0, 0, []),
  (43, .getfield 15, 46, 2, 1, 0, 0, [92]),
  (46, .if_icmp .ge 15, 49, 61, 0, 0, 0, []),
  (49, .aload_n 0, 50, 0, 0, 0, 0, []),
  (50, .getfield 11, 53, 2, 0, 0, 0, [91]),
  (53, .aload_n 0, 54, 0, 0, 0, 0, []),
  (54, .getfield 23, 57, 2, 2, 0, 0, [94]),
  (57, .baload, 58, 0, 0, 0, 0, []),
  (58, .goto 4, 61, 62, 0, 0, 0, []),
  (61, .iconst (-1), 62, 0, 0, (-1), 0, []),
  (62, .ireturn, 63, 0, 0, 0, 0, [])]
def k_TP_takeWay : List am_E := [
  (0, .aload_n 0, 1, 0, 0, 0, 0, []),
  (1, .invokevirtual 49, 4, 49, 1, 0, 0, [2]),
  (4, .istore_n 2, 5, 0, 0, 0, 0, []),
  (5, .iload_n 2, 6, 0, 0, 0, 0, []),
  (6, .ifCond .ge 5, 9, 11, 0, 0, 0, []),
  (9, .iconst 0, 10, 0, 0, 0, 0, []),
  (10, .ireturn, 11, 0, 0, 0, 0, []),
  (11, .aload_n 0, 12, 0, 0, 0, 0, []),
  (12, .dup, 13, 0, 0, 0, 0, []),
  (13, .getfield 23, 16, 2, 2, 0, 0, [94]),
  (16, .iconst 1, 17, 0, 0, 1, 0, []),
  (17, .iadd, 18, 0, 0, 0, 0, []),
  (18, .putfield 23, 21, 2, 2, 0, 0, [94]),
  (21, .aload_n 0, 22, 0, 0, 0, 0, []),
  (22, .invokevirtual 49, 25, 49, 1, 0, 0, [2]),
  (25, .istore_n 3, 26, 0, 0, 0, 0, []),
  (26, .iload_n 3, 27, 0, 0, 0, 0, []),
  (27, .ifCond .lt 17, 30, 44, 0, 0, 0, []),
  (30, .iload_n 2, 31, 0, 0, 0, 0, []),
  (31, .iload_n 3, 32, 0, 0, 0, 0, []),
  (32, .if_icmp .eq 12, 35, 44, 0, 0, 0, []),
  (35, .aload_n 1, 36, 0, 0, 0, 0, []),
  (36, .iload_n 2, 37, 0, 0, 0, 0, []),
  (37, .iload_n 3, 38, 0, 0, 0, 0, []),
  (38, .invokevirtual 52, 41, 52, 3, 0, 0, [1]),
  (41, .ifCond .eq 5, 44, 46, 0, 0, 0, []),
  (44, .iconst 0, 45, 0, 0, 0, 0, []),
  (45, .ireturn, 46, 0, 0, 0, 0, []),
  (46, .aload_n 0, 47, 0, 0, 0, 0, []),
  (47, .dup, 48, 0, 0, 0, 0, []),
  (48, .getfield 23, 51, 2, 2, 0, 0, [94]),
  (51, .iconst 1, 52, 0, 0, 1, 0, []),
  (52, .iadd, 53, 0, 0, 0, 0, []),
  (53, .putfield 23, 56, 2, 2, 0, 0, [94]),
  (56, .aload_n 1, 57, 0, 0, 0, 0, []),
  (57, .iconst 1, 58, 0, 0, 1, 0, []),
  (58, .invokevirtual 56, 61, 56, 2, 0, 0, [1]),
  (61, .ifCond .eq 16, 64, 77, 0, 0, 0, []),
  (64, .aload_n 0, 65, 0, 0, 0, 0, []),
  (65, .bipush 63, 67, 0, 0, 63, 0, []),
  (67, .invokevirtual 42, 70, 42, 2, 0, 0, [2]),
  (70, .ifCond .eq 7, 73, 77, 0, 0, 0, []),
  (73, .iconst 1, 74, 0, 0, 1, 0, []),
  (74, .goto 4, 77, 78, 0, 0, 0, []),
  (77, .iconst 0, 78, 0, 0, 0, 0, []),
  (78, .istore 4, 80, 0, 0, 0, 0, []),
  (80, .aload_n 1, 81, 0, 0, 0, 0, []),
  (81, .iload_n 2, 82, 0, 0, 0, 0, []),
  (82, .iload_n 3, 83, 0, 0, 0, 0, []),
  (83, .iload 4, 85, 0, 0, 0, 0, []),
  (85, .invokevirtual 60, 88, 60, 4, 0, 0, [1]),
  (88, .iconst (-1), 89, 0, 0, (-1), 0, []),
  (89, .if_icmp .eq 7, 92, 96, 0, 0, 0, []),
  (92, .iconst 1, 93, 0, 0, 1, 0, []),
  (93, .goto 4, 96, 97, 0, 0, 0, []),
  (96, .iconst 0, 97, 0, 0, 0, 0, []),
  (97, .ireturn, 98, 0, 0, 0, 0, [])]
def k_TP_digit : List am_E := [
  (0, .aload_n 0, 1, 0, 0, 0, 0, []),
  (1, .invokevirtual 35, 4, 35, 1, 0, 0, [2]),
  (4, .bipush 48, 6, 0, 0, 48, 0, []),
  (6, .isub, 7, 0, 0, 0, 0, []),
  (7, .istore_n 1, 8, 0, 0, 0, 0, []),
  (8, .iload_n 1, 9, 0, 0, 0, 0, []),
  (9, .invokestatic 78, 12, 78, 1, 0, 0, []),
  (12, .ifCond .eq 7, 15, 19, 0, 0, 0, []),
  (15, .iload_n 1, 16, 0, 0, 0, 0, []),
  (16, .goto 4, 19, 20, 0, 0, 0, []),
  (19, .iconst (-1), 20, 0, 0, (-1), 0, []),
  (20, .ireturn, 21, 0, 0, 0, 0, [])]
def k_TP_takeStones : List am_E := [
  (0, .aload_n 0, 1, 0, 0, 0, 0, []),
  (1, .dup, 2, 0, 0, 0, 0, []),
  (2, .getfield 23, 5, 2, 2, 0, 0, [94]),
  (5, .iconst 1, 6, 0, 0, 1, 0, []),
  (6, .iadd, 7, 0, 0, 0, 0, []),
  (7, .putfield 23, 10, 2, 2, 0, 0, [94]),
  (10, .iconst 0, 11, 0, 0, 0, 0, []),
  (11, .istore_n 2, 12, 0, 0, 0, 0, []),
  (12, .iload_n 2, 13, 0, 0, 0, 0, []),
  (13, .bipush 8, 15, 0, 0, 8, 0, []),
  (15, .if_icmp .ge 34, 18, 49, 0, 0, 0, []),
  (18, .iload_n 2, 19, 0, 0, 0, 0, []),
  (19, .ifCond .le 14, 22, 33, 0, 0, 0, []),
  (22, .aload_n 0, 23, 0, 0, 0, 0, []),
  (23, .bipush 44, 25, 0, 0, 44, 0, []),
  (25, .invokevirtual 42, 28, 42, 2, 0, 0, [2]),
  (28, .ifCond .ne 5, 31, 33, 0, 0, 0, []),
  (31, .iconst 1, 32, 0, 0, 1, 0, []),
  (32, .ireturn, 33, 0, 0, 0, 0, []),
  (33, .aload_n 0, 34, 0, 0, 0, 0, []),
  (34, .aload_n 1, 35, 0, 0, 0, 0, []),
  (35, .invokevirtual 64, 38, 64, 2, 0, 0, [2]),
  (38, .ifCond .ne 5, 41, 43, 0, 0, 0, []),
  (41, .iconst 0, 42, 0, 0, 0, 0, []),
  (42, .ireturn, 43, 0, 0, 0, 0, []),
  (43, .iinc 2 1, 46, 0, 0, 1, 0, []),
  (46, .goto (-34), 49, 12, 0, 0, 0, []),
  (49, .iconst 1, 50, 0, 0, 1, 0, []),
  (50, .ireturn, 51, 0, 0, 0, 0, [])]
def k_TP_takeStone : List am_E := [
  (0, .aload_n 0, 1, 0, 0, 0, 0, []),
  (1, .invokevirtual 49, 4, 49, 1, 0, 0, [2]),
  (4, .istore_n 2, 5, 0, 0, 0, 0, []),
  (5, .iload_n 2, 6, 0, 0, 0, 0, []),
  (6, .ifCond .lt 11, 9, 17, 0, 0, 0, []),
  (9, .aload_n 1, 10, 0, 0, 0, 0, []),
  (10, .iload_n 2, 11, 0, 0, 0, 0, []),
  (11, .invokevirtual 67, 14, 67, 2, 0, 0, [1]),
  (14, .ifCond .eq 5, 17, 19, 0, 0, 0, []),
  (17, .iconst 0, 18, 0, 0, 0, 0, []),
  (18, .ireturn, 19, 0, 0, 0, 0, []),
  (19, .aload_n 0, 20, 0, 0, 0, 0, []),
  (20, .dup, 21, 0, 0, 0, 0, []),
  (21, .getfield 23, 24, 2, 2, 0, 0, [94]),
  (24, .iconst 1, 25, 0, 0, 1, 0, []),
  (25, .iadd, 26, 0, 0, 0, 0, []),
  (26, .putfield 23, 29, 2, 2, 0, 0, [94]),
  (29, .aload_n 0, 30, 0, 0, 0, 0, []),
  (30, .bipush 60, 32, 0, 0, 60, 0, []),
  (32, .invokevirtual 42, 35, 42, 2, 0, 0, [2]),
  (35, .ifCond .ne 5, 38, 40, 0, 0, 0, []),
  (38, .iconst 0, 39, 0, 0, 0, 0, []),
  (39, .ireturn, 40, 0, 0, 0, 0, []),
  (40, .aload_n 0, 41, 0, 0, 0, 0, []),
  (41, .invokevirtual 49, 44, 49, 1, 0, 0, [2]),
  (44, .istore_n 3, 45, 0, 0, 0, 0, []),
  (45, .aload_n 1, 46, 0, 0, 0, 0, []),
  (46, .iload_n 2, 47, 0, 0, 0, 0, []),
  (47, .iload_n 3, 48, 0, 0, 0, 0, []),
  (48, .invokevirtual 52, 51, 52, 3, 0, 0, [1]),
  (51, .ifCond .ne 5, 54, 56, 0, 0, 0, []),
  (54, .iconst 0, 55, 0, 0, 0, 0, []),
  (55, .ireturn, 56, 0, 0, 0, 0, []),
  (56, .aload_n 0, 57, 0, 0, 0, 0, []),
  (57, .dup, 58, 0, 0, 0, 0, []),
  (58, .getfield 23, 61, 2, 2, 0, 0, [94]),
  (61, .iconst 1, 62, 0, 0, 1, 0, []),
  (62, .iadd, 63, 0, 0, 0, 0, []),
  (63, .putfield 23, 66, 2, 2, 0, 0, [94]),
  (66, .aload_n 0, 67, 0, 0, 0, 0, []),
  (67, .bipush 58, 69, 0, 0, 58, 0, []),
  (69, .invokevirtual 42, 72, 42, 2, 0, 0, [2]),
  (72, .ifCond .ne 5, 75, 77, 0, 0, 0, []),
  (75, .iconst 0, 76, 0, 0, 0, 0, []),
  (76, .ireturn, 77, 0, 0, 0, 0, []),
  (77, .aload_n 0, 78, 0, 0, 0, 0, []),
  (78, .invokevirtual 35, 81, 35, 1, 0, 0, [2]),
  (81, .bipush 97, 83, 0, 0, 97, 0, []),
  (83, .isub, 84, 0, 0, 0, 0, []),
  (84, .istore 4, 86, 0, 0, 0, 0, []),
  (86, .aload_n 1, 87, 0, 0, 0, 0, []),
  (87, .iload 4, 89, 0, 0, 0, 0, []),
  (89, .invokevirtual 71, 92, 71, 2, 0, 0, [1]),
  (92, .ifCond .ne 5, 95, 97, 0, 0, 0, []),
  (95, .iconst 0, 96, 0, 0, 0, 0, []),
  (96, .ireturn, 97, 0, 0, 0, 0, []),
  (97, .aload_n 0, 98, 0, 0, 0, 0, []),
  (98, .dup, 99, 0, 0, 0, 0, []),
  (99, .getfield 23, 102, 2, 2, 0, 0, [94]),
  (102, .iconst 1, 103, 0, 0, 1, 0, []),
  (103, .iadd, 104, 0, 0, 0, 0, []),
  (104, .putfield 23, 107, 2, 2, 0, 0, [94]),
  (107, .aload_n 1, 108, 0, 0, 0, 0, []),
  (108, .iload_n 2, 109, 0, 0, 0, 0, []),
  (109, .iload_n 3, 110, 0, 0, 0, 0, []),
  (110, .iload 4, 112, 0, 0, 0, 0, []),
  (112, .invokevirtual 74, 115, 74, 4, 0, 0, [1]),
  (115, .iconst 1, 116, 0, 0, 1, 0, []),
  (116, .ireturn, 117, 0, 0, 0, 0, [])]
def k_RP_sheet : List am_E := [
  (0, .iload_n 1, 1, 0, 0, 0, 0, []),
  (1, .iconst 4, 2, 0, 0, 4, 0, []),
  (2, .invokestatic 103, 5, 103, 2, 0, 0, []),
  (5, .ifCond .eq 17, 8, 22, 0, 0, 0, []),
  (8, .iload_n 2, 9, 0, 0, 0, 0, []),
  (9, .iconst 3, 10, 0, 0, 3, 0, []),
  (10, .invokestatic 103, 13, 103, 2, 0, 0, []),
  (13, .ifCond .eq 9, 16, 22, 0, 0, 0, []),
  (16, .iload_n 3, 17, 0, 0, 0, 0, []),
  (17, .bipush 24, 19, 0, 0, 24, 0, []),
  (19, .if_icmp .le 5, 22, 24, 0, 0, 0, []),
  (22, .iconst (-1), 23, 0, 0, (-1), 0, []),
  (23, .ireturn, 24, 0, 0, 0, 0, []),
  (24, .iload_n 3, 25, 0, 0, 0, 0, []),
  (25, .ifCond .ge 6, 28, 31, 0, 0, 0, []),
  (28, .bipush (-14), 30, 0, 0, (-14), 0, []),
  (30, .ireturn, 31, 0, 0, 0, 0, []),
  (31, .aload_n 0, 32, 0, 0, 0, 0, []),
  (32, .getfield 38, 35, 0, 5, 0, 0, [186]),
  (35, .iload_n 1, 36, 0, 0, 0, 0, []),
  (36, .aaload, 37, 0, 0, 0, 0, []),
  (37, .iload_n 2, 38, 0, 0, 0, 0, []),
  (38, .iload_n 3, 39, 0, 0, 0, 0, []),
  (39, .invokevirtual 199, 42, 199, 3, 0, 0, [5]),
  (42, .iload_n 3, 43, 0, 0, 0, 0, []),
  (43, .ireturn, 44, 0, 0, 0, 0, [])]
def k_RP_isFrom0 : List am_E := [
  (0, .iload_n 0, 1, 0, 0, 0, 0, []),
  (1, .ifCond .lt 12, 4, 13, 0, 0, 0, []),
  (4, .iload_n 0, 5, 0, 0, 0, 0, []),
  (5, .iload_n 1, 6, 0, 0, 0, 0, []),
  (6, .if_icmp .ge 7, 9, 13, 0, 0, 0, []),
  (9, .iconst 1, 10, 0, 0, 1, 0, []),
  (10, .goto 4, 13, 14, 0, 0, 0, []),
  (13, .iconst 0, 14, 0, 0, 0, 0, []),
  (14, .ireturn, 15, 0, 0, 0, 0, [])]
def k_SH_renew : List am_E := [
  (0, .aload_n 0, 1, 0, 0, 0, 0, []),
  (1, .iload_n 1, 2, 0, 0, 0, 0, []),
  (2, .iload_n 2, 3, 0, 0, 0, 0, []),
  (3, .invokevirtual 26, 6, 26, 3, 0, 0, [5]),
  (6, .iconst 0, 7, 0, 0, 0, 0, []),
  (7, .istore_n 3, 8, 0, 0, 0, 0, []),
  (8, .iload_n 3, 9, 0, 0, 0, 0, []),
  (9, .bipush 24, 11, 0, 0, 24, 0, []),
  (11, .if_icmp .ge 16, 14, 27, 0, 0, 0, []),
  (14, .aload_n 0, 15, 0, 0, 0, 0, []),
  (15, .getfield 9, 18, 5, 0, 0, 0, [168]),
  (18, .iload_n 3, 19, 0, 0, 0, 0, []),
  (19, .lconst 0, 20, 0, 0, 0, 0, []),
  (20, .lastore, 21, 0, 0, 0, 0, []),
  (21, .iinc 3 1, 24, 0, 0, 1, 0, []),
  (24, .goto (-16), 27, 8, 0, 0, 0, []),
  (27, .return_, 28, 0, 0, 0, 0, [])]
def k_SH_become : List am_E := [
  (0, .aload_n 0, 1, 0, 0, 0, 0, []),
  (1, .iload_n 1, 2, 0, 0, 0, 0, []),
  (2, .putfield 15, 5, 5, 1, 0, 0, [170]),
  (5, .aload_n 0, 6, 0, 0, 0, 0, []),
  (6, .iload_n 2, 7, 0, 0, 0, 0, []),
  (7, .putfield 23, 10, 5, 2, 0, 0, [172]),
  (10, .return_, 11, 0, 0, 0, 0, [])]
def k_RP_film : List am_E := [
  (0, .iload_n 1, 1, 0, 0, 0, 0, []),
  (1, .iload_n 2, 2, 0, 0, 0, 0, []),
  (2, .iload_n 3, 3, 0, 0, 0, 0, []),
  (3, .iload 4, 5, 0, 0, 0, 0, []),
  (5, .iload 6, 7, 0, 0, 0, 0, []),
  (7, .invokestatic 177, 10, 177, 5, 0, 0, []),
  (10, .ifCond .ne 5, 13, 15, 0, 0, 0, []),
  (13, .iconst (-1), 14, 0, 0, (-1), 0, []),
  (14, .ireturn, 15, 0, 0, 0, 0, []),
  (15, .aload_n 0, 16, 0, 0, 0, 0, []),
  (16, .getfield 38, 19, 0, 5, 0, 0, [186]),
  (19, .iload_n 3, 20, 0, 0, 0, 0, []),
  (20, .aaload, 21, 0, 0, 0, 0, []),
  (21, .astore 7, 23, 0, 0, 0, 0, []),
  (23, .aload 7, 25, 0, 0, 0, 0, []),
  (25, .iload 4, 27, 0, 0, 0, 0, []),
  (27, .invokevirtual 181, 30, 181, 2, 0, 0, [5]),
  (30, .istore 8, 32, 0, 0, 0, 0, []),
  (32, .iload 8, 34, 0, 0, 0, 0, []),
  (34, .ifCond .eq 6, 37, 40, 0, 0, 0, []),
  (37, .iload 8, 39, 0, 0, 0, 0, []),
  (39, .ireturn, 40, 0, 0, 0, 0, []),
  (40, .aload_n 0, 41, 0, 0, 0, 0, []),
  (41, .iload_n 1, 42, 0, 0, 0, 0, []),
  (42, .iload_n 2, 43, 0, 0, 0, 0, []),
  (43, .iload 6, 45, 0, 0, 0, 0, []),
  (45, .invokevirtual 191, 48, 191, 4, 0, 0, [0]),
  (48, .istore 9, 50, 0, 0, 0, 0, []),
  (50, .aload 7, 52, 0, 0, 0, 0, []),
  (52, .iload 5, 54, 0, 0, 0, 0, []),
  (54, .iload 9, 56, 0, 0, 0, 0, []),
  (56, .invokevirtual 184, 59, 184, 3, 0, 0, [5]),
  (59, .ifCond .ne 6, 62, 65, 0, 0, 0, []),
  (62, .bipush (-13), 64, 0, 0, (-13), 0, []),
  (64, .ireturn, 65, 0, 0, 0, 0, []),
  (65, .iconst 0, 66, 0, 0, 0, 0, []),
  (66, .istore 10, 68, 0, 0, 0, 0, []),
  (68, .iload 10, 70, 0, 0, 0, 0, []),
  (70, .iload 9, 72, 0, 0, 0, 0, []),
  (72, .if_icmp .ge 27, 75, 99, 0, 0, 0, []),
  (75, .aload 7, 77, 0, 0, 0, 0, []),
  (77, .iload 5, 79, 0, 0, 0, 0, []),
  (79, .iload 10, 81, 0, 0, 0, 0, []),
  (81, .iadd, 82, 0, 0, 0, 0, []),
  (82, .aload_n 0, 83, 0, 0, 0, 0, []),
  (83, .getfield 43, 86, 0, 6, 0, 0, [187]),
  (86, .iload 10, 88, 0, 0, 0, 0, []),
  (88, .iaload, 89, 0, 0, 0, 0, []),
  (89, .i2l, 90, 0, 0, 0, 0, []),
  (90, .invokevirtual 195, 93, 195, 3, 0, 0, [5]),
  (93, .iinc 10 1, 96, 0, 0, 1, 0, []),
  (96, .goto (-28), 99, 68, 0, 0, 0, []),
  (99, .iload 9, 101, 0, 0, 0, 0, []),
  (101, .ireturn, 102, 0, 0, 0, 0, [])]
def k_RP_isFilmable : List am_E := [
  (0, .iload_n 0, 1, 0, 0, 0, 0, []),
  (1, .invokestatic 140, 4, 140, 1, 0, 0, []),
  (4, .ifCond .eq 43, 7, 47, 0, 0, 0, []),
  (7, .iload_n 1, 8, 0, 0, 0, 0, []),
  (8, .invokestatic 47, 11, 47, 1, 0, 0, []),
  (11, .ifCond .eq 36, 14, 47, 0, 0, 0, []),
  (14, .iload_n 2, 15, 0, 0, 0, 0, []),
  (15, .iconst 4, 16, 0, 0, 4, 0, []),
  (16, .invokestatic 103, 19, 103, 2, 0, 0, []),
  (19, .ifCond .eq 28, 22, 47, 0, 0, 0, []),
  (22, .iload_n 3, 23, 0, 0, 0, 0, []),
  (23, .iconst 3, 24, 0, 0, 3, 0, []),
  (24, .invokestatic 103, 27, 103, 2, 0, 0, []),
  (27, .ifCond .eq 20, 30, 47, 0, 0, 0, []),
  (30, .iload 4, 32, 0, 0, 0, 0, []),
  (32, .iconst 1, 33, 0, 0, 1, 0, []),
  (33, .if_icmp .lt 14, 36, 47, 0, 0, 0, []),
  (36, .iload 4, 38, 0, 0, 0, 0, []),
  (38, .bipush 24, 40, 0, 0, 24, 0, []),
  (40, .if_icmp .gt 7, 43, 47, 0, 0, 0, []),
  (43, .iconst 1, 44, 0, 0, 1, 0, []),
  (44, .goto 4, 47, 48, 0, 0, 0, []),
  (47, .iconst 0, 48, 0, 0, 0, 0, []),
  (48, .ireturn, 49, 0, 0, 0, 0, [])]
def k_RP_isKind : List am_E := [
  (0, .iload_n 0, 1, 0, 0, 0, 0, []),
  (1, .iconst 4, 2, 0, 0, 4, 0, []),
  (2, .invokestatic 103, 5, 103, 2, 0, 0, []),
  (5, .ireturn, 6, 0, 0, 0, 0, [])]
def k_SH_refusal : List am_E := [
  (0, .aload_n 0, 1, 0, 0, 0, 0, []),
  (1, .invokevirtual 19, 4, 19, 1, 0, 0, [5]),
  (4, .ifCond .eq 6, 7, 10, 0, 0, 0, []),
  (7, .bipush (-11), 9, 0, 0, (-11), 0, []),
  (9, .ireturn, 10, 0, 0, 0, 0, []),
  (10, .aload_n 0, 11, 0, 0, 0, 0, []),
  (11, .getfield 15, 14, 5, 1, 0, 0, [170]),
  (14, .iload_n 1, 15, 0, 0, 0, 0, []),
  (15, .if_icmp .ne 7, 18, 22, 0, 0, 0, []),
  (18, .iconst 0, 19, 0, 0, 0, 0, []),
  (19, .goto 5, 22, 24, 0, 0, 0, []),
  (22, .bipush (-12), 24, 0, 0, (-12), 0, []),
  (24, .ireturn, 25, 0, 0, 0, 0, [])]
def k_SH_isNothing : List am_E := [
  (0, .aload_n 0, 1, 0, 0, 0, 0, []),
  (1, .getfield 15, 4, 5, 1, 0, 0, [170]),
  (4, .iconst (-1), 5, 0, 0, (-1), 0, []),
  (5, .if_icmp .ne 7, 8, 12, 0, 0, 0, []),
  (8, .iconst 1, 9, 0, 0, 1, 0, []),
  (9, .goto 4, 12, 13, 0, 0, 0, []),
  (12, .iconst 0, 13, 0, 0, 0, 0, []),
  (13, .ireturn, 14, 0, 0, 0, 0, [])]
def k_RP_layTrail : List am_E := [
  (0, .aload_n 0, 1, 0, 0, 0, 0, []),
  (1, .getfield 32, 4, 0, 4, 0, 0, [185]),
  (4, .aload_n 0, 5, 0, 0, 0, 0, []),
  (5, .getfield 12, 8, 0, 0, 0, 0, [181]),
  (8, .iload_n 1, 9, 0, 0, 0, 0, []),
  (9, .iload_n 2, 10, 0, 0, 0, 0, []),
  (10, .aload_n 0, 11, 0, 0, 0, 0, []),
  (11, .getfield 12, 14, 0, 0, 0, 0, [181]),
  (14, .getfield 81, 17, 1, 7, 0, 0, [48]),
  (17, .aload_n 0, 18, 0, 0, 0, 0, []),
  (18, .getfield 12, 21, 0, 0, 0, 0, [181]),
  (21, .getfield 88, 24, 1, 8, 0, 0, [50]),
  (24, .invokevirtual 227, 27, 227, 6, 0, 0, [3]),
  (27, .iconst 0, 28, 0, 0, 0, 0, []),
  (28, .istore 4, 30, 0, 0, 0, 0, []),
  (30, .iload 4, 32, 0, 0, 0, 0, []),
  (32, .iload_n 3, 33, 0, 0, 0, 0, []),
  (33, .if_icmp .ge 59, 36, 92, 0, 0, 0, []),
  (36, .iload 4, 38, 0, 0, 0, 0, []),
  (38, .bipush 24, 40, 0, 0, 24, 0, []),
  (40, .if_icmp .ge 52, 43, 92, 0, 0, 0, []),
  (43, .aload_n 0, 44, 0, 0, 0, 0, []),
  (44, .getfield 32, 47, 0, 4, 0, 0, [185]),
  (47, .aload_n 0, 48, 0, 0, 0, 0, []),
  (48, .getfield 12, 51, 0, 0, 0, 0, [181]),
  (51, .iconst 1, 52, 0, 0, 1, 0, []),
  (52, .invokevirtual 231, 55, 231, 3, 0, 0, [3]),
  (55, .aload_n 0, 56, 0, 0, 0, 0, []),
  (56, .getfield 32, 59, 0, 4, 0, 0, [185]),
  (59, .getfield 147, 62, 3, 6, 0, 0, [134]),
  (62, .iload 4, 64, 0, 0, 0, 0, []),
  (64, .iconst 1, 65, 0, 0, 1, 0, []),
  (65, .iadd, 66, 0, 0, 0, 0, []),
  (66, .if_icmp .eq 6, 69, 72, 0, 0, 0, []),
  (69, .iload 4, 71, 0, 0, 0, 0, []),
  (71, .ireturn, 72, 0, 0, 0, 0, []),
  (72, .aload_n 0, 73, 0, 0, 0, 0, []),
  (73, .getfield 43, 76, 0, 6, 0, 0, [187]),
  (76, .iload 4, 78, 0, 0, 0, 0, []),
  (78, .aload_n 0, 79, 0, 0, 0, 0, []),
  (79, .getfield 32, 82, 0, 4, 0, 0, [185]),
  (82, .getfield 153, 85, 3, 4, 0, 0, [131]),
  (85, .iastore, 86, 0, 0, 0, 0, []),
  (86, .iinc 4 1, 89, 0, 0, 1, 0, []),
  (89, .goto (-59), 92, 30, 0, 0, 0, []),
  (92, .aload_n 0, 93, 0, 0, 0, 0, []),
  (93, .getfield 32, 96, 0, 4, 0, 0, [185]),
  (96, .getfield 147, 99, 3, 6, 0, 0, [134]),
  (99, .ireturn, 100, 0, 0, 0, 0, [])]
def k_JN_begin : List am_E := [
  (0, .aload_n 0, 1, 0, 0, 0, 0, []),
  (1, .iload_n 2, 2, 0, 0, 0, 0, []),
  (2, .putfield 16, 5, 3, 1, 0, 0, [127]),
  (5, .aload_n 0, 6, 0, 0, 0, 0, []),
  (6, .iload 4, 8, 0, 0, 0, 0, []),
  (8, .putfield 20, 11, 3, 2, 0, 0, [128]),
  (11, .aload_n 0, 12, 0, 0, 0, 0, []),
  (12, .iload 5, 14, 0, 0, 0, 0, []),
  (14, .putfield 23, 17, 3, 3, 0, 0, [129]),
  (17, .aload_n 0, 18, 0, 0, 0, 0, []),
  (18, .iload_n 3, 19, 0, 0, 0, 0, []),
  (19, .putfield 26, 22, 3, 4, 0, 0, [130]),
  (22, .aload_n 0, 23, 0, 0, 0, 0, []),
  (23, .iconst 0, 24, 0, 0, 0, 0, []),
  (24, .putfield 29, 27, 3, 6, 0, 0, [133]),
  (27, .aload_n 0, 28, 0, 0, 0, 0, []),
  (28, .iconst 0, 29, 0, 0, 0, 0, []),
  (29, .putfield 32, 32, 3, 8, 0, 0, [137]),
  (32, .aload_n 0, 33, 0, 0, 0, 0, []),
  (33, .aload_n 1, 34, 0, 0, 0, 0, []),
  (34, .getfield 35, 37, 1, 10, 0, 0, [55]),
  (37, .putfield 41, 40, 3, 9, 0, 0, [139]),
  (40, .aload_n 0, 41, 0, 0, 0, 0, []),
  (41, .getfield 10, 44, 3, 0, 0, 0, [126]),
  (44, .invokevirtual 44, 47, 44, 1, 0, 0, [4]),
  (47, .aload_n 0, 48, 0, 0, 0, 0, []),
  (48, .aload_n 1, 49, 0, 0, 0, 0, []),
  (49, .invokevirtual 47, 52, 47, 2, 0, 0, [3]),
  (52, .return_, 53, 0, 0, 0, 0, [])]
def k_SN_forget : List am_E := [
  (0, .iconst 0, 1, 0, 0, 0, 0, []),
  (1, .istore_n 1, 2, 0, 0, 0, 0, []),
  (2, .iload_n 1, 3, 0, 0, 0, 0, []),
  (3, .aload_n 0, 4, 0, 0, 0, 0, []),
  (4, .getfield 19, 7, 4, 2, 0, 0, [117]),
  (7, .if_icmp .ge 41, 10, 48, 0, 0, 0, []),
  (10, .iload_n 1, 11, 0, 0, 0, 0, []),
  (11, .sipush 512, 14, 0, 0, 512, 0, []),
  (14, .if_icmp .ge 34, 17, 48, 0, 0, 0, []),
  (17, .aload_n 0, 18, 0, 0, 0, 0, []),
  (18, .getfield 15, 21, 4, 1, 0, 0, [116]),
  (21, .iload_n 1, 22, 0, 0, 0, 0, []),
  (22, .iaload, 23, 0, 0, 0, 0, []),
  (23, .istore_n 2, 24, 0, 0, 0, 0, []),
  (24, .iload_n 2, 25, 0, 0, 0, 0, []),
  (25, .ifCond .lt 17, 28, 42, 0, 0, 0, []),
  (28, .iload_n 2, 29, 0, 0, 0, 0, []),
  (29, .sipush 512, 32, 0, 0, 512, 0, []),
  (32, .if_icmp .ge 10, 35, 42, 0, 0, 0, []),
  (35, .aload_n 0, 36, 0, 0, 0, 0, []),
  (36, .getfield 11, 39, 4, 0, 0, 0, [115]),
  (39, .iload_n 2, 40, 0, 0, 0, 0, []),
  (40, .lconst 0, 41, 0, 0, 0, 0, []),
  (41, .lastore, 42, 0, 0, 0, 0, []),
  (42, .iinc 1 1, 45, 0, 0, 1, 0, []),
  (45, .goto (-43), 48, 2, 0, 0, 0, []),
  (48, .aload_n 0, 49, 0, 0, 0, 0, []),
  (49, .iconst 0, 50, 0, 0, 0, 0, []),
  (50, .putfield 19, 53, 4, 2, 0, 0, [117]),
  (53, .return_, 54, 0, 0, 0, 0, [])]
def k_JN_look : List am_E := [
  (0, .aload_n 0, 1, 0, 0, 0, 0, []),
  (1, .getfield 26, 4, 3, 4, 0, 0, [130]),
  (4, .aload_n 1, 5, 0, 0, 0, 0, []),
  (5, .getfield 98, 8, 1, 9, 0, 0, [53]),
  (8, .if_icmp .ne 11, 11, 19, 0, 0, 0, []),
  (11, .aload_n 0, 12, 0, 0, 0, 0, []),
  (12, .iconst 0, 13, 0, 0, 0, 0, []),
  (13, .putfield 51, 16, 3, 7, 0, 0, [135]),
  (16, .goto 64, 19, 80, 0, 0, 0, []),
  (19, .aload_n 0, 20, 0, 0, 0, 0, []),
  (20, .getfield 10, 23, 3, 0, 0, 0, [126]),
  (23, .aload_n 0, 24, 0, 0, 0, 0, []),
  (24, .getfield 26, 27, 3, 4, 0, 0, [130]),
  (27, .aload_n 0, 28, 0, 0, 0, 0, []),
  (28, .getfield 32, 31, 3, 8, 0, 0, [137]),
  (31, .invokevirtual 101, 34, 101, 3, 0, 0, [4]),
  (34, .ifCond .ne 11, 37, 45, 0, 0, 0, []),
  (37, .aload_n 0, 38, 0, 0, 0, 0, []),
  (38, .iconst 2, 39, 0, 0, 2, 0, []),
  (39, .putfield 51, 42, 3, 7, 0, 0, [135]),
  (42, .goto 38, 45, 80, 0, 0, 0, []),
  (45, .aload_n 0, 46, 0, 0, 0, 0, []),
  (46, .aload_n 0, 47, 0, 0, 0, 0, []),
  (47, .getfield 41, 50, 3, 9, 0, 0, [139]),
  (50, .aload_n 0, 51, 0, 0, 0, 0, []),
  (51, .getfield 26, 54, 3, 4, 0, 0, [130]),
  (54, .aload_n 1, 55, 0, 0, 0, 0, []),
  (55, .getfield 98, 58, 1, 9, 0, 0, [53]),
  (58, .invokestatic 104, 61, 104, 3, 0, 0, []),
  (61, .putfield 54, 64, 3, 5, 0, 0, [132]),
  (64, .aload_n 0, 65, 0, 0, 0, 0, []),
  (65, .aload_n 0, 66, 0, 0, 0, 0, []),
  (66, .getfield 54, 69, 3, 5, 0, 0, [132]),
  (69, .ifCond .ge 7, 72, 76, 0, 0, 0, []),
  (72, .iconst 1, 73, 0, 0, 1, 0, []),
  (73, .goto 4, 76, 77, 0, 0, 0, []),
  (76, .iconst 3, 77, 0, 0, 3, 0, []),
  (77, .putfield 51, 80, 3, 7, 0, 0, [135]),
  (80, .return_, 81, 0, 0, 0, 0, [])]
def k_SN_add : List am_E := [
  (0, .iload_n 1, 1, 0, 0, 0, 0, []),
  (1, .bipush 12, 3, 0, 0, 12, 0, []),
  (3, .ishl, 4, 0, 0, 0, 0, []),
  (4, .iload_n 2, 5, 0, 0, 0, 0, []),
  (5, .ior, 6, 0, 0, 0, 0, []),
  (6, .istore_n 3, 7, 0, 0, 0, 0, []),
  (7, .iload_n 3, 8, 0, 0, 0, 0, []),
  (8, .bipush 6, 10, 0, 0, 6, 0, []),
  (10, .iushr, 11, 0, 0, 0, 0, []),
  (11, .istore 4, 13, 0, 0, 0, 0, []),
  (13, .lconst 1, 14, 0, 0, 0, 1, []),
  (14, .iload_n 3, 15, 0, 0, 0, 0, []),
  (15, .bipush 63, 17, 0, 0, 63, 0, []),
  (17, .iand, 18, 0, 0, 0, 0, []),
  (18, .lshl, 19, 0, 0, 0, 0, []),
  (19, .lstore 5, 21, 0, 0, 0, 0, []),
  (21, .iload 4, 23, 0, 0, 0, 0, []),
  (23, .sipush 512, 26, 0, 0, 512, 0, []),
  (26, .if_icmp .ge 18, 29, 44, 0, 0, 0, []),
  (29, .aload_n 0, 30, 0, 0, 0, 0, []),
  (30, .getfield 11, 33, 4, 0, 0, 0, [115]),
  (33, .iload 4, 35, 0, 0, 0, 0, []),
  (35, .laload, 36, 0, 0, 0, 0, []),
  (36, .lload 5, 38, 0, 0, 0, 0, []),
  (38, .land, 39, 0, 0, 0, 0, []),
  (39, .lconst 0, 40, 0, 0, 0, 0, []),
  (40, .lcmp, 41, 0, 0, 0, 0, []),
  (41, .ifCond .eq 5, 44, 46, 0, 0, 0, []),
  (44, .iconst 0, 45, 0, 0, 0, 0, []),
  (45, .ireturn, 46, 0, 0, 0, 0, []),
  (46, .aload_n 0, 47, 0, 0, 0, 0, []),
  (47, .getfield 11, 50, 4, 0, 0, 0, [115]),
  (50, .iload 4, 52, 0, 0, 0, 0, []),
  (52, .laload, 53, 0, 0, 0, 0, []),
  (53, .lconst 0, 54, 0, 0, 0, 0, []),
  (54, .lcmp, 55, 0, 0, 0, 0, []),
  (55, .ifCond .ne 34, 58, 89, 0, 0, 0, []),
  (58, .aload_n 0, 59, 0, 0, 0, 0, []),
  (59, .getfield 19, 62, 4, 2, 0, 0, [117]),
  (62, .sipush 512, 65, 0, 0, 512, 0, []),
  (65, .if_icmp .ge 24, 68, 89, 0, 0, 0, []),
  (68, .aload_n 0, 69, 0, 0, 0, 0, []),
  (69, .getfield 15, 72, 4, 1, 0, 0, [116]),
  (72, .aload_n 0, 73, 0, 0, 0, 0, []),
  (73, .getfield 19, 76, 4, 2, 0, 0, [117]),
  (76, .iload 4, 78, 0, 0, 0, 0, []),
  (78, .iastore, 79, 0, 0, 0, 0, []),
  (79, .aload_n 0, 80, 0, 0, 0, 0, []),
  (80, .dup, 81, 0, 0, 0, 0, []),
  (81, .getfield 19, 84, 4, 2, 0, 0, [117]),
  (84, .iconst 1, 85, 0, 0, 1, 0, []),
  (85, .iadd, 86, 0, 0, 0, 0, []),
  (86, .putfield 19, 89, 4, 2, 0, 0, [117]),
  (89, .aload_n 0, 90, 0, 0, 0, 0, []),
  (90, .getfield 11, 93, 4, 0, 0, 0, [115]),
  (93, .iload 4, 95, 0, 0, 0, 0, []),
  (95, .dup2, 96, 0, 0, 0, 0, []),
  (96, .laload, 97, 0, 0, 0, 0, []),
  (97, .lload 5, 99, 0, 0, 0, 0, []),
  (99, .lor, 100, 0, 0, 0, 0, []),
  (100, .lastore, 101, 0, 0, 0, 0, []),
  (101, .iconst 1, 102, 0, 0, 1, 0, []),
  (102, .ireturn, 103, 0, 0, 0, 0, [])]
def k_NT_towards : List am_E := [
  (0, .lload_n 0, 1, 0, 0, 0, 0, []),
  (1, .iload_n 2, 2, 0, 0, 0, 0, []),
  (2, .invokestatic 9, 5, 9, 2, 0, 0, []),
  (5, .istore 4, 7, 0, 0, 0, 0, []),
  (7, .iconst 1, 8, 0, 0, 1, 0, []),
  (8, .iload_n 3, 9, 0, 0, 0, 0, []),
  (9, .ishl, 10, 0, 0, 0, 0, []),
  (10, .istore 5, 12, 0, 0, 0, 0, []),
  (12, .iload 5, 14, 0, 0, 0, 0, []),
  (14, .istore 6, 16, 0, 0, 0, 0, []),
  (16, .iconst 0, 17, 0, 0, 0, 0, []),
  (17, .istore 7, 19, 0, 0, 0, 0, []),
  (19, .iload 7, 21, 0, 0, 0, 0, []),
  (21, .bipush 8, 23, 0, 0, 8, 0, []),
  (23, .if_icmp .ge 51, 26, 74, 0, 0, 0, []),
  (26, .iload 5, 28, 0, 0, 0, 0, []),
  (28, .ifCond .eq 46, 31, 74, 0, 0, 0, []),
  (31, .iload 5, 33, 0, 0, 0, 0, []),
  (33, .iload 4, 35, 0, 0, 0, 0, []),
  (35, .iand, 36, 0, 0, 0, 0, []),
  (36, .ifCond .eq 12, 39, 48, 0, 0, 0, []),
  (39, .iload 5, 41, 0, 0, 0, 0, []),
  (41, .iload 4, 43, 0, 0, 0, 0, []),
  (43, .iand, 44, 0, 0, 0, 0, []),
  (44, .invokestatic 13, 47, 13, 1, 0, 0, []),
  (47, .ireturn, 48, 0, 0, 0, 0, []),
  (48, .lload_n 0, 49, 0, 0, 0, 0, []),
  (49, .iload 5, 51, 0, 0, 0, 0, []),
  (51, .invokestatic 19, 54, 19, 2, 0, 0, []),
  (54, .iload 6, 56, 0, 0, 0, 0, []),
  (56, .iconst (-1), 57, 0, 0, (-1), 0, []),
  (57, .ixor, 58, 0, 0, 0, 0, []),
  (58, .iand, 59, 0, 0, 0, 0, []),
  (59, .istore 5, 61, 0, 0, 0, 0, []),
  (61, .iload 6, 63, 0, 0, 0, 0, []),
  (63, .iload 5, 65, 0, 0, 0, 0, []),
  (65, .ior, 66, 0, 0, 0, 0, []),
  (66, .istore 6, 68, 0, 0, 0, 0, []),
  (68, .iinc 7 1, 71, 0, 0, 1, 0, []),
  (71, .goto (-52), 74, 19, 0, 0, 0, []),
  (74, .iconst (-1), 75, 0, 0, (-1), 0, []),
  (75, .ireturn, 76, 0, 0, 0, 0, [])]
def k_NT_leastOf : List am_E := [
  (0, .iconst 0, 1, 0, 0, 0, 0, []),
  (1, .istore_n 1, 2, 0, 0, 0, 0, []),
  (2, .iload_n 1, 3, 0, 0, 0, 0, []),
  (3, .bipush 7, 5, 0, 0, 7, 0, []),
  (5, .if_icmp .ge 17, 8, 22, 0, 0, 0, []),
  (8, .iload_n 0, 9, 0, 0, 0, 0, []),
  (9, .iload_n 1, 10, 0, 0, 0, 0, []),
  (10, .invokestatic 22, 13, 22, 2, 0, 0, []),
  (13, .ifCond .ne 9, 16, 22, 0, 0, 0, []),
  (16, .iinc 1 1, 19, 0, 0, 1, 0, []),
  (19, .goto (-17), 22, 2, 0, 0, 0, []),
  (22, .iload_n 1, 23, 0, 0, 0, 0, []),
  (23, .ireturn, 24, 0, 0, 0, 0, [])]
def k_NT_around : List am_E := [
  (0, .iconst 0, 1, 0, 0, 0, 0, []),
  (1, .istore_n 3, 2, 0, 0, 0, 0, []),
  (2, .iconst 0, 3, 0, 0, 0, 0, []),
  (3, .istore 4, 5, 0, 0, 0, 0, []),
  (5, .iload 4, 7, 0, 0, 0, 0, []),
  (7, .bipush 8, 9, 0, 0, 8, 0, []),
  (9, .if_icmp .ge 28, 12, 37, 0, 0, 0, []),
  (12, .iload_n 2, 13, 0, 0, 0, 0, []),
  (13, .iload 4, 15, 0, 0, 0, 0, []),
  (15, .invokestatic 22, 18, 22, 2, 0, 0, []),
  (18, .iconst 1, 19, 0, 0, 1, 0, []),
  (19, .if_icmp .ne 12, 22, 31, 0, 0, 0, []),
  (22, .iload_n 3, 23, 0, 0, 0, 0, []),
  (23, .lload_n 0, 24, 0, 0, 0, 0, []),
  (24, .iload 4, 26, 0, 0, 0, 0, []),
  (26, .invokestatic 9, 29, 9, 2, 0, 0, []),
  (29, .ior, 30, 0, 0, 0, 0, []),
  (30, .istore_n 3, 31, 0, 0, 0, 0, []),
  (31, .iinc 4 1, 34, 0, 0, 1, 0, []),
  (34, .goto (-29), 37, 5, 0, 0, 0, []),
  (37, .iload_n 3, 38, 0, 0, 0, 0, []),
  (38, .ireturn, 39, 0, 0, 0, 0, [])]
def k_JN_goOn : List am_E := [
  (0, .iconst 0, 1, 0, 0, 0, 0, []),
  (1, .istore_n 3, 2, 0, 0, 0, 0, []),
  (2, .iload_n 3, 3, 0, 0, 0, 0, []),
  (3, .iload_n 2, 4, 0, 0, 0, 0, []),
  (4, .if_icmp .ge 99, 7, 103, 0, 0, 0, []),
  (7, .aload_n 0, 8, 0, 0, 0, 0, []),
  (8, .getfield 51, 11, 3, 7, 0, 0, [135]),
  (11, .iconst 3, 12, 0, 0, 3, 0, []),
  (12, .if_icmp .ne 91, 15, 103, 0, 0, 0, []),
  (15, .aload_n 1, 16, 0, 0, 0, 0, []),
  (16, .aload_n 0, 17, 0, 0, 0, 0, []),
  (17, .getfield 26, 20, 3, 4, 0, 0, [130]),
  (20, .aload_n 0, 21, 0, 0, 0, 0, []),
  (21, .getfield 54, 24, 3, 5, 0, 0, [132]),
  (24, .invokevirtual 57, 27, 57, 3, 0, 0, [1]),
  (27, .istore 4, 29, 0, 0, 0, 0, []),
  (29, .aload_n 0, 30, 0, 0, 0, 0, []),
  (30, .dup, 31, 0, 0, 0, 0, []),
  (31, .getfield 29, 34, 3, 6, 0, 0, [133]),
  (34, .iconst 1, 35, 0, 0, 1, 0, []),
  (35, .iadd, 36, 0, 0, 0, 0, []),
  (36, .putfield 29, 39, 3, 6, 0, 0, [133]),
  (39, .aload_n 0, 40, 0, 0, 0, 0, []),
  (40, .getfield 20, 43, 3, 2, 0, 0, [128]),
  (43, .iload 4, 45, 0, 0, 0, 0, []),
  (45, .invokestatic 61, 48, 61, 2, 0, 0, []),
  (48, .iconst 1, 49, 0, 0, 1, 0, []),
  (49, .if_icmp .ne 14, 52, 63, 0, 0, 0, []),
  (52, .aload_n 0, 53, 0, 0, 0, 0, []),
  (53, .aload_n 1, 54, 0, 0, 0, 0, []),
  (54, .iload 4, 56, 0, 0, 0, 0, []),
  (56, .iconst 0, 57, 0, 0, 0, 0, []),
  (57, .invokevirtual 68, 60, 68, 4, 0, 0, [3]),
  (60, .goto 32, 63, 92, 0, 0, 0, []),
  (63, .aload_n 0, 64, 0, 0, 0, 0, []),
  (64, .getfield 26, 67, 3, 4, 0, 0, [130]),
  (67, .istore 5, 69, 0, 0, 0, 0, []),
  (69, .aload_n 0, 70, 0, 0, 0, 0, []),
  (70, .aload_n 0, 71, 0, 0, 0, 0, []),
  (71, .getfield 54, 74, 3, 5, 0, 0, [132]),
  (74, .putfield 26, 77, 3, 4, 0, 0, [130]),
  (77, .aload_n 0, 78, 0, 0, 0, 0, []),
  (78, .aload_n 1, 79, 0, 0, 0, 0, []),
  (79, .iload 4, 81, 0, 0, 0, 0, []),
  (81, .iconst 1, 82, 0, 0, 1, 0, []),
  (82, .invokevirtual 68, 85, 68, 4, 0, 0, [3]),
  (85, .aload_n 0, 86, 0, 0, 0, 0, []),
  (86, .aload_n 1, 87, 0, 0, 0, 0, []),
  (87, .iload 5, 89, 0, 0, 0, 0, []),
  (89, .invokevirtual 72, 92, 72, 3, 0, 0, [3]),
  (92, .aload_n 0, 93, 0, 0, 0, 0, []),
  (93, .aload_n 1, 94, 0, 0, 0, 0, []),
  (94, .invokevirtual 47, 97, 47, 2, 0, 0, [3]),
  (97, .iinc 3 1, 100, 0, 0, 1, 0, []),
  (100, .goto (-98), 103, 2, 0, 0, 0, []),
  (103, .return_, 104, 0, 0, 0, 0, [])]
def k_JN_believe : List am_E := [
  (0, .aload_n 1, 1, 0, 0, 0, 0, []),
  (1, .iload_n 2, 2, 0, 0, 0, 0, []),
  (2, .invokevirtual 92, 5, 92, 2, 0, 0, [1]),
  (5, .lstore 4, 7, 0, 0, 0, 0, []),
  (7, .iload_n 3, 8, 0, 0, 0, 0, []),
  (8, .iconst 1, 9, 0, 0, 1, 0, []),
  (9, .if_icmp .ne 31, 12, 40, 0, 0, 0, []),
  (12, .aload_n 0, 13, 0, 0, 0, 0, []),
  (13, .dup, 14, 0, 0, 0, 0, []),
  (14, .getfield 32, 17, 3, 8, 0, 0, [137]),
  (17, .iconst 1, 18, 0, 0, 1, 0, []),
  (18, .iload_n 2, 19, 0, 0, 0, 0, []),
  (19, .ishl, 20, 0, 0, 0, 0, []),
  (20, .iconst (-1), 21, 0, 0, (-1), 0, []),
  (21, .ixor, 22, 0, 0, 0, 0, []),
  (22, .iand, 23, 0, 0, 0, 0, []),
  (23, .putfield 32, 26, 3, 8, 0, 0, [137]),
  (26, .aload_n 0, 27, 0, 0, 0, 0, []),
  (27, .dup, 28, 0, 0, 0, 0, []),
  (28, .getfield 41, 31, 3, 9, 0, 0, [139]),
  (31, .lload 4, 33, 0, 0, 0, 0, []),
  (33, .lor, 34, 0, 0, 0, 0, []),
  (34, .putfield 41, 37, 3, 9, 0, 0, [139]),
  (37, .goto 34, 40, 71, 0, 0, 0, []),
  (40, .iload_n 3, 41, 0, 0, 0, 0, []),
  (41, .ifCond .ne 30, 44, 71, 0, 0, 0, []),
  (44, .aload_n 0, 45, 0, 0, 0, 0, []),
  (45, .dup, 46, 0, 0, 0, 0, []),
  (46, .getfield 32, 49, 3, 8, 0, 0, [137]),
  (49, .iconst 1, 50, 0, 0, 1, 0, []),
  (50, .iload_n 2, 51, 0, 0, 0, 0, []),
  (51, .ishl, 52, 0, 0, 0, 0, []),
  (52, .ior, 53, 0, 0, 0, 0, []),
  (53, .putfield 32, 56, 3, 8, 0, 0, [137]),
  (56, .aload_n 0, 57, 0, 0, 0, 0, []),
  (57, .dup, 58, 0, 0, 0, 0, []),
  (58, .getfield 41, 61, 3, 9, 0, 0, [139]),
  (61, .lload 4, 63, 0, 0, 0, 0, []),
  (63, .ldc2_w 96, 66, 458, 0, 0, (-1), []),
  (66, .lxor, 67, 0, 0, 0, 0, []),
  (67, .land, 68, 0, 0, 0, 0, []),
  (68, .putfield 41, 71, 3, 9, 0, 0, [139]),
  (71, .return_, 72, 0, 0, 0, 0, [])]
def k_RD_pairOf : List am_E := [
  (0, .aload_n 0, 1, 0, 0, 0, 0, []),
  (1, .iload_n 1, 2, 0, 0, 0, 0, []),
  (2, .invokevirtual 51, 5, 51, 2, 0, 0, [1]),
  (5, .ifCond .eq 21, 8, 26, 0, 0, 0, []),
  (8, .aload_n 0, 9, 0, 0, 0, 0, []),
  (9, .getfield 9, 12, 1, 0, 0, 0, [39]),
  (12, .iload_n 1, 13, 0, 0, 0, 0, []),
  (13, .iaload, 14, 0, 0, 0, 0, []),
  (14, .aload_n 0, 15, 0, 0, 0, 0, []),
  (15, .getfield 15, 18, 1, 1, 0, 0, [40]),
  (18, .iload_n 1, 19, 0, 0, 0, 0, []),
  (19, .iaload, 20, 0, 0, 0, 0, []),
  (20, .invokestatic 71, 23, 71, 2, 0, 0, []),
  (23, .goto 4, 26, 27, 0, 0, 0, []),
  (26, .lconst 0, 27, 0, 0, 0, 0, []),
  (27, .lreturn, 28, 0, 0, 0, 0, [])]
def k_JN_heed : List am_E := [
  (0, .aload_n 0, 1, 0, 0, 0, 0, []),
  (1, .getfield 23, 4, 3, 3, 0, 0, [129]),
  (4, .aload_n 0, 5, 0, 0, 0, 0, []),
  (5, .getfield 26, 8, 3, 4, 0, 0, [130]),
  (8, .invokestatic 61, 11, 61, 2, 0, 0, []),
  (11, .iconst 1, 12, 0, 0, 1, 0, []),
  (12, .if_icmp .ne 51, 15, 63, 0, 0, 0, []),
  (15, .aload_n 1, 16, 0, 0, 0, 0, []),
  (16, .aload_n 0, 17, 0, 0, 0, 0, []),
  (17, .getfield 26, 20, 3, 4, 0, 0, [130]),
  (20, .iload_n 2, 21, 0, 0, 0, 0, []),
  (21, .invokevirtual 76, 24, 76, 3, 0, 0, [1]),
  (24, .istore_n 3, 25, 0, 0, 0, 0, []),
  (25, .aload_n 1, 26, 0, 0, 0, 0, []),
  (26, .aload_n 0, 27, 0, 0, 0, 0, []),
  (27, .getfield 26, 30, 3, 4, 0, 0, [130]),
  (30, .iload_n 2, 31, 0, 0, 0, 0, []),
  (31, .aload_n 0, 32, 0, 0, 0, 0, []),
  (32, .getfield 20, 35, 3, 2, 0, 0, [128]),
  (35, .invokevirtual 80, 38, 80, 4, 0, 0, [1]),
  (38, .istore 4, 40, 0, 0, 0, 0, []),
  (40, .aload_n 0, 41, 0, 0, 0, 0, []),
  (41, .aload_n 1, 42, 0, 0, 0, 0, []),
  (42, .aload_n 1, 43, 0, 0, 0, 0, []),
  (43, .aload_n 0, 44, 0, 0, 0, 0, []),
  (44, .getfield 26, 47, 3, 4, 0, 0, [130]),
  (47, .invokevirtual 84, 50, 84, 2, 0, 0, [1]),
  (50, .aload_n 0, 51, 0, 0, 0, 0, []),
  (51, .getfield 16, 54, 3, 1, 0, 0, [127]),
  (54, .iload 4, 56, 0, 0, 0, 0, []),
  (56, .iload_n 3, 57, 0, 0, 0, 0, []),
  (57, .invokestatic 88, 60, 88, 3, 0, 0, []),
  (60, .invokevirtual 68, 63, 68, 4, 0, 0, [3]),
  (63, .return_, 64, 0, 0, 0, 0, [])]
def k_RD_isSide : List am_E := [
  (0, .iload_n 1, 1, 0, 0, 0, 0, []),
  (1, .invokestatic 47, 4, 47, 1, 0, 0, []),
  (4, .ifCond .eq 17, 7, 21, 0, 0, 0, []),
  (7, .aload_n 0, 8, 0, 0, 0, 0, []),
  (8, .getfield 21, 11, 1, 3, 0, 0, [42]),
  (11, .iload_n 1, 12, 0, 0, 0, 0, []),
  (12, .iaload, 13, 0, 0, 0, 0, []),
  (13, .iload_n 2, 14, 0, 0, 0, 0, []),
  (14, .if_icmp .ne 7, 17, 21, 0, 0, 0, []),
  (17, .iconst 1, 18, 0, 0, 1, 0, []),
  (18, .goto 4, 21, 22, 0, 0, 0, []),
  (21, .iconst 0, 22, 0, 0, 0, 0, []),
  (22, .ireturn, 23, 0, 0, 0, 0, [])]
def k_RD_saysOpen : List am_E := [
  (0, .iload_n 3, 1, 0, 0, 0, 0, []),
  (1, .aload_n 0, 2, 0, 0, 0, 0, []),
  (2, .iload_n 1, 3, 0, 0, 0, 0, []),
  (3, .invokevirtual 60, 6, 60, 2, 0, 0, [1]),
  (6, .invokestatic 57, 9, 57, 2, 0, 0, []),
  (9, .ifCond .ne 7, 12, 16, 0, 0, 0, []),
  (12, .iconst 1, 13, 0, 0, 1, 0, []),
  (13, .goto 4, 16, 17, 0, 0, 0, []),
  (16, .iconst 0, 17, 0, 0, 0, 0, []),
  (17, .istore 4, 19, 0, 0, 0, 0, []),
  (19, .iload 4, 21, 0, 0, 0, 0, []),
  (21, .aload_n 0, 22, 0, 0, 0, 0, []),
  (22, .iload_n 1, 23, 0, 0, 0, 0, []),
  (23, .iload_n 2, 24, 0, 0, 0, 0, []),
  (24, .invokevirtual 63, 27, 63, 3, 0, 0, [1]),
  (27, .if_icmp .ne 7, 30, 34, 0, 0, 0, []),
  (30, .iconst 1, 31, 0, 0, 1, 0, []),
  (31, .goto 4, 34, 35, 0, 0, 0, []),
  (34, .iconst 0, 35, 0, 0, 0, 0, []),
  (35, .ireturn, 36, 0, 0, 0, 0, [])]
def k_RD_aboutOf : List am_E := [
  (0, .iload_n 1, 1, 0, 0, 0, 0, []),
  (1, .invokestatic 47, 4, 47, 1, 0, 0, []),
  (4, .ifCond .eq 12, 7, 16, 0, 0, 0, []),
  (7, .aload_n 0, 8, 0, 0, 0, 0, []),
  (8, .getfield 24, 11, 1, 4, 0, 0, [43]),
  (11, .iload_n 1, 12, 0, 0, 0, 0, []),
  (12, .iaload, 13, 0, 0, 0, 0, []),
  (13, .goto 4, 16, 17, 0, 0, 0, []),
  (16, .iconst 0, 17, 0, 0, 0, 0, []),
  (17, .ireturn, 18, 0, 0, 0, 0, [])]
def k_KD_takes : List am_E := [
  (0, .iload_n 0, 1, 0, 0, 0, 0, []),
  (1, .ifCond .eq 17, 4, 18, 0, 0, 0, []),
  (4, .iload_n 2, 5, 0, 0, 0, 0, []),
  (5, .ifCond .eq 23, 8, 28, 0, 0, 0, []),
  (8, .iload_n 0, 9, 0, 0, 0, 0, []),
  (9, .iconst 1, 10, 0, 0, 1, 0, []),
  (10, .if_icmp .eq 8, 13, 18, 0, 0, 0, []),
  (13, .iload_n 0, 14, 0, 0, 0, 0, []),
  (14, .iconst 3, 15, 0, 0, 3, 0, []),
  (15, .if_icmp .ne 13, 18, 28, 0, 0, 0, []),
  (18, .iload_n 1, 19, 0, 0, 0, 0, []),
  (19, .ifCond .eq 7, 22, 26, 0, 0, 0, []),
  (22, .iconst 1, 23, 0, 0, 1, 0, []),
  (23, .goto 4, 26, 27, 0, 0, 0, []),
  (26, .iconst 0, 27, 0, 0, 0, 0, []),
  (27, .ireturn, 28, 0, 0, 0, 0, []),
  (28, .iload_n 0, 29, 0, 0, 0, 0, []),
  (29, .iconst 3, 30, 0, 0, 3, 0, []),
  (30, .if_icmp .ne 13, 33, 43, 0, 0, 0, []),
  (33, .iload_n 1, 34, 0, 0, 0, 0, []),
  (34, .ifCond .eq 7, 37, 41, 0, 0, 0, []),
  (37, .iconst 0, 38, 0, 0, 0, 0, []),
  (38, .goto 4, 41, 42, 0, 0, 0, []),
  (41, .iconst 1, 42, 0, 0, 1, 0, []),
  (42, .ireturn, 43, 0, 0, 0, 0, []),
  (43, .iconst 2, 44, 0, 0, 2, 0, []),
  (44, .ireturn, 45, 0, 0, 0, 0, [])]
def k_SH_has : List am_E := [
  (0, .iload_n 1, 1, 0, 0, 0, 0, []),
  (1, .ifCond .lt 29, 4, 30, 0, 0, 0, []),
  (4, .iload_n 2, 5, 0, 0, 0, 0, []),
  (5, .ifCond .lt 25, 8, 30, 0, 0, 0, []),
  (8, .iload_n 1, 9, 0, 0, 0, 0, []),
  (9, .aload_n 0, 10, 0, 0, 0, 0, []),
  (10, .getfield 23, 13, 5, 2, 0, 0, [172]),
  (13, .if_icmp .gt 17, 16, 30, 0, 0, 0, []),
  (16, .iload_n 2, 17, 0, 0, 0, 0, []),
  (17, .aload_n 0, 18, 0, 0, 0, 0, []),
  (18, .getfield 23, 21, 5, 2, 0, 0, [172]),
  (21, .iload_n 1, 22, 0, 0, 0, 0, []),
  (22, .isub, 23, 0, 0, 0, 0, []),
  (23, .if_icmp .gt 7, 26, 30, 0, 0, 0, []),
  (26, .iconst 1, 27, 0, 0, 1, 0, []),
  (27, .goto 4, 30, 31, 0, 0, 0, []),
  (30, .iconst 0, 31, 0, 0, 0, 0, []),
  (31, .ireturn, 32, 0, 0, 0, 0, [])]
def k_SH_put : List am_E := [
  (0, .aload_n 0, 1, 0, 0, 0, 0, []),
  (1, .iload_n 1, 2, 0, 0, 0, 0, []),
  (2, .iconst 1, 3, 0, 0, 1, 0, []),
  (3, .invokevirtual 30, 6, 30, 3, 0, 0, [5]),
  (6, .ifCond .eq 39, 9, 45, 0, 0, 0, []),
  (9, .aload_n 0, 10, 0, 0, 0, 0, []),
  (10, .getfield 9, 13, 5, 0, 0, 0, [168]),
  (13, .iload_n 1, 14, 0, 0, 0, 0, []),
  (14, .aload_n 0, 15, 0, 0, 0, 0, []),
  (15, .getfield 15, 18, 5, 1, 0, 0, [170]),
  (18, .ifCond .ne 10, 21, 28, 0, 0, 0, []),
  (21, .lload_n 2, 22, 0, 0, 0, 0, []),
  (22, .l2i, 23, 0, 0, 0, 0, []),
  (23, .i2b, 24, 0, 0, 0, 0, []),
  (24, .i2l, 25, 0, 0, 0, 0, []),
  (25, .goto 19, 28, 44, 0, 0, 0, []),
  (28, .aload_n 0, 29, 0, 0, 0, 0, []),
  (29, .getfield 15, 32, 5, 1, 0, 0, [170]),
  (32, .iconst 1, 33, 0, 0, 1, 0, []),
  (33, .if_icmp .ne 10, 36, 43, 0, 0, 0, []),
  (36, .lload_n 2, 37, 0, 0, 0, 0, []),
  (37, .l2i, 38, 0, 0, 0, 0, []),
  (38, .i2s, 39, 0, 0, 0, 0, []),
  (39, .i2l, 40, 0, 0, 0, 0, []),
  (40, .goto 4, 43, 44, 0, 0, 0, []),
  (43, .lload_n 2, 44, 0, 0, 0, 0, []),
  (44, .lastore, 45, 0, 0, 0, 0, []),
  (45, .return_, 46, 0, 0, 0, 0, [])]
def k_RP_track : List am_E := [
  (0, .iload_n 1, 1, 0, 0, 0, 0, []),
  (1, .iload_n 2, 2, 0, 0, 0, 0, []),
  (2, .iload_n 3, 3, 0, 0, 0, 0, []),
  (3, .iload 4, 5, 0, 0, 0, 0, []),
  (5, .iload 6, 7, 0, 0, 0, 0, []),
  (7, .invokestatic 177, 10, 177, 5, 0, 0, []),
  (10, .ifCond .eq 12, 13, 22, 0, 0, 0, []),
  (13, .iload 7, 15, 0, 0, 0, 0, []),
  (15, .iconst 3, 16, 0, 0, 3, 0, []),
  (16, .invokestatic 103, 19, 103, 2, 0, 0, []),
  (19, .ifCond .ne 5, 22, 24, 0, 0, 0, []),
  (22, .iconst (-1), 23, 0, 0, (-1), 0, []),
  (23, .ireturn, 24, 0, 0, 0, 0, []),
  (24, .aload_n 0, 25, 0, 0, 0, 0, []),
  (25, .getfield 38, 28, 0, 5, 0, 0, [186]),
  (28, .iload_n 3, 29, 0, 0, 0, 0, []),
  (29, .aaload, 30, 0, 0, 0, 0, []),
  (30, .astore 8, 32, 0, 0, 0, 0, []),
  (32, .aload 8, 34, 0, 0, 0, 0, []),
  (34, .iload 4, 36, 0, 0, 0, 0, []),
  (36, .invokevirtual 181, 39, 181, 2, 0, 0, [5]),
  (39, .istore 9, 41, 0, 0, 0, 0, []),
  (41, .iload 9, 43, 0, 0, 0, 0, []),
  (43, .ifCond .eq 6, 46, 49, 0, 0, 0, []),
  (46, .iload 9, 48, 0, 0, 0, 0, []),
  (48, .ireturn, 49, 0, 0, 0, 0, []),
  (49, .aload 8, 51, 0, 0, 0, 0, []),
  (51, .iload 5, 53, 0, 0, 0, 0, []),
  (53, .iload 6, 55, 0, 0, 0, 0, []),
  (55, .invokevirtual 184, 58, 184, 3, 0, 0, [5]),
  (58, .ifCond .ne 6, 61, 64, 0, 0, 0, []),
  (61, .bipush (-13), 63, 0, 0, (-13), 0, []),
  (63, .ireturn, 64, 0, 0, 0, 0, []),
  (64, .iconst 0, 65, 0, 0, 0, 0, []),
  (65, .istore 10, 67, 0, 0, 0, 0, []),
  (67, .aload_n 0, 68, 0, 0, 0, 0, []),
  (68, .getfield 12, 71, 0, 0, 0, 0, [181]),
  (71, .getfield 73, 74, 1, 6, 0, 0, [47]),
  (74, .istore 11, 76, 0, 0, 0, 0, []),
  (76, .aload_n 0, 77, 0, 0, 0, 0, []),
  (77, .getfield 12, 80, 0, 0, 0, 0, [181]),
  (80, .getfield 73, 83, 1, 6, 0, 0, [47]),
  (83, .istore 12, 85, 0, 0, 0, 0, []),
  (85, .iconst 0, 86, 0, 0, 0, 0, []),
  (86, .istore 13, 88, 0, 0, 0, 0, []),
  (88, .iconst 0, 89, 0, 0, 0, 0, []),
  (89, .istore 14, 91, 0, 0, 0, 0, []),
  (91, .iload 14, 93, 0, 0, 0, 0, []),
  (93, .bipush 64, 95, 0, 0, 64, 0, []),
  (95, .if_icmp .ge 73, 98, 168, 0, 0, 0, []),
  (98, .aload_n 0, 99, 0, 0, 0, 0, []),
  (99, .iload_n 1, 100, 0, 0, 0, 0, []),
  (100, .iload_n 2, 101, 0, 0, 0, 0, []),
  (101, .iload 13, 103, 0, 0, 0, 0, []),
  (103, .aload 8, 105, 0, 0, 0, 0, []),
  (105, .iload 5, 107, 0, 0, 0, 0, []),
  (107, .iload 6, 109, 0, 0, 0, 0, []),
  (109, .invokevirtual 187, 112, 187, 7, 0, 0, [0]),
  (112, .ifCond .eq 22, 115, 134, 0, 0, 0, []),
  (115, .iinc 10 1, 118, 0, 0, 1, 0, []),
  (118, .iload 11, 120, 0, 0, 0, 0, []),
  (120, .iload 13, 122, 0, 0, 0, 0, []),
  (122, .iand, 123, 0, 0, 0, 0, []),
  (123, .istore 11, 125, 0, 0, 0, 0, []),
  (125, .iload 12, 127, 0, 0, 0, 0, []),
  (127, .iload 13, 129, 0, 0, 0, 0, []),
  (129, .iconst (-1), 130, 0, 0, (-1), 0, []),
  (130, .ixor, 131, 0, 0, 0, 0, []),
  (131, .iand, 132, 0, 0, 0, 0, []),
  (132, .istore 12, 134, 0, 0, 0, 0, []),
  (134, .iload 13, 136, 0, 0, 0, 0, []),
  (136, .aload_n 0, 137, 0, 0, 0, 0, []),
  (137, .getfield 12, 140, 0, 0, 0, 0, [181]),
  (140, .getfield 73, 143, 1, 6, 0, 0, [47]),
  (143, .isub, 144, 0, 0, 0, 0, []),
  (144, .aload_n 0, 145, 0, 0, 0, 0, []),
  (145, .getfield 12, 148, 0, 0, 0, 0, [181]),
  (148, .getfield 73, 151, 1, 6, 0, 0, [47]),
  (151, .iand, 152, 0, 0, 0, 0, []),
  (152, .istore 13, 154, 0, 0, 0, 0, []),
  (154, .iload 13, 156, 0, 0, 0, 0, []),
  (156, .ifCond .ne 6, 159, 162, 0, 0, 0, []),
  (159, .goto 9, 162, 168, 0, 0, 0, []),
  (162, .iinc 14 1, 165, 0, 0, 1, 0, []),
  (165, .goto (-74), 168, 91, 0, 0, 0, []),
  (168, .iload 7, 170, 0, 0, 0, 0, []),
  (170, .ifCond .ne 6, 173, 176, 0, 0, 0, []),
  (173, .iload 10, 175, 0, 0, 0, 0, []),
  (175, .ireturn, 176, 0, 0, 0, 0, []),
  (176, .iload 10, 178, 0, 0, 0, 0, []),
  (178, .ifCond .ne 6, 181, 184, 0, 0, 0, []),
  (181, .bipush (-4), 183, 0, 0, (-4), 0, []),
  (183, .ireturn, 184, 0, 0, 0, 0, []),
  (184, .iload 7, 186, 0, 0, 0, 0, []),
  (186, .iconst 1, 187, 0, 0, 1, 0, []),
  (187, .if_icmp .ne 8, 190, 195, 0, 0, 0, []),
  (190, .iload 11, 192, 0, 0, 0, 0, []),
  (192, .goto 5, 195, 197, 0, 0, 0, []),
  (195, .iload 12, 197, 0, 0, 0, 0, []),
  (197, .ireturn, 198, 0, 0, 0, 0, [])]
def k_RP_leaves : List am_E := [
  (0, .aload_n 0, 1, 0, 0, 0, 0, []),
  (1, .getfield 32, 4, 0, 4, 0, 0, [185]),
  (4, .aload_n 0, 5, 0, 0, 0, 0, []),
  (5, .getfield 12, 8, 0, 0, 0, 0, [181]),
  (8, .iload_n 1, 9, 0, 0, 0, 0, []),
  (9, .iload_n 2, 10, 0, 0, 0, 0, []),
  (10, .iload_n 3, 11, 0, 0, 0, 0, []),
  (11, .aload_n 0, 12, 0, 0, 0, 0, []),
  (12, .getfield 12, 15, 0, 0, 0, 0, [181]),
  (15, .getfield 88, 18, 1, 8, 0, 0, [50]),
  (18, .invokevirtual 227, 21, 227, 6, 0, 0, [3]),
  (21, .iconst 0, 22, 0, 0, 0, 0, []),
  (22, .istore 7, 24, 0, 0, 0, 0, []),
  (24, .iload 7, 26, 0, 0, 0, 0, []),
  (26, .iload 6, 28, 0, 0, 0, 0, []),
  (28, .if_icmp .ge 59, 31, 87, 0, 0, 0, []),
  (31, .aload_n 0, 32, 0, 0, 0, 0, []),
  (32, .getfield 32, 35, 0, 4, 0, 0, [185]),
  (35, .aload_n 0, 36, 0, 0, 0, 0, []),
  (36, .getfield 12, 39, 0, 0, 0, 0, [181]),
  (39, .iconst 1, 40, 0, 0, 1, 0, []),
  (40, .invokevirtual 231, 43, 231, 3, 0, 0, [3]),
  (43, .aload_n 0, 44, 0, 0, 0, 0, []),
  (44, .getfield 32, 47, 0, 4, 0, 0, [185]),
  (47, .getfield 147, 50, 3, 6, 0, 0, [134]),
  (50, .iload 7, 52, 0, 0, 0, 0, []),
  (52, .iconst 1, 53, 0, 0, 1, 0, []),
  (53, .iadd, 54, 0, 0, 0, 0, []),
  (54, .if_icmp .ne 25, 57, 79, 0, 0, 0, []),
  (57, .aload_n 0, 58, 0, 0, 0, 0, []),
  (58, .getfield 32, 61, 0, 4, 0, 0, [185]),
  (61, .getfield 153, 64, 3, 4, 0, 0, [131]),
  (64, .i2l, 65, 0, 0, 0, 0, []),
  (65, .aload 4, 67, 0, 0, 0, 0, []),
  (67, .iload 5, 69, 0, 0, 0, 0, []),
  (69, .iload 7, 71, 0, 0, 0, 0, []),
  (71, .iadd, 72, 0, 0, 0, 0, []),
  (72, .invokevirtual 235, 75, 235, 2, 0, 0, [5]),
  (75, .lcmp, 76, 0, 0, 0, 0, []),
  (76, .ifCond .eq 5, 79, 81, 0, 0, 0, []),
  (79, .iconst 0, 80, 0, 0, 0, 0, []),
  (80, .ireturn, 81, 0, 0, 0, 0, []),
  (81, .iinc 7 1, 84, 0, 0, 1, 0, []),
  (84, .goto (-60), 87, 24, 0, 0, 0, []),
  (87, .iconst 1, 88, 0, 0, 1, 0, []),
  (88, .ireturn, 89, 0, 0, 0, 0, [])]
def k_SH_itemAt : List am_E := [
  (0, .aload_n 0, 1, 0, 0, 0, 0, []),
  (1, .iload_n 1, 2, 0, 0, 0, 0, []),
  (2, .iconst 1, 3, 0, 0, 1, 0, []),
  (3, .invokevirtual 30, 6, 30, 3, 0, 0, [5]),
  (6, .ifCond .eq 12, 9, 18, 0, 0, 0, []),
  (9, .aload_n 0, 10, 0, 0, 0, 0, []),
  (10, .getfield 9, 13, 5, 0, 0, 0, [168]),
  (13, .iload_n 1, 14, 0, 0, 0, 0, []),
  (14, .laload, 15, 0, 0, 0, 0, []),
  (15, .goto 6, 18, 21, 0, 0, 0, []),
  (18, .ldc2_w 34, 21, 501, 0, 0, (-4), []),
  (21, .lreturn, 22, 0, 0, 0, 0, [])]
def k_RP_copy : List am_E := [
  (0, .iload_n 1, 1, 0, 0, 0, 0, []),
  (1, .iconst 4, 2, 0, 0, 4, 0, []),
  (2, .invokestatic 103, 5, 103, 2, 0, 0, []),
  (5, .ifCond .eq 11, 8, 16, 0, 0, 0, []),
  (8, .iload_n 3, 9, 0, 0, 0, 0, []),
  (9, .iconst 4, 10, 0, 0, 4, 0, []),
  (10, .invokestatic 103, 13, 103, 2, 0, 0, []),
  (13, .ifCond .ne 5, 16, 18, 0, 0, 0, []),
  (16, .iconst (-1), 17, 0, 0, (-1), 0, []),
  (17, .ireturn, 18, 0, 0, 0, 0, []),
  (18, .aload_n 0, 19, 0, 0, 0, 0, []),
  (19, .getfield 38, 22, 0, 5, 0, 0, [186]),
  (22, .iload_n 1, 23, 0, 0, 0, 0, []),
  (23, .aaload, 24, 0, 0, 0, 0, []),
  (24, .astore 6, 26, 0, 0, 0, 0, []),
  (26, .aload_n 0, 27, 0, 0, 0, 0, []),
  (27, .getfield 38, 30, 0, 5, 0, 0, [186]),
  (30, .iload_n 3, 31, 0, 0, 0, 0, []),
  (31, .aaload, 32, 0, 0, 0, 0, []),
  (32, .astore 7, 34, 0, 0, 0, 0, []),
  (34, .aload 6, 36, 0, 0, 0, 0, []),
  (36, .invokevirtual 203, 39, 203, 1, 0, 0, [5]),
  (39, .ifCond .ne 11, 42, 50, 0, 0, 0, []),
  (42, .aload 7, 44, 0, 0, 0, 0, []),
  (44, .invokevirtual 203, 47, 203, 1, 0, 0, [5]),
  (47, .ifCond .eq 6, 50, 53, 0, 0, 0, []),
  (50, .bipush (-11), 52, 0, 0, (-11), 0, []),
  (52, .ireturn, 53, 0, 0, 0, 0, []),
  (53, .aload 6, 55, 0, 0, 0, 0, []),
  (55, .getfield 210, 58, 5, 1, 0, 0, [171]),
  (58, .aload 7, 60, 0, 0, 0, 0, []),
  (60, .getfield 210, 63, 5, 1, 0, 0, [171]),
  (63, .if_icmp .eq 6, 66, 69, 0, 0, 0, []),
  (66, .bipush (-12), 68, 0, 0, (-12), 0, []),
  (68, .ireturn, 69, 0, 0, 0, 0, []),
  (69, .aload 6, 71, 0, 0, 0, 0, []),
  (71, .iload_n 2, 72, 0, 0, 0, 0, []),
  (72, .iload 5, 74, 0, 0, 0, 0, []),
  (74, .invokevirtual 184, 77, 184, 3, 0, 0, [5]),
  (77, .ifCond .eq 15, 80, 92, 0, 0, 0, []),
  (80, .aload 7, 82, 0, 0, 0, 0, []),
  (82, .iload 4, 84, 0, 0, 0, 0, []),
  (84, .iload 5, 86, 0, 0, 0, 0, []),
  (86, .invokevirtual 184, 89, 184, 3, 0, 0, [5]),
  (89, .ifCond .ne 6, 92, 95, 0, 0, 0, []),
  (92, .bipush (-13), 94, 0, 0, (-13), 0, []),
  (94, .ireturn, 95, 0, 0, 0, 0, []),
  (95, .aload 6, 97, 0, 0, 0, 0, []),
  (97, .getfield 213, 100, 5, 0, 0, 0, [169]),
  (100, .iload_n 2, 101, 0, 0, 0, 0, []),
  (101, .aload 7, 103, 0, 0, 0, 0, []),
  (103, .getfield 213, 106, 5, 0, 0, 0, [169]),
  (106, .iload 4, 108, 0, 0, 0, 0, []),
  (108, .iload 5, 110, 0, 0, 0, 0, []),
  (110, .invokestatic 217, 113, 217, 5, 0, 0, []),
  (113, .iload 5, 115, 0, 0, 0, 0, []),
  (115, .ireturn, 116, 0, 0, 0, 0, [])]
def k_RP_told : List am_E := [
  (0, .aload_n 0, 1, 0, 0, 0, 0, []),
  (1, .getfield 12, 4, 0, 0, 0, 0, [181]),
  (4, .iload_n 1, 5, 0, 0, 0, 0, []),
  (5, .invokevirtual 63, 8, 63, 2, 0, 0, [1]),
  (8, .ifCond .ne 5, 11, 13, 0, 0, 0, []),
  (11, .iconst (-1), 12, 0, 0, (-1), 0, []),
  (12, .ireturn, 13, 0, 0, 0, 0, []),
  (13, .iload_n 2, 14, 0, 0, 0, 0, []),
  (14, .tableswitch 72 0 3 #[30, 39, 48, 60], 44, 86, 30, 0, 0, [44, 53, 62, 74]),
  (44, .aload_n 0, 45, 0, 0, 0, 0, []),
  (45, .getfield 12, 48, 0, 0, 0, 0, [181]),
  (48, .iload_n 1, 49, 0, 0, 0, 0, []),
  (49, .invokevirtual 66, 52, 66, 2, 0, 0, [1]),
  (52, .ireturn, 53, 0, 0, 0, 0, []),
  (53, .aload_n 0, 54, 0, 0, 0, 0, []),
  (54, .getfield 12, 57, 0, 0, 0, 0, [181]),
  (57, .iload_n 1, 58, 0, 0, 0, 0, []),
  (58, .invokevirtual 70, 61, 70, 2, 0, 0, [1]),
  (61, .ireturn, 62, 0, 0, 0, 0, []),
  (62, .aload_n 0, 63, 0, 0, 0, 0, []),
  (63, .getfield 12, 66, 0, 0, 0, 0, [181]),
  (66, .getfield 73, 69, 1, 6, 0, 0, [47]),
  (69, .iload_n 1, 70, 0, 0, 0, 0, []),
  (70, .invokestatic 77, 73, 77, 2, 0, 0, []),
  (73, .ireturn, 74, 0, 0, 0, 0, []),
  (74, .aload_n 0, 75, 0, 0, 0, 0, []),
  (75, .getfield 12, 78, 0, 0, 0, 0, [181]),
  (78, .getfield 81, 81, 1, 7, 0, 0, [48]),
  (81, .iload_n 1, 82, 0, 0, 0, 0, []),
  (82, .invokestatic 77, 85, 77, 2, 0, 0, []),
  (85, .ireturn, 86, 0, 0, 0, 0, []),
  (86, .iconst (-1), 87, 0, 0, (-1), 0, []),
  (87, .ireturn, 88, 0, 0, 0, 0, [])]
def k_RD_lesserOf : List am_E := [
  (0, .aload_n 0, 1, 0, 0, 0, 0, []),
  (1, .iload_n 1, 2, 0, 0, 0, 0, []),
  (2, .invokevirtual 51, 5, 51, 2, 0, 0, [1]),
  (5, .ifCond .eq 12, 8, 17, 0, 0, 0, []),
  (8, .aload_n 0, 9, 0, 0, 0, 0, []),
  (9, .getfield 9, 12, 1, 0, 0, 0, [39]),
  (12, .iload_n 1, 13, 0, 0, 0, 0, []),
  (13, .iaload, 14, 0, 0, 0, 0, []),
  (14, .goto 4, 17, 18, 0, 0, 0, []),
  (17, .iconst 0, 18, 0, 0, 0, 0, []),
  (18, .ireturn, 19, 0, 0, 0, 0, [])]
def k_RD_greaterOf : List am_E := [
  (0, .aload_n 0, 1, 0, 0, 0, 0, []),
  (1, .iload_n 1, 2, 0, 0, 0, 0, []),
  (2, .invokevirtual 51, 5, 51, 2, 0, 0, [1]),
  (5, .ifCond .eq 12, 8, 17, 0, 0, 0, []),
  (8, .aload_n 0, 9, 0, 0, 0, 0, []),
  (9, .getfield 15, 12, 1, 1, 0, 0, [40]),
  (12, .iload_n 1, 13, 0, 0, 0, 0, []),
  (13, .iaload, 14, 0, 0, 0, 0, []),
  (14, .goto 4, 17, 18, 0, 0, 0, []),
  (17, .iconst 0, 18, 0, 0, 0, 0, []),
  (18, .ireturn, 19, 0, 0, 0, 0, [])]
def k_RP_of : List am_E := [
  (0, .iload_n 1, 1, 0, 0, 0, 0, []),
  (1, .invokestatic 47, 4, 47, 1, 0, 0, []),
  (4, .ifCond .eq 11, 7, 15, 0, 0, 0, []),
  (7, .iload_n 2, 8, 0, 0, 0, 0, []),
  (8, .iconst 2, 9, 0, 0, 2, 0, []),
  (9, .invokestatic 103, 12, 103, 2, 0, 0, []),
  (12, .ifCond .ne 5, 15, 17, 0, 0, 0, []),
  (15, .iconst (-1), 16, 0, 0, (-1), 0, []),
  (16, .ireturn, 17, 0, 0, 0, 0, []),
  (17, .aload_n 0, 18, 0, 0, 0, 0, []),
  (18, .getfield 12, 21, 0, 0, 0, 0, [181]),
  (21, .iload_n 1, 22, 0, 0, 0, 0, []),
  (22, .invokevirtual 96, 25, 96, 2, 0, 0, [1]),
  (25, .ifCond .ne 6, 28, 31, 0, 0, 0, []),
  (28, .bipush (-4), 30, 0, 0, (-4), 0, []),
  (30, .ireturn, 31, 0, 0, 0, 0, []),
  (31, .iload_n 2, 32, 0, 0, 0, 0, []),
  (32, .ifCond .ne 14, 35, 46, 0, 0, 0, []),
  (35, .aload_n 0, 36, 0, 0, 0, 0, []),
  (36, .getfield 12, 39, 0, 0, 0, 0, [181]),
  (39, .iload_n 1, 40, 0, 0, 0, 0, []),
  (40, .invokevirtual 106, 43, 106, 2, 0, 0, [1]),
  (43, .goto 11, 46, 54, 0, 0, 0, []),
  (46, .aload_n 0, 47, 0, 0, 0, 0, []),
  (47, .getfield 12, 50, 0, 0, 0, 0, [181]),
  (50, .iload_n 1, 51, 0, 0, 0, 0, []),
  (51, .invokevirtual 109, 54, 109, 2, 0, 0, [1]),
  (54, .ireturn, 55, 0, 0, 0, 0, [])]
def k_RD_sideOf : List am_E := [
  (0, .iload_n 1, 1, 0, 0, 0, 0, []),
  (1, .invokestatic 47, 4, 47, 1, 0, 0, []),
  (4, .ifCond .eq 12, 7, 16, 0, 0, 0, []),
  (7, .aload_n 0, 8, 0, 0, 0, 0, []),
  (8, .getfield 21, 11, 1, 3, 0, 0, [42]),
  (11, .iload_n 1, 12, 0, 0, 0, 0, []),
  (12, .iaload, 13, 0, 0, 0, 0, []),
  (13, .goto 4, 16, 17, 0, 0, 0, []),
  (16, .iconst 0, 17, 0, 0, 0, 0, []),
  (17, .ireturn, 18, 0, 0, 0, 0, [])]
def k_RP_read : List am_E := [
  (0, .iload_n 1, 1, 0, 0, 0, 0, []),
  (1, .invokestatic 47, 4, 47, 1, 0, 0, []),
  (4, .ifCond .eq 10, 7, 14, 0, 0, 0, []),
  (7, .iload_n 2, 8, 0, 0, 0, 0, []),
  (8, .invokestatic 47, 11, 47, 1, 0, 0, []),
  (11, .ifCond .ne 5, 14, 16, 0, 0, 0, []),
  (14, .iconst (-1), 15, 0, 0, (-1), 0, []),
  (15, .ireturn, 16, 0, 0, 0, 0, []),
  (16, .aload_n 0, 17, 0, 0, 0, 0, []),
  (17, .getfield 12, 20, 0, 0, 0, 0, [181]),
  (20, .iload_n 1, 21, 0, 0, 0, 0, []),
  (21, .iload_n 2, 22, 0, 0, 0, 0, []),
  (22, .invokevirtual 51, 25, 51, 3, 0, 0, [1]),
  (25, .ifCond .ne 6, 28, 31, 0, 0, 0, []),
  (28, .bipush (-2), 30, 0, 0, (-2), 0, []),
  (30, .ireturn, 31, 0, 0, 0, 0, []),
  (31, .aload_n 0, 32, 0, 0, 0, 0, []),
  (32, .getfield 12, 35, 0, 0, 0, 0, [181]),
  (35, .iload_n 1, 36, 0, 0, 0, 0, []),
  (36, .invokevirtual 96, 39, 96, 2, 0, 0, [1]),
  (39, .ifCond .ne 6, 42, 45, 0, 0, 0, []),
  (42, .bipush (-4), 44, 0, 0, (-4), 0, []),
  (44, .ireturn, 45, 0, 0, 0, 0, []),
  (45, .aload_n 0, 46, 0, 0, 0, 0, []),
  (46, .getfield 12, 49, 0, 0, 0, 0, [181]),
  (49, .iload_n 1, 50, 0, 0, 0, 0, []),
  (50, .iload_n 2, 51, 0, 0, 0, 0, []),
  (51, .aload_n 0, 52, 0, 0, 0, 0, []),
  (52, .getfield 12, 55, 0, 0, 0, 0, [181]),
  (55, .getfield 81, 58, 1, 7, 0, 0, [48]),
  (58, .invokevirtual 136, 61, 136, 4, 0, 0, [1]),
  (61, .ifCond .eq 7, 64, 68, 0, 0, 0, []),
  (64, .iconst 1, 65, 0, 0, 1, 0, []),
  (65, .goto 4, 68, 69, 0, 0, 0, []),
  (68, .iconst 0, 69, 0, 0, 0, 0, []),
  (69, .ireturn, 70, 0, 0, 0, 0, [])]
def k_RP_walk : List am_E := [
  (0, .iload_n 1, 1, 0, 0, 0, 0, []),
  (1, .invokestatic 140, 4, 140, 1, 0, 0, []),
  (4, .ifCond .eq 18, 7, 22, 0, 0, 0, []),
  (7, .iload_n 2, 8, 0, 0, 0, 0, []),
  (8, .invokestatic 47, 11, 47, 1, 0, 0, []),
  (11, .ifCond .eq 11, 14, 22, 0, 0, 0, []),
  (14, .iload_n 3, 15, 0, 0, 0, 0, []),
  (15, .iconst 3, 16, 0, 0, 3, 0, []),
  (16, .invokestatic 103, 19, 103, 2, 0, 0, []),
  (19, .ifCond .ne 5, 22, 24, 0, 0, 0, []),
  (22, .iconst (-1), 23, 0, 0, (-1), 0, []),
  (23, .ireturn, 24, 0, 0, 0, 0, []),
  (24, .aload_n 0, 25, 0, 0, 0, 0, []),
  (25, .iload_n 1, 26, 0, 0, 0, 0, []),
  (26, .iload_n 2, 27, 0, 0, 0, 0, []),
  (27, .ldc 143, 29, 543, 0, 32768, 0, []),
  (29, .invokevirtual 144, 32, 144, 4, 0, 0, [0]),
  (32, .iload_n 3, 33, 0, 0, 0, 0, []),
  (33, .lookupswitch 43 #[(0, 27), (1, 35)], 60, 76, 27, 0, 0, [60, 68]),
  (60, .aload_n 0, 61, 0, 0, 0, 0, []),
  (61, .getfield 32, 64, 0, 4, 0, 0, [185]),
  (64, .getfield 147, 67, 3, 6, 0, 0, [134]),
  (67, .ireturn, 68, 0, 0, 0, 0, []),
  (68, .aload_n 0, 69, 0, 0, 0, 0, []),
  (69, .getfield 32, 72, 0, 4, 0, 0, [185]),
  (72, .getfield 150, 75, 3, 7, 0, 0, [136]),
  (75, .ireturn, 76, 0, 0, 0, 0, []),
  (76, .aload_n 0, 77, 0, 0, 0, 0, []),
  (77, .getfield 32, 80, 0, 4, 0, 0, [185]),
  (80, .getfield 153, 83, 3, 4, 0, 0, [131]),
  (83, .ireturn, 84, 0, 0, 0, 0, [])]
def k_RP_travel : List am_E := [
  (0, .aload_n 0, 1, 0, 0, 0, 0, []),
  (1, .getfield 32, 4, 0, 4, 0, 0, [185]),
  (4, .aload_n 0, 5, 0, 0, 0, 0, []),
  (5, .getfield 12, 8, 0, 0, 0, 0, [181]),
  (8, .iload_n 1, 9, 0, 0, 0, 0, []),
  (9, .iload_n 2, 10, 0, 0, 0, 0, []),
  (10, .aload_n 0, 11, 0, 0, 0, 0, []),
  (11, .getfield 12, 14, 0, 0, 0, 0, [181]),
  (14, .getfield 81, 17, 1, 7, 0, 0, [48]),
  (17, .aload_n 0, 18, 0, 0, 0, 0, []),
  (18, .getfield 12, 21, 0, 0, 0, 0, [181]),
  (21, .getfield 88, 24, 1, 8, 0, 0, [50]),
  (24, .invokevirtual 227, 27, 227, 6, 0, 0, [3]),
  (27, .aload_n 0, 28, 0, 0, 0, 0, []),
  (28, .getfield 32, 31, 0, 4, 0, 0, [185]),
  (31, .aload_n 0, 32, 0, 0, 0, 0, []),
  (32, .getfield 12, 35, 0, 0, 0, 0, [181]),
  (35, .iload_n 3, 36, 0, 0, 0, 0, []),
  (36, .invokevirtual 231, 39, 231, 3, 0, 0, [3]),
  (39, .return_, 40, 0, 0, 0, 0, [])]
def k_RP_at : List am_E := [
  (0, .iload_n 1, 1, 0, 0, 0, 0, []),
  (1, .invokestatic 140, 4, 140, 1, 0, 0, []),
  (4, .ifCond .eq 20, 7, 24, 0, 0, 0, []),
  (7, .iload_n 2, 8, 0, 0, 0, 0, []),
  (8, .invokestatic 47, 11, 47, 1, 0, 0, []),
  (11, .ifCond .eq 13, 14, 24, 0, 0, 0, []),
  (14, .iload_n 3, 15, 0, 0, 0, 0, []),
  (15, .ifCond .lt 9, 18, 24, 0, 0, 0, []),
  (18, .iload_n 3, 19, 0, 0, 0, 0, []),
  (19, .bipush 99, 21, 0, 0, 99, 0, []),
  (21, .if_icmp .le 5, 24, 26, 0, 0, 0, []),
  (24, .iconst (-1), 25, 0, 0, (-1), 0, []),
  (25, .ireturn, 26, 0, 0, 0, 0, []),
  (26, .aload_n 0, 27, 0, 0, 0, 0, []),
  (27, .iload_n 1, 28, 0, 0, 0, 0, []),
  (28, .iload_n 2, 29, 0, 0, 0, 0, []),
  (29, .iload_n 3, 30, 0, 0, 0, 0, []),
  (30, .invokevirtual 144, 33, 144, 4, 0, 0, [0]),
  (33, .aload_n 0, 34, 0, 0, 0, 0, []),
  (34, .getfield 32, 37, 0, 4, 0, 0, [185]),
  (37, .getfield 147, 40, 3, 6, 0, 0, [134]),
  (40, .iload_n 3, 41, 0, 0, 0, 0, []),
  (41, .if_icmp .ge 8, 44, 49, 0, 0, 0, []),
  (44, .bipush (-4), 46, 0, 0, (-4), 0, []),
  (46, .goto 10, 49, 56, 0, 0, 0, []),
  (49, .aload_n 0, 50, 0, 0, 0, 0, []),
  (50, .getfield 32, 53, 0, 4, 0, 0, [185]),
  (53, .getfield 153, 56, 3, 4, 0, 0, [131]),
  (56, .ireturn, 57, 0, 0, 0, 0, [])]
def k_RP_shut : List am_E := [
  (0, .iload_n 1, 1, 0, 0, 0, 0, []),
  (1, .invokestatic 140, 4, 140, 1, 0, 0, []),
  (4, .ifCond .eq 10, 7, 14, 0, 0, 0, []),
  (7, .iload_n 2, 8, 0, 0, 0, 0, []),
  (8, .invokestatic 47, 11, 47, 1, 0, 0, []),
  (11, .ifCond .ne 5, 14, 16, 0, 0, 0, []),
  (14, .iconst (-1), 15, 0, 0, (-1), 0, []),
  (15, .ireturn, 16, 0, 0, 0, 0, []),
  (16, .aload_n 0, 17, 0, 0, 0, 0, []),
  (17, .iload_n 1, 18, 0, 0, 0, 0, []),
  (18, .iload_n 2, 19, 0, 0, 0, 0, []),
  (19, .ldc 143, 21, 543, 0, 32768, 0, []),
  (21, .invokevirtual 144, 24, 144, 4, 0, 0, [0]),
  (24, .aload_n 0, 25, 0, 0, 0, 0, []),
  (25, .getfield 32, 28, 0, 4, 0, 0, [185]),
  (28, .getfield 156, 31, 3, 8, 0, 0, [138]),
  (31, .ireturn, 32, 0, 0, 0, 0, [])]
def k_RP_worst : List am_E := [
  (0, .iload_n 1, 1, 0, 0, 0, 0, []),
  (1, .invokestatic 47, 4, 47, 1, 0, 0, []),
  (4, .ifCond .ne 5, 7, 9, 0, 0, 0, []),
  (7, .iconst (-1), 8, 0, 0, (-1), 0, []),
  (8, .ireturn, 9, 0, 0, 0, 0, []),
  (9, .iload_n 1, 10, 0, 0, 0, 0, []),
  (10, .istore_n 2, 11, 0, 0, 0, 0, []),
  (11, .iconst 0, 12, 0, 0, 0, 0, []),
  (12, .istore_n 3, 13, 0, 0, 0, 0, []),
  (13, .iload_n 2, 14, 0, 0, 0, 0, []),
  (14, .aload_n 0, 15, 0, 0, 0, 0, []),
  (15, .getfield 12, 18, 0, 0, 0, 0, [181]),
  (18, .getfield 112, 21, 1, 9, 0, 0, [54]),
  (21, .if_icmp .eq 41, 24, 62, 0, 0, 0, []),
  (24, .iload_n 3, 25, 0, 0, 0, 0, []),
  (25, .bipush 8, 27, 0, 0, 8, 0, []),
  (27, .if_icmp .ge 35, 30, 62, 0, 0, 0, []),
  (30, .aload_n 0, 31, 0, 0, 0, 0, []),
  (31, .getfield 12, 34, 0, 0, 0, 0, [181]),
  (34, .getfield 159, 37, 1, 11, 0, 0, [58]),
  (37, .iload_n 2, 38, 0, 0, 0, 0, []),
  (38, .aload_n 0, 39, 0, 0, 0, 0, []),
  (39, .getfield 12, 42, 0, 0, 0, 0, [181]),
  (42, .getfield 112, 45, 1, 9, 0, 0, [54]),
  (45, .invokestatic 163, 48, 163, 3, 0, 0, []),
  (48, .istore_n 2, 49, 0, 0, 0, 0, []),
  (49, .iload_n 2, 50, 0, 0, 0, 0, []),
  (50, .ifCond .ge 6, 53, 56, 0, 0, 0, []),
  (53, .bipush (-4), 55, 0, 0, (-4), 0, []),
  (55, .ireturn, 56, 0, 0, 0, 0, []),
  (56, .iinc 3 1, 59, 0, 0, 1, 0, []),
  (59, .goto (-46), 62, 13, 0, 0, 0, []),
  (62, .iload_n 3, 63, 0, 0, 0, 0, []),
  (63, .ireturn, 64, 0, 0, 0, 0, [])]
def k_RP_next : List am_E := [
  (0, .iload_n 1, 1, 0, 0, 0, 0, []),
  (1, .invokestatic 47, 4, 47, 1, 0, 0, []),
  (4, .ifCond .ne 5, 7, 9, 0, 0, 0, []),
  (7, .iconst (-1), 8, 0, 0, (-1), 0, []),
  (8, .ireturn, 9, 0, 0, 0, 0, []),
  (9, .iload_n 1, 10, 0, 0, 0, 0, []),
  (10, .aload_n 0, 11, 0, 0, 0, 0, []),
  (11, .getfield 12, 14, 0, 0, 0, 0, [181]),
  (14, .getfield 112, 17, 1, 9, 0, 0, [54]),
  (17, .if_icmp .ne 7, 20, 24, 0, 0, 0, []),
  (20, .iconst (-1), 21, 0, 0, (-1), 0, []),
  (21, .goto 21, 24, 42, 0, 0, 0, []),
  (24, .aload_n 0, 25, 0, 0, 0, 0, []),
  (25, .getfield 12, 28, 0, 0, 0, 0, [181]),
  (28, .getfield 159, 31, 1, 11, 0, 0, [58]),
  (31, .iload_n 1, 32, 0, 0, 0, 0, []),
  (32, .aload_n 0, 33, 0, 0, 0, 0, []),
  (33, .getfield 12, 36, 0, 0, 0, 0, [181]),
  (36, .getfield 112, 39, 1, 9, 0, 0, [54]),
  (39, .invokestatic 163, 42, 163, 3, 0, 0, []),
  (42, .istore_n 2, 43, 0, 0, 0, 0, []),
  (43, .iload_n 2, 44, 0, 0, 0, 0, []),
  (44, .ifCond .ge 8, 47, 52, 0, 0, 0, []),
  (47, .bipush (-4), 49, 0, 0, (-4), 0, []),
  (49, .goto 4, 52, 53, 0, 0, 0, []),
  (52, .iload_n 2, 53, 0, 0, 0, 0, []),
  (53, .ireturn, 54, 0, 0, 0, 0, [])]
def k_RP_struck : List am_E := [
  (0, .iload_n 1, 1, 0, 0, 0, 0, []),
  (1, .invokestatic 140, 4, 140, 1, 0, 0, []),
  (4, .ifCond .eq 18, 7, 22, 0, 0, 0, []),
  (7, .iload_n 2, 8, 0, 0, 0, 0, []),
  (8, .invokestatic 47, 11, 47, 1, 0, 0, []),
  (11, .ifCond .eq 11, 14, 22, 0, 0, 0, []),
  (14, .iload_n 3, 15, 0, 0, 0, 0, []),
  (15, .iconst 2, 16, 0, 0, 2, 0, []),
  (16, .invokestatic 103, 19, 103, 2, 0, 0, []),
  (19, .ifCond .ne 5, 22, 24, 0, 0, 0, []),
  (22, .iconst (-1), 23, 0, 0, (-1), 0, []),
  (23, .ireturn, 24, 0, 0, 0, 0, []),
  (24, .iconst 0, 25, 0, 0, 0, 0, []),
  (25, .istore 4, 27, 0, 0, 0, 0, []),
  (27, .iload 4, 29, 0, 0, 0, 0, []),
  (29, .aload_n 0, 30, 0, 0, 0, 0, []),
  (30, .getfield 12, 33, 0, 0, 0, 0, [181]),
  (33, .getfield 88, 36, 1, 8, 0, 0, [50]),
  (36, .invokestatic 91, 39, 91, 1, 0, 0, []),
  (39, .if_icmp .gt 37, 42, 76, 0, 0, 0, []),
  (42, .aload_n 0, 43, 0, 0, 0, 0, []),
  (43, .iload_n 1, 44, 0, 0, 0, 0, []),
  (44, .iload_n 2, 45, 0, 0, 0, 0, []),
  (45, .iload_n 3, 46, 0, 0, 0, 0, []),
  (46, .iconst 1, 47, 0, 0, 1, 0, []),
  (47, .if_icmp .ne 7, 50, 54, 0, 0, 0, []),
  (50, .iconst 1, 51, 0, 0, 1, 0, []),
  (51, .goto 4, 54, 55, 0, 0, 0, []),
  (54, .iconst 0, 55, 0, 0, 0, 0, []),
  (55, .iload 4, 57, 0, 0, 0, 0, []),
  (57, .invokevirtual 169, 60, 169, 5, 0, 0, [0]),
  (60, .istore 5, 62, 0, 0, 0, 0, []),
  (62, .iload 5, 64, 0, 0, 0, 0, []),
  (64, .ifCond .lt 6, 67, 70, 0, 0, 0, []),
  (67, .iload 5, 69, 0, 0, 0, 0, []),
  (69, .ireturn, 70, 0, 0, 0, 0, []),
  (70, .iinc 4 1, 73, 0, 0, 1, 0, []),
  (73, .goto (-46), 76, 27, 0, 0, 0, []),
  (76, .bipush (-4), 78, 0, 0, (-4), 0, []),
  (78, .ireturn, 79, 0, 0, 0, 0, [])]
def k_RP_struckOfSize : List am_E := [
  (0, .iconst 0, 1, 0, 0, 0, 0, []),
  (1, .istore 5, 3, 0, 0, 0, 0, []),
  (3, .iload 5, 5, 0, 0, 0, 0, []),
  (5, .sipush 256, 8, 0, 0, 256, 0, []),
  (8, .if_icmp .ge 104, 11, 112, 0, 0, 0, []),
  (11, .iload 5, 13, 0, 0, 0, 0, []),
  (13, .aload_n 0, 14, 0, 0, 0, 0, []),
  (14, .getfield 12, 17, 0, 0, 0, 0, [181]),
  (17, .getfield 88, 20, 1, 8, 0, 0, [50]),
  (20, .iconst (-1), 21, 0, 0, (-1), 0, []),
  (21, .ixor, 22, 0, 0, 0, 0, []),
  (22, .iand, 23, 0, 0, 0, 0, []),
  (23, .ifCond .ne 83, 26, 106, 0, 0, 0, []),
  (26, .iload 5, 28, 0, 0, 0, 0, []),
  (28, .invokestatic 91, 31, 91, 1, 0, 0, []),
  (31, .iload 4, 33, 0, 0, 0, 0, []),
  (33, .if_icmp .eq 6, 36, 39, 0, 0, 0, []),
  (36, .goto 70, 39, 106, 0, 0, 0, []),
  (39, .aload_n 0, 40, 0, 0, 0, 0, []),
  (40, .getfield 32, 43, 0, 4, 0, 0, [185]),
  (43, .aload_n 0, 44, 0, 0, 0, 0, []),
  (44, .getfield 12, 47, 0, 0, 0, 0, [181]),
  (47, .iload_n 1, 48, 0, 0, 0, 0, []),
  (48, .iload_n 2, 49, 0, 0, 0, 0, []),
  (49, .aload_n 0, 50, 0, 0, 0, 0, []),
  (50, .getfield 12, 53, 0, 0, 0, 0, [181]),
  (53, .getfield 81, 56, 1, 7, 0, 0, [48]),
  (56, .aload_n 0, 57, 0, 0, 0, 0, []),
  (57, .getfield 12, 60, 0, 0, 0, 0, [181]),
  (60, .getfield 88, 63, 1, 8, 0, 0, [50]),
  (63, .iload 5, 65, 0, 0, 0, 0, []),
  (65, .iconst (-1), 66, 0, 0, (-1), 0, []),
  (66, .ixor, 67, 0, 0, 0, 0, []),
  (67, .iand, 68, 0, 0, 0, 0, []),
  (68, .invokevirtual 227, 71, 227, 6, 0, 0, [3]),
  (71, .aload_n 0, 72, 0, 0, 0, 0, []),
  (72, .getfield 32, 75, 0, 4, 0, 0, [185]),
  (75, .aload_n 0, 76, 0, 0, 0, 0, []),
  (76, .getfield 12, 79, 0, 0, 0, 0, [181]),
  (79, .ldc 143, 81, 543, 0, 32768, 0, []),
  (81, .invokevirtual 231, 84, 231, 3, 0, 0, [3]),
  (84, .aload_n 0, 85, 0, 0, 0, 0, []),
  (85, .getfield 32, 88, 0, 4, 0, 0, [185]),
  (88, .getfield 150, 91, 3, 7, 0, 0, [136]),
  (91, .ifCond .ne 7, 94, 98, 0, 0, 0, []),
  (94, .iconst 1, 95, 0, 0, 1, 0, []),
  (95, .goto 4, 98, 99, 0, 0, 0, []),
  (98, .iconst 0, 99, 0, 0, 0, 0, []),
  (99, .iload_n 3, 100, 0, 0, 0, 0, []),
  (100, .if_icmp .ne 6, 103, 106, 0, 0, 0, []),
  (103, .iload 5, 105, 0, 0, 0, 0, []),
  (105, .ireturn, 106, 0, 0, 0, 0, []),
  (106, .iinc 5 1, 109, 0, 0, 1, 0, []),
  (109, .goto (-106), 112, 3, 0, 0, 0, []),
  (112, .iconst (-1), 113, 0, 0, (-1), 0, []),
  (113, .ireturn, 114, 0, 0, 0, 0, [])]
def k_RP_drop : List am_E := [
  (0, .iload_n 1, 1, 0, 0, 0, 0, []),
  (1, .iconst 4, 2, 0, 0, 4, 0, []),
  (2, .invokestatic 103, 5, 103, 2, 0, 0, []),
  (5, .ifCond .ne 5, 8, 10, 0, 0, 0, []),
  (8, .iconst (-1), 9, 0, 0, (-1), 0, []),
  (9, .ireturn, 10, 0, 0, 0, 0, []),
  (10, .aload_n 0, 11, 0, 0, 0, 0, []),
  (11, .getfield 38, 14, 0, 5, 0, 0, [186]),
  (14, .iload_n 1, 15, 0, 0, 0, 0, []),
  (15, .aaload, 16, 0, 0, 0, 0, []),
  (16, .astore_n 2, 17, 0, 0, 0, 0, []),
  (17, .aload_n 2, 18, 0, 0, 0, 0, []),
  (18, .invokevirtual 203, 21, 203, 1, 0, 0, [5]),
  (21, .ifCond .eq 6, 24, 27, 0, 0, 0, []),
  (24, .bipush (-11), 26, 0, 0, (-11), 0, []),
  (26, .ireturn, 27, 0, 0, 0, 0, []),
  (27, .aload_n 2, 28, 0, 0, 0, 0, []),
  (28, .getfield 207, 31, 5, 2, 0, 0, [173]),
  (31, .istore_n 3, 32, 0, 0, 0, 0, []),
  (32, .aload_n 2, 33, 0, 0, 0, 0, []),
  (33, .iconst (-1), 34, 0, 0, (-1), 0, []),
  (34, .iconst 0, 35, 0, 0, 0, 0, []),
  (35, .invokevirtual 208, 38, 208, 3, 0, 0, [5]),
  (38, .iload_n 3, 39, 0, 0, 0, 0, []),
  (39, .ireturn, 40, 0, 0, 0, 0, [])]
def k_RP_item : List am_E := [
  (0, .iload_n 1, 1, 0, 0, 0, 0, []),
  (1, .iconst 4, 2, 0, 0, 4, 0, []),
  (2, .invokestatic 103, 5, 103, 2, 0, 0, []),
  (5, .ifCond .eq 11, 8, 16, 0, 0, 0, []),
  (8, .iload_n 2, 9, 0, 0, 0, 0, []),
  (9, .iconst 3, 10, 0, 0, 3, 0, []),
  (10, .invokestatic 103, 13, 103, 2, 0, 0, []),
  (13, .ifCond .ne 5, 16, 18, 0, 0, 0, []),
  (16, .iconst (-1), 17, 0, 0, (-1), 0, []),
  (17, .ireturn, 18, 0, 0, 0, 0, []),
  (18, .aload_n 0, 19, 0, 0, 0, 0, []),
  (19, .getfield 38, 22, 0, 5, 0, 0, [186]),
  (22, .iload_n 1, 23, 0, 0, 0, 0, []),
  (23, .aaload, 24, 0, 0, 0, 0, []),
  (24, .astore 6, 26, 0, 0, 0, 0, []),
  (26, .aload 6, 28, 0, 0, 0, 0, []),
  (28, .iload_n 2, 29, 0, 0, 0, 0, []),
  (29, .invokevirtual 181, 32, 181, 2, 0, 0, [5]),
  (32, .istore 7, 34, 0, 0, 0, 0, []),
  (34, .iload 7, 36, 0, 0, 0, 0, []),
  (36, .ifCond .eq 6, 39, 42, 0, 0, 0, []),
  (39, .iload 7, 41, 0, 0, 0, 0, []),
  (41, .ireturn, 42, 0, 0, 0, 0, []),
  (42, .aload 6, 44, 0, 0, 0, 0, []),
  (44, .iload_n 3, 45, 0, 0, 0, 0, []),
  (45, .iconst 1, 46, 0, 0, 1, 0, []),
  (46, .invokevirtual 184, 49, 184, 3, 0, 0, [5]),
  (49, .ifCond .ne 6, 52, 55, 0, 0, 0, []),
  (52, .bipush (-13), 54, 0, 0, (-13), 0, []),
  (54, .ireturn, 55, 0, 0, 0, 0, []),
  (55, .aload 6, 57, 0, 0, 0, 0, []),
  (57, .iload_n 3, 58, 0, 0, 0, 0, []),
  (58, .lload 4, 60, 0, 0, 0, 0, []),
  (60, .invokevirtual 195, 63, 195, 3, 0, 0, [5]),
  (63, .iconst 1, 64, 0, 0, 1, 0, []),
  (64, .ireturn, 65, 0, 0, 0, 0, [])]
end
section
/-! numbers and bits (its first two families out of kit/laws/BITS.to-paste) -/
/-! ===== Int32 by its bits: bt x i ===== -/
def bt (x : Int32) (i : Nat) : Bool := x.toBitVec.getLsbD i
theorem b_ext {x y : Int32} (h : ∀ i, i < 32 → bt x i = bt y i) : x = y := Int32.toBitVec_inj.mp (BitVec.eq_of_getLsbD_eq (fun i hi => h i hi))
theorem b_or (x y : Int32) (i : Nat) : bt (x ||| y) i = (bt x i || bt y i) := by unfold bt; rw [Int32.toBitVec_or, BitVec.getLsbD_or]
theorem b_and (x y : Int32) (i : Nat) : bt (x &&& y) i = (bt x i && bt y i) := by unfold bt; rw [Int32.toBitVec_and, BitVec.getLsbD_and]
theorem b_xor (x y : Int32) (i : Nat) : bt (x ^^^ y) i = (bt x i ^^ bt y i) := by unfold bt; rw [Int32.toBitVec_xor, BitVec.getLsbD_xor]
theorem b_big {x : Int32} {i : Nat} (h : 32 ≤ i) : bt x i = false := BitVec.getLsbD_of_ge _ _ h
theorem b_255 (i : Nat) : bt 255 i = decide (i < 8) := by
  rcases Nat.lt_or_ge i 32 with h | h
  · exact (by decide +kernel : ∀ i, i < 32 → bt 255 i = decide (i < 8)) i h
  · rw [b_big h, decide_eq_false (by omega)]
theorem b_65535 (i : Nat) : bt 65535 i = decide (i < 16) := by
  rcases Nat.lt_or_ge i 32 with h | h
  · exact (by decide +kernel : ∀ i, i < 32 → bt 65535 i = decide (i < 16)) i h
  · rw [b_big h, decide_eq_false (by omega)]
theorem b_m1 : ∀ i, i < 32 → bt (-1) i = true := by decide +kernel
theorem b_0 (i : Nat) : bt 0 i = false := BitVec.getLsbD_zero
theorem s_l : ∀ n, n < 32 → ((nI n &&& 31).toBitVec.smod 32).toNat = n := by decide +kernel
theorem s_u : ∀ n, n < 32 → (((nI n).toUInt32 &&& Int32.toUInt32 31).toBitVec % 32).toNat = n := by decide +kernel
theorem b_shl (n : Nat) (hn : n < 32) (x : Int32) {i : Nat} (hi : i < 32) : bt (x <<< (nI n &&& 31)) i = (decide (n ≤ i) && bt x (i - n)) := by
  unfold bt
  rw [Int32.toBitVec_shiftLeft]
  show (x.toBitVec <<< ((nI n &&& 31).toBitVec.smod 32).toNat).getLsbD i = _
  rw [s_l n hn, BitVec.getLsbD_shiftLeft]
  rcases Nat.lt_or_ge i n with h | h
  · simp [h, Nat.not_le.mpr h]
  · simp [hi, h, Nat.not_lt.mpr h]
theorem b_ushr (n : Nat) (hn : n < 32) (x : Int32) (i : Nat) : bt ((x.toUInt32 >>> ((nI n).toUInt32 &&& Int32.toUInt32 31)).toInt32) i = bt x (n + i) := by
  show (x.toUInt32 >>> ((nI n).toUInt32 &&& Int32.toUInt32 31)).toBitVec.getLsbD i = x.toUInt32.toBitVec.getLsbD (n + i)
  rw [UInt32.toBitVec_shiftRight]
  show (x.toUInt32.toBitVec >>> (((nI n).toUInt32 &&& Int32.toUInt32 31).toBitVec % 32).toNat).getLsbD i = _
  rw [s_u n hn, BitVec.getLsbD_ushiftRight]
theorem b_sshr (n : Nat) (hn : n < 32) (x : Int32) {i : Nat} (hi : i < 32) : bt (x >>> (nI n &&& 31)) i = if n + i < 32 then bt x (n + i) else bt x 31 := by
  unfold bt
  rw [Int32.toBitVec_shiftRight]
  show (x.toBitVec.sshiftRight ((nI n &&& 31).toBitVec.smod 32).toNat).getLsbD i = _
  rw [s_l n hn, BitVec.getLsbD_sshiftRight, BitVec.msb_eq_getLsbD_last]
  simp [hi]
theorem b_shl8 (x : Int32) {i : Nat} (hi : i < 32) : bt (x <<< ((8 : Int32) &&& 31)) i = (decide (8 ≤ i) && bt x (i - 8)) := b_shl 8 (by omega) x hi
theorem b_shl16 (x : Int32) {i : Nat} (hi : i < 32) : bt (x <<< ((16 : Int32) &&& 31)) i = (decide (16 ≤ i) && bt x (i - 16)) := b_shl 16 (by omega) x hi
theorem b_shl24 (x : Int32) {i : Nat} (hi : i < 32) : bt (x <<< ((24 : Int32) &&& 31)) i = (decide (24 ≤ i) && bt x (i - 24)) := b_shl 24 (by omega) x hi
theorem b_sshr8 (x : Int32) {i : Nat} (hi : i < 32) : bt (x >>> ((8 : Int32) &&& 31)) i = if 8 + i < 32 then bt x (8 + i) else bt x 31 := b_sshr 8 (by omega) x hi
/-! ===== nI under and, xor, >>>, one bit, 65535 ===== -/
theorem nx_and (a b : Nat) : nI a &&& nI b = nI (a &&& b) := by
  apply Int32.toBitVec_inj.1
  show BitVec.ofNat 32 a &&& BitVec.ofNat 32 b = BitVec.ofNat 32 (a &&& b)
  apply BitVec.eq_of_getLsbD_eq
  intro i hi
  simp [hi]
theorem nx_xor (a b : Nat) : nI a ^^^ nI b = nI (a ^^^ b) := by
  apply Int32.toBitVec_inj.1
  show BitVec.ofNat 32 a ^^^ BitVec.ofNat 32 b = BitVec.ofNat 32 (a ^^^ b)
  apply BitVec.eq_of_getLsbD_eq
  intro i hi
  simp [hi]
theorem nx_cnt : ∀ j : Fin 32, (UInt32.ofNat j.val &&& Int32.toUInt32 31).toNat % 32 = j.val := by decide +kernel
theorem nx_ush {k j : Nat} (hk : k < 65536) (hj : j < 32) : ((nI k).toUInt32 >>> ((nI j).toUInt32 &&& Int32.toUInt32 31)).toInt32 = nI (k >>> j) := by
  have hs : k >>> j ≤ k := by
    rw [Nat.shiftRight_eq_div_pow]
    exact Nat.div_le_self _ _
  have e2 : UInt32.ofNat k >>> (UInt32.ofNat j &&& Int32.toUInt32 31) = UInt32.ofNat (k >>> j) := by
    apply UInt32.toNat_inj.1
    have h1 : (UInt32.ofNat k).toNat = k := Nat.mod_eq_of_lt (by omega)
    have h2 : (UInt32.ofNat (k >>> j)).toNat = k >>> j := Nat.mod_eq_of_lt (by omega)
    rw [UInt32.toNat_shiftRight, nx_cnt ⟨j, hj⟩, h1, h2]
  show (UInt32.ofNat k >>> (UInt32.ofNat j &&& Int32.toUInt32 31)).toInt32 = _
  rw [e2]
  rfl
theorem nx_bit {k j : Nat} (hk : k < 65536) (hj : j < 16) : (((nI k).toUInt32 >>> ((nI j).toUInt32 &&& Int32.toUInt32 31)).toInt32 &&& 1) = 0 ↔ k.testBit j = false := by
  rw [nx_ush hk (by omega)]
  show nI (k >>> j) &&& nI 1 = 0 ↔ _
  rw [nx_and, Nat.and_one_is_mod, ← nI_0, nI_eq (by omega) (by omega), Nat.testBit_eq_decide_div_mod_eq, Nat.shiftRight_eq_div_pow, decide_eq_false_iff_not]
  generalize k / 2 ^ j = z
  omega
theorem nx_mod (k : Nat) : nI k &&& 65535 = nI (k % 65536) := by
  show nI k &&& nI 65535 = _
  rw [nx_and, show (65535 : Nat) = 2 ^ 16 - 1 from rfl, Nat.and_two_pow_sub_one_eq_mod]
theorem nx_m16 {k : Nat} (h : k < 65536) : nI k &&& 65535 = nI k := by rw [nx_mod, Nat.mod_eq_of_lt h]
theorem nx_mask (x : Int32) : ∃ k, k < 65536 ∧ x &&& 65535 = nI k := by
  have e : x = nI x.toBitVec.toNat := by
    apply Int32.toBitVec_inj.1
    show x.toBitVec = BitVec.ofNat 32 x.toBitVec.toNat
    simp
  refine ⟨x.toBitVec.toNat % 65536, Nat.mod_lt _ (by omega), ?_⟩
  rw [← nx_mod, ← e]

def am_b (P : Prop) [Decidable P] : Int32 := if P then 1 else 0
theorem am_b1 {P : Prop} [Decidable P] (h : P) : am_b P = 1 := if_pos h
theorem am_b0 {P : Prop} [Decidable P] (h : ¬ P) : am_b P = 0 := if_neg h
theorem am_bz {P : Prop} [Decidable P] : am_b P = 0 ↔ ¬ P := by
  by_cases h : P
  · rw [am_b1 h]; exact ⟨fun q => absurd q (by decide), fun q => absurd h q⟩
  · rw [am_b0 h]; exact ⟨fun _ => h, fun _ => rfl⟩
theorem am_bo {P : Prop} [Decidable P] : am_b P = 1 ↔ P := by
  by_cases h : P
  · rw [am_b1 h]; exact ⟨fun _ => h, fun _ => rfl⟩
  · rw [am_b0 h]; exact ⟨fun q => absurd q (by decide), fun q => absurd q h⟩
theorem am_bb {P : Prop} [Decidable P] : am_b P = 0 ∨ am_b P = 1 := by
  by_cases h : P
  · exact Or.inr (am_b1 h)
  · exact Or.inl (am_b0 h)
theorem am_bc {P Q : Prop} [Decidable P] [Decidable Q] (h : P ↔ Q) : am_b P = am_b Q := by
  by_cases hp : P
  · rw [am_b1 hp, am_b1 (h.mp hp)]
  · rw [am_b0 hp, am_b0 (fun q => hp (h.mpr q))]
theorem bt_nI (m i : Nat) (h : i < 32) : bt (nI m) i = m.testBit i := by
  unfold bt nI
  show (BitVec.ofNat 32 m).getLsbD i = _
  rw [BitVec.getLsbD_ofNat, decide_eq_true h, Bool.true_and]
theorem bt_1 (i : Nat) : bt 1 i = decide (i = 0) := by
  rcases Nat.lt_or_ge i 32 with h | h
  · exact (by decide +kernel : ∀ i, i < 32 → bt 1 i = decide (i = 0)) i h
  · rw [b_big h, decide_eq_false (by omega)]
theorem bt_one {k i : Nat} (hk : k < 32) (hi : i < 32) : bt ((1 : Int32) <<< (nI k &&& 31)) i = decide (i = k) := by
  rw [b_shl k hk 1 hi, bt_1]
  by_cases h : i = k
  · simp [h]
  · by_cases h2 : k ≤ i
    · have : ¬ i - k = 0 := by omega
      simp [h, this]
    · simp [h, h2]
theorem bt_not {x : Int32} {i : Nat} (hi : i < 32) : bt (x ^^^ (-1)) i = !bt x i := by
  rw [b_xor, b_m1 i hi]; cases bt x i <;> rfl
/-- one bit, as the class and the reference ask for it -/
def f_bit (s e : Int32) : Int32 := (s.toUInt32 >>> (e.toUInt32 &&& Int32.toUInt32 31)).toInt32 &&& 1
theorem f_bit_eq (s : Int32) {k : Nat} (hk : k < 32) : f_bit s (nI k) = am_b (bt s k = true) := by
  apply b_ext
  intro i hi
  unfold f_bit
  rw [b_and, b_ushr k hk, bt_1]
  by_cases h : i = 0
  · subst h
    cases hb : bt s k
    · rw [am_b0 (by simp), b_0]; simp [hb]
    · rw [am_b1 rfl, bt_1]; simp [hb]
  · rw [decide_eq_false h, Bool.and_false]
    cases hb : bt s k
    · rw [am_b0 (by simp), b_0]
    · rw [am_b1 rfl, bt_1, decide_eq_false h]
theorem has_eq (s : Int32) {k : Nat} (hk : k < 32) : (s >>> (nI k &&& 31)) &&& 1 = am_b (bt s k = true) := by
  apply b_ext
  intro i hi
  rw [b_and, b_sshr k hk s hi, bt_1]
  by_cases h : i = 0
  · subst h
    rw [if_pos (by omega)]
    cases hb : bt s k
    · rw [am_b0 (by simp), b_0]; simp [hb]
    · rw [am_b1 rfl, bt_1]; simp [hb]
  · rw [decide_eq_false h, Bool.and_false]
    cases hb : bt s k
    · rw [am_b0 (by simp), b_0]
    · rw [am_b1 rfl, bt_1, decide_eq_false h]
/-! longs by their bits -/
def bl (x : Int64) (i : Nat) : Bool := x.toBitVec.getLsbD i
theorem bl_ext {x y : Int64} (h : ∀ i, i < 64 → bl x i = bl y i) : x = y := Int64.toBitVec_inj.mp (BitVec.eq_of_getLsbD_eq (fun i hi => h i hi))
theorem bl_or (x y : Int64) (i : Nat) : bl (x ||| y) i = (bl x i || bl y i) := by unfold bl; rw [Int64.toBitVec_or, BitVec.getLsbD_or]
theorem bl_and (x y : Int64) (i : Nat) : bl (x &&& y) i = (bl x i && bl y i) := by unfold bl; rw [Int64.toBitVec_and, BitVec.getLsbD_and]
theorem bl_xor (x y : Int64) (i : Nat) : bl (x ^^^ y) i = (bl x i ^^ bl y i) := by unfold bl; rw [Int64.toBitVec_xor, BitVec.getLsbD_xor]
theorem bl_big {x : Int64} {i : Nat} (h : 64 ≤ i) : bl x i = false := BitVec.getLsbD_of_ge _ _ h
theorem bl_0 (i : Nat) : bl 0 i = false := BitVec.getLsbD_zero
theorem bl_m1 : ∀ i, i < 64 → bl (-1) i = true := by decide +kernel
theorem bl_not {x : Int64} {i : Nat} (hi : i < 64) : bl (x ^^^ (-1)) i = !bl x i := by
  rw [bl_xor, bl_m1 i hi]; cases bl x i <;> rfl
theorem bl_1 (i : Nat) : bl 1 i = decide (i = 0) := by
  rcases Nat.lt_or_ge i 64 with h | h
  · exact (by decide +kernel : ∀ i, i < 64 → bl 1 i = decide (i = 0)) i h
  · rw [bl_big h, decide_eq_false (by omega)]
theorem sl_l : ∀ n, n < 64 → (((nI n).toInt64 &&& 63).toBitVec.smod 64).toNat = n := by decide +kernel
theorem sl_u : ∀ n, n < 64 → (((nI n).toInt64.toUInt64 &&& Int64.toUInt64 63).toBitVec % 64).toNat = n := by decide +kernel
theorem bl_shl (n : Nat) (hn : n < 64) (x : Int64) {i : Nat} (hi : i < 64) : bl (x <<< ((nI n).toInt64 &&& 63)) i = (decide (n ≤ i) && bl x (i - n)) := by
  unfold bl
  rw [Int64.toBitVec_shiftLeft]
  show (x.toBitVec <<< (((nI n).toInt64 &&& 63).toBitVec.smod 64).toNat).getLsbD i = _
  rw [sl_l n hn, BitVec.getLsbD_shiftLeft]
  rcases Nat.lt_or_ge i n with h | h
  · simp [h, Nat.not_le.mpr h]
  · simp [hi, h, Nat.not_lt.mpr h]
theorem bl_ushr (n : Nat) (hn : n < 64) (x : Int64) (i : Nat) : bl ((x.toUInt64 >>> ((nI n).toInt64.toUInt64 &&& Int64.toUInt64 63)).toInt64) i = bl x (n + i) := by
  show (x.toUInt64 >>> ((nI n).toInt64.toUInt64 &&& Int64.toUInt64 63)).toBitVec.getLsbD i = x.toUInt64.toBitVec.getLsbD (n + i)
  rw [UInt64.toBitVec_shiftRight]
  show (x.toUInt64.toBitVec >>> (((nI n).toInt64.toUInt64 &&& Int64.toUInt64 63).toBitVec % 64).toNat).getLsbD i = _
  rw [sl_u n hn, BitVec.getLsbD_ushiftRight]
theorem bl_sshr (n : Nat) (hn : n < 64) (x : Int64) {i : Nat} (hi : i < 64) : bl (x >>> ((nI n).toInt64 &&& 63)) i = if n + i < 64 then bl x (n + i) else bl x 63 := by
  unfold bl
  rw [Int64.toBitVec_shiftRight]
  show (x.toBitVec.sshiftRight (((nI n).toInt64 &&& 63).toBitVec.smod 64).toNat).getLsbD i = _
  rw [sl_l n hn, BitVec.getLsbD_sshiftRight, BitVec.msb_eq_getLsbD_last]
  simp [hi]
theorem bl_one {k i : Nat} (hk : k < 64) (hi : i < 64) : bl ((1 : Int64) <<< ((nI k).toInt64 &&& 63)) i = decide (i = k) := by
  rw [bl_shl k hk 1 hi, bl_1]
  by_cases h : i = k
  · simp [h]
  · by_cases h2 : k ≤ i
    · have : ¬ i - k = 0 := by omega
      simp [h, this]
    · simp [h, h2]
theorem bt_l2i (x : Int64) {i : Nat} (hi : i < 32) : bt x.toInt32 i = bl x i := by
  unfold bt bl
  rw [Int64.toBitVec_toInt32, BitVec.getLsbD_signExtend, if_pos (show i < 64 by omega), decide_eq_true hi, Bool.true_and]
/-- byte k of a long -/
def f_byte (w : Int64) (k : Int32) : Int32 := (w.toUInt64 >>> ((8 * k).toInt64.toUInt64 &&& Int64.toUInt64 63)).toInt64.toInt32 &&& 255
theorem pk_m8 (k : Nat) : (8 : Int32) * nI k = nI (8 * k) := by rw [show (8 : Int32) = nI 8 from rfl, pk_mul]
theorem f_byte_bt (w : Int64) {k i : Nat} (hk : k < 8) (hi : i < 32) : bt (f_byte w (nI k)) i = (decide (i < 8) && bl w (8 * k + i)) := by
  unfold f_byte
  rw [b_and, b_255, bt_l2i _ hi, pk_m8, bl_ushr _ (by omega)]
  cases decide (i < 8) <;> simp
/-- a set of bits below n, none: 0 -/
theorem bt_zero {x : Int32} : x = 0 ↔ ∀ i, i < 32 → bt x i = false := by
  constructor
  · intro h i _; rw [h, b_0]
  · intro h; exact b_ext (fun i hi => by rw [h i hi, b_0])
end
section
/-! THE CLASS, leaves: each method says what its code computes -/
def am_no : am_Sp := fun _ _ _ _ => False
def am_isR (r : Nat) : Prop := r = 1 ∨ r = 7 ∨ r = 13
def am_isS (r : Nat) : Prop := r = 26 ∨ r = 28 ∨ r = 30 ∨ r = 32
def T_RP_isFrom0 : am_Sp := fun vs I L post => match vs with
  | [.int a, .int b] => post (some (.int (am_b (0 ≤ a ∧ a < b)))) I L
  | _ => False
abbrev sp_RP_isFrom0 : Nat → am_Sp := fun _ => am_no
theorem ok_RP_isFrom0 : am_Ok am_SX sp_RP_isFrom0 true k_RP_isFrom0 2 T_RP_isFrom0 := by
  intro vs I L post h
  unfold T_RP_isFrom0 at h
  split at h
  · rename_i a b
    refine ⟨Nat.le_of_ble_eq_true rfl, fun G hG => ?_⟩
    refine hG [] 200 0 _ _ _ _ ?_
    repeat' (first | with_reducible intro _ | refine And.intro ?_ ?_)
    all_goals first
      | exact am_bb
      | exact Or.inl rfl
      | exact Or.inr rfl
      | rfl
      | (show post _ _ _; grind [am_b])
  · exact h.elim
def T_RP_isPlace : am_Sp := fun vs I L post => match vs with
  | [.int a] => post (some (.int (am_b (0 ≤ a ∧ a < 8)))) I L
  | _ => False
abbrev sp_RP_isPlace : Nat → am_Sp := fun _ => am_no
theorem ok_RP_isPlace : am_Ok am_SX sp_RP_isPlace true k_RP_isPlace 1 T_RP_isPlace := by
  intro vs I L post h
  unfold T_RP_isPlace at h
  split at h
  · rename_i a
    refine ⟨Nat.le_of_ble_eq_true rfl, fun G hG => ?_⟩
    refine hG [] 200 0 _ _ _ _ ?_
    repeat' (first | with_reducible intro _ | refine And.intro ?_ ?_)
    all_goals first
      | exact am_bb
      | exact Or.inl rfl
      | exact Or.inr rfl
      | rfl
      | (show post _ _ _; grind [am_b])
  · exact h.elim
def T_RP_isKind : am_Sp := fun vs I L post => match vs with
  | [.int a] => post (some (.int (am_b (0 ≤ a ∧ a < 4)))) I L
  | _ => False
def sp_RP_isKind : Nat → am_Sp := fun i => match i with
  | 103 => T_RP_isFrom0
  | _ => am_no
theorem ok_RP_isKind : am_Ok am_SX sp_RP_isKind true k_RP_isKind 1 T_RP_isKind := by
  intro vs I L post h
  unfold T_RP_isKind at h
  split at h
  · rename_i a
    refine ⟨Nat.le_of_ble_eq_true rfl, fun G hG => ?_⟩
    refine hG [] 200 0 _ _ _ _ ?_
    repeat' (first | with_reducible intro _ | refine And.intro ?_ ?_)
    all_goals first
      | exact am_bb
      | exact Or.inl rfl
      | exact Or.inr rfl
      | rfl
      | (show post _ _ _; grind [am_b])
  · exact h.elim
def T_RP_isFilmable : am_Sp := fun vs I L post => match vs with
  | [.int k, .int f, .int s, .int l, .int n] => post (some (.int (am_b ((0 ≤ k ∧ k < 4) ∧ (0 ≤ f ∧ f < 8) ∧ (0 ≤ s ∧ s < 4) ∧ (0 ≤ l ∧ l < 3) ∧ (1 ≤ n ∧ n ≤ 24))))) I L
  | _ => False
def sp_RP_isFilmable : Nat → am_Sp := fun i => match i with
  | 47 => T_RP_isPlace
  | 103 => T_RP_isFrom0
  | 140 => T_RP_isKind
  | _ => am_no
theorem ok_RP_isFilmable : am_Ok am_SX sp_RP_isFilmable true k_RP_isFilmable 5 T_RP_isFilmable := by
  intro vs I L post h
  unfold T_RP_isFilmable at h
  split at h
  · rename_i k f s l n
    refine ⟨Nat.le_of_ble_eq_true rfl, fun G hG => ?_⟩
    refine hG [] 200 0 _ _ _ _ ?_
    repeat' (first | with_reducible intro _ | refine And.intro ?_ ?_)
    all_goals first
      | exact am_bb
      | exact Or.inl rfl
      | exact Or.inr rfl
      | rfl
      | (show post _ _ _; grind [am_b])
  · exact h.elim
def T_RP_byteOf : am_Sp := fun vs I L post => match vs with
  | [.long w, .int k] => post (some (.int (f_byte w k))) I L
  | _ => False
abbrev sp_RP_byteOf : Nat → am_Sp := fun _ => am_no
theorem ok_RP_byteOf : am_Ok am_SX sp_RP_byteOf false k_RP_byteOf 3 T_RP_byteOf := by
  intro vs I L post h
  unfold T_RP_byteOf at h
  split at h
  · rename_i w k
    refine ⟨Nat.le_of_ble_eq_true rfl, fun G hG => ?_⟩
    exact hG [] 200 0 _ _ _ _ h
  · exact h.elim
def T_RP_bitOf : am_Sp := fun vs I L post => match vs with
  | [.int s, .int e] => post (some (.int (f_bit s e))) I L
  | _ => False
abbrev sp_RP_bitOf : Nat → am_Sp := fun _ => am_no
theorem ok_RP_bitOf : am_Ok am_SX sp_RP_bitOf false k_RP_bitOf 2 T_RP_bitOf := by
  intro vs I L post h
  unfold T_RP_bitOf at h
  split at h
  · rename_i s e
    refine ⟨Nat.le_of_ble_eq_true rfl, fun G hG => ?_⟩
    exact hG [] 200 0 _ _ _ _ h
  · exact h.elim
def T_KD_takes : am_Sp := fun vs I L post => match vs with
  | [.int k, .int s, .int f] => post (some (.int (if k = 0 ∨ (¬ f = 0 ∧ (k = 1 ∨ k = 3)) then (if s = 0 then 0 else 1) else if k = 3 then (if s = 0 then 1 else 0) else 2))) I L
  | _ => False
abbrev sp_KD_takes : Nat → am_Sp := fun _ => am_no
theorem ok_KD_takes : am_Ok am_SX sp_KD_takes false k_KD_takes 3 T_KD_takes := by
  intro vs I L post h
  unfold T_KD_takes at h
  split at h
  · rename_i k s f
    refine ⟨Nat.le_of_ble_eq_true rfl, fun G hG => ?_⟩
    refine hG [] 200 0 _ _ _ _ ?_
    repeat' (first | with_reducible intro _ | refine And.intro ?_ ?_)
    all_goals first
      | exact am_bb
      | exact Or.inl rfl
      | exact Or.inr rfl
      | rfl
      | (show post _ _ _; grind [am_b])
  · exact h.elim
def f_pair (a b : Int32) : Int64 := ((1 : Int64) <<< ((a * 8 + b).toInt64 &&& 63)) ||| ((1 : Int64) <<< ((b * 8 + a).toInt64 &&& 63))
def f_bc1 (x : Int32) : Int32 := x - ((x.toUInt32 >>> ((1 : Int32).toUInt32 &&& Int32.toUInt32 31)).toInt32 &&& 1431655765)
def f_bc2 (x : Int32) : Int32 := (x &&& 858993459) + ((x.toUInt32 >>> ((2 : Int32).toUInt32 &&& Int32.toUInt32 31)).toInt32 &&& 858993459)
def f_bc3 (x : Int32) : Int32 := (x + (x.toUInt32 >>> ((4 : Int32).toUInt32 &&& Int32.toUInt32 31)).toInt32) &&& 252645135
def f_bc4 (x : Int32) : Int32 := x + (x.toUInt32 >>> ((8 : Int32).toUInt32 &&& Int32.toUInt32 31)).toInt32
def f_bc5 (x : Int32) : Int32 := x + (x.toUInt32 >>> ((16 : Int32).toUInt32 &&& Int32.toUInt32 31)).toInt32
def f_bc (x : Int32) : Int32 := f_bc5 (f_bc4 (f_bc3 (f_bc2 (f_bc1 x)))) &&& 63
def T_NT_pair : am_Sp := fun vs I L post => match vs with
  | [.int a, .int b] => post (some (.long (f_pair a b))) I L
  | _ => False
abbrev sp_NT_pair : Nat → am_Sp := fun _ => am_no
theorem ok_NT_pair : am_Ok am_SX sp_NT_pair false k_NT_pair 2 T_NT_pair := by
  intro vs I L post h
  unfold T_NT_pair at h
  split at h
  · rename_i a b
    refine ⟨Nat.le_of_ble_eq_true rfl, fun G hG => ?_⟩
    exact hG [] 200 0 _ _ _ _ h
  · exact h.elim
def T_IN_bitCount : am_Sp := fun vs I L post => match vs with
  | [.int a] => post (some (.int (f_bc a))) I L
  | _ => False
abbrev sp_IN_bitCount : Nat → am_Sp := fun _ => am_no
theorem ok_IN_bitCount : am_Ok am_SX sp_IN_bitCount false k_IN_bitCount 1 T_IN_bitCount := by
  intro vs I L post h
  unfold T_IN_bitCount at h
  split at h
  · rename_i a
    refine ⟨Nat.le_of_ble_eq_true rfl, fun G hG => ?_⟩
    unfold f_bc at h
    refine hG [] 8 0 _ _ _ _ ?_
    show G 10 [some (.int (f_bc1 a))] [] I L
    generalize f_bc1 a = x1 at h ⊢
    refine hG [] 10 10 _ _ _ _ ?_
    show G 24 [some (.int (f_bc2 x1))] [] I L
    generalize f_bc2 x1 = x2 at h ⊢
    refine hG [] 8 24 _ _ _ _ ?_
    show G 34 [some (.int (f_bc3 x2))] [] I L
    generalize f_bc3 x2 = x3 at h ⊢
    refine hG [] 6 34 _ _ _ _ ?_
    show G 41 [some (.int (f_bc4 x3))] [] I L
    generalize f_bc4 x3 = x4 at h ⊢
    refine hG [] 6 41 _ _ _ _ ?_
    show G 48 [some (.int (f_bc5 x4))] [] I L
    generalize f_bc5 x4 = x5 at h ⊢
    exact hG [] 6 48 _ _ _ _ h
  · exact h.elim
def T_SH_isNothing : am_Sp := fun vs I L post => match vs with
  | [.ref o] => am_isS o ∧ post (some (.int (am_b (I o 1 = -1)))) I L
  | _ => False
abbrev sp_SH_isNothing : Nat → am_Sp := fun _ => am_no
theorem ok_SH_isNothing : am_Ok am_SX sp_SH_isNothing true k_SH_isNothing 1 T_SH_isNothing := by
  intro vs I L post h
  unfold T_SH_isNothing at h
  split at h
  · rename_i o
    obtain ⟨hr, h⟩ := h
    refine ⟨Nat.le_of_ble_eq_true rfl, fun G hG => ?_⟩
    rcases hr with rfl | rfl | rfl | rfl
    all_goals
      refine hG [] 200 0 _ _ _ _ ?_
      repeat' (first | with_reducible intro _ | refine And.intro ?_ ?_)
      all_goals first
        | exact am_bb
        | exact Or.inl rfl
        | exact Or.inr rfl
        | rfl
        | (show post _ _ _; grind [am_b])
  · exact h.elim
def T_SH_refusal : am_Sp := fun vs I L post => match vs with
  | [.ref o, .int a] => am_isS o ∧ post (some (.int (if I o 1 = -1 then -11 else if I o 1 = a then 0 else -12))) I L
  | _ => False
def sp_SH_refusal : Nat → am_Sp := fun i => match i with
  | 19 => T_SH_isNothing
  | _ => am_no
theorem ok_SH_refusal : am_Ok am_SX sp_SH_refusal false k_SH_refusal 2 T_SH_refusal := by
  intro vs I L post h
  unfold T_SH_refusal at h
  split at h
  · rename_i o a
    obtain ⟨hr, h⟩ := h
    refine ⟨Nat.le_of_ble_eq_true rfl, fun G hG => ?_⟩
    rcases hr with rfl | rfl | rfl | rfl
    all_goals
      refine hG [] 200 0 _ _ _ _ ?_
      repeat' (first | with_reducible intro _ | refine And.intro ?_ ?_)
      all_goals first
        | exact Or.inl rfl
        | exact Or.inl rfl
        | exact Or.inr rfl
        | exact Or.inr (Or.inl rfl)
        | exact Or.inr (Or.inr (Or.inl rfl))
        | exact Or.inr (Or.inr (Or.inr rfl))
        | rfl
        | (show post _ _ _; grind [am_b])
  · exact h.elim
def f_has (I : am_I) (o : Nat) (i n : Int32) : Prop := 0 ≤ i ∧ 0 ≤ n ∧ i ≤ I o 2 ∧ n ≤ I o 2 - i
def f_hasD (I : am_I) (o : Nat) (i n : Int32) : Decidable (f_has I o i n) := by unfold f_has; exact inferInstance
def f_hasB (I : am_I) (o : Nat) (i n : Int32) : Int32 := am_b (0 ≤ i ∧ 0 ≤ n ∧ i ≤ I o 2 ∧ n ≤ I o 2 - i)
def T_SH_has : am_Sp := fun vs I L post => match vs with
  | [.ref o, .int i, .int n] => am_isS o ∧ post (some (.int (f_hasB I o i n))) I L
  | _ => False
abbrev sp_SH_has : Nat → am_Sp := fun _ => am_no
theorem ok_SH_has : am_Ok am_SX sp_SH_has true k_SH_has 3 T_SH_has := by
  intro vs I L post h
  unfold T_SH_has at h
  split at h
  · rename_i o i n
    obtain ⟨hr, h⟩ := h
    refine ⟨Nat.le_of_ble_eq_true rfl, fun G hG => ?_⟩
    rcases hr with rfl | rfl | rfl | rfl
    all_goals
      refine hG [] 200 0 _ _ _ _ ?_
      repeat' (first | with_reducible intro _ | refine And.intro ?_ ?_)
      all_goals first
        | exact am_bb
        | exact Or.inl rfl
        | exact Or.inr rfl
        | rfl
        | (show post _ _ _; unfold f_hasB at h; grind [am_b])
  · exact h.elim
def T_SH_itemAt : am_Sp := fun vs I L post => match vs with
  | [.ref o, .int i] => am_isS o ∧ ((f_hasB I o i 1 = 1 → vp_in i 24) ∧ post (some (.long (if f_hasB I o i 1 = 1 then L (o + 1) i.toNatClampNeg else -4))) I L)
  | _ => False
def sp_SH_itemAt : Nat → am_Sp := fun i => match i with
  | 30 => T_SH_has
  | _ => am_no
theorem ok_SH_itemAt : am_Ok am_SX sp_SH_itemAt false k_SH_itemAt 2 T_SH_itemAt := by
  intro vs I L post h
  unfold T_SH_itemAt at h
  split at h
  · rename_i o i
    obtain ⟨hr, hv, h⟩ := h
    refine ⟨Nat.le_of_ble_eq_true rfl, fun G hG => ?_⟩
    rcases hr with rfl | rfl | rfl | rfl
    all_goals
      refine hG [] 200 0 _ _ _ _ ?_
      repeat' (first | with_reducible intro _ | refine And.intro ?_ ?_)
      all_goals first
        | exact am_bb
        | exact Or.inl rfl
        | exact Or.inr (Or.inl rfl)
        | exact Or.inr (Or.inr rfl)
        | exact Or.inr (Or.inr (Or.inl rfl))
        | exact Or.inr (Or.inr (Or.inr rfl))
        | rfl
        | (exact hv (by unfold f_hasB at *; grind [am_b]))
        | (show post _ _ _; unfold f_hasB at *; grind [am_b])
  · exact h.elim
def f_cut (ln : Int32) (v : Int64) : Int64 := if ln = 0 then v.toInt32.toInt8.toInt32.toInt64 else if ln = 1 then v.toInt32.toInt16.toInt32.toInt64 else v
def T_SH_put : am_Sp := fun vs I L post => match vs with
  | [.ref o, .int i, .long v] => am_isS o ∧ ((f_hasB I o i 1 = 1 → vp_in i 24) ∧ post none I (if f_hasB I o i 1 = 1 then am_uj L (o + 1) i.toNatClampNeg (f_cut (I o 1) v) else L))
  | _ => False
def sp_SH_put : Nat → am_Sp := fun i => match i with
  | 30 => T_SH_has
  | _ => am_no
theorem ok_SH_put : am_Ok am_SX sp_SH_put false k_SH_put 4 T_SH_put := by
  intro vs I L post h
  unfold T_SH_put at h
  split at h
  · rename_i o i v
    obtain ⟨hr, hv, h⟩ := h
    refine ⟨Nat.le_of_ble_eq_true rfl, fun G hG => ?_⟩
    rcases hr with rfl | rfl | rfl | rfl
    all_goals
      refine hG [] 200 0 _ _ _ _ ?_
      repeat' (first | with_reducible intro _ | refine And.intro ?_ ?_)
      all_goals first
        | exact am_bb
        | exact Or.inl rfl
        | exact Or.inr (Or.inl rfl)
        | exact Or.inr (Or.inr rfl)
        | exact Or.inr (Or.inr (Or.inl rfl))
        | exact Or.inr (Or.inr (Or.inr rfl))
        | rfl
        | (exact hv (by unfold f_hasB at *; grind [am_b]))
        | (show post _ _ _; unfold f_hasB f_cut at *; grind [am_b])
  · exact h.elim
def T_SH_become : am_Sp := fun vs I L post => match vs with
  | [.ref o, .int a, .int n] => am_isS o ∧ post none (am_ui (am_ui I o 1 a) o 2 n) L
  | _ => False
abbrev sp_SH_become : Nat → am_Sp := fun _ => am_no
theorem ok_SH_become : am_Ok am_SX sp_SH_become false k_SH_become 3 T_SH_become := by
  intro vs I L post h
  unfold T_SH_become at h
  split at h
  · rename_i o a n
    obtain ⟨hr, h⟩ := h
    refine ⟨Nat.le_of_ble_eq_true rfl, fun G hG => ?_⟩
    rcases hr with rfl | rfl | rfl | rfl
    all_goals
      exact hG [] 200 0 _ _ _ _ h
  · exact h.elim
end
section
/-! THE CLASS, roads -/
theorem am_rng {x : Int32} {n : Nat} (hn : n < 2 ^ 31) (h0 : 0 ≤ x) (h1 : x < nI n) : ∃ j : Nat, j < n ∧ x = nI j := by
  have a := Int32.le_iff_toInt_le.mp h0
  have b := Int32.lt_iff_toInt_lt.mp h1
  rw [nI_toInt hn] at b
  have c : (0 : Int32).toInt = 0 := by decide
  rw [c] at a
  exact vp_in_of (vp_in_iff.mpr ⟨a, b⟩) hn
theorem am_inj8 {a b : Int32} (h1 : 0 ≤ a ∧ a < 8) (h2 : 0 ≤ b ∧ b < 8) : vp_in (a * 8 + b) 64 := by
  obtain ⟨i, hi, rfl⟩ := am_rng (n := 8) (by omega) h1.1 h1.2
  obtain ⟨j, hj, rfl⟩ := am_rng (n := 8) (by omega) h2.1 h2.2
  rw [show (8 : Int32) = nI 8 from rfl, pk_mul, nI_add]
  exact vp_in_nI (by omega) (by omega)
theorem am_in_of {a : Int32} {n : Nat} (hn : n < 2 ^ 31) (h : 0 ≤ a ∧ a < nI n) : vp_in a n := by
  obtain ⟨i, hi, rfl⟩ := am_rng hn h.1 h.2
  exact vp_in_nI hi hn
theorem am_in8 {a : Int32} (h : 0 ≤ a ∧ a < 8) : vp_in a 8 := am_in_of (n := 8) (by omega) h
theorem am_in12 {a : Int32} (h : 0 ≤ a ∧ a < 12) : vp_in a 12 := am_in_of (n := 12) (by omega) h
theorem am_pq {post : am_Po} {v v' : Option Value} {I I' : am_I} {L L' : am_J} (h : post v I L) (h1 : v = v') (h2 : I = I') (h3 : L = L') : post v' I' L' := by
  subst h1 h2 h3; exact h
theorem am_ui_r (I : am_I) (o k : Nat) (x : Int32) (a b : Nat) : am_ui I o k x a b = if a = o ∧ b = k then x else I a b := rfl
theorem am_uj_r (I : am_J) (o k : Nat) (x : Int64) (a b : Nat) : am_uj I o k x a b = if a = o ∧ b = k then x else I a b := rfl
theorem am_t {c A B : Prop} (h : c) (a : A) : (c → A) ∧ (¬ c → B) := ⟨fun _ => a, fun q => absurd h q⟩
theorem am_f {c A B : Prop} (h : ¬ c) (b : B) : (c → A) ∧ (¬ c → B) := ⟨fun q => absurd q h, fun _ => b⟩
theorem am_nt {c A B : Prop} (h : ¬ c) (a : A) : (¬ c → A) ∧ (c → B) := ⟨fun _ => a, fun q => absurd q h⟩
theorem am_nf {c A B : Prop} (h : c) (b : B) : (¬ c → A) ∧ (c → B) := ⟨fun q => absurd h q, fun _ => b⟩
theorem am_bp {P : Prop} [Decidable P] (h : P) : ¬ am_b P = 0 := by rw [am_b1 h]; decide
theorem am_bn {P : Prop} [Decidable P] (h : ¬ P) : am_b P = 0 := am_b0 h
def f_wb (I : am_I) (r : Nat) (a b : Int32) : Int32 := if (0 ≤ a ∧ a < 8) ∧ (0 ≤ b ∧ b < 8) then I (r + 3) (a * 8 + b).toNatClampNeg - 1 else -1
def f_side (I : am_I) (r : Nat) (p : Int32) : Int32 := if 0 ≤ p ∧ p < 8 then I (r + 4) p.toNatClampNeg else 0
def f_about (I : am_I) (r : Nat) (p : Int32) : Int32 := if 0 ≤ p ∧ p < 8 then I (r + 5) p.toNatClampNeg else 0
def T_RD_isWay : am_Sp := fun vs I L post => match vs with
  | [.ref r, .int w] => am_isR r ∧ post (some (.int (am_b (0 ≤ w ∧ w < I r 5)))) I L
  | _ => False
abbrev sp_RD_isWay : Nat → am_Sp := fun _ => am_no
theorem ok_RD_isWay : am_Ok am_SX sp_RD_isWay true k_RD_isWay 2 T_RD_isWay := by
  intro vs I L post h
  unfold T_RD_isWay at h
  split at h
  · rename_i r w
    obtain ⟨hr, h⟩ := h
    refine ⟨Nat.le_of_ble_eq_true rfl, fun G hG => ?_⟩
    rcases hr with rfl | rfl | rfl
    all_goals
      refine hG [] 200 0 _ _ _ _ ?_
      repeat' (first | with_reducible intro _ | refine And.intro ?_ ?_)
      all_goals first
        | exact am_bb
        | exact Or.inl rfl
        | exact Or.inr rfl
        | exact Or.inr (Or.inl rfl)
        | exact Or.inr (Or.inr rfl)
        | rfl
        | (show post _ _ _; grind [am_b])
  · exact h.elim
def T_RD_hasRoom : am_Sp := fun vs I L post => match vs with
  | [.ref r, .int d] => am_isR r ∧ post (some (.int (am_b (I r 5 < 12 ∧ (d = 0 ∨ f_bc (I r 6) < 6))))) I L
  | _ => False
def sp_RD_hasRoom : Nat → am_Sp := fun i => match i with
  | 37 => T_IN_bitCount
  | _ => am_no
theorem ok_RD_hasRoom : am_Ok am_SX sp_RD_hasRoom true k_RD_hasRoom 2 T_RD_hasRoom := by
  intro vs I L post h
  unfold T_RD_hasRoom at h
  split at h
  · rename_i r d
    obtain ⟨hr, h⟩ := h
    refine ⟨Nat.le_of_ble_eq_true rfl, fun G hG => ?_⟩
    rcases hr with rfl | rfl | rfl
    all_goals
      refine hG [] 200 0 _ _ _ _ ?_
      repeat' (first | with_reducible intro _ | refine And.intro ?_ ?_)
      all_goals first
        | exact am_bb
        | exact Or.inl rfl
        | exact Or.inr rfl
        | exact Or.inr (Or.inl rfl)
        | exact Or.inr (Or.inr rfl)
        | rfl
        | (show post _ _ _; grind [am_b])
  · exact h.elim
def T_RD_wayBetween : am_Sp := fun vs I L post => match vs with
  | [.ref r, .int a, .int b] => am_isR r ∧ post (some (.int (f_wb I r a b))) I L
  | _ => False
def sp_RD_wayBetween : Nat → am_Sp := fun i => match i with
  | 47 => T_RP_isPlace
  | _ => am_no
theorem ok_RD_wayBetween : am_Ok am_SX sp_RD_wayBetween false k_RD_wayBetween 3 T_RD_wayBetween := by
  intro vs I L post h
  unfold T_RD_wayBetween at h
  split at h
  · rename_i r a b
    obtain ⟨hr, h⟩ := h
    refine ⟨Nat.le_of_ble_eq_true rfl, fun G hG => ?_⟩
    rcases hr with rfl | rfl | rfl
    all_goals
      refine hG [] 200 0 _ _ _ _ ?_
      repeat' (first | with_reducible intro _ | refine And.intro ?_ ?_)
      all_goals first
        | exact am_bb
        | exact Or.inl rfl
        | exact Or.inr rfl
        | exact Or.inr (Or.inl rfl)
        | exact Or.inr (Or.inr rfl)
        | rfl
        | (refine am_inj8 ?_ ?_ <;> grind [am_b])
        | (show post _ _ _; unfold f_wb at h; grind [am_b])
  · exact h.elim
def T_RD_isJoined : am_Sp := fun vs I L post => match vs with
  | [.ref r, .int a, .int b] => am_isR r ∧ post (some (.int (am_b (¬ f_wb I r a b = -1)))) I L
  | _ => False
def sp_RD_isJoined : Nat → am_Sp := fun i => match i with
  | 43 => T_RD_wayBetween
  | _ => am_no
theorem ok_RD_isJoined : am_Ok am_SX sp_RD_isJoined true k_RD_isJoined 3 T_RD_isJoined := by
  intro vs I L post h
  unfold T_RD_isJoined at h
  split at h
  · rename_i r a b
    obtain ⟨hr, h⟩ := h
    refine ⟨Nat.le_of_ble_eq_true rfl, fun G hG => ?_⟩
    rcases hr with rfl | rfl | rfl
    all_goals
      refine hG [] 200 0 _ _ _ _ ?_
      repeat' (first | with_reducible intro _ | refine And.intro ?_ ?_)
      all_goals first
        | exact am_bb
        | exact Or.inl rfl
        | exact Or.inr rfl
        | exact Or.inr (Or.inl rfl)
        | exact Or.inr (Or.inr rfl)
        | rfl
        | (show post _ _ _; grind [am_b])
  · exact h.elim
def T_RD_lesserOf : am_Sp := fun vs I L post => match vs with
  | [.ref r, .int w] => am_isR r ∧ ((0 ≤ w ∧ w < I r 5 → vp_in w 12) ∧ post (some (.int (if 0 ≤ w ∧ w < I r 5 then I (r + 1) w.toNatClampNeg else 0))) I L)
  | _ => False
def sp_RD_lesserOf : Nat → am_Sp := fun i => match i with
  | 51 => T_RD_isWay
  | _ => am_no
theorem ok_RD_lesserOf : am_Ok am_SX sp_RD_lesserOf false k_RD_lesserOf 2 T_RD_lesserOf := by
  intro vs I L post h
  unfold T_RD_lesserOf at h
  split at h
  · rename_i r w
    obtain ⟨hr, hv, h⟩ := h
    refine ⟨Nat.le_of_ble_eq_true rfl, fun G hG => ?_⟩
    rcases hr with rfl | rfl | rfl
    all_goals
      refine hG [] 200 0 _ _ _ _ ?_
      repeat' (first | with_reducible intro _ | refine And.intro ?_ ?_)
      all_goals first
        | exact am_bb
        | exact Or.inl rfl
        | exact Or.inr rfl
        | exact Or.inr (Or.inl rfl)
        | exact Or.inr (Or.inr rfl)
        | rfl
        | (exact hv (by grind [am_b]))
        | (show post _ _ _; grind [am_b])
  · exact h.elim
def T_RD_greaterOf : am_Sp := fun vs I L post => match vs with
  | [.ref r, .int w] => am_isR r ∧ ((0 ≤ w ∧ w < I r 5 → vp_in w 12) ∧ post (some (.int (if 0 ≤ w ∧ w < I r 5 then I (r + 2) w.toNatClampNeg else 0))) I L)
  | _ => False
def sp_RD_greaterOf : Nat → am_Sp := fun i => match i with
  | 51 => T_RD_isWay
  | _ => am_no
theorem ok_RD_greaterOf : am_Ok am_SX sp_RD_greaterOf false k_RD_greaterOf 2 T_RD_greaterOf := by
  intro vs I L post h
  unfold T_RD_greaterOf at h
  split at h
  · rename_i r w
    obtain ⟨hr, hv, h⟩ := h
    refine ⟨Nat.le_of_ble_eq_true rfl, fun G hG => ?_⟩
    rcases hr with rfl | rfl | rfl
    all_goals
      refine hG [] 200 0 _ _ _ _ ?_
      repeat' (first | with_reducible intro _ | refine And.intro ?_ ?_)
      all_goals first
        | exact am_bb
        | exact Or.inl rfl
        | exact Or.inr rfl
        | exact Or.inr (Or.inl rfl)
        | exact Or.inr (Or.inr rfl)
        | rfl
        | (exact hv (by grind [am_b]))
        | (show post _ _ _; grind [am_b])
  · exact h.elim
def T_RD_hasStone : am_Sp := fun vs I L post => match vs with
  | [.ref r, .int p] => am_isR r ∧ post (some (.int (am_b (f_bit (I r 8) p = 1)))) I L
  | _ => False
def sp_RD_hasStone : Nat → am_Sp := fun i => match i with
  | 57 => T_RP_bitOf
  | _ => am_no
theorem ok_RD_hasStone : am_Ok am_SX sp_RD_hasStone true k_RD_hasStone 2 T_RD_hasStone := by
  intro vs I L post h
  unfold T_RD_hasStone at h
  split at h
  · rename_i r p
    obtain ⟨hr, h⟩ := h
    refine ⟨Nat.le_of_ble_eq_true rfl, fun G hG => ?_⟩
    rcases hr with rfl | rfl | rfl
    all_goals
      refine hG [] 200 0 _ _ _ _ ?_
      repeat' (first | with_reducible intro _ | refine And.intro ?_ ?_)
      all_goals first
        | exact am_bb
        | exact Or.inl rfl
        | exact Or.inr rfl
        | exact Or.inr (Or.inl rfl)
        | exact Or.inr (Or.inr rfl)
        | rfl
        | (show post _ _ _; grind [am_b])
  · exact h.elim
def T_RD_isSide : am_Sp := fun vs I L post => match vs with
  | [.ref r, .int p, .int f] => am_isR r ∧ post (some (.int (am_b ((0 ≤ p ∧ p < 8) ∧ I (r + 4) p.toNatClampNeg = f)))) I L
  | _ => False
def sp_RD_isSide : Nat → am_Sp := fun i => match i with
  | 47 => T_RP_isPlace
  | _ => am_no
theorem ok_RD_isSide : am_Ok am_SX sp_RD_isSide true k_RD_isSide 3 T_RD_isSide := by
  intro vs I L post h
  unfold T_RD_isSide at h
  split at h
  · rename_i r p f
    obtain ⟨hr, h⟩ := h
    refine ⟨Nat.le_of_ble_eq_true rfl, fun G hG => ?_⟩
    rcases hr with rfl | rfl | rfl
    all_goals
      refine hG [] 200 0 _ _ _ _ ?_
      repeat' (first | with_reducible intro _ | refine And.intro ?_ ?_)
      all_goals first
        | exact am_bb
        | exact Or.inl rfl
        | exact Or.inr rfl
        | exact Or.inr (Or.inl rfl)
        | exact Or.inr (Or.inr rfl)
        | rfl
        | (refine am_in8 ?_ ; grind [am_b])
        | (show post _ _ _; grind [am_b])
  · exact h.elim
def T_RD_sideOf : am_Sp := fun vs I L post => match vs with
  | [.ref r, .int p] => am_isR r ∧ post (some (.int (f_side I r p))) I L
  | _ => False
def sp_RD_sideOf : Nat → am_Sp := fun i => match i with
  | 47 => T_RP_isPlace
  | _ => am_no
theorem ok_RD_sideOf : am_Ok am_SX sp_RD_sideOf false k_RD_sideOf 2 T_RD_sideOf := by
  intro vs I L post h
  unfold T_RD_sideOf at h
  split at h
  · rename_i r p
    obtain ⟨hr, h⟩ := h
    refine ⟨Nat.le_of_ble_eq_true rfl, fun G hG => ?_⟩
    rcases hr with rfl | rfl | rfl
    all_goals
      refine hG [] 200 0 _ _ _ _ ?_
      repeat' (first | with_reducible intro _ | refine And.intro ?_ ?_)
      all_goals first
        | exact am_bb
        | exact Or.inl rfl
        | exact Or.inr rfl
        | exact Or.inr (Or.inl rfl)
        | exact Or.inr (Or.inr rfl)
        | rfl
        | (refine am_in8 ?_ ; grind [am_b])
        | (show post _ _ _; unfold f_side at h; grind [am_b])
  · exact h.elim
def T_RD_aboutOf : am_Sp := fun vs I L post => match vs with
  | [.ref r, .int p] => am_isR r ∧ post (some (.int (f_about I r p))) I L
  | _ => False
def sp_RD_aboutOf : Nat → am_Sp := fun i => match i with
  | 47 => T_RP_isPlace
  | _ => am_no
theorem ok_RD_aboutOf : am_Ok am_SX sp_RD_aboutOf false k_RD_aboutOf 2 T_RD_aboutOf := by
  intro vs I L post h
  unfold T_RD_aboutOf at h
  split at h
  · rename_i r p
    obtain ⟨hr, h⟩ := h
    refine ⟨Nat.le_of_ble_eq_true rfl, fun G hG => ?_⟩
    rcases hr with rfl | rfl | rfl
    all_goals
      refine hG [] 200 0 _ _ _ _ ?_
      repeat' (first | with_reducible intro _ | refine And.intro ?_ ?_)
      all_goals first
        | exact am_bb
        | exact Or.inl rfl
        | exact Or.inr rfl
        | exact Or.inr (Or.inl rfl)
        | exact Or.inr (Or.inr rfl)
        | rfl
        | (refine am_in8 ?_ ; grind [am_b])
        | (show post _ _ _; unfold f_about at h; grind [am_b])
  · exact h.elim
def T_RD_saysOpen : am_Sp := fun vs I L post => match vs with
  | [.ref r, .int p, .int f, .int s] => am_isR r ∧ post (some (.int (am_b ((f_bit s (f_about I r p) = 0) ↔ ((0 ≤ p ∧ p < 8) ∧ I (r + 4) p.toNatClampNeg = f))))) I L
  | _ => False
def sp_RD_saysOpen : Nat → am_Sp := fun i => match i with
  | 57 => T_RP_bitOf
  | 60 => T_RD_aboutOf
  | 63 => T_RD_isSide
  | _ => am_no
theorem ok_RD_saysOpen : am_Ok am_SX sp_RD_saysOpen true k_RD_saysOpen 5 T_RD_saysOpen := by
  intro vs I L post h
  unfold T_RD_saysOpen at h
  split at h
  · rename_i r p f s
    obtain ⟨hr, h⟩ := h
    refine ⟨Nat.le_of_ble_eq_true rfl, fun G hG => ?_⟩
    rcases hr with rfl | rfl | rfl
    all_goals
      refine hG [] 200 0 _ _ _ _ ?_
      repeat' (first | with_reducible intro _ | refine And.intro ?_ ?_)
      all_goals first
        | exact am_bb
        | exact Or.inl rfl
        | exact Or.inr rfl
        | exact Or.inr (Or.inl rfl)
        | exact Or.inr (Or.inr rfl)
        | rfl
        | (show post _ _ _; grind [am_b])
  · exact h.elim
def T_RD_setStone : am_Sp := fun vs I L post => match vs with
  | [.ref r, .int p, .int s, .int w] => am_isR r ∧ ((0 ≤ p ∧ p < 8) ∧ post none (am_ui (am_ui (am_ui I (r + 4) p.toNatClampNeg s) (r + 5) p.toNatClampNeg w) r 8 (I r 8 ||| ((1 : Int32) <<< (p &&& 31)))) L)
  | _ => False
def sp_RD_setStone : Nat → am_Sp := fun i => match i with
  | 47 => T_RP_isPlace
  | _ => am_no
theorem ok_RD_setStone : am_Ok am_SX sp_RD_setStone false k_RD_setStone 4 T_RD_setStone := by
  intro vs I L post h
  unfold T_RD_setStone at h
  split at h
  · rename_i r p s w
    obtain ⟨hr, hp, h⟩ := h
    refine ⟨Nat.le_of_ble_eq_true rfl, fun G hG => ?_⟩
    rcases hr with rfl | rfl | rfl
    all_goals
      refine hG [] 200 0 _ _ _ _ ?_
      repeat' (first | with_reducible intro _ | refine And.intro ?_ ?_)
      all_goals first
        | exact am_bb
        | exact Or.inl rfl
        | exact Or.inr rfl
        | exact Or.inr (Or.inl rfl)
        | exact Or.inr (Or.inr rfl)
        | rfl
        | (refine am_in8 ?_ ; grind [am_b])
        | (show post _ _ _; first | (exfalso; grind [am_b]) | exact am_pq h rfl (by simp [am_ui_r]) rfl)
  · exact h.elim
def T_RD_takeStone : am_Sp := fun vs I L post => match vs with
  | [.ref r, .int p] => am_isR r ∧ post none (am_ui I r 8 (I r 8 &&& (((1 : Int32) <<< (p &&& 31)) ^^^ (-1)))) L
  | _ => False
abbrev sp_RD_takeStone : Nat → am_Sp := fun _ => am_no
theorem ok_RD_takeStone : am_Ok am_SX sp_RD_takeStone false k_RD_takeStone 2 T_RD_takeStone := by
  intro vs I L post h
  unfold T_RD_takeStone at h
  split at h
  · rename_i r p
    obtain ⟨hr, h⟩ := h
    refine ⟨Nat.le_of_ble_eq_true rfl, fun G hG => ?_⟩
    rcases hr with rfl | rfl | rfl
    all_goals
      refine hG [] 200 0 _ _ _ _ ?_
      repeat' (first | with_reducible intro _ | refine And.intro ?_ ?_)
      all_goals first
        | exact am_bb
        | exact Or.inl rfl
        | exact Or.inr rfl
        | exact Or.inr (Or.inl rfl)
        | exact Or.inr (Or.inr rfl)
        | rfl
        | (show post _ _ _; exact h)
  · exact h.elim
def T_RD_pairOf : am_Sp := fun vs I L post => match vs with
  | [.ref r, .int w] => am_isR r ∧ ((0 ≤ w ∧ w < I r 5 → vp_in w 12) ∧ post (some (.long (if 0 ≤ w ∧ w < I r 5 then f_pair (I (r + 1) w.toNatClampNeg) (I (r + 2) w.toNatClampNeg) else 0))) I L)
  | _ => False
def sp_RD_pairOf : Nat → am_Sp := fun i => match i with
  | 51 => T_RD_isWay
  | 71 => T_NT_pair
  | _ => am_no
theorem ok_RD_pairOf : am_Ok am_SX sp_RD_pairOf false k_RD_pairOf 2 T_RD_pairOf := by
  intro vs I L post h
  unfold T_RD_pairOf at h
  split at h
  · rename_i r w
    obtain ⟨hr, hv, h⟩ := h
    refine ⟨Nat.le_of_ble_eq_true rfl, fun G hG => ?_⟩
    rcases hr with rfl | rfl | rfl
    all_goals
      refine hG [] 200 0 _ _ _ _ ?_
      repeat' (first | with_reducible intro _ | refine And.intro ?_ ?_)
      all_goals first
        | exact am_bb
        | exact Or.inl rfl
        | exact Or.inr rfl
        | exact Or.inr (Or.inl rfl)
        | exact Or.inr (Or.inr rfl)
        | rfl
        | (exact hv (by grind [am_b]))
        | (show post _ _ _; grind [am_b])
  · exact h.elim
end
section
/-! THE CLASS, roads: a way comes -/
def f_joinI (I : am_I) (r : Nat) (a b d : Int32) : am_I :=
  am_ui (if d = 0 then am_ui (am_ui (am_ui (am_ui I (r + 1) (I r 5).toNatClampNeg (if a < b then a else b)) (r + 2) (I r 5).toNatClampNeg (if a < b then b else a)) (r + 3) (a * 8 + b).toNatClampNeg (I r 5 + 1)) (r + 3) (b * 8 + a).toNatClampNeg (I r 5 + 1)
    else am_ui (am_ui (am_ui (am_ui (am_ui I (r + 1) (I r 5).toNatClampNeg (if a < b then a else b)) (r + 2) (I r 5).toNatClampNeg (if a < b then b else a)) (r + 3) (a * 8 + b).toNatClampNeg (I r 5 + 1)) (r + 3) (b * 8 + a).toNatClampNeg (I r 5 + 1)) r 6 (I r 6 ||| ((1 : Int32) <<< (I r 5 &&& 31)))) r 5 (I r 5 + 1)
def f_joinL (L : am_J) (r : Nat) (a b d : Int32) : am_J := if d = 0 then am_uj (am_uj L r 10 (L r 10 ||| f_pair a b)) r 11 (L r 11 ||| f_pair a b) else am_uj L r 10 (L r 10 ||| f_pair a b)
def T_RD_join : am_Sp := fun vs I L post => match vs with
  | [.ref r, .int a, .int b, .int d] => am_isR r ∧ ((0 ≤ a ∧ a < 8) ∧ ((0 ≤ b ∧ b < 8) ∧ ((0 ≤ I r 5 ∧ I r 5 < 12) ∧ post (some (.int (I r 5))) (f_joinI I r a b d) (f_joinL L r a b d))))
  | _ => False
def sp_RD_join : Nat → am_Sp := fun i => match i with
  | 47 => T_RP_isPlace
  | 71 => T_NT_pair
  | _ => am_no
set_option maxRecDepth 100000 in
set_option maxHeartbeats 4000000 in
theorem ok_RD_join : am_Ok am_SX sp_RD_join false k_RD_join 5 T_RD_join := by
  intro vs I L post h
  unfold T_RD_join at h
  split at h
  · rename_i r a b d
    obtain ⟨hr, ha, hb, hw, h⟩ := h
    refine ⟨Nat.le_of_ble_eq_true rfl, fun G hG => ?_⟩
    rcases hr with rfl | rfl | rfl
    all_goals
      refine hG [] 200 0 _ _ _ _ (am_f (am_bp ha) (am_f (am_bp hb) (am_t hw.2 ?_)))
      by_cases hab : a < b
      · refine am_nf hab (And.intro (am_in12 hw) (am_nf hab (And.intro (am_in12 hw) (And.intro (am_inj8 ha hb) (And.intro (am_inj8 hb ha) ?_)))))
        by_cases hd : d = 0
        · refine am_t hd ?_
          refine am_pq h ?_ ?_ ?_
          · simp [am_ui_r]
          · unfold f_joinI; simp only [hab, hd, if_true]; simp [am_ui_r]
          · unfold f_joinL; simp only [hd, if_true]; simp [am_uj_r]
        · refine am_f hd ?_
          refine am_pq h ?_ ?_ ?_
          · simp [am_ui_r]
          · unfold f_joinI; simp only [hab, hd, if_true, if_false]; simp [am_ui_r]
          · unfold f_joinL; simp only [hd, if_false]
      · refine am_nt hab (And.intro (am_in12 hw) (am_nt hab (And.intro (am_in12 hw) (And.intro (am_inj8 ha hb) (And.intro (am_inj8 hb ha) ?_)))))
        by_cases hd : d = 0
        · refine am_t hd ?_
          refine am_pq h ?_ ?_ ?_
          · simp [am_ui_r]
          · unfold f_joinI; simp only [hab, hd, if_true, if_false]; simp [am_ui_r]
          · unfold f_joinL; simp only [hd, if_true]; simp [am_uj_r]
        · refine am_f hd ?_
          refine am_pq h ?_ ?_ ?_
          · simp [am_ui_r]
          · unfold f_joinI; simp only [hab, hd, if_false]; simp [am_ui_r]
          · unfold f_joinL; simp only [hd, if_false]
  · exact h.elim
end
section
/-! WAYS HOME: how far a place is, and where one goes -/
def g_R (E : Nat → Nat → Bool) (h : Nat) : Nat → Nat → Bool
  | 0, q => decide (q = h)
  | k + 1, q => g_R E h k q || (List.range 8).any (fun p => E p q && g_R E h k p)
def g_lk (P : Nat → Bool) : Nat → Nat → Nat
  | 0, _ => 10000
  | n + 1, k => if P k = true then k else g_lk P n (k + 1)
def g_d (E : Nat → Nat → Bool) (h q : Nat) : Nat := g_lk (fun k => g_R E h k q) 8 0
/-- the best of the first n places: near, from which the fewest lead home, the least of these -/
def g_ch (d : Nat → Nat) (E : Nat → Bool) : Nat → Option Nat
  | 0 => none
  | n + 1 => match g_ch d E n with
    | none => if E n = true ∧ d n < 10000 then some n else none
    | some b => if E n = true ∧ d n < d b then some n else some b
def g_to (E : Nat → Nat → Bool) (h a : Nat) : Option Nat := g_ch (g_d E h) (E a) 8
def g_toI (x : Option Nat) : Int32 := match x with
  | some q => nI q
  | none => -1
theorem g_lk_spec (P : Nat → Bool) : ∀ n k, (g_lk P n k = 10000 ∧ ∀ j, k ≤ j → j < k + n → P j = false) ∨ (k ≤ g_lk P n k ∧ g_lk P n k < k + n ∧ P (g_lk P n k) = true ∧ ∀ j, k ≤ j → j < g_lk P n k → P j = false) := by
  intro n
  induction n with
  | zero => intro k; left; exact ⟨rfl, fun j h1 h2 => by omega⟩
  | succ n ih =>
    intro k
    by_cases h : P k = true
    · right
      have e : g_lk P (n + 1) k = k := by simp [g_lk, h]
      rw [e]
      exact ⟨Nat.le_refl k, by omega, h, fun j h1 h2 => by omega⟩
    · have e : g_lk P (n + 1) k = g_lk P n (k + 1) := by simp [g_lk, h]
      rw [e]
      rcases ih (k + 1) with ⟨h1, h2⟩ | ⟨h1, h2, h3, h4⟩
      · left
        refine ⟨h1, fun j a b => ?_⟩
        rcases Nat.eq_or_lt_of_le a with c | c
        · rw [← c]; simpa using h
        · exact h2 j (by omega) (by omega)
      · right
        refine ⟨by omega, by omega, h3, fun j a b => ?_⟩
        rcases Nat.eq_or_lt_of_le a with c | c
        · rw [← c]; simpa using h
        · exact h4 j (by omega) b
theorem g_d_spec (E : Nat → Nat → Bool) (h q : Nat) : (g_d E h q = 10000 ∧ ∀ j, j < 8 → g_R E h j q = false) ∨ (g_d E h q < 8 ∧ g_R E h (g_d E h q) q = true ∧ ∀ j, j < g_d E h q → g_R E h j q = false) := by
  rcases g_lk_spec (fun k => g_R E h k q) 8 0 with ⟨a, b⟩ | ⟨a, b, c, d⟩
  · exact Or.inl ⟨a, fun j hj => b j (by omega) (by omega)⟩
  · exact Or.inr ⟨by rw [Nat.zero_add] at b; exact b, c, fun j hj => d j (by omega) hj⟩
theorem g_R_mono {E : Nat → Nat → Bool} {h q : Nat} : ∀ {j k : Nat}, j ≤ k → g_R E h j q = true → g_R E h k q = true := by
  intro j k hjk
  induction k with
  | zero => intro a; rwa [show j = 0 by omega] at a
  | succ k ih =>
    intro a
    rcases Nat.eq_or_lt_of_le hjk with e | e
    · rwa [e] at a
    · show (g_R E h k q || _) = true
      rw [ih (by omega) a]; rfl
theorem g_R_succ {E : Nat → Nat → Bool} {h q k : Nat} : g_R E h (k + 1) q = true ↔ (g_R E h k q = true ∨ ∃ p, p < 8 ∧ E p q = true ∧ g_R E h k p = true) := by
  show (g_R E h k q || (List.range 8).any (fun p => E p q && g_R E h k p)) = true ↔ _
  simp only [Bool.or_eq_true, List.any_eq_true, List.mem_range, Bool.and_eq_true]
theorem g_ch_spec (d : Nat → Nat) (E : Nat → Bool) : ∀ n, (g_ch d E n = none ∧ ∀ q, q < n → E q = true → ¬ d q < 10000) ∨ ∃ b, g_ch d E n = some b ∧ b < n ∧ E b = true ∧ d b < 10000 ∧ ∀ q, q < n → E q = true → d b ≤ d q ∧ (d q = d b → b ≤ q) := by
  intro n
  induction n with
  | zero => left; exact ⟨rfl, fun q h => by omega⟩
  | succ n ih =>
    rcases ih with ⟨h1, h2⟩ | ⟨b, h1, h2, h3, h4, h5⟩
    · by_cases hc : E n = true ∧ d n < 10000
      · right
        refine ⟨n, by simp [g_ch, h1, hc], by omega, hc.1, hc.2, fun q hq he => ?_⟩
        rcases Nat.lt_or_ge q n with a | a
        · have := h2 q a he; omega
        · have : q = n := by omega
          subst this; exact ⟨Nat.le_refl _, fun _ => Nat.le_refl _⟩
      · left
        refine ⟨by simp only [g_ch, h1, if_neg hc], fun q hq he hd => ?_⟩
        rcases Nat.lt_or_ge q n with a | a
        · exact h2 q a he hd
        · have : q = n := by omega
          subst this; exact hc ⟨he, hd⟩
    · by_cases hc : E n = true ∧ d n < d b
      · right
        refine ⟨n, by simp only [g_ch, h1, if_pos hc], by omega, hc.1, by omega, fun q hq he => ?_⟩
        rcases Nat.lt_or_ge q n with a | a
        · have := h5 q a he; omega
        · have : q = n := by omega
          subst this; exact ⟨Nat.le_refl _, fun _ => Nat.le_refl _⟩
      · right
        refine ⟨b, by simp only [g_ch, h1, if_neg hc], by omega, h3, h4, fun q hq he => ?_⟩
        rcases Nat.lt_or_ge q n with a | a
        · exact h5 q a he
        · have : q = n := by omega
          subst this
          have : ¬ d q < d b := fun z => hc ⟨he, z⟩
          exact ⟨by omega, fun _ => by omega⟩
/-- what says that it is the best -/
theorem g_ch_some {d : Nat → Nat} {E : Nat → Bool} {n b : Nat} (h1 : b < n) (h2 : E b = true) (h3 : d b < 10000) (h4 : ∀ q, q < n → E q = true → d b ≤ d q ∧ (d q = d b → b ≤ q)) : g_ch d E n = some b := by
  rcases g_ch_spec d E n with ⟨_, a⟩ | ⟨c, a1, a2, a3, a4, a5⟩
  · exact absurd h3 (a b h1 h2)
  · have x := h4 c a2 a3
    have y := a5 b h1 h2
    have e : d b = d c := by omega
    have := x.2 e.symm
    have := y.2 e
    rw [a1, show c = b by omega]
theorem g_ch_none {d : Nat → Nat} {E : Nat → Bool} {n : Nat} (h : ∀ q, q < n → E q = true → ¬ d q < 10000) : g_ch d E n = none := by
  rcases g_ch_spec d E n with ⟨a, _⟩ | ⟨c, a1, a2, a3, a4, a5⟩
  · exact a
  · exact absurd a4 (h c a2 a3)
/-! THE CLASS, nets -/
def T_NT_leastOf : am_Sp := fun vs I L post => match vs with
  | [.int s] => ∃ q, q < 8 ∧ bt s q = true ∧ (∀ j, j < q → bt s j = false) ∧ post (some (.int (nI q))) I L
  | _ => False
def sp_NT_leastOf : Nat → am_Sp := fun i => match i with
  | 22 => T_RP_bitOf
  | _ => am_no
theorem ok_NT_leastOf : am_Ok am_SX sp_NT_leastOf false k_NT_leastOf 2 T_NT_leastOf := by
  intro vs I L post h
  unfold T_NT_leastOf at h
  split at h
  · rename_i s
    obtain ⟨q, hq, hb, hl, h⟩ := h
    refine ⟨Nat.le_of_ble_eq_true rfl, fun G hG => ?_⟩
    have loop : ∀ n k, q - k = n → k ≤ q → G 2 [some (.int s), some (.int (nI k))] [] I L := by
      intro n
      induction n with
      | zero =>
        intro k hn hk
        have hkq : k = q := by omega
        subst hkq
        refine hG [(2, [])] 50 2 _ _ _ _ (And.intro (fun _ => h) (fun h1 => ?_))
        refine And.intro (fun _ => h) (fun h2 => ?_)
        rw [f_bit_eq s (by omega), am_bz] at h2
        exact absurd hb h2
      | succ n ih =>
        intro k hn hk
        refine hG [(2, [])] 50 2 _ _ _ _ (And.intro (fun h1 => ?_) (fun _ => ?_))
        · exact absurd (nI_lt (by omega : k < 7) (by omega)) h1
        · refine And.intro (fun h2 => ?_) (fun _ => ?_)
          · rw [f_bit_eq s (by omega), am_bz, hl k (by omega)] at h2
            exact absurd (by simp) h2
          · show G 2 [some (.int s), some (.int (nI k + 1))] [] I L
            rw [nI_1]
            exact ih (k + 1) (by omega) (by omega)
    refine hG [(2, [])] 50 0 _ _ _ _ ?_
    exact loop q 0 (by omega) (by omega)
  · exact h.elim
def g_ar (net : Int64) (s : Int32) (i n : Nat) : Bool := decide (i < 8) && (List.range n).any (fun p => bt s p && bl net (8 * p + i))
theorem g_ar_succ (net : Int64) (s : Int32) (i n : Nat) : g_ar net s i (n + 1) = (g_ar net s i n || (decide (i < 8) && (bt s n && bl net (8 * n + i)))) := by
  unfold g_ar
  rw [List.range_succ, List.any_append]
  cases decide (i < 8) <;> simp
def T_NT_around : am_Sp := fun vs I L post => match vs with
  | [.long net, .int s] => ∀ x : Int32, (∀ i, i < 32 → bt x i = g_ar net s i 8) → post (some (.int x)) I L
  | _ => False
def sp_NT_around : Nat → am_Sp := fun i => match i with
  | 9 => T_RP_byteOf
  | 22 => T_RP_bitOf
  | _ => am_no
theorem ok_NT_around : am_Ok am_SX sp_NT_around false k_NT_around 5 T_NT_around := by
  intro vs I L post h
  unfold T_NT_around at h
  split at h
  · rename_i net s
    refine ⟨Nat.le_of_ble_eq_true rfl, fun G hG => ?_⟩
    have loop : ∀ n k (x : Int32), 8 - k = n → k ≤ 8 → (∀ i, i < 32 → bt x i = g_ar net s i k) → G 5 [some (.long net), none, some (.int s), some (.int x), some (.int (nI k))] [] I L := by
      intro n
      induction n with
      | zero =>
        intro k x hn hk hx
        have hk8 : k = 8 := by omega
        subst hk8
        exact hG [(5, [])] 50 5 _ _ _ _ (And.intro (fun _ => h x hx) (fun h1 => absurd h1 (nI_nlt (Nat.le_refl 8) (by omega))))
      | succ n ih =>
        intro k x hn hk hx
        refine hG [(5, [])] 50 5 _ _ _ _ (And.intro (fun h1 => absurd (nI_lt (by omega : k < 8) (by omega)) h1) (fun _ => ?_))
        refine And.intro (fun h2 => ?_) (fun h2 => ?_)
        · show G 5 [some (.long net), none, some (.int s), some (.int x), some (.int (nI k + 1))] [] I L
          rw [nI_1]
          refine ih (k + 1) x (by omega) (by omega) (fun i hi => ?_)
          rw [f_bit_eq s (by omega), am_bo] at h2
          rw [g_ar_succ, hx i hi]
          simp [h2]
        · show G 5 [some (.long net), none, some (.int s), some (.int (x ||| f_byte net (nI k))), some (.int (nI k + 1))] [] I L
          rw [nI_1]
          refine ih (k + 1) _ (by omega) (by omega) (fun i hi => ?_)
          rw [f_bit_eq s (by omega), am_bo] at h2
          rw [g_ar_succ, b_or, hx i hi, f_byte_bt net (by omega) hi, h2]
          simp
    refine hG [(5, [])] 50 0 _ _ _ _ ?_
    exact loop 8 0 0 (by omega) (by omega) (fun i hi => by rw [b_0]; simp [g_ar])
  · exact h.elim
theorem g_d_eq {E : Nat → Nat → Bool} {h q k : Nat} (hk : k < 8) (h1 : g_R E h k q = true) (h2 : ∀ j, j < k → g_R E h j q = false) : g_d E h q = k := by
  rcases g_d_spec E h q with ⟨a, b⟩ | ⟨a, b, c⟩
  · rw [b k hk] at h1; cases h1
  · rcases Nat.lt_or_ge (g_d E h q) k with z | z
    · rw [h2 _ z] at b; cases b
    · rcases Nat.eq_or_lt_of_le z with e | e
      · exact e.symm
      · rw [c k e] at h1; cases h1
theorem g_d_far {E : Nat → Nat → Bool} {h q : Nat} (h2 : ∀ j, j < 8 → g_R E h j q = false) : g_d E h q = 10000 := by
  rcases g_d_spec E h q with ⟨a, b⟩ | ⟨a, b, c⟩
  · exact a
  · rw [h2 _ a] at b; cases b
def g_rg (E : Nat → Nat → Bool) (h : Nat) : Nat → Nat → Bool
  | 0, i => g_R E h 0 i
  | k + 1, i => g_R E h (k + 1) i && !g_R E h k i
theorem g_rg_of {E : Nat → Nat → Bool} {h k i : Nat} (h1 : g_R E h k i = true) (h2 : ∀ j, j < k → g_R E h j i = false) : g_rg E h k i = true := by
  cases k with
  | zero => exact h1
  | succ k => simp [g_rg, h1, h2 k (by omega)]
theorem g_rg_R {E : Nat → Nat → Bool} {h k i : Nat} (h1 : g_rg E h k i = true) : g_R E h k i = true := by
  cases k with
  | zero => exact h1
  | succ k => simp only [g_rg, Bool.and_eq_true] at h1; exact h1.1
theorem g_stable {E : Nat → Nat → Bool} {h k : Nat} (hs : ∀ i, i < 8 → g_R E h (k + 1) i = true → g_R E h k i = true) : ∀ m i, i < 8 → g_R E h (k + m) i = true → g_R E h k i = true := by
  intro m
  induction m with
  | zero => intro i _ h; exact h
  | succ m ih =>
    intro i hi h
    rcases g_R_succ.mp (show g_R E _ ((k + m) + 1) i = true from h) with a | ⟨p, a, b, c⟩
    · exact ih i hi a
    · exact hs i hi (g_R_succ.mpr (Or.inr ⟨p, a, b, ih p a c⟩))
theorem am_leastb (P : Nat → Bool) : ∀ n, (∃ i, i < n ∧ P i = true) → ∃ q, q < n ∧ P q = true ∧ ∀ j, j < q → P j = false := by
  intro n
  induction n with
  | zero => rintro ⟨i, h, _⟩; omega
  | succ n ih =>
    rintro ⟨i, h1, h2⟩
    by_cases h : ∃ i, i < n ∧ P i = true
    · obtain ⟨q, a, b, c⟩ := ih h
      exact ⟨q, by omega, b, c⟩
    · have hi : i = n := by
        rcases Nat.lt_or_ge i n with z | z
        · exact absurd ⟨i, z, h2⟩ h
        · omega
      subst hi
      exact ⟨i, by omega, h2, fun j hj => by
        cases hp : P j with
        | false => rfl
        | true => exact absurd ⟨j, hj, hp⟩ h⟩
theorem bt_nonz {x : Int32} (h : ¬ x = 0) : ∃ i, i < 32 ∧ bt x i = true := by
  by_cases hq : ∃ i, i < 32 ∧ bt x i = true
  · exact hq
  · exact absurd (bt_zero.mpr (fun i hi => by
      cases hb : bt x i with
      | false => rfl
      | true => exact absurd ⟨i, hi, hb⟩ hq)) h
def T_NT_towards : am_Sp := fun vs I L post => match vs with
  | [.long net, .int x, .int y] => ∃ a g, a < 8 ∧ g < 8 ∧ x = nI a ∧ y = nI g ∧ post (some (.int (g_toI (g_to (fun p q => bl net (8 * p + q)) g a)))) I L
  | _ => False
def sp_NT_towards : Nat → am_Sp := fun i => match i with
  | 9 => T_RP_byteOf
  | 13 => T_NT_leastOf
  | 19 => T_NT_around
  | _ => am_no
set_option maxRecDepth 100000 in
theorem ok_NT_towards : am_Ok am_SX sp_NT_towards false k_NT_towards 8 T_NT_towards := by
  intro vs I L post h
  unfold T_NT_towards at h
  split at h
  · rename_i net x y
    obtain ⟨a, g, ha, hg, rfl, rfl, h⟩ := h
    refine ⟨Nat.le_of_ble_eq_true rfl, fun G hG => ?_⟩
    have nearb : ∀ i, i < 32 → bt (f_byte net (nI a)) i = (decide (i < 8) && bl net (8 * a + i)) := fun i hi => f_byte_bt net ha hi
    obtain ⟨near, hnear⟩ : ∃ x, x = f_byte net (nI a) := ⟨_, rfl⟩
    rw [← hnear] at nearb
    have key : ∀ E : Nat → Nat → Bool, (E = fun p q => bl net (8 * p + q)) → ∀ n k (ring reached : Int32), 8 - k = n → k ≤ 8 → (∀ i, i < 32 → bt ring i = (decide (i < 8) && g_rg E g k i)) → (∀ i, i < 32 → bt reached i = (decide (i < 8) && g_R E g k i)) → (∀ q, q < 8 → E a q = true → ∀ j, j < k → g_R E g j q = false) → G 19 [some (.long net), none, some (.int (nI a)), some (.int (nI g)), some (.int near), some (.int ring), some (.int reached), some (.int (nI k))] [] I L := by
      intro E hE n
      have h : post (some (.int (g_toI (g_to E g a)))) I L := by rw [hE]; exact h
      have hEb : ∀ p q, E p q = bl net (8 * p + q) := fun p q => by rw [hE]
      clear hE
      induction n with
      | zero =>
        intro k ring reached hn hk h1 h2 h3
        have hk8 : k = 8 := by omega
        subst hk8
        have e : g_to E g a = none := g_ch_none (fun q hq he => by rw [g_d_far (h3 q hq he)]; omega)
        rw [e] at h
        exact hG [(19, [])] 50 19 _ _ _ _ (And.intro (fun _ => h) (fun q => absurd q (nI_nlt (Nat.le_refl 8) (by omega))))
      | succ n ih =>
        intro k ring reached hn hk h1 h2 h3
        refine hG [(19, [])] 50 19 _ _ _ _ (And.intro (fun q => absurd (nI_lt (by omega : k < 8) (by omega)) q) (fun _ => And.intro (fun hz => ?_) (fun hz => ?_)))
        · -- the ring is empty
          have hno : ∀ i, i < 8 → g_rg E g k i = false := fun i hi => by
            have := bt_zero.mp hz i (by omega)
            rw [h1 i (by omega)] at this
            simpa [hi] using this
          have hk0 : k ≠ 0 := by
            intro hk0
            subst hk0
            have := hno g hg
            simp [g_rg, g_R] at this
          obtain ⟨k', rfl⟩ : ∃ k', k = k' + 1 := ⟨k - 1, by omega⟩
          have hst : ∀ i, i < 8 → g_R E g (k' + 1) i = true → g_R E g k' i = true := fun i hi hr => by
            have := hno i hi
            simp only [g_rg, hr, Bool.true_and] at this
            simpa using this
          have e : g_to E g a = none := g_ch_none (fun q hq he => by
            rw [g_d_far (fun j hj => ?_)]
            · omega
            · rcases Nat.lt_or_ge j (k' + 1) with z | z
              · exact h3 q hq he j z
              · cases hr : g_R E g j q with
                | false => rfl
                | true =>
                  have := g_stable hst (j - k') q hq (by rw [show k' + (j - k') = j by omega]; exact hr)
                  rw [h3 q hq he k' (by omega)] at this
                  cases this)
          rw [e] at h
          exact h
        · refine And.intro (fun h4 => ?_) (fun h4 => ?_)
          · -- none is near
            have hzz : ∀ i, i < 8 → E a i = true → g_R E g k i = false := fun i hi he => by
              cases hr : g_R E g k i with
              | false => rfl
              | true =>
                have hb := bt_zero.mp h4 i (by omega)
                rw [b_and, h1 i (by omega), nearb i (by omega), g_rg_of hr (h3 i hi he), ← hEb, he] at hb
                simp [hi] at hb
            intro x hx
            show G 19 [some (.long net), none, some (.int (nI a)), some (.int (nI g)), some (.int near), some (.int (x &&& (reached ^^^ (-1)))), some (.int (reached ||| (x &&& (reached ^^^ (-1))))), some (.int (nI k + 1))] [] I L
            rw [nI_1]
            have hnew : ∀ i, i < 32 → bt (x &&& (reached ^^^ (-1))) i = (decide (i < 8) && g_rg E g (k + 1) i) := fun i hi => by
              rw [b_and, hx i hi, bt_not hi, h2 i hi]
              by_cases hi8 : i < 8
              · simp only [g_ar, hi8, decide_true, Bool.true_and, g_rg]
                cases hr : g_R E g k i with
                | true => simp
                | false =>
                  simp only [Bool.not_false, Bool.and_true]
                  rw [Bool.eq_iff_iff, List.any_eq_true, g_R_succ, hr]
                  constructor
                  · rintro ⟨p, hp, hpq⟩
                    rw [List.mem_range] at hp
                    rw [Bool.and_eq_true, h1 p (by omega)] at hpq
                    exact Or.inr ⟨p, hp, by rw [hEb]; exact hpq.2, g_rg_R (by simpa [hp] using hpq.1)⟩
                  · rintro (z | ⟨p, hp, he, hrp⟩)
                    · cases z
                    · refine ⟨p, List.mem_range.mpr hp, ?_⟩
                      rw [Bool.and_eq_true, h1 p (by omega), ← hEb]
                      refine ⟨?_, he⟩
                      have : g_rg E g k p = true := g_rg_of hrp (fun j hj => by
                        cases hq : g_R E g j p with
                        | false => rfl
                        | true =>
                          have : g_R E g (j + 1) i = true := g_R_succ.mpr (Or.inr ⟨p, hp, he, hq⟩)
                          have := g_R_mono (show j + 1 ≤ k by omega) this
                          rw [hr] at this
                          cases this)
                      simp [hp, this]
              · simp [g_ar, hi8]
            refine ih (k + 1) _ _ (by omega) (by omega) hnew (fun i hi => ?_) (fun q hq he j hj => ?_)
            · rw [b_or, h2 i hi, hnew i hi]
              by_cases hi8 : i < 8
              · simp only [hi8, decide_true, Bool.true_and, g_rg]
                cases hr : g_R E g k i with
                | true => simp [g_R_mono (Nat.le_succ k) hr]
                | false => simp
              · simp [hi8]
            · rcases Nat.lt_or_ge j k with z | z
              · exact h3 q hq he j z
              · rw [show j = k by omega]
                exact hzz q hq he
          · -- here one is near
            obtain ⟨i, hi, hb⟩ := bt_nonz h4
            obtain ⟨q, hq, hqb, hql⟩ := am_leastb (fun i => bt (ring &&& near) i) 32 ⟨i, hi, hb⟩
            have hq2 := hqb
            simp only [b_and, h1 q hq, nearb q hq, Bool.and_eq_true, decide_eq_true_eq] at hq2
            obtain ⟨⟨hq8, hrg⟩, _, hqe⟩ := hq2
            rw [← hEb] at hqe
            have hd : g_d E g q = k := g_d_eq (by omega) (g_rg_R hrg) (h3 q hq8 hqe)
            have e : g_to E g a = some q := g_ch_some hq8 hqe (by omega) (fun q' hq' he' => by
              rw [hd]
              rcases g_d_spec E g q' with ⟨z, _⟩ | ⟨z1, z2, z3⟩
              · rw [z]; exact ⟨by omega, fun z => by omega⟩
              · refine ⟨?_, fun z => ?_⟩
                · rcases Nat.lt_or_ge (g_d E g q') k with y | y
                  · rw [h3 q' hq' he' _ y] at z2; cases z2
                  · exact y
                · rcases Nat.lt_or_ge q' q with y | y
                  · have := hql q' y
                    simp only [b_and, h1 q' (by omega), nearb q' (by omega), ← hEb, he'] at this
                    rw [g_rg_of (by rw [← z]; exact z2) (by rw [← z]; exact z3)] at this
                    simp [hq'] at this
                  · exact y)
            rw [e] at h
            exact ⟨q, hq8, hqb, hql, h⟩
    refine hG [(19, [])] 50 0 _ _ _ _ ?_
    rw [hnear] at key
    exact key _ rfl 8 0 _ _ (by omega) (by omega) (fun i hi => by
      rw [bt_one (k := g) (by omega) hi]
      by_cases hi8 : i < 8
      · simp [hi8, g_rg, g_R]
      · have : ¬ i = g := by omega
        simp [hi8, this]) (fun i hi => by
      rw [bt_one (k := g) (by omega) hi]
      by_cases hi8 : i < 8
      · simp [hi8, g_R]
      · have : ¬ i = g := by omega
        simp [hi8, this]) (fun q _ _ j hj => by omega)
  · exact h.elim
end
section
/-! THE ROAD as a row of numbers G: 0 how many ways, 1.. lesser ends, 13.. greater ends, 25 doubtful, 26 stones, 27.. sides, 35.. abouts, 43 home, 44 snow -/
def g_set (b k : Nat) : Nat := b ||| 2 ^ k
def g_clr (b k : Nat) : Nat := if b.testBit k = true then b ^^^ 2 ^ k else b
theorem g_set_t (b k i : Nat) : (g_set b k).testBit i = (b.testBit i || decide (i = k)) := by
  unfold g_set
  rw [Nat.testBit_or, Nat.testBit_two_pow]
  by_cases h : i = k
  · simp [h]
  · simp [h, Ne.symm h]
theorem g_clr_t (b k i : Nat) : (g_clr b k).testBit i = (b.testBit i && !decide (i = k)) := by
  unfold g_clr
  by_cases hb : b.testBit k = true
  · rw [if_pos hb, Nat.testBit_xor, Nat.testBit_two_pow]
    by_cases h : i = k
    · subst h; simp [hb]
    · simp [h, Ne.symm h]
  · rw [if_neg hb]
    by_cases h : i = k
    · subst h; simpa using hb
    · simp [h]
theorem g_set_lt {b k n : Nat} (hb : b < 2 ^ n) (hk : k < n) : g_set b k < 2 ^ n := Nat.or_lt_two_pow hb (Nat.pow_lt_pow_right (by omega) hk)
theorem g_clr_lt {b k n : Nat} (hb : b < 2 ^ n) (hk : k < n) : g_clr b k < 2 ^ n := by
  unfold g_clr
  split
  · exact Nat.xor_lt_two_pow hb (Nat.pow_lt_pow_right (by omega) hk)
  · exact hb
theorem g_set_I (b : Nat) {k : Nat} (hk : k < 32) : nI b ||| ((1 : Int32) <<< (nI k &&& 31)) = nI (g_set b k) := by
  apply b_ext
  intro i hi
  rw [b_or, bt_nI _ _ hi, bt_one hk hi, bt_nI _ _ hi, g_set_t]
theorem g_clr_I (b : Nat) {k : Nat} (hk : k < 32) : nI b &&& (((1 : Int32) <<< (nI k &&& 31)) ^^^ (-1)) = nI (g_clr b k) := by
  apply b_ext
  intro i hi
  rw [b_and, bt_nI _ _ hi, bt_not hi, bt_one hk hi, bt_nI _ _ hi, g_clr_t]
theorem f_bit_nI (m : Nat) {k : Nat} (hk : k < 32) : f_bit (nI m) (nI k) = am_b (m.testBit k = true) := by
  rw [f_bit_eq _ hk]
  exact am_bc (by rw [bt_nI _ _ hk])
def g_j (G : Nat → Nat) (a b k : Nat) : Bool := (decide (G (1 + k) = a) && decide (G (13 + k) = b)) || (decide (G (1 + k) = b) && decide (G (13 + k) = a))
def g_w (G : Nat → Nat) (a b : Nat) : Nat → Nat
  | 0 => 0
  | n + 1 => if g_j G a b n = true then n + 1 else g_w G a b n
/-- the way that joins two places, and 1; 0: none -/
def g_wy (G : Nat → Nat) (a b : Nat) : Nat := g_w G a b (G 0)
/-- joined by a way that isn't in a set -/
def g_E (G : Nat → Nat) (s a b : Nat) : Bool := !decide (g_wy G a b = 0) && !s.testBit (g_wy G a b - 1)
theorem g_w_spec (G : Nat → Nat) (a b : Nat) : ∀ n, (g_w G a b n = 0 ∧ ∀ k, k < n → g_j G a b k = false) ∨ ∃ k, g_w G a b n = k + 1 ∧ k < n ∧ g_j G a b k = true := by
  intro n
  induction n with
  | zero => left; exact ⟨rfl, fun k h => by omega⟩
  | succ n ih =>
    by_cases h : g_j G a b n = true
    · right; exact ⟨n, by simp [g_w, h], by omega, h⟩
    · have e : g_w G a b (n + 1) = g_w G a b n := by simp [g_w, h]
      rw [e]
      rcases ih with ⟨h1, h2⟩ | ⟨k, h1, h2, h3⟩
      · left
        refine ⟨h1, fun k hk => ?_⟩
        rcases Nat.lt_or_ge k n with z | z
        · exact h2 k z
        · rw [show k = n by omega]; simpa using h
      · right; exact ⟨k, h1, by omega, h3⟩
def g_pc : Nat → Nat → Nat
  | _, 0 => 0
  | m, n + 1 => g_pc m n + (if m.testBit n = true then 1 else 0)
/-- a road as there can be -/
def WG (G : Nat → Nat) : Prop :=
  G 0 ≤ 12 ∧ (∀ k, k < G 0 → G (1 + k) < G (13 + k) ∧ G (13 + k) < 8) ∧ (∀ j k, j < k → k < G 0 → ¬ (G (1 + j) = G (1 + k) ∧ G (13 + j) = G (13 + k))) ∧
  G 25 < 2 ^ 12 ∧ (∀ k, (G 25).testBit k = true → k < G 0) ∧ g_pc (G 25) 12 ≤ 6 ∧ G 26 < 256 ∧ (∀ p, p < 8 → (G 26).testBit p = true → G (27 + p) < 8 ∧ G (35 + p) < G 0) ∧ G 43 < 8 ∧ G 44 < 2 ^ 12 ∧ (∀ k, (G 44).testBit k = true → (G 25).testBit k = true)
theorem WG_uniq {G : Nat → Nat} (h : WG G) {a b j k : Nat} (hj : j < G 0) (hk : k < G 0) (h1 : g_j G a b j = true) (h2 : g_j G a b k = true) : j = k := by
  obtain ⟨-, hlt, hd, -⟩ := h
  have key : ∀ j k, j < k → k < G 0 → g_j G a b j = true → g_j G a b k = true → False := by
    intro j k hjk hk h1 h2
    have := hd j k hjk hk
    have a1 := hlt j (by omega)
    have a2 := hlt k hk
    simp only [g_j, Bool.or_eq_true, Bool.and_eq_true, decide_eq_true_eq] at h1 h2
    omega
  rcases Nat.lt_trichotomy j k with z | z | z
  · exact (key j k z hk h1 h2).elim
  · exact z
  · exact (key k j z hj h2 h1).elim
theorem g_wy_of {G : Nat → Nat} (h : WG G) {a b k : Nat} (hk : k < G 0) (h1 : g_j G a b k = true) : g_wy G a b = k + 1 := by
  rcases g_w_spec G a b (G 0) with ⟨_, z⟩ | ⟨j, z1, z2, z3⟩
  · rw [z k hk] at h1; cases h1
  · rw [WG_uniq h hk z2 h1 z3]; exact z1
theorem g_wy_sym (G : Nat → Nat) (a b : Nat) : g_wy G a b = g_wy G b a := by
  unfold g_wy
  have : ∀ n, g_w G a b n = g_w G b a n := by
    intro n
    induction n with
    | zero => rfl
    | succ n ih =>
      have e : g_j G a b n = g_j G b a n := by simp only [g_j]; rw [Bool.or_comm]
      simp only [g_w, e, ih]
  exact this _
theorem g_wy_self {G : Nat → Nat} (h : WG G) (a : Nat) : g_wy G a a = 0 := by
  rcases g_w_spec G a a (G 0) with ⟨z, _⟩ | ⟨j, z1, z2, z3⟩
  · exact z
  · have a1 := h.2.1 j z2
    simp only [g_j, Bool.or_eq_true, Bool.and_eq_true, decide_eq_true_eq] at z3
    omega
theorem g_wy_le (G : Nat → Nat) (a b : Nat) : g_wy G a b ≤ G 0 := by
  rcases g_w_spec G a b (G 0) with ⟨z, _⟩ | ⟨j, z1, z2, z3⟩
  · unfold g_wy; omega
  · unfold g_wy; omega
/-- the bits of a pair -/
theorem f_pair_bl {a b p q : Nat} (ha : a < 8) (hb : b < 8) (hp : p < 8) (hq : q < 8) : bl (f_pair (nI a) (nI b)) (8 * p + q) = ((decide (p = a) && decide (q = b)) || (decide (p = b) && decide (q = a))) := by
  unfold f_pair
  rw [show (8 : Int32) = nI 8 from rfl, pk_mul, pk_mul, nI_add, nI_add, bl_or, bl_one (by omega) (by omega), bl_one (by omega) (by omega)]
  have e : ∀ x y, x < 8 → y < 8 → decide (8 * p + q = x * 8 + y) = (decide (p = x) && decide (q = y)) := by
    intro x y hx hy
    rw [Bool.eq_iff_iff]
    simp only [Bool.and_eq_true, decide_eq_true_eq]
    omega
  rw [e a b ha hb, e b a hb ha]
/-- believing a way open, or shut -/
theorem g_E_clr {G : Nat → Nat} (h : WG G) {k : Nat} (hk : k < G 0) (s p q : Nat) : g_E G (g_clr s k) p q = (g_E G s p q || g_j G p q k) := by
  unfold g_E
  by_cases hj : g_j G p q k = true
  · rw [g_wy_of h hk hj, hj]
    simp [g_clr_t]
  · have hj' : g_j G p q k = false := by simpa using hj
    rw [hj', Bool.or_false, g_clr_t]
    by_cases h0 : g_wy G p q = 0
    · simp [h0]
    · have : ¬ g_wy G p q - 1 = k := by
        intro e
        rcases g_w_spec G p q (G 0) with ⟨z, _⟩ | ⟨j, z1, z2, z3⟩
        · exact h0 z
        · have : g_wy G p q = j + 1 := z1
          have : j = k := by omega
          subst this
          exact hj z3
      simp [this]
theorem g_E_set {G : Nat → Nat} (h : WG G) {k : Nat} (hk : k < G 0) (s p q : Nat) : g_E G (g_set s k) p q = (g_E G s p q && !g_j G p q k) := by
  unfold g_E
  by_cases hj : g_j G p q k = true
  · rw [g_wy_of h hk hj, hj]
    simp [g_set_t]
  · have hj' : g_j G p q k = false := by simpa using hj
    rw [hj', Bool.not_false, Bool.and_true, g_set_t]
    by_cases h0 : g_wy G p q = 0
    · simp [h0]
    · have : ¬ g_wy G p q - 1 = k := by
        intro e
        rcases g_w_spec G p q (G 0) with ⟨z, _⟩ | ⟨j, z1, z2, z3⟩
        · exact h0 z
        · have : g_wy G p q = j + 1 := z1
          have : j = k := by omega
          subst this
          exact hj z3
      simp [this]
/-- the cells of a road of the class hold G -/
def RC (I : am_I) (L : am_J) (r : Nat) (G : Nat → Nat) : Prop :=
  I r 5 = nI (G 0) ∧ I r 6 = nI (G 25) ∧ I r 7 = nI (G 44) ∧ I r 8 = nI (G 26) ∧ I r 9 = nI (G 43) ∧
  (∀ k, k < G 0 → I (r + 1) k = nI (G (1 + k)) ∧ I (r + 2) k = nI (G (13 + k))) ∧
  (∀ a b, a < 8 → b < 8 → I (r + 3) (8 * a + b) = nI (g_wy G a b)) ∧
  (∀ p, p < 8 → (G 26).testBit p = true → I (r + 4) p = nI (G (27 + p)) ∧ I (r + 5) p = nI (G (35 + p))) ∧
  (∀ a b, a < 8 → b < 8 → bl (L r 10) (8 * a + b) = g_E G 0 a b) ∧
  (∀ a b, a < 8 → b < 8 → bl (L r 11) (8 * a + b) = g_E G (G 25) a b)
theorem RC_fr {I I' : am_I} {L L' : am_J} {r : Nat} {G : Nat → Nat} (h : RC I L r G) (hI : ∀ a, r ≤ a → a ≤ r + 5 → I' a = I a) (hL : L' r = L r) : RC I' L' r G := by
  unfold RC at *
  rw [hI r (by omega) (by omega), hI (r + 1) (by omega) (by omega), hI (r + 2) (by omega) (by omega), hI (r + 3) (by omega) (by omega), hI (r + 4) (by omega) (by omega), hI (r + 5) (by omega) (by omega), hL]
  exact h
/-! JOURNEYS -/
/-- what a stone makes of what is believed shut, for who comes to a place from another -/
def g_heed (G : Nat → Nat) (kind snow stones p f b : Nat) : Nat :=
  if stones.testBit p = true then
    (if kind = 0 ∨ (G (27 + p) = f ∧ (kind = 1 ∨ kind = 3)) then (if (snow.testBit (G (35 + p)) = false ↔ G (27 + p) = f) then g_clr b (G (35 + p)) else g_set b (G (35 + p)))
     else if kind = 3 then (if (snow.testBit (G (35 + p)) = false ↔ G (27 + p) = f) then g_set b (G (35 + p)) else g_clr b (G (35 + p)))
     else b)
  else b
def g_tgt (G : Nat → Nat) (s : Nat × Nat) : Option Nat := g_to (g_E G s.2) (G 43) s.1
def g_nx (G : Nat → Nat) (kind snow stones : Nat) (s : Nat × Nat) : Nat × Nat := match g_tgt G s with
  | none => s
  | some t => if snow.testBit (g_wy G s.1 t - 1) = true then (s.1, g_set s.2 (g_wy G s.1 t - 1)) else (t, g_heed G kind snow stones t s.1 (g_clr s.2 (g_wy G s.1 t - 1)))
def g_S (G : Nat → Nat) (kind snow stones f : Nat) : Nat → Nat × Nat
  | 0 => (f, 0)
  | i + 1 => g_nx G kind snow stones (g_S G kind snow stones f i)
/-- it stood so ahead -/
def g_sn (S : Nat → Nat × Nat) (i : Nat) (s : Nat × Nat) : Bool := (List.range i).any (fun j => decide (S j = s))
/-- 0 home, 1 lost, 2 round, 3 under way -/
def g_end (G : Nat → Nat) (S : Nat → Nat × Nat) (i : Nat) : Nat := if (S i).1 = G 43 then 0 else if g_sn S i (S i) = true then 2 else if g_tgt G (S i) = none then 1 else 3
theorem g_to_spec {E : Nat → Nat → Bool} {h a t : Nat} (e : g_to E h a = some t) : t < 8 ∧ E a t = true := by
  rcases g_ch_spec (g_d E h) (E a) 8 with ⟨z, _⟩ | ⟨b, z1, z2, z3, _⟩
  · rw [show g_ch (g_d E h) (E a) 8 = some t from e] at z; cases z
  · rw [show g_ch (g_d E h) (E a) 8 = some t from e] at z1; cases z1; exact ⟨z2, z3⟩
theorem g_E_wy {G : Nat → Nat} {s a b : Nat} (h : g_E G s a b = true) : ∃ k, g_wy G a b = k + 1 ∧ k < G 0 ∧ g_j G a b k = true ∧ s.testBit k = false := by
  unfold g_E at h
  simp only [Bool.and_eq_true, Bool.not_eq_true', decide_eq_false_iff_not] at h
  rcases g_w_spec G a b (G 0) with ⟨z, _⟩ | ⟨k, z1, z2, z3⟩
  · exact absurd z h.1
  · have e : g_wy G a b = k + 1 := z1
    rw [e] at h
    exact ⟨k, e, z2, z3, h.2⟩
theorem g_heed_lt {G : Nat → Nat} (hG : WG G) {kind snow stones p f b : Nat} (hs : ∀ q, stones.testBit q = true → (G 26).testBit q = true) (hp : p < 8) (hb : b < 2 ^ 12) : g_heed G kind snow stones p f b < 2 ^ 12 := by
  unfold g_heed
  split
  · rename_i h
    have := (hG.2.2.2.2.2.2.2.1 p hp (hs p h)).2
    have := hG.1
    split
    · split
      · exact g_clr_lt hb (by omega)
      · exact g_set_lt hb (by omega)
    · split
      · split
        · exact g_set_lt hb (by omega)
        · exact g_clr_lt hb (by omega)
      · exact hb
  · exact hb
theorem g_S_lt {G : Nat → Nat} (hG : WG G) {kind snow stones f : Nat} (hs : ∀ q, stones.testBit q = true → (G 26).testBit q = true) (hf : f < 8) : ∀ i, (g_S G kind snow stones f i).1 < 8 ∧ (g_S G kind snow stones f i).2 < 2 ^ 12 := by
  intro i
  induction i with
  | zero => exact ⟨hf, show 0 < 2 ^ 12 by decide⟩
  | succ i ih =>
    show (g_nx G kind snow stones (g_S G kind snow stones f i)).1 < 8 ∧ (g_nx G kind snow stones (g_S G kind snow stones f i)).2 < 2 ^ 12
    generalize g_S G kind snow stones f i = s at ih
    unfold g_nx
    cases ht : g_tgt G s with
    | none => exact ih
    | some t =>
      obtain ⟨h1, h2⟩ := g_to_spec ht
      obtain ⟨k, e, hk, _⟩ := g_E_wy h2
      have := hG.1
      dsimp only
      rw [e]
      split
      · exact ⟨ih.1, g_set_lt ih.2 (by omega)⟩
      · exact ⟨h1, g_heed_lt hG hs h1 (g_clr_lt ih.2 (by omega))⟩
end
section
/-! THE CLASS, what was seen -/
theorem am_lt {a b : Nat} (h : a < b) (hb : Nat.ble b 2147483647 = true) : nI a < nI b := nI_lt h (by have := Nat.le_of_ble_eq_true hb; omega)
theorem am_nlt {a b : Nat} (h : b ≤ a) (hb : Nat.ble a 2147483647 = true) : ¬ nI a < nI b := nI_nlt h (by have := Nat.le_of_ble_eq_true hb; omega)
theorem am_vin {n N : Nat} (h : n < N) (hN : Nat.ble N 2147483647 = true) : vp_in (nI n) N := vp_in_nI h (by have := Nat.le_of_ble_eq_true hN; omega)
def g_cnt (P : Nat → Bool) : Nat → Nat
  | 0 => 0
  | n + 1 => g_cnt P n + (if P n = true then 1 else 0)
theorem g_cnt_congr {P Q : Nat → Bool} : ∀ n, (∀ j, j < n → P j = Q j) → g_cnt P n = g_cnt Q n := by
  intro n
  induction n with
  | zero => intro _; rfl
  | succ n ih => intro h; simp only [g_cnt, ih (fun j hj => h j (by omega)), h n (by omega)]
theorem g_cnt_le (P : Nat → Bool) : ∀ n, g_cnt P n ≤ n := by
  intro n
  induction n with
  | zero => exact Nat.le_refl _
  | succ n ih => simp only [g_cnt]; split <;> omega
theorem g_cnt_lt {P : Nat → Bool} {w : Nat} (hw : P w = false) : ∀ n, w < n → g_cnt P n < n := by
  intro n
  induction n with
  | zero => intro h; omega
  | succ n ih =>
    intro h
    simp only [g_cnt]
    rcases Nat.lt_or_ge w n with z | z
    · have := ih z
      split <;> omega
    · have : w = n := by omega
      subst this
      rw [hw]
      have := g_cnt_le P w
      simp; omega
theorem g_cnt_add {P Q : Nat → Bool} {w : Nat} (h1 : P w = false) (h2 : Q w = true) (h3 : ∀ j, j ≠ w → Q j = P j) : ∀ n, w < n → g_cnt Q n = g_cnt P n + 1 := by
  intro n
  induction n with
  | zero => intro h; omega
  | succ n ih =>
    intro h
    simp only [g_cnt]
    rcases Nat.lt_or_ge w n with z | z
    · rw [ih z, h3 n (by omega)]
      omega
    · have : w = n := by omega
      subst this
      rw [g_cnt_congr w (fun j hj => h3 j (by omega)), h1, h2]
      simp
theorem g_cnt_zero {P : Nat → Bool} : ∀ n, (∀ j, j < n → P j = false) → g_cnt P n = 0 := by
  intro n
  induction n with
  | zero => intro _; rfl
  | succ n ih => intro h; simp [g_cnt, ih (fun j hj => h j (by omega)), h n (by omega)]
/-- the cells of Seen hold a set of states, 4096 * place + shut -/
def SC (I : am_I) (L : am_J) (V : Nat → Bool) : Prop := ∃ c : Nat, c ≤ 512 ∧ I 22 2 = nI c ∧ c = g_cnt (fun w => decide (¬ L 23 w = 0)) 512 ∧ (∀ w, w < 512 → ¬ L 23 w = 0 → ∃ j, j < c ∧ I 24 j = nI w) ∧ (∀ j, j < c → ∃ w, w < 512 ∧ I 24 j = nI w) ∧ (∀ s, s < 32768 → bl (L 23 (s / 64)) (s % 64) = V s)
theorem SC_fr {I I' : am_I} {L L' : am_J} {V : Nat → Bool} (h : SC I L V) (h1 : I' 22 2 = I 22 2) (h2 : I' 24 = I 24) (h3 : L' 23 = L 23) : SC I' L' V := by
  unfold SC at *
  rw [h1, h2, h3]
  exact h
theorem SC_congr {I : am_I} {L : am_J} {V V' : Nat → Bool} (h : SC I L V) (e : ∀ s, s < 32768 → V s = V' s) : SC I L V' := by
  obtain ⟨c, a1, a2, a3, a4, a5, a6⟩ := h
  exact ⟨c, a1, a2, a3, a4, a5, fun s hs => by rw [a6 s hs, e s hs]⟩
def T_SN_forget : am_Sp := fun vs I L post => match vs with
  | [.ref o] => o = 22 ∧ ∃ V, SC I L V ∧ ∀ (I2 : am_I) (L2 : am_J), SC I2 L2 (fun _ => false) → (∀ a, a ≠ 22 → a ≠ 24 → I2 a = I a) → (∀ a, a ≠ 23 → L2 a = L a) → post none I2 L2
  | _ => False
abbrev sp_SN_forget : Nat → am_Sp := fun _ => am_no
theorem ok_SN_forget : am_Ok am_SX sp_SN_forget false k_SN_forget 3 T_SN_forget := by
  intro vs I L post h
  unfold T_SN_forget at h
  split at h
  · rename_i o
    obtain ⟨rfl, V, hs, h⟩ := h
    refine ⟨Nat.le_of_ble_eq_true rfl, fun G hG => ?_⟩
    obtain ⟨c, hc, h1, h2, h3, h4, h5⟩ := hs
    have loop : ∀ n k x (L2 : am_J), c - k = n → k ≤ c → (∀ a, a ≠ 23 → L2 a = L a) → (∀ w, w < 512 → ¬ L2 23 w = 0 → ∃ j, k ≤ j ∧ j < c ∧ I 24 j = nI w) → G 2 [some (.ref 22), some (.int (nI k)), x] [] I L2 := by
      intro n
      induction n with
      | zero =>
        intro k x L2 hn hk hL hw
        have hkc : k = c := by omega
        subst hkc
        refine hG [(2, [])] 50 2 _ _ _ _ (And.intro (fun _ => ?_) (fun q => ?_))
        · have hz : ∀ w, w < 512 → L2 23 w = 0 := fun w hw2 => by
            by_cases q : L2 23 w = 0
            · exact q
            · obtain ⟨j, a, b, _⟩ := hw w hw2 q
              omega
          refine h (am_ui I 22 2 0) L2 ⟨0, by omega, by simp [am_ui_r]; rfl, (g_cnt_zero 512 (fun j hj => by simp [hz j hj])).symm, fun w hw2 q => absurd (hz w hw2) q, fun j hj => by omega, fun s hs => by rw [hz _ (by omega), bl_0]⟩ (fun a ha hb => am_ui_o ha) hL
        · rw [h1] at q
          exact absurd q (nI_nlt (Nat.le_refl k) (by omega))
      | succ n ih =>
        intro k x L2 hn hk hL hw
        have hkc : k < c := by omega
        obtain ⟨w, hw1, hw2⟩ := h4 k hkc
        refine hG [(2, []), (24, [])] 50 2 _ _ _ _ (And.intro (fun q => ?_) (fun _ => ?_))
        · rw [h1] at q
          exact absurd (nI_lt hkc (by omega)) q
        · refine am_nf (am_lt (by omega : k < 512) rfl) (And.intro (am_vin (N := 512) (by omega) rfl) ?_)
          have e1 : (nI k).toNatClampNeg = k := nI_clamp (by omega)
          show G 24 [some (.ref 22), some (.int (nI k)), some (.int (I 24 (nI k).toNatClampNeg))] [] I L2
          rw [e1, hw2]
          refine hG [(2, [])] 50 24 _ _ _ _ (am_f (nI_pos (by omega)) (am_nf (am_lt hw1 rfl) (And.intro (am_vin hw1 rfl) ?_)))
          · show G 2 [some (.ref 22), some (.int (nI k + 1)), some (.int (nI w))] [] I (am_uj L2 23 (nI w).toNatClampNeg 0)
            rw [nI_clamp (by omega), nI_1]
            refine ih (k + 1) _ _ (by omega) (by omega) (fun a ha => (am_uj_o ha).trans (hL a ha)) (fun w2 hw3 hw4 => ?_)
            rw [am_uj_r] at hw4
            by_cases hq : w2 = w
            · rw [if_pos ⟨rfl, hq⟩] at hw4
              exact absurd rfl hw4
            · rw [if_neg (fun z => hq z.2)] at hw4
              obtain ⟨j, a, b, d⟩ := hw w2 hw3 hw4
              refine ⟨j, ?_, b, d⟩
              rcases Nat.eq_or_lt_of_le a with z | z
              · subst z
                rw [hw2] at d
                exact absurd ((nI_eq (by omega) (by omega)).mp d).symm hq
              · exact z
    refine hG [(2, [])] 50 0 _ _ _ _ ?_
    exact loop c 0 _ L (by omega) (by omega) (fun _ _ => rfl) (fun w hw q => by
      obtain ⟨j, a, b⟩ := h3 w hw q
      exact ⟨j, by omega, a, b⟩)
  · exact h.elim
theorem lg_cmp_0 (x : Int64) : lg_cmp x 0 = 0 ↔ x = 0 := by
  unfold lg_cmp
  by_cases h : x > 0
  · rw [if_pos h]
    constructor
    · intro q; exact absurd q (by decide)
    · intro q; subst q; exact absurd h (by decide)
  · rw [if_neg h]
    by_cases h2 : x = 0
    · simp [h2]
    · rw [if_neg h2]
      constructor
      · intro q; exact absurd q (by decide)
      · intro q; exact absurd q h2
theorem bl_land_0 (x : Int64) {k : Nat} (hk : k < 64) : (x &&& ((1 : Int64) <<< ((nI k).toInt64 &&& 63))) = 0 ↔ bl x k = false := by
  constructor
  · intro h
    have : bl (x &&& ((1 : Int64) <<< ((nI k).toInt64 &&& 63))) k = false := by rw [h, bl_0]
    rw [bl_and, bl_one hk hk] at this
    simpa using this
  · intro h
    apply bl_ext
    intro i hi
    rw [bl_and, bl_one hk hi, bl_0]
    by_cases e : i = k
    · subst e; simp [h]
    · simp [e]
theorem bl_lor_n0 (x : Int64) {k : Nat} (hk : k < 64) : ¬ (x ||| ((1 : Int64) <<< ((nI k).toInt64 &&& 63))) = 0 := by
  intro h
  have : bl (x ||| ((1 : Int64) <<< ((nI k).toInt64 &&& 63))) k = false := by rw [h, bl_0]
  rw [bl_or, bl_one hk hk] at this
  simp at this
theorem nI_or (a b : Nat) : nI a ||| nI b = nI (a ||| b) := by
  apply b_ext
  intro i hi
  rw [b_or, bt_nI _ _ hi, bt_nI _ _ hi, bt_nI _ _ hi, Nat.testBit_or]
theorem st_I {p b : Nat} (hp : p < 8) (hb : b < 4096) : (nI p <<< ((12 : Int32) &&& 31)) ||| nI b = nI (p * 4096 + b) := by
  rw [pk_shlN ((12 : Int32) &&& 31) 12 (by decide) (by omega), nI_or]
  congr 1
  rw [show p * 2 ^ 12 = p <<< 12 from (Nat.shiftLeft_eq p 12).symm, ← Nat.shiftLeft_add_eq_or_of_lt (show b < 2 ^ 12 by omega), Nat.shiftLeft_eq]
theorem SC_put {I : am_I} {L : am_J} {V : Nat → Bool} {st : Nat} (hst : st < 32768) (h : SC I L V) : (¬ L 23 (st / 64) = 0 → SC I (am_uj L 23 (st / 64) (L 23 (st / 64) ||| ((1 : Int64) <<< ((nI (st % 64)).toInt64 &&& 63)))) (fun s => V s || decide (s = st))) ∧
    (L 23 (st / 64) = 0 → ∃ c : Nat, c < 512 ∧ I 22 2 = nI c ∧ SC (am_ui (am_ui I 24 c (nI (st / 64))) 22 2 (nI (c + 1))) (am_uj L 23 (st / 64) (L 23 (st / 64) ||| ((1 : Int64) <<< ((nI (st % 64)).toInt64 &&& 63)))) (fun s => V s || decide (s = st))) := by
  obtain ⟨c, hc, h1, h2, h3, h4, h5⟩ := h
  have hn := bl_lor_n0 (L 23 (st / 64)) (k := st % 64) (by omega)
  have hbit : ∀ s, s < 32768 → bl (am_uj L 23 (st / 64) (L 23 (st / 64) ||| ((1 : Int64) <<< ((nI (st % 64)).toInt64 &&& 63))) 23 (s / 64)) (s % 64) = (V s || decide (s = st)) := by
    intro s hs
    rw [am_uj_r]
    by_cases e : s / 64 = st / 64
    · rw [if_pos ⟨rfl, e⟩, bl_or, bl_one (by omega) (by omega), ← e, h5 s hs]
      congr 1
      rw [Bool.eq_iff_iff]; simp only [decide_eq_true_eq]; omega
    · rw [if_neg (fun z => e z.2), h5 s hs]
      have : ¬ s = st := fun z => e (by rw [z])
      simp [this]
  constructor
  · intro hz
    refine ⟨c, hc, h1, ?_, fun w hw q => ?_, h4, hbit⟩
    · rw [h2]
      refine g_cnt_congr 512 (fun j hj => ?_)
      rw [am_uj_r]
      by_cases e : j = st / 64
      · subst e; rw [if_pos ⟨rfl, rfl⟩]; simp [hz, hn]
      · rw [if_neg (fun z => e z.2)]
    · rw [am_uj_r] at q
      by_cases e : w = st / 64
      · subst e; exact h3 _ hw hz
      · rw [if_neg (fun z => e z.2)] at q; exact h3 w hw q
  · intro hz
    have hlt : c < 512 := by
      rw [h2]
      exact g_cnt_lt (w := st / 64) (by simp [hz]) 512 (by omega)
    refine ⟨c, hlt, h1, c + 1, by omega, by simp [am_ui_r], ?_, fun w hw q => ?_, fun j hj => ?_, hbit⟩
    · rw [h2]
      refine (g_cnt_add (w := st / 64) (by simp [hz]) ?_ (fun j hj => ?_) 512 (by omega)).symm
      · rw [am_uj_r, if_pos ⟨rfl, rfl⟩]; simp [hn]
      · rw [am_uj_r, if_neg (fun z => hj z.2)]
    · rw [am_uj_r] at q
      by_cases e : w = st / 64
      · refine ⟨c, by omega, ?_⟩
        rw [am_ui_r, if_neg (by omega), am_ui_r, if_pos ⟨rfl, rfl⟩, e]
      · rw [if_neg (fun z => e z.2)] at q
        obtain ⟨j, a, b⟩ := h3 w hw q
        refine ⟨j, by omega, ?_⟩
        rw [am_ui_r, if_neg (by omega), am_ui_r, if_neg (by omega)]
        exact b
    · rw [am_ui_r, if_neg (by omega), am_ui_r]
      by_cases e : j = c
      · rw [if_pos ⟨rfl, e⟩]; exact ⟨st / 64, by omega, rfl⟩
      · rw [if_neg (fun z => e z.2)]; exact h4 j (by omega)
def T_SN_add : am_Sp := fun vs I L post => match vs with
  | [.ref o, .int x, .int y] => o = 22 ∧ ∃ p b V, p < 8 ∧ b < 4096 ∧ x = nI p ∧ y = nI b ∧ SC I L V ∧ ∀ (I2 : am_I) (L2 : am_J), SC I2 L2 (fun s => V s || decide (s = p * 4096 + b)) → (∀ a, a ≠ 22 → a ≠ 24 → I2 a = I a) → (∀ a, a ≠ 23 → L2 a = L a) → post (some (.int (am_b (V (p * 4096 + b) = false)))) I2 L2
  | _ => False
abbrev sp_SN_add : Nat → am_Sp := fun _ => am_no
set_option maxRecDepth 100000 in
theorem ok_SN_add : am_Ok am_SX sp_SN_add true k_SN_add 7 T_SN_add := by
  intro vs I L post h
  unfold T_SN_add at h
  split at h
  · rename_i o x y
    obtain ⟨rfl, p, b, V, hp, hb, rfl, rfl, hs, h⟩ := h
    refine ⟨Nat.le_of_ble_eq_true rfl, fun G hG => ?_⟩
    obtain ⟨st, hst⟩ : ∃ st, st = p * 4096 + b := ⟨_, rfl⟩
    have hlt : st < 32768 := by omega
    rw [← hst] at h
    refine hG [] 6 0 _ _ _ _ ?_
    show G 7 [some (.ref 22), some (.int (nI p)), some (.int (nI b)), some (.int ((nI p <<< ((12 : Int32) &&& 31)) ||| nI b)), none, none, none] [] I L
    rw [st_I hp hb, ← hst]
    refine hG [] 4 7 _ _ _ _ ?_
    show G 13 [some (.ref 22), some (.int (nI p)), some (.int (nI b)), some (.int (nI st)), some (.int ((nI st).toUInt32 >>> ((6 : Int32).toUInt32 &&& Int32.toUInt32 31)).toInt32), none, none] [] I L
    rw [pk_ushrN (by omega) 6 6 (by decide)]
    refine hG [] 6 13 _ _ _ _ ?_
    show G 21 [some (.ref 22), some (.int (nI p)), some (.int (nI b)), some (.int (nI st)), some (.int (nI (st / 2 ^ 6))), some (.long ((1 : Int64) <<< ((nI st &&& 63).toInt64 &&& 63))), none] [] I L
    rw [pk_andN (by omega) 6 (by decide), show st / 2 ^ 6 = st / 64 from rfl, show st % 2 ^ 6 = st % 64 from rfl]
    have hw : st / 64 < 512 := by omega
    have ew : (nI (st / 64)).toNatClampNeg = st / 64 := nI_clamp (by omega)
    have hV := hs
    obtain ⟨p1, p2⟩ := SC_put hlt hs
    obtain ⟨c, -, -, -, -, -, hbit⟩ := hV
    have hb2 := hbit st hlt
    refine hG [] 50 21 _ _ _ _ (am_nf (am_lt hw rfl) (And.intro (am_vin hw rfl) ?_))
    rw [ew]
    refine And.intro (fun q => ?_) (fun q => ?_)
    · -- new
      rw [lg_cmp_0, bl_land_0 _ (by omega)] at q
      rw [q] at hb2
      rw [am_b1 hb2.symm] at h
      refine And.intro (am_vin hw rfl) ?_
      rw [ew]
      refine And.intro (fun q2 => ?_) (fun q2 => ?_)
      · rw [lg_cmp_0] at q2
        refine And.intro (am_vin hw rfl) (And.intro (am_vin hw rfl) (And.intro (Or.inr rfl) ?_))
        show post (some (.int 1)) I (am_uj L 23 (nI (st / 64)).toNatClampNeg (L 23 (nI (st / 64)).toNatClampNeg ||| ((1 : Int64) <<< ((nI (st % 64)).toInt64 &&& 63))))
        rw [ew]
        exact h _ _ (p1 q2) (fun _ _ _ => rfl) (fun a ha => am_uj_o ha)
      · rw [lg_cmp_0] at q2
        obtain ⟨c, hc, e1, hsc⟩ := p2 q2
        have ec : (nI c).toNatClampNeg = c := nI_clamp (by omega)
        refine am_nf (by rw [e1]; exact am_lt hc rfl) (And.intro ?_ ?_)
        · show vp_in (I 22 2) 512
          rw [e1]; exact am_vin hc rfl
        · refine And.intro (am_vin hw rfl) (And.intro (am_vin hw rfl) (And.intro (Or.inr rfl) ?_))
          show post (some (.int 1)) (am_ui (am_ui I 24 (I 22 2).toNatClampNeg (nI (st / 64))) 22 2 (am_ui I 24 (I 22 2).toNatClampNeg (nI (st / 64)) 22 2 + 1)) (am_uj L 23 (nI (st / 64)).toNatClampNeg (L 23 (nI (st / 64)).toNatClampNeg ||| ((1 : Int64) <<< ((nI (st % 64)).toInt64 &&& 63))))
          rw [ew, am_ui_r, if_neg (by omega), e1, ec, nI_1]
          exact h _ _ hsc (fun a h1 h2 => (am_ui_o h1).trans (am_ui_o h2)) (fun a ha => am_uj_o ha)
    · -- seen already
      rw [lg_cmp_0, bl_land_0 _ (by omega)] at q
      have hv : V st = true := by rw [← hb2]; simpa using q
      rw [am_b0 (by simp [hv])] at h
      refine And.intro (Or.inl rfl) ?_
      exact h I L (SC_congr hs (fun s _ => by
        by_cases e : s = st
        · subst e; simp [hv]
        · simp [e])) (fun _ _ _ => rfl) (fun _ _ => rfl)
  · exact h.elim
end
section
/-! THE CLASS, journeys -/
theorem g_R_congr {E E' : Nat → Nat → Bool} (h : Nat) (e : ∀ p q, p < 8 → q < 8 → E p q = E' p q) : ∀ k q, q < 8 → g_R E h k q = g_R E' h k q := by
  intro k
  induction k with
  | zero => intro q _; rfl
  | succ k ih =>
    intro q hq
    show (g_R E h k q || (List.range 8).any (fun p => E p q && g_R E h k p)) = (g_R E' h k q || (List.range 8).any (fun p => E' p q && g_R E' h k p))
    rw [ih q hq]
    congr 1
    rw [Bool.eq_iff_iff]
    simp only [List.any_eq_true, List.mem_range, Bool.and_eq_true]
    constructor
    · rintro ⟨p, a, b, c⟩; exact ⟨p, a, by rw [← e p q a hq]; exact b, by rw [← ih p a]; exact c⟩
    · rintro ⟨p, a, b, c⟩; exact ⟨p, a, by rw [e p q a hq]; exact b, by rw [ih p a]; exact c⟩
theorem g_lk_congr {P Q : Nat → Bool} (e : ∀ k, P k = Q k) : ∀ n k, g_lk P n k = g_lk Q n k := by
  intro n
  induction n with
  | zero => intro k; rfl
  | succ n ih => intro k; simp only [g_lk, e k, ih (k + 1)]
theorem g_d_congr {E E' : Nat → Nat → Bool} (h : Nat) (e : ∀ p q, p < 8 → q < 8 → E p q = E' p q) {q : Nat} (hq : q < 8) : g_d E h q = g_d E' h q := g_lk_congr (fun k => g_R_congr h e k q hq) 8 0
theorem g_ch_congr {d d' : Nat → Nat} {E E' : Nat → Bool} : ∀ n, (∀ q, q < n → d q = d' q ∧ E q = E' q) → g_ch d E n = g_ch d' E' n := by
  intro n
  induction n with
  | zero => intro _; rfl
  | succ n ih =>
    intro h
    have e := ih (fun q hq => h q (by omega))
    simp only [g_ch, e, (h n (by omega)).1, (h n (by omega)).2]
    cases hc : g_ch d' E' n with
    | none => rfl
    | some b =>
      have hb : b < n := by
        rcases g_ch_spec d' E' n with ⟨z, _⟩ | ⟨c, z1, z2, _⟩
        · rw [hc] at z; cases z
        · rw [hc] at z1; cases z1; exact z2
      simp only [(h b (by omega)).1]
theorem g_to_congr {E E' : Nat → Nat → Bool} {h a : Nat} (e : ∀ p q, p < 8 → q < 8 → E p q = E' p q) (ha : a < 8) : g_to E h a = g_to E' h a := g_ch_congr 8 (fun q hq => ⟨g_d_congr h e hq, e a q ha hq⟩)
/-- the net of what is believed open -/
def NB (L : am_J) (o k : Nat) (G : Nat → Nat) (b : Nat) : Prop := ∀ p q, p < 8 → q < 8 → bl (L o k) (8 * p + q) = g_E G b p q
def FJ (I I2 : am_I) (L L2 : am_J) : Prop := (∀ a, a ≠ 21 → a ≠ 22 → a ≠ 24 → I2 a = I a) ∧ (∀ a, a ≠ 21 → a ≠ 23 → L2 a = L a)
theorem FJ_rfl {I : am_I} {L : am_J} : FJ I I L L := ⟨fun _ _ _ _ => rfl, fun _ _ _ => rfl⟩
theorem FJ_tr {I I2 I3 : am_I} {L L2 L3 : am_J} (h1 : FJ I I2 L L2) (h2 : FJ I2 I3 L2 L3) : FJ I I3 L L3 := ⟨fun a x y z => (h2.1 a x y z).trans (h1.1 a x y z), fun a x y => (h2.2 a x y).trans (h1.2 a x y)⟩
theorem FJ_RC {I I2 : am_I} {L L2 : am_J} (h : FJ I I2 L L2) {r : Nat} {G : Nat → Nat} (hr : r + 5 < 21) (hc : RC I L r G) : RC I2 L2 r G := RC_fr hc (fun a _ _ => h.1 a (by omega) (by omega) (by omega)) (h.2 r (by omega) (by omega))
theorem am_ui_id {I : am_I} {o k : Nat} {x : Int32} (h : I o k = x) : am_ui I o k x = I := by
  funext a b
  rw [am_ui_r]
  split
  · rename_i e; rw [e.1, e.2, h]
  · rfl
theorem am_ui_n {I : am_I} {o k a b : Nat} {x : Int32} (h : ¬ (a = o ∧ b = k)) : am_ui I o k x a b = I a b := by rw [am_ui_r, if_neg h]
theorem am_ui_e {I : am_I} {o k : Nat} {x : Int32} : am_ui I o k x o k = x := by rw [am_ui_r, if_pos ⟨rfl, rfl⟩]
theorem am_uj_n {I : am_J} {o k a b : Nat} {x : Int64} (h : ¬ (a = o ∧ b = k)) : am_uj I o k x a b = I a b := by rw [am_uj_r, if_neg h]
theorem am_uj_e {I : am_J} {o k : Nat} {x : Int64} : am_uj I o k x o k = x := by rw [am_uj_r, if_pos ⟨rfl, rfl⟩]
theorem nI_le0 (k : Nat) (h : k < 2 ^ 31) : (0 : Int32) ≤ nI k := nI_pos' h
def T_JN_believe : am_Sp := fun vs I L post => match vs with
  | [.ref o, .ref r, .int w, .int x] => o = 21 ∧ r = 1 ∧ ∃ G b k, WG G ∧ RC I L 1 G ∧ k < G 0 ∧ w = nI k ∧ I 21 8 = nI b ∧ NB L 21 9 G b ∧ ∀ (b2 : Nat) (L2 : am_J), b2 = (if x = 1 then g_clr b k else if x = 0 then g_set b k else b) → NB L2 21 9 G b2 → (∀ a, a ≠ 21 → L2 a = L a) → post none (am_ui I 21 8 (nI b2)) L2
  | _ => False
def sp_JN_believe : Nat → am_Sp := fun i => match i with
  | 92 => T_RD_pairOf
  | _ => am_no
set_option maxRecDepth 100000 in
theorem ok_JN_believe : am_Ok am_SX sp_JN_believe false k_JN_believe 6 T_JN_believe := by
  intro vs I L post h
  unfold T_JN_believe at h
  split at h
  · rename_i o r w x
    obtain ⟨rfl, rfl, G, b, k, hG, hRC, hk, rfl, hb, hn, h⟩ := h
    refine ⟨Nat.le_of_ble_eq_true rfl, fun G2 hG2 => ?_⟩
    have h12 := hG.1
    have hends := hG.2.1 k hk
    obtain ⟨r5, -, -, -, -, rw2, -, -, -, -⟩ := id hRC
    have hw := rw2 k hk
    have hpre : 0 ≤ nI k ∧ nI k < I 1 5 := ⟨nI_pos' (by omega), by rw [r5]; exact nI_lt hk (by omega)⟩
    have ek : (nI k).toNatClampNeg = k := nI_clamp (by omega)
    have hpair : ∀ p q, p < 8 → q < 8 → bl (f_pair (I 2 k) (I 3 k)) (8 * p + q) = g_j G p q k := fun p q hp hq => by
      rw [show I 2 k = nI (G (1 + k)) from hw.1, show I 3 k = nI (G (13 + k)) from hw.2, f_pair_bl (by omega) (by omega) hp hq]
      unfold g_j
      rw [Bool.eq_iff_iff]
      simp only [Bool.or_eq_true, Bool.and_eq_true, decide_eq_true_eq]
      omega
    refine hG2 [] 3 0 _ _ _ _ (And.intro (Or.inl rfl) (And.intro (fun _ => am_vin (by omega) rfl) ?_))
    rw [if_pos hpre, ek]
    show G2 5 [some (.ref 21), some (.ref 1), some (.int (nI k)), some (.int x), none, none] [.long (f_pair (I 2 k) (I 3 k))] I L
    by_cases h1 : x = 1
    · refine hG2 [] 50 5 _ _ _ _ (am_nf h1 ?_)
      show post none (am_ui I 21 8 (I 21 8 &&& (((1 : Int32) <<< (nI k &&& 31)) ^^^ (-1)))) (am_uj L 21 9 (L 21 9 ||| f_pair (I 2 k) (I 3 k)))
      rw [hb, g_clr_I b (by omega)]
      refine h _ _ (by rw [if_pos h1]) (fun p q hp hq => ?_) (fun a ha => am_uj_o ha)
      rw [am_uj_e, bl_or, hn p q hp hq, hpair p q hp hq, g_E_clr hG hk]
    · by_cases h0 : x = 0
      · refine hG2 [] 50 5 _ _ _ _ (am_nt h1 (am_nf h0 ?_))
        show post none (am_ui I 21 8 (I 21 8 ||| ((1 : Int32) <<< (nI k &&& 31)))) (am_uj L 21 9 (L 21 9 &&& (f_pair (I 2 k) (I 3 k) ^^^ (-1))))
        rw [hb, g_set_I b (by omega)]
        refine h _ _ (by rw [if_neg h1, if_pos h0]) (fun p q hp hq => ?_) (fun a ha => am_uj_o ha)
        rw [am_uj_e, bl_and, hn p q hp hq, bl_not (by omega), hpair p q hp hq, g_E_set hG hk]
      · refine hG2 [] 50 5 _ _ _ _ (am_nt h1 (am_nt h0 ?_))
        have e := h b L (by rw [if_neg h1, if_neg h0]) hn (fun _ _ => rfl)
        rw [am_ui_id hb] at e
        exact e
  · exact h.elim
def T_JN_heed : am_Sp := fun vs I L post => match vs with
  | [.ref o, .ref r, .int x] => o = 21 ∧ r = 1 ∧ ∃ G kind snow stones p f b, WG G ∧ RC I L 1 G ∧ kind < 4 ∧ (∀ q, stones.testBit q = true → (G 26).testBit q = true) ∧ p < 8 ∧ f < 8 ∧ x = nI f ∧ I 21 1 = nI kind ∧ I 21 2 = nI snow ∧ I 21 3 = nI stones ∧ I 21 4 = nI p ∧ I 21 8 = nI b ∧ NB L 21 9 G b ∧ ∀ L2 : am_J, NB L2 21 9 G (g_heed G kind snow stones p f b) → (∀ a, a ≠ 21 → L2 a = L a) → post none (am_ui I 21 8 (nI (g_heed G kind snow stones p f b))) L2
  | _ => False
def sp_JN_heed : Nat → am_Sp := fun i => match i with
  | 61 => T_RP_bitOf
  | 68 => T_JN_believe
  | 76 => T_RD_isSide
  | 80 => T_RD_saysOpen
  | 84 => T_RD_aboutOf
  | 88 => T_KD_takes
  | _ => am_no
set_option maxRecDepth 100000 in
theorem ok_JN_heed : am_Ok am_SX sp_JN_heed false k_JN_heed 5 T_JN_heed := by
  intro vs I L post h
  unfold T_JN_heed at h
  split at h
  · rename_i o r x
    obtain ⟨rfl, rfl, G, kind, snow, stones, p, f, b, hG, hRC, hkd, hsub, hp, hf, rfl, f1, f2, f3, f4, hb, hn, h⟩ := h
    refine ⟨Nat.le_of_ble_eq_true rfl, fun G2 hG2 => ?_⟩
    obtain ⟨r5, r6, r7, r8, r9, rw2, rj, rs, -, -⟩ := id hRC
    have ep : (nI p).toNatClampNeg = p := nI_clamp (by omega)
    have hplace : 0 ≤ nI p ∧ nI p < 8 := ⟨nI_pos' (by omega), am_lt hp rfl⟩
    by_cases hst : stones.testBit p = true
    · have hg := rs p hp (hsub p hst)
      have hgb := hG.2.2.2.2.2.2.2.1 p hp (hsub p hst)
      have h12 := hG.1
      have eside : I 5 p = nI (G (27 + p)) := hg.1
      have eab : f_about I 1 (nI p) = nI (G (35 + p)) := by
        unfold f_about
        rw [if_pos hplace, ep]; exact hg.2
      have h1 : f_bit (I 21 3) (I 21 4) = 1 := by rw [f3, f4, f_bit_nI _ (by omega), am_b1 hst]
      refine hG2 [] 50 0 _ _ _ _ (am_nf h1 (And.intro (Or.inl rfl) (And.intro (Or.inl rfl) (And.intro (Or.inl rfl) ?_))))
      refine And.intro (rfl) (And.intro (rfl) (Exists.intro (G) (Exists.intro (b) (Exists.intro (G (35 + p)) (And.intro (hG) (And.intro (hRC) (And.intro (hgb.2) (And.intro (by rw [f4, eab]) (And.intro (hb) (And.intro (hn) (fun b2 L2 e1 e2 e3 => ?_)))))))))))
      rw [f1, f2, f4, eab, ep, show I (1 + 4) p = nI (G (27 + p)) from eside, f_bit_nI _ (by omega)] at e1
      have e4 : b2 = g_heed G kind snow stones p f b := by
        rw [e1]
        unfold g_heed
        rw [if_pos hst]
        have c0 : (nI kind = 0) = (kind = 0) := by rw [← nI_0, nI_eq (by omega) (by omega)]
        have c1 : (nI kind = 1) = (kind = 1) := by rw [show (1 : Int32) = nI 1 from rfl, nI_eq (by omega) (by omega)]
        have c3 : (nI kind = 3) = (kind = 3) := by rw [show (3 : Int32) = nI 3 from rfl, nI_eq (by omega) (by omega)]
        have cs : (nI (G (27 + p)) = nI f) = (G (27 + p) = f) := by rw [nI_eq (by omega) (by omega)]
        simp only [c0, c1, c3, cs, hplace, true_and, am_bz, Classical.not_not, Bool.not_eq_true, and_self]
        by_cases q1 : kind = 0 ∨ G (27 + p) = f ∧ (kind = 1 ∨ kind = 3)
        · rw [if_pos q1, if_pos q1]
          by_cases q2 : (snow.testBit (G (35 + p)) = false ↔ G (27 + p) = f)
          · simp [q2]
          · simp [q2]
        · rw [if_neg q1, if_neg q1]
          by_cases q3 : kind = 3
          · rw [if_pos q3, if_pos q3]
            by_cases q2 : (snow.testBit (G (35 + p)) = false ↔ G (27 + p) = f)
            · simp [q2]
            · simp [q2]
          · rw [if_neg q3, if_neg q3]
            simp
      subst e4
      exact h L2 e2 e3
    · have h1 : ¬ f_bit (I 21 3) (I 21 4) = 1 := by rw [f3, f4, f_bit_nI _ (by omega), am_b0 hst]; decide
      have e4 : g_heed G kind snow stones p f b = b := by unfold g_heed; rw [if_neg hst]
      rw [e4] at h
      have e := h L hn (fun _ _ => rfl)
      rw [am_ui_id hb] at e
      exact hG2 [] 50 0 _ _ _ _ (am_nt h1 e)
  · exact h.elim
def T_JN_look : am_Sp := fun vs I L post => match vs with
  | [.ref o, .ref r] => o = 21 ∧ r = 1 ∧ ∃ G p b V, WG G ∧ RC I L 1 G ∧ p < 8 ∧ b < 4096 ∧ I 21 4 = nI p ∧ I 21 8 = nI b ∧ NB L 21 9 G b ∧ SC I L V ∧ ∀ (e : Nat) (I2 : am_I) (L2 : am_J), e = (if p = G 43 then 0 else if V (p * 4096 + b) = true then 2 else if g_tgt G (p, b) = none then 1 else 3) → I2 21 7 = nI e → (∀ t, g_tgt G (p, b) = some t → e = 3 → I2 21 5 = nI t) → SC I2 L2 (fun s => V s || (!decide (p = G 43) && decide (s = p * 4096 + b))) → (∀ k, k ≠ 5 → k ≠ 7 → I2 21 k = I 21 k) → (∀ a, a ≠ 21 → a ≠ 22 → a ≠ 24 → I2 a = I a) → (∀ a, a ≠ 23 → L2 a = L a) → post none I2 L2
  | _ => False
def sp_JN_look : Nat → am_Sp := fun i => match i with
  | 101 => T_SN_add
  | 104 => T_NT_towards
  | _ => am_no
set_option maxRecDepth 100000 in
theorem ok_JN_look : am_Ok am_SX sp_JN_look false k_JN_look 2 T_JN_look := by
  intro vs I L post h
  unfold T_JN_look at h
  split at h
  · rename_i o r
    obtain ⟨rfl, rfl, G, p, b, V, hG, hRC, hp, hb, f4, f8, hn, hs, h⟩ := h
    refine ⟨Nat.le_of_ble_eq_true rfl, fun G2 hG2 => ?_⟩
    obtain ⟨r5, r6, r7, r8, r9, rw2, rj, rs, -, -⟩ := id hRC
    have h43 : G 43 < 8 := hG.2.2.2.2.2.2.2.2.1
    by_cases hh : p = G 43
    · have c : I 21 4 = I 1 9 := by rw [f4, r9, hh]
      refine hG2 [] 50 0 _ _ _ _ (am_nf c ?_)
      show post none (am_ui I 21 7 0) L
      refine h 0 _ _ (by rw [if_pos hh]) am_ui_e (fun t _ q => by cases q) ?_ (fun k _ hk => am_ui_n (fun z => hk z.2)) (fun a ha _ _ => am_ui_o ha) (fun _ _ => rfl)
      refine SC_congr (SC_fr hs (am_ui_n (by omega)) (am_ui_o (by omega)) rfl) (fun s _ => by simp [hh])
    · have c : ¬ I 21 4 = I 1 9 := by rw [f4, r9, nI_eq (by omega) (by omega)]; exact hh
      refine hG2 [] 50 0 _ _ _ _ (am_nt c ?_)
      refine And.intro (rfl) (Exists.intro (p) (Exists.intro (b) (Exists.intro (V) (And.intro (hp) (And.intro (hb) (And.intro (f4) (And.intro (f8) (And.intro (hs) (fun I2 L2 hs2 hI2 hL2 => ?_)))))))))
      have e21 : I2 21 = I 21 := hI2 21 (by omega) (by omega)
      have e1 : I2 1 = I 1 := hI2 1 (by omega) (by omega)
      have l21 : L2 21 = L 21 := hL2 21 (by omega)
      have hs3 : SC I2 L2 (fun s => V s || (!decide (p = G 43) && decide (s = p * 4096 + b))) := SC_congr hs2 (fun s _ => by simp [hh])
      cases hV : V (p * 4096 + b) with
      | true =>
        refine am_nf (am_b0 (by simp)) ?_
        show post none (am_ui I2 21 7 2) L2
        refine h 2 _ _ (by rw [if_neg hh, if_pos hV]) am_ui_e (fun t _ q => by cases q) (SC_fr hs3 (am_ui_n (by omega)) (am_ui_o (by omega)) rfl) (fun k _ hk => (am_ui_n (fun z => hk z.2)).trans (by rw [e21])) (fun a ha h2 h4 => (am_ui_o ha).trans (hI2 a h2 h4)) hL2
      | false =>
        refine am_nt (by rw [am_b1 rfl]; decide) ?_
        refine Exists.intro (p) (Exists.intro (G 43) (And.intro (hp) (And.intro (h43) (And.intro (by rw [e21]; exact f4) (And.intro (by rw [e1]; exact r9) (?_))))))
        have et : g_to (fun p q => bl (L2 21 9) (8 * p + q)) (G 43) p = g_tgt G (p, b) := g_to_congr (fun x y hx hy => by rw [l21]; exact hn x y hx hy) hp
        rw [et]
        cases ht : g_tgt G (p, b) with
        | none =>
          refine am_nf (show am_ui I2 21 5 (-1) 21 5 < 0 by rw [am_ui_e]; decide) ?_
          show post none (am_ui (am_ui I2 21 5 (-1)) 21 7 1) L2
          refine h 1 _ _ (by rw [if_neg hh, if_neg (by rw [hV]; decide), if_pos ht]) am_ui_e (fun t _ q => by cases q) (SC_fr hs3 ((am_ui_n (by omega)).trans (am_ui_n (by omega))) ((am_ui_o (by omega)).trans (am_ui_o (by omega))) rfl) (fun k h5 hk => (am_ui_n (fun z => hk z.2)).trans ((am_ui_n (fun z => h5 z.2)).trans (by rw [e21]))) (fun a ha h2 h4 => (am_ui_o ha).trans ((am_ui_o ha).trans (hI2 a h2 h4))) hL2
        | some t =>
          have ht8 := (g_to_spec ht).1
          refine am_nt (show ¬ am_ui I2 21 5 (nI t) 21 5 < 0 by rw [am_ui_e]; exact nI_pos (by omega)) ?_
          show post none (am_ui (am_ui I2 21 5 (nI t)) 21 7 3) L2
          refine h 3 _ _ (by rw [if_neg hh, if_neg (by rw [hV]; decide), if_neg (by rw [ht]; exact fun q => by cases q)]) am_ui_e (fun t' q _ => by rw [ht] at q; cases q; rw [am_ui_n (by omega), am_ui_e]) (SC_fr hs3 ((am_ui_n (by omega)).trans (am_ui_n (by omega))) ((am_ui_o (by omega)).trans (am_ui_o (by omega))) rfl) (fun k h5 hk => (am_ui_n (fun z => hk z.2)).trans ((am_ui_n (fun z => h5 z.2)).trans (by rw [e21]))) (fun a ha h2 h4 => (am_ui_o ha).trans ((am_ui_o ha).trans (hI2 a h2 h4))) hL2
  · exact h.elim
end
section
/-! THE CLASS, a journey from its start on -/
def g_vs (G : Nat → Nat) (S : Nat → Nat × Nat) (n s : Nat) : Bool := (List.range n).any (fun j => !decide ((S j).1 = G 43) && decide (s = (S j).1 * 4096 + (S j).2))
theorem g_vs_succ (G : Nat → Nat) (S : Nat → Nat × Nat) (n s : Nat) : g_vs G S (n + 1) s = (g_vs G S n s || (!decide ((S n).1 = G 43) && decide (s = (S n).1 * 4096 + (S n).2))) := by
  unfold g_vs
  rw [List.range_succ, List.any_append]
  simp
theorem g_end_3 {G : Nat → Nat} {S : Nat → Nat × Nat} {i : Nat} (h : g_end G S i = 3) : ¬ (S i).1 = G 43 ∧ g_sn S i (S i) = false ∧ ∃ t, g_tgt G (S i) = some t := by
  unfold g_end at h
  split at h
  · omega
  · rename_i h1
    split at h
    · omega
    · rename_i h2
      split at h
      · omega
      · rename_i h3
        refine ⟨h1, by simpa using h2, ?_⟩
        cases e : g_tgt G (S i) with
        | none => exact absurd e h3
        | some t => exact ⟨t, rfl⟩
theorem g_end_lt (G : Nat → Nat) (S : Nat → Nat × Nat) (i : Nat) : g_end G S i < 4 := by
  unfold g_end
  split
  · omega
  · split
    · omega
    · split <;> omega
theorem g_vs_sn {G : Nat → Nat} {S : Nat → Nat × Nat} {i : Nat} (hb : ∀ j, j ≤ i → (S j).2 < 4096) (h : ∀ j, j < i → g_end G S j = 3) : g_vs G S i ((S i).1 * 4096 + (S i).2) = g_sn S i (S i) := by
  unfold g_vs g_sn
  rw [Bool.eq_iff_iff]
  simp only [List.any_eq_true, List.mem_range, Bool.and_eq_true, Bool.not_eq_true', decide_eq_false_iff_not, decide_eq_true_eq]
  constructor
  · rintro ⟨j, hj, _, e⟩
    have := hb j (by omega)
    have := hb i (Nat.le_refl i)
    exact ⟨j, hj, Prod.ext (by omega) (by omega)⟩
  · rintro ⟨j, hj, e⟩
    exact ⟨j, hj, (g_end_3 (h j hj)).1, by rw [e]⟩
/-- what a journey goes on in -/
def JX (G : Nat → Nat) (kind stones f : Nat) : Prop := WG G ∧ kind < 4 ∧ (∀ q, stones.testBit q = true → (G 26).testBit q = true) ∧ f < 8
/-- the cells of Journey and Seen are at step i -/
def JS (I : am_I) (L : am_J) (G : Nat → Nat) (kind snow stones f i : Nat) : Prop :=
  I 21 1 = nI kind ∧ I 21 2 = nI snow ∧ I 21 3 = nI stones ∧ I 21 4 = nI (g_S G kind snow stones f i).1 ∧ I 21 6 = nI i ∧ I 21 7 = nI (g_end G (g_S G kind snow stones f) i) ∧ I 21 8 = nI (g_S G kind snow stones f i).2 ∧
  NB L 21 9 G (g_S G kind snow stones f i).2 ∧ (∀ t, g_tgt G (g_S G kind snow stones f i) = some t → g_end G (g_S G kind snow stones f) i = 3 → I 21 5 = nI t) ∧ SC I L (g_vs G (g_S G kind snow stones f) (i + 1)) ∧ ∀ j, j < i → g_end G (g_S G kind snow stones f) j = 3
theorem JS_look {I I2 : am_I} {L L2 : am_J} {G : Nat → Nat} {kind snow stones f i p b e : Nat} (hX : JX G kind stones f) (hprev : ∀ j, j < i → g_end G (g_S G kind snow stones f) j = 3) (hs : g_S G kind snow stones f i = (p, b))
    (f1 : I 21 1 = nI kind) (f2 : I 21 2 = nI snow) (f3 : I 21 3 = nI stones) (f4 : I 21 4 = nI p) (f6 : I 21 6 = nI i) (f8 : I 21 8 = nI b) (hn : NB L 21 9 G b)
    (he : e = (if p = G 43 then 0 else if g_vs G (g_S G kind snow stones f) i (p * 4096 + b) = true then 2 else if g_tgt G (p, b) = none then 1 else 3)) (e7 : I2 21 7 = nI e) (e5 : ∀ t, g_tgt G (p, b) = some t → e = 3 → I2 21 5 = nI t)
    (esc : SC I2 L2 (fun s => g_vs G (g_S G kind snow stones f) i s || (!decide (p = G 43) && decide (s = p * 4096 + b)))) (ek : ∀ k, k ≠ 5 → k ≠ 7 → I2 21 k = I 21 k) (el : L2 21 = L 21) : JS I2 L2 G kind snow stones f i := by
  have hlt := g_S_lt (snow := snow) (kind := kind) hX.1 hX.2.2.1 hX.2.2.2
  have e1 : e = g_end G (g_S G kind snow stones f) i := by
    have h1 := g_vs_sn (G := G) (S := g_S G kind snow stones f) (i := i) (fun j _ => (hlt j).2) hprev
    rw [hs] at h1
    unfold g_end
    rw [he, hs, ← h1]
  unfold JS
  rw [hs]
  refine ⟨(ek 1 (by omega) (by omega)).trans f1, (ek 2 (by omega) (by omega)).trans f2, (ek 3 (by omega) (by omega)).trans f3, (ek 4 (by omega) (by omega)).trans f4, (ek 6 (by omega) (by omega)).trans f6, by rw [e7, e1], (ek 8 (by omega) (by omega)).trans f8, fun x y hx hy => by rw [el]; exact hn x y hx hy, fun t ht h3 => e5 t ht (by rw [e1]; exact h3), SC_congr esc (fun s _ => ?_), hprev⟩
  rw [g_vs_succ, hs]
theorem JS_fr {I I2 : am_I} {L L2 : am_J} {G : Nat → Nat} {kind snow stones f i : Nat} (h : JS I L G kind snow stones f i) (h1 : I2 21 = I 21) (h2 : I2 22 2 = I 22 2) (h3 : I2 24 = I 24) (h4 : L2 21 = L 21) (h5 : L2 23 = L 23) : JS I2 L2 G kind snow stones f i := by
  unfold JS at *
  rw [h1]
  obtain ⟨a1, a2, a3, a4, a5, a6, a7, a8, a9, a10, a11⟩ := h
  exact ⟨a1, a2, a3, a4, a5, a6, a7, fun x y hx hy => by rw [h4]; exact a8 x y hx hy, a9, SC_fr a10 h2 h3 h5, a11⟩
def T_JN_begin : am_Sp := fun vs I L post => match vs with
  | [.ref o, .ref r, .int x1, .int x2, .int x3, .int x4] => o = 21 ∧ r = 1 ∧ ∃ G kind snow stones f V, JX G kind stones f ∧ RC I L 1 G ∧ x1 = nI kind ∧ x2 = nI f ∧ x3 = nI snow ∧ x4 = nI stones ∧ SC I L V ∧ ∀ (I2 : am_I) (L2 : am_J), JS I2 L2 G kind snow stones f 0 → FJ I I2 L L2 → post none I2 L2
  | _ => False
def sp_JN_begin : Nat → am_Sp := fun i => match i with
  | 44 => T_SN_forget
  | 47 => T_JN_look
  | _ => am_no
set_option maxRecDepth 100000 in
theorem ok_JN_begin : am_Ok am_SX sp_JN_begin false k_JN_begin 6 T_JN_begin := by
  intro vs I L post h
  unfold T_JN_begin at h
  split at h
  · rename_i o r x1 x2 x3 x4
    obtain ⟨rfl, rfl, G, kind, snow, stones, f, V, hX, hRC, rfl, rfl, rfl, rfl, hs, h⟩ := h
    refine ⟨Nat.le_of_ble_eq_true rfl, fun G2 hG2 => ?_⟩
    obtain ⟨r5, r6, r7, r8, r9, rw2, rj, rs, rn, -⟩ := id hRC
    obtain ⟨J1, hJ1⟩ : ∃ J1 : am_I, J1 = am_ui (am_ui (am_ui (am_ui (am_ui (am_ui I 21 1 (nI kind)) 21 2 (nI snow)) 21 3 (nI stones)) 21 4 (nI f)) 21 6 0) 21 8 0 := ⟨_, rfl⟩
    obtain ⟨K1, hK1⟩ : ∃ K1 : am_J, K1 = am_uj L 21 9 (L 1 10) := ⟨_, rfl⟩
    have j1 : J1 21 1 = nI kind := by rw [hJ1]; simp [am_ui_r]
    have j2 : J1 21 2 = nI snow := by rw [hJ1]; simp [am_ui_r]
    have j3 : J1 21 3 = nI stones := by rw [hJ1]; simp [am_ui_r]
    have j4 : J1 21 4 = nI f := by rw [hJ1]; simp [am_ui_r]
    have j6 : J1 21 6 = nI 0 := by rw [hJ1]; simp [am_ui_r, nI_0]
    have j8 : J1 21 8 = nI 0 := by rw [hJ1]; simp [am_ui_r, nI_0]
    have jo : ∀ a, a ≠ 21 → J1 a = I a := fun a ha => by rw [hJ1]; simp [am_ui_o ha]
    have k9 : K1 21 9 = L 1 10 := by rw [hK1, am_uj_e]
    have ko : ∀ a, a ≠ 21 → K1 a = L a := fun a ha => by rw [hK1]; exact am_uj_o ha
    refine hG2 [] 22 0 _ _ _ _ ?_
    show G2 40 [some (.ref 21), some (.ref 1), some (.int (nI kind)), some (.int (nI f)), some (.int (nI snow)), some (.int (nI stones))] [] (am_ui (am_ui (am_ui (am_ui (am_ui (am_ui I 21 1 (nI kind)) 21 2 (nI snow)) 21 3 (nI stones)) 21 4 (nI f)) 21 6 0) 21 8 0) (am_uj L 21 9 (L 1 10))
    rw [← hJ1, ← hK1]
    refine hG2 [] 50 40 _ _ _ _ (And.intro (rfl) (Exists.intro (V) (And.intro (SC_fr hs (by rw [jo 22 (by omega)]) (jo 24 (by omega)) (ko 23 (by omega))) (fun I2 L2 hs2 hI2 hL2 => ?_))))
    have e21 : I2 21 = J1 21 := hI2 21 (by omega) (by omega)
    have hRC2 : RC I2 L2 1 G := RC_fr hRC (fun a h1 h2 => (hI2 a (by omega) (by omega)).trans (jo a (by omega))) ((hL2 1 (by omega)).trans (ko 1 (by omega)))
    have hn : NB L2 21 9 G 0 := fun x y hx hy => by rw [hL2 21 (by omega), k9]; exact rn x y hx hy
    refine And.intro (rfl) (And.intro (rfl) (Exists.intro (G) (Exists.intro (f) (Exists.intro (0) (Exists.intro (fun _ => false) (And.intro (hX.1) (And.intro (hRC2) (And.intro (hX.2.2.2) (And.intro (by omega) (And.intro (by rw [e21]; exact j4) (And.intro (by rw [e21]; exact j8) (And.intro (hn) (And.intro (hs2) (fun e I3 L3 he e7 e5 esc ek e8 e9 => ?_))))))))))))))
    refine h I3 L3 (JS_look hX (fun j hj => by omega) rfl (by rw [e21]; exact j1) (by rw [e21]; exact j2) (by rw [e21]; exact j3) (by rw [e21]; exact j4) (by rw [e21]; exact j6) (by rw [e21]; exact j8) hn he e7 e5 esc ek (e9 21 (by omega))) ⟨fun a h1 h2 h3 => (e8 a h1 h2 h3).trans ((hI2 a h2 h3).trans (jo a h1)), fun a h1 h2 => (e9 a h2).trans ((hL2 a h2).trans (ko a h1))⟩
  · exact h.elim
theorem f_wb_RC {I : am_I} {L : am_J} {r : Nat} {G : Nat → Nat} (h : RC I L r G) {a b : Nat} (ha : a < 8) (hb : b < 8) : f_wb I r (nI a) (nI b) = nI (g_wy G a b) - 1 := by
  unfold f_wb
  rw [if_pos ⟨⟨nI_pos' (by omega), am_lt ha rfl⟩, ⟨nI_pos' (by omega), am_lt hb rfl⟩⟩, show (8 : Int32) = nI 8 from rfl, pk_mul, nI_add, nI_clamp (by omega), Nat.mul_comm a 8, h.2.2.2.2.2.2.1 a b ha hb]
def T_JN_goOn : am_Sp := fun vs I L post => match vs with
  | [.ref o, .ref r, .int x] => o = 21 ∧ r = 1 ∧ ∃ G kind snow stones f i n, JX G kind stones f ∧ RC I L 1 G ∧ x = nI n ∧ i + n < 2147483647 ∧ JS I L G kind snow stones f i ∧ ∀ (i2 : Nat) (I2 : am_I) (L2 : am_J), i ≤ i2 → i2 ≤ i + n → (i2 = i + n ∨ ¬ g_end G (g_S G kind snow stones f) i2 = 3) → JS I2 L2 G kind snow stones f i2 → FJ I I2 L L2 → post none I2 L2
  | _ => False
def sp_JN_goOn : Nat → am_Sp := fun i => match i with
  | 47 => T_JN_look
  | 57 => T_RD_wayBetween
  | 61 => T_RP_bitOf
  | 68 => T_JN_believe
  | 72 => T_JN_heed
  | _ => am_no
set_option maxRecDepth 100000 in
set_option maxHeartbeats 2000000 in
theorem ok_JN_goOn : am_Ok am_SX sp_JN_goOn false k_JN_goOn 6 T_JN_goOn := by
  intro vs I L post h
  unfold T_JN_goOn at h
  split at h
  · rename_i o r x
    obtain ⟨rfl, rfl, G, kind, snow, stones, f, i, n, hX, hRC, rfl, hin, hJ, h⟩ := h
    refine ⟨Nat.le_of_ble_eq_true rfl, fun G2 hG2 => ?_⟩
    have loop : ∀ d k (I1 : am_I) (L1 : am_J), n - k = d → k ≤ n → JS I1 L1 G kind snow stones f (i + k) → FJ I I1 L L1 → G2 2 [some (.ref 21), some (.ref 1), some (.int (nI n)), some (.int (nI k)), none, none] [] I1 L1 := by
      intro d
      induction d with
      | zero =>
        intro k I1 L1 hd hk hj hf
        have hkn : k = n := by omega
        subst hkn
        exact hG2 [(2, [])] 50 2 _ _ _ _ (am_nt (nI_nlt (Nat.le_refl k) (by omega)) (h (i + k) I1 L1 (by omega) (by omega) (Or.inl rfl) hj hf))
      | succ d ih =>
        intro k I1 L1 hd hk hj hf
        have hRC1 := FJ_RC hf (by omega) hRC
        have hlt := g_S_lt (snow := snow) (kind := kind) hX.1 hX.2.2.1 hX.2.2.2 (i + k)
        have h12 := hX.1.1
        obtain ⟨j1, j2, j3, j4, j6, j7, j8, jn, j5, jsc, jp⟩ := hj
        by_cases he : g_end G (g_S G kind snow stones f) (i + k) = 3
        · obtain ⟨c1, c2, t, ht⟩ := g_end_3 he
          obtain ⟨p, b, hs⟩ : ∃ p b, g_S G kind snow stones f (i + k) = (p, b) := ⟨_, _, rfl⟩
          have hs1 : g_S G kind snow stones f (i + (k + 1)) = g_nx G kind snow stones (p, b) := by rw [← hs]; rfl
          have j5 := j5 t ht he
          rw [hs] at hlt c1 ht j4 j8 jn
          dsimp only at hlt c1 j4 j8 jn
          obtain ⟨ht8, hE⟩ := g_to_spec ht
          obtain ⟨w, hw1, hw2, hw3, hw4⟩ := g_E_wy hE
          dsimp only at hw1
          have hprev : ∀ j, j < i + (k + 1) → g_end G (g_S G kind snow stones f) j = 3 := fun j hj => by
            rcases Nat.lt_or_ge j (i + k) with z | z
            · exact jp j z
            · rw [show j = i + k by omega]; exact he
          have hwb : f_wb I1 1 (I1 21 4) (I1 21 5) = nI w := by rw [j4, j5, f_wb_RC hRC1 hlt.1 ht8, hw1, nI_pred]
          refine hG2 [(2, [1, 1, 1, 1, 0, 0])] 20 2 _ _ _ _ (am_nf (nI_lt (by omega) (by omega)) (am_nf (by rw [j7, he]; rfl) (And.intro (Or.inl rfl) ?_)))
          show G2 39 [some (.ref 21), some (.ref 1), some (.int (nI n)), some (.int (nI k)), some (.int (f_wb I1 1 (I1 21 4) (I1 21 5))), none] [] (am_ui I1 21 6 (I1 21 6 + 1)) L1
          rw [hwb, j6, nI_1]
          obtain ⟨J1, hJ1⟩ : ∃ J1 : am_I, J1 = am_ui I1 21 6 (nI (i + k + 1)) := ⟨_, rfl⟩
          have jo : ∀ a, a ≠ 21 → J1 a = I1 a := fun a ha => by rw [hJ1]; exact am_ui_o ha
          have jk : ∀ q, q ≠ 6 → J1 21 q = I1 21 q := fun q hq => by rw [hJ1]; exact am_ui_n (fun z => hq z.2)
          have jk6 : J1 21 6 = nI (i + (k + 1)) := by rw [hJ1, am_ui_e]; rfl
          rw [← hJ1]
          have hRC3 : RC J1 L1 1 G := RC_fr hRC1 (fun a h1 h2 => jo a (by omega)) rfl
          have hsc3 : SC J1 L1 (g_vs G (g_S G kind snow stones f) (i + (k + 1))) := SC_fr jsc (by rw [jo 22 (by omega)]) (jo 24 (by omega)) rfl
          have hfj : FJ I J1 L L1 := FJ_tr hf ⟨fun a h1 _ _ => jo a h1, fun _ _ _ => rfl⟩
          have hbit : f_bit (J1 21 2) (nI w) = am_b (snow.testBit w = true) := by rw [jk 2 (by omega), j2, f_bit_nI _ (by omega)]
          have hnx : g_nx G kind snow stones (p, b) = if snow.testBit w = true then (p, g_set b w) else (t, g_heed G kind snow stones t p (g_clr b w)) := by
            unfold g_nx
            rw [ht]
            dsimp only
            rw [hw1]
            rfl
          by_cases hsn : snow.testBit w = true
          · -- the way is shut
            rw [if_pos hsn] at hnx
            refine hG2 [(2, [1, 1, 1, 1, 0, 0])] 50 39 _ _ _ _ (am_nf (by rw [hbit, am_b1 hsn]) (And.intro (rfl) (And.intro (rfl) (Exists.intro (G) (Exists.intro (b) (Exists.intro (w) (And.intro (hX.1) (And.intro (hRC3) (And.intro (hw2) (And.intro (rfl) (And.intro ((jk 8 (by omega)).trans j8) (And.intro (jn) (fun b2 L2 hb2 hn2 hL2 => ?_)))))))))))))
            have hb2 : b2 = g_set b w := by rw [hb2, if_neg (by decide), if_pos rfl]
            subst hb2
            refine And.intro (rfl) (And.intro (rfl) (Exists.intro (G) (Exists.intro (p) (Exists.intro (g_set b w) (Exists.intro (g_vs G (g_S G kind snow stones f) (i + (k + 1))) (And.intro (hX.1) (And.intro (RC_fr hRC3 (fun a h1 h2 => am_ui_o (by omega)) (hL2 1 (by omega))) (And.intro (hlt.1) (And.intro (g_set_lt hlt.2 (by omega)) (And.intro ((am_ui_n (by omega)).trans ((jk 4 (by omega)).trans j4)) (And.intro (am_ui_e) (And.intro (hn2) (And.intro (SC_fr hsc3 (am_ui_n (by omega)) (am_ui_o (by omega)) (hL2 23 (by omega))) (fun e I3 L3 hee e7 e5 esc ek e8 e9 => ?_))))))))))))))
            show G2 2 [some (.ref 21), some (.ref 1), some (.int (nI n)), some (.int (nI k + 1)), none, none] [] I3 L3
            rw [nI_1]
            refine ih (k + 1) I3 L3 (by omega) (by omega) (JS_look hX hprev (hs1.trans hnx) ((am_ui_n (by omega)).trans ((jk 1 (by omega)).trans j1)) ((am_ui_n (by omega)).trans ((jk 2 (by omega)).trans j2)) ((am_ui_n (by omega)).trans ((jk 3 (by omega)).trans j3)) ((am_ui_n (by omega)).trans ((jk 4 (by omega)).trans j4)) ((am_ui_n (by omega)).trans jk6) am_ui_e hn2 hee e7 e5 esc ek (e9 21 (by omega))) (FJ_tr hfj ⟨fun a h1 h2 h3 => (e8 a h1 h2 h3).trans (am_ui_o h1), fun a h1 h2 => (e9 a h2).trans (hL2 a h1)⟩)
          · -- it is open
            rw [if_neg hsn] at hnx
            refine hG2 [(2, [1, 1, 1, 1, 0, 0])] 50 39 _ _ _ _ (am_nt (by rw [hbit, am_b0 hsn]; decide) ?_)
            have jt : J1 21 5 = nI t := (jk 5 (by omega)).trans j5
            refine And.intro (rfl) (And.intro (rfl) (Exists.intro (G) (Exists.intro (b) (Exists.intro (w) (And.intro (hX.1) (And.intro (RC_fr hRC3 (fun a h1 h2 => am_ui_o (by omega)) rfl) (And.intro (hw2) (And.intro (rfl) (And.intro ((am_ui_n (by omega)).trans ((jk 8 (by omega)).trans j8)) (And.intro (jn) (fun b2 L2 hb2 hn2 hL2 => ?_)))))))))))
            have hb2 : b2 = g_clr b w := by rw [hb2, if_pos rfl]
            subst hb2
            have hJ2o : ∀ a, a ≠ 21 → am_ui (am_ui J1 21 4 (J1 21 5)) 21 8 (nI (g_clr b w)) a = J1 a := fun a ha => (am_ui_o ha).trans (am_ui_o ha)
            have hJ2k : ∀ q, q ≠ 4 → q ≠ 8 → am_ui (am_ui J1 21 4 (J1 21 5)) 21 8 (nI (g_clr b w)) 21 q = J1 21 q := fun q h1 h2 => (am_ui_n (fun z => h2 z.2)).trans (am_ui_n (fun z => h1 z.2))
            refine And.intro (rfl) (And.intro (rfl) (Exists.intro (G) (Exists.intro (kind) (Exists.intro (snow) (Exists.intro (stones) (Exists.intro (t) (Exists.intro (p) (Exists.intro (g_clr b w) (And.intro (hX.1) (And.intro (RC_fr hRC3 (fun a h1 h2 => hJ2o a (by omega)) (hL2 1 (by omega))) (And.intro (hX.2.1) (And.intro (hX.2.2.1) (And.intro (ht8) (And.intro (hlt.1) (And.intro ((jk 4 (by omega)).trans j4) (And.intro ((hJ2k 1 (by omega) (by omega)).trans ((jk 1 (by omega)).trans j1)) (And.intro ((hJ2k 2 (by omega) (by omega)).trans ((jk 2 (by omega)).trans j2)) (And.intro ((hJ2k 3 (by omega) (by omega)).trans ((jk 3 (by omega)).trans j3)) (And.intro ((am_ui_n (by omega)).trans (am_ui_e.trans jt)) (And.intro (am_ui_e) (And.intro (hn2) (fun L4 hn4 hL4 => ?_))))))))))))))))))))))
            refine And.intro (rfl) (And.intro (rfl) (Exists.intro (G) (Exists.intro (t) (Exists.intro (g_heed G kind snow stones t p (g_clr b w)) (Exists.intro (g_vs G (g_S G kind snow stones f) (i + (k + 1))) (And.intro (hX.1) (And.intro (RC_fr hRC3 (fun a h1 h2 => (am_ui_o (by omega)).trans (hJ2o a (by omega))) ((hL4 1 (by omega)).trans (hL2 1 (by omega)))) (And.intro (ht8) (And.intro (g_heed_lt hX.1 hX.2.2.1 ht8 (g_clr_lt hlt.2 (by omega))) (And.intro ((am_ui_n (by omega)).trans ((am_ui_n (by omega)).trans (am_ui_e.trans jt))) (And.intro (am_ui_e) (And.intro (hn4) (And.intro (SC_fr hsc3 ((am_ui_n (by omega)).trans (by rw [hJ2o 22 (by omega)])) ((am_ui_o (by omega)).trans (hJ2o 24 (by omega))) ((hL4 23 (by omega)).trans (hL2 23 (by omega)))) (fun e I3 L3 hee e7 e5 esc ek e8 e9 => ?_))))))))))))))
            show G2 2 [some (.ref 21), some (.ref 1), some (.int (nI n)), some (.int (nI k + 1)), none, none] [] I3 L3
            rw [nI_1]
            refine ih (k + 1) I3 L3 (by omega) (by omega) (JS_look hX hprev (hs1.trans hnx) ((am_ui_n (by omega)).trans ((hJ2k 1 (by omega) (by omega)).trans ((jk 1 (by omega)).trans j1))) ((am_ui_n (by omega)).trans ((hJ2k 2 (by omega) (by omega)).trans ((jk 2 (by omega)).trans j2))) ((am_ui_n (by omega)).trans ((hJ2k 3 (by omega) (by omega)).trans ((jk 3 (by omega)).trans j3))) ((am_ui_n (by omega)).trans ((am_ui_n (by omega)).trans (am_ui_e.trans jt))) ((am_ui_n (by omega)).trans ((hJ2k 6 (by omega) (by omega)).trans jk6)) am_ui_e hn4 hee e7 e5 esc ek (e9 21 (by omega))) (FJ_tr hfj ⟨fun a h1 h2 h3 => (e8 a h1 h2 h3).trans ((am_ui_o h1).trans (hJ2o a h1)), fun a h1 h2 => (e9 a h2).trans ((hL4 a h1).trans (hL2 a h1))⟩)
        · have h4 := g_end_lt G (g_S G kind snow stones f) (i + k)
          refine hG2 [(2, [])] 50 2 _ _ _ _ (am_nf (nI_lt (by omega) (by omega)) (am_nt (by rw [j7, show (3 : Int32) = nI 3 from rfl, nI_eq (by omega) (by omega)]; exact he) ?_))
          exact h (i + k) I1 L1 (by omega) (by omega) (Or.inr he) ⟨j1, j2, j3, j4, j6, j7, j8, jn, j5, jsc, jp⟩ hf
    refine hG2 [(2, [])] 50 0 _ _ _ _ ?_
    exact loop n 0 I L (by omega) (by omega) hJ FJ_rfl
  · exact h.elim
end
section
/-! what of the reference's parts the class needs -/
theorem am_cmp_lt (x y : Int64) : lg_cmp x y < 0 ↔ x < y := by
  unfold lg_cmp
  by_cases h : x > y
  · rw [if_pos h]
    exact ⟨fun q => absurd q (by decide), fun q => absurd (Int64.lt_trans q h) Int64.lt_irrefl⟩
  · rw [if_neg h]
    by_cases h2 : x = y
    · rw [if_pos h2]; subst h2
      exact ⟨fun q => absurd q (by decide), fun q => absurd q Int64.lt_irrefl⟩
    · rw [if_neg h2]
      refine ⟨fun _ => ?_, fun _ => by decide⟩
      rcases Int64.lt_or_eq_of_le (Int64.not_lt.mp h) with z | z
      · exact z
      · exact absurd z h2
theorem am_cmp_gt (x y : Int64) : 0 < lg_cmp x y ↔ y < x := by
  unfold lg_cmp
  by_cases h : x > y
  · rw [if_pos h]; exact ⟨fun _ => h, fun _ => by decide⟩
  · rw [if_neg h]
    by_cases h2 : x = y
    · rw [if_pos h2]; exact ⟨fun q => absurd q (by decide), fun q => absurd q h⟩
    · rw [if_neg h2]; exact ⟨fun q => absurd q (by decide), fun q => absurd q h⟩
theorem WG_e {G : Nat → Nat} (h : WG G) {k : Nat} (hk : k < G 0) : k < 12 ∧ G (1 + k) < 8 ∧ G (13 + k) < 8 := by
  have := h.1
  have := h.2.1 k hk
  omega
theorem g_cnt_lt2 {P Q : Nat → Bool} : ∀ n, (∀ j, j < n → P j = true → Q j = true) → (∃ w, w < n ∧ P w = false ∧ Q w = true) → g_cnt P n < g_cnt Q n := by
  have le : ∀ n, (∀ j, j < n → P j = true → Q j = true) → g_cnt P n ≤ g_cnt Q n := by
    intro n
    induction n with
    | zero => intro _; exact Nat.le_refl _
    | succ n ih =>
      intro h
      have := ih (fun j hj => h j (by omega))
      simp only [g_cnt]
      by_cases hp : P n = true
      · rw [if_pos hp, if_pos (h n (by omega) hp)]; omega
      · rw [if_neg hp]; split <;> omega
  intro n
  induction n with
  | zero => rintro _ ⟨w, h, _⟩; omega
  | succ n ih =>
    rintro h ⟨w, hw, h1, h2⟩
    simp only [g_cnt]
    rcases Nat.lt_or_ge w n with z | z
    · have := ih (fun j hj => h j (by omega)) ⟨w, z, h1, h2⟩
      by_cases hp : P n = true
      · rw [if_pos hp, if_pos (h n (by omega) hp)]; omega
      · rw [if_neg hp]; split <;> omega
    · have e : w = n := by omega
      subst e
      have := le w (fun j hj => h j (by omega))
      rw [h1, h2]
      simp; omega
theorem g_R7 {E : Nat → Nat → Bool} {h : Nat} (hh : h < 8) {m q : Nat} (hq : q < 8) (hr : g_R E h m q = true) : g_R E h 7 q = true := by
  have key : ∀ k, (∃ j, j < k ∧ ∀ i, i < 8 → g_R E h (j + 1) i = true → g_R E h j i = true) ∨ k + 1 ≤ g_cnt (fun i => g_R E h k i) 8 := by
    intro k
    induction k with
    | zero =>
      right
      have : g_cnt (fun _ => false) 8 < g_cnt (fun i => g_R E h 0 i) 8 := g_cnt_lt2 8 (fun j _ z => by cases z) ⟨h, hh, rfl, by simp [g_R]⟩
      omega
    | succ k ih =>
      rcases ih with ⟨j, a, b⟩ | a
      · exact Or.inl ⟨j, by omega, b⟩
      · by_cases hs : ∀ i, i < 8 → g_R E h (k + 1) i = true → g_R E h k i = true
        · exact Or.inl ⟨k, by omega, hs⟩
        · right
          have : ∃ w, w < 8 ∧ g_R E h k w = false ∧ g_R E h (k + 1) w = true := by
            apply Classical.byContradiction
            intro hn
            apply hs
            intro i hi h1
            cases hk : g_R E h k i with
            | true => rfl
            | false => exact absurd ⟨i, hi, hk, h1⟩ hn
          have := g_cnt_lt2 (P := fun i => g_R E h k i) (Q := fun i => g_R E h (k + 1) i) 8 (fun j _ z => g_R_mono (Nat.le_succ k) z) this
          omega
  rcases key 8 with ⟨j, a, b⟩ | a
  · rcases Nat.lt_or_ge m j with z | z
    · exact g_R_mono (by omega) hr
    · have := g_stable b (m - j) q hq (by rw [show j + (m - j) = m by omega]; exact hr)
      exact g_R_mono (by omega) this
  · have := g_cnt_le (fun i => g_R E h 8 i) 8
    omega
theorem am_pigeon (f : Nat → Nat) (N : Nat) : ∀ i, (∀ j, j < i → f j < N) → (∀ j k, k < j → j < i → ¬ f k = f j) → i ≤ N := by
  have key : ∀ i, (∀ j, j < i → f j < N) → (∀ j k, k < j → j < i → ¬ f k = f j) → g_cnt (fun s => (List.range i).any (fun j => decide (f j = s))) N = i := by
    intro i
    induction i with
    | zero => intro _ _; exact g_cnt_zero N (fun j _ => rfl)
    | succ i ih =>
      intro h1 h2
      have e := ih (fun j hj => h1 j (by omega)) (fun j k a b => h2 j k a (by omega))
      rw [g_cnt_add (P := fun s => (List.range i).any (fun j => decide (f j = s))) (w := f i) ?_ ?_ ?_ N (h1 i (by omega)), e]
      · rw [Bool.eq_false_iff]
        intro hz
        rw [List.any_eq_true] at hz
        obtain ⟨j, a, b⟩ := hz
        rw [List.mem_range] at a
        exact h2 i j a (by omega) (by simpa using b)
      · rw [List.any_eq_true]
        exact ⟨i, List.mem_range.mpr (by omega), by simp⟩
      · intro s hs
        simp only [List.range_succ, List.any_append]
        have : ¬ f i = s := fun z => hs z.symm
        simp [this]
  intro i h1 h2
  rw [← key i h1 h2]
  exact g_cnt_le _ N
theorem g_S_bound {G : Nat → Nat} {kind snow stones f i : Nat} (hX : JX G kind stones f) (h : ∀ j, j < i → g_end G (g_S G kind snow stones f) j = 3) : i ≤ 32768 := by
  have hlt := g_S_lt (snow := snow) (kind := kind) hX.1 hX.2.2.1 hX.2.2.2
  refine am_pigeon (fun j => (g_S G kind snow stones f j).1 * 4096 + (g_S G kind snow stones f j).2) 32768 i (fun j _ => ?_) (fun j k hk hj e => ?_)
  · have := hlt j; omega
  · have a := hlt j
    have b := hlt k
    have hs := (g_end_3 (h j hj)).2.1
    have e2 : g_S G kind snow stones f k = g_S G kind snow stones f j := Prod.ext (by omega) (by omega)
    have : g_sn (g_S G kind snow stones f) j (g_S G kind snow stones f j) = true := by
      unfold g_sn
      rw [List.any_eq_true]
      exact ⟨k, List.mem_range.mpr hk, by simp [e2]⟩
    rw [hs] at this
    cases this
end
section
/-! THE ABSTRACT STATE: the road, its image (and whether there is one), the tape, the sheets; and what each simple call makes of it -/
abbrev am_A : Type := (Nat → Nat) × (Nat → Nat) × Bool × Nat × (Nat → Nat) × (Nat → Int32) × (Nat → Nat) × (Nat → Nat → Int64)
def VA : am_A → Prop
  | (G, K, _, tn, tt, ln, sz, _) => WG G ∧ WG K ∧ tn ≤ 100 ∧ (∀ j, j < tn → 32 ≤ tt j ∧ tt j ≤ 126) ∧ ∀ s, s < 4 → (ln s = -1 ∨ ln s = 0 ∨ ln s = 1 ∨ ln s = 2) ∧ sz s ≤ 24
def TP (I : am_I) (tn : Nat) (tt : Nat → Nat) : Prop := I 19 1 = nI tn ∧ ∀ j, j < tn → I 20 j = nI (tt j)
def SHc (I : am_I) (L : am_J) (ln : Nat → Int32) (sz : Nat → Nat) (it : Nat → Nat → Int64) : Prop := ∀ s, s < 4 → I (26 + 2 * s) 1 = ln s ∧ (¬ ln s = -1 → I (26 + 2 * s) 2 = nI (sz s)) ∧ ∀ j, j < 24 → L (27 + 2 * s) j = it s j
/-- the class's cells hold A -/
def CR (I : am_I) (L : am_J) : am_A → Prop
  | (G, K, hk, tn, tt, ln, sz, it) => VA (G, K, hk, tn, tt, ln, sz, it) ∧ RC I L 1 G ∧ RC I L 7 K ∧ I 0 7 = am_b (hk = true) ∧ TP I tn tt ∧ (∃ V, SC I L V) ∧ SHc I L ln sz it
theorem TP_fr {I I2 : am_I} {tn : Nat} {tt : Nat → Nat} (h : TP I tn tt) (h1 : I2 19 1 = I 19 1) (h2 : I2 20 = I 20) : TP I2 tn tt := by
  unfold TP at *; rw [h1, h2]; exact h
theorem SHc_fr {I I2 : am_I} {L L2 : am_J} {ln : Nat → Int32} {sz : Nat → Nat} {it : Nat → Nat → Int64} (h : SHc I L ln sz it) (h1 : ∀ a, 26 ≤ a → a ≤ 33 → I2 a = I a) (h2 : ∀ a, 26 ≤ a → a ≤ 33 → L2 a = L a) : SHc I2 L2 ln sz it := by
  intro s hs
  rw [h1 (26 + 2 * s) (by omega) (by omega), h2 (27 + 2 * s) (by omega) (by omega)]
  exact h s hs
/-- whatever a journey does, the abstract state stays -/
theorem CR_FJ {I I2 : am_I} {L L2 : am_J} {A : am_A} (h : CR I L A) (hf : FJ I I2 L L2) (hv : ∃ V, SC I2 L2 V) : CR I2 L2 A := by
  obtain ⟨G, K, hk, tn, tt, ln, sz, it⟩ := A
  obtain ⟨h1, h2, h3, h4, h5, h6, h7⟩ := h
  exact ⟨h1, FJ_RC hf (by omega) h2, FJ_RC hf (by omega) h3, by rw [hf.1 0 (by omega) (by omega) (by omega)]; exact h4, TP_fr h5 (by rw [hf.1 19 (by omega) (by omega) (by omega)]) (hf.1 20 (by omega) (by omega) (by omega)), hv, SHc_fr h7 (fun a _ _ => hf.1 a (by omega) (by omega) (by omega)) (fun a _ _ => hf.2 a (by omega) (by omega))⟩
def o_pl (x : Int32) : Prop := 0 ≤ x ∧ x < 8
def o_plD (x : Int32) : Decidable (o_pl x) := by unfold o_pl; exact inferInstance
/-- a road with one way more -/
def g_add (G : Nat → Nat) (a b : Nat) (d : Bool) : Nat → Nat := fun i => if i = 0 then G 0 + 1 else if i = 1 + G 0 then (if a < b then a else b) else if i = 13 + G 0 then (if a < b then b else a) else if i = 25 then (if d = true then g_set (G 25) (G 0) else G 25) else G i
def g_put (G : Nat → Nat) (k v : Nat) : Nat → Nat := fun i => if i = k then v else G i
def o_way : am_A → Int32 → Int32 → Int32 → Int32 × am_A
  | (G, R), a, b, d => if ¬ (0 ≤ a ∧ a < 8) ∨ ¬ (0 ≤ b ∧ b < 8) ∨ a = b then (-1, (G, R)) else if ¬ g_wy G a.toNatClampNeg b.toNatClampNeg = 0 then (-2, (G, R)) else if G 0 = 12 ∨ (¬ d = 0 ∧ g_pc (G 25) 12 = 6) then (-3, (G, R)) else (nI (G 0), (g_add G a.toNatClampNeg b.toNatClampNeg (!decide (d = 0)), R))
def o_told : am_A → Int32 → Int32 → Int32 × am_A
  | (G, R), w, x => if ¬ (0 ≤ w ∧ w < nI (G 0)) ∨ ¬ (0 ≤ x ∧ x < 4) then (-1, (G, R)) else ((if x = 0 then nI (G (1 + w.toNatClampNeg)) else if x = 1 then nI (G (13 + w.toNatClampNeg)) else if x = 2 then am_b ((G 25).testBit w.toNatClampNeg = true) else am_b ((G 44).testBit w.toNatClampNeg = true)), (G, R))
def o_stone : am_A → Int32 → Int32 → Int32 → Int32 × am_A
  | (G, R), p, s, w => if ¬ (0 ≤ p ∧ p < 8) ∨ ¬ (0 ≤ s ∧ s < 8) ∨ ¬ (0 ≤ w ∧ w < nI (G 0)) then (-1, (G, R)) else if g_wy G p.toNatClampNeg s.toNatClampNeg = 0 then (-2, (G, R)) else (nI (g_pc (g_set (G 26) p.toNatClampNeg) 12), (g_put (g_put (g_put G (27 + p.toNatClampNeg) s.toNatClampNeg) (35 + p.toNatClampNeg) w.toNatClampNeg) 26 (g_set (G 26) p.toNatClampNeg), R))
def o_strike : am_A → Int32 → Int32 × am_A
  | (G, R), p => if ¬ (0 ≤ p ∧ p < 8) then (-1, (G, R)) else if ¬ (G 26).testBit p.toNatClampNeg = true then (-2, (G, R)) else (nI (g_pc (g_clr (G 26) p.toNatClampNeg) 12), (g_put G 26 (g_clr (G 26) p.toNatClampNeg), R))
def o_of : am_A → Int32 → Int32 → Int32 × am_A
  | (G, R), p, x => if ¬ (0 ≤ p ∧ p < 8) ∨ ¬ (0 ≤ x ∧ x < 2) then (-1, (G, R)) else if ¬ (G 26).testBit p.toNatClampNeg = true then (-4, (G, R)) else ((if x = 0 then nI (G (27 + p.toNatClampNeg)) else nI (G (35 + p.toNatClampNeg))), (G, R))
def o_home : am_A → Int32 → Int32 × am_A
  | (G, R), p => if ¬ (0 ≤ p ∧ p < 8) then (-1, (G, R)) else (nI (G 43), (g_put G 43 p.toNatClampNeg, R))
def o_snow : am_A → Int32 → Int32 × am_A
  | (G, R), s => if ¬ s &&& (nI (G 25) ^^^ (-1)) = 0 then (-1, (G, R)) else (nI (G 44), (g_put G 44 s.toNatClampNeg, R))
def o_count : am_A → Int32 → Int32 × am_A
  | (G, R), x => (if x = 0 then nI (G 0) else if x = 1 then nI (G 25) else if x = 2 then nI (g_pc (G 26) 12) else if x = 3 then nI (G 43) else if x = 4 then nI (G 44) else -1, (G, R))
def o_read : am_A → Int32 → Int32 → Int32 × am_A
  | (G, R), p, f => if ¬ (0 ≤ p ∧ p < 8) ∨ ¬ (0 ≤ f ∧ f < 8) then (-1, (G, R)) else if g_wy G p.toNatClampNeg f.toNatClampNeg = 0 then (-2, (G, R)) else if ¬ (G 26).testBit p.toNatClampNeg = true then (-4, (G, R)) else (am_b ((G 44).testBit (G (35 + p.toNatClampNeg)) = false ↔ G (27 + p.toNatClampNeg) = f.toNatClampNeg), (G, R))
def o_image : am_A → Int32 × am_A
  | (G, _, _, R) => (1, (G, G, true, R))
def o_restore : am_A → Int32 × am_A
  | (G, K, hk, R) => if hk = true then (1, (K, K, hk, R)) else (-4, (G, K, hk, R))
def o_upd {α : Type} (f : Nat → α) (k : Nat) (v : α) : Nat → α := fun i => if i = k then v else f i
def o_sheet : am_A → Int32 → Int32 → Int32 → Int32 × am_A
  | (G, K, hk, tn, tt, ln, sz, it), s, a, n => if ¬ (0 ≤ s ∧ s < 4) ∨ ¬ (0 ≤ a ∧ a < 3) ∨ 24 < n then (-1, (G, K, hk, tn, tt, ln, sz, it)) else if n < 0 then (-14, (G, K, hk, tn, tt, ln, sz, it)) else (n, (G, K, hk, tn, tt, o_upd ln s.toNatClampNeg a, o_upd sz s.toNatClampNeg n.toNatClampNeg, o_upd it s.toNatClampNeg (fun _ => 0)))
def o_drop : am_A → Int32 → Int32 × am_A
  | (G, K, hk, tn, tt, ln, sz, it), s => if ¬ (0 ≤ s ∧ s < 4) then (-1, (G, K, hk, tn, tt, ln, sz, it)) else if ln s.toNatClampNeg = -1 then (-11, (G, K, hk, tn, tt, ln, sz, it)) else (nI (sz s.toNatClampNeg), (G, K, hk, tn, tt, o_upd ln s.toNatClampNeg (-1), sz, it))
/-- what is against n items of a sheet from i on, taken as of a lane -/
def o_bars (ln : Nat → Int32) (sz : Nat → Nat) (s : Nat) (a i n : Int32) : Int32 := if ln s = -1 then -11 else if ¬ ln s = a then -12 else if 0 ≤ i.toInt ∧ 0 ≤ n.toInt ∧ i.toInt + n.toInt ≤ sz s then 0 else -13
def o_item : am_A → Int32 → Int32 → Int32 → Int64 → Int32 × am_A
  | (G, K, hk, tn, tt, ln, sz, it), s, a, i, v => if ¬ (0 ≤ s ∧ s < 4) ∨ ¬ (0 ≤ a ∧ a < 3) then (-1, (G, K, hk, tn, tt, ln, sz, it)) else if ¬ o_bars ln sz s.toNatClampNeg a i 1 = 0 then (o_bars ln sz s.toNatClampNeg a i 1, (G, K, hk, tn, tt, ln, sz, it)) else (1, (G, K, hk, tn, tt, ln, sz, o_upd it s.toNatClampNeg (o_upd (it s.toNatClampNeg) i.toNatClampNeg (f_cut a v))))
def o_cpy (f g : Nat → Int64) (i j n : Nat) : Nat → Int64 := fun k => if j ≤ k ∧ k < j + n then f (i + (k - j)) else g k
def o_copy : am_A → Int32 → Int32 → Int32 → Int32 → Int32 → Int32 × am_A
  | (G, K, hk, tn, tt, ln, sz, it), s, i, t, j, n => if ¬ (0 ≤ s ∧ s < 4) ∨ ¬ (0 ≤ t ∧ t < 4) then (-1, (G, K, hk, tn, tt, ln, sz, it)) else if ln s.toNatClampNeg = -1 ∨ ln t.toNatClampNeg = -1 then (-11, (G, K, hk, tn, tt, ln, sz, it)) else if ¬ ln s.toNatClampNeg = ln t.toNatClampNeg then (-12, (G, K, hk, tn, tt, ln, sz, it))
    else if ¬ o_bars ln sz s.toNatClampNeg (ln t.toNatClampNeg) i n = 0 ∨ ¬ o_bars ln sz t.toNatClampNeg (ln s.toNatClampNeg) j n = 0 then (-13, (G, K, hk, tn, tt, ln, sz, it)) else (n, (G, K, hk, tn, tt, ln, sz, o_upd it t.toNatClampNeg (o_cpy (it s.toNatClampNeg) (it t.toNatClampNeg) i.toNatClampNeg j.toNatClampNeg n.toNatClampNeg)))
/-! the row of a road stays one -/
theorem g_pc_congr {m m' : Nat} : ∀ n, (∀ i, i < n → m.testBit i = m'.testBit i) → g_pc m n = g_pc m' n := by
  intro n
  induction n with
  | zero => intro _; rfl
  | succ n ih => intro h; simp only [g_pc, ih (fun i hi => h i (by omega)), h n (by omega)]
theorem g_pc_set {m k : Nat} (h : m.testBit k = false) : ∀ n, k < n → g_pc (g_set m k) n = g_pc m n + 1 := by
  intro n
  induction n with
  | zero => intro h; omega
  | succ n ih =>
    intro hk
    simp only [g_pc]
    rcases Nat.lt_or_ge k n with z | z
    · have hne : ¬ n = k := by omega
      rw [ih z, g_set_t]
      simp only [hne, decide_false, Bool.or_false]
      omega
    · have e : k = n := by omega
      subst e
      rw [g_pc_congr (m := g_set m k) (m' := m) k (fun i hi => by
        have : ¬ i = k := by omega
        rw [g_set_t]; simp [this]), g_set_t, h]
      simp
theorem g_add_wy {G : Nat → Nat} {a b : Nat} {d : Bool} (h12 : G 0 < 12) (p q : Nat) : g_wy (g_add G a b d) p q = if (p = a ∧ q = b) ∨ (p = b ∧ q = a) then G 0 + 1 else g_wy G p q := by
  have e0 : g_add G a b d 0 = G 0 + 1 := by simp [g_add]
  have hj : ∀ k, k < G 0 → g_j (g_add G a b d) p q k = g_j G p q k := fun k hk => by
    have e1 : g_add G a b d (1 + k) = G (1 + k) := by
      unfold g_add
      rw [if_neg (by omega), if_neg (by omega), if_neg (by omega), if_neg (by omega)]
    have e2 : g_add G a b d (13 + k) = G (13 + k) := by
      unfold g_add
      rw [if_neg (by omega), if_neg (by omega), if_neg (by omega), if_neg (by omega)]
    simp only [g_j, e1, e2]
  have hw : ∀ n, n ≤ G 0 → g_w (g_add G a b d) p q n = g_w G p q n := by
    intro n
    induction n with
    | zero => intro _; rfl
    | succ n ih => intro hn; simp only [g_w, hj n (by omega), ih (by omega)]
  have ea : g_add G a b d (1 + G 0) = if a < b then a else b := by
    unfold g_add
    rw [if_neg (by omega), if_pos rfl]
  have eb : g_add G a b d (13 + G 0) = if a < b then b else a := by
    unfold g_add
    rw [if_neg (by omega), if_neg (by omega), if_pos rfl]
  unfold g_wy
  rw [e0]
  show (if g_j (g_add G a b d) p q (G 0) = true then G 0 + 1 else g_w (g_add G a b d) p q (G 0)) = _
  rw [hw _ (Nat.le_refl _)]
  have hc : g_j (g_add G a b d) p q (G 0) = true ↔ (p = a ∧ q = b) ∨ (p = b ∧ q = a) := by
    simp only [g_j, ea, eb, Bool.or_eq_true, Bool.and_eq_true, decide_eq_true_eq]
    split <;> omega
  by_cases h : (p = a ∧ q = b) ∨ (p = b ∧ q = a)
  · rw [if_pos (hc.mpr h), if_pos h]
  · rw [if_neg (fun z => h (hc.mp z)), if_neg h]
theorem WG_add {G : Nat → Nat} (h : WG G) {a b : Nat} {d : Bool} (ha : a < 8) (hb : b < 8) (hab : a ≠ b) (hw : g_wy G a b = 0) (h12 : G 0 < 12) (hd : d = true → g_pc (G 25) 12 < 6) : WG (g_add G a b d) := by
  obtain ⟨w1, w2, w3, w4, w5, w6, w7, w8, w9, w10, w11⟩ := id h
  have e0 : g_add G a b d 0 = G 0 + 1 := by simp [g_add]
  have e1 : ∀ k, k < G 0 → g_add G a b d (1 + k) = G (1 + k) ∧ g_add G a b d (13 + k) = G (13 + k) := fun k hk => by
    constructor <;> (unfold g_add; rw [if_neg (by omega), if_neg (by omega), if_neg (by omega), if_neg (by omega)])
  have ea : g_add G a b d (1 + G 0) = if a < b then a else b := by
    unfold g_add
    rw [if_neg (by omega), if_pos rfl]
  have eb : g_add G a b d (13 + G 0) = if a < b then b else a := by
    unfold g_add
    rw [if_neg (by omega), if_neg (by omega), if_pos rfl]
  have e25 : g_add G a b d 25 = if d = true then g_set (G 25) (G 0) else G 25 := by
    unfold g_add
    rw [if_neg (by omega), if_neg (by omega), if_neg (by omega), if_pos rfl]
  have eo : ∀ i, 25 < i → g_add G a b d i = G i := fun i hi => by
    unfold g_add
    rw [if_neg (by omega), if_neg (by omega), if_neg (by omega), if_neg (by omega)]
  have hb0 : (G 25).testBit (G 0) = false := by
    cases hq : (G 25).testBit (G 0) with
    | false => rfl
    | true => have := w5 _ hq; omega
  refine ⟨by omega, fun k hk => ?_, fun j k hjk hk => ?_, ?_, fun k hk => ?_, ?_, by rw [eo 26 (by omega)]; exact w7, fun p hp hst => ?_, by rw [eo 43 (by omega)]; exact w9, by rw [eo 44 (by omega)]; exact w10, fun k hk => ?_⟩
  · rw [e0] at hk
    rcases Nat.lt_or_ge k (G 0) with z | z
    · rw [(e1 k z).1, (e1 k z).2]; exact w2 k z
    · rw [show k = G 0 by omega, ea, eb]; split <;> omega
  · rw [e0] at hk
    rcases Nat.lt_or_ge k (G 0) with z | z
    · rw [(e1 k z).1, (e1 k z).2, (e1 j (by omega)).1, (e1 j (by omega)).2]; exact w3 j k hjk z
    · have ek : k = G 0 := by omega
      subst ek
      rw [(e1 j (by omega)).1, (e1 j (by omega)).2, ea, eb]
      rintro ⟨x, y⟩
      have hj : g_j G a b j = true := by
        simp only [g_j, Bool.or_eq_true, Bool.and_eq_true, decide_eq_true_eq]
        split at x <;> split at y <;> omega
      rw [g_wy_of h hjk hj] at hw
      omega
  · rw [e25]; split
    · exact g_set_lt w4 (by omega)
    · exact w4
  · rw [e25] at hk
    rw [e0]
    split at hk
    · rw [g_set_t] at hk
      simp only [Bool.or_eq_true, decide_eq_true_eq] at hk
      rcases hk with z | z
      · have := w5 k z; omega
      · omega
    · have := w5 k hk; omega
  · rw [e25]; split
    · rename_i hdt
      rw [g_pc_set hb0 12 (by omega)]
      have := hd hdt
      omega
    · exact w6
  · rw [eo 26 (by omega)] at hst
    rw [eo _ (by omega), eo _ (by omega), e0]
    have := w8 p hp hst
    omega
  · rw [eo 44 (by omega)] at hk
    rw [e25]
    split
    · rw [g_set_t, w11 k hk]; rfl
    · exact w11 k hk
end
section
/-! how the cells of a road change with its row of numbers -/
set_option maxRecDepth 100000 in
theorem f_bc_nI : ∀ m, m < 4096 → f_bc (nI m) = nI (g_pc m 12) := by decide +kernel
theorem g_w_congr {G G' : Nat → Nat} (a b : Nat) : ∀ n, (∀ k, k < n → G' (1 + k) = G (1 + k) ∧ G' (13 + k) = G (13 + k)) → g_w G' a b n = g_w G a b n := by
  intro n
  induction n with
  | zero => intro _; rfl
  | succ n ih =>
    intro h
    have e : g_j G' a b n = g_j G a b n := by simp only [g_j, (h n (by omega)).1, (h n (by omega)).2]
    simp only [g_w, e, ih (fun k hk => h k (by omega))]
theorem g_wy_congr {G G' : Nat → Nat} (h12 : G 0 ≤ 12) (h : ∀ i, i < 25 → G' i = G i) (a b : Nat) : g_wy G' a b = g_wy G a b := by
  unfold g_wy
  rw [h 0 (by omega)]
  exact g_w_congr a b _ (fun k hk => ⟨h _ (by omega), h _ (by omega)⟩)
theorem g_E_congr {G G' : Nat → Nat} (h12 : G 0 ≤ 12) (h : ∀ i, i < 25 → G' i = G i) (s a b : Nat) : g_E G' s a b = g_E G s a b := by
  unfold g_E; rw [g_wy_congr h12 h]
theorem WG_of {G G' : Nat → Nat} (h : WG G) (e : ∀ i, i < 26 → G' i = G i) (h26 : G' 26 < 256) (hst : ∀ p, p < 8 → (G' 26).testBit p = true → G' (27 + p) < 8 ∧ G' (35 + p) < G 0) (h43 : G' 43 < 8) (h44 : G' 44 < 2 ^ 12) (hsub : ∀ k, (G' 44).testBit k = true → (G 25).testBit k = true) : WG G' := by
  obtain ⟨w1, w2, w3, w4, w5, w6, w7, w8, w9, w10, w11⟩ := h
  have e0 := e 0 (by omega)
  have e25 := e 25 (by omega)
  refine ⟨by omega, fun k hk => ?_, fun j k hjk hk => ?_, by rw [e25]; exact w4, fun k hk => ?_, by rw [e25]; exact w6, h26, fun p hp hs => by rw [e0]; exact hst p hp hs, h43, h44, fun k hk => by rw [e25]; exact hsub k hk⟩
  · rw [e0] at hk; rw [e _ (by omega), e _ (by omega)]; exact w2 k hk
  · rw [e0] at hk; rw [e _ (by omega), e _ (by omega), e _ (by omega), e _ (by omega)]; exact w3 j k hjk hk
  · rw [e25] at hk; rw [e0]; exact w5 k hk
theorem RC_of {I I2 : am_I} {L : am_J} {G G' : Nat → Nat} (hG : G 0 ≤ 12) (h : RC I L 1 G) (e : ∀ i, i < 26 → G' i = G i) (h5 : I2 1 5 = I 1 5) (h6 : I2 1 6 = I 1 6) (h7 : I2 1 7 = nI (G' 44)) (h8 : I2 1 8 = nI (G' 26)) (h9 : I2 1 9 = nI (G' 43)) (a2 : I2 2 = I 2) (a3 : I2 3 = I 3) (a4 : I2 4 = I 4)
    (hst : ∀ p, p < 8 → (G' 26).testBit p = true → I2 5 p = nI (G' (27 + p)) ∧ I2 6 p = nI (G' (35 + p))) : RC I2 L 1 G' := by
  obtain ⟨r5, r6, r7, r8, r9, rw2, rj, rs, rn, rc⟩ := h
  have hw := g_wy_congr hG (fun i hi => e i (by omega))
  have hE := g_E_congr hG (fun i hi => e i (by omega))
  refine ⟨by rw [h5, r5, e 0 (by omega)], by rw [h6, r6, e 25 (by omega)], h7, h8, h9, fun k hk => ?_, fun a b ha hb => ?_, hst, fun a b ha hb => ?_, fun a b ha hb => ?_⟩
  · rw [e 0 (by omega)] at hk
    show I2 2 k = _ ∧ I2 3 k = _
    rw [a2, a3, e _ (by omega), e _ (by omega)]; exact rw2 k hk
  · show I2 4 _ = _
    rw [a4, hw]; exact rj a b ha hb
  · rw [hE]; exact rn a b ha hb
  · rw [hE, e 25 (by omega)]; exact rc a b ha hb
theorem nI_m1 {w : Nat} (h : w < 2147483647) : nI w - 1 = -1 ↔ w = 0 := by
  constructor
  · intro q
    rcases Nat.eq_zero_or_pos w with z | z
    · exact z
    · obtain ⟨k, rfl⟩ : ∃ k, w = k + 1 := ⟨w - 1, by omega⟩
      rw [nI_pred] at q
      have : nI k < 0 := by rw [q]; decide
      exact absurd this (nI_pos (by omega))
  · intro q; subst q; rfl
theorem g_E_add {G : Nat → Nat} {x y : Nat} {d : Bool} (h12 : G 0 < 12) (hw : g_wy G x y = 0) (s p q : Nat) : g_E (g_add G x y d) s p q = if (p = x ∧ q = y) ∨ (p = y ∧ q = x) then !s.testBit (G 0) else g_E G s p q := by
  unfold g_E
  rw [g_add_wy h12]
  by_cases h : (p = x ∧ q = y) ∨ (p = y ∧ q = x)
  · rw [if_pos h, if_pos h]; simp
  · rw [if_neg h, if_neg h]
theorem RC_join {I : am_I} {L : am_J} {r : Nat} {G : Nat → Nat} (hW : WG G) (h : RC I L r G) {x y : Nat} {d : Int32} (hx : x < 8) (hy : y < 8) (hxy : x ≠ y) (hw : g_wy G x y = 0) (h12 : G 0 < 12) : RC (f_joinI I r (nI x) (nI y) d) (f_joinL L r (nI x) (nI y) d) r (g_add G x y (!decide (d = 0))) := by
  obtain ⟨r5, r6, r7, r8, r9, rw2, rj, rs, rn, rc⟩ := h
  have e0 : g_add G x y (!decide (d = 0)) 0 = G 0 + 1 := by simp [g_add]
  have e1 : ∀ k, k < G 0 → g_add G x y (!decide (d = 0)) (1 + k) = G (1 + k) ∧ g_add G x y (!decide (d = 0)) (13 + k) = G (13 + k) := fun k hk => by
    constructor <;> (unfold g_add; rw [if_neg (by omega), if_neg (by omega), if_neg (by omega), if_neg (by omega)])
  have ea : g_add G x y (!decide (d = 0)) (1 + G 0) = if x < y then x else y := by
    unfold g_add
    rw [if_neg (by omega), if_pos rfl]
  have eb : g_add G x y (!decide (d = 0)) (13 + G 0) = if x < y then y else x := by
    unfold g_add
    rw [if_neg (by omega), if_neg (by omega), if_pos rfl]
  have e25 : g_add G x y (!decide (d = 0)) 25 = if d = 0 then G 25 else g_set (G 25) (G 0) := by
    unfold g_add
    rw [if_neg (by omega), if_neg (by omega), if_neg (by omega), if_pos rfl]
    by_cases hd : d = 0
    · simp [hd]
    · simp [hd]
  have eo : ∀ i, 25 < i → g_add G x y (!decide (d = 0)) i = G i := fun i hi => by
    unfold g_add
    rw [if_neg (by omega), if_neg (by omega), if_neg (by omega), if_neg (by omega)]
  have c0 : (nI (G 0)).toNatClampNeg = G 0 := nI_clamp (by omega)
  have cxy : (nI x * 8 + nI y).toNatClampNeg = 8 * x + y := by rw [show (8 : Int32) = nI 8 from rfl, pk_mul, nI_add, nI_clamp (by omega), Nat.mul_comm]
  have cyx : (nI y * 8 + nI x).toNatClampNeg = 8 * y + x := by rw [show (8 : Int32) = nI 8 from rfl, pk_mul, nI_add, nI_clamp (by omega), Nat.mul_comm]
  have hlo : (if nI x < nI y then nI x else nI y) = nI (if x < y then x else y) := by
    by_cases z : x < y
    · rw [if_pos (nI_lt z (by omega)), if_pos z]
    · rw [if_neg (nI_nlt (by omega) (by omega)), if_neg z]
  have hhi : (if nI x < nI y then nI y else nI x) = nI (if x < y then y else x) := by
    by_cases z : x < y
    · rw [if_pos (nI_lt z (by omega)), if_pos z]
    · rw [if_neg (nI_nlt (by omega) (by omega)), if_neg z]
  have hfI : f_joinI I r (nI x) (nI y) d = am_ui (if d = 0 then am_ui (am_ui (am_ui (am_ui I (r + 1) (G 0) (nI (if x < y then x else y))) (r + 2) (G 0) (nI (if x < y then y else x))) (r + 3) (8 * x + y) (nI (G 0 + 1))) (r + 3) (8 * y + x) (nI (G 0 + 1)) else am_ui (am_ui (am_ui (am_ui (am_ui I (r + 1) (G 0) (nI (if x < y then x else y))) (r + 2) (G 0) (nI (if x < y then y else x))) (r + 3) (8 * x + y) (nI (G 0 + 1))) (r + 3) (8 * y + x) (nI (G 0 + 1))) r 6 (nI (g_set (G 25) (G 0)))) r 5 (nI (G 0 + 1)) := by
    unfold f_joinI
    rw [r5, r6, hlo, hhi, c0, cxy, cyx, nI_1, g_set_I _ (by omega)]
  rw [hfI]
  generalize hI1 : am_ui (am_ui (am_ui (am_ui I (r + 1) (G 0) (nI (if x < y then x else y))) (r + 2) (G 0) (nI (if x < y then y else x))) (r + 3) (8 * x + y) (nI (G 0 + 1))) (r + 3) (8 * y + x) (nI (G 0 + 1)) = J
  have j0 : ∀ k, J r k = I r k := fun k => by rw [← hI1, am_ui_n (by omega), am_ui_n (by omega), am_ui_n (by omega), am_ui_n (by omega)]
  have j1 : ∀ k, J (r + 1) k = if k = G 0 then nI (if x < y then x else y) else I (r + 1) k := fun k => by
    rw [← hI1, am_ui_n (by omega), am_ui_n (by omega), am_ui_n (by omega), am_ui_r]
    by_cases z : k = G 0
    · rw [if_pos ⟨rfl, z⟩, if_pos z]
    · rw [if_neg (fun q => z q.2), if_neg z]
  have j2 : ∀ k, J (r + 2) k = if k = G 0 then nI (if x < y then y else x) else I (r + 2) k := fun k => by
    rw [← hI1, am_ui_n (by omega), am_ui_n (by omega), am_ui_r]
    by_cases z : k = G 0
    · rw [if_pos ⟨rfl, z⟩, if_pos z]
    · rw [if_neg (fun q => z q.2), if_neg z, am_ui_n (by omega)]
  have j3 : ∀ k, J (r + 3) k = if k = 8 * y + x ∨ k = 8 * x + y then nI (G 0 + 1) else I (r + 3) k := fun k => by
    rw [← hI1, am_ui_r]
    by_cases z : k = 8 * y + x
    · rw [if_pos ⟨rfl, z⟩, if_pos (Or.inl z)]
    · rw [if_neg (fun q => z q.2), am_ui_r]
      by_cases z2 : k = 8 * x + y
      · rw [if_pos ⟨rfl, z2⟩, if_pos (Or.inr z2)]
      · rw [if_neg (fun q => z2 q.2), if_neg (show ¬ (k = 8 * y + x ∨ k = 8 * x + y) by omega), am_ui_n (by omega), am_ui_n (by omega)]
  have j4 : ∀ a, r + 3 < a → J a = I a := fun a ha => by rw [← hI1, am_ui_o (by omega), am_ui_o (by omega), am_ui_o (by omega), am_ui_o (by omega)]
  clear hI1
  have hJ : ∀ a k, ¬ (a = r ∧ (k = 5 ∨ k = 6)) → am_ui (if d = 0 then J else am_ui J r 6 (nI (g_set (G 25) (G 0)))) r 5 (nI (G 0 + 1)) a k = J a k := fun a k hk => by
    rw [am_ui_n (by omega)]
    split
    · rfl
    · rw [am_ui_n (by omega)]
  have lnet : ∀ k, f_joinL L r (nI x) (nI y) d r k = if k = 10 then L r 10 ||| f_pair (nI x) (nI y) else if k = 11 ∧ d = 0 then L r 11 ||| f_pair (nI x) (nI y) else L r k := fun k => by
    unfold f_joinL
    by_cases hd : d = 0
    · rw [if_pos hd, am_uj_r]
      by_cases z : k = 11
      · subst z; rw [if_pos ⟨rfl, rfl⟩, if_neg (by omega), if_pos ⟨rfl, hd⟩]
      · rw [if_neg (fun q => z q.2), am_uj_r]
        by_cases z2 : k = 10
        · rw [if_pos ⟨rfl, z2⟩, if_pos z2]
        · rw [if_neg (fun q => z2 q.2), if_neg z2, if_neg (fun q => z q.1)]
    · rw [if_neg hd, am_uj_r]
      by_cases z2 : k = 10
      · rw [if_pos ⟨rfl, z2⟩, if_pos z2]
      · rw [if_neg (fun q => z2 q.2), if_neg z2, if_neg (fun q => hd q.2)]
  have pr : ∀ p q, p < 8 → q < 8 → (bl (f_pair (nI x) (nI y)) (8 * p + q) = true ↔ (p = x ∧ q = y) ∨ (p = y ∧ q = x)) := fun p q hp hq => by
    rw [f_pair_bl hx hy hp hq]; simp
  have hE0 : ∀ p q, ((p = x ∧ q = y) ∨ (p = y ∧ q = x)) → ∀ s, g_E G s p q = false := fun p q hpq s => by
    have : g_wy G p q = 0 := by
      rcases hpq with ⟨rfl, rfl⟩ | ⟨rfl, rfl⟩
      · exact hw
      · rw [g_wy_sym]; exact hw
    unfold g_E; simp [this]
  have hb0 : (G 25).testBit (G 0) = false := by
    cases hq : (G 25).testBit (G 0) with
    | false => rfl
    | true => have := hW.2.2.2.2.1 _ hq; omega
  refine ⟨by rw [am_ui_e, e0], ?_, by rw [hJ _ _ (by omega), j0, r7, eo 44 (by omega)], by rw [hJ _ _ (by omega), j0, r8, eo 26 (by omega)], by rw [hJ _ _ (by omega), j0, r9, eo 43 (by omega)], fun k hk => ?_, fun a b ha hb => ?_, fun p hp hs => ?_, fun a b ha hb => ?_, fun a b ha hb => ?_⟩
  · rw [am_ui_n (by omega), e25]
    by_cases hd : d = 0
    · rw [if_pos hd, if_pos hd, j0, r6]
    · rw [if_neg hd, if_neg hd, am_ui_e]
  · rw [e0] at hk
    rw [hJ _ _ (by omega), hJ _ _ (by omega), j1, j2]
    by_cases z : k = G 0
    · rw [if_pos z, if_pos z, z, ea, eb]; exact ⟨rfl, rfl⟩
    · rw [if_neg z, if_neg z, (e1 k (by omega)).1, (e1 k (by omega)).2]; exact rw2 k (by omega)
  · rw [hJ _ _ (by omega), j3, g_add_wy h12]
    by_cases z : (a = x ∧ b = y) ∨ (a = y ∧ b = x)
    · rw [if_pos z, if_pos (by omega)]
    · rw [if_neg z, if_neg (by omega)]; exact rj a b ha hb
  · rw [eo 26 (by omega)] at hs
    rw [hJ _ _ (by omega), hJ _ _ (by omega), j4 _ (by omega), j4 _ (by omega), eo _ (by omega), eo _ (by omega)]
    exact rs p hp hs
  · rw [lnet, if_pos rfl, bl_or, rn a b ha hb, g_E_add h12 hw]
    by_cases z : (a = x ∧ b = y) ∨ (a = y ∧ b = x)
    · rw [if_pos z, (pr a b ha hb).mpr z]; simp
    · rw [if_neg z]
      have : bl (f_pair (nI x) (nI y)) (8 * a + b) = false := by
        cases hq : bl (f_pair (nI x) (nI y)) (8 * a + b) with
        | false => rfl
        | true => exact absurd ((pr a b ha hb).mp hq) z
      rw [this, Bool.or_false]
  · rw [lnet, if_neg (by omega), g_E_add h12 hw, e25]
    by_cases hd : d = 0
    · rw [if_pos ⟨rfl, hd⟩, if_pos hd, bl_or, rc a b ha hb]
      by_cases z : (a = x ∧ b = y) ∨ (a = y ∧ b = x)
      · rw [if_pos z, (pr a b ha hb).mpr z, hb0]; simp
      · rw [if_neg z]
        have : bl (f_pair (nI x) (nI y)) (8 * a + b) = false := by
          cases hq : bl (f_pair (nI x) (nI y)) (8 * a + b) with
          | false => rfl
          | true => exact absurd ((pr a b ha hb).mp hq) z
        rw [this, Bool.or_false]
    · rw [if_neg (fun q => hd q.2), if_neg hd, rc a b ha hb]
      by_cases z : (a = x ∧ b = y) ∨ (a = y ∧ b = x)
      · rw [if_pos z, hE0 a b z, g_set_t]; simp
      · rw [if_neg z]
        unfold g_E
        by_cases hz : g_wy G a b = 0
        · simp [hz]
        · have hle := g_wy_le G a b
          have : ¬ g_wy G a b - 1 = G 0 := by omega
          rw [g_set_t]; simp [this]
theorem f_join_fr {I : am_I} {L : am_J} {r : Nat} {a b d : Int32} : (∀ o, o ≠ r → o ≠ r + 1 → o ≠ r + 2 → o ≠ r + 3 → f_joinI I r a b d o = I o) ∧ (∀ o, o ≠ r → f_joinL L r a b d o = L o) := by
  constructor
  · intro o h0 h1 h2 h3
    unfold f_joinI
    rw [am_ui_o h0]
    split
    · rw [am_ui_o h3, am_ui_o h3, am_ui_o h2, am_ui_o h1]
    · rw [am_ui_o h0, am_ui_o h3, am_ui_o h3, am_ui_o h2, am_ui_o h1]
  · intro o h0
    unfold f_joinL
    split
    · rw [am_uj_o h0, am_uj_o h0]
    · rw [am_uj_o h0]
end
section
/-! THE CLASS: a road emptied, a road taken over -/
def T_SY_arraycopy : am_Sp := fun vs I L post => match vs with
  | [.ref a, .int sp, .ref b, .int dp, .int n] => am_sh am_SX a (fun c => am_sh am_SX b (fun c2 => match c, c2 with
    | .inr (0, na, _), .inr (0, nb, _) => ¬ sp < 0 ∧ (¬ dp < 0 ∧ (¬ n < 0 ∧ (sp.toNatClampNeg + n.toNatClampNeg ≤ na ∧ (dp.toNatClampNeg + n.toNatClampNeg ≤ nb ∧ post none (am_cpi I a b sp.toNatClampNeg dp.toNatClampNeg n.toNatClampNeg) L))))
    | .inr (1, na, _), .inr (1, nb, _) => ¬ sp < 0 ∧ (¬ dp < 0 ∧ (¬ n < 0 ∧ (sp.toNatClampNeg + n.toNatClampNeg ≤ na ∧ (dp.toNatClampNeg + n.toNatClampNeg ≤ nb ∧ post none I (am_cpj L a b sp.toNatClampNeg dp.toNatClampNeg n.toNatClampNeg)))))
    | _, _ => False))
  | _ => False
theorem am_cpi_r (I : am_I) (src dst sp dp n a b : Nat) : am_cpi I src dst sp dp n a b = if a = dst ∧ (dp ≤ b ∧ b < dp + n) then I src (sp + (b - dp)) else I a b := rfl
theorem am_cpj_r (I : am_J) (src dst sp dp n a b : Nat) : am_cpj I src dst sp dp n a b = if a = dst ∧ (dp ≤ b ∧ b < dp + n) then I src (sp + (b - dp)) else I a b := rfl
theorem am_cpi_o {I : am_I} {src dst sp dp n a : Nat} (h : a ≠ dst) : am_cpi I src dst sp dp n a = I a := by funext b; simp [am_cpi, h]
theorem am_cpj_o {I : am_J} {src dst sp dp n a : Nat} (h : a ≠ dst) : am_cpj I src dst sp dp n a = I a := by funext b; simp [am_cpj, h]
def am_rq (r q : Nat) : Prop := (r = 1 ∧ q = 13) ∨ (r = 7 ∧ q = 1) ∨ (r = 1 ∧ q = 7)
def am_rf (r : Nat) (I I2 : am_I) (L L2 : am_J) : Prop := (∀ a : Nat, (a < r ∨ r + 5 < a) → I2 a = I a) ∧ (∀ a : Nat, a ≠ r → L2 a = L a)
/-- an empty road, of home h -/
def g_0 (h : Nat) : Nat → Nat := fun i => if i = 43 then h else 0
theorem WG_0 {h : Nat} (hh : h < 8) : WG (g_0 h) := by
  refine ⟨by simp [g_0], fun k hk => by simp [g_0] at hk, fun j k _ hk => by simp [g_0] at hk, by simp [g_0], fun k hk => by simp [g_0] at hk, by simp [g_0]; decide, by simp [g_0], fun p _ hs => by simp [g_0] at hs, by simpa [g_0] using hh, by simp [g_0], fun k hk => by simp [g_0] at hk⟩
theorem g_wy_0 (h a b : Nat) : g_wy (g_0 h) a b = 0 := by
  unfold g_wy
  rw [show g_0 h 0 = 0 by simp [g_0]]
  rfl
theorem g_E_0 (h s a b : Nat) : g_E (g_0 h) s a b = false := by
  unfold g_E; rw [g_wy_0]; rfl
def T_RD_clear : am_Sp := fun vs I L post => match vs with
  | [.ref r] => r = 13 ∧ ∃ g, I 13 9 = nI g ∧ ∀ (I2 : am_I) (L2 : am_J), RC I2 L2 13 (g_0 g) → (∀ a, a ≠ 13 → a ≠ 16 → I2 a = I a) → (∀ a, a ≠ 13 → L2 a = L a) → post none I2 L2
  | _ => False
abbrev sp_RD_clear : Nat → am_Sp := fun _ => am_no
set_option maxRecDepth 100000 in
theorem ok_RD_clear : am_Ok am_SX sp_RD_clear false k_RD_clear 2 T_RD_clear := by
  intro vs I L post h
  unfold T_RD_clear at h
  split at h
  · rename_i r
    obtain ⟨rfl, g, h9, h⟩ := h
    refine ⟨Nat.le_of_ble_eq_true rfl, fun G2 hG2 => ?_⟩
    have loop : ∀ d k (I1 : am_I), 64 - k = d → k ≤ 64 → (∀ a, a ≠ 16 → I1 a = I a) → (∀ j, j < k → I1 16 j = 0) → G2 2 [some (.ref 13), some (.int (nI k))] [] I1 L := by
      intro d
      induction d with
      | zero =>
        intro k I1 hd hk ho hz
        have e : k = 64 := by omega
        subst e
        refine hG2 [(2, [])] 100 2 _ _ _ _ (am_nt (am_nlt (Nat.le_refl 64) rfl) ?_)
        show post none (am_ui (am_ui (am_ui (am_ui I1 13 5 0) 13 6 0) 13 7 0) 13 8 0) (am_uj (am_uj L 13 10 0) 13 11 0)
        have e9 : I1 13 9 = nI g := by rw [ho 13 (by omega)]; exact h9
        refine h _ _ ⟨?_, ?_, ?_, ?_, ?_, fun k hk => by simp [g_0] at hk, fun a b ha hb => ?_, fun p _ hs => by simp [g_0] at hs, fun a b ha hb => ?_, fun a b ha hb => ?_⟩ (fun a h1 h2 => by rw [am_ui_o h1, am_ui_o h1, am_ui_o h1, am_ui_o h1]; exact ho a h2) (fun a h1 => by rw [am_uj_o h1, am_uj_o h1])
        · simp [am_ui_r, g_0, nI_0]
        · simp [am_ui_r, g_0, nI_0]
        · simp [am_ui_r, g_0, nI_0]
        · simp [am_ui_r, g_0, nI_0]
        · simp [am_ui_r, g_0, e9]
        · rw [g_wy_0, am_ui_n (by omega), am_ui_n (by omega), am_ui_n (by omega), am_ui_n (by omega)]
          exact hz _ (by omega)
        · rw [g_E_0, am_uj_n (by omega), am_uj_e, bl_0]
        · rw [g_E_0, am_uj_e, bl_0]
      | succ d ih =>
        intro k I1 hd hk ho hz
        refine hG2 [(2, [])] 100 2 _ _ _ _ (am_nf (am_lt (by omega : k < 64) rfl) (And.intro (am_vin (by omega) rfl) ?_))
        show G2 2 [some (.ref 13), some (.int (nI k + 1))] [] (am_ui I1 16 (nI k).toNatClampNeg 0) L
        rw [nI_1, nI_clamp (by omega)]
        refine ih (k + 1) _ (by omega) (by omega) (fun a ha => (am_ui_o ha).trans (ho a ha)) (fun j hj => ?_)
        rw [am_ui_r]
        split
        · rfl
        · rename_i q; exact hz j (by omega)
    refine hG2 [(2, [])] 100 0 _ _ _ _ ?_
    exact loop 64 0 I (by omega) (by omega) (fun _ _ => rfl) (fun j hj => by omega)
  · exact h.elim
theorem RC_cp {I I2 : am_I} {L L2 : am_J} {r q : Nat} {G : Nat → Nat} (hW : G 0 ≤ 12) (h : RC I L q G) (f : ∀ k, 5 ≤ k → k ≤ 9 → I2 r k = I q k) (l : ∀ k, 10 ≤ k → k ≤ 11 → L2 r k = L q k) (a1 : ∀ k, k < 12 → I2 (r + 1) k = I (q + 1) k) (a2 : ∀ k, k < 12 → I2 (r + 2) k = I (q + 2) k) (a3 : ∀ k, k < 64 → I2 (r + 3) k = I (q + 3) k) (a4 : ∀ k, k < 8 → I2 (r + 4) k = I (q + 4) k) (a5 : ∀ k, k < 8 → I2 (r + 5) k = I (q + 5) k) : RC I2 L2 r G := by
  obtain ⟨r5, r6, r7, r8, r9, rw2, rj, rs, rn, rc⟩ := h
  refine ⟨by rw [f 5 (by omega) (by omega)]; exact r5, by rw [f 6 (by omega) (by omega)]; exact r6, by rw [f 7 (by omega) (by omega)]; exact r7, by rw [f 8 (by omega) (by omega)]; exact r8, by rw [f 9 (by omega) (by omega)]; exact r9, fun k hk => ?_, fun a b ha hb => ?_, fun p hp hs => ?_, fun a b ha hb => ?_, fun a b ha hb => ?_⟩
  · rw [a1 k (by omega), a2 k (by omega)]; exact rw2 k hk
  · rw [a3 _ (by omega)]; exact rj a b ha hb
  · rw [a4 p hp, a5 p hp]; exact rs p hp hs
  · rw [l 10 (by omega) (by omega)]; exact rn a b ha hb
  · rw [l 11 (by omega) (by omega)]; exact rc a b ha hb
def T_RD_become : am_Sp := fun vs I L post => match vs with
  | [.ref r, .ref q] => am_rq r q ∧ ∃ G, G 0 ≤ 12 ∧ RC I L q G ∧ ∀ (I2 : am_I) (L2 : am_J), RC I2 L2 r G → am_rf r I I2 L L2 → post none I2 L2
  | _ => False
def sp_RD_become : Nat → am_Sp := fun i => match i with
  | 83 => T_SY_arraycopy
  | _ => am_no
set_option maxRecDepth 100000 in
set_option maxHeartbeats 4000000 in
theorem ok_RD_become : am_Ok am_SX sp_RD_become false k_RD_become 2 T_RD_become := by
  intro vs I L post h
  unfold T_RD_become at h
  split at h
  · rename_i r q
    obtain ⟨hrq, G, hW, hRC, h⟩ := h
    refine ⟨Nat.le_of_ble_eq_true rfl, fun G2 hG2 => ?_⟩
    rcases hrq with ⟨rfl, rfl⟩ | ⟨rfl, rfl⟩ | ⟨rfl, rfl⟩
    · refine hG2 [] 200 0 _ _ _ _ (And.intro (by decide) (And.intro (by decide) (And.intro (by decide) (And.intro (by decide) (And.intro (by decide) (And.intro (by decide) (And.intro (by decide) (And.intro (by decide) (And.intro (by decide) (And.intro (by decide) (And.intro (by decide) (And.intro (by decide) (And.intro (by decide) (And.intro (by decide) (And.intro (by decide) (And.intro (by decide) (And.intro (by decide) (And.intro (by decide) (And.intro (by decide) (And.intro (by decide) (And.intro (by decide) (And.intro (by decide) (And.intro (by decide) (And.intro (by decide) (And.intro (by decide) ?_)))))))))))))))))))))))))
      refine h _ _ (RC_cp hW hRC (fun k h1 h2 => ?_) (fun k h1 h2 => ?_) (fun k hk => ?_) (fun k hk => ?_) (fun k hk => ?_) (fun k hk => ?_) (fun k hk => ?_)) ⟨fun a ha => ?_, fun a ha => ?_⟩
      · rcases (show k = 5 ∨ k = 6 ∨ k = 7 ∨ k = 8 ∨ k = 9 by omega) with rfl | rfl | rfl | rfl | rfl <;> simp [am_ui_r, am_cpi_r]
      · rcases (show k = 10 ∨ k = 11 by omega) with rfl | rfl <;> simp [am_uj_r]
      · simp [am_ui_r, am_cpi_r]; intro z; omega
      · simp [am_ui_r, am_cpi_r]; intro z; omega
      · simp [am_ui_r, am_cpi_r]; intro z; omega
      · simp [am_ui_r, am_cpi_r]; intro z; omega
      · simp [am_ui_r, am_cpi_r]; intro z; omega
      · rw [am_ui_o (show a ≠ 1 by omega), am_ui_o (show a ≠ 1 by omega), am_ui_o (show a ≠ 1 by omega), am_ui_o (show a ≠ 1 by omega), am_ui_o (show a ≠ 1 by omega), am_cpi_o (show a ≠ 6 by omega), am_cpi_o (show a ≠ 5 by omega), am_cpi_o (show a ≠ 4 by omega), am_cpi_o (show a ≠ 3 by omega), am_cpi_o (show a ≠ 2 by omega)]
      · rw [am_uj_o (show a ≠ 1 by omega), am_uj_o (show a ≠ 1 by omega)]
    · refine hG2 [] 200 0 _ _ _ _ (And.intro (by decide) (And.intro (by decide) (And.intro (by decide) (And.intro (by decide) (And.intro (by decide) (And.intro (by decide) (And.intro (by decide) (And.intro (by decide) (And.intro (by decide) (And.intro (by decide) (And.intro (by decide) (And.intro (by decide) (And.intro (by decide) (And.intro (by decide) (And.intro (by decide) (And.intro (by decide) (And.intro (by decide) (And.intro (by decide) (And.intro (by decide) (And.intro (by decide) (And.intro (by decide) (And.intro (by decide) (And.intro (by decide) (And.intro (by decide) (And.intro (by decide) ?_)))))))))))))))))))))))))
      refine h _ _ (RC_cp hW hRC (fun k h1 h2 => ?_) (fun k h1 h2 => ?_) (fun k hk => ?_) (fun k hk => ?_) (fun k hk => ?_) (fun k hk => ?_) (fun k hk => ?_)) ⟨fun a ha => ?_, fun a ha => ?_⟩
      · rcases (show k = 5 ∨ k = 6 ∨ k = 7 ∨ k = 8 ∨ k = 9 by omega) with rfl | rfl | rfl | rfl | rfl <;> simp [am_ui_r, am_cpi_r]
      · rcases (show k = 10 ∨ k = 11 by omega) with rfl | rfl <;> simp [am_uj_r]
      · simp [am_ui_r, am_cpi_r]; intro z; omega
      · simp [am_ui_r, am_cpi_r]; intro z; omega
      · simp [am_ui_r, am_cpi_r]; intro z; omega
      · simp [am_ui_r, am_cpi_r]; intro z; omega
      · simp [am_ui_r, am_cpi_r]; intro z; omega
      · rw [am_ui_o (show a ≠ 7 by omega), am_ui_o (show a ≠ 7 by omega), am_ui_o (show a ≠ 7 by omega), am_ui_o (show a ≠ 7 by omega), am_ui_o (show a ≠ 7 by omega), am_cpi_o (show a ≠ 12 by omega), am_cpi_o (show a ≠ 11 by omega), am_cpi_o (show a ≠ 10 by omega), am_cpi_o (show a ≠ 9 by omega), am_cpi_o (show a ≠ 8 by omega)]
      · rw [am_uj_o (show a ≠ 7 by omega), am_uj_o (show a ≠ 7 by omega)]
    · refine hG2 [] 200 0 _ _ _ _ (And.intro (by decide) (And.intro (by decide) (And.intro (by decide) (And.intro (by decide) (And.intro (by decide) (And.intro (by decide) (And.intro (by decide) (And.intro (by decide) (And.intro (by decide) (And.intro (by decide) (And.intro (by decide) (And.intro (by decide) (And.intro (by decide) (And.intro (by decide) (And.intro (by decide) (And.intro (by decide) (And.intro (by decide) (And.intro (by decide) (And.intro (by decide) (And.intro (by decide) (And.intro (by decide) (And.intro (by decide) (And.intro (by decide) (And.intro (by decide) (And.intro (by decide) ?_)))))))))))))))))))))))))
      refine h _ _ (RC_cp hW hRC (fun k h1 h2 => ?_) (fun k h1 h2 => ?_) (fun k hk => ?_) (fun k hk => ?_) (fun k hk => ?_) (fun k hk => ?_) (fun k hk => ?_)) ⟨fun a ha => ?_, fun a ha => ?_⟩
      · rcases (show k = 5 ∨ k = 6 ∨ k = 7 ∨ k = 8 ∨ k = 9 by omega) with rfl | rfl | rfl | rfl | rfl <;> simp [am_ui_r, am_cpi_r]
      · rcases (show k = 10 ∨ k = 11 by omega) with rfl | rfl <;> simp [am_uj_r]
      · simp [am_ui_r, am_cpi_r]; intro z; omega
      · simp [am_ui_r, am_cpi_r]; intro z; omega
      · simp [am_ui_r, am_cpi_r]; intro z; omega
      · simp [am_ui_r, am_cpi_r]; intro z; omega
      · simp [am_ui_r, am_cpi_r]; intro z; omega
      · rw [am_ui_o (show a ≠ 1 by omega), am_ui_o (show a ≠ 1 by omega), am_ui_o (show a ≠ 1 by omega), am_ui_o (show a ≠ 1 by omega), am_ui_o (show a ≠ 1 by omega), am_cpi_o (show a ≠ 6 by omega), am_cpi_o (show a ≠ 5 by omega), am_cpi_o (show a ≠ 4 by omega), am_cpi_o (show a ≠ 3 by omega), am_cpi_o (show a ≠ 2 by omega)]
      · rw [am_uj_o (show a ≠ 1 by omega), am_uj_o (show a ≠ 1 by omega)]
  · exact h.elim
end
section
/-! THE CLASS: the simple calls -/
theorem am_uo {I : am_I} {o k a b : Nat} {x : Int32} (h : a ≠ o) : am_ui I o k x a b = I a b := am_ui_n (fun t => h t.1)
theorem am_uk {I : am_I} {o k a b : Nat} {x : Int32} (h : b ≠ k) : am_ui I o k x a b = I a b := am_ui_n (fun t => h t.2)
theorem VA_G {G G' : Nat → Nat} {R : (Nat → Nat) × Bool × Nat × (Nat → Nat) × (Nat → Int32) × (Nat → Nat) × (Nat → Nat → Int64)} (h : VA (G, R)) (hW : WG G') : VA (G', R) := by
  obtain ⟨K, hk, tn, tt, ln, sz, it⟩ := R
  exact ⟨hW, h.2⟩
theorem CR_road {I I2 : am_I} {L L2 : am_J} {G G' : Nat → Nat} {R : (Nat → Nat) × Bool × Nat × (Nat → Nat) × (Nat → Int32) × (Nat → Nat) × (Nat → Nat → Int64)} (h : CR I L (G, R)) (hW : WG G') (hR : RC I2 L2 1 G') (hI : ∀ a : Nat, (a = 0 ∨ 6 < a) → I2 a = I a) (hL : ∀ a : Nat, a ≠ 1 → L2 a = L a) : CR I2 L2 (G', R) := by
  obtain ⟨K, hk, tn, tt, ln, sz, it⟩ := R
  obtain ⟨hV, _, hKr, hk7, hT, ⟨V, hS⟩, hSh⟩ := h
  exact ⟨⟨hW, hV.2⟩, hR, RC_fr hKr (fun a _ _ => hI a (by omega)) (hL 7 (by omega)), by rw [hI 0 (by omega)]; exact hk7, TP_fr hT (by rw [hI 19 (by omega)]) (hI 20 (by omega)), ⟨V, SC_fr hS (by rw [hI 22 (by omega)]) (hI 24 (by omega)) (hL 23 (by omega))⟩, SHc_fr hSh (fun a _ _ => hI a (by omega)) (fun a _ _ => hL a (by omega))⟩
theorem WG_side {G : Nat → Nat} (h : WG G) {p s w : Nat} (hp : p < 8) (hs : s < 8) (hw : w < G 0) : WG (g_put (g_put (g_put G (27 + p) s) (35 + p) w) 26 (g_set (G 26) p)) := by
  have e : ∀ i, g_put (g_put (g_put G (27 + p) s) (35 + p) w) 26 (g_set (G 26) p) i = if i = 26 then g_set (G 26) p else if i = 35 + p then w else if i = 27 + p then s else G i := fun i => rfl
  refine WG_of h (fun i hi => ?_) ?_ (fun q hq hst => ?_) ?_ ?_ (fun k hk => ?_)
  · rw [e, if_neg (by omega), if_neg (by omega), if_neg (by omega)]
  · rw [e, if_pos rfl]; exact g_set_lt (n := 8) h.2.2.2.2.2.2.1 hp
  · rw [e, if_pos rfl, g_set_t] at hst
    rw [e, e, if_neg (by omega), if_neg (by omega)]
    by_cases z : q = p
    · rw [if_pos (by omega), if_neg (by omega), if_pos (by omega)]; exact ⟨hs, hw⟩
    · rw [if_neg (by omega), if_neg (by omega), if_neg (by omega), if_neg (by omega)]
      simp only [z, decide_false, Bool.or_false] at hst
      exact h.2.2.2.2.2.2.2.1 q hq hst
  · rw [e, if_neg (by omega), if_neg (by omega), if_neg (by omega)]; exact h.2.2.2.2.2.2.2.2.1
  · rw [e, if_neg (by omega), if_neg (by omega), if_neg (by omega)]; exact h.2.2.2.2.2.2.2.2.2.1
  · rw [e, if_neg (by omega), if_neg (by omega), if_neg (by omega)] at hk; exact h.2.2.2.2.2.2.2.2.2.2 k hk
theorem WG_clr {G : Nat → Nat} (h : WG G) {p : Nat} (hp : p < 8) : WG (g_put G 26 (g_clr (G 26) p)) := by
  have e : ∀ i, g_put G 26 (g_clr (G 26) p) i = if i = 26 then g_clr (G 26) p else G i := fun i => rfl
  refine WG_of h (fun i hi => ?_) ?_ (fun q hq hst => ?_) ?_ ?_ (fun k hk => ?_)
  · rw [e, if_neg (by omega)]
  · rw [e, if_pos rfl]; exact g_clr_lt (n := 8) h.2.2.2.2.2.2.1 hp
  · rw [e, if_pos rfl, g_clr_t] at hst
    rw [e, e, if_neg (by omega), if_neg (by omega)]
    simp only [Bool.and_eq_true] at hst
    exact h.2.2.2.2.2.2.2.1 q hq hst.1
  · rw [e, if_neg (by omega)]; exact h.2.2.2.2.2.2.2.2.1
  · rw [e, if_neg (by omega)]; exact h.2.2.2.2.2.2.2.2.2.1
  · rw [e, if_neg (by omega)] at hk; exact h.2.2.2.2.2.2.2.2.2.2 k hk
theorem WG_home {G : Nat → Nat} (h : WG G) {p : Nat} (hp : p < 8) : WG (g_put G 43 p) := by
  have e : ∀ i, g_put G 43 p i = if i = 43 then p else G i := fun i => rfl
  refine WG_of h (fun i hi => ?_) ?_ (fun q hq hst => ?_) ?_ ?_ (fun k hk => ?_)
  · rw [e, if_neg (by omega)]
  · rw [e, if_neg (by omega)]; exact h.2.2.2.2.2.2.1
  · rw [e, if_neg (by omega)] at hst
    rw [e, e, if_neg (by omega), if_neg (by omega)]
    exact h.2.2.2.2.2.2.2.1 q hq hst
  · rw [e, if_pos rfl]; exact hp
  · rw [e, if_neg (by omega)]; exact h.2.2.2.2.2.2.2.2.2.1
  · rw [e, if_neg (by omega)] at hk; exact h.2.2.2.2.2.2.2.2.2.2 k hk
theorem WG_snow {G : Nat → Nat} (h : WG G) {s : Nat} (hs : ∀ k, s.testBit k = true → (G 25).testBit k = true) (hlt : s < 2 ^ 12) : WG (g_put G 44 s) := by
  have e : ∀ i, g_put G 44 s i = if i = 44 then s else G i := fun i => rfl
  refine WG_of h (fun i hi => ?_) ?_ (fun q hq hst => ?_) ?_ ?_ (fun k hk => ?_)
  · rw [e, if_neg (by omega)]
  · rw [e, if_neg (by omega)]; exact h.2.2.2.2.2.2.1
  · rw [e, if_neg (by omega)] at hst
    rw [e, e, if_neg (by omega), if_neg (by omega)]
    exact h.2.2.2.2.2.2.2.1 q hq hst
  · rw [e, if_neg (by omega)]; exact h.2.2.2.2.2.2.2.2.1
  · rw [e, if_pos rfl]; exact hlt
  · rw [e, if_pos rfl] at hk; exact hs k hk
/-- a set of ways that are doubtful, by the number that holds it -/
theorem am_snow {d : Nat} (hd : d < 2 ^ 12) {s : Int32} (h : s &&& (nI d ^^^ (-1)) = 0) : ∃ m, m < 2 ^ 12 ∧ s = nI m ∧ ∀ k, m.testBit k = true → d.testBit k = true := by
  have hb : ∀ i, i < 32 → bt s i = true → d.testBit i = true := fun i hi hs => by
    have := bt_zero.mp h i hi
    rw [b_and, bt_not hi, bt_nI _ _ hi, hs] at this
    simpa using this
  have e : s = nI s.toBitVec.toNat := by
    apply Int32.toBitVec_inj.1
    show s.toBitVec = BitVec.ofNat 32 s.toBitVec.toNat
    simp
  have hlt : s.toBitVec.toNat < 2 ^ 32 := s.toBitVec.isLt
  have hs : ∀ k, s.toBitVec.toNat.testBit k = true → d.testBit k = true := fun k hk => by
    rcases Nat.lt_or_ge k 32 with z | z
    · exact hb k z (by rw [e, bt_nI _ _ z]; exact hk)
    · rw [Nat.testBit_lt_two_pow (Nat.lt_of_lt_of_le hlt (Nat.pow_le_pow_right (by omega) z))] at hk; cases hk
  refine ⟨s.toBitVec.toNat, ?_, e, hs⟩
  apply Nat.lt_pow_two_of_testBit
  intro i hi
  cases hq : s.toBitVec.toNat.testBit i with
  | false => rfl
  | true =>
    have := hs i hq
    rw [Nat.testBit_lt_two_pow (Nat.lt_of_lt_of_le hd (Nat.pow_le_pow_right (by omega) hi))] at this
    cases this
theorem am_pl8 {x : Nat} (h : x < 8) : 0 ≤ nI x ∧ nI x < 8 := ⟨nI_pos' (by omega), am_lt h rfl⟩
def T_RP_way : am_Sp := fun vs I L post => match vs with
  | [.ref o, .int a, .int b, .int d] => o = 0 ∧ ∃ A, CR I L A ∧ ∀ (I2 : am_I) (L2 : am_J), CR I2 L2 (o_way A a b d).2 → post (some (.int (o_way A a b d).1)) I2 L2
  | _ => False
def sp_RP_way : Nat → am_Sp := fun i => match i with
  | 47 => T_RP_isPlace
  | 51 => T_RD_isJoined
  | 55 => T_RD_hasRoom
  | 59 => T_RD_join
  | _ => am_no
set_option maxRecDepth 100000 in
theorem ok_RP_way : am_Ok am_SX sp_RP_way false k_RP_way 4 T_RP_way := by
  intro vs I L post h
  unfold T_RP_way at h
  split at h
  · rename_i o a b d
    obtain ⟨rfl, A, hC, h⟩ := h
    refine ⟨Nat.le_of_ble_eq_true rfl, fun G2 hG2 => ?_⟩
    obtain ⟨G, K, hk, tn, tt, ln, sz, it⟩ := A
    obtain ⟨hV, hR, hKr, hk7, hT, hS, hSh⟩ := id hC
    have hW : WG G := hV.1
    have h12 := hW.1
    obtain ⟨r5, r6, r7, r8, r9, rw2, rj, rs, rn, rc⟩ := id hR
    dsimp only [o_way] at h
    by_cases ha : 0 ≤ a ∧ a < 8
    · by_cases hb : 0 ≤ b ∧ b < 8
      · by_cases hab : a = b
        · rw [if_pos (Or.inr (Or.inr hab))] at h
          exact hG2 [] 100 0 _ _ _ _ (am_f (am_bp ha) (am_f (am_bp hb) (am_nf hab (h I L hC))))
        · rw [if_neg (by rintro (q | q | q); exact q ha; exact q hb; exact hab q)] at h
          refine hG2 [] 100 0 _ _ _ _ (am_f (am_bp ha) (am_f (am_bp hb) (am_nt hab (And.intro (Or.inl rfl) ?_))))
          obtain ⟨x, hx, rfl⟩ := am_rng (n := 8) (by omega) ha.1 ha.2
          obtain ⟨y, hy, rfl⟩ := am_rng (n := 8) (by omega) hb.1 hb.2
          have hxy : x ≠ y := fun q => hab (by rw [q])
          have hle := g_wy_le G x y
          have hfw := f_wb_RC hR hx hy
          rw [nI_clamp (by omega), nI_clamp (by omega)] at h
          by_cases hw : g_wy G x y = 0
          · rw [if_neg (fun q => q hw)] at h
            refine am_t (am_b0 (by rw [hfw, nI_m1 (by omega)]; exact fun q => q hw)) (And.intro (Or.inl rfl) ?_)
            have hpc := f_bc_nI (G 25) hW.2.2.2.1
            have hle6 := hW.2.2.2.2.2.1
            by_cases hf : G 0 = 12 ∨ (¬ d = 0 ∧ g_pc (G 25) 12 = 6)
            · rw [if_pos hf] at h
              refine am_nf (am_b0 ?_) (h I L hC)
              rw [r5, r6, hpc]
              rintro ⟨q1, q2⟩
              rcases hf with z | ⟨z1, z2⟩
              · rw [z] at q1; exact absurd q1 (am_nlt (Nat.le_refl 12) rfl)
              · rcases q2 with q2 | q2
                · exact z1 q2
                · rw [z2] at q2; exact absurd q2 (am_nlt (Nat.le_refl 6) rfl)
            · rw [if_neg hf] at h
              have h0 : G 0 < 12 := by omega
              refine am_nt (am_bp ⟨by rw [r5]; exact am_lt h0 rfl, ?_⟩) ?_
              · by_cases hd : d = 0
                · exact Or.inl hd
                · right
                  rw [r6, hpc]
                  have h6 : ¬ g_pc (G 25) 12 = 6 := fun z => hf (Or.inr ⟨hd, z⟩)
                  exact am_lt (show g_pc (G 25) 12 < 6 by omega) rfl
              · refine And.intro (Or.inl rfl) (And.intro (am_pl8 hx) (And.intro (am_pl8 hy) (And.intro ?_ ?_)))
                · rw [r5]; exact ⟨nI_pos' (by omega), am_lt h0 rfl⟩
                · rw [r5]
                  have hd6 : (!decide (d = 0)) = true → g_pc (G 25) 12 < 6 := fun z => by
                    have : ¬ d = 0 := by simpa using z
                    have : ¬ g_pc (G 25) 12 = 6 := fun z => hf (Or.inr ⟨this, z⟩)
                    omega
                  exact h _ _ (CR_road hC (WG_add hW hx hy hxy hw h0 hd6) (RC_join hW hR hx hy hxy hw h0) (fun a ha => (f_join_fr (L := L)).1 a (show a ≠ 1 by omega) (show a ≠ 2 by omega) (show a ≠ 3 by omega) (show a ≠ 4 by omega)) (fun a ha => (f_join_fr (I := I)).2 a ha))
          · rw [if_pos hw] at h
            exact am_f (am_bp (by rw [hfw, nI_m1 (by omega)]; exact hw)) (h I L hC)
      · rw [if_pos (Or.inr (Or.inl hb))] at h
        exact hG2 [] 100 0 _ _ _ _ (am_f (am_bp ha) (am_t (am_bn hb) (h I L hC)))
    · rw [if_pos (Or.inl ha)] at h
      exact hG2 [] 100 0 _ _ _ _ (am_t (am_bn ha) (h I L hC))
  · exact h.elim
def T_RP_told : am_Sp := fun vs I L post => match vs with
  | [.ref o, .int w, .int x] => o = 0 ∧ ∃ A, CR I L A ∧ ∀ (I2 : am_I) (L2 : am_J), CR I2 L2 (o_told A w x).2 → post (some (.int (o_told A w x).1)) I2 L2
  | _ => False
def sp_RP_told : Nat → am_Sp := fun i => match i with
  | 63 => T_RD_isWay
  | 66 => T_RD_lesserOf
  | 70 => T_RD_greaterOf
  | 77 => T_RP_bitOf
  | _ => am_no
set_option maxRecDepth 100000 in
theorem ok_RP_told : am_Ok am_SX sp_RP_told false k_RP_told 3 T_RP_told := by
  intro vs I L post h
  unfold T_RP_told at h
  split at h
  · rename_i o w x
    obtain ⟨rfl, A, hC, h⟩ := h
    refine ⟨Nat.le_of_ble_eq_true rfl, fun G2 hG2 => ?_⟩
    obtain ⟨G, K, hk, tn, tt, ln, sz, it⟩ := A
    obtain ⟨hV, hR, hKr, hk7, hT, hS, hSh⟩ := id hC
    have hW : WG G := hV.1
    have h12 := hW.1
    obtain ⟨r5, r6, r7, r8, r9, rw2, rj, rs, rn, rc⟩ := id hR
    dsimp only [o_told] at h
    by_cases hw : 0 ≤ w ∧ w < nI (G 0)
    · have hw1 : 0 ≤ w ∧ w < I 1 5 := by rw [r5]; exact hw
      obtain ⟨k, hk2, rfl⟩ := am_rng (n := G 0) (by omega) hw.1 hw.2
      have ck : (nI k).toNatClampNeg = k := nI_clamp (by omega)
      have vk : vp_in (nI k) 12 := am_vin (by omega) rfl
      rw [ck] at h
      refine hG2 [] 100 0 _ _ _ _ (And.intro (Or.inl rfl) (am_nt (am_bp hw1) ?_))
      refine And.intro (fun q => ?_) (fun q0 => And.intro (fun q => ?_) (fun q1 => And.intro (fun q => ?_) (fun q2 => And.intro (fun q => ?_) (fun q3 => ?_))))
      · have hx : x = 0 := q
        subst hx
        rw [if_neg (by rintro (z | z); exact z hw; exact z (by decide)), if_pos rfl] at h
        refine And.intro (Or.inl rfl) (And.intro (fun _ => vk) ?_)
        rw [if_pos hw1, ck, (rw2 k hk2).1]
        exact h I L hC
      · have hx : x = 1 := q
        subst hx
        rw [if_neg (by rintro (z | z); exact z hw; exact z (by decide)), if_neg (by decide), if_pos rfl] at h
        refine And.intro (Or.inl rfl) (And.intro (fun _ => vk) ?_)
        rw [if_pos hw1, ck, (rw2 k hk2).2]
        exact h I L hC
      · have hx : x = 2 := q
        subst hx
        rw [if_neg (by rintro (z | z); exact z hw; exact z (by decide)), if_neg (by decide), if_neg (by decide), if_pos rfl] at h
        show post (some (.int (f_bit (I 1 6) (nI k)))) I L
        rw [r6, f_bit_nI _ (by omega)]
        exact h I L hC
      · have hx : x = 3 := q
        subst hx
        rw [if_neg (by rintro (z | z); exact z hw; exact z (by decide)), if_neg (by decide), if_neg (by decide), if_neg (by decide)] at h
        show post (some (.int (f_bit (I 1 7) (nI k)))) I L
        rw [r7, f_bit_nI _ (by omega)]
        exact h I L hC
      · rw [if_pos (Or.inr (fun z => by
          obtain ⟨j, hj, rfl⟩ := am_rng (n := 4) (by omega) z.1 z.2
          rcases (show j = 0 ∨ j = 1 ∨ j = 2 ∨ j = 3 by omega) with rfl | rfl | rfl | rfl
          · exact q0 rfl
          · exact q1 rfl
          · exact q2 rfl
          · exact q3 rfl))] at h
        exact h I L hC
    · rw [if_pos (Or.inl hw)] at h
      exact hG2 [] 100 0 _ _ _ _ (And.intro (Or.inl rfl) (am_nf (am_bn (by rw [r5]; exact hw)) (h I L hC)))
  · exact h.elim
def T_RP_stone : am_Sp := fun vs I L post => match vs with
  | [.ref o, .int p, .int s, .int w] => o = 0 ∧ ∃ A, CR I L A ∧ ∀ (I2 : am_I) (L2 : am_J), CR I2 L2 (o_stone A p s w).2 → post (some (.int (o_stone A p s w).1)) I2 L2
  | _ => False
def sp_RP_stone : Nat → am_Sp := fun i => match i with
  | 47 => T_RP_isPlace
  | 51 => T_RD_isJoined
  | 63 => T_RD_isWay
  | 84 => T_RD_setStone
  | 91 => T_IN_bitCount
  | _ => am_no
set_option maxRecDepth 100000 in
theorem ok_RP_stone : am_Ok am_SX sp_RP_stone false k_RP_stone 4 T_RP_stone := by
  intro vs I L post h
  unfold T_RP_stone at h
  split at h
  · rename_i o p s w
    obtain ⟨rfl, A, hC, h⟩ := h
    refine ⟨Nat.le_of_ble_eq_true rfl, fun G2 hG2 => ?_⟩
    obtain ⟨G, K, hk, tn, tt, ln, sz, it⟩ := A
    obtain ⟨hV, hR, hKr, hk7, hT, hS, hSh⟩ := id hC
    have hW : WG G := hV.1
    have h12 := hW.1
    obtain ⟨r5, r6, r7, r8, r9, rw2, rj, rs, rn, rc⟩ := id hR
    dsimp only [o_stone] at h
    by_cases hp : 0 ≤ p ∧ p < 8
    · by_cases hs : 0 ≤ s ∧ s < 8
      · by_cases hw : 0 ≤ w ∧ w < nI (G 0)
        · rw [if_neg (by rintro (q | q | q); exact q hp; exact q hs; exact q hw)] at h
          refine hG2 [] 100 0 _ _ _ _ (am_f (am_bp hp) (am_f (am_bp hs) (And.intro (Or.inl rfl) (am_nt (am_bp (by rw [r5]; exact hw)) (And.intro (Or.inl rfl) ?_)))))
          obtain ⟨x, hx, rfl⟩ := am_rng (n := 8) (by omega) hp.1 hp.2
          obtain ⟨y, hy, rfl⟩ := am_rng (n := 8) (by omega) hs.1 hs.2
          obtain ⟨k, hk2, rfl⟩ := am_rng (n := G 0) (by omega) hw.1 hw.2
          have cx : (nI x).toNatClampNeg = x := nI_clamp (by omega)
          have hle := g_wy_le G x y
          have hfw := f_wb_RC hR hx hy
          rw [cx, nI_clamp (by omega), nI_clamp (by omega)] at h
          by_cases hj : g_wy G x y = 0
          · rw [if_pos hj] at h
            exact am_nf (am_b0 (by rw [hfw, nI_m1 (by omega)]; exact fun q => q hj)) (h I L hC)
          · rw [if_neg hj] at h
            refine am_nt (am_bp (by rw [hfw, nI_m1 (by omega)]; exact hj)) (And.intro (Or.inl rfl) (And.intro hp ?_))
            have e8 : I 1 8 ||| ((1 : Int32) <<< (nI x &&& 31)) = nI (g_set (G 26) x) := by rw [r8, g_set_I _ (by omega)]
            show post (some (.int (f_bc (am_ui (am_ui (am_ui I 5 (nI x).toNatClampNeg (nI y)) 6 (nI x).toNatClampNeg (nI k)) 1 8 (I 1 8 ||| ((1 : Int32) <<< (nI x &&& 31))) 1 8)))) (am_ui (am_ui (am_ui I 5 (nI x).toNatClampNeg (nI y)) 6 (nI x).toNatClampNeg (nI k)) 1 8 (I 1 8 ||| ((1 : Int32) <<< (nI x &&& 31)))) L
            have h26 : g_set (G 26) x < 2 ^ 8 := g_set_lt hW.2.2.2.2.2.2.1 hx
            rw [am_ui_e, e8, f_bc_nI _ (by omega), cx]
            have e : ∀ i, g_put (g_put (g_put G (27 + x) y) (35 + x) k) 26 (g_set (G 26) x) i = if i = 26 then g_set (G 26) x else if i = 35 + x then k else if i = 27 + x then y else G i := fun i => rfl
            refine h _ _ (CR_road hC (WG_side hW hx hy hk2) (RC_of h12 hR (fun i hi => ?_) (am_ui_n (by omega)) (am_ui_n (by omega)) ?_ (am_ui_e.trans (by rw [e, if_pos rfl])) ?_ rfl rfl rfl (fun q hq hst => ?_)) (fun a ha => by rw [am_ui_o (by omega), am_ui_o (by omega), am_ui_o (by omega)]) (fun _ _ => rfl))
            · rw [e, if_neg (by omega), if_neg (by omega), if_neg (by omega)]
            · rw [e, if_neg (by omega), if_neg (by omega), if_neg (by omega)]
              exact (am_ui_n (by omega)).trans r7
            · rw [e, if_neg (by omega), if_neg (by omega), if_neg (by omega)]
              exact (am_ui_n (by omega)).trans r9
            · rw [e, if_pos rfl, g_set_t] at hst
              rw [e, e, if_neg (by omega), if_neg (by omega)]
              by_cases z : q = x
              · subst z
                rw [if_pos rfl, if_neg (by omega), if_pos rfl]
                refine ⟨?_, ?_⟩
                · exact ((am_uo (show (1 + 4 : Nat) ≠ 1 by omega)).trans (am_uo (show (1 + 4 : Nat) ≠ 6 by omega))).trans am_ui_e
                · exact (am_uo (show (1 + 5 : Nat) ≠ 1 by omega)).trans am_ui_e
              · rw [if_neg (by omega), if_neg (by omega), if_neg (by omega), if_neg (by omega)]
                simp only [z, decide_false, Bool.or_false] at hst
                exact ⟨(((am_uo (show (1 + 4 : Nat) ≠ 1 by omega)).trans (am_uo (show (1 + 4 : Nat) ≠ 6 by omega))).trans (am_uk z)).trans (rs q hq hst).1, (((am_uo (show (1 + 5 : Nat) ≠ 1 by omega)).trans (am_uk z)).trans (am_uo (show (1 + 5 : Nat) ≠ 5 by omega))).trans (rs q hq hst).2⟩
        · rw [if_pos (Or.inr (Or.inr hw))] at h
          exact hG2 [] 100 0 _ _ _ _ (am_f (am_bp hp) (am_f (am_bp hs) (And.intro (Or.inl rfl) (am_nf (am_bn (by rw [r5]; exact hw)) (h I L hC)))))
      · rw [if_pos (Or.inr (Or.inl hs))] at h
        exact hG2 [] 100 0 _ _ _ _ (am_f (am_bp hp) (am_t (am_bn hs) (h I L hC)))
    · rw [if_pos (Or.inl hp)] at h
      exact hG2 [] 100 0 _ _ _ _ (am_t (am_bn hp) (h I L hC))
  · exact h.elim
def T_RP_strike : am_Sp := fun vs I L post => match vs with
  | [.ref o, .int p] => o = 0 ∧ ∃ A, CR I L A ∧ ∀ (I2 : am_I) (L2 : am_J), CR I2 L2 (o_strike A p).2 → post (some (.int (o_strike A p).1)) I2 L2
  | _ => False
def sp_RP_strike : Nat → am_Sp := fun i => match i with
  | 47 => T_RP_isPlace
  | 91 => T_IN_bitCount
  | 96 => T_RD_hasStone
  | 99 => T_RD_takeStone
  | _ => am_no
set_option maxRecDepth 100000 in
theorem ok_RP_strike : am_Ok am_SX sp_RP_strike false k_RP_strike 2 T_RP_strike := by
  intro vs I L post h
  unfold T_RP_strike at h
  split at h
  · rename_i o p
    obtain ⟨rfl, A, hC, h⟩ := h
    refine ⟨Nat.le_of_ble_eq_true rfl, fun G2 hG2 => ?_⟩
    obtain ⟨G, K, hk, tn, tt, ln, sz, it⟩ := A
    obtain ⟨hV, hR, hKr, hk7, hT, hS, hSh⟩ := id hC
    have hW : WG G := hV.1
    have h12 := hW.1
    obtain ⟨r5, r6, r7, r8, r9, rw2, rj, rs, rn, rc⟩ := id hR
    dsimp only [o_strike] at h
    by_cases hp : 0 ≤ p ∧ p < 8
    · rw [if_neg (fun q => q hp)] at h
      refine hG2 [] 100 0 _ _ _ _ (am_nt (am_bp hp) (And.intro (Or.inl rfl) ?_))
      obtain ⟨x, hx, rfl⟩ := am_rng (n := 8) (by omega) hp.1 hp.2
      rw [nI_clamp (by omega)] at h
      have hb : f_bit (I 1 8) (nI x) = am_b ((G 26).testBit x = true) := by rw [r8, f_bit_nI _ (by omega)]
      by_cases hst : (G 26).testBit x = true
      · rw [if_neg (fun q => q hst)] at h
        refine am_nt (am_bp (by rw [hb, am_b1 hst])) (And.intro (Or.inl rfl) ?_)
        show post (some (.int (f_bc (am_ui I 1 8 (I 1 8 &&& (((1 : Int32) <<< (nI x &&& 31)) ^^^ (-1))) 1 8)))) (am_ui I 1 8 (I 1 8 &&& (((1 : Int32) <<< (nI x &&& 31)) ^^^ (-1)))) L
        have h26 : g_clr (G 26) x < 2 ^ 8 := g_clr_lt hW.2.2.2.2.2.2.1 hx
        rw [am_ui_e, r8, g_clr_I _ (by omega), f_bc_nI _ (by omega)]
        have e : ∀ i, g_put G 26 (g_clr (G 26) x) i = if i = 26 then g_clr (G 26) x else G i := fun i => rfl
        refine h _ _ (CR_road hC (WG_clr hW hx) (RC_of h12 hR (fun i hi => by rw [e, if_neg (by omega)]) (am_ui_n (by omega)) (am_ui_n (by omega)) (by rw [e, if_neg (by omega)]; exact (am_ui_n (by omega)).trans r7) (am_ui_e.trans (by rw [e, if_pos rfl])) (by rw [e, if_neg (by omega)]; exact (am_ui_n (by omega)).trans r9) rfl rfl rfl (fun q hq hq2 => ?_)) (fun a ha => am_ui_o (by omega)) (fun _ _ => rfl))
        rw [e, if_pos rfl, g_clr_t] at hq2
        simp only [Bool.and_eq_true] at hq2
        rw [e, e, if_neg (by omega), if_neg (by omega), am_ui_n (by omega), am_ui_n (by omega)]
        exact rs q hq hq2.1
      · rw [if_pos hst] at h
        exact am_nf (am_bn (by rw [hb, am_b0 hst]; decide)) (h I L hC)
    · rw [if_pos hp] at h
      exact hG2 [] 100 0 _ _ _ _ (am_nf (am_bn hp) (h I L hC))
  · exact h.elim
def T_RP_of : am_Sp := fun vs I L post => match vs with
  | [.ref o, .int p, .int x] => o = 0 ∧ ∃ A, CR I L A ∧ ∀ (I2 : am_I) (L2 : am_J), CR I2 L2 (o_of A p x).2 → post (some (.int (o_of A p x).1)) I2 L2
  | _ => False
def sp_RP_of : Nat → am_Sp := fun i => match i with
  | 47 => T_RP_isPlace
  | 96 => T_RD_hasStone
  | 103 => T_RP_isFrom0
  | 106 => T_RD_sideOf
  | 109 => T_RD_aboutOf
  | _ => am_no
set_option maxRecDepth 100000 in
theorem ok_RP_of : am_Ok am_SX sp_RP_of false k_RP_of 3 T_RP_of := by
  intro vs I L post h
  unfold T_RP_of at h
  split at h
  · rename_i o p x
    obtain ⟨rfl, A, hC, h⟩ := h
    refine ⟨Nat.le_of_ble_eq_true rfl, fun G2 hG2 => ?_⟩
    obtain ⟨G, K, hk, tn, tt, ln, sz, it⟩ := A
    obtain ⟨hV, hR, hKr, hk7, hT, hS, hSh⟩ := id hC
    have hW : WG G := hV.1
    have h12 := hW.1
    obtain ⟨r5, r6, r7, r8, r9, rw2, rj, rs, rn, rc⟩ := id hR
    dsimp only [o_of] at h
    by_cases hp : 0 ≤ p ∧ p < 8
    · by_cases hx : 0 ≤ x ∧ x < 2
      · rw [if_neg (by rintro (q | q); exact q hp; exact q hx)] at h
        refine hG2 [] 100 0 _ _ _ _ (am_f (am_bp hp) (am_nt (am_bp hx) (And.intro (Or.inl rfl) ?_)))
        obtain ⟨y, hy, rfl⟩ := am_rng (n := 8) (by omega) hp.1 hp.2
        have cy : (nI y).toNatClampNeg = y := nI_clamp (by omega)
        rw [cy] at h
        have hb : f_bit (I 1 8) (nI y) = am_b ((G 26).testBit y = true) := by rw [r8, f_bit_nI _ (by omega)]
        by_cases hst : (G 26).testBit y = true
        · rw [if_neg (fun q => q hst)] at h
          refine am_nt (am_bp (by rw [hb, am_b1 hst])) ?_
          by_cases h0 : x = 0
          · rw [if_pos h0] at h
            refine am_nf h0 (And.intro (Or.inl rfl) ?_)
            show post (some (.int (f_side I 1 (nI y)))) I L
            unfold f_side
            rw [if_pos hp, cy, (rs y hy hst).1]
            exact h I L hC
          · rw [if_neg h0] at h
            refine am_nt h0 (And.intro (Or.inl rfl) ?_)
            show post (some (.int (f_about I 1 (nI y)))) I L
            unfold f_about
            rw [if_pos hp, cy, (rs y hy hst).2]
            exact h I L hC
        · rw [if_pos hst] at h
          exact am_nf (am_bn (by rw [hb, am_b0 hst]; decide)) (h I L hC)
      · rw [if_pos (Or.inr hx)] at h
        exact hG2 [] 100 0 _ _ _ _ (am_f (am_bp hp) (am_nf (am_bn hx) (h I L hC)))
    · rw [if_pos (Or.inl hp)] at h
      exact hG2 [] 100 0 _ _ _ _ (am_t (am_bn hp) (h I L hC))
  · exact h.elim
def T_RP_home : am_Sp := fun vs I L post => match vs with
  | [.ref o, .int p] => o = 0 ∧ ∃ A, CR I L A ∧ ∀ (I2 : am_I) (L2 : am_J), CR I2 L2 (o_home A p).2 → post (some (.int (o_home A p).1)) I2 L2
  | _ => False
def sp_RP_home : Nat → am_Sp := fun i => match i with
  | 47 => T_RP_isPlace
  | _ => am_no
set_option maxRecDepth 100000 in
theorem ok_RP_home : am_Ok am_SX sp_RP_home false k_RP_home 3 T_RP_home := by
  intro vs I L post h
  unfold T_RP_home at h
  split at h
  · rename_i o p
    obtain ⟨rfl, A, hC, h⟩ := h
    refine ⟨Nat.le_of_ble_eq_true rfl, fun G2 hG2 => ?_⟩
    obtain ⟨G, K, hk, tn, tt, ln, sz, it⟩ := A
    obtain ⟨hV, hR, hKr, hk7, hT, hS, hSh⟩ := id hC
    have hW : WG G := hV.1
    have h12 := hW.1
    obtain ⟨r5, r6, r7, r8, r9, rw2, rj, rs, rn, rc⟩ := id hR
    dsimp only [o_home] at h
    by_cases hp : 0 ≤ p ∧ p < 8
    · rw [if_neg (fun q => q hp)] at h
      refine hG2 [] 100 0 _ _ _ _ (am_nt (am_bp hp) ?_)
      obtain ⟨x, hx, rfl⟩ := am_rng (n := 8) (by omega) hp.1 hp.2
      rw [nI_clamp (by omega)] at h
      show post (some (.int (I 1 9))) (am_ui I 1 9 (nI x)) L
      rw [r9]
      have e : ∀ i, g_put G 43 x i = if i = 43 then x else G i := fun i => rfl
      refine h _ _ (CR_road hC (WG_home hW hx) (RC_of h12 hR (fun i hi => by rw [e, if_neg (by omega)]) (am_ui_n (by omega)) (am_ui_n (by omega)) (by rw [e, if_neg (by omega)]; exact (am_ui_n (by omega)).trans r7) (by rw [e, if_neg (by omega)]; exact (am_ui_n (by omega)).trans r8) (am_ui_e.trans (by rw [e, if_pos rfl])) rfl rfl rfl (fun q hq hq2 => ?_)) (fun a ha => am_ui_o (by omega)) (fun _ _ => rfl))
      rw [e, if_neg (by omega)] at hq2
      rw [e, e, if_neg (by omega), if_neg (by omega), am_ui_n (by omega), am_ui_n (by omega)]
      exact rs q hq hq2
    · rw [if_pos hp] at h
      exact hG2 [] 100 0 _ _ _ _ (am_nf (am_bn hp) (h I L hC))
  · exact h.elim
def T_RP_snow : am_Sp := fun vs I L post => match vs with
  | [.ref o, .int s] => o = 0 ∧ ∃ A, CR I L A ∧ ∀ (I2 : am_I) (L2 : am_J), CR I2 L2 (o_snow A s).2 → post (some (.int (o_snow A s).1)) I2 L2
  | _ => False
abbrev sp_RP_snow : Nat → am_Sp := fun _ => am_no
set_option maxRecDepth 100000 in
theorem ok_RP_snow : am_Ok am_SX sp_RP_snow false k_RP_snow 3 T_RP_snow := by
  intro vs I L post h
  unfold T_RP_snow at h
  split at h
  · rename_i o s
    obtain ⟨rfl, A, hC, h⟩ := h
    refine ⟨Nat.le_of_ble_eq_true rfl, fun G2 hG2 => ?_⟩
    obtain ⟨G, K, hk, tn, tt, ln, sz, it⟩ := A
    obtain ⟨hV, hR, hKr, hk7, hT, hS, hSh⟩ := id hC
    have hW : WG G := hV.1
    have h12 := hW.1
    obtain ⟨r5, r6, r7, r8, r9, rw2, rj, rs, rn, rc⟩ := id hR
    dsimp only [o_snow] at h
    by_cases hs : s &&& (nI (G 25) ^^^ (-1)) = 0
    · rw [if_neg (fun q => q hs)] at h
      refine hG2 [] 100 0 _ _ _ _ (am_t (by rw [r6]; exact hs) ?_)
      show post (some (.int (I 1 7))) (am_ui I 1 7 s) L
      rw [r7]
      obtain ⟨m, hm, rfl, hsub⟩ := am_snow hW.2.2.2.1 hs
      rw [nI_clamp (by omega)] at h
      have e : ∀ i, g_put G 44 m i = if i = 44 then m else G i := fun i => rfl
      refine h _ _ (CR_road hC (WG_snow hW hsub hm) (RC_of h12 hR (fun i hi => by rw [e, if_neg (by omega)]) (am_ui_n (by omega)) (am_ui_n (by omega)) (am_ui_e.trans (by rw [e, if_pos rfl])) (by rw [e, if_neg (by omega)]; exact (am_ui_n (by omega)).trans r8) (by rw [e, if_neg (by omega)]; exact (am_ui_n (by omega)).trans r9) rfl rfl rfl (fun q hq hq2 => ?_)) (fun a ha => am_ui_o (by omega)) (fun _ _ => rfl))
      rw [e, if_neg (by omega)] at hq2
      rw [e, e, if_neg (by omega), if_neg (by omega), am_ui_n (by omega), am_ui_n (by omega)]
      exact rs q hq hq2
    · rw [if_pos hs] at h
      exact hG2 [] 100 0 _ _ _ _ (am_f (by rw [r6]; exact hs) (h I L hC))
  · exact h.elim
def T_RP_count : am_Sp := fun vs I L post => match vs with
  | [.ref o, .int x] => o = 0 ∧ ∃ A, CR I L A ∧ ∀ (I2 : am_I) (L2 : am_J), CR I2 L2 (o_count A x).2 → post (some (.int (o_count A x).1)) I2 L2
  | _ => False
def sp_RP_count : Nat → am_Sp := fun i => match i with
  | 91 => T_IN_bitCount
  | _ => am_no
set_option maxRecDepth 100000 in
theorem ok_RP_count : am_Ok am_SX sp_RP_count false k_RP_count 2 T_RP_count := by
  intro vs I L post h
  unfold T_RP_count at h
  split at h
  · rename_i o x
    obtain ⟨rfl, A, hC, h⟩ := h
    refine ⟨Nat.le_of_ble_eq_true rfl, fun G2 hG2 => ?_⟩
    obtain ⟨G, K, hk, tn, tt, ln, sz, it⟩ := A
    obtain ⟨hV, hR, hKr, hk7, hT, hS, hSh⟩ := id hC
    have hW : WG G := hV.1
    have h12 := hW.1
    obtain ⟨r5, r6, r7, r8, r9, rw2, rj, rs, rn, rc⟩ := id hR
    dsimp only [o_count] at h
    refine hG2 [] 100 0 _ _ _ _ (And.intro (fun q => ?_) (fun q0 => And.intro (fun q => ?_) (fun q1 => And.intro (fun q => ?_) (fun q2 => And.intro (fun q => ?_) (fun q3 => And.intro (fun q => ?_) (fun q4 => ?_))))))
    · have hx : x = 0 := q
      rw [if_pos hx] at h
      show post (some (.int (I 1 5))) I L
      rw [r5]; exact h I L hC
    · have hx : x = 1 := q
      subst hx
      rw [if_neg (by decide), if_pos rfl] at h
      show post (some (.int (I 1 6))) I L
      rw [r6]; exact h I L hC
    · have hx : x = 2 := q
      subst hx
      rw [if_neg (by decide), if_neg (by decide), if_pos rfl] at h
      show post (some (.int (f_bc (I 1 8)))) I L
      have h26 := hW.2.2.2.2.2.2.1
      rw [r8, f_bc_nI _ (by omega)]; exact h I L hC
    · have hx : x = 3 := q
      subst hx
      rw [if_neg (by decide), if_neg (by decide), if_neg (by decide), if_pos rfl] at h
      show post (some (.int (I 1 9))) I L
      rw [r9]; exact h I L hC
    · have hx : x = 4 := q
      subst hx
      rw [if_neg (by decide), if_neg (by decide), if_neg (by decide), if_neg (by decide), if_pos rfl] at h
      show post (some (.int (I 1 7))) I L
      rw [r7]; exact h I L hC
    · have p0 : ¬ x = 0 := q0
      have p1 : ¬ x = 1 := q1
      have p2 : ¬ x = 2 := q2
      have p3 : ¬ x = 3 := q3
      have p4 : ¬ x = 4 := q4
      rw [if_neg p0, if_neg p1, if_neg p2, if_neg p3, if_neg p4] at h
      exact h I L hC
  · exact h.elim
def T_RP_read : am_Sp := fun vs I L post => match vs with
  | [.ref o, .int p, .int f] => o = 0 ∧ ∃ A, CR I L A ∧ ∀ (I2 : am_I) (L2 : am_J), CR I2 L2 (o_read A p f).2 → post (some (.int (o_read A p f).1)) I2 L2
  | _ => False
def sp_RP_read : Nat → am_Sp := fun i => match i with
  | 47 => T_RP_isPlace
  | 51 => T_RD_isJoined
  | 96 => T_RD_hasStone
  | 136 => T_RD_saysOpen
  | _ => am_no
set_option maxRecDepth 100000 in
theorem ok_RP_read : am_Ok am_SX sp_RP_read false k_RP_read 3 T_RP_read := by
  intro vs I L post h
  unfold T_RP_read at h
  split at h
  · rename_i o p f
    obtain ⟨rfl, A, hC, h⟩ := h
    refine ⟨Nat.le_of_ble_eq_true rfl, fun G2 hG2 => ?_⟩
    obtain ⟨G, K, hk, tn, tt, ln, sz, it⟩ := A
    obtain ⟨hV, hR, hKr, hk7, hT, hS, hSh⟩ := id hC
    have hW : WG G := hV.1
    have h12 := hW.1
    obtain ⟨r5, r6, r7, r8, r9, rw2, rj, rs, rn, rc⟩ := id hR
    dsimp only [o_read] at h
    by_cases hp : 0 ≤ p ∧ p < 8
    · by_cases hf : 0 ≤ f ∧ f < 8
      · rw [if_neg (by rintro (q | q); exact q hp; exact q hf)] at h
        refine hG2 [] 100 0 _ _ _ _ (am_f (am_bp hp) (am_nt (am_bp hf) (And.intro (Or.inl rfl) ?_)))
        obtain ⟨x, hx, rfl⟩ := am_rng (n := 8) (by omega) hp.1 hp.2
        obtain ⟨y, hy, rfl⟩ := am_rng (n := 8) (by omega) hf.1 hf.2
        have cx : (nI x).toNatClampNeg = x := nI_clamp (by omega)
        rw [cx, nI_clamp (by omega)] at h
        have hle := g_wy_le G x y
        have hfw := f_wb_RC hR hx hy
        by_cases hj : g_wy G x y = 0
        · rw [if_pos hj] at h
          exact am_nf (am_b0 (by rw [hfw, nI_m1 (by omega)]; exact fun q => q hj)) (h I L hC)
        · rw [if_neg hj] at h
          refine am_nt (am_bp (by rw [hfw, nI_m1 (by omega)]; exact hj)) (And.intro (Or.inl rfl) ?_)
          have hb : f_bit (I 1 8) (nI x) = am_b ((G 26).testBit x = true) := by rw [r8, f_bit_nI _ (by omega)]
          by_cases hst : (G 26).testBit x = true
          · rw [if_neg (fun q => q hst)] at h
            refine am_nt (am_bp (by rw [hb, am_b1 hst])) (And.intro (Or.inl rfl) ?_)
            have hg := rs x hx hst
            have hgb := hW.2.2.2.2.2.2.2.1 x hx hst
            have e1 : (f_bit (I 1 7) (f_about I 1 (nI x)) = 0 ↔ ((0 ≤ nI x ∧ nI x < 8) ∧ I (1 + 4) (nI x).toNatClampNeg = nI y)) ↔ ((G 44).testBit (G (35 + x)) = false ↔ G (27 + x) = y) := by
              unfold f_about
              rw [if_pos hp, cx, hg.1, hg.2, r7, f_bit_nI _ (by omega), am_bz, nI_eq (by omega) (by omega)]
              simp [am_pl8 hx]
            by_cases hq : (G 44).testBit (G (35 + x)) = false ↔ G (27 + x) = y
            · rw [am_b1 hq] at h
              exact am_f (am_bp (e1.mpr hq)) (h I L hC)
            · rw [am_b0 hq] at h
              exact am_t (am_bn (fun z => hq (e1.mp z))) (h I L hC)
          · rw [if_pos hst] at h
            exact am_nf (am_bn (by rw [hb, am_b0 hst]; decide)) (h I L hC)
      · rw [if_pos (Or.inr hf)] at h
        exact hG2 [] 100 0 _ _ _ _ (am_f (am_bp hp) (am_nf (am_bn hf) (h I L hC)))
    · rw [if_pos (Or.inl hp)] at h
      exact hG2 [] 100 0 _ _ _ _ (am_t (am_bn hp) (h I L hC))
  · exact h.elim
def T_RP_image : am_Sp := fun vs I L post => match vs with
  | [.ref o] => o = 0 ∧ ∃ A, CR I L A ∧ ∀ (I2 : am_I) (L2 : am_J), CR I2 L2 (o_image A ).2 → post (some (.int (o_image A ).1)) I2 L2
  | _ => False
def sp_RP_image : Nat → am_Sp := fun i => match i with
  | 129 => T_RD_become
  | _ => am_no
set_option maxRecDepth 100000 in
theorem ok_RP_image : am_Ok am_SX sp_RP_image false k_RP_image 1 T_RP_image := by
  intro vs I L post h
  unfold T_RP_image at h
  split at h
  · rename_i o
    obtain ⟨rfl, A, hC, h⟩ := h
    refine ⟨Nat.le_of_ble_eq_true rfl, fun G2 hG2 => ?_⟩
    obtain ⟨G, K, hk, tn, tt, ln, sz, it⟩ := A
    obtain ⟨hV, hR, hKr, hk7, hT, hS, hSh⟩ := id hC
    have hW : WG G := hV.1
    have h12 := hW.1
    obtain ⟨r5, r6, r7, r8, r9, rw2, rj, rs, rn, rc⟩ := id hR
    dsimp only [o_image] at h
    refine hG2 [] 100 0 _ _ _ _ (And.intro (Or.inr (Or.inl ⟨rfl, rfl⟩)) (Exists.intro G (And.intro h12 (And.intro hR (fun I2 L2 hR2 hf => And.intro (Or.inr rfl) ?_)))))
    show post (some (.int 1)) (am_ui I2 0 7 1) L2
    obtain ⟨V, hS⟩ := hS
    have fo : ∀ a : Nat, (a < 7 ∨ 12 < a) → I2 a = I a := fun a ha => hf.1 a (by omega)
    have fl : ∀ a : Nat, a ≠ 7 → L2 a = L a := fun a ha => hf.2 a ha
    have fi : ∀ a : Nat, 0 < a → (a < 7 ∨ 12 < a) → am_ui I2 0 7 1 a = I a := fun a h0 ha => (am_ui_o (by omega)).trans (fo a ha)
    refine h _ _ ⟨⟨hW, hW, hV.2.2⟩, RC_fr hR (fun a h1 h2 => fi a (by omega) (by omega)) (fl 1 (by omega)), RC_fr hR2 (fun a h1 h2 => am_ui_o (by omega)) rfl, am_ui_e.trans (am_b1 rfl).symm, TP_fr hT (by rw [fi 19 (by omega) (by omega)]) (fi 20 (by omega) (by omega)), ⟨V, SC_fr hS (by rw [fi 22 (by omega) (by omega)]) (fi 24 (by omega) (by omega)) (fl 23 (by omega))⟩, SHc_fr hSh (fun a h1 h2 => fi a (by omega) (by omega)) (fun a h1 h2 => fl a (by omega))⟩
  · exact h.elim
def T_RP_restore : am_Sp := fun vs I L post => match vs with
  | [.ref o] => o = 0 ∧ ∃ A, CR I L A ∧ ∀ (I2 : am_I) (L2 : am_J), CR I2 L2 (o_restore A ).2 → post (some (.int (o_restore A ).1)) I2 L2
  | _ => False
def sp_RP_restore : Nat → am_Sp := fun i => match i with
  | 129 => T_RD_become
  | _ => am_no
set_option maxRecDepth 100000 in
theorem ok_RP_restore : am_Ok am_SX sp_RP_restore false k_RP_restore 1 T_RP_restore := by
  intro vs I L post h
  unfold T_RP_restore at h
  split at h
  · rename_i o
    obtain ⟨rfl, A, hC, h⟩ := h
    refine ⟨Nat.le_of_ble_eq_true rfl, fun G2 hG2 => ?_⟩
    obtain ⟨G, K, hk, tn, tt, ln, sz, it⟩ := A
    obtain ⟨hV, hR, hKr, hk7, hT, hS, hSh⟩ := id hC
    have hW : WG G := hV.1
    have h12 := hW.1
    obtain ⟨r5, r6, r7, r8, r9, rw2, rj, rs, rn, rc⟩ := id hR
    dsimp only [o_restore] at h
    cases hk with
    | false =>
      rw [if_neg (by decide)] at h
      refine hG2 [] 100 0 _ _ _ _ (am_nf ?_ (h I L hC))
      show I 0 7 = 0
      rw [hk7, am_b0 (by decide)]
    | true =>
      rw [if_pos rfl] at h
      refine hG2 [] 100 0 _ _ _ _ (am_nt ?_ (And.intro (Or.inr (Or.inr ⟨rfl, rfl⟩)) (Exists.intro K (And.intro hV.2.1.1 (And.intro hKr (fun I2 L2 hR2 hf => ?_))))))
      · show ¬ I 0 7 = 0
        rw [hk7, am_b1 rfl]; decide
      · show post (some (.int 1)) I2 L2
        exact h I2 L2 (CR_road (G := G) hC hV.2.1 hR2 (fun a ha => hf.1 a (show a < 1 ∨ 6 < a by omega)) (fun a ha => hf.2 a ha))
  · exact h.elim
end
section
/-! THE CLASS: the sheets -/
theorem am_alS {s o : Nat} (hs : s < 4) (ho : o = 26 + 2 * s) {f : Nat → Prop} (h : f o) : am_al [26, 28, 30, 32] 0 (nI s) f := by
  subst ho
  rcases (show s = 0 ∨ s = 1 ∨ s = 2 ∨ s = 3 by omega) with rfl | rfl | rfl | rfl
  · exact ⟨fun _ => h, fun q => absurd q (by decide), fun q => absurd q (by decide), fun q => absurd q (by decide), trivial⟩
  · exact ⟨fun q => absurd q (by decide), fun _ => h, fun q => absurd q (by decide), fun q => absurd q (by decide), trivial⟩
  · exact ⟨fun q => absurd q (by decide), fun q => absurd q (by decide), fun _ => h, fun q => absurd q (by decide), trivial⟩
  · exact ⟨fun q => absurd q (by decide), fun q => absurd q (by decide), fun q => absurd q (by decide), fun _ => h, trivial⟩
theorem o_upd_e {α : Type} {f : Nat → α} {k : Nat} {v : α} : o_upd f k v k = v := if_pos rfl
theorem o_upd_n {α : Type} {f : Nat → α} {k j : Nat} {v : α} (h : j ≠ k) : o_upd f k v j = f j := if_neg h
theorem CR_sh {I I2 : am_I} {L L2 : am_J} {G K : Nat → Nat} {hk : Bool} {tn : Nat} {tt : Nat → Nat} {ln ln' : Nat → Int32} {sz sz' : Nat → Nat} {it it' : Nat → Nat → Int64} (h : CR I L (G, K, hk, tn, tt, ln, sz, it)) {s : Nat} (hs : s < 4) (hI : ∀ a : Nat, a ≠ 26 + 2 * s → I2 a = I a) (hL : ∀ a : Nat, a ≠ 27 + 2 * s → L2 a = L a)
    (hl : (ln' s = -1 ∨ ln' s = 0 ∨ ln' s = 1 ∨ ln' s = 2) ∧ sz' s ≤ 24) (ho : ∀ u, u ≠ s → ln' u = ln u ∧ sz' u = sz u ∧ it' u = it u) (h1 : I2 (26 + 2 * s) 1 = ln' s) (h2 : ¬ ln' s = -1 → I2 (26 + 2 * s) 2 = nI (sz' s)) (h3 : ∀ j, j < 24 → L2 (27 + 2 * s) j = it' s j) : CR I2 L2 (G, K, hk, tn, tt, ln', sz', it') := by
  obtain ⟨⟨v1, v2, v3, v4, v5⟩, hR, hKr, hk7, hT, ⟨V, hS⟩, hSh⟩ := h
  refine ⟨⟨v1, v2, v3, v4, fun u hu => ?_⟩, RC_fr hR (fun a _ _ => hI a (by omega)) (hL 1 (by omega)), RC_fr hKr (fun a _ _ => hI a (by omega)) (hL 7 (by omega)), by rw [hI 0 (by omega)]; exact hk7, TP_fr hT (by rw [hI 19 (by omega)]) (hI 20 (by omega)), ⟨V, SC_fr hS (by rw [hI 22 (by omega)]) (hI 24 (by omega)) (hL 23 (by omega))⟩, fun u hu => ?_⟩
  · by_cases e : u = s
    · subst e; exact hl
    · rw [(ho u e).1, (ho u e).2.1]; exact v5 u hu
  · by_cases e : u = s
    · subst e; exact ⟨h1, h2, h3⟩
    · rw [(ho u e).1, (ho u e).2.1, (ho u e).2.2, hI (26 + 2 * u) (by omega), hL (27 + 2 * u) (by omega)]; exact hSh u hu
theorem am_i0 {i : Int32} : 0 ≤ i ↔ 0 ≤ i.toInt := Int32.le_iff_toInt_le
theorem am_has {I : am_I} {o z : Nat} {i n : Int32} (hz : z ≤ 24) (h : I o 2 = nI z) : f_hasB I o i n = am_b (0 ≤ i.toInt ∧ 0 ≤ n.toInt ∧ i.toInt + n.toInt ≤ (z : Int)) := by
  unfold f_hasB
  apply am_bc
  rw [h]
  by_cases hi : 0 ≤ i
  · by_cases hn : 0 ≤ n
    · obtain ⟨k, hk, rfl⟩ := nI_of (x := i) (Int32.not_lt.mpr hi)
      obtain ⟨m, hm, rfl⟩ := nI_of (x := n) (Int32.not_lt.mpr hn)
      rw [nI_toInt hk, nI_toInt hm, nI_leI hk (by omega)]
      by_cases hkz : k ≤ z
      · rw [pk_sub hkz, nI_leI hm (by omega)]
        constructor
        · rintro ⟨_, _, _, q⟩; omega
        · rintro ⟨_, _, q⟩; exact ⟨hi, hn, hkz, by omega⟩
      · constructor
        · rintro ⟨_, _, q, _⟩; exact absurd q hkz
        · rintro ⟨_, _, q⟩; omega
    · constructor
      · rintro ⟨_, q, _⟩; exact absurd q hn
      · rintro ⟨_, q, _⟩; exact absurd (am_i0.mpr q) hn
  · constructor
    · rintro ⟨q, _⟩; exact absurd q hi
    · rintro ⟨q, _⟩; exact absurd (am_i0.mpr q) hi
theorem o_bars_0 {ln : Nat → Int32} {sz : Nat → Nat} {s : Nat} {a i n : Int32} (h1 : ¬ ln s = -1) (h2 : ln s = a) : o_bars ln sz s a i n = if 0 ≤ i.toInt ∧ 0 ≤ n.toInt ∧ i.toInt + n.toInt ≤ sz s then 0 else -13 := by
  unfold o_bars
  rw [if_neg h1, if_neg (fun q => q h2)]
theorem am_lane {a : Int32} (h : 0 ≤ a ∧ a < 3) : a = 0 ∨ a = 1 ∨ a = 2 := by
  obtain ⟨j, hj, rfl⟩ := am_rng (n := 3) (by omega) h.1 h.2
  rcases (show j = 0 ∨ j = 1 ∨ j = 2 by omega) with rfl | rfl | rfl
  · exact Or.inl rfl
  · exact Or.inr (Or.inl rfl)
  · exact Or.inr (Or.inr rfl)
theorem am_lane_n {a : Int32} (h : 0 ≤ a ∧ a < 3) : ¬ a = -1 := by
  rcases am_lane h with rfl | rfl | rfl <;> decide
def T_SH_renew : am_Sp := fun vs I L post => match vs with
  | [.ref o, .int a, .int n] => am_isS o ∧ ∀ L2 : am_J, (∀ j, j < 24 → L2 (o + 1) j = 0) → (∀ c : Nat, c ≠ o + 1 → L2 c = L c) → post none (am_ui (am_ui I o 1 a) o 2 n) L2
  | _ => False
def sp_SH_renew : Nat → am_Sp := fun i => match i with
  | 26 => T_SH_become
  | _ => am_no
set_option maxRecDepth 100000 in
theorem ok_SH_renew : am_Ok am_SX sp_SH_renew false k_SH_renew 4 T_SH_renew := by
  intro vs I L post h
  unfold T_SH_renew at h
  split at h
  · rename_i o a n
    obtain ⟨hr, h⟩ := h
    refine ⟨Nat.le_of_ble_eq_true rfl, fun G2 hG2 => ?_⟩
    rcases hr with rfl | rfl | rfl | rfl
    · have loop : ∀ d k (L1 : am_J), 24 - k = d → k ≤ 24 → (∀ c : Nat, c ≠ 27 → L1 c = L c) → (∀ j, j < k → L1 27 j = 0) → G2 8 [some (.ref 26), some (.int a), some (.int n), some (.int (nI k))] [] (am_ui (am_ui I 26 1 a) 26 2 n) L1 := by
        intro d
        induction d with
        | zero =>
          intro k L1 hd hk ho hz
          have e : k = 24 := by omega
          subst e
          refine hG2 [(8, [])] 100 8 _ _ _ _ (am_nt (am_nlt (Nat.le_refl 24) rfl) ?_)
          exact h L1 hz ho
        | succ d ih =>
          intro k L1 hd hk ho hz
          refine hG2 [(8, [])] 100 8 _ _ _ _ (am_nf (am_lt (by omega : k < 24) rfl) (And.intro (am_vin (by omega) rfl) ?_))
          show G2 8 [some (.ref 26), some (.int a), some (.int n), some (.int (nI k + 1))] [] (am_ui (am_ui I 26 1 a) 26 2 n) (am_uj L1 27 (nI k).toNatClampNeg 0)
          rw [nI_1, nI_clamp (by omega)]
          refine ih (k + 1) _ (by omega) (by omega) (fun c hc => (am_uj_o hc).trans (ho c hc)) (fun j hj => ?_)
          rw [am_uj_r]
          split
          · rfl
          · rename_i q; exact hz j (by omega)
      exact hG2 [(8, [])] 100 0 _ _ _ _ (And.intro (Or.inl rfl) (loop 24 0 L (by omega) (by omega) (fun _ _ => rfl) (fun j hj => by omega)))
    · have loop : ∀ d k (L1 : am_J), 24 - k = d → k ≤ 24 → (∀ c : Nat, c ≠ 29 → L1 c = L c) → (∀ j, j < k → L1 29 j = 0) → G2 8 [some (.ref 28), some (.int a), some (.int n), some (.int (nI k))] [] (am_ui (am_ui I 28 1 a) 28 2 n) L1 := by
        intro d
        induction d with
        | zero =>
          intro k L1 hd hk ho hz
          have e : k = 24 := by omega
          subst e
          refine hG2 [(8, [])] 100 8 _ _ _ _ (am_nt (am_nlt (Nat.le_refl 24) rfl) ?_)
          exact h L1 hz ho
        | succ d ih =>
          intro k L1 hd hk ho hz
          refine hG2 [(8, [])] 100 8 _ _ _ _ (am_nf (am_lt (by omega : k < 24) rfl) (And.intro (am_vin (by omega) rfl) ?_))
          show G2 8 [some (.ref 28), some (.int a), some (.int n), some (.int (nI k + 1))] [] (am_ui (am_ui I 28 1 a) 28 2 n) (am_uj L1 29 (nI k).toNatClampNeg 0)
          rw [nI_1, nI_clamp (by omega)]
          refine ih (k + 1) _ (by omega) (by omega) (fun c hc => (am_uj_o hc).trans (ho c hc)) (fun j hj => ?_)
          rw [am_uj_r]
          split
          · rfl
          · rename_i q; exact hz j (by omega)
      exact hG2 [(8, [])] 100 0 _ _ _ _ (And.intro (Or.inr (Or.inl rfl)) (loop 24 0 L (by omega) (by omega) (fun _ _ => rfl) (fun j hj => by omega)))
    · have loop : ∀ d k (L1 : am_J), 24 - k = d → k ≤ 24 → (∀ c : Nat, c ≠ 31 → L1 c = L c) → (∀ j, j < k → L1 31 j = 0) → G2 8 [some (.ref 30), some (.int a), some (.int n), some (.int (nI k))] [] (am_ui (am_ui I 30 1 a) 30 2 n) L1 := by
        intro d
        induction d with
        | zero =>
          intro k L1 hd hk ho hz
          have e : k = 24 := by omega
          subst e
          refine hG2 [(8, [])] 100 8 _ _ _ _ (am_nt (am_nlt (Nat.le_refl 24) rfl) ?_)
          exact h L1 hz ho
        | succ d ih =>
          intro k L1 hd hk ho hz
          refine hG2 [(8, [])] 100 8 _ _ _ _ (am_nf (am_lt (by omega : k < 24) rfl) (And.intro (am_vin (by omega) rfl) ?_))
          show G2 8 [some (.ref 30), some (.int a), some (.int n), some (.int (nI k + 1))] [] (am_ui (am_ui I 30 1 a) 30 2 n) (am_uj L1 31 (nI k).toNatClampNeg 0)
          rw [nI_1, nI_clamp (by omega)]
          refine ih (k + 1) _ (by omega) (by omega) (fun c hc => (am_uj_o hc).trans (ho c hc)) (fun j hj => ?_)
          rw [am_uj_r]
          split
          · rfl
          · rename_i q; exact hz j (by omega)
      exact hG2 [(8, [])] 100 0 _ _ _ _ (And.intro (Or.inr (Or.inr (Or.inl rfl))) (loop 24 0 L (by omega) (by omega) (fun _ _ => rfl) (fun j hj => by omega)))
    · have loop : ∀ d k (L1 : am_J), 24 - k = d → k ≤ 24 → (∀ c : Nat, c ≠ 33 → L1 c = L c) → (∀ j, j < k → L1 33 j = 0) → G2 8 [some (.ref 32), some (.int a), some (.int n), some (.int (nI k))] [] (am_ui (am_ui I 32 1 a) 32 2 n) L1 := by
        intro d
        induction d with
        | zero =>
          intro k L1 hd hk ho hz
          have e : k = 24 := by omega
          subst e
          refine hG2 [(8, [])] 100 8 _ _ _ _ (am_nt (am_nlt (Nat.le_refl 24) rfl) ?_)
          exact h L1 hz ho
        | succ d ih =>
          intro k L1 hd hk ho hz
          refine hG2 [(8, [])] 100 8 _ _ _ _ (am_nf (am_lt (by omega : k < 24) rfl) (And.intro (am_vin (by omega) rfl) ?_))
          show G2 8 [some (.ref 32), some (.int a), some (.int n), some (.int (nI k + 1))] [] (am_ui (am_ui I 32 1 a) 32 2 n) (am_uj L1 33 (nI k).toNatClampNeg 0)
          rw [nI_1, nI_clamp (by omega)]
          refine ih (k + 1) _ (by omega) (by omega) (fun c hc => (am_uj_o hc).trans (ho c hc)) (fun j hj => ?_)
          rw [am_uj_r]
          split
          · rfl
          · rename_i q; exact hz j (by omega)
      exact hG2 [(8, [])] 100 0 _ _ _ _ (And.intro (Or.inr (Or.inr (Or.inr rfl))) (loop 24 0 L (by omega) (by omega) (fun _ _ => rfl) (fun j hj => by omega)))
  · exact h.elim
def T_RP_sheet : am_Sp := fun vs I L post => match vs with
  | [.ref o, .int s, .int a, .int n] => o = 0 ∧ ∃ A, CR I L A ∧ ∀ (I2 : am_I) (L2 : am_J), CR I2 L2 (o_sheet A s a n).2 → post (some (.int (o_sheet A s a n).1)) I2 L2
  | _ => False
def sp_RP_sheet : Nat → am_Sp := fun i => match i with
  | 103 => T_RP_isFrom0
  | 199 => T_SH_renew
  | _ => am_no
set_option maxRecDepth 100000 in
set_option maxHeartbeats 4000000 in
theorem ok_RP_sheet : am_Ok am_SX sp_RP_sheet false k_RP_sheet 4 T_RP_sheet := by
  intro vs I L post h
  unfold T_RP_sheet at h
  split at h
  · rename_i o s a n
    obtain ⟨rfl, A, hC, h⟩ := h
    refine ⟨Nat.le_of_ble_eq_true rfl, fun G2 hG2 => ?_⟩
    obtain ⟨G, K, hk, tn, tt, ln, sz, it⟩ := A
    obtain ⟨hV, hR, hKr, hk7, hT, hS, hSh⟩ := id hC
    dsimp only [o_sheet] at h
    by_cases hs : 0 ≤ s ∧ s < 4
    · by_cases ha : 0 ≤ a ∧ a < 3
      · by_cases hn : 24 < n
        · rw [if_pos (Or.inr (Or.inr hn))] at h
          exact hG2 [] 100 0 _ _ _ _ (am_f (am_bp hs) (am_f (am_bp ha) (am_nf hn (h I L hC))))
        · rw [if_neg (by rintro (q | q | q); exact q hs; exact q ha; exact hn q)] at h
          by_cases hn0 : n < 0
          · rw [if_pos hn0] at h
            exact hG2 [] 100 0 _ _ _ _ (am_f (am_bp hs) (am_f (am_bp ha) (am_nt hn (am_nf hn0 (h I L hC)))))
          · rw [if_neg hn0] at h
            obtain ⟨x, hx, rfl⟩ := am_rng (n := 4) (by omega) hs.1 hs.2
            obtain ⟨y, hy, rfl⟩ := am_rng (n := 25) (by omega) (Int32.not_lt.mp hn0) (Int32.lt_of_le_of_lt (Int32.not_lt.mp hn) (by decide))
            rw [nI_clamp (by omega), nI_clamp (by omega)] at h
            rcases (show x = 0 ∨ x = 1 ∨ x = 2 ∨ x = 3 by omega) with rfl | rfl | rfl | rfl
            · refine hG2 [] 100 0 _ _ _ _ (am_f (am_bp hs) (am_f (am_bp ha) (am_nt hn (am_nt hn0 (And.intro (am_vin (N := 4) (n := 0) (by omega) rfl) (And.intro rfl (And.intro (by decide) (am_alS (s := 0) (o := 26) (by omega) rfl (And.intro (Or.inl rfl) (fun L2 hz ho => ?_))))))))))
              refine h _ _ (CR_sh (s := 0) hC (by omega) (fun c hc => by rw [am_ui_o hc, am_ui_o hc]) ho ?_ (fun u hu => ⟨o_upd_n hu, o_upd_n hu, o_upd_n hu⟩) ?_ (fun _ => ?_) ?_)
              · rw [o_upd_e, o_upd_e]; exact ⟨Or.inr (am_lane ha), by omega⟩
              · rw [o_upd_e]; exact (am_uk (by omega)).trans am_ui_e
              · rw [o_upd_e]; exact am_ui_e
              · rw [o_upd_e]; exact hz
            · refine hG2 [] 100 0 _ _ _ _ (am_f (am_bp hs) (am_f (am_bp ha) (am_nt hn (am_nt hn0 (And.intro (am_vin (N := 4) (n := 1) (by omega) rfl) (And.intro rfl (And.intro (by decide) (am_alS (s := 1) (o := 28) (by omega) rfl (And.intro (Or.inr (Or.inl rfl)) (fun L2 hz ho => ?_))))))))))
              refine h _ _ (CR_sh (s := 1) hC (by omega) (fun c hc => by rw [am_ui_o hc, am_ui_o hc]) ho ?_ (fun u hu => ⟨o_upd_n hu, o_upd_n hu, o_upd_n hu⟩) ?_ (fun _ => ?_) ?_)
              · rw [o_upd_e, o_upd_e]; exact ⟨Or.inr (am_lane ha), by omega⟩
              · rw [o_upd_e]; exact (am_uk (by omega)).trans am_ui_e
              · rw [o_upd_e]; exact am_ui_e
              · rw [o_upd_e]; exact hz
            · refine hG2 [] 100 0 _ _ _ _ (am_f (am_bp hs) (am_f (am_bp ha) (am_nt hn (am_nt hn0 (And.intro (am_vin (N := 4) (n := 2) (by omega) rfl) (And.intro rfl (And.intro (by decide) (am_alS (s := 2) (o := 30) (by omega) rfl (And.intro (Or.inr (Or.inr (Or.inl rfl))) (fun L2 hz ho => ?_))))))))))
              refine h _ _ (CR_sh (s := 2) hC (by omega) (fun c hc => by rw [am_ui_o hc, am_ui_o hc]) ho ?_ (fun u hu => ⟨o_upd_n hu, o_upd_n hu, o_upd_n hu⟩) ?_ (fun _ => ?_) ?_)
              · rw [o_upd_e, o_upd_e]; exact ⟨Or.inr (am_lane ha), by omega⟩
              · rw [o_upd_e]; exact (am_uk (by omega)).trans am_ui_e
              · rw [o_upd_e]; exact am_ui_e
              · rw [o_upd_e]; exact hz
            · refine hG2 [] 100 0 _ _ _ _ (am_f (am_bp hs) (am_f (am_bp ha) (am_nt hn (am_nt hn0 (And.intro (am_vin (N := 4) (n := 3) (by omega) rfl) (And.intro rfl (And.intro (by decide) (am_alS (s := 3) (o := 32) (by omega) rfl (And.intro (Or.inr (Or.inr (Or.inr rfl))) (fun L2 hz ho => ?_))))))))))
              refine h _ _ (CR_sh (s := 3) hC (by omega) (fun c hc => by rw [am_ui_o hc, am_ui_o hc]) ho ?_ (fun u hu => ⟨o_upd_n hu, o_upd_n hu, o_upd_n hu⟩) ?_ (fun _ => ?_) ?_)
              · rw [o_upd_e, o_upd_e]; exact ⟨Or.inr (am_lane ha), by omega⟩
              · rw [o_upd_e]; exact (am_uk (by omega)).trans am_ui_e
              · rw [o_upd_e]; exact am_ui_e
              · rw [o_upd_e]; exact hz
      · rw [if_pos (Or.inr (Or.inl ha))] at h
        exact hG2 [] 100 0 _ _ _ _ (am_f (am_bp hs) (am_t (am_bn ha) (h I L hC)))
    · rw [if_pos (Or.inl hs)] at h
      exact hG2 [] 100 0 _ _ _ _ (am_t (am_bn hs) (h I L hC))
  · exact h.elim
def T_RP_drop : am_Sp := fun vs I L post => match vs with
  | [.ref o, .int s] => o = 0 ∧ ∃ A, CR I L A ∧ ∀ (I2 : am_I) (L2 : am_J), CR I2 L2 (o_drop A s).2 → post (some (.int (o_drop A s).1)) I2 L2
  | _ => False
def sp_RP_drop : Nat → am_Sp := fun i => match i with
  | 103 => T_RP_isFrom0
  | 203 => T_SH_isNothing
  | 208 => T_SH_become
  | _ => am_no
set_option maxRecDepth 100000 in
set_option maxHeartbeats 4000000 in
theorem ok_RP_drop : am_Ok am_SX sp_RP_drop false k_RP_drop 4 T_RP_drop := by
  intro vs I L post h
  unfold T_RP_drop at h
  split at h
  · rename_i o s
    obtain ⟨rfl, A, hC, h⟩ := h
    refine ⟨Nat.le_of_ble_eq_true rfl, fun G2 hG2 => ?_⟩
    obtain ⟨G, K, hk, tn, tt, ln, sz, it⟩ := A
    obtain ⟨hV, hR, hKr, hk7, hT, hS, hSh⟩ := id hC
    dsimp only [o_drop] at h
    by_cases hs : 0 ≤ s ∧ s < 4
    · rw [if_neg (fun q => q hs)] at h
      obtain ⟨x, hx, rfl⟩ := am_rng (n := 4) (by omega) hs.1 hs.2
      rw [nI_clamp (by omega)] at h
      rcases (show x = 0 ∨ x = 1 ∨ x = 2 ∨ x = 3 by omega) with rfl | rfl | rfl | rfl
      · have q : I 26 1 = ln 0 ∧ (¬ ln 0 = -1 → I 26 2 = nI (sz 0)) ∧ ∀ j, j < 24 → L 27 j = it 0 j := hSh 0 (by omega)
        by_cases hl : ln 0 = -1
        · rw [if_pos hl] at h
          exact hG2 [] 100 0 _ _ _ _ (am_nt (am_bp hs) (And.intro (am_vin (N := 4) (n := 0) (by omega) rfl) (And.intro rfl (And.intro (by decide) (am_alS (s := 0) (o := 26) (by omega) rfl (And.intro (Or.inl rfl) (am_f (am_bp (q.1.trans hl)) (h I L hC))))))))
        · rw [if_neg hl] at h
          refine hG2 [] 100 0 _ _ _ _ (am_nt (am_bp hs) (And.intro (am_vin (N := 4) (n := 0) (by omega) rfl) (And.intro rfl (And.intro (by decide) (am_alS (s := 0) (o := 26) (by omega) rfl (And.intro (Or.inl rfl) (am_t (am_bn (fun z => hl (q.1.symm.trans z))) (And.intro (Or.inl rfl) ?_))))))))
          show post (some (.int (I 26 2))) (am_ui (am_ui I 26 1 (-1)) 26 2 0) L
          rw [q.2.1 hl]
          refine h _ _ (CR_sh (s := 0) hC (by omega) (fun c hc => by rw [am_ui_o hc, am_ui_o hc]) (fun _ _ => rfl) ?_ (fun u hu => ⟨o_upd_n hu, rfl, rfl⟩) ?_ (fun z => ?_) q.2.2)
          · rw [o_upd_e]; exact ⟨Or.inl rfl, (hV.2.2.2.2 0 (by omega)).2⟩
          · rw [o_upd_e]; exact (am_uk (by omega)).trans am_ui_e
          · rw [o_upd_e] at z; exact absurd rfl z
      · have q : I 28 1 = ln 1 ∧ (¬ ln 1 = -1 → I 28 2 = nI (sz 1)) ∧ ∀ j, j < 24 → L 29 j = it 1 j := hSh 1 (by omega)
        by_cases hl : ln 1 = -1
        · rw [if_pos hl] at h
          exact hG2 [] 100 0 _ _ _ _ (am_nt (am_bp hs) (And.intro (am_vin (N := 4) (n := 1) (by omega) rfl) (And.intro rfl (And.intro (by decide) (am_alS (s := 1) (o := 28) (by omega) rfl (And.intro (Or.inr (Or.inl rfl)) (am_f (am_bp (q.1.trans hl)) (h I L hC))))))))
        · rw [if_neg hl] at h
          refine hG2 [] 100 0 _ _ _ _ (am_nt (am_bp hs) (And.intro (am_vin (N := 4) (n := 1) (by omega) rfl) (And.intro rfl (And.intro (by decide) (am_alS (s := 1) (o := 28) (by omega) rfl (And.intro (Or.inr (Or.inl rfl)) (am_t (am_bn (fun z => hl (q.1.symm.trans z))) (And.intro (Or.inr (Or.inl rfl)) ?_))))))))
          show post (some (.int (I 28 2))) (am_ui (am_ui I 28 1 (-1)) 28 2 0) L
          rw [q.2.1 hl]
          refine h _ _ (CR_sh (s := 1) hC (by omega) (fun c hc => by rw [am_ui_o hc, am_ui_o hc]) (fun _ _ => rfl) ?_ (fun u hu => ⟨o_upd_n hu, rfl, rfl⟩) ?_ (fun z => ?_) q.2.2)
          · rw [o_upd_e]; exact ⟨Or.inl rfl, (hV.2.2.2.2 1 (by omega)).2⟩
          · rw [o_upd_e]; exact (am_uk (by omega)).trans am_ui_e
          · rw [o_upd_e] at z; exact absurd rfl z
      · have q : I 30 1 = ln 2 ∧ (¬ ln 2 = -1 → I 30 2 = nI (sz 2)) ∧ ∀ j, j < 24 → L 31 j = it 2 j := hSh 2 (by omega)
        by_cases hl : ln 2 = -1
        · rw [if_pos hl] at h
          exact hG2 [] 100 0 _ _ _ _ (am_nt (am_bp hs) (And.intro (am_vin (N := 4) (n := 2) (by omega) rfl) (And.intro rfl (And.intro (by decide) (am_alS (s := 2) (o := 30) (by omega) rfl (And.intro (Or.inr (Or.inr (Or.inl rfl))) (am_f (am_bp (q.1.trans hl)) (h I L hC))))))))
        · rw [if_neg hl] at h
          refine hG2 [] 100 0 _ _ _ _ (am_nt (am_bp hs) (And.intro (am_vin (N := 4) (n := 2) (by omega) rfl) (And.intro rfl (And.intro (by decide) (am_alS (s := 2) (o := 30) (by omega) rfl (And.intro (Or.inr (Or.inr (Or.inl rfl))) (am_t (am_bn (fun z => hl (q.1.symm.trans z))) (And.intro (Or.inr (Or.inr (Or.inl rfl))) ?_))))))))
          show post (some (.int (I 30 2))) (am_ui (am_ui I 30 1 (-1)) 30 2 0) L
          rw [q.2.1 hl]
          refine h _ _ (CR_sh (s := 2) hC (by omega) (fun c hc => by rw [am_ui_o hc, am_ui_o hc]) (fun _ _ => rfl) ?_ (fun u hu => ⟨o_upd_n hu, rfl, rfl⟩) ?_ (fun z => ?_) q.2.2)
          · rw [o_upd_e]; exact ⟨Or.inl rfl, (hV.2.2.2.2 2 (by omega)).2⟩
          · rw [o_upd_e]; exact (am_uk (by omega)).trans am_ui_e
          · rw [o_upd_e] at z; exact absurd rfl z
      · have q : I 32 1 = ln 3 ∧ (¬ ln 3 = -1 → I 32 2 = nI (sz 3)) ∧ ∀ j, j < 24 → L 33 j = it 3 j := hSh 3 (by omega)
        by_cases hl : ln 3 = -1
        · rw [if_pos hl] at h
          exact hG2 [] 100 0 _ _ _ _ (am_nt (am_bp hs) (And.intro (am_vin (N := 4) (n := 3) (by omega) rfl) (And.intro rfl (And.intro (by decide) (am_alS (s := 3) (o := 32) (by omega) rfl (And.intro (Or.inr (Or.inr (Or.inr rfl))) (am_f (am_bp (q.1.trans hl)) (h I L hC))))))))
        · rw [if_neg hl] at h
          refine hG2 [] 100 0 _ _ _ _ (am_nt (am_bp hs) (And.intro (am_vin (N := 4) (n := 3) (by omega) rfl) (And.intro rfl (And.intro (by decide) (am_alS (s := 3) (o := 32) (by omega) rfl (And.intro (Or.inr (Or.inr (Or.inr rfl))) (am_t (am_bn (fun z => hl (q.1.symm.trans z))) (And.intro (Or.inr (Or.inr (Or.inr rfl))) ?_))))))))
          show post (some (.int (I 32 2))) (am_ui (am_ui I 32 1 (-1)) 32 2 0) L
          rw [q.2.1 hl]
          refine h _ _ (CR_sh (s := 3) hC (by omega) (fun c hc => by rw [am_ui_o hc, am_ui_o hc]) (fun _ _ => rfl) ?_ (fun u hu => ⟨o_upd_n hu, rfl, rfl⟩) ?_ (fun z => ?_) q.2.2)
          · rw [o_upd_e]; exact ⟨Or.inl rfl, (hV.2.2.2.2 3 (by omega)).2⟩
          · rw [o_upd_e]; exact (am_uk (by omega)).trans am_ui_e
          · rw [o_upd_e] at z; exact absurd rfl z
    · rw [if_pos hs] at h
      exact hG2 [] 100 0 _ _ _ _ (am_nf (am_bn hs) (h I L hC))
  · exact h.elim
def T_RP_item : am_Sp := fun vs I L post => match vs with
  | [.ref o, .int s, .int a, .int i, .long v] => o = 0 ∧ ∃ A, CR I L A ∧ ∀ (I2 : am_I) (L2 : am_J), CR I2 L2 (o_item A s a i v).2 → post (some (.int (o_item A s a i v).1)) I2 L2
  | _ => False
def sp_RP_item : Nat → am_Sp := fun i => match i with
  | 103 => T_RP_isFrom0
  | 181 => T_SH_refusal
  | 184 => T_SH_has
  | 195 => T_SH_put
  | _ => am_no
set_option maxRecDepth 100000 in
set_option maxHeartbeats 4000000 in
theorem ok_RP_item : am_Ok am_SX sp_RP_item false k_RP_item 8 T_RP_item := by
  intro vs I L post h
  unfold T_RP_item at h
  split at h
  · rename_i o s a i v
    obtain ⟨rfl, A, hC, h⟩ := h
    refine ⟨Nat.le_of_ble_eq_true rfl, fun G2 hG2 => ?_⟩
    obtain ⟨G, K, hk, tn, tt, ln, sz, it⟩ := A
    obtain ⟨hV, hR, hKr, hk7, hT, hS, hSh⟩ := id hC
    dsimp only [o_item] at h
    by_cases hs : 0 ≤ s ∧ s < 4
    · by_cases ha : 0 ≤ a ∧ a < 3
      · rw [if_neg (by rintro (q | q); exact q hs; exact q ha)] at h
        obtain ⟨x, hx, rfl⟩ := am_rng (n := 4) (by omega) hs.1 hs.2
        rw [nI_clamp (by omega)] at h
        rcases (show x = 0 ∨ x = 1 ∨ x = 2 ∨ x = 3 by omega) with rfl | rfl | rfl | rfl
        · have q : I 26 1 = ln 0 ∧ (¬ ln 0 = -1 → I 26 2 = nI (sz 0)) ∧ ∀ j, j < 24 → L 27 j = it 0 j := hSh 0 (by omega)
          refine hG2 [] 100 0 _ _ _ _ (am_f (am_bp hs) (am_nt (am_bp ha) (And.intro (am_vin (N := 4) (n := 0) (by omega) rfl) (And.intro rfl (And.intro (by decide) (am_alS (s := 0) (o := 26) (by omega) rfl (And.intro (Or.inl rfl) ?_)))))))
          by_cases hl : ln 0 = -1
          · have e : o_bars ln sz 0 a i 1 = -11 := by unfold o_bars; rw [if_pos hl]
            rw [e, if_pos (by decide)] at h
            rw [if_pos (q.1.trans hl)]
            exact am_f (by decide) (h I L hC)
          · rw [if_neg (fun z => hl (q.1.symm.trans z))]
            by_cases hla : ln 0 = a
            · rw [if_pos (q.1.trans hla)]
              refine am_t rfl (And.intro (Or.inl rfl) ?_)
              rw [o_bars_0 hl hla] at h
              rw [am_has (hV.2.2.2.2 0 (by omega)).2 (q.2.1 hl)]
              by_cases hi : 0 ≤ i.toInt ∧ 0 ≤ (1 : Int32).toInt ∧ i.toInt + (1 : Int32).toInt ≤ (sz 0 : Int)
              · rw [if_pos hi, if_neg (by decide)] at h
                refine am_nt (am_bp hi) (And.intro (Or.inl rfl) ?_)
                rw [am_has (hV.2.2.2.2 0 (by omega)).2 (q.2.1 hl)]
                have h24 := (hV.2.2.2.2 0 (by omega)).2
                have e1 : (1 : Int32).toInt = 1 := rfl
                refine And.intro (fun _ => vp_in_iff.mpr ⟨hi.1, by omega⟩) ?_
                show post (some (.int 1)) I (if am_b (0 ≤ i.toInt ∧ 0 ≤ (1 : Int32).toInt ∧ i.toInt + (1 : Int32).toInt ≤ (sz 0 : Int)) = 1 then am_uj L 27 i.toNatClampNeg (f_cut (I 26 1) v) else L)
                rw [if_pos (am_b1 hi), q.1, hla]
                refine h _ _ (CR_sh (s := 0) hC (by omega) (fun _ _ => rfl) (fun c hc => am_uj_o hc) (hV.2.2.2.2 0 (by omega)) (fun u hu => ⟨rfl, rfl, o_upd_n hu⟩) q.1 q.2.1 (fun j hj => ?_))
                rw [o_upd_e]
                show am_uj L 27 i.toNatClampNeg (f_cut a v) 27 j = o_upd (it 0) i.toNatClampNeg (f_cut a v) j
                by_cases e : j = i.toNatClampNeg
                · rw [e, o_upd_e]; exact am_uj_e
                · rw [o_upd_n e]; exact (am_uj_n (fun z => e z.2)).trans (q.2.2 j hj)
              · rw [if_neg hi, if_pos (by decide)] at h
                exact am_nf (am_bn hi) (h I L hC)
            · have e : o_bars ln sz 0 a i 1 = -12 := by unfold o_bars; rw [if_neg hl, if_pos hla]
              rw [e, if_pos (by decide)] at h
              rw [if_neg (fun z => hla (q.1.symm.trans z))]
              exact am_f (by decide) (h I L hC)
        · have q : I 28 1 = ln 1 ∧ (¬ ln 1 = -1 → I 28 2 = nI (sz 1)) ∧ ∀ j, j < 24 → L 29 j = it 1 j := hSh 1 (by omega)
          refine hG2 [] 100 0 _ _ _ _ (am_f (am_bp hs) (am_nt (am_bp ha) (And.intro (am_vin (N := 4) (n := 1) (by omega) rfl) (And.intro rfl (And.intro (by decide) (am_alS (s := 1) (o := 28) (by omega) rfl (And.intro (Or.inr (Or.inl rfl)) ?_)))))))
          by_cases hl : ln 1 = -1
          · have e : o_bars ln sz 1 a i 1 = -11 := by unfold o_bars; rw [if_pos hl]
            rw [e, if_pos (by decide)] at h
            rw [if_pos (q.1.trans hl)]
            exact am_f (by decide) (h I L hC)
          · rw [if_neg (fun z => hl (q.1.symm.trans z))]
            by_cases hla : ln 1 = a
            · rw [if_pos (q.1.trans hla)]
              refine am_t rfl (And.intro (Or.inr (Or.inl rfl)) ?_)
              rw [o_bars_0 hl hla] at h
              rw [am_has (hV.2.2.2.2 1 (by omega)).2 (q.2.1 hl)]
              by_cases hi : 0 ≤ i.toInt ∧ 0 ≤ (1 : Int32).toInt ∧ i.toInt + (1 : Int32).toInt ≤ (sz 1 : Int)
              · rw [if_pos hi, if_neg (by decide)] at h
                refine am_nt (am_bp hi) (And.intro (Or.inr (Or.inl rfl)) ?_)
                rw [am_has (hV.2.2.2.2 1 (by omega)).2 (q.2.1 hl)]
                have h24 := (hV.2.2.2.2 1 (by omega)).2
                have e1 : (1 : Int32).toInt = 1 := rfl
                refine And.intro (fun _ => vp_in_iff.mpr ⟨hi.1, by omega⟩) ?_
                show post (some (.int 1)) I (if am_b (0 ≤ i.toInt ∧ 0 ≤ (1 : Int32).toInt ∧ i.toInt + (1 : Int32).toInt ≤ (sz 1 : Int)) = 1 then am_uj L 29 i.toNatClampNeg (f_cut (I 28 1) v) else L)
                rw [if_pos (am_b1 hi), q.1, hla]
                refine h _ _ (CR_sh (s := 1) hC (by omega) (fun _ _ => rfl) (fun c hc => am_uj_o hc) (hV.2.2.2.2 1 (by omega)) (fun u hu => ⟨rfl, rfl, o_upd_n hu⟩) q.1 q.2.1 (fun j hj => ?_))
                rw [o_upd_e]
                show am_uj L 29 i.toNatClampNeg (f_cut a v) 29 j = o_upd (it 1) i.toNatClampNeg (f_cut a v) j
                by_cases e : j = i.toNatClampNeg
                · rw [e, o_upd_e]; exact am_uj_e
                · rw [o_upd_n e]; exact (am_uj_n (fun z => e z.2)).trans (q.2.2 j hj)
              · rw [if_neg hi, if_pos (by decide)] at h
                exact am_nf (am_bn hi) (h I L hC)
            · have e : o_bars ln sz 1 a i 1 = -12 := by unfold o_bars; rw [if_neg hl, if_pos hla]
              rw [e, if_pos (by decide)] at h
              rw [if_neg (fun z => hla (q.1.symm.trans z))]
              exact am_f (by decide) (h I L hC)
        · have q : I 30 1 = ln 2 ∧ (¬ ln 2 = -1 → I 30 2 = nI (sz 2)) ∧ ∀ j, j < 24 → L 31 j = it 2 j := hSh 2 (by omega)
          refine hG2 [] 100 0 _ _ _ _ (am_f (am_bp hs) (am_nt (am_bp ha) (And.intro (am_vin (N := 4) (n := 2) (by omega) rfl) (And.intro rfl (And.intro (by decide) (am_alS (s := 2) (o := 30) (by omega) rfl (And.intro (Or.inr (Or.inr (Or.inl rfl))) ?_)))))))
          by_cases hl : ln 2 = -1
          · have e : o_bars ln sz 2 a i 1 = -11 := by unfold o_bars; rw [if_pos hl]
            rw [e, if_pos (by decide)] at h
            rw [if_pos (q.1.trans hl)]
            exact am_f (by decide) (h I L hC)
          · rw [if_neg (fun z => hl (q.1.symm.trans z))]
            by_cases hla : ln 2 = a
            · rw [if_pos (q.1.trans hla)]
              refine am_t rfl (And.intro (Or.inr (Or.inr (Or.inl rfl))) ?_)
              rw [o_bars_0 hl hla] at h
              rw [am_has (hV.2.2.2.2 2 (by omega)).2 (q.2.1 hl)]
              by_cases hi : 0 ≤ i.toInt ∧ 0 ≤ (1 : Int32).toInt ∧ i.toInt + (1 : Int32).toInt ≤ (sz 2 : Int)
              · rw [if_pos hi, if_neg (by decide)] at h
                refine am_nt (am_bp hi) (And.intro (Or.inr (Or.inr (Or.inl rfl))) ?_)
                rw [am_has (hV.2.2.2.2 2 (by omega)).2 (q.2.1 hl)]
                have h24 := (hV.2.2.2.2 2 (by omega)).2
                have e1 : (1 : Int32).toInt = 1 := rfl
                refine And.intro (fun _ => vp_in_iff.mpr ⟨hi.1, by omega⟩) ?_
                show post (some (.int 1)) I (if am_b (0 ≤ i.toInt ∧ 0 ≤ (1 : Int32).toInt ∧ i.toInt + (1 : Int32).toInt ≤ (sz 2 : Int)) = 1 then am_uj L 31 i.toNatClampNeg (f_cut (I 30 1) v) else L)
                rw [if_pos (am_b1 hi), q.1, hla]
                refine h _ _ (CR_sh (s := 2) hC (by omega) (fun _ _ => rfl) (fun c hc => am_uj_o hc) (hV.2.2.2.2 2 (by omega)) (fun u hu => ⟨rfl, rfl, o_upd_n hu⟩) q.1 q.2.1 (fun j hj => ?_))
                rw [o_upd_e]
                show am_uj L 31 i.toNatClampNeg (f_cut a v) 31 j = o_upd (it 2) i.toNatClampNeg (f_cut a v) j
                by_cases e : j = i.toNatClampNeg
                · rw [e, o_upd_e]; exact am_uj_e
                · rw [o_upd_n e]; exact (am_uj_n (fun z => e z.2)).trans (q.2.2 j hj)
              · rw [if_neg hi, if_pos (by decide)] at h
                exact am_nf (am_bn hi) (h I L hC)
            · have e : o_bars ln sz 2 a i 1 = -12 := by unfold o_bars; rw [if_neg hl, if_pos hla]
              rw [e, if_pos (by decide)] at h
              rw [if_neg (fun z => hla (q.1.symm.trans z))]
              exact am_f (by decide) (h I L hC)
        · have q : I 32 1 = ln 3 ∧ (¬ ln 3 = -1 → I 32 2 = nI (sz 3)) ∧ ∀ j, j < 24 → L 33 j = it 3 j := hSh 3 (by omega)
          refine hG2 [] 100 0 _ _ _ _ (am_f (am_bp hs) (am_nt (am_bp ha) (And.intro (am_vin (N := 4) (n := 3) (by omega) rfl) (And.intro rfl (And.intro (by decide) (am_alS (s := 3) (o := 32) (by omega) rfl (And.intro (Or.inr (Or.inr (Or.inr rfl))) ?_)))))))
          by_cases hl : ln 3 = -1
          · have e : o_bars ln sz 3 a i 1 = -11 := by unfold o_bars; rw [if_pos hl]
            rw [e, if_pos (by decide)] at h
            rw [if_pos (q.1.trans hl)]
            exact am_f (by decide) (h I L hC)
          · rw [if_neg (fun z => hl (q.1.symm.trans z))]
            by_cases hla : ln 3 = a
            · rw [if_pos (q.1.trans hla)]
              refine am_t rfl (And.intro (Or.inr (Or.inr (Or.inr rfl))) ?_)
              rw [o_bars_0 hl hla] at h
              rw [am_has (hV.2.2.2.2 3 (by omega)).2 (q.2.1 hl)]
              by_cases hi : 0 ≤ i.toInt ∧ 0 ≤ (1 : Int32).toInt ∧ i.toInt + (1 : Int32).toInt ≤ (sz 3 : Int)
              · rw [if_pos hi, if_neg (by decide)] at h
                refine am_nt (am_bp hi) (And.intro (Or.inr (Or.inr (Or.inr rfl))) ?_)
                rw [am_has (hV.2.2.2.2 3 (by omega)).2 (q.2.1 hl)]
                have h24 := (hV.2.2.2.2 3 (by omega)).2
                have e1 : (1 : Int32).toInt = 1 := rfl
                refine And.intro (fun _ => vp_in_iff.mpr ⟨hi.1, by omega⟩) ?_
                show post (some (.int 1)) I (if am_b (0 ≤ i.toInt ∧ 0 ≤ (1 : Int32).toInt ∧ i.toInt + (1 : Int32).toInt ≤ (sz 3 : Int)) = 1 then am_uj L 33 i.toNatClampNeg (f_cut (I 32 1) v) else L)
                rw [if_pos (am_b1 hi), q.1, hla]
                refine h _ _ (CR_sh (s := 3) hC (by omega) (fun _ _ => rfl) (fun c hc => am_uj_o hc) (hV.2.2.2.2 3 (by omega)) (fun u hu => ⟨rfl, rfl, o_upd_n hu⟩) q.1 q.2.1 (fun j hj => ?_))
                rw [o_upd_e]
                show am_uj L 33 i.toNatClampNeg (f_cut a v) 33 j = o_upd (it 3) i.toNatClampNeg (f_cut a v) j
                by_cases e : j = i.toNatClampNeg
                · rw [e, o_upd_e]; exact am_uj_e
                · rw [o_upd_n e]; exact (am_uj_n (fun z => e z.2)).trans (q.2.2 j hj)
              · rw [if_neg hi, if_pos (by decide)] at h
                exact am_nf (am_bn hi) (h I L hC)
            · have e : o_bars ln sz 3 a i 1 = -12 := by unfold o_bars; rw [if_neg hl, if_pos hla]
              rw [e, if_pos (by decide)] at h
              rw [if_neg (fun z => hla (q.1.symm.trans z))]
              exact am_f (by decide) (h I L hC)
      · rw [if_pos (Or.inr ha)] at h
        exact hG2 [] 100 0 _ _ _ _ (am_f (am_bp hs) (am_nf (am_bn ha) (h I L hC)))
    · rw [if_pos (Or.inl hs)] at h
      exact hG2 [] 100 0 _ _ _ _ (am_t (am_bn hs) (h I L hC))
  · exact h.elim
end
section
/-! THE CLASS: a sheet copied -/
theorem o_bars_ran {ln : Nat → Int32} {sz : Nat → Nat} {s : Nat} {a i n : Int32} (h1 : ¬ ln s = -1) (h2 : ln s = a) : o_bars ln sz s a i n = 0 ↔ (0 ≤ i.toInt ∧ 0 ≤ n.toInt ∧ i.toInt + n.toInt ≤ sz s) := by
  rw [o_bars_0 h1 h2]
  constructor
  · intro q
    apply Classical.byContradiction
    intro z
    rw [if_neg z] at q
    exact absurd q (by decide)
  · intro q; rw [if_pos q]
theorem am_n0 {i : Int32} (h : 0 ≤ i.toInt) : ¬ i < 0 := fun z => by
  have := Int32.lt_iff_toInt_lt.mp z
  have e : (0 : Int32).toInt = 0 := rfl
  omega
theorem am_clp {i : Int32} (h : 0 ≤ i.toInt) : (i.toNatClampNeg : Int) = i.toInt := by
  obtain ⟨k, hk, rfl⟩ := nI_of (am_n0 h)
  rw [nI_clamp hk, nI_toInt hk]
def T_RP_copy : am_Sp := fun vs I L post => match vs with
  | [.ref o, .int s, .int i, .int t, .int j, .int n] => o = 0 ∧ ∃ A, CR I L A ∧ ∀ (I2 : am_I) (L2 : am_J), CR I2 L2 (o_copy A s i t j n).2 → post (some (.int (o_copy A s i t j n).1)) I2 L2
  | _ => False
def sp_RP_copy : Nat → am_Sp := fun i => match i with
  | 103 => T_RP_isFrom0
  | 184 => T_SH_has
  | 203 => T_SH_isNothing
  | 217 => T_SY_arraycopy
  | _ => am_no
set_option maxRecDepth 100000 in
set_option maxHeartbeats 4000000 in
theorem am_copy_0_0 {I : am_I} {L : am_J} {post : am_Po} {G2 : am_G} (hG2 : ∀ (cuts : List (Nat × List Nat)) (n pc : Nat) (ls : am_Lv) (st : List Value) (I : am_I) (L : am_J), am_ev am_SX sp_RP_copy false post k_RP_copy cuts G2 n pc ls st I L → G2 pc ls st I L) {i j n : Int32} {G K : Nat → Nat} {hk : Bool} {tn : Nat} {tt : Nat → Nat} {ln : Nat → Int32} {sz : Nat → Nat} {it : Nat → Nat → Int64}
    (hs : 0 ≤ nI 0 ∧ nI 0 < 4) (ht : 0 ≤ nI 0 ∧ nI 0 < 4) (hC : CR I L (G, K, hk, tn, tt, ln, sz, it)) (h : ∀ (I2 : am_I) (L2 : am_J), CR I2 L2 (o_copy (G, K, hk, tn, tt, ln, sz, it) (nI 0) i (nI 0) j n).2 → post (some (.int (o_copy (G, K, hk, tn, tt, ln, sz, it) (nI 0) i (nI 0) j n).1)) I2 L2) : G2 0 (am_ent [.ref 0, .int (nI 0), .int i, .int (nI 0), .int j, .int n] 8) [] I L := by
  obtain ⟨hV, hR, hKr, hk7, hT, hS, hSh⟩ := id hC
  dsimp only [o_copy] at h
  rw [if_neg (by rintro (q | q); exact q hs; exact q ht), nI_clamp (n := 0) (by omega)] at h
  have q : I 26 1 = ln 0 ∧ (¬ ln 0 = -1 → I 26 2 = nI (sz 0)) ∧ ∀ j, j < 24 → L 27 j = it 0 j := hSh 0 (by omega)
  have p : I 26 1 = ln 0 ∧ (¬ ln 0 = -1 → I 26 2 = nI (sz 0)) ∧ ∀ j, j < 24 → L 27 j = it 0 j := hSh 0 (by omega)
  have zs := (hV.2.2.2.2 0 (by omega)).2
  have zt := (hV.2.2.2.2 0 (by omega)).2
  refine hG2 [] 100 0 _ _ _ _ (am_f (am_bp hs) (am_nt (am_bp ht) (And.intro (am_vin (N := 4) (n := 0) (by omega) rfl) (And.intro rfl (And.intro (by decide) (am_alS (s := 0) (o := 26) (by omega) rfl (And.intro (am_vin (N := 4) (n := 0) (by omega) rfl) (And.intro rfl (And.intro (by decide) (am_alS (s := 0) (o := 26) (by omega) rfl (And.intro (Or.inl rfl) ?_)))))))))))
  by_cases l1 : ln 0 = -1
  · rw [if_pos (Or.inl l1)] at h
    exact am_nt (am_bp (q.1.trans l1)) (h I L hC)
  · refine am_nf (am_bn (fun z => l1 (q.1.symm.trans z))) (And.intro (Or.inl rfl) ?_)
    by_cases l2 : ln 0 = -1
    · rw [if_pos (Or.inr l2)] at h
      exact am_f (am_bp (p.1.trans l2)) (h I L hC)
    · rw [if_neg (by rintro (z | z); exact l1 z; exact l2 z)] at h
      refine am_t (am_bn (fun z => l2 (p.1.symm.trans z))) ?_
      by_cases l3 : ln 0 = ln 0
      · rw [if_neg (fun z => z l3)] at h
        refine am_t (show I 26 1 = I 26 1 from q.1.trans (l3.trans p.1.symm)) (And.intro (Or.inl rfl) ?_)
        rw [am_has zs (q.2.1 l1)]
        have br := @o_bars_ran ln sz 0 (ln 0) i n l1 l3
        have cr := @o_bars_ran ln sz 0 (ln 0) j n l2 l3.symm
        by_cases hi : 0 ≤ i.toInt ∧ 0 ≤ n.toInt ∧ i.toInt + n.toInt ≤ (sz 0 : Int)
        · refine am_f (am_bp hi) (And.intro (Or.inl rfl) ?_)
          rw [am_has zt (p.2.1 l2)]
          by_cases hj : 0 ≤ j.toInt ∧ 0 ≤ n.toInt ∧ j.toInt + n.toInt ≤ (sz 0 : Int)
          · rw [if_neg (by rintro (z | z); exact z (br.mpr hi); exact z (cr.mpr hj))] at h
            have ci := am_clp hi.1
            have cj := am_clp hj.1
            have cn := am_clp hi.2.1
            have bi : i.toNatClampNeg + n.toNatClampNeg ≤ 24 := by omega
            have bj : j.toNatClampNeg + n.toNatClampNeg ≤ 24 := by omega
            refine am_nt (am_bp hj) (And.intro (am_n0 hi.1) (And.intro (am_n0 hj.1) (And.intro (am_n0 hi.2.1) (And.intro bi (And.intro bj ?_)))))
            show post (some (.int n)) I (am_cpj L 27 27 i.toNatClampNeg j.toNatClampNeg n.toNatClampNeg)
            refine h _ _ (CR_sh (s := 0) hC (by omega) (fun _ _ => rfl) (fun c hc => am_cpj_o hc) (hV.2.2.2.2 0 (by omega)) (fun u hu => ⟨rfl, rfl, o_upd_n hu⟩) p.1 p.2.1 (fun k hk => ?_))
            rw [o_upd_e, am_cpj_r]
            unfold o_cpy
            by_cases e : j.toNatClampNeg ≤ k ∧ k < j.toNatClampNeg + n.toNatClampNeg
            · rw [if_pos ⟨rfl, e⟩, if_pos e]; exact q.2.2 _ (by omega)
            · rw [if_neg (fun z => e z.2), if_neg e]; exact p.2.2 k hk
          · rw [if_pos (Or.inr (fun z => hj (cr.mp z)))] at h
            exact am_nf (am_bn hj) (h I L hC)
        · rw [if_pos (Or.inl (fun z => hi (br.mp z)))] at h
          exact am_t (am_bn hi) (h I L hC)
      · rw [if_pos l3] at h
        exact am_f (show ¬ I 26 1 = I 26 1 from fun z => l3 (q.1.symm.trans (z.trans p.1))) (h I L hC)
set_option maxRecDepth 100000 in
set_option maxHeartbeats 4000000 in
theorem am_copy_0_1 {I : am_I} {L : am_J} {post : am_Po} {G2 : am_G} (hG2 : ∀ (cuts : List (Nat × List Nat)) (n pc : Nat) (ls : am_Lv) (st : List Value) (I : am_I) (L : am_J), am_ev am_SX sp_RP_copy false post k_RP_copy cuts G2 n pc ls st I L → G2 pc ls st I L) {i j n : Int32} {G K : Nat → Nat} {hk : Bool} {tn : Nat} {tt : Nat → Nat} {ln : Nat → Int32} {sz : Nat → Nat} {it : Nat → Nat → Int64}
    (hs : 0 ≤ nI 0 ∧ nI 0 < 4) (ht : 0 ≤ nI 1 ∧ nI 1 < 4) (hC : CR I L (G, K, hk, tn, tt, ln, sz, it)) (h : ∀ (I2 : am_I) (L2 : am_J), CR I2 L2 (o_copy (G, K, hk, tn, tt, ln, sz, it) (nI 0) i (nI 1) j n).2 → post (some (.int (o_copy (G, K, hk, tn, tt, ln, sz, it) (nI 0) i (nI 1) j n).1)) I2 L2) : G2 0 (am_ent [.ref 0, .int (nI 0), .int i, .int (nI 1), .int j, .int n] 8) [] I L := by
  obtain ⟨hV, hR, hKr, hk7, hT, hS, hSh⟩ := id hC
  dsimp only [o_copy] at h
  rw [if_neg (by rintro (q | q); exact q hs; exact q ht), nI_clamp (n := 0) (by omega), nI_clamp (n := 1) (by omega)] at h
  have q : I 26 1 = ln 0 ∧ (¬ ln 0 = -1 → I 26 2 = nI (sz 0)) ∧ ∀ j, j < 24 → L 27 j = it 0 j := hSh 0 (by omega)
  have p : I 28 1 = ln 1 ∧ (¬ ln 1 = -1 → I 28 2 = nI (sz 1)) ∧ ∀ j, j < 24 → L 29 j = it 1 j := hSh 1 (by omega)
  have zs := (hV.2.2.2.2 0 (by omega)).2
  have zt := (hV.2.2.2.2 1 (by omega)).2
  refine hG2 [] 100 0 _ _ _ _ (am_f (am_bp hs) (am_nt (am_bp ht) (And.intro (am_vin (N := 4) (n := 0) (by omega) rfl) (And.intro rfl (And.intro (by decide) (am_alS (s := 0) (o := 26) (by omega) rfl (And.intro (am_vin (N := 4) (n := 1) (by omega) rfl) (And.intro rfl (And.intro (by decide) (am_alS (s := 1) (o := 28) (by omega) rfl (And.intro (Or.inl rfl) ?_)))))))))))
  by_cases l1 : ln 0 = -1
  · rw [if_pos (Or.inl l1)] at h
    exact am_nt (am_bp (q.1.trans l1)) (h I L hC)
  · refine am_nf (am_bn (fun z => l1 (q.1.symm.trans z))) (And.intro (Or.inr (Or.inl rfl)) ?_)
    by_cases l2 : ln 1 = -1
    · rw [if_pos (Or.inr l2)] at h
      exact am_f (am_bp (p.1.trans l2)) (h I L hC)
    · rw [if_neg (by rintro (z | z); exact l1 z; exact l2 z)] at h
      refine am_t (am_bn (fun z => l2 (p.1.symm.trans z))) ?_
      by_cases l3 : ln 0 = ln 1
      · rw [if_neg (fun z => z l3)] at h
        refine am_t (show I 26 1 = I 28 1 from q.1.trans (l3.trans p.1.symm)) (And.intro (Or.inl rfl) ?_)
        rw [am_has zs (q.2.1 l1)]
        have br := @o_bars_ran ln sz 0 (ln 1) i n l1 l3
        have cr := @o_bars_ran ln sz 1 (ln 0) j n l2 l3.symm
        by_cases hi : 0 ≤ i.toInt ∧ 0 ≤ n.toInt ∧ i.toInt + n.toInt ≤ (sz 0 : Int)
        · refine am_f (am_bp hi) (And.intro (Or.inr (Or.inl rfl)) ?_)
          rw [am_has zt (p.2.1 l2)]
          by_cases hj : 0 ≤ j.toInt ∧ 0 ≤ n.toInt ∧ j.toInt + n.toInt ≤ (sz 1 : Int)
          · rw [if_neg (by rintro (z | z); exact z (br.mpr hi); exact z (cr.mpr hj))] at h
            have ci := am_clp hi.1
            have cj := am_clp hj.1
            have cn := am_clp hi.2.1
            have bi : i.toNatClampNeg + n.toNatClampNeg ≤ 24 := by omega
            have bj : j.toNatClampNeg + n.toNatClampNeg ≤ 24 := by omega
            refine am_nt (am_bp hj) (And.intro (am_n0 hi.1) (And.intro (am_n0 hj.1) (And.intro (am_n0 hi.2.1) (And.intro bi (And.intro bj ?_)))))
            show post (some (.int n)) I (am_cpj L 27 29 i.toNatClampNeg j.toNatClampNeg n.toNatClampNeg)
            refine h _ _ (CR_sh (s := 1) hC (by omega) (fun _ _ => rfl) (fun c hc => am_cpj_o hc) (hV.2.2.2.2 1 (by omega)) (fun u hu => ⟨rfl, rfl, o_upd_n hu⟩) p.1 p.2.1 (fun k hk => ?_))
            rw [o_upd_e, am_cpj_r]
            unfold o_cpy
            by_cases e : j.toNatClampNeg ≤ k ∧ k < j.toNatClampNeg + n.toNatClampNeg
            · rw [if_pos ⟨rfl, e⟩, if_pos e]; exact q.2.2 _ (by omega)
            · rw [if_neg (fun z => e z.2), if_neg e]; exact p.2.2 k hk
          · rw [if_pos (Or.inr (fun z => hj (cr.mp z)))] at h
            exact am_nf (am_bn hj) (h I L hC)
        · rw [if_pos (Or.inl (fun z => hi (br.mp z)))] at h
          exact am_t (am_bn hi) (h I L hC)
      · rw [if_pos l3] at h
        exact am_f (show ¬ I 26 1 = I 28 1 from fun z => l3 (q.1.symm.trans (z.trans p.1))) (h I L hC)
set_option maxRecDepth 100000 in
set_option maxHeartbeats 4000000 in
theorem am_copy_0_2 {I : am_I} {L : am_J} {post : am_Po} {G2 : am_G} (hG2 : ∀ (cuts : List (Nat × List Nat)) (n pc : Nat) (ls : am_Lv) (st : List Value) (I : am_I) (L : am_J), am_ev am_SX sp_RP_copy false post k_RP_copy cuts G2 n pc ls st I L → G2 pc ls st I L) {i j n : Int32} {G K : Nat → Nat} {hk : Bool} {tn : Nat} {tt : Nat → Nat} {ln : Nat → Int32} {sz : Nat → Nat} {it : Nat → Nat → Int64}
    (hs : 0 ≤ nI 0 ∧ nI 0 < 4) (ht : 0 ≤ nI 2 ∧ nI 2 < 4) (hC : CR I L (G, K, hk, tn, tt, ln, sz, it)) (h : ∀ (I2 : am_I) (L2 : am_J), CR I2 L2 (o_copy (G, K, hk, tn, tt, ln, sz, it) (nI 0) i (nI 2) j n).2 → post (some (.int (o_copy (G, K, hk, tn, tt, ln, sz, it) (nI 0) i (nI 2) j n).1)) I2 L2) : G2 0 (am_ent [.ref 0, .int (nI 0), .int i, .int (nI 2), .int j, .int n] 8) [] I L := by
  obtain ⟨hV, hR, hKr, hk7, hT, hS, hSh⟩ := id hC
  dsimp only [o_copy] at h
  rw [if_neg (by rintro (q | q); exact q hs; exact q ht), nI_clamp (n := 0) (by omega), nI_clamp (n := 2) (by omega)] at h
  have q : I 26 1 = ln 0 ∧ (¬ ln 0 = -1 → I 26 2 = nI (sz 0)) ∧ ∀ j, j < 24 → L 27 j = it 0 j := hSh 0 (by omega)
  have p : I 30 1 = ln 2 ∧ (¬ ln 2 = -1 → I 30 2 = nI (sz 2)) ∧ ∀ j, j < 24 → L 31 j = it 2 j := hSh 2 (by omega)
  have zs := (hV.2.2.2.2 0 (by omega)).2
  have zt := (hV.2.2.2.2 2 (by omega)).2
  refine hG2 [] 100 0 _ _ _ _ (am_f (am_bp hs) (am_nt (am_bp ht) (And.intro (am_vin (N := 4) (n := 0) (by omega) rfl) (And.intro rfl (And.intro (by decide) (am_alS (s := 0) (o := 26) (by omega) rfl (And.intro (am_vin (N := 4) (n := 2) (by omega) rfl) (And.intro rfl (And.intro (by decide) (am_alS (s := 2) (o := 30) (by omega) rfl (And.intro (Or.inl rfl) ?_)))))))))))
  by_cases l1 : ln 0 = -1
  · rw [if_pos (Or.inl l1)] at h
    exact am_nt (am_bp (q.1.trans l1)) (h I L hC)
  · refine am_nf (am_bn (fun z => l1 (q.1.symm.trans z))) (And.intro (Or.inr (Or.inr (Or.inl rfl))) ?_)
    by_cases l2 : ln 2 = -1
    · rw [if_pos (Or.inr l2)] at h
      exact am_f (am_bp (p.1.trans l2)) (h I L hC)
    · rw [if_neg (by rintro (z | z); exact l1 z; exact l2 z)] at h
      refine am_t (am_bn (fun z => l2 (p.1.symm.trans z))) ?_
      by_cases l3 : ln 0 = ln 2
      · rw [if_neg (fun z => z l3)] at h
        refine am_t (show I 26 1 = I 30 1 from q.1.trans (l3.trans p.1.symm)) (And.intro (Or.inl rfl) ?_)
        rw [am_has zs (q.2.1 l1)]
        have br := @o_bars_ran ln sz 0 (ln 2) i n l1 l3
        have cr := @o_bars_ran ln sz 2 (ln 0) j n l2 l3.symm
        by_cases hi : 0 ≤ i.toInt ∧ 0 ≤ n.toInt ∧ i.toInt + n.toInt ≤ (sz 0 : Int)
        · refine am_f (am_bp hi) (And.intro (Or.inr (Or.inr (Or.inl rfl))) ?_)
          rw [am_has zt (p.2.1 l2)]
          by_cases hj : 0 ≤ j.toInt ∧ 0 ≤ n.toInt ∧ j.toInt + n.toInt ≤ (sz 2 : Int)
          · rw [if_neg (by rintro (z | z); exact z (br.mpr hi); exact z (cr.mpr hj))] at h
            have ci := am_clp hi.1
            have cj := am_clp hj.1
            have cn := am_clp hi.2.1
            have bi : i.toNatClampNeg + n.toNatClampNeg ≤ 24 := by omega
            have bj : j.toNatClampNeg + n.toNatClampNeg ≤ 24 := by omega
            refine am_nt (am_bp hj) (And.intro (am_n0 hi.1) (And.intro (am_n0 hj.1) (And.intro (am_n0 hi.2.1) (And.intro bi (And.intro bj ?_)))))
            show post (some (.int n)) I (am_cpj L 27 31 i.toNatClampNeg j.toNatClampNeg n.toNatClampNeg)
            refine h _ _ (CR_sh (s := 2) hC (by omega) (fun _ _ => rfl) (fun c hc => am_cpj_o hc) (hV.2.2.2.2 2 (by omega)) (fun u hu => ⟨rfl, rfl, o_upd_n hu⟩) p.1 p.2.1 (fun k hk => ?_))
            rw [o_upd_e, am_cpj_r]
            unfold o_cpy
            by_cases e : j.toNatClampNeg ≤ k ∧ k < j.toNatClampNeg + n.toNatClampNeg
            · rw [if_pos ⟨rfl, e⟩, if_pos e]; exact q.2.2 _ (by omega)
            · rw [if_neg (fun z => e z.2), if_neg e]; exact p.2.2 k hk
          · rw [if_pos (Or.inr (fun z => hj (cr.mp z)))] at h
            exact am_nf (am_bn hj) (h I L hC)
        · rw [if_pos (Or.inl (fun z => hi (br.mp z)))] at h
          exact am_t (am_bn hi) (h I L hC)
      · rw [if_pos l3] at h
        exact am_f (show ¬ I 26 1 = I 30 1 from fun z => l3 (q.1.symm.trans (z.trans p.1))) (h I L hC)
set_option maxRecDepth 100000 in
set_option maxHeartbeats 4000000 in
theorem am_copy_0_3 {I : am_I} {L : am_J} {post : am_Po} {G2 : am_G} (hG2 : ∀ (cuts : List (Nat × List Nat)) (n pc : Nat) (ls : am_Lv) (st : List Value) (I : am_I) (L : am_J), am_ev am_SX sp_RP_copy false post k_RP_copy cuts G2 n pc ls st I L → G2 pc ls st I L) {i j n : Int32} {G K : Nat → Nat} {hk : Bool} {tn : Nat} {tt : Nat → Nat} {ln : Nat → Int32} {sz : Nat → Nat} {it : Nat → Nat → Int64}
    (hs : 0 ≤ nI 0 ∧ nI 0 < 4) (ht : 0 ≤ nI 3 ∧ nI 3 < 4) (hC : CR I L (G, K, hk, tn, tt, ln, sz, it)) (h : ∀ (I2 : am_I) (L2 : am_J), CR I2 L2 (o_copy (G, K, hk, tn, tt, ln, sz, it) (nI 0) i (nI 3) j n).2 → post (some (.int (o_copy (G, K, hk, tn, tt, ln, sz, it) (nI 0) i (nI 3) j n).1)) I2 L2) : G2 0 (am_ent [.ref 0, .int (nI 0), .int i, .int (nI 3), .int j, .int n] 8) [] I L := by
  obtain ⟨hV, hR, hKr, hk7, hT, hS, hSh⟩ := id hC
  dsimp only [o_copy] at h
  rw [if_neg (by rintro (q | q); exact q hs; exact q ht), nI_clamp (n := 0) (by omega), nI_clamp (n := 3) (by omega)] at h
  have q : I 26 1 = ln 0 ∧ (¬ ln 0 = -1 → I 26 2 = nI (sz 0)) ∧ ∀ j, j < 24 → L 27 j = it 0 j := hSh 0 (by omega)
  have p : I 32 1 = ln 3 ∧ (¬ ln 3 = -1 → I 32 2 = nI (sz 3)) ∧ ∀ j, j < 24 → L 33 j = it 3 j := hSh 3 (by omega)
  have zs := (hV.2.2.2.2 0 (by omega)).2
  have zt := (hV.2.2.2.2 3 (by omega)).2
  refine hG2 [] 100 0 _ _ _ _ (am_f (am_bp hs) (am_nt (am_bp ht) (And.intro (am_vin (N := 4) (n := 0) (by omega) rfl) (And.intro rfl (And.intro (by decide) (am_alS (s := 0) (o := 26) (by omega) rfl (And.intro (am_vin (N := 4) (n := 3) (by omega) rfl) (And.intro rfl (And.intro (by decide) (am_alS (s := 3) (o := 32) (by omega) rfl (And.intro (Or.inl rfl) ?_)))))))))))
  by_cases l1 : ln 0 = -1
  · rw [if_pos (Or.inl l1)] at h
    exact am_nt (am_bp (q.1.trans l1)) (h I L hC)
  · refine am_nf (am_bn (fun z => l1 (q.1.symm.trans z))) (And.intro (Or.inr (Or.inr (Or.inr rfl))) ?_)
    by_cases l2 : ln 3 = -1
    · rw [if_pos (Or.inr l2)] at h
      exact am_f (am_bp (p.1.trans l2)) (h I L hC)
    · rw [if_neg (by rintro (z | z); exact l1 z; exact l2 z)] at h
      refine am_t (am_bn (fun z => l2 (p.1.symm.trans z))) ?_
      by_cases l3 : ln 0 = ln 3
      · rw [if_neg (fun z => z l3)] at h
        refine am_t (show I 26 1 = I 32 1 from q.1.trans (l3.trans p.1.symm)) (And.intro (Or.inl rfl) ?_)
        rw [am_has zs (q.2.1 l1)]
        have br := @o_bars_ran ln sz 0 (ln 3) i n l1 l3
        have cr := @o_bars_ran ln sz 3 (ln 0) j n l2 l3.symm
        by_cases hi : 0 ≤ i.toInt ∧ 0 ≤ n.toInt ∧ i.toInt + n.toInt ≤ (sz 0 : Int)
        · refine am_f (am_bp hi) (And.intro (Or.inr (Or.inr (Or.inr rfl))) ?_)
          rw [am_has zt (p.2.1 l2)]
          by_cases hj : 0 ≤ j.toInt ∧ 0 ≤ n.toInt ∧ j.toInt + n.toInt ≤ (sz 3 : Int)
          · rw [if_neg (by rintro (z | z); exact z (br.mpr hi); exact z (cr.mpr hj))] at h
            have ci := am_clp hi.1
            have cj := am_clp hj.1
            have cn := am_clp hi.2.1
            have bi : i.toNatClampNeg + n.toNatClampNeg ≤ 24 := by omega
            have bj : j.toNatClampNeg + n.toNatClampNeg ≤ 24 := by omega
            refine am_nt (am_bp hj) (And.intro (am_n0 hi.1) (And.intro (am_n0 hj.1) (And.intro (am_n0 hi.2.1) (And.intro bi (And.intro bj ?_)))))
            show post (some (.int n)) I (am_cpj L 27 33 i.toNatClampNeg j.toNatClampNeg n.toNatClampNeg)
            refine h _ _ (CR_sh (s := 3) hC (by omega) (fun _ _ => rfl) (fun c hc => am_cpj_o hc) (hV.2.2.2.2 3 (by omega)) (fun u hu => ⟨rfl, rfl, o_upd_n hu⟩) p.1 p.2.1 (fun k hk => ?_))
            rw [o_upd_e, am_cpj_r]
            unfold o_cpy
            by_cases e : j.toNatClampNeg ≤ k ∧ k < j.toNatClampNeg + n.toNatClampNeg
            · rw [if_pos ⟨rfl, e⟩, if_pos e]; exact q.2.2 _ (by omega)
            · rw [if_neg (fun z => e z.2), if_neg e]; exact p.2.2 k hk
          · rw [if_pos (Or.inr (fun z => hj (cr.mp z)))] at h
            exact am_nf (am_bn hj) (h I L hC)
        · rw [if_pos (Or.inl (fun z => hi (br.mp z)))] at h
          exact am_t (am_bn hi) (h I L hC)
      · rw [if_pos l3] at h
        exact am_f (show ¬ I 26 1 = I 32 1 from fun z => l3 (q.1.symm.trans (z.trans p.1))) (h I L hC)
set_option maxRecDepth 100000 in
set_option maxHeartbeats 4000000 in
theorem am_copy_1_0 {I : am_I} {L : am_J} {post : am_Po} {G2 : am_G} (hG2 : ∀ (cuts : List (Nat × List Nat)) (n pc : Nat) (ls : am_Lv) (st : List Value) (I : am_I) (L : am_J), am_ev am_SX sp_RP_copy false post k_RP_copy cuts G2 n pc ls st I L → G2 pc ls st I L) {i j n : Int32} {G K : Nat → Nat} {hk : Bool} {tn : Nat} {tt : Nat → Nat} {ln : Nat → Int32} {sz : Nat → Nat} {it : Nat → Nat → Int64}
    (hs : 0 ≤ nI 1 ∧ nI 1 < 4) (ht : 0 ≤ nI 0 ∧ nI 0 < 4) (hC : CR I L (G, K, hk, tn, tt, ln, sz, it)) (h : ∀ (I2 : am_I) (L2 : am_J), CR I2 L2 (o_copy (G, K, hk, tn, tt, ln, sz, it) (nI 1) i (nI 0) j n).2 → post (some (.int (o_copy (G, K, hk, tn, tt, ln, sz, it) (nI 1) i (nI 0) j n).1)) I2 L2) : G2 0 (am_ent [.ref 0, .int (nI 1), .int i, .int (nI 0), .int j, .int n] 8) [] I L := by
  obtain ⟨hV, hR, hKr, hk7, hT, hS, hSh⟩ := id hC
  dsimp only [o_copy] at h
  rw [if_neg (by rintro (q | q); exact q hs; exact q ht), nI_clamp (n := 1) (by omega), nI_clamp (n := 0) (by omega)] at h
  have q : I 28 1 = ln 1 ∧ (¬ ln 1 = -1 → I 28 2 = nI (sz 1)) ∧ ∀ j, j < 24 → L 29 j = it 1 j := hSh 1 (by omega)
  have p : I 26 1 = ln 0 ∧ (¬ ln 0 = -1 → I 26 2 = nI (sz 0)) ∧ ∀ j, j < 24 → L 27 j = it 0 j := hSh 0 (by omega)
  have zs := (hV.2.2.2.2 1 (by omega)).2
  have zt := (hV.2.2.2.2 0 (by omega)).2
  refine hG2 [] 100 0 _ _ _ _ (am_f (am_bp hs) (am_nt (am_bp ht) (And.intro (am_vin (N := 4) (n := 1) (by omega) rfl) (And.intro rfl (And.intro (by decide) (am_alS (s := 1) (o := 28) (by omega) rfl (And.intro (am_vin (N := 4) (n := 0) (by omega) rfl) (And.intro rfl (And.intro (by decide) (am_alS (s := 0) (o := 26) (by omega) rfl (And.intro (Or.inr (Or.inl rfl)) ?_)))))))))))
  by_cases l1 : ln 1 = -1
  · rw [if_pos (Or.inl l1)] at h
    exact am_nt (am_bp (q.1.trans l1)) (h I L hC)
  · refine am_nf (am_bn (fun z => l1 (q.1.symm.trans z))) (And.intro (Or.inl rfl) ?_)
    by_cases l2 : ln 0 = -1
    · rw [if_pos (Or.inr l2)] at h
      exact am_f (am_bp (p.1.trans l2)) (h I L hC)
    · rw [if_neg (by rintro (z | z); exact l1 z; exact l2 z)] at h
      refine am_t (am_bn (fun z => l2 (p.1.symm.trans z))) ?_
      by_cases l3 : ln 1 = ln 0
      · rw [if_neg (fun z => z l3)] at h
        refine am_t (show I 28 1 = I 26 1 from q.1.trans (l3.trans p.1.symm)) (And.intro (Or.inr (Or.inl rfl)) ?_)
        rw [am_has zs (q.2.1 l1)]
        have br := @o_bars_ran ln sz 1 (ln 0) i n l1 l3
        have cr := @o_bars_ran ln sz 0 (ln 1) j n l2 l3.symm
        by_cases hi : 0 ≤ i.toInt ∧ 0 ≤ n.toInt ∧ i.toInt + n.toInt ≤ (sz 1 : Int)
        · refine am_f (am_bp hi) (And.intro (Or.inl rfl) ?_)
          rw [am_has zt (p.2.1 l2)]
          by_cases hj : 0 ≤ j.toInt ∧ 0 ≤ n.toInt ∧ j.toInt + n.toInt ≤ (sz 0 : Int)
          · rw [if_neg (by rintro (z | z); exact z (br.mpr hi); exact z (cr.mpr hj))] at h
            have ci := am_clp hi.1
            have cj := am_clp hj.1
            have cn := am_clp hi.2.1
            have bi : i.toNatClampNeg + n.toNatClampNeg ≤ 24 := by omega
            have bj : j.toNatClampNeg + n.toNatClampNeg ≤ 24 := by omega
            refine am_nt (am_bp hj) (And.intro (am_n0 hi.1) (And.intro (am_n0 hj.1) (And.intro (am_n0 hi.2.1) (And.intro bi (And.intro bj ?_)))))
            show post (some (.int n)) I (am_cpj L 29 27 i.toNatClampNeg j.toNatClampNeg n.toNatClampNeg)
            refine h _ _ (CR_sh (s := 0) hC (by omega) (fun _ _ => rfl) (fun c hc => am_cpj_o hc) (hV.2.2.2.2 0 (by omega)) (fun u hu => ⟨rfl, rfl, o_upd_n hu⟩) p.1 p.2.1 (fun k hk => ?_))
            rw [o_upd_e, am_cpj_r]
            unfold o_cpy
            by_cases e : j.toNatClampNeg ≤ k ∧ k < j.toNatClampNeg + n.toNatClampNeg
            · rw [if_pos ⟨rfl, e⟩, if_pos e]; exact q.2.2 _ (by omega)
            · rw [if_neg (fun z => e z.2), if_neg e]; exact p.2.2 k hk
          · rw [if_pos (Or.inr (fun z => hj (cr.mp z)))] at h
            exact am_nf (am_bn hj) (h I L hC)
        · rw [if_pos (Or.inl (fun z => hi (br.mp z)))] at h
          exact am_t (am_bn hi) (h I L hC)
      · rw [if_pos l3] at h
        exact am_f (show ¬ I 28 1 = I 26 1 from fun z => l3 (q.1.symm.trans (z.trans p.1))) (h I L hC)
set_option maxRecDepth 100000 in
set_option maxHeartbeats 4000000 in
theorem am_copy_1_1 {I : am_I} {L : am_J} {post : am_Po} {G2 : am_G} (hG2 : ∀ (cuts : List (Nat × List Nat)) (n pc : Nat) (ls : am_Lv) (st : List Value) (I : am_I) (L : am_J), am_ev am_SX sp_RP_copy false post k_RP_copy cuts G2 n pc ls st I L → G2 pc ls st I L) {i j n : Int32} {G K : Nat → Nat} {hk : Bool} {tn : Nat} {tt : Nat → Nat} {ln : Nat → Int32} {sz : Nat → Nat} {it : Nat → Nat → Int64}
    (hs : 0 ≤ nI 1 ∧ nI 1 < 4) (ht : 0 ≤ nI 1 ∧ nI 1 < 4) (hC : CR I L (G, K, hk, tn, tt, ln, sz, it)) (h : ∀ (I2 : am_I) (L2 : am_J), CR I2 L2 (o_copy (G, K, hk, tn, tt, ln, sz, it) (nI 1) i (nI 1) j n).2 → post (some (.int (o_copy (G, K, hk, tn, tt, ln, sz, it) (nI 1) i (nI 1) j n).1)) I2 L2) : G2 0 (am_ent [.ref 0, .int (nI 1), .int i, .int (nI 1), .int j, .int n] 8) [] I L := by
  obtain ⟨hV, hR, hKr, hk7, hT, hS, hSh⟩ := id hC
  dsimp only [o_copy] at h
  rw [if_neg (by rintro (q | q); exact q hs; exact q ht), nI_clamp (n := 1) (by omega)] at h
  have q : I 28 1 = ln 1 ∧ (¬ ln 1 = -1 → I 28 2 = nI (sz 1)) ∧ ∀ j, j < 24 → L 29 j = it 1 j := hSh 1 (by omega)
  have p : I 28 1 = ln 1 ∧ (¬ ln 1 = -1 → I 28 2 = nI (sz 1)) ∧ ∀ j, j < 24 → L 29 j = it 1 j := hSh 1 (by omega)
  have zs := (hV.2.2.2.2 1 (by omega)).2
  have zt := (hV.2.2.2.2 1 (by omega)).2
  refine hG2 [] 100 0 _ _ _ _ (am_f (am_bp hs) (am_nt (am_bp ht) (And.intro (am_vin (N := 4) (n := 1) (by omega) rfl) (And.intro rfl (And.intro (by decide) (am_alS (s := 1) (o := 28) (by omega) rfl (And.intro (am_vin (N := 4) (n := 1) (by omega) rfl) (And.intro rfl (And.intro (by decide) (am_alS (s := 1) (o := 28) (by omega) rfl (And.intro (Or.inr (Or.inl rfl)) ?_)))))))))))
  by_cases l1 : ln 1 = -1
  · rw [if_pos (Or.inl l1)] at h
    exact am_nt (am_bp (q.1.trans l1)) (h I L hC)
  · refine am_nf (am_bn (fun z => l1 (q.1.symm.trans z))) (And.intro (Or.inr (Or.inl rfl)) ?_)
    by_cases l2 : ln 1 = -1
    · rw [if_pos (Or.inr l2)] at h
      exact am_f (am_bp (p.1.trans l2)) (h I L hC)
    · rw [if_neg (by rintro (z | z); exact l1 z; exact l2 z)] at h
      refine am_t (am_bn (fun z => l2 (p.1.symm.trans z))) ?_
      by_cases l3 : ln 1 = ln 1
      · rw [if_neg (fun z => z l3)] at h
        refine am_t (show I 28 1 = I 28 1 from q.1.trans (l3.trans p.1.symm)) (And.intro (Or.inr (Or.inl rfl)) ?_)
        rw [am_has zs (q.2.1 l1)]
        have br := @o_bars_ran ln sz 1 (ln 1) i n l1 l3
        have cr := @o_bars_ran ln sz 1 (ln 1) j n l2 l3.symm
        by_cases hi : 0 ≤ i.toInt ∧ 0 ≤ n.toInt ∧ i.toInt + n.toInt ≤ (sz 1 : Int)
        · refine am_f (am_bp hi) (And.intro (Or.inr (Or.inl rfl)) ?_)
          rw [am_has zt (p.2.1 l2)]
          by_cases hj : 0 ≤ j.toInt ∧ 0 ≤ n.toInt ∧ j.toInt + n.toInt ≤ (sz 1 : Int)
          · rw [if_neg (by rintro (z | z); exact z (br.mpr hi); exact z (cr.mpr hj))] at h
            have ci := am_clp hi.1
            have cj := am_clp hj.1
            have cn := am_clp hi.2.1
            have bi : i.toNatClampNeg + n.toNatClampNeg ≤ 24 := by omega
            have bj : j.toNatClampNeg + n.toNatClampNeg ≤ 24 := by omega
            refine am_nt (am_bp hj) (And.intro (am_n0 hi.1) (And.intro (am_n0 hj.1) (And.intro (am_n0 hi.2.1) (And.intro bi (And.intro bj ?_)))))
            show post (some (.int n)) I (am_cpj L 29 29 i.toNatClampNeg j.toNatClampNeg n.toNatClampNeg)
            refine h _ _ (CR_sh (s := 1) hC (by omega) (fun _ _ => rfl) (fun c hc => am_cpj_o hc) (hV.2.2.2.2 1 (by omega)) (fun u hu => ⟨rfl, rfl, o_upd_n hu⟩) p.1 p.2.1 (fun k hk => ?_))
            rw [o_upd_e, am_cpj_r]
            unfold o_cpy
            by_cases e : j.toNatClampNeg ≤ k ∧ k < j.toNatClampNeg + n.toNatClampNeg
            · rw [if_pos ⟨rfl, e⟩, if_pos e]; exact q.2.2 _ (by omega)
            · rw [if_neg (fun z => e z.2), if_neg e]; exact p.2.2 k hk
          · rw [if_pos (Or.inr (fun z => hj (cr.mp z)))] at h
            exact am_nf (am_bn hj) (h I L hC)
        · rw [if_pos (Or.inl (fun z => hi (br.mp z)))] at h
          exact am_t (am_bn hi) (h I L hC)
      · rw [if_pos l3] at h
        exact am_f (show ¬ I 28 1 = I 28 1 from fun z => l3 (q.1.symm.trans (z.trans p.1))) (h I L hC)
set_option maxRecDepth 100000 in
set_option maxHeartbeats 4000000 in
theorem am_copy_1_2 {I : am_I} {L : am_J} {post : am_Po} {G2 : am_G} (hG2 : ∀ (cuts : List (Nat × List Nat)) (n pc : Nat) (ls : am_Lv) (st : List Value) (I : am_I) (L : am_J), am_ev am_SX sp_RP_copy false post k_RP_copy cuts G2 n pc ls st I L → G2 pc ls st I L) {i j n : Int32} {G K : Nat → Nat} {hk : Bool} {tn : Nat} {tt : Nat → Nat} {ln : Nat → Int32} {sz : Nat → Nat} {it : Nat → Nat → Int64}
    (hs : 0 ≤ nI 1 ∧ nI 1 < 4) (ht : 0 ≤ nI 2 ∧ nI 2 < 4) (hC : CR I L (G, K, hk, tn, tt, ln, sz, it)) (h : ∀ (I2 : am_I) (L2 : am_J), CR I2 L2 (o_copy (G, K, hk, tn, tt, ln, sz, it) (nI 1) i (nI 2) j n).2 → post (some (.int (o_copy (G, K, hk, tn, tt, ln, sz, it) (nI 1) i (nI 2) j n).1)) I2 L2) : G2 0 (am_ent [.ref 0, .int (nI 1), .int i, .int (nI 2), .int j, .int n] 8) [] I L := by
  obtain ⟨hV, hR, hKr, hk7, hT, hS, hSh⟩ := id hC
  dsimp only [o_copy] at h
  rw [if_neg (by rintro (q | q); exact q hs; exact q ht), nI_clamp (n := 1) (by omega), nI_clamp (n := 2) (by omega)] at h
  have q : I 28 1 = ln 1 ∧ (¬ ln 1 = -1 → I 28 2 = nI (sz 1)) ∧ ∀ j, j < 24 → L 29 j = it 1 j := hSh 1 (by omega)
  have p : I 30 1 = ln 2 ∧ (¬ ln 2 = -1 → I 30 2 = nI (sz 2)) ∧ ∀ j, j < 24 → L 31 j = it 2 j := hSh 2 (by omega)
  have zs := (hV.2.2.2.2 1 (by omega)).2
  have zt := (hV.2.2.2.2 2 (by omega)).2
  refine hG2 [] 100 0 _ _ _ _ (am_f (am_bp hs) (am_nt (am_bp ht) (And.intro (am_vin (N := 4) (n := 1) (by omega) rfl) (And.intro rfl (And.intro (by decide) (am_alS (s := 1) (o := 28) (by omega) rfl (And.intro (am_vin (N := 4) (n := 2) (by omega) rfl) (And.intro rfl (And.intro (by decide) (am_alS (s := 2) (o := 30) (by omega) rfl (And.intro (Or.inr (Or.inl rfl)) ?_)))))))))))
  by_cases l1 : ln 1 = -1
  · rw [if_pos (Or.inl l1)] at h
    exact am_nt (am_bp (q.1.trans l1)) (h I L hC)
  · refine am_nf (am_bn (fun z => l1 (q.1.symm.trans z))) (And.intro (Or.inr (Or.inr (Or.inl rfl))) ?_)
    by_cases l2 : ln 2 = -1
    · rw [if_pos (Or.inr l2)] at h
      exact am_f (am_bp (p.1.trans l2)) (h I L hC)
    · rw [if_neg (by rintro (z | z); exact l1 z; exact l2 z)] at h
      refine am_t (am_bn (fun z => l2 (p.1.symm.trans z))) ?_
      by_cases l3 : ln 1 = ln 2
      · rw [if_neg (fun z => z l3)] at h
        refine am_t (show I 28 1 = I 30 1 from q.1.trans (l3.trans p.1.symm)) (And.intro (Or.inr (Or.inl rfl)) ?_)
        rw [am_has zs (q.2.1 l1)]
        have br := @o_bars_ran ln sz 1 (ln 2) i n l1 l3
        have cr := @o_bars_ran ln sz 2 (ln 1) j n l2 l3.symm
        by_cases hi : 0 ≤ i.toInt ∧ 0 ≤ n.toInt ∧ i.toInt + n.toInt ≤ (sz 1 : Int)
        · refine am_f (am_bp hi) (And.intro (Or.inr (Or.inr (Or.inl rfl))) ?_)
          rw [am_has zt (p.2.1 l2)]
          by_cases hj : 0 ≤ j.toInt ∧ 0 ≤ n.toInt ∧ j.toInt + n.toInt ≤ (sz 2 : Int)
          · rw [if_neg (by rintro (z | z); exact z (br.mpr hi); exact z (cr.mpr hj))] at h
            have ci := am_clp hi.1
            have cj := am_clp hj.1
            have cn := am_clp hi.2.1
            have bi : i.toNatClampNeg + n.toNatClampNeg ≤ 24 := by omega
            have bj : j.toNatClampNeg + n.toNatClampNeg ≤ 24 := by omega
            refine am_nt (am_bp hj) (And.intro (am_n0 hi.1) (And.intro (am_n0 hj.1) (And.intro (am_n0 hi.2.1) (And.intro bi (And.intro bj ?_)))))
            show post (some (.int n)) I (am_cpj L 29 31 i.toNatClampNeg j.toNatClampNeg n.toNatClampNeg)
            refine h _ _ (CR_sh (s := 2) hC (by omega) (fun _ _ => rfl) (fun c hc => am_cpj_o hc) (hV.2.2.2.2 2 (by omega)) (fun u hu => ⟨rfl, rfl, o_upd_n hu⟩) p.1 p.2.1 (fun k hk => ?_))
            rw [o_upd_e, am_cpj_r]
            unfold o_cpy
            by_cases e : j.toNatClampNeg ≤ k ∧ k < j.toNatClampNeg + n.toNatClampNeg
            · rw [if_pos ⟨rfl, e⟩, if_pos e]; exact q.2.2 _ (by omega)
            · rw [if_neg (fun z => e z.2), if_neg e]; exact p.2.2 k hk
          · rw [if_pos (Or.inr (fun z => hj (cr.mp z)))] at h
            exact am_nf (am_bn hj) (h I L hC)
        · rw [if_pos (Or.inl (fun z => hi (br.mp z)))] at h
          exact am_t (am_bn hi) (h I L hC)
      · rw [if_pos l3] at h
        exact am_f (show ¬ I 28 1 = I 30 1 from fun z => l3 (q.1.symm.trans (z.trans p.1))) (h I L hC)
set_option maxRecDepth 100000 in
set_option maxHeartbeats 4000000 in
theorem am_copy_1_3 {I : am_I} {L : am_J} {post : am_Po} {G2 : am_G} (hG2 : ∀ (cuts : List (Nat × List Nat)) (n pc : Nat) (ls : am_Lv) (st : List Value) (I : am_I) (L : am_J), am_ev am_SX sp_RP_copy false post k_RP_copy cuts G2 n pc ls st I L → G2 pc ls st I L) {i j n : Int32} {G K : Nat → Nat} {hk : Bool} {tn : Nat} {tt : Nat → Nat} {ln : Nat → Int32} {sz : Nat → Nat} {it : Nat → Nat → Int64}
    (hs : 0 ≤ nI 1 ∧ nI 1 < 4) (ht : 0 ≤ nI 3 ∧ nI 3 < 4) (hC : CR I L (G, K, hk, tn, tt, ln, sz, it)) (h : ∀ (I2 : am_I) (L2 : am_J), CR I2 L2 (o_copy (G, K, hk, tn, tt, ln, sz, it) (nI 1) i (nI 3) j n).2 → post (some (.int (o_copy (G, K, hk, tn, tt, ln, sz, it) (nI 1) i (nI 3) j n).1)) I2 L2) : G2 0 (am_ent [.ref 0, .int (nI 1), .int i, .int (nI 3), .int j, .int n] 8) [] I L := by
  obtain ⟨hV, hR, hKr, hk7, hT, hS, hSh⟩ := id hC
  dsimp only [o_copy] at h
  rw [if_neg (by rintro (q | q); exact q hs; exact q ht), nI_clamp (n := 1) (by omega), nI_clamp (n := 3) (by omega)] at h
  have q : I 28 1 = ln 1 ∧ (¬ ln 1 = -1 → I 28 2 = nI (sz 1)) ∧ ∀ j, j < 24 → L 29 j = it 1 j := hSh 1 (by omega)
  have p : I 32 1 = ln 3 ∧ (¬ ln 3 = -1 → I 32 2 = nI (sz 3)) ∧ ∀ j, j < 24 → L 33 j = it 3 j := hSh 3 (by omega)
  have zs := (hV.2.2.2.2 1 (by omega)).2
  have zt := (hV.2.2.2.2 3 (by omega)).2
  refine hG2 [] 100 0 _ _ _ _ (am_f (am_bp hs) (am_nt (am_bp ht) (And.intro (am_vin (N := 4) (n := 1) (by omega) rfl) (And.intro rfl (And.intro (by decide) (am_alS (s := 1) (o := 28) (by omega) rfl (And.intro (am_vin (N := 4) (n := 3) (by omega) rfl) (And.intro rfl (And.intro (by decide) (am_alS (s := 3) (o := 32) (by omega) rfl (And.intro (Or.inr (Or.inl rfl)) ?_)))))))))))
  by_cases l1 : ln 1 = -1
  · rw [if_pos (Or.inl l1)] at h
    exact am_nt (am_bp (q.1.trans l1)) (h I L hC)
  · refine am_nf (am_bn (fun z => l1 (q.1.symm.trans z))) (And.intro (Or.inr (Or.inr (Or.inr rfl))) ?_)
    by_cases l2 : ln 3 = -1
    · rw [if_pos (Or.inr l2)] at h
      exact am_f (am_bp (p.1.trans l2)) (h I L hC)
    · rw [if_neg (by rintro (z | z); exact l1 z; exact l2 z)] at h
      refine am_t (am_bn (fun z => l2 (p.1.symm.trans z))) ?_
      by_cases l3 : ln 1 = ln 3
      · rw [if_neg (fun z => z l3)] at h
        refine am_t (show I 28 1 = I 32 1 from q.1.trans (l3.trans p.1.symm)) (And.intro (Or.inr (Or.inl rfl)) ?_)
        rw [am_has zs (q.2.1 l1)]
        have br := @o_bars_ran ln sz 1 (ln 3) i n l1 l3
        have cr := @o_bars_ran ln sz 3 (ln 1) j n l2 l3.symm
        by_cases hi : 0 ≤ i.toInt ∧ 0 ≤ n.toInt ∧ i.toInt + n.toInt ≤ (sz 1 : Int)
        · refine am_f (am_bp hi) (And.intro (Or.inr (Or.inr (Or.inr rfl))) ?_)
          rw [am_has zt (p.2.1 l2)]
          by_cases hj : 0 ≤ j.toInt ∧ 0 ≤ n.toInt ∧ j.toInt + n.toInt ≤ (sz 3 : Int)
          · rw [if_neg (by rintro (z | z); exact z (br.mpr hi); exact z (cr.mpr hj))] at h
            have ci := am_clp hi.1
            have cj := am_clp hj.1
            have cn := am_clp hi.2.1
            have bi : i.toNatClampNeg + n.toNatClampNeg ≤ 24 := by omega
            have bj : j.toNatClampNeg + n.toNatClampNeg ≤ 24 := by omega
            refine am_nt (am_bp hj) (And.intro (am_n0 hi.1) (And.intro (am_n0 hj.1) (And.intro (am_n0 hi.2.1) (And.intro bi (And.intro bj ?_)))))
            show post (some (.int n)) I (am_cpj L 29 33 i.toNatClampNeg j.toNatClampNeg n.toNatClampNeg)
            refine h _ _ (CR_sh (s := 3) hC (by omega) (fun _ _ => rfl) (fun c hc => am_cpj_o hc) (hV.2.2.2.2 3 (by omega)) (fun u hu => ⟨rfl, rfl, o_upd_n hu⟩) p.1 p.2.1 (fun k hk => ?_))
            rw [o_upd_e, am_cpj_r]
            unfold o_cpy
            by_cases e : j.toNatClampNeg ≤ k ∧ k < j.toNatClampNeg + n.toNatClampNeg
            · rw [if_pos ⟨rfl, e⟩, if_pos e]; exact q.2.2 _ (by omega)
            · rw [if_neg (fun z => e z.2), if_neg e]; exact p.2.2 k hk
          · rw [if_pos (Or.inr (fun z => hj (cr.mp z)))] at h
            exact am_nf (am_bn hj) (h I L hC)
        · rw [if_pos (Or.inl (fun z => hi (br.mp z)))] at h
          exact am_t (am_bn hi) (h I L hC)
      · rw [if_pos l3] at h
        exact am_f (show ¬ I 28 1 = I 32 1 from fun z => l3 (q.1.symm.trans (z.trans p.1))) (h I L hC)
set_option maxRecDepth 100000 in
set_option maxHeartbeats 4000000 in
theorem am_copy_2_0 {I : am_I} {L : am_J} {post : am_Po} {G2 : am_G} (hG2 : ∀ (cuts : List (Nat × List Nat)) (n pc : Nat) (ls : am_Lv) (st : List Value) (I : am_I) (L : am_J), am_ev am_SX sp_RP_copy false post k_RP_copy cuts G2 n pc ls st I L → G2 pc ls st I L) {i j n : Int32} {G K : Nat → Nat} {hk : Bool} {tn : Nat} {tt : Nat → Nat} {ln : Nat → Int32} {sz : Nat → Nat} {it : Nat → Nat → Int64}
    (hs : 0 ≤ nI 2 ∧ nI 2 < 4) (ht : 0 ≤ nI 0 ∧ nI 0 < 4) (hC : CR I L (G, K, hk, tn, tt, ln, sz, it)) (h : ∀ (I2 : am_I) (L2 : am_J), CR I2 L2 (o_copy (G, K, hk, tn, tt, ln, sz, it) (nI 2) i (nI 0) j n).2 → post (some (.int (o_copy (G, K, hk, tn, tt, ln, sz, it) (nI 2) i (nI 0) j n).1)) I2 L2) : G2 0 (am_ent [.ref 0, .int (nI 2), .int i, .int (nI 0), .int j, .int n] 8) [] I L := by
  obtain ⟨hV, hR, hKr, hk7, hT, hS, hSh⟩ := id hC
  dsimp only [o_copy] at h
  rw [if_neg (by rintro (q | q); exact q hs; exact q ht), nI_clamp (n := 2) (by omega), nI_clamp (n := 0) (by omega)] at h
  have q : I 30 1 = ln 2 ∧ (¬ ln 2 = -1 → I 30 2 = nI (sz 2)) ∧ ∀ j, j < 24 → L 31 j = it 2 j := hSh 2 (by omega)
  have p : I 26 1 = ln 0 ∧ (¬ ln 0 = -1 → I 26 2 = nI (sz 0)) ∧ ∀ j, j < 24 → L 27 j = it 0 j := hSh 0 (by omega)
  have zs := (hV.2.2.2.2 2 (by omega)).2
  have zt := (hV.2.2.2.2 0 (by omega)).2
  refine hG2 [] 100 0 _ _ _ _ (am_f (am_bp hs) (am_nt (am_bp ht) (And.intro (am_vin (N := 4) (n := 2) (by omega) rfl) (And.intro rfl (And.intro (by decide) (am_alS (s := 2) (o := 30) (by omega) rfl (And.intro (am_vin (N := 4) (n := 0) (by omega) rfl) (And.intro rfl (And.intro (by decide) (am_alS (s := 0) (o := 26) (by omega) rfl (And.intro (Or.inr (Or.inr (Or.inl rfl))) ?_)))))))))))
  by_cases l1 : ln 2 = -1
  · rw [if_pos (Or.inl l1)] at h
    exact am_nt (am_bp (q.1.trans l1)) (h I L hC)
  · refine am_nf (am_bn (fun z => l1 (q.1.symm.trans z))) (And.intro (Or.inl rfl) ?_)
    by_cases l2 : ln 0 = -1
    · rw [if_pos (Or.inr l2)] at h
      exact am_f (am_bp (p.1.trans l2)) (h I L hC)
    · rw [if_neg (by rintro (z | z); exact l1 z; exact l2 z)] at h
      refine am_t (am_bn (fun z => l2 (p.1.symm.trans z))) ?_
      by_cases l3 : ln 2 = ln 0
      · rw [if_neg (fun z => z l3)] at h
        refine am_t (show I 30 1 = I 26 1 from q.1.trans (l3.trans p.1.symm)) (And.intro (Or.inr (Or.inr (Or.inl rfl))) ?_)
        rw [am_has zs (q.2.1 l1)]
        have br := @o_bars_ran ln sz 2 (ln 0) i n l1 l3
        have cr := @o_bars_ran ln sz 0 (ln 2) j n l2 l3.symm
        by_cases hi : 0 ≤ i.toInt ∧ 0 ≤ n.toInt ∧ i.toInt + n.toInt ≤ (sz 2 : Int)
        · refine am_f (am_bp hi) (And.intro (Or.inl rfl) ?_)
          rw [am_has zt (p.2.1 l2)]
          by_cases hj : 0 ≤ j.toInt ∧ 0 ≤ n.toInt ∧ j.toInt + n.toInt ≤ (sz 0 : Int)
          · rw [if_neg (by rintro (z | z); exact z (br.mpr hi); exact z (cr.mpr hj))] at h
            have ci := am_clp hi.1
            have cj := am_clp hj.1
            have cn := am_clp hi.2.1
            have bi : i.toNatClampNeg + n.toNatClampNeg ≤ 24 := by omega
            have bj : j.toNatClampNeg + n.toNatClampNeg ≤ 24 := by omega
            refine am_nt (am_bp hj) (And.intro (am_n0 hi.1) (And.intro (am_n0 hj.1) (And.intro (am_n0 hi.2.1) (And.intro bi (And.intro bj ?_)))))
            show post (some (.int n)) I (am_cpj L 31 27 i.toNatClampNeg j.toNatClampNeg n.toNatClampNeg)
            refine h _ _ (CR_sh (s := 0) hC (by omega) (fun _ _ => rfl) (fun c hc => am_cpj_o hc) (hV.2.2.2.2 0 (by omega)) (fun u hu => ⟨rfl, rfl, o_upd_n hu⟩) p.1 p.2.1 (fun k hk => ?_))
            rw [o_upd_e, am_cpj_r]
            unfold o_cpy
            by_cases e : j.toNatClampNeg ≤ k ∧ k < j.toNatClampNeg + n.toNatClampNeg
            · rw [if_pos ⟨rfl, e⟩, if_pos e]; exact q.2.2 _ (by omega)
            · rw [if_neg (fun z => e z.2), if_neg e]; exact p.2.2 k hk
          · rw [if_pos (Or.inr (fun z => hj (cr.mp z)))] at h
            exact am_nf (am_bn hj) (h I L hC)
        · rw [if_pos (Or.inl (fun z => hi (br.mp z)))] at h
          exact am_t (am_bn hi) (h I L hC)
      · rw [if_pos l3] at h
        exact am_f (show ¬ I 30 1 = I 26 1 from fun z => l3 (q.1.symm.trans (z.trans p.1))) (h I L hC)
set_option maxRecDepth 100000 in
set_option maxHeartbeats 4000000 in
theorem am_copy_2_1 {I : am_I} {L : am_J} {post : am_Po} {G2 : am_G} (hG2 : ∀ (cuts : List (Nat × List Nat)) (n pc : Nat) (ls : am_Lv) (st : List Value) (I : am_I) (L : am_J), am_ev am_SX sp_RP_copy false post k_RP_copy cuts G2 n pc ls st I L → G2 pc ls st I L) {i j n : Int32} {G K : Nat → Nat} {hk : Bool} {tn : Nat} {tt : Nat → Nat} {ln : Nat → Int32} {sz : Nat → Nat} {it : Nat → Nat → Int64}
    (hs : 0 ≤ nI 2 ∧ nI 2 < 4) (ht : 0 ≤ nI 1 ∧ nI 1 < 4) (hC : CR I L (G, K, hk, tn, tt, ln, sz, it)) (h : ∀ (I2 : am_I) (L2 : am_J), CR I2 L2 (o_copy (G, K, hk, tn, tt, ln, sz, it) (nI 2) i (nI 1) j n).2 → post (some (.int (o_copy (G, K, hk, tn, tt, ln, sz, it) (nI 2) i (nI 1) j n).1)) I2 L2) : G2 0 (am_ent [.ref 0, .int (nI 2), .int i, .int (nI 1), .int j, .int n] 8) [] I L := by
  obtain ⟨hV, hR, hKr, hk7, hT, hS, hSh⟩ := id hC
  dsimp only [o_copy] at h
  rw [if_neg (by rintro (q | q); exact q hs; exact q ht), nI_clamp (n := 2) (by omega), nI_clamp (n := 1) (by omega)] at h
  have q : I 30 1 = ln 2 ∧ (¬ ln 2 = -1 → I 30 2 = nI (sz 2)) ∧ ∀ j, j < 24 → L 31 j = it 2 j := hSh 2 (by omega)
  have p : I 28 1 = ln 1 ∧ (¬ ln 1 = -1 → I 28 2 = nI (sz 1)) ∧ ∀ j, j < 24 → L 29 j = it 1 j := hSh 1 (by omega)
  have zs := (hV.2.2.2.2 2 (by omega)).2
  have zt := (hV.2.2.2.2 1 (by omega)).2
  refine hG2 [] 100 0 _ _ _ _ (am_f (am_bp hs) (am_nt (am_bp ht) (And.intro (am_vin (N := 4) (n := 2) (by omega) rfl) (And.intro rfl (And.intro (by decide) (am_alS (s := 2) (o := 30) (by omega) rfl (And.intro (am_vin (N := 4) (n := 1) (by omega) rfl) (And.intro rfl (And.intro (by decide) (am_alS (s := 1) (o := 28) (by omega) rfl (And.intro (Or.inr (Or.inr (Or.inl rfl))) ?_)))))))))))
  by_cases l1 : ln 2 = -1
  · rw [if_pos (Or.inl l1)] at h
    exact am_nt (am_bp (q.1.trans l1)) (h I L hC)
  · refine am_nf (am_bn (fun z => l1 (q.1.symm.trans z))) (And.intro (Or.inr (Or.inl rfl)) ?_)
    by_cases l2 : ln 1 = -1
    · rw [if_pos (Or.inr l2)] at h
      exact am_f (am_bp (p.1.trans l2)) (h I L hC)
    · rw [if_neg (by rintro (z | z); exact l1 z; exact l2 z)] at h
      refine am_t (am_bn (fun z => l2 (p.1.symm.trans z))) ?_
      by_cases l3 : ln 2 = ln 1
      · rw [if_neg (fun z => z l3)] at h
        refine am_t (show I 30 1 = I 28 1 from q.1.trans (l3.trans p.1.symm)) (And.intro (Or.inr (Or.inr (Or.inl rfl))) ?_)
        rw [am_has zs (q.2.1 l1)]
        have br := @o_bars_ran ln sz 2 (ln 1) i n l1 l3
        have cr := @o_bars_ran ln sz 1 (ln 2) j n l2 l3.symm
        by_cases hi : 0 ≤ i.toInt ∧ 0 ≤ n.toInt ∧ i.toInt + n.toInt ≤ (sz 2 : Int)
        · refine am_f (am_bp hi) (And.intro (Or.inr (Or.inl rfl)) ?_)
          rw [am_has zt (p.2.1 l2)]
          by_cases hj : 0 ≤ j.toInt ∧ 0 ≤ n.toInt ∧ j.toInt + n.toInt ≤ (sz 1 : Int)
          · rw [if_neg (by rintro (z | z); exact z (br.mpr hi); exact z (cr.mpr hj))] at h
            have ci := am_clp hi.1
            have cj := am_clp hj.1
            have cn := am_clp hi.2.1
            have bi : i.toNatClampNeg + n.toNatClampNeg ≤ 24 := by omega
            have bj : j.toNatClampNeg + n.toNatClampNeg ≤ 24 := by omega
            refine am_nt (am_bp hj) (And.intro (am_n0 hi.1) (And.intro (am_n0 hj.1) (And.intro (am_n0 hi.2.1) (And.intro bi (And.intro bj ?_)))))
            show post (some (.int n)) I (am_cpj L 31 29 i.toNatClampNeg j.toNatClampNeg n.toNatClampNeg)
            refine h _ _ (CR_sh (s := 1) hC (by omega) (fun _ _ => rfl) (fun c hc => am_cpj_o hc) (hV.2.2.2.2 1 (by omega)) (fun u hu => ⟨rfl, rfl, o_upd_n hu⟩) p.1 p.2.1 (fun k hk => ?_))
            rw [o_upd_e, am_cpj_r]
            unfold o_cpy
            by_cases e : j.toNatClampNeg ≤ k ∧ k < j.toNatClampNeg + n.toNatClampNeg
            · rw [if_pos ⟨rfl, e⟩, if_pos e]; exact q.2.2 _ (by omega)
            · rw [if_neg (fun z => e z.2), if_neg e]; exact p.2.2 k hk
          · rw [if_pos (Or.inr (fun z => hj (cr.mp z)))] at h
            exact am_nf (am_bn hj) (h I L hC)
        · rw [if_pos (Or.inl (fun z => hi (br.mp z)))] at h
          exact am_t (am_bn hi) (h I L hC)
      · rw [if_pos l3] at h
        exact am_f (show ¬ I 30 1 = I 28 1 from fun z => l3 (q.1.symm.trans (z.trans p.1))) (h I L hC)
set_option maxRecDepth 100000 in
set_option maxHeartbeats 4000000 in
theorem am_copy_2_2 {I : am_I} {L : am_J} {post : am_Po} {G2 : am_G} (hG2 : ∀ (cuts : List (Nat × List Nat)) (n pc : Nat) (ls : am_Lv) (st : List Value) (I : am_I) (L : am_J), am_ev am_SX sp_RP_copy false post k_RP_copy cuts G2 n pc ls st I L → G2 pc ls st I L) {i j n : Int32} {G K : Nat → Nat} {hk : Bool} {tn : Nat} {tt : Nat → Nat} {ln : Nat → Int32} {sz : Nat → Nat} {it : Nat → Nat → Int64}
    (hs : 0 ≤ nI 2 ∧ nI 2 < 4) (ht : 0 ≤ nI 2 ∧ nI 2 < 4) (hC : CR I L (G, K, hk, tn, tt, ln, sz, it)) (h : ∀ (I2 : am_I) (L2 : am_J), CR I2 L2 (o_copy (G, K, hk, tn, tt, ln, sz, it) (nI 2) i (nI 2) j n).2 → post (some (.int (o_copy (G, K, hk, tn, tt, ln, sz, it) (nI 2) i (nI 2) j n).1)) I2 L2) : G2 0 (am_ent [.ref 0, .int (nI 2), .int i, .int (nI 2), .int j, .int n] 8) [] I L := by
  obtain ⟨hV, hR, hKr, hk7, hT, hS, hSh⟩ := id hC
  dsimp only [o_copy] at h
  rw [if_neg (by rintro (q | q); exact q hs; exact q ht), nI_clamp (n := 2) (by omega)] at h
  have q : I 30 1 = ln 2 ∧ (¬ ln 2 = -1 → I 30 2 = nI (sz 2)) ∧ ∀ j, j < 24 → L 31 j = it 2 j := hSh 2 (by omega)
  have p : I 30 1 = ln 2 ∧ (¬ ln 2 = -1 → I 30 2 = nI (sz 2)) ∧ ∀ j, j < 24 → L 31 j = it 2 j := hSh 2 (by omega)
  have zs := (hV.2.2.2.2 2 (by omega)).2
  have zt := (hV.2.2.2.2 2 (by omega)).2
  refine hG2 [] 100 0 _ _ _ _ (am_f (am_bp hs) (am_nt (am_bp ht) (And.intro (am_vin (N := 4) (n := 2) (by omega) rfl) (And.intro rfl (And.intro (by decide) (am_alS (s := 2) (o := 30) (by omega) rfl (And.intro (am_vin (N := 4) (n := 2) (by omega) rfl) (And.intro rfl (And.intro (by decide) (am_alS (s := 2) (o := 30) (by omega) rfl (And.intro (Or.inr (Or.inr (Or.inl rfl))) ?_)))))))))))
  by_cases l1 : ln 2 = -1
  · rw [if_pos (Or.inl l1)] at h
    exact am_nt (am_bp (q.1.trans l1)) (h I L hC)
  · refine am_nf (am_bn (fun z => l1 (q.1.symm.trans z))) (And.intro (Or.inr (Or.inr (Or.inl rfl))) ?_)
    by_cases l2 : ln 2 = -1
    · rw [if_pos (Or.inr l2)] at h
      exact am_f (am_bp (p.1.trans l2)) (h I L hC)
    · rw [if_neg (by rintro (z | z); exact l1 z; exact l2 z)] at h
      refine am_t (am_bn (fun z => l2 (p.1.symm.trans z))) ?_
      by_cases l3 : ln 2 = ln 2
      · rw [if_neg (fun z => z l3)] at h
        refine am_t (show I 30 1 = I 30 1 from q.1.trans (l3.trans p.1.symm)) (And.intro (Or.inr (Or.inr (Or.inl rfl))) ?_)
        rw [am_has zs (q.2.1 l1)]
        have br := @o_bars_ran ln sz 2 (ln 2) i n l1 l3
        have cr := @o_bars_ran ln sz 2 (ln 2) j n l2 l3.symm
        by_cases hi : 0 ≤ i.toInt ∧ 0 ≤ n.toInt ∧ i.toInt + n.toInt ≤ (sz 2 : Int)
        · refine am_f (am_bp hi) (And.intro (Or.inr (Or.inr (Or.inl rfl))) ?_)
          rw [am_has zt (p.2.1 l2)]
          by_cases hj : 0 ≤ j.toInt ∧ 0 ≤ n.toInt ∧ j.toInt + n.toInt ≤ (sz 2 : Int)
          · rw [if_neg (by rintro (z | z); exact z (br.mpr hi); exact z (cr.mpr hj))] at h
            have ci := am_clp hi.1
            have cj := am_clp hj.1
            have cn := am_clp hi.2.1
            have bi : i.toNatClampNeg + n.toNatClampNeg ≤ 24 := by omega
            have bj : j.toNatClampNeg + n.toNatClampNeg ≤ 24 := by omega
            refine am_nt (am_bp hj) (And.intro (am_n0 hi.1) (And.intro (am_n0 hj.1) (And.intro (am_n0 hi.2.1) (And.intro bi (And.intro bj ?_)))))
            show post (some (.int n)) I (am_cpj L 31 31 i.toNatClampNeg j.toNatClampNeg n.toNatClampNeg)
            refine h _ _ (CR_sh (s := 2) hC (by omega) (fun _ _ => rfl) (fun c hc => am_cpj_o hc) (hV.2.2.2.2 2 (by omega)) (fun u hu => ⟨rfl, rfl, o_upd_n hu⟩) p.1 p.2.1 (fun k hk => ?_))
            rw [o_upd_e, am_cpj_r]
            unfold o_cpy
            by_cases e : j.toNatClampNeg ≤ k ∧ k < j.toNatClampNeg + n.toNatClampNeg
            · rw [if_pos ⟨rfl, e⟩, if_pos e]; exact q.2.2 _ (by omega)
            · rw [if_neg (fun z => e z.2), if_neg e]; exact p.2.2 k hk
          · rw [if_pos (Or.inr (fun z => hj (cr.mp z)))] at h
            exact am_nf (am_bn hj) (h I L hC)
        · rw [if_pos (Or.inl (fun z => hi (br.mp z)))] at h
          exact am_t (am_bn hi) (h I L hC)
      · rw [if_pos l3] at h
        exact am_f (show ¬ I 30 1 = I 30 1 from fun z => l3 (q.1.symm.trans (z.trans p.1))) (h I L hC)
set_option maxRecDepth 100000 in
set_option maxHeartbeats 4000000 in
theorem am_copy_2_3 {I : am_I} {L : am_J} {post : am_Po} {G2 : am_G} (hG2 : ∀ (cuts : List (Nat × List Nat)) (n pc : Nat) (ls : am_Lv) (st : List Value) (I : am_I) (L : am_J), am_ev am_SX sp_RP_copy false post k_RP_copy cuts G2 n pc ls st I L → G2 pc ls st I L) {i j n : Int32} {G K : Nat → Nat} {hk : Bool} {tn : Nat} {tt : Nat → Nat} {ln : Nat → Int32} {sz : Nat → Nat} {it : Nat → Nat → Int64}
    (hs : 0 ≤ nI 2 ∧ nI 2 < 4) (ht : 0 ≤ nI 3 ∧ nI 3 < 4) (hC : CR I L (G, K, hk, tn, tt, ln, sz, it)) (h : ∀ (I2 : am_I) (L2 : am_J), CR I2 L2 (o_copy (G, K, hk, tn, tt, ln, sz, it) (nI 2) i (nI 3) j n).2 → post (some (.int (o_copy (G, K, hk, tn, tt, ln, sz, it) (nI 2) i (nI 3) j n).1)) I2 L2) : G2 0 (am_ent [.ref 0, .int (nI 2), .int i, .int (nI 3), .int j, .int n] 8) [] I L := by
  obtain ⟨hV, hR, hKr, hk7, hT, hS, hSh⟩ := id hC
  dsimp only [o_copy] at h
  rw [if_neg (by rintro (q | q); exact q hs; exact q ht), nI_clamp (n := 2) (by omega), nI_clamp (n := 3) (by omega)] at h
  have q : I 30 1 = ln 2 ∧ (¬ ln 2 = -1 → I 30 2 = nI (sz 2)) ∧ ∀ j, j < 24 → L 31 j = it 2 j := hSh 2 (by omega)
  have p : I 32 1 = ln 3 ∧ (¬ ln 3 = -1 → I 32 2 = nI (sz 3)) ∧ ∀ j, j < 24 → L 33 j = it 3 j := hSh 3 (by omega)
  have zs := (hV.2.2.2.2 2 (by omega)).2
  have zt := (hV.2.2.2.2 3 (by omega)).2
  refine hG2 [] 100 0 _ _ _ _ (am_f (am_bp hs) (am_nt (am_bp ht) (And.intro (am_vin (N := 4) (n := 2) (by omega) rfl) (And.intro rfl (And.intro (by decide) (am_alS (s := 2) (o := 30) (by omega) rfl (And.intro (am_vin (N := 4) (n := 3) (by omega) rfl) (And.intro rfl (And.intro (by decide) (am_alS (s := 3) (o := 32) (by omega) rfl (And.intro (Or.inr (Or.inr (Or.inl rfl))) ?_)))))))))))
  by_cases l1 : ln 2 = -1
  · rw [if_pos (Or.inl l1)] at h
    exact am_nt (am_bp (q.1.trans l1)) (h I L hC)
  · refine am_nf (am_bn (fun z => l1 (q.1.symm.trans z))) (And.intro (Or.inr (Or.inr (Or.inr rfl))) ?_)
    by_cases l2 : ln 3 = -1
    · rw [if_pos (Or.inr l2)] at h
      exact am_f (am_bp (p.1.trans l2)) (h I L hC)
    · rw [if_neg (by rintro (z | z); exact l1 z; exact l2 z)] at h
      refine am_t (am_bn (fun z => l2 (p.1.symm.trans z))) ?_
      by_cases l3 : ln 2 = ln 3
      · rw [if_neg (fun z => z l3)] at h
        refine am_t (show I 30 1 = I 32 1 from q.1.trans (l3.trans p.1.symm)) (And.intro (Or.inr (Or.inr (Or.inl rfl))) ?_)
        rw [am_has zs (q.2.1 l1)]
        have br := @o_bars_ran ln sz 2 (ln 3) i n l1 l3
        have cr := @o_bars_ran ln sz 3 (ln 2) j n l2 l3.symm
        by_cases hi : 0 ≤ i.toInt ∧ 0 ≤ n.toInt ∧ i.toInt + n.toInt ≤ (sz 2 : Int)
        · refine am_f (am_bp hi) (And.intro (Or.inr (Or.inr (Or.inr rfl))) ?_)
          rw [am_has zt (p.2.1 l2)]
          by_cases hj : 0 ≤ j.toInt ∧ 0 ≤ n.toInt ∧ j.toInt + n.toInt ≤ (sz 3 : Int)
          · rw [if_neg (by rintro (z | z); exact z (br.mpr hi); exact z (cr.mpr hj))] at h
            have ci := am_clp hi.1
            have cj := am_clp hj.1
            have cn := am_clp hi.2.1
            have bi : i.toNatClampNeg + n.toNatClampNeg ≤ 24 := by omega
            have bj : j.toNatClampNeg + n.toNatClampNeg ≤ 24 := by omega
            refine am_nt (am_bp hj) (And.intro (am_n0 hi.1) (And.intro (am_n0 hj.1) (And.intro (am_n0 hi.2.1) (And.intro bi (And.intro bj ?_)))))
            show post (some (.int n)) I (am_cpj L 31 33 i.toNatClampNeg j.toNatClampNeg n.toNatClampNeg)
            refine h _ _ (CR_sh (s := 3) hC (by omega) (fun _ _ => rfl) (fun c hc => am_cpj_o hc) (hV.2.2.2.2 3 (by omega)) (fun u hu => ⟨rfl, rfl, o_upd_n hu⟩) p.1 p.2.1 (fun k hk => ?_))
            rw [o_upd_e, am_cpj_r]
            unfold o_cpy
            by_cases e : j.toNatClampNeg ≤ k ∧ k < j.toNatClampNeg + n.toNatClampNeg
            · rw [if_pos ⟨rfl, e⟩, if_pos e]; exact q.2.2 _ (by omega)
            · rw [if_neg (fun z => e z.2), if_neg e]; exact p.2.2 k hk
          · rw [if_pos (Or.inr (fun z => hj (cr.mp z)))] at h
            exact am_nf (am_bn hj) (h I L hC)
        · rw [if_pos (Or.inl (fun z => hi (br.mp z)))] at h
          exact am_t (am_bn hi) (h I L hC)
      · rw [if_pos l3] at h
        exact am_f (show ¬ I 30 1 = I 32 1 from fun z => l3 (q.1.symm.trans (z.trans p.1))) (h I L hC)
set_option maxRecDepth 100000 in
set_option maxHeartbeats 4000000 in
theorem am_copy_3_0 {I : am_I} {L : am_J} {post : am_Po} {G2 : am_G} (hG2 : ∀ (cuts : List (Nat × List Nat)) (n pc : Nat) (ls : am_Lv) (st : List Value) (I : am_I) (L : am_J), am_ev am_SX sp_RP_copy false post k_RP_copy cuts G2 n pc ls st I L → G2 pc ls st I L) {i j n : Int32} {G K : Nat → Nat} {hk : Bool} {tn : Nat} {tt : Nat → Nat} {ln : Nat → Int32} {sz : Nat → Nat} {it : Nat → Nat → Int64}
    (hs : 0 ≤ nI 3 ∧ nI 3 < 4) (ht : 0 ≤ nI 0 ∧ nI 0 < 4) (hC : CR I L (G, K, hk, tn, tt, ln, sz, it)) (h : ∀ (I2 : am_I) (L2 : am_J), CR I2 L2 (o_copy (G, K, hk, tn, tt, ln, sz, it) (nI 3) i (nI 0) j n).2 → post (some (.int (o_copy (G, K, hk, tn, tt, ln, sz, it) (nI 3) i (nI 0) j n).1)) I2 L2) : G2 0 (am_ent [.ref 0, .int (nI 3), .int i, .int (nI 0), .int j, .int n] 8) [] I L := by
  obtain ⟨hV, hR, hKr, hk7, hT, hS, hSh⟩ := id hC
  dsimp only [o_copy] at h
  rw [if_neg (by rintro (q | q); exact q hs; exact q ht), nI_clamp (n := 3) (by omega), nI_clamp (n := 0) (by omega)] at h
  have q : I 32 1 = ln 3 ∧ (¬ ln 3 = -1 → I 32 2 = nI (sz 3)) ∧ ∀ j, j < 24 → L 33 j = it 3 j := hSh 3 (by omega)
  have p : I 26 1 = ln 0 ∧ (¬ ln 0 = -1 → I 26 2 = nI (sz 0)) ∧ ∀ j, j < 24 → L 27 j = it 0 j := hSh 0 (by omega)
  have zs := (hV.2.2.2.2 3 (by omega)).2
  have zt := (hV.2.2.2.2 0 (by omega)).2
  refine hG2 [] 100 0 _ _ _ _ (am_f (am_bp hs) (am_nt (am_bp ht) (And.intro (am_vin (N := 4) (n := 3) (by omega) rfl) (And.intro rfl (And.intro (by decide) (am_alS (s := 3) (o := 32) (by omega) rfl (And.intro (am_vin (N := 4) (n := 0) (by omega) rfl) (And.intro rfl (And.intro (by decide) (am_alS (s := 0) (o := 26) (by omega) rfl (And.intro (Or.inr (Or.inr (Or.inr rfl))) ?_)))))))))))
  by_cases l1 : ln 3 = -1
  · rw [if_pos (Or.inl l1)] at h
    exact am_nt (am_bp (q.1.trans l1)) (h I L hC)
  · refine am_nf (am_bn (fun z => l1 (q.1.symm.trans z))) (And.intro (Or.inl rfl) ?_)
    by_cases l2 : ln 0 = -1
    · rw [if_pos (Or.inr l2)] at h
      exact am_f (am_bp (p.1.trans l2)) (h I L hC)
    · rw [if_neg (by rintro (z | z); exact l1 z; exact l2 z)] at h
      refine am_t (am_bn (fun z => l2 (p.1.symm.trans z))) ?_
      by_cases l3 : ln 3 = ln 0
      · rw [if_neg (fun z => z l3)] at h
        refine am_t (show I 32 1 = I 26 1 from q.1.trans (l3.trans p.1.symm)) (And.intro (Or.inr (Or.inr (Or.inr rfl))) ?_)
        rw [am_has zs (q.2.1 l1)]
        have br := @o_bars_ran ln sz 3 (ln 0) i n l1 l3
        have cr := @o_bars_ran ln sz 0 (ln 3) j n l2 l3.symm
        by_cases hi : 0 ≤ i.toInt ∧ 0 ≤ n.toInt ∧ i.toInt + n.toInt ≤ (sz 3 : Int)
        · refine am_f (am_bp hi) (And.intro (Or.inl rfl) ?_)
          rw [am_has zt (p.2.1 l2)]
          by_cases hj : 0 ≤ j.toInt ∧ 0 ≤ n.toInt ∧ j.toInt + n.toInt ≤ (sz 0 : Int)
          · rw [if_neg (by rintro (z | z); exact z (br.mpr hi); exact z (cr.mpr hj))] at h
            have ci := am_clp hi.1
            have cj := am_clp hj.1
            have cn := am_clp hi.2.1
            have bi : i.toNatClampNeg + n.toNatClampNeg ≤ 24 := by omega
            have bj : j.toNatClampNeg + n.toNatClampNeg ≤ 24 := by omega
            refine am_nt (am_bp hj) (And.intro (am_n0 hi.1) (And.intro (am_n0 hj.1) (And.intro (am_n0 hi.2.1) (And.intro bi (And.intro bj ?_)))))
            show post (some (.int n)) I (am_cpj L 33 27 i.toNatClampNeg j.toNatClampNeg n.toNatClampNeg)
            refine h _ _ (CR_sh (s := 0) hC (by omega) (fun _ _ => rfl) (fun c hc => am_cpj_o hc) (hV.2.2.2.2 0 (by omega)) (fun u hu => ⟨rfl, rfl, o_upd_n hu⟩) p.1 p.2.1 (fun k hk => ?_))
            rw [o_upd_e, am_cpj_r]
            unfold o_cpy
            by_cases e : j.toNatClampNeg ≤ k ∧ k < j.toNatClampNeg + n.toNatClampNeg
            · rw [if_pos ⟨rfl, e⟩, if_pos e]; exact q.2.2 _ (by omega)
            · rw [if_neg (fun z => e z.2), if_neg e]; exact p.2.2 k hk
          · rw [if_pos (Or.inr (fun z => hj (cr.mp z)))] at h
            exact am_nf (am_bn hj) (h I L hC)
        · rw [if_pos (Or.inl (fun z => hi (br.mp z)))] at h
          exact am_t (am_bn hi) (h I L hC)
      · rw [if_pos l3] at h
        exact am_f (show ¬ I 32 1 = I 26 1 from fun z => l3 (q.1.symm.trans (z.trans p.1))) (h I L hC)
set_option maxRecDepth 100000 in
set_option maxHeartbeats 4000000 in
theorem am_copy_3_1 {I : am_I} {L : am_J} {post : am_Po} {G2 : am_G} (hG2 : ∀ (cuts : List (Nat × List Nat)) (n pc : Nat) (ls : am_Lv) (st : List Value) (I : am_I) (L : am_J), am_ev am_SX sp_RP_copy false post k_RP_copy cuts G2 n pc ls st I L → G2 pc ls st I L) {i j n : Int32} {G K : Nat → Nat} {hk : Bool} {tn : Nat} {tt : Nat → Nat} {ln : Nat → Int32} {sz : Nat → Nat} {it : Nat → Nat → Int64}
    (hs : 0 ≤ nI 3 ∧ nI 3 < 4) (ht : 0 ≤ nI 1 ∧ nI 1 < 4) (hC : CR I L (G, K, hk, tn, tt, ln, sz, it)) (h : ∀ (I2 : am_I) (L2 : am_J), CR I2 L2 (o_copy (G, K, hk, tn, tt, ln, sz, it) (nI 3) i (nI 1) j n).2 → post (some (.int (o_copy (G, K, hk, tn, tt, ln, sz, it) (nI 3) i (nI 1) j n).1)) I2 L2) : G2 0 (am_ent [.ref 0, .int (nI 3), .int i, .int (nI 1), .int j, .int n] 8) [] I L := by
  obtain ⟨hV, hR, hKr, hk7, hT, hS, hSh⟩ := id hC
  dsimp only [o_copy] at h
  rw [if_neg (by rintro (q | q); exact q hs; exact q ht), nI_clamp (n := 3) (by omega), nI_clamp (n := 1) (by omega)] at h
  have q : I 32 1 = ln 3 ∧ (¬ ln 3 = -1 → I 32 2 = nI (sz 3)) ∧ ∀ j, j < 24 → L 33 j = it 3 j := hSh 3 (by omega)
  have p : I 28 1 = ln 1 ∧ (¬ ln 1 = -1 → I 28 2 = nI (sz 1)) ∧ ∀ j, j < 24 → L 29 j = it 1 j := hSh 1 (by omega)
  have zs := (hV.2.2.2.2 3 (by omega)).2
  have zt := (hV.2.2.2.2 1 (by omega)).2
  refine hG2 [] 100 0 _ _ _ _ (am_f (am_bp hs) (am_nt (am_bp ht) (And.intro (am_vin (N := 4) (n := 3) (by omega) rfl) (And.intro rfl (And.intro (by decide) (am_alS (s := 3) (o := 32) (by omega) rfl (And.intro (am_vin (N := 4) (n := 1) (by omega) rfl) (And.intro rfl (And.intro (by decide) (am_alS (s := 1) (o := 28) (by omega) rfl (And.intro (Or.inr (Or.inr (Or.inr rfl))) ?_)))))))))))
  by_cases l1 : ln 3 = -1
  · rw [if_pos (Or.inl l1)] at h
    exact am_nt (am_bp (q.1.trans l1)) (h I L hC)
  · refine am_nf (am_bn (fun z => l1 (q.1.symm.trans z))) (And.intro (Or.inr (Or.inl rfl)) ?_)
    by_cases l2 : ln 1 = -1
    · rw [if_pos (Or.inr l2)] at h
      exact am_f (am_bp (p.1.trans l2)) (h I L hC)
    · rw [if_neg (by rintro (z | z); exact l1 z; exact l2 z)] at h
      refine am_t (am_bn (fun z => l2 (p.1.symm.trans z))) ?_
      by_cases l3 : ln 3 = ln 1
      · rw [if_neg (fun z => z l3)] at h
        refine am_t (show I 32 1 = I 28 1 from q.1.trans (l3.trans p.1.symm)) (And.intro (Or.inr (Or.inr (Or.inr rfl))) ?_)
        rw [am_has zs (q.2.1 l1)]
        have br := @o_bars_ran ln sz 3 (ln 1) i n l1 l3
        have cr := @o_bars_ran ln sz 1 (ln 3) j n l2 l3.symm
        by_cases hi : 0 ≤ i.toInt ∧ 0 ≤ n.toInt ∧ i.toInt + n.toInt ≤ (sz 3 : Int)
        · refine am_f (am_bp hi) (And.intro (Or.inr (Or.inl rfl)) ?_)
          rw [am_has zt (p.2.1 l2)]
          by_cases hj : 0 ≤ j.toInt ∧ 0 ≤ n.toInt ∧ j.toInt + n.toInt ≤ (sz 1 : Int)
          · rw [if_neg (by rintro (z | z); exact z (br.mpr hi); exact z (cr.mpr hj))] at h
            have ci := am_clp hi.1
            have cj := am_clp hj.1
            have cn := am_clp hi.2.1
            have bi : i.toNatClampNeg + n.toNatClampNeg ≤ 24 := by omega
            have bj : j.toNatClampNeg + n.toNatClampNeg ≤ 24 := by omega
            refine am_nt (am_bp hj) (And.intro (am_n0 hi.1) (And.intro (am_n0 hj.1) (And.intro (am_n0 hi.2.1) (And.intro bi (And.intro bj ?_)))))
            show post (some (.int n)) I (am_cpj L 33 29 i.toNatClampNeg j.toNatClampNeg n.toNatClampNeg)
            refine h _ _ (CR_sh (s := 1) hC (by omega) (fun _ _ => rfl) (fun c hc => am_cpj_o hc) (hV.2.2.2.2 1 (by omega)) (fun u hu => ⟨rfl, rfl, o_upd_n hu⟩) p.1 p.2.1 (fun k hk => ?_))
            rw [o_upd_e, am_cpj_r]
            unfold o_cpy
            by_cases e : j.toNatClampNeg ≤ k ∧ k < j.toNatClampNeg + n.toNatClampNeg
            · rw [if_pos ⟨rfl, e⟩, if_pos e]; exact q.2.2 _ (by omega)
            · rw [if_neg (fun z => e z.2), if_neg e]; exact p.2.2 k hk
          · rw [if_pos (Or.inr (fun z => hj (cr.mp z)))] at h
            exact am_nf (am_bn hj) (h I L hC)
        · rw [if_pos (Or.inl (fun z => hi (br.mp z)))] at h
          exact am_t (am_bn hi) (h I L hC)
      · rw [if_pos l3] at h
        exact am_f (show ¬ I 32 1 = I 28 1 from fun z => l3 (q.1.symm.trans (z.trans p.1))) (h I L hC)
set_option maxRecDepth 100000 in
set_option maxHeartbeats 4000000 in
theorem am_copy_3_2 {I : am_I} {L : am_J} {post : am_Po} {G2 : am_G} (hG2 : ∀ (cuts : List (Nat × List Nat)) (n pc : Nat) (ls : am_Lv) (st : List Value) (I : am_I) (L : am_J), am_ev am_SX sp_RP_copy false post k_RP_copy cuts G2 n pc ls st I L → G2 pc ls st I L) {i j n : Int32} {G K : Nat → Nat} {hk : Bool} {tn : Nat} {tt : Nat → Nat} {ln : Nat → Int32} {sz : Nat → Nat} {it : Nat → Nat → Int64}
    (hs : 0 ≤ nI 3 ∧ nI 3 < 4) (ht : 0 ≤ nI 2 ∧ nI 2 < 4) (hC : CR I L (G, K, hk, tn, tt, ln, sz, it)) (h : ∀ (I2 : am_I) (L2 : am_J), CR I2 L2 (o_copy (G, K, hk, tn, tt, ln, sz, it) (nI 3) i (nI 2) j n).2 → post (some (.int (o_copy (G, K, hk, tn, tt, ln, sz, it) (nI 3) i (nI 2) j n).1)) I2 L2) : G2 0 (am_ent [.ref 0, .int (nI 3), .int i, .int (nI 2), .int j, .int n] 8) [] I L := by
  obtain ⟨hV, hR, hKr, hk7, hT, hS, hSh⟩ := id hC
  dsimp only [o_copy] at h
  rw [if_neg (by rintro (q | q); exact q hs; exact q ht), nI_clamp (n := 3) (by omega), nI_clamp (n := 2) (by omega)] at h
  have q : I 32 1 = ln 3 ∧ (¬ ln 3 = -1 → I 32 2 = nI (sz 3)) ∧ ∀ j, j < 24 → L 33 j = it 3 j := hSh 3 (by omega)
  have p : I 30 1 = ln 2 ∧ (¬ ln 2 = -1 → I 30 2 = nI (sz 2)) ∧ ∀ j, j < 24 → L 31 j = it 2 j := hSh 2 (by omega)
  have zs := (hV.2.2.2.2 3 (by omega)).2
  have zt := (hV.2.2.2.2 2 (by omega)).2
  refine hG2 [] 100 0 _ _ _ _ (am_f (am_bp hs) (am_nt (am_bp ht) (And.intro (am_vin (N := 4) (n := 3) (by omega) rfl) (And.intro rfl (And.intro (by decide) (am_alS (s := 3) (o := 32) (by omega) rfl (And.intro (am_vin (N := 4) (n := 2) (by omega) rfl) (And.intro rfl (And.intro (by decide) (am_alS (s := 2) (o := 30) (by omega) rfl (And.intro (Or.inr (Or.inr (Or.inr rfl))) ?_)))))))))))
  by_cases l1 : ln 3 = -1
  · rw [if_pos (Or.inl l1)] at h
    exact am_nt (am_bp (q.1.trans l1)) (h I L hC)
  · refine am_nf (am_bn (fun z => l1 (q.1.symm.trans z))) (And.intro (Or.inr (Or.inr (Or.inl rfl))) ?_)
    by_cases l2 : ln 2 = -1
    · rw [if_pos (Or.inr l2)] at h
      exact am_f (am_bp (p.1.trans l2)) (h I L hC)
    · rw [if_neg (by rintro (z | z); exact l1 z; exact l2 z)] at h
      refine am_t (am_bn (fun z => l2 (p.1.symm.trans z))) ?_
      by_cases l3 : ln 3 = ln 2
      · rw [if_neg (fun z => z l3)] at h
        refine am_t (show I 32 1 = I 30 1 from q.1.trans (l3.trans p.1.symm)) (And.intro (Or.inr (Or.inr (Or.inr rfl))) ?_)
        rw [am_has zs (q.2.1 l1)]
        have br := @o_bars_ran ln sz 3 (ln 2) i n l1 l3
        have cr := @o_bars_ran ln sz 2 (ln 3) j n l2 l3.symm
        by_cases hi : 0 ≤ i.toInt ∧ 0 ≤ n.toInt ∧ i.toInt + n.toInt ≤ (sz 3 : Int)
        · refine am_f (am_bp hi) (And.intro (Or.inr (Or.inr (Or.inl rfl))) ?_)
          rw [am_has zt (p.2.1 l2)]
          by_cases hj : 0 ≤ j.toInt ∧ 0 ≤ n.toInt ∧ j.toInt + n.toInt ≤ (sz 2 : Int)
          · rw [if_neg (by rintro (z | z); exact z (br.mpr hi); exact z (cr.mpr hj))] at h
            have ci := am_clp hi.1
            have cj := am_clp hj.1
            have cn := am_clp hi.2.1
            have bi : i.toNatClampNeg + n.toNatClampNeg ≤ 24 := by omega
            have bj : j.toNatClampNeg + n.toNatClampNeg ≤ 24 := by omega
            refine am_nt (am_bp hj) (And.intro (am_n0 hi.1) (And.intro (am_n0 hj.1) (And.intro (am_n0 hi.2.1) (And.intro bi (And.intro bj ?_)))))
            show post (some (.int n)) I (am_cpj L 33 31 i.toNatClampNeg j.toNatClampNeg n.toNatClampNeg)
            refine h _ _ (CR_sh (s := 2) hC (by omega) (fun _ _ => rfl) (fun c hc => am_cpj_o hc) (hV.2.2.2.2 2 (by omega)) (fun u hu => ⟨rfl, rfl, o_upd_n hu⟩) p.1 p.2.1 (fun k hk => ?_))
            rw [o_upd_e, am_cpj_r]
            unfold o_cpy
            by_cases e : j.toNatClampNeg ≤ k ∧ k < j.toNatClampNeg + n.toNatClampNeg
            · rw [if_pos ⟨rfl, e⟩, if_pos e]; exact q.2.2 _ (by omega)
            · rw [if_neg (fun z => e z.2), if_neg e]; exact p.2.2 k hk
          · rw [if_pos (Or.inr (fun z => hj (cr.mp z)))] at h
            exact am_nf (am_bn hj) (h I L hC)
        · rw [if_pos (Or.inl (fun z => hi (br.mp z)))] at h
          exact am_t (am_bn hi) (h I L hC)
      · rw [if_pos l3] at h
        exact am_f (show ¬ I 32 1 = I 30 1 from fun z => l3 (q.1.symm.trans (z.trans p.1))) (h I L hC)
set_option maxRecDepth 100000 in
set_option maxHeartbeats 4000000 in
theorem am_copy_3_3 {I : am_I} {L : am_J} {post : am_Po} {G2 : am_G} (hG2 : ∀ (cuts : List (Nat × List Nat)) (n pc : Nat) (ls : am_Lv) (st : List Value) (I : am_I) (L : am_J), am_ev am_SX sp_RP_copy false post k_RP_copy cuts G2 n pc ls st I L → G2 pc ls st I L) {i j n : Int32} {G K : Nat → Nat} {hk : Bool} {tn : Nat} {tt : Nat → Nat} {ln : Nat → Int32} {sz : Nat → Nat} {it : Nat → Nat → Int64}
    (hs : 0 ≤ nI 3 ∧ nI 3 < 4) (ht : 0 ≤ nI 3 ∧ nI 3 < 4) (hC : CR I L (G, K, hk, tn, tt, ln, sz, it)) (h : ∀ (I2 : am_I) (L2 : am_J), CR I2 L2 (o_copy (G, K, hk, tn, tt, ln, sz, it) (nI 3) i (nI 3) j n).2 → post (some (.int (o_copy (G, K, hk, tn, tt, ln, sz, it) (nI 3) i (nI 3) j n).1)) I2 L2) : G2 0 (am_ent [.ref 0, .int (nI 3), .int i, .int (nI 3), .int j, .int n] 8) [] I L := by
  obtain ⟨hV, hR, hKr, hk7, hT, hS, hSh⟩ := id hC
  dsimp only [o_copy] at h
  rw [if_neg (by rintro (q | q); exact q hs; exact q ht), nI_clamp (n := 3) (by omega)] at h
  have q : I 32 1 = ln 3 ∧ (¬ ln 3 = -1 → I 32 2 = nI (sz 3)) ∧ ∀ j, j < 24 → L 33 j = it 3 j := hSh 3 (by omega)
  have p : I 32 1 = ln 3 ∧ (¬ ln 3 = -1 → I 32 2 = nI (sz 3)) ∧ ∀ j, j < 24 → L 33 j = it 3 j := hSh 3 (by omega)
  have zs := (hV.2.2.2.2 3 (by omega)).2
  have zt := (hV.2.2.2.2 3 (by omega)).2
  refine hG2 [] 100 0 _ _ _ _ (am_f (am_bp hs) (am_nt (am_bp ht) (And.intro (am_vin (N := 4) (n := 3) (by omega) rfl) (And.intro rfl (And.intro (by decide) (am_alS (s := 3) (o := 32) (by omega) rfl (And.intro (am_vin (N := 4) (n := 3) (by omega) rfl) (And.intro rfl (And.intro (by decide) (am_alS (s := 3) (o := 32) (by omega) rfl (And.intro (Or.inr (Or.inr (Or.inr rfl))) ?_)))))))))))
  by_cases l1 : ln 3 = -1
  · rw [if_pos (Or.inl l1)] at h
    exact am_nt (am_bp (q.1.trans l1)) (h I L hC)
  · refine am_nf (am_bn (fun z => l1 (q.1.symm.trans z))) (And.intro (Or.inr (Or.inr (Or.inr rfl))) ?_)
    by_cases l2 : ln 3 = -1
    · rw [if_pos (Or.inr l2)] at h
      exact am_f (am_bp (p.1.trans l2)) (h I L hC)
    · rw [if_neg (by rintro (z | z); exact l1 z; exact l2 z)] at h
      refine am_t (am_bn (fun z => l2 (p.1.symm.trans z))) ?_
      by_cases l3 : ln 3 = ln 3
      · rw [if_neg (fun z => z l3)] at h
        refine am_t (show I 32 1 = I 32 1 from q.1.trans (l3.trans p.1.symm)) (And.intro (Or.inr (Or.inr (Or.inr rfl))) ?_)
        rw [am_has zs (q.2.1 l1)]
        have br := @o_bars_ran ln sz 3 (ln 3) i n l1 l3
        have cr := @o_bars_ran ln sz 3 (ln 3) j n l2 l3.symm
        by_cases hi : 0 ≤ i.toInt ∧ 0 ≤ n.toInt ∧ i.toInt + n.toInt ≤ (sz 3 : Int)
        · refine am_f (am_bp hi) (And.intro (Or.inr (Or.inr (Or.inr rfl))) ?_)
          rw [am_has zt (p.2.1 l2)]
          by_cases hj : 0 ≤ j.toInt ∧ 0 ≤ n.toInt ∧ j.toInt + n.toInt ≤ (sz 3 : Int)
          · rw [if_neg (by rintro (z | z); exact z (br.mpr hi); exact z (cr.mpr hj))] at h
            have ci := am_clp hi.1
            have cj := am_clp hj.1
            have cn := am_clp hi.2.1
            have bi : i.toNatClampNeg + n.toNatClampNeg ≤ 24 := by omega
            have bj : j.toNatClampNeg + n.toNatClampNeg ≤ 24 := by omega
            refine am_nt (am_bp hj) (And.intro (am_n0 hi.1) (And.intro (am_n0 hj.1) (And.intro (am_n0 hi.2.1) (And.intro bi (And.intro bj ?_)))))
            show post (some (.int n)) I (am_cpj L 33 33 i.toNatClampNeg j.toNatClampNeg n.toNatClampNeg)
            refine h _ _ (CR_sh (s := 3) hC (by omega) (fun _ _ => rfl) (fun c hc => am_cpj_o hc) (hV.2.2.2.2 3 (by omega)) (fun u hu => ⟨rfl, rfl, o_upd_n hu⟩) p.1 p.2.1 (fun k hk => ?_))
            rw [o_upd_e, am_cpj_r]
            unfold o_cpy
            by_cases e : j.toNatClampNeg ≤ k ∧ k < j.toNatClampNeg + n.toNatClampNeg
            · rw [if_pos ⟨rfl, e⟩, if_pos e]; exact q.2.2 _ (by omega)
            · rw [if_neg (fun z => e z.2), if_neg e]; exact p.2.2 k hk
          · rw [if_pos (Or.inr (fun z => hj (cr.mp z)))] at h
            exact am_nf (am_bn hj) (h I L hC)
        · rw [if_pos (Or.inl (fun z => hi (br.mp z)))] at h
          exact am_t (am_bn hi) (h I L hC)
      · rw [if_pos l3] at h
        exact am_f (show ¬ I 32 1 = I 32 1 from fun z => l3 (q.1.symm.trans (z.trans p.1))) (h I L hC)
set_option maxRecDepth 100000 in
set_option maxHeartbeats 4000000 in
theorem ok_RP_copy : am_Ok am_SX sp_RP_copy false k_RP_copy 8 T_RP_copy := by
  intro vs I L post h
  unfold T_RP_copy at h
  split at h
  · rename_i o s i t j n
    obtain ⟨rfl, A, hC, h⟩ := h
    refine ⟨Nat.le_of_ble_eq_true rfl, fun G2 hG2 => ?_⟩
    obtain ⟨G, K, hk, tn, tt, ln, sz, it⟩ := A
    obtain ⟨hV, hR, hKr, hk7, hT, hS, hSh⟩ := id hC
    by_cases hs : 0 ≤ s ∧ s < 4
    · by_cases ht : 0 ≤ t ∧ t < 4
      · obtain ⟨x, hx, rfl⟩ := am_rng (n := 4) (by omega) hs.1 hs.2
        obtain ⟨y, hy, rfl⟩ := am_rng (n := 4) (by omega) ht.1 ht.2
        rcases (show x = 0 ∨ x = 1 ∨ x = 2 ∨ x = 3 by omega) with rfl | rfl | rfl | rfl
        · rcases (show y = 0 ∨ y = 1 ∨ y = 2 ∨ y = 3 by omega) with rfl | rfl | rfl | rfl
          · exact am_copy_0_0 hG2 hs ht hC h
          · exact am_copy_0_1 hG2 hs ht hC h
          · exact am_copy_0_2 hG2 hs ht hC h
          · exact am_copy_0_3 hG2 hs ht hC h
        · rcases (show y = 0 ∨ y = 1 ∨ y = 2 ∨ y = 3 by omega) with rfl | rfl | rfl | rfl
          · exact am_copy_1_0 hG2 hs ht hC h
          · exact am_copy_1_1 hG2 hs ht hC h
          · exact am_copy_1_2 hG2 hs ht hC h
          · exact am_copy_1_3 hG2 hs ht hC h
        · rcases (show y = 0 ∨ y = 1 ∨ y = 2 ∨ y = 3 by omega) with rfl | rfl | rfl | rfl
          · exact am_copy_2_0 hG2 hs ht hC h
          · exact am_copy_2_1 hG2 hs ht hC h
          · exact am_copy_2_2 hG2 hs ht hC h
          · exact am_copy_2_3 hG2 hs ht hC h
        · rcases (show y = 0 ∨ y = 1 ∨ y = 2 ∨ y = 3 by omega) with rfl | rfl | rfl | rfl
          · exact am_copy_3_0 hG2 hs ht hC h
          · exact am_copy_3_1 hG2 hs ht hC h
          · exact am_copy_3_2 hG2 hs ht hC h
          · exact am_copy_3_3 hG2 hs ht hC h
      · dsimp only [o_copy] at h
        rw [if_pos (Or.inr ht)] at h
        exact hG2 [] 100 0 _ _ _ _ (am_f (am_bp hs) (am_nf (am_bn ht) (h I L hC)))
    · dsimp only [o_copy] at h
      rw [if_pos (Or.inl hs)] at h
      exact hG2 [] 100 0 _ _ _ _ (am_t (am_bn hs) (h I L hC))
  · exact h.elim
end
section
/-! THE CLASS: whole journeys -/
/-- the step at which a journey has ended -/
def g_T (G : Nat → Nat) (kind snow stones f : Nat) : Nat := g_lk (fun i => !decide (g_end G (g_S G kind snow stones f) i = 3)) 32769 0
theorem g_T_spec {G : Nat → Nat} {kind snow stones f : Nat} (hX : JX G kind stones f) : g_T G kind snow stones f ≤ 32768 ∧ ¬ g_end G (g_S G kind snow stones f) (g_T G kind snow stones f) = 3 ∧ ∀ j, j < g_T G kind snow stones f → g_end G (g_S G kind snow stones f) j = 3 := by
  rcases g_lk_spec (fun i => !decide (g_end G (g_S G kind snow stones f) i = 3)) 32769 0 with ⟨_, h⟩ | ⟨_, h2, h3, h4⟩
  · have := g_S_bound (snow := snow) (i := 32769) hX (fun j hj => by simpa using h j (by omega) (by omega))
    omega
  · unfold g_T
    exact ⟨by omega, by simpa using h3, fun j hj => by simpa using h4 j (by omega) hj⟩
theorem g_T_of {G : Nat → Nat} {kind snow stones f n : Nat} (hX : JX G kind stones f) (h1 : ¬ g_end G (g_S G kind snow stones f) n = 3) (h2 : ∀ j, j < n → g_end G (g_S G kind snow stones f) j = 3) : n = g_T G kind snow stones f := by
  obtain ⟨_, a, b⟩ := g_T_spec (snow := snow) hX
  rcases Nat.lt_trichotomy n (g_T G kind snow stones f) with z | z | z
  · exact absurd (b n z) h1
  · exact z
  · exact absurd (h2 _ z) a
/-- how far one gets in n steps -/
theorem g_T_min {G : Nat → Nat} {kind snow stones f n i : Nat} (hX : JX G kind stones f) (h2 : ∀ j, j < i → g_end G (g_S G kind snow stones f) j = 3) (hi : i ≤ n) (h : i = n ∨ ¬ g_end G (g_S G kind snow stones f) i = 3) : i = if g_T G kind snow stones f < n then g_T G kind snow stones f else n := by
  obtain ⟨_, a, b⟩ := g_T_spec (snow := snow) hX
  split
  · rename_i z
    rcases h with e | e
    · exact absurd (h2 _ (by omega)) a
    · exact g_T_of hX e h2
  · rename_i z
    rcases h with e | e
    · exact e
    · have := g_T_of hX e h2; omega
theorem JX_of {G : Nat → Nat} (h : WG G) {kind f : Nat} (hk : kind < 4) (hf : f < 8) : JX G kind (G 26) f := ⟨h, hk, fun _ q => q, hf⟩
def o_walk : am_A → Int32 → Int32 → Int32 → Int32 × am_A
  | (G, R), kind, f, what => if ¬ (0 ≤ kind ∧ kind < 4) ∨ ¬ (0 ≤ f ∧ f < 8) ∨ ¬ (0 ≤ what ∧ what < 3) then (-1, (G, R)) else ((if what = 0 then nI (g_T G kind.toNatClampNeg (G 44) (G 26) f.toNatClampNeg) else if what = 1 then nI (g_end G (g_S G kind.toNatClampNeg (G 44) (G 26) f.toNatClampNeg) (g_T G kind.toNatClampNeg (G 44) (G 26) f.toNatClampNeg)) else nI (g_S G kind.toNatClampNeg (G 44) (G 26) f.toNatClampNeg (g_T G kind.toNatClampNeg (G 44) (G 26) f.toNatClampNeg)).1), (G, R))
def o_at : am_A → Int32 → Int32 → Int32 → Int32 × am_A
  | (G, R), kind, f, n => if ¬ (0 ≤ kind ∧ kind < 4) ∨ ¬ (0 ≤ f ∧ f < 8) ∨ n < 0 ∨ 99 < n then (-1, (G, R)) else if g_T G kind.toNatClampNeg (G 44) (G 26) f.toNatClampNeg < n.toNatClampNeg then (-4, (G, R)) else (nI (g_S G kind.toNatClampNeg (G 44) (G 26) f.toNatClampNeg n.toNatClampNeg).1, (G, R))
def o_shut : am_A → Int32 → Int32 → Int32 × am_A
  | (G, R), kind, f => if ¬ (0 ≤ kind ∧ kind < 4) ∨ ¬ (0 ≤ f ∧ f < 8) then (-1, (G, R)) else (nI (g_S G kind.toNatClampNeg (G 44) (G 26) f.toNatClampNeg (g_T G kind.toNatClampNeg (G 44) (G 26) f.toNatClampNeg)).2, (G, R))
def T_RP_travel : am_Sp := fun vs I L post => match vs with
  | [.ref o, .int x, .int y, .int z] => o = 0 ∧ ∃ A kind f n, kind < 4 ∧ f < 8 ∧ CR I L A ∧ x = nI kind ∧ y = nI f ∧ z = nI n ∧ n < 2147483647 ∧ ∀ (I2 : am_I) (L2 : am_J), JS I2 L2 A.1 kind (A.1 44) (A.1 26) f (if g_T A.1 kind (A.1 44) (A.1 26) f < n then g_T A.1 kind (A.1 44) (A.1 26) f else n) → CR I2 L2 A → post none I2 L2
  | _ => False
def sp_RP_travel : Nat → am_Sp := fun i => match i with
  | 227 => T_JN_begin
  | 231 => T_JN_goOn
  | _ => am_no
set_option maxRecDepth 100000 in
theorem ok_RP_travel : am_Ok am_SX sp_RP_travel false k_RP_travel 4 T_RP_travel := by
  intro vs I L post h
  unfold T_RP_travel at h
  split at h
  · rename_i o x y z
    obtain ⟨rfl, A, kind, f, n, hk4, hf8, hC, rfl, rfl, rfl, hn, h⟩ := h
    refine ⟨Nat.le_of_ble_eq_true rfl, fun G2 hG2 => ?_⟩
    obtain ⟨G, K, hk, tn, tt, ln, sz, it⟩ := A
    obtain ⟨hV, hR, hKr, hk7, hT, ⟨V, hS⟩, hSh⟩ := id hC
    have hX : JX G kind (G 26) f := JX_of hV.1 hk4 hf8
    refine hG2 [] 100 0 _ _ _ _ (And.intro (rfl) (And.intro (rfl) (Exists.intro (G) (Exists.intro (kind) (Exists.intro (G 44) (Exists.intro (G 26) (Exists.intro (f) (Exists.intro (V) (And.intro (hX) (And.intro (hR) (And.intro (rfl) (And.intro (rfl) (And.intro (hR.2.2.1) (And.intro (hR.2.2.2.1) (And.intro (hS) (fun I1 L1 hj1 hf1 => ?_))))))))))))))))
    refine (And.intro (rfl) (And.intro (rfl) (Exists.intro (G) (Exists.intro (kind) (Exists.intro (G 44) (Exists.intro (G 26) (Exists.intro (f) (Exists.intro (0) (Exists.intro (n) (And.intro (hX) (And.intro (FJ_RC hf1 (by omega) hR) (And.intro (rfl) (And.intro (show 0 + n < 2147483647 by omega) (And.intro (hj1) (fun i2 I2 L2 hi1 hi2 hi3 hj2 hf2 => ?_)))))))))))))))
    have hp : ∀ j, j < i2 → g_end G (g_S G kind (G 44) (G 26) f) j = 3 := hj2.2.2.2.2.2.2.2.2.2.2
    have e := g_T_min hX hp (show i2 ≤ n by omega) (by rcases hi3 with q | q; exact Or.inl (by omega); exact Or.inr q)
    rw [e] at hj2
    exact h I2 L2 hj2 (CR_FJ hC (FJ_tr hf1 hf2) ⟨_, hj2.2.2.2.2.2.2.2.2.2.1⟩)
  · exact h.elim
def T_RP_walk : am_Sp := fun vs I L post => match vs with
  | [.ref o, .int x, .int y, .int z] => o = 0 ∧ ∃ A, CR I L A ∧ ∀ (I2 : am_I) (L2 : am_J), CR I2 L2 (o_walk A x y z).2 → post (some (.int (o_walk A x y z).1)) I2 L2
  | _ => False
def sp_RP_walk : Nat → am_Sp := fun i => match i with
  | 47 => T_RP_isPlace
  | 103 => T_RP_isFrom0
  | 140 => T_RP_isKind
  | 144 => T_RP_travel
  | _ => am_no
set_option maxRecDepth 100000 in
set_option maxHeartbeats 4000000 in
theorem ok_RP_walk : am_Ok am_SX sp_RP_walk false k_RP_walk 4 T_RP_walk := by
  intro vs I L post h
  unfold T_RP_walk at h
  split at h
  · rename_i o x y z
    obtain ⟨rfl, A, hC, h⟩ := h
    refine ⟨Nat.le_of_ble_eq_true rfl, fun G2 hG2 => ?_⟩
    obtain ⟨G, K, hk, tn, tt, ln, sz, it⟩ := A
    obtain ⟨hV, hR, hKr, hk7, hT, hS, hSh⟩ := id hC
    have hW : WG G := hV.1
    have h12 := hW.1
    dsimp only [o_walk] at h
    by_cases hx : 0 ≤ x ∧ x < 4
    · by_cases hy : 0 ≤ y ∧ y < 8
      · by_cases hz : 0 ≤ z ∧ z < 3
        · rw [if_neg (by rintro (q | q | q); exact q hx; exact q hy; exact q hz)] at h
          obtain ⟨kind, hk4, rfl⟩ := am_rng (n := 4) (by omega) hx.1 hx.2
          obtain ⟨f, hf8, rfl⟩ := am_rng (n := 8) (by omega) hy.1 hy.2
          rw [nI_clamp (by omega), nI_clamp (by omega)] at h
          refine hG2 [] 100 0 _ _ _ _ (am_f (am_bp hx) (am_f (am_bp hy) (am_nt (am_bp hz) (And.intro (rfl) (Exists.intro ((G, K, hk, tn, tt, ln, sz, it)) (Exists.intro (kind) (Exists.intro (f) (Exists.intro (32768) (And.intro (hk4) (And.intro (hf8) (And.intro (hC) (And.intro (rfl) (And.intro (rfl) (And.intro (rfl) (And.intro (by omega) (fun I2 L2 hj hC2 => ?_))))))))))))))))
          dsimp only at hj
          have ht := (g_T_spec (snow := G 44) (JX_of hW hk4 hf8)).1
          have e : (if g_T G kind (G 44) (G 26) f < 32768 then g_T G kind (G 44) (G 26) f else 32768) = g_T G kind (G 44) (G 26) f := by split <;> omega
          rw [e] at hj
          obtain ⟨j1, j2, j3, j4, j6, j7, j8, jn, j5, jsc, jp⟩ := hj
          refine And.intro (fun q => ?_) (fun q0 => And.intro (fun q => ?_) (fun q1 => ?_))
          · have hz0 : z = 0 := q
            rw [if_pos hz0] at h
            show post (some (.int (I2 21 6))) I2 L2
            rw [j6]; exact h I2 L2 hC2
          · have hz1 : z = 1 := q
            subst hz1
            rw [if_neg (by decide), if_pos rfl] at h
            show post (some (.int (I2 21 7))) I2 L2
            rw [j7]; exact h I2 L2 hC2
          · have p0 : ¬ z = 0 := q0
            have p1 : ¬ z = 1 := q1
            rw [if_neg p0, if_neg p1] at h
            show post (some (.int (I2 21 4))) I2 L2
            rw [j4]; exact h I2 L2 hC2
        · rw [if_pos (Or.inr (Or.inr hz))] at h
          exact hG2 [] 100 0 _ _ _ _ (am_f (am_bp hx) (am_f (am_bp hy) (am_nf (am_bn hz) (h I L hC))))
      · rw [if_pos (Or.inr (Or.inl hy))] at h
        exact hG2 [] 100 0 _ _ _ _ (am_f (am_bp hx) (am_t (am_bn hy) (h I L hC)))
    · rw [if_pos (Or.inl hx)] at h
      exact hG2 [] 100 0 _ _ _ _ (am_t (am_bn hx) (h I L hC))
  · exact h.elim
def T_RP_at : am_Sp := fun vs I L post => match vs with
  | [.ref o, .int x, .int y, .int z] => o = 0 ∧ ∃ A, CR I L A ∧ ∀ (I2 : am_I) (L2 : am_J), CR I2 L2 (o_at A x y z).2 → post (some (.int (o_at A x y z).1)) I2 L2
  | _ => False
def sp_RP_at : Nat → am_Sp := fun i => match i with
  | 47 => T_RP_isPlace
  | 140 => T_RP_isKind
  | 144 => T_RP_travel
  | _ => am_no
set_option maxRecDepth 100000 in
set_option maxHeartbeats 4000000 in
theorem ok_RP_at : am_Ok am_SX sp_RP_at false k_RP_at 4 T_RP_at := by
  intro vs I L post h
  unfold T_RP_at at h
  split at h
  · rename_i o x y z
    obtain ⟨rfl, A, hC, h⟩ := h
    refine ⟨Nat.le_of_ble_eq_true rfl, fun G2 hG2 => ?_⟩
    obtain ⟨G, K, hk, tn, tt, ln, sz, it⟩ := A
    obtain ⟨hV, hR, hKr, hk7, hT, hS, hSh⟩ := id hC
    have hW : WG G := hV.1
    have h12 := hW.1
    dsimp only [o_at] at h
    by_cases hx : 0 ≤ x ∧ x < 4
    · by_cases hy : 0 ≤ y ∧ y < 8
      · by_cases hz : z < 0
        · rw [if_pos (Or.inr (Or.inr (Or.inl hz)))] at h
          exact hG2 [] 100 0 _ _ _ _ (am_f (am_bp hx) (am_f (am_bp hy) (am_t hz (h I L hC))))
        · by_cases hz2 : 99 < z
          · rw [if_pos (Or.inr (Or.inr (Or.inr hz2)))] at h
            exact hG2 [] 100 0 _ _ _ _ (am_f (am_bp hx) (am_f (am_bp hy) (am_f hz (am_nf hz2 (h I L hC)))))
          · rw [if_neg (by rintro (q | q | q | q); exact q hx; exact q hy; exact hz q; exact hz2 q)] at h
            obtain ⟨kind, hk4, rfl⟩ := am_rng (n := 4) (by omega) hx.1 hx.2
            obtain ⟨f, hf8, rfl⟩ := am_rng (n := 8) (by omega) hy.1 hy.2
            obtain ⟨n, hn, rfl⟩ := am_rng (n := 100) (by omega) (Int32.not_lt.mp hz) (Int32.lt_of_le_of_lt (Int32.not_lt.mp hz2) (by decide))
            have cn : (nI n).toNatClampNeg = n := nI_clamp (by omega)
            rw [nI_clamp (by omega), nI_clamp (by omega), cn] at h
            refine hG2 [] 100 0 _ _ _ _ (am_f (am_bp hx) (am_f (am_bp hy) (am_f hz (am_nt hz2 (And.intro (rfl) (Exists.intro ((G, K, hk, tn, tt, ln, sz, it)) (Exists.intro (kind) (Exists.intro (f) (Exists.intro (n) (And.intro (hk4) (And.intro (hf8) (And.intro (hC) (And.intro (rfl) (And.intro (rfl) (And.intro (rfl) (And.intro (by omega) (fun I2 L2 hj hC2 => ?_)))))))))))))))))
            dsimp only at hj
            have ht := (g_T_spec (snow := G 44) (JX_of hW hk4 hf8)).1
            obtain ⟨j1, j2, j3, j4, j6, j7, j8, jn, j5, jsc, jp⟩ := hj
            by_cases hlt : g_T G kind (G 44) (G 26) f < n
            · rw [if_pos hlt] at h j6
              refine am_nf (by rw [j6]; exact nI_lt hlt (by omega)) (h I2 L2 hC2)
            · rw [if_neg hlt] at h j6 j4
              refine am_nt (by rw [j6]; exact nI_nlt (Nat.le_refl n) (by omega)) ?_
              show post (some (.int (I2 21 4))) I2 L2
              rw [j4]; exact h I2 L2 hC2
      · rw [if_pos (Or.inr (Or.inl hy))] at h
        exact hG2 [] 100 0 _ _ _ _ (am_f (am_bp hx) (am_t (am_bn hy) (h I L hC)))
    · rw [if_pos (Or.inl hx)] at h
      exact hG2 [] 100 0 _ _ _ _ (am_t (am_bn hx) (h I L hC))
  · exact h.elim
def T_RP_shut : am_Sp := fun vs I L post => match vs with
  | [.ref o, .int x, .int y] => o = 0 ∧ ∃ A, CR I L A ∧ ∀ (I2 : am_I) (L2 : am_J), CR I2 L2 (o_shut A x y).2 → post (some (.int (o_shut A x y).1)) I2 L2
  | _ => False
def sp_RP_shut : Nat → am_Sp := fun i => match i with
  | 47 => T_RP_isPlace
  | 140 => T_RP_isKind
  | 144 => T_RP_travel
  | _ => am_no
set_option maxRecDepth 100000 in
set_option maxHeartbeats 4000000 in
theorem ok_RP_shut : am_Ok am_SX sp_RP_shut false k_RP_shut 3 T_RP_shut := by
  intro vs I L post h
  unfold T_RP_shut at h
  split at h
  · rename_i o x y
    obtain ⟨rfl, A, hC, h⟩ := h
    refine ⟨Nat.le_of_ble_eq_true rfl, fun G2 hG2 => ?_⟩
    obtain ⟨G, K, hk, tn, tt, ln, sz, it⟩ := A
    obtain ⟨hV, hR, hKr, hk7, hT, hS, hSh⟩ := id hC
    have hW : WG G := hV.1
    have h12 := hW.1
    dsimp only [o_shut] at h
    by_cases hx : 0 ≤ x ∧ x < 4
    · by_cases hy : 0 ≤ y ∧ y < 8
      · rw [if_neg (by rintro (q | q); exact q hx; exact q hy)] at h
        obtain ⟨kind, hk4, rfl⟩ := am_rng (n := 4) (by omega) hx.1 hx.2
        obtain ⟨f, hf8, rfl⟩ := am_rng (n := 8) (by omega) hy.1 hy.2
        rw [nI_clamp (by omega), nI_clamp (by omega)] at h
        refine hG2 [] 100 0 _ _ _ _ (am_f (am_bp hx) (am_nt (am_bp hy) (And.intro (rfl) (Exists.intro ((G, K, hk, tn, tt, ln, sz, it)) (Exists.intro (kind) (Exists.intro (f) (Exists.intro (32768) (And.intro (hk4) (And.intro (hf8) (And.intro (hC) (And.intro (rfl) (And.intro (rfl) (And.intro (rfl) (And.intro (by omega) (fun I2 L2 hj hC2 => ?_)))))))))))))))
        dsimp only at hj
        have ht := (g_T_spec (snow := G 44) (JX_of hW hk4 hf8)).1
        have e : (if g_T G kind (G 44) (G 26) f < 32768 then g_T G kind (G 44) (G 26) f else 32768) = g_T G kind (G 44) (G 26) f := by split <;> omega
        rw [e] at hj
        show post (some (.int (I2 21 8))) I2 L2
        rw [hj.2.2.2.2.2.2.1]
        exact h I2 L2 hC2
      · rw [if_pos (Or.inr hy)] at h
        exact hG2 [] 100 0 _ _ _ _ (am_f (am_bp hx) (am_nf (am_bn hy) (h I L hC)))
    · rw [if_pos (Or.inl hx)] at h
      exact hG2 [] 100 0 _ _ _ _ (am_t (am_bn hx) (h I L hC))
  · exact h.elim
end
section
/-! THE CLASS: which stones may be struck -/
def g_dif (a b : Nat) : Nat := a ^^^ (a &&& b)
theorem g_dif_t (a b i : Nat) : (g_dif a b).testBit i = (a.testBit i && !b.testBit i) := by
  unfold g_dif
  rw [Nat.testBit_xor, Nat.testBit_and]
  cases a.testBit i <;> cases b.testBit i <;> rfl
theorem g_dif_I (a b : Nat) : nI a &&& (nI b ^^^ (-1)) = nI (g_dif a b) := by
  apply b_ext
  intro i hi
  rw [b_and, bt_not hi, bt_nI _ _ hi, bt_nI _ _ hi, bt_nI _ _ hi, g_dif_t]
theorem g_dif_lt {a b n : Nat} (h : a < 2 ^ n) : g_dif a b < 2 ^ n := by
  apply Nat.lt_pow_two_of_testBit
  intro i hi
  rw [g_dif_t, Nat.testBit_lt_two_pow (Nat.lt_of_lt_of_le h (Nat.pow_le_pow_right (by omega) hi))]
  rfl
theorem g_dif_0 {a b : Nat} : g_dif a b = 0 ↔ ∀ i, a.testBit i = true → b.testBit i = true := by
  constructor
  · intro h i hi
    have := g_dif_t a b i
    rw [h, hi] at this
    simpa using this
  · intro h
    apply Nat.eq_of_testBit_eq
    intro i
    rw [g_dif_t, Nat.zero_testBit]
    cases e : a.testBit i with
    | false => rfl
    | true => rw [h i e]; rfl
theorem g_pc_mono {a b : Nat} (h : ∀ i, a.testBit i = true → b.testBit i = true) : ∀ n, g_pc a n ≤ g_pc b n := by
  intro n
  induction n with
  | zero => exact Nat.le_refl _
  | succ n ih =>
    simp only [g_pc]
    cases e : a.testBit n with
    | false => simp; omega
    | true => rw [h n e]; simp; omega
theorem g_pc_le (m : Nat) : ∀ n, g_pc m n ≤ n := by
  intro n
  induction n with
  | zero => exact Nat.le_refl _
  | succ n ih =>
    simp only [g_pc]
    split <;> omega
/-- a set of stones without which the journey ends as told -/
def g_sp (G : Nat → Nat) (kind f : Nat) (hm : Bool) (m : Nat) : Bool := decide (g_dif m (G 26) = 0) && (decide (g_end G (g_S G kind (G 44) (g_dif (G 26) m) f) (g_T G kind (G 44) (g_dif (G 26) m) f) = 0) == hm)
def o_struck : am_A → Int32 → Int32 → Int32 → Int32 × am_A
  | (G, R), kind, f, hm => if ¬ (0 ≤ kind ∧ kind < 4) ∨ ¬ (0 ≤ f ∧ f < 8) ∨ ¬ (0 ≤ hm ∧ hm < 2) then (-1, (G, R)) else ((match g_ch (fun m => g_pc m 12) (g_sp G kind.toNatClampNeg f.toNatClampNeg (decide (hm = 1))) 256 with
    | some m => nI m
    | none => -4), (G, R))
theorem JX_dif {G : Nat → Nat} (h : WG G) {kind f m : Nat} (hk : kind < 4) (hf : f < 8) : JX G kind (g_dif (G 26) m) f := ⟨h, hk, fun q hq => by
  rw [g_dif_t] at hq
  simp only [Bool.and_eq_true] at hq
  exact hq.1, hf⟩
def T_RP_struckOfSize : am_Sp := fun vs I L post => match vs with
  | [.ref o, .int x, .int y, .int z, .int u] => o = 0 ∧ ∃ A kind f n hm, kind < 4 ∧ f < 8 ∧ CR I L A ∧ x = nI kind ∧ y = nI f ∧ z = am_b (hm = true) ∧ u = nI n ∧ n < 2147483647 ∧ ∀ (v : Int32) (I2 : am_I) (L2 : am_J), ((∃ m, m < 256 ∧ g_sp A.1 kind f hm m = true ∧ g_pc m 12 = n ∧ (∀ q, q < m → g_sp A.1 kind f hm q = true → ¬ g_pc q 12 = n) ∧ v = nI m) ∨ ((∀ q, q < 256 → g_sp A.1 kind f hm q = true → ¬ g_pc q 12 = n) ∧ v = -1)) → CR I2 L2 A → post (some (.int v)) I2 L2
  | _ => False
def sp_RP_struckOfSize : Nat → am_Sp := fun i => match i with
  | 91 => T_IN_bitCount
  | 227 => T_JN_begin
  | 231 => T_JN_goOn
  | _ => am_no
set_option maxRecDepth 100000 in
set_option maxHeartbeats 4000000 in
theorem ok_RP_struckOfSize : am_Ok am_SX sp_RP_struckOfSize false k_RP_struckOfSize 6 T_RP_struckOfSize := by
  intro vs I L post h
  unfold T_RP_struckOfSize at h
  split at h
  · rename_i o x y z u
    obtain ⟨rfl, A, kind, f, n, hm, hk4, hf8, hC, rfl, rfl, rfl, rfl, hn, h⟩ := h
    refine ⟨Nat.le_of_ble_eq_true rfl, fun G2 hG2 => ?_⟩
    have loop : ∀ d k (I1 : am_I) (L1 : am_J), 256 - k = d → k ≤ 256 → CR I1 L1 A → (∀ q, q < k → g_sp A.1 kind f hm q = true → ¬ g_pc q 12 = n) → G2 3 [some (.ref 0), some (.int (nI kind)), some (.int (nI f)), some (.int (am_b (hm = true))), some (.int (nI n)), some (.int (nI k))] [] I1 L1 := by
      intro d
      induction d with
      | zero =>
        intro k I1 L1 hd hk hC1 hq
        have e : k = 256 := by omega
        subst e
        exact hG2 [(3, [])] 100 3 _ _ _ _ (am_nt (am_nlt (Nat.le_refl 256) rfl) (h _ _ _ (Or.inr ⟨hq, rfl⟩) hC1))
      | succ d ih =>
        intro k I1 L1 hd hk hC1 hq
        obtain ⟨G, K, hk2, tn, tt, ln, sz, it⟩ := A
        obtain ⟨hV, hR1, hKr, hk7, hT, ⟨V1, hS1⟩, hSh⟩ := id hC1
        have hW : WG G := hV.1
        have h26 : G 26 < 2 ^ 8 := hW.2.2.2.2.2.2.1
        have hX : JX G kind (g_dif (G 26) k) f := JX_dif hW hk4 hf8
        have hr8 : I1 1 8 = nI (G 26) := hR1.2.2.2.1
        have hk256 : k < 256 := by omega
        -- the next set
        have next : ∀ (I3 : am_I) (L3 : am_J), CR I3 L3 (G, K, hk2, tn, tt, ln, sz, it) → ¬ (g_sp G kind f hm k = true ∧ g_pc k 12 = n) → G2 106 [some (.ref 0), some (.int (nI kind)), some (.int (nI f)), some (.int (am_b (hm = true))), some (.int (nI n)), some (.int (nI k))] [] I3 L3 := by
          intro I3 L3 hC3 hno
          refine hG2 [(3, [])] 100 106 _ _ _ _ ?_
          show G2 3 [some (.ref 0), some (.int (nI kind)), some (.int (nI f)), some (.int (am_b (hm = true))), some (.int (nI n)), some (.int (nI k + 1))] [] I3 L3
          rw [nI_1]
          refine ih (k + 1) I3 L3 (by omega) (by omega) hC3 (fun q hq1 hq2 => ?_)
          by_cases e : q = k
          · subst e; exact fun z => hno ⟨hq2, z⟩
          · exact hq q (by omega) hq2
        refine hG2 [(3, []), (106, [])] 100 3 _ _ _ _ (am_nf (am_lt hk256 rfl) ?_)
        show (¬ nI k &&& (I1 1 8 ^^^ (-1)) = 0 → _) ∧ (nI k &&& (I1 1 8 ^^^ (-1)) = 0 → _)
        rw [hr8, g_dif_I]
        have hdl : g_dif k (G 26) < 2 ^ 8 := g_dif_lt (n := 8) hk256
        by_cases h1 : g_dif k (G 26) = 0
        · refine am_nf (by rw [h1]; rfl) ?_
          show (f_bc (nI k) = nI n → _) ∧ (¬ f_bc (nI k) = nI n → _)
          rw [f_bc_nI k (by omega)]
          have hpl := g_pc_le k 12
          by_cases h2 : g_pc k 12 = n
          · refine am_t (by rw [h2]) (And.intro (rfl) (And.intro (rfl) (Exists.intro (G) (Exists.intro (kind) (Exists.intro (G 44) (Exists.intro (g_dif (G 26) k) (Exists.intro (f) (Exists.intro (V1) (And.intro (hX) (And.intro (hR1) (And.intro (rfl) (And.intro (rfl) (And.intro (hR1.2.2.1) (And.intro (by rw [hR1.2.2.2.1]; exact g_dif_I _ _) (And.intro (hS1) (fun I2 L2 hj1 hf1 => ?_))))))))))))))))
            refine (And.intro (rfl) (And.intro (rfl) (Exists.intro (G) (Exists.intro (kind) (Exists.intro (G 44) (Exists.intro (g_dif (G 26) k) (Exists.intro (f) (Exists.intro (0) (Exists.intro (32768) (And.intro (hX) (And.intro (FJ_RC hf1 (by omega) hR1) (And.intro (rfl) (And.intro (by omega) (And.intro (hj1) (fun i2 I3 L3 hi1 hi2 hi3 hj2 hf2 => ?_)))))))))))))))
            have hp : ∀ j, j < i2 → g_end G (g_S G kind (G 44) (g_dif (G 26) k) f) j = 3 := hj2.2.2.2.2.2.2.2.2.2.2
            have ht := g_T_spec (snow := G 44) hX
            have e := g_T_min hX hp (show i2 ≤ 32768 by omega) (by rcases hi3 with q | q; exact Or.inl (by omega); exact Or.inr q)
            have e2 : i2 = g_T G kind (G 44) (g_dif (G 26) k) f := by rw [e]; split <;> omega
            rw [e2] at hj2
            have h7 : I3 21 7 = nI (g_end G (g_S G kind (G 44) (g_dif (G 26) k) f) (g_T G kind (G 44) (g_dif (G 26) k) f)) := hj2.2.2.2.2.2.1
            have hC3 : CR I3 L3 (G, K, hk2, tn, tt, ln, sz, it) := CR_FJ hC1 (FJ_tr hf1 hf2) ⟨_, hj2.2.2.2.2.2.2.2.2.2.1⟩
            have h4 := g_end_lt G (g_S G kind (G 44) (g_dif (G 26) k) f) (g_T G kind (G 44) (g_dif (G 26) k) f)
            have hv : ∀ v : Int32, v = am_b (g_end G (g_S G kind (G 44) (g_dif (G 26) k) f) (g_T G kind (G 44) (g_dif (G 26) k) f) = 0) → (¬ v = am_b (hm = true) → G2 106 [some (.ref 0), some (.int (nI kind)), some (.int (nI f)), some (.int (am_b (hm = true))), some (.int (nI n)), some (.int (nI k))] [] I3 L3) ∧ (v = am_b (hm = true) → post (some (.int (nI k))) I3 L3) := by
              intro v hv
              have hiff : v = am_b (hm = true) ↔ g_sp G kind f hm k = true := by
                rw [hv]
                unfold g_sp
                rw [h1]
                cases hm <;> by_cases z : g_end G (g_S G kind (G 44) (g_dif (G 26) k) f) (g_T G kind (G 44) (g_dif (G 26) k) f) = 0 <;> simp [am_b, z]
              by_cases h3 : g_sp G kind f hm k = true
              · exact am_nf (hiff.mpr h3) (h _ _ _ (Or.inl ⟨k, hk256, h3, h2, hq, rfl⟩) hC3)
              · exact am_nt (fun z => h3 (hiff.mp z)) (next I3 L3 hC3 (fun z => h3 z.1))
            by_cases h3 : g_end G (g_S G kind (G 44) (g_dif (G 26) k) f) (g_T G kind (G 44) (g_dif (G 26) k) f) = 0
            · exact am_nf (by rw [h7, h3]; rfl) (hv 1 (am_b1 h3).symm)
            · exact am_nt (by rw [h7]; exact nI_ne0 (by omega) (by omega)) (hv 0 (am_b0 h3).symm)
          · exact am_f (fun z => h2 ((nI_eq (by omega) (by omega)).mp z)) (next I1 L1 hC1 (fun z => h2 z.2))
        · refine am_nt (nI_ne0 (by omega) (by omega)) (next I1 L1 hC1 (fun z => h1 ?_))
          have := z.1
          unfold g_sp at this
          simp only [Bool.and_eq_true, decide_eq_true_eq] at this
          exact this.1
    refine hG2 [(3, [])] 100 0 _ _ _ _ ?_
    exact loop 256 0 I L (by omega) (by omega) hC (fun q hq => by omega)
  · exact h.elim
def T_RP_struck : am_Sp := fun vs I L post => match vs with
  | [.ref o, .int x, .int y, .int z] => o = 0 ∧ ∃ A, CR I L A ∧ ∀ (I2 : am_I) (L2 : am_J), CR I2 L2 (o_struck A x y z).2 → post (some (.int (o_struck A x y z).1)) I2 L2
  | _ => False
def sp_RP_struck : Nat → am_Sp := fun i => match i with
  | 47 => T_RP_isPlace
  | 91 => T_IN_bitCount
  | 103 => T_RP_isFrom0
  | 140 => T_RP_isKind
  | 169 => T_RP_struckOfSize
  | _ => am_no
set_option maxRecDepth 100000 in
set_option maxHeartbeats 4000000 in
theorem ok_RP_struck : am_Ok am_SX sp_RP_struck false k_RP_struck 6 T_RP_struck := by
  intro vs I L post h
  unfold T_RP_struck at h
  split at h
  · rename_i o x y z
    obtain ⟨rfl, A, hC, h⟩ := h
    refine ⟨Nat.le_of_ble_eq_true rfl, fun G2 hG2 => ?_⟩
    obtain ⟨G, K, hk, tn, tt, ln, sz, it⟩ := A
    obtain ⟨hV, hR, hKr, hk7, hT, hS, hSh⟩ := id hC
    have hW : WG G := hV.1
    have h12 := hW.1
    dsimp only [o_struck] at h
    by_cases hx : 0 ≤ x ∧ x < 4
    · by_cases hy : 0 ≤ y ∧ y < 8
      · by_cases hz : 0 ≤ z ∧ z < 2
        · rw [if_neg (by rintro (q | q | q); exact q hx; exact q hy; exact q hz)] at h
          obtain ⟨kind, hk4, rfl⟩ := am_rng (n := 4) (by omega) hx.1 hx.2
          obtain ⟨f, hf8, rfl⟩ := am_rng (n := 8) (by omega) hy.1 hy.2
          rw [nI_clamp (by omega), nI_clamp (by omega)] at h
          refine hG2 [(27, [])] 100 0 _ _ _ _ (am_f (am_bp hx) (am_f (am_bp hy) (am_nt (am_bp hz) ?_)))
          have h26 : G 26 < 2 ^ 8 := hW.2.2.2.2.2.2.1
          have hpm := g_pc_le (G 26) 12
          have hfin : ∀ (I2 : am_I) (L2 : am_J), CR I2 L2 (G, K, hk, tn, tt, ln, sz, it) → g_ch (fun m => g_pc m 12) (g_sp G kind f (decide (z = 1))) 256 = none → post (some (.int (-4))) I2 L2 := fun I2 L2 hC2 e => by
            rw [e] at h; exact h I2 L2 hC2
          have hfin2 : ∀ (I2 : am_I) (L2 : am_J) (m : Nat), CR I2 L2 (G, K, hk, tn, tt, ln, sz, it) → g_ch (fun m => g_pc m 12) (g_sp G kind f (decide (z = 1))) 256 = some m → post (some (.int (nI m))) I2 L2 := fun I2 L2 m hC2 e => by
            rw [e] at h; exact h I2 L2 hC2
          have loop : ∀ d k (I1 : am_I) (L1 : am_J) (x5 : Option Value), g_pc (G 26) 12 + 1 - k = d → k ≤ g_pc (G 26) 12 + 1 → CR I1 L1 (G, K, hk, tn, tt, ln, sz, it) → (∀ q, q < 256 → g_sp G kind f (decide (z = 1)) q = true → k ≤ g_pc q 12) → G2 27 [some (.ref 0), some (.int (nI kind)), some (.int (nI f)), some (.int z), some (.int (nI k)), x5] [] I1 L1 := by
            intro d
            induction d with
            | zero =>
              intro k I1 L1 x5 hd hk1 hC1 hq
              have hr8 : I1 1 8 = nI (G 26) := hC1.2.1.2.2.2.1
              refine hG2 [] 100 27 _ _ _ _ ?_
              show (f_bc (I1 1 8) < nI k → _) ∧ (¬ f_bc (I1 1 8) < nI k → _)
              rw [hr8, f_bc_nI _ (by omega)]
              refine am_t (nI_lt (by omega) (by omega)) (hfin I1 L1 hC1 (g_ch_none (fun q hq1 hq2 => ?_)))
              have h1 := hq q hq1 hq2
              unfold g_sp at hq2
              simp only [Bool.and_eq_true, decide_eq_true_eq] at hq2
              have h2 := g_pc_mono (g_dif_0.mp hq2.1) 12
              omega
            | succ d ih =>
              intro k I1 L1 x5 hd hk1 hC1 hq
              have hr8 : I1 1 8 = nI (G 26) := hC1.2.1.2.2.2.1
              refine hG2 [(60, [])] 100 27 _ _ _ _ ?_
              show (f_bc (I1 1 8) < nI k → _) ∧ (¬ f_bc (I1 1 8) < nI k → _)
              rw [hr8, f_bc_nI _ (by omega)]
              refine am_f (nI_nlt (by omega) (by omega)) ?_
              have aft : ∀ (v : Int32) (I2 : am_I) (L2 : am_J), ((∃ m, m < 256 ∧ g_sp G kind f (decide (z = 1)) m = true ∧ g_pc m 12 = k ∧ (∀ q, q < m → g_sp G kind f (decide (z = 1)) q = true → ¬ g_pc q 12 = k) ∧ v = nI m) ∨ ((∀ q, q < 256 → g_sp G kind f (decide (z = 1)) q = true → ¬ g_pc q 12 = k) ∧ v = -1)) → CR I2 L2 (G, K, hk, tn, tt, ln, sz, it) → G2 60 [some (.ref 0), some (.int (nI kind)), some (.int (nI f)), some (.int z), some (.int (nI k)), x5] [.int v] I2 L2 := by
                intro v I2 L2 hv hC2
                refine hG2 [(27, [])] 100 60 _ _ _ _ ?_
                rcases hv with ⟨m, hm1, hm2, hm3, hm4, rfl⟩ | ⟨hv, rfl⟩
                · refine am_f (nI_pos (by omega)) (hfin2 I2 L2 m hC2 (g_ch_some hm1 hm2 (show g_pc m 12 < 10000 by omega) (fun q hq1 hq2 => ?_)))
                  have h1 := hq q hq1 hq2
                  refine ⟨show g_pc m 12 ≤ g_pc q 12 by omega, fun e => ?_⟩
                  have e : g_pc q 12 = g_pc m 12 := e
                  rcases Nat.lt_or_ge q m with w | w
                  · exact absurd (e.trans hm3) (hm4 q w hq2)
                  · exact w
                · refine am_t (by decide) ?_
                  show G2 27 [some (.ref 0), some (.int (nI kind)), some (.int (nI f)), some (.int z), some (.int (nI k + 1)), some (.int (-1))] [] I2 L2
                  rw [nI_1]
                  refine ih (k + 1) I2 L2 _ (by omega) (by omega) hC2 (fun q hq1 hq2 => ?_)
                  have h1 := hq q hq1 hq2
                  have h2 := hv q hq1 hq2
                  omega
              by_cases hz1 : z = 1
              · refine am_nf hz1 ?_
                refine (And.intro (rfl) (Exists.intro ((G, K, hk, tn, tt, ln, sz, it)) (Exists.intro (kind) (Exists.intro (f) (Exists.intro (k) (Exists.intro (decide (z = 1)) (And.intro (hk4) (And.intro (hf8) (And.intro (hC1) (And.intro (rfl) (And.intro (rfl) (And.intro ((am_b1 (decide_eq_true hz1)).symm) (And.intro (rfl) (And.intro (by omega) (fun v I2 L2 hv hC2 => ?_)))))))))))))))
                exact aft v I2 L2 hv hC2
              · refine am_nt hz1 ?_
                refine (And.intro (rfl) (Exists.intro ((G, K, hk, tn, tt, ln, sz, it)) (Exists.intro (kind) (Exists.intro (f) (Exists.intro (k) (Exists.intro (decide (z = 1)) (And.intro (hk4) (And.intro (hf8) (And.intro (hC1) (And.intro (rfl) (And.intro (rfl) (And.intro ((am_b0 (fun q => hz1 (of_decide_eq_true q))).symm) (And.intro (rfl) (And.intro (by omega) (fun v I2 L2 hv hC2 => ?_)))))))))))))))
                exact aft v I2 L2 hv hC2
          exact loop _ 0 I L none rfl (by omega) hC (fun q _ _ => Nat.zero_le _)
        · rw [if_pos (Or.inr (Or.inr hz))] at h
          exact hG2 [] 100 0 _ _ _ _ (am_f (am_bp hx) (am_f (am_bp hy) (am_nf (am_bn hz) (h I L hC))))
      · rw [if_pos (Or.inr (Or.inl hy))] at h
        exact hG2 [] 100 0 _ _ _ _ (am_f (am_bp hx) (am_t (am_bn hy) (h I L hC)))
    · rw [if_pos (Or.inl hx)] at h
      exact hG2 [] 100 0 _ _ _ _ (am_t (am_bn hx) (h I L hC))
  · exact h.elim
end
section
/-! SETS within a set, one after the other -/
theorem am_half {u d : Nat} (h : ∀ i, u.testBit i = true → d.testBit i = true) : (∀ i, (u / 2).testBit i = true → (d / 2).testBit i = true) ∧ (u % 2 = 1 → d % 2 = 1) := by
  refine ⟨fun i hi => ?_, fun q => ?_⟩
  · rw [Nat.testBit_div_two] at hi ⊢; exact h _ hi
  · have := h 0
    rw [Nat.testBit_zero, Nat.testBit_zero] at this
    simpa using this (by simpa using q)
theorem am_comp : ∀ n d u : Nat, d < n → (∀ i, u.testBit i = true → d.testBit i = true) → u + (d ^^^ u) = d := by
  intro n
  induction n with
  | zero => intro d u h; omega
  | succ n ih =>
    intro d u hd hs
    obtain ⟨h1, h2⟩ := am_half hs
    by_cases hz : d = 0
    · subst hz
      have : u = 0 := by
        apply Nat.eq_of_testBit_eq
        intro i
        cases e : u.testBit i with
        | false => simp
        | true => have := hs i e; simp at this
      subst this
      rfl
    · have e := ih (d / 2) (u / 2) (by omega) h1
      have e2 : (d ^^^ u) / 2 = d / 2 ^^^ u / 2 := Nat.xor_div_two
      have e3 : (d ^^^ u) % 2 = 1 ↔ ¬ (d % 2 = 1 ↔ u % 2 = 1) := Nat.xor_mod_two_eq_one
      rw [← e2] at e
      by_cases hu : u % 2 = 1
      · have hd1 := h2 hu
        have : ¬ (d ^^^ u) % 2 = 1 := fun q => (e3.mp q) ⟨fun _ => hu, fun _ => hd1⟩
        omega
      · by_cases hd1 : d % 2 = 1
        · have : (d ^^^ u) % 2 = 1 := e3.mpr (fun q => hu (q.mp hd1))
          omega
        · have : ¬ (d ^^^ u) % 2 = 1 := fun q => (e3.mp q) ⟨fun z => absurd z hd1, fun z => absurd z hu⟩
          omega
theorem am_and_sub {a b : Nat} (h : ∀ i, a.testBit i = true → b.testBit i = true) : a &&& b = a := by
  apply Nat.eq_of_testBit_eq
  intro i
  rw [Nat.testBit_and]
  cases e : a.testBit i with
  | false => rfl
  | true => rw [h i e]; rfl
theorem am_below : ∀ n c w d : Nat, c < n → (∀ i, c.testBit i = true → d.testBit i = true) → (∀ i, w.testBit i = true → d.testBit i = true) → w < c → w ≤ (c - 1) &&& d := by
  intro n
  induction n with
  | zero => intro c w d h; omega
  | succ n ih =>
    intro c w d hc hs hw hlt
    obtain ⟨h1, h2⟩ := am_half hs
    obtain ⟨h3, h4⟩ := am_half hw
    have e2 : ((c - 1) &&& d) / 2 = (c - 1) / 2 &&& d / 2 := Nat.and_div_two
    by_cases hodd : c % 2 = 1
    · rw [show (c - 1) / 2 = c / 2 by omega, am_and_sub h1] at e2
      omega
    · rw [show (c - 1) / 2 = c / 2 - 1 by omega] at e2
      have e := ih (c / 2) (w / 2) (d / 2) (by omega) h1 h3 (by omega)
      rw [← e2] at e
      have e3 : ((c - 1) &&& d) % 2 = 1 ↔ (c - 1) % 2 = 1 ∧ d % 2 = 1 := Nat.and_mod_two_eq_one
      by_cases hw1 : w % 2 = 1
      · have := e3.mpr ⟨by omega, h4 hw1⟩
        omega
      · omega
def am_nxt (d u : Nat) : Nat := if u = d then 0 else g_dif d (d - u - 1)
theorem am_sub_le {u d : Nat} (h : ∀ i, u.testBit i = true → d.testBit i = true) : u ≤ d := by
  have := am_comp (d + 1) d u (by omega) h
  omega
theorem am_nxt_I {d u : Nat} (h : ∀ i, u.testBit i = true → d.testBit i = true) : (nI u - nI d) &&& nI d = nI (am_nxt d u) := by
  unfold am_nxt
  by_cases e : u = d
  · rw [if_pos e, e]
    have : nI d - nI d = 0 := by grind
    rw [this]
    apply b_ext
    intro i hi
    rw [b_and, b_0, nI_0, b_0]; rfl
  · rw [if_neg e]
    have hle := am_sub_le h
    have e1 : nI d = nI u + nI (d - u - 1) + 1 := by rw [nI_add, nI_1]; congr 1; omega
    have e2 : nI (d - u - 1) ^^^ (-1) = - nI (d - u - 1) - 1 := by
      generalize nI (d - u - 1) = x
      apply Int32.toBitVec_inj.1
      rw [Int32.toBitVec_xor, Int32.toBitVec_sub, Int32.toBitVec_neg]
      show x.toBitVec ^^^ BitVec.allOnes 32 = -x.toBitVec - 1#32
      rw [BitVec.xor_allOnes, BitVec.not_eq_neg_add]
    have e3 : nI u - nI d = nI (d - u - 1) ^^^ (-1) := by rw [e2, e1]; grind
    rw [e3]
    apply b_ext
    intro i hi
    rw [b_and, bt_not hi, bt_nI _ _ hi, bt_nI _ _ hi, bt_nI _ _ hi, g_dif_t, Bool.and_comm]
theorem am_nxt_spec {d u : Nat} (h : ∀ i, u.testBit i = true → d.testBit i = true) (hne : ¬ u = d) : (∀ i, (am_nxt d u).testBit i = true → d.testBit i = true) ∧ u < am_nxt d u ∧ ∀ v, (∀ i, v.testBit i = true → d.testBit i = true) → u < v → am_nxt d u ≤ v := by
  unfold am_nxt
  rw [if_neg hne]
  have hle := am_sub_le h
  have hc : d ^^^ u = d - u := by have := am_comp (d + 1) d u (by omega) h; omega
  have s1 : ∀ i, (d &&& (d - u - 1)).testBit i = true → d.testBit i = true := fun i hi => by
    rw [Nat.testBit_and] at hi
    simp only [Bool.and_eq_true] at hi
    exact hi.1
  have e1 := am_comp (d + 1) d _ (by omega) s1
  have e2 : g_dif d (d - u - 1) = d ^^^ (d &&& (d - u - 1)) := rfl
  have hl : d &&& (d - u - 1) ≤ d - u - 1 := Nat.and_le_right
  have sx : ∀ v, (∀ i, v.testBit i = true → d.testBit i = true) → ∀ i, (d ^^^ v).testBit i = true → d.testBit i = true := fun v hv i hi => by
    rw [Nat.testBit_xor] at hi
    cases e : d.testBit i with
    | true => rfl
    | false =>
      rw [e] at hi
      cases e3 : v.testBit i with
      | true => have := hv i e3; rw [e] at this; cases this
      | false => rw [e3] at hi; cases hi
  refine ⟨fun i hi => ?_, by omega, fun v hv huv => ?_⟩
  · rw [g_dif_t] at hi
    simp only [Bool.and_eq_true] at hi
    exact hi.1
  · have e4 := am_comp (d + 1) d v (by omega) hv
    have e5 := am_below (d + 1) (d - u) (d ^^^ v) d (by omega) (fun i hi => sx u h i (by rw [hc]; exact hi)) (sx v hv) (by omega)
    rw [Nat.and_comm] at e5
    omega
theorem g_cnt_split (P : Nat → Bool) (a : Nat) : ∀ b, g_cnt P (a + b) = g_cnt P a + g_cnt (fun j => P (a + j)) b := by
  intro b
  induction b with
  | zero => rfl
  | succ b ih =>
    rw [← Nat.add_assoc]
    simp only [g_cnt, ih]
    omega
theorem g_cnt_mono (P : Nat → Bool) {a b : Nat} (h : a ≤ b) : g_cnt P a ≤ g_cnt P b := by
  rw [show b = a + (b - a) by omega, g_cnt_split]
  omega
/-- how many sets there are within a set -/
theorem am_many (d : Nat) : ∀ n, g_cnt (fun v => decide (g_dif v d = 0)) (2 ^ n) = 2 ^ (g_pc d n) := by
  intro n
  induction n with
  | zero =>
    show 0 + (if decide (g_dif 0 d = 0) = true then 1 else 0) = 1
    rw [show g_dif 0 d = 0 from g_dif_0.mpr (fun i hi => by simp at hi)]
    rfl
  | succ n ih =>
    rw [Nat.pow_succ, show 2 ^ n * 2 = 2 ^ n + 2 ^ n by omega, g_cnt_split, ih]
    have hj : ∀ j, j < 2 ^ n → decide (g_dif (2 ^ n + j) d = 0) = (d.testBit n && decide (g_dif j d = 0)) := fun j hj => by
      have e : 2 ^ n + j = g_set j n := by
        have := Nat.two_pow_add_eq_or_of_lt hj 1
        rw [Nat.mul_one] at this
        rw [this, Nat.or_comm]
        rfl
      rw [e, Bool.eq_iff_iff, Bool.and_eq_true, decide_eq_true_eq, decide_eq_true_eq, g_dif_0, g_dif_0]
      constructor
      · intro q
        exact ⟨q n (by rw [g_set_t]; simp), fun i hi => q i (by rw [g_set_t, hi]; rfl)⟩
      · rintro ⟨q1, q2⟩ i hi
        rw [g_set_t] at hi
        simp only [Bool.or_eq_true, decide_eq_true_eq] at hi
        rcases hi with z | z
        · exact q2 i z
        · rw [z]; exact q1
    rw [g_cnt_congr (Q := fun j => d.testBit n && decide (g_dif j d = 0)) (2 ^ n) hj]
    simp only [g_pc]
    cases hb : d.testBit n with
    | true =>
      simp only [Bool.true_and, ite_true, Nat.pow_succ]
      rw [ih]
      omega
    | false =>
      rw [g_cnt_zero (2 ^ n) (fun j _ => by rfl)]
      simp
/-- what of some numbers below n comes: how many, what all have, what none has -/
def g_tr (M : Nat → Bool) (d : Nat) : Nat → Nat × Int32 × Int32
  | 0 => (0, nI d, nI d)
  | v + 1 => if g_dif v d = 0 ∧ M v = true then ((g_tr M d v).1 + 1, (g_tr M d v).2.1 &&& nI v, (g_tr M d v).2.2 &&& (nI v ^^^ (-1))) else g_tr M d v
theorem g_tr_le (M : Nat → Bool) (d : Nat) : ∀ n, (g_tr M d n).1 ≤ n := by
  intro n
  induction n with
  | zero => exact Nat.le_refl _
  | succ n ih => simp only [g_tr]; split <;> omega
theorem g_tr_skip (M : Nat → Bool) (d a : Nat) : ∀ b, (∀ v, a ≤ v → v < a + b → ¬ g_dif v d = 0) → g_tr M d (a + b) = g_tr M d a := by
  intro b
  induction b with
  | zero => intro _; rfl
  | succ b ih =>
    intro h
    rw [← Nat.add_assoc]
    simp only [g_tr]
    rw [if_neg (fun q => h (a + b) (by omega) (by omega) q.1)]
    exact ih (fun v h1 h2 => h v h1 (by omega))
theorem am_cmp_eq (x y : Int64) : lg_cmp x y = 0 ↔ x = y := by
  unfold lg_cmp
  by_cases h : x > y
  · rw [if_pos h]
    constructor
    · intro q; exact absurd q (by decide)
    · intro q; subst q; exact absurd h (Int64.lt_irrefl)
  · rw [if_neg h]
    by_cases h2 : x = y
    · simp [h2]
    · rw [if_neg h2]
      constructor
      · intro q; exact absurd q (by decide)
      · intro q; exact absurd q h2
/-- whether a reader leaves this track -/
def g_lv (G : Nat → Nat) (kind snow f n : Nat) (c : Nat → Int64) : Bool := decide (n ≤ g_T G kind snow (G 26) f) && (List.range n).all (fun k => decide ((nI (g_S G kind snow (G 26) f (k + 1)).1).toInt64 = c k))
theorem g_lv_iff {G : Nat → Nat} {kind snow f n : Nat} {c : Nat → Int64} : g_lv G kind snow f n c = true ↔ n ≤ g_T G kind snow (G 26) f ∧ ∀ k, k < n → (nI (g_S G kind snow (G 26) f (k + 1)).1).toInt64 = c k := by
  unfold g_lv
  simp [List.all_eq_true]
end
section
/-! THE CLASS: which snows may have been -/
def T_RP_leaves : am_Sp := fun vs I L post => match vs with
  | [.ref o, .int x, .int y, .int z, .ref r, .int u, .int w] => o = 0 ∧ ∃ A kind f snow, ∃ s ii nn : Nat, kind < 4 ∧ f < 8 ∧ s < 4 ∧ r = (26 + 2 * s : Nat) ∧ nn ≤ 24 ∧ CR I L A ∧ ¬ A.2.2.2.2.2.1 s = -1 ∧ ii + nn ≤ A.2.2.2.2.2.2.1 s ∧ x = nI kind ∧ y = nI f ∧ z = nI snow ∧ u = nI ii ∧ w = nI nn ∧ ∀ (I2 : am_I) (L2 : am_J), CR I2 L2 A → post (some (.int (am_b (g_lv A.1 kind snow f nn (fun k => A.2.2.2.2.2.2.2 s (ii + k)) = true)))) I2 L2
  | _ => False
def sp_RP_leaves : Nat → am_Sp := fun i => match i with
  | 227 => T_JN_begin
  | 231 => T_JN_goOn
  | 235 => T_SH_itemAt
  | _ => am_no
set_option maxRecDepth 100000 in
set_option maxHeartbeats 4000000 in
theorem ok_RP_leaves : am_Ok am_SX sp_RP_leaves true k_RP_leaves 8 T_RP_leaves := by
  intro vs I L post h
  unfold T_RP_leaves at h
  split at h
  · rename_i o x y z r u w
    obtain ⟨rfl, A, kind, f, snow, s, ii, nn, hk4, hf8, hs4, rfl, hn24, hC, hl, hz, rfl, rfl, rfl, rfl, rfl, h⟩ := h
    refine ⟨Nat.le_of_ble_eq_true rfl, fun G2 hG2 => ?_⟩
    obtain ⟨G, K, hk, tn, tt, ln, sz, it⟩ := A
    dsimp only at hl hz h
    obtain ⟨hV, hR, hKr, hk7, hT, ⟨V, hS⟩, hSh⟩ := id hC
    have hX : JX G kind (G 26) f := JX_of hV.1 hk4 hf8
    have hTs := g_T_spec (snow := snow) hX
    have hz24 := (hV.2.2.2.2 s hs4).2
    have hT : ∀ (I2 : am_I) (L2 : am_J), CR I2 L2 (G, K, hk, tn, tt, ln, sz, it) → g_lv G kind snow f nn (fun k => it s (ii + k)) = true → post (some (.int 1)) I2 L2 := fun I2 L2 hC2 z => by
      have := h I2 L2 hC2
      rw [am_b1 z] at this; exact this
    have hF : ∀ (I2 : am_I) (L2 : am_J), CR I2 L2 (G, K, hk, tn, tt, ln, sz, it) → ¬ g_lv G kind snow f nn (fun k => it s (ii + k)) = true → post (some (.int 0)) I2 L2 := fun I2 L2 hC2 z => by
      have := h I2 L2 hC2
      rw [am_b0 z] at this; exact this
    clear h
    rcases (show s = 0 ∨ s = 1 ∨ s = 2 ∨ s = 3 by omega) with rfl | rfl | rfl | rfl
    · have hq : 26 + 2 * 0 = 26 := rfl
      have loop : ∀ d k (I1 : am_I) (L1 : am_J), nn - k = d → k ≤ nn → JS I1 L1 G kind snow (G 26) f k → CR I1 L1 (G, K, hk, tn, tt, ln, sz, it) → (∀ j, j < k → (nI (g_S G kind snow (G 26) f (j + 1)).1).toInt64 = it 0 (ii + j)) → G2 24 [some (.ref 0), some (.int (nI kind)), some (.int (nI f)), some (.int (nI snow)), some (.ref 26), some (.int (nI ii)), some (.int (nI nn)), some (.int (nI k))] [] I1 L1 := by
        intro d
        induction d with
        | zero =>
          intro k I1 L1 hd hk1 hj hC1 hm
          have e : k = nn := by omega
          subst e
          refine hG2 [] 100 24 _ _ _ _ (am_nt (nI_nlt (Nat.le_refl k) (by omega)) (And.intro (Or.inr rfl) (hT I1 L1 hC1 (g_lv_iff.mpr ⟨?_, hm⟩))))
          rcases Nat.lt_or_ge (g_T G kind snow (G 26) f) k with z | z
          · exact absurd (hj.2.2.2.2.2.2.2.2.2.2 _ z) hTs.2.1
          · exact z
        | succ d ih =>
          intro k I1 L1 hd hk1 hj hC1 hm
          have hR1 := hC1.2.1
          refine hG2 [(24, [])] 100 24 _ _ _ _ (am_nf (nI_lt (by omega) (by omega)) (And.intro (rfl) (And.intro (rfl) (Exists.intro (G) (Exists.intro (kind) (Exists.intro (snow) (Exists.intro (G 26) (Exists.intro (f) (Exists.intro (k) (Exists.intro (1) (And.intro (hX) (And.intro (hR1) (And.intro (rfl) (And.intro (by omega) (And.intro (hj) (fun i2 I3 L3 hi1 hi2 hi3 hj2 hf2 => ?_))))))))))))))))
          have hC3 : CR I3 L3 (G, K, hk, tn, tt, ln, sz, it) := CR_FJ hC1 hf2 ⟨_, hj2.2.2.2.2.2.2.2.2.2.1⟩
          have j4 : I3 21 4 = nI (g_S G kind snow (G 26) f i2).1 := hj2.2.2.2.1
          have j6 : I3 21 6 = nI i2 := hj2.2.2.2.2.1
          have jp := hj2.2.2.2.2.2.2.2.2.2.2
          show (¬ I3 21 6 = nI k + 1 → _) ∧ (I3 21 6 = nI k + 1 → _)
          rw [j6, nI_1]
          by_cases e : i2 = k + 1
          · subst e
            refine am_nf rfl ?_
            have hi : nI ii + nI k = nI (ii + k) := nI_add ii k
            have hb : f_hasB I3 26 (nI (ii + k)) 1 = 1 := by
              have q : I3 26 2 = nI (sz 0) := (hC3.2.2.2.2.2.2 0 (by omega)).2.1 hl
              rw [am_has hz24 q]
              have e1 : (1 : Int32).toInt = 1 := rfl
              rw [nI_toInt (by omega)]
              exact am_b1 ⟨by omega, by omega, by omega⟩
            have q2 : L3 27 (ii + k) = it 0 (ii + k) := (hC3.2.2.2.2.2.2 0 (by omega)).2.2 _ (by omega)
            show am_isS 26 ∧ ((f_hasB I3 26 (nI ii + nI k) 1 = 1 → vp_in (nI ii + nI k) 24) ∧ _)
            rw [hi]
            refine And.intro (Or.inl rfl) (And.intro (fun _ => am_vin (by omega) rfl) ?_)
            show (lg_cmp (I3 21 4).toInt64 (if f_hasB I3 26 (nI (ii + k)) 1 = 1 then L3 27 (nI (ii + k)).toNatClampNeg else -4) = 0 → _) ∧ (¬ lg_cmp (I3 21 4).toInt64 (if f_hasB I3 26 (nI (ii + k)) 1 = 1 then L3 27 (nI (ii + k)).toNatClampNeg else -4) = 0 → _)
            rw [if_pos hb, nI_clamp (by omega), q2, j4, am_cmp_eq]
            by_cases e2 : (nI (g_S G kind snow (G 26) f (k + 1)).1).toInt64 = it 0 (ii + k)
            · refine am_t e2 ?_
              show G2 24 [some (.ref 0), some (.int (nI kind)), some (.int (nI f)), some (.int (nI snow)), some (.ref 26), some (.int (nI ii)), some (.int (nI nn)), some (.int (nI k + 1))] [] I3 L3
              rw [nI_1]
              refine ih (k + 1) I3 L3 (by omega) (by omega) hj2 hC3 (fun j hj3 => ?_)
              rcases Nat.lt_or_ge j k with z | z
              · exact hm j z
              · rw [show j = k by omega]; exact e2
            · exact am_f e2 (And.intro (Or.inl rfl) (hF I3 L3 hC3 (fun z => e2 ((g_lv_iff.mp z).2 k (by omega)))))
          · have e3 : i2 = k := by omega
            subst e3
            refine am_nt (fun z => e ((nI_eq (by omega) (by omega)).mp z)) (And.intro (Or.inl rfl) (hF I3 L3 hC3 (fun z => ?_)))
            have hen : ¬ g_end G (g_S G kind snow (G 26) f) i2 = 3 := by
              rcases hi3 with q | q
              · omega
              · exact q
            have := g_T_of hX hen jp
            have := (g_lv_iff.mp z).1
            omega
      refine hG2 [(24, [])] 100 0 _ _ _ _ (And.intro (rfl) (And.intro (rfl) (Exists.intro (G) (Exists.intro (kind) (Exists.intro (snow) (Exists.intro (G 26) (Exists.intro (f) (Exists.intro (V) (And.intro (hX) (And.intro (hR) (And.intro (rfl) (And.intro (rfl) (And.intro (rfl) (And.intro (hR.2.2.2.1) (And.intro (hS) (fun I1 L1 hj1 hf1 => ?_))))))))))))))))
      exact loop nn 0 I1 L1 (by omega) (by omega) hj1 (CR_FJ hC hf1 ⟨_, hj1.2.2.2.2.2.2.2.2.2.1⟩) (fun j hj => by omega)
    · have hq : 26 + 2 * 1 = 28 := rfl
      have loop : ∀ d k (I1 : am_I) (L1 : am_J), nn - k = d → k ≤ nn → JS I1 L1 G kind snow (G 26) f k → CR I1 L1 (G, K, hk, tn, tt, ln, sz, it) → (∀ j, j < k → (nI (g_S G kind snow (G 26) f (j + 1)).1).toInt64 = it 1 (ii + j)) → G2 24 [some (.ref 0), some (.int (nI kind)), some (.int (nI f)), some (.int (nI snow)), some (.ref 28), some (.int (nI ii)), some (.int (nI nn)), some (.int (nI k))] [] I1 L1 := by
        intro d
        induction d with
        | zero =>
          intro k I1 L1 hd hk1 hj hC1 hm
          have e : k = nn := by omega
          subst e
          refine hG2 [] 100 24 _ _ _ _ (am_nt (nI_nlt (Nat.le_refl k) (by omega)) (And.intro (Or.inr rfl) (hT I1 L1 hC1 (g_lv_iff.mpr ⟨?_, hm⟩))))
          rcases Nat.lt_or_ge (g_T G kind snow (G 26) f) k with z | z
          · exact absurd (hj.2.2.2.2.2.2.2.2.2.2 _ z) hTs.2.1
          · exact z
        | succ d ih =>
          intro k I1 L1 hd hk1 hj hC1 hm
          have hR1 := hC1.2.1
          refine hG2 [(24, [])] 100 24 _ _ _ _ (am_nf (nI_lt (by omega) (by omega)) (And.intro (rfl) (And.intro (rfl) (Exists.intro (G) (Exists.intro (kind) (Exists.intro (snow) (Exists.intro (G 26) (Exists.intro (f) (Exists.intro (k) (Exists.intro (1) (And.intro (hX) (And.intro (hR1) (And.intro (rfl) (And.intro (by omega) (And.intro (hj) (fun i2 I3 L3 hi1 hi2 hi3 hj2 hf2 => ?_))))))))))))))))
          have hC3 : CR I3 L3 (G, K, hk, tn, tt, ln, sz, it) := CR_FJ hC1 hf2 ⟨_, hj2.2.2.2.2.2.2.2.2.2.1⟩
          have j4 : I3 21 4 = nI (g_S G kind snow (G 26) f i2).1 := hj2.2.2.2.1
          have j6 : I3 21 6 = nI i2 := hj2.2.2.2.2.1
          have jp := hj2.2.2.2.2.2.2.2.2.2.2
          show (¬ I3 21 6 = nI k + 1 → _) ∧ (I3 21 6 = nI k + 1 → _)
          rw [j6, nI_1]
          by_cases e : i2 = k + 1
          · subst e
            refine am_nf rfl ?_
            have hi : nI ii + nI k = nI (ii + k) := nI_add ii k
            have hb : f_hasB I3 28 (nI (ii + k)) 1 = 1 := by
              have q : I3 28 2 = nI (sz 1) := (hC3.2.2.2.2.2.2 1 (by omega)).2.1 hl
              rw [am_has hz24 q]
              have e1 : (1 : Int32).toInt = 1 := rfl
              rw [nI_toInt (by omega)]
              exact am_b1 ⟨by omega, by omega, by omega⟩
            have q2 : L3 29 (ii + k) = it 1 (ii + k) := (hC3.2.2.2.2.2.2 1 (by omega)).2.2 _ (by omega)
            show am_isS 28 ∧ ((f_hasB I3 28 (nI ii + nI k) 1 = 1 → vp_in (nI ii + nI k) 24) ∧ _)
            rw [hi]
            refine And.intro (Or.inr (Or.inl rfl)) (And.intro (fun _ => am_vin (by omega) rfl) ?_)
            show (lg_cmp (I3 21 4).toInt64 (if f_hasB I3 28 (nI (ii + k)) 1 = 1 then L3 29 (nI (ii + k)).toNatClampNeg else -4) = 0 → _) ∧ (¬ lg_cmp (I3 21 4).toInt64 (if f_hasB I3 28 (nI (ii + k)) 1 = 1 then L3 29 (nI (ii + k)).toNatClampNeg else -4) = 0 → _)
            rw [if_pos hb, nI_clamp (by omega), q2, j4, am_cmp_eq]
            by_cases e2 : (nI (g_S G kind snow (G 26) f (k + 1)).1).toInt64 = it 1 (ii + k)
            · refine am_t e2 ?_
              show G2 24 [some (.ref 0), some (.int (nI kind)), some (.int (nI f)), some (.int (nI snow)), some (.ref 28), some (.int (nI ii)), some (.int (nI nn)), some (.int (nI k + 1))] [] I3 L3
              rw [nI_1]
              refine ih (k + 1) I3 L3 (by omega) (by omega) hj2 hC3 (fun j hj3 => ?_)
              rcases Nat.lt_or_ge j k with z | z
              · exact hm j z
              · rw [show j = k by omega]; exact e2
            · exact am_f e2 (And.intro (Or.inl rfl) (hF I3 L3 hC3 (fun z => e2 ((g_lv_iff.mp z).2 k (by omega)))))
          · have e3 : i2 = k := by omega
            subst e3
            refine am_nt (fun z => e ((nI_eq (by omega) (by omega)).mp z)) (And.intro (Or.inl rfl) (hF I3 L3 hC3 (fun z => ?_)))
            have hen : ¬ g_end G (g_S G kind snow (G 26) f) i2 = 3 := by
              rcases hi3 with q | q
              · omega
              · exact q
            have := g_T_of hX hen jp
            have := (g_lv_iff.mp z).1
            omega
      refine hG2 [(24, [])] 100 0 _ _ _ _ (And.intro (rfl) (And.intro (rfl) (Exists.intro (G) (Exists.intro (kind) (Exists.intro (snow) (Exists.intro (G 26) (Exists.intro (f) (Exists.intro (V) (And.intro (hX) (And.intro (hR) (And.intro (rfl) (And.intro (rfl) (And.intro (rfl) (And.intro (hR.2.2.2.1) (And.intro (hS) (fun I1 L1 hj1 hf1 => ?_))))))))))))))))
      exact loop nn 0 I1 L1 (by omega) (by omega) hj1 (CR_FJ hC hf1 ⟨_, hj1.2.2.2.2.2.2.2.2.2.1⟩) (fun j hj => by omega)
    · have hq : 26 + 2 * 2 = 30 := rfl
      have loop : ∀ d k (I1 : am_I) (L1 : am_J), nn - k = d → k ≤ nn → JS I1 L1 G kind snow (G 26) f k → CR I1 L1 (G, K, hk, tn, tt, ln, sz, it) → (∀ j, j < k → (nI (g_S G kind snow (G 26) f (j + 1)).1).toInt64 = it 2 (ii + j)) → G2 24 [some (.ref 0), some (.int (nI kind)), some (.int (nI f)), some (.int (nI snow)), some (.ref 30), some (.int (nI ii)), some (.int (nI nn)), some (.int (nI k))] [] I1 L1 := by
        intro d
        induction d with
        | zero =>
          intro k I1 L1 hd hk1 hj hC1 hm
          have e : k = nn := by omega
          subst e
          refine hG2 [] 100 24 _ _ _ _ (am_nt (nI_nlt (Nat.le_refl k) (by omega)) (And.intro (Or.inr rfl) (hT I1 L1 hC1 (g_lv_iff.mpr ⟨?_, hm⟩))))
          rcases Nat.lt_or_ge (g_T G kind snow (G 26) f) k with z | z
          · exact absurd (hj.2.2.2.2.2.2.2.2.2.2 _ z) hTs.2.1
          · exact z
        | succ d ih =>
          intro k I1 L1 hd hk1 hj hC1 hm
          have hR1 := hC1.2.1
          refine hG2 [(24, [])] 100 24 _ _ _ _ (am_nf (nI_lt (by omega) (by omega)) (And.intro (rfl) (And.intro (rfl) (Exists.intro (G) (Exists.intro (kind) (Exists.intro (snow) (Exists.intro (G 26) (Exists.intro (f) (Exists.intro (k) (Exists.intro (1) (And.intro (hX) (And.intro (hR1) (And.intro (rfl) (And.intro (by omega) (And.intro (hj) (fun i2 I3 L3 hi1 hi2 hi3 hj2 hf2 => ?_))))))))))))))))
          have hC3 : CR I3 L3 (G, K, hk, tn, tt, ln, sz, it) := CR_FJ hC1 hf2 ⟨_, hj2.2.2.2.2.2.2.2.2.2.1⟩
          have j4 : I3 21 4 = nI (g_S G kind snow (G 26) f i2).1 := hj2.2.2.2.1
          have j6 : I3 21 6 = nI i2 := hj2.2.2.2.2.1
          have jp := hj2.2.2.2.2.2.2.2.2.2.2
          show (¬ I3 21 6 = nI k + 1 → _) ∧ (I3 21 6 = nI k + 1 → _)
          rw [j6, nI_1]
          by_cases e : i2 = k + 1
          · subst e
            refine am_nf rfl ?_
            have hi : nI ii + nI k = nI (ii + k) := nI_add ii k
            have hb : f_hasB I3 30 (nI (ii + k)) 1 = 1 := by
              have q : I3 30 2 = nI (sz 2) := (hC3.2.2.2.2.2.2 2 (by omega)).2.1 hl
              rw [am_has hz24 q]
              have e1 : (1 : Int32).toInt = 1 := rfl
              rw [nI_toInt (by omega)]
              exact am_b1 ⟨by omega, by omega, by omega⟩
            have q2 : L3 31 (ii + k) = it 2 (ii + k) := (hC3.2.2.2.2.2.2 2 (by omega)).2.2 _ (by omega)
            show am_isS 30 ∧ ((f_hasB I3 30 (nI ii + nI k) 1 = 1 → vp_in (nI ii + nI k) 24) ∧ _)
            rw [hi]
            refine And.intro (Or.inr (Or.inr (Or.inl rfl))) (And.intro (fun _ => am_vin (by omega) rfl) ?_)
            show (lg_cmp (I3 21 4).toInt64 (if f_hasB I3 30 (nI (ii + k)) 1 = 1 then L3 31 (nI (ii + k)).toNatClampNeg else -4) = 0 → _) ∧ (¬ lg_cmp (I3 21 4).toInt64 (if f_hasB I3 30 (nI (ii + k)) 1 = 1 then L3 31 (nI (ii + k)).toNatClampNeg else -4) = 0 → _)
            rw [if_pos hb, nI_clamp (by omega), q2, j4, am_cmp_eq]
            by_cases e2 : (nI (g_S G kind snow (G 26) f (k + 1)).1).toInt64 = it 2 (ii + k)
            · refine am_t e2 ?_
              show G2 24 [some (.ref 0), some (.int (nI kind)), some (.int (nI f)), some (.int (nI snow)), some (.ref 30), some (.int (nI ii)), some (.int (nI nn)), some (.int (nI k + 1))] [] I3 L3
              rw [nI_1]
              refine ih (k + 1) I3 L3 (by omega) (by omega) hj2 hC3 (fun j hj3 => ?_)
              rcases Nat.lt_or_ge j k with z | z
              · exact hm j z
              · rw [show j = k by omega]; exact e2
            · exact am_f e2 (And.intro (Or.inl rfl) (hF I3 L3 hC3 (fun z => e2 ((g_lv_iff.mp z).2 k (by omega)))))
          · have e3 : i2 = k := by omega
            subst e3
            refine am_nt (fun z => e ((nI_eq (by omega) (by omega)).mp z)) (And.intro (Or.inl rfl) (hF I3 L3 hC3 (fun z => ?_)))
            have hen : ¬ g_end G (g_S G kind snow (G 26) f) i2 = 3 := by
              rcases hi3 with q | q
              · omega
              · exact q
            have := g_T_of hX hen jp
            have := (g_lv_iff.mp z).1
            omega
      refine hG2 [(24, [])] 100 0 _ _ _ _ (And.intro (rfl) (And.intro (rfl) (Exists.intro (G) (Exists.intro (kind) (Exists.intro (snow) (Exists.intro (G 26) (Exists.intro (f) (Exists.intro (V) (And.intro (hX) (And.intro (hR) (And.intro (rfl) (And.intro (rfl) (And.intro (rfl) (And.intro (hR.2.2.2.1) (And.intro (hS) (fun I1 L1 hj1 hf1 => ?_))))))))))))))))
      exact loop nn 0 I1 L1 (by omega) (by omega) hj1 (CR_FJ hC hf1 ⟨_, hj1.2.2.2.2.2.2.2.2.2.1⟩) (fun j hj => by omega)
    · have hq : 26 + 2 * 3 = 32 := rfl
      have loop : ∀ d k (I1 : am_I) (L1 : am_J), nn - k = d → k ≤ nn → JS I1 L1 G kind snow (G 26) f k → CR I1 L1 (G, K, hk, tn, tt, ln, sz, it) → (∀ j, j < k → (nI (g_S G kind snow (G 26) f (j + 1)).1).toInt64 = it 3 (ii + j)) → G2 24 [some (.ref 0), some (.int (nI kind)), some (.int (nI f)), some (.int (nI snow)), some (.ref 32), some (.int (nI ii)), some (.int (nI nn)), some (.int (nI k))] [] I1 L1 := by
        intro d
        induction d with
        | zero =>
          intro k I1 L1 hd hk1 hj hC1 hm
          have e : k = nn := by omega
          subst e
          refine hG2 [] 100 24 _ _ _ _ (am_nt (nI_nlt (Nat.le_refl k) (by omega)) (And.intro (Or.inr rfl) (hT I1 L1 hC1 (g_lv_iff.mpr ⟨?_, hm⟩))))
          rcases Nat.lt_or_ge (g_T G kind snow (G 26) f) k with z | z
          · exact absurd (hj.2.2.2.2.2.2.2.2.2.2 _ z) hTs.2.1
          · exact z
        | succ d ih =>
          intro k I1 L1 hd hk1 hj hC1 hm
          have hR1 := hC1.2.1
          refine hG2 [(24, [])] 100 24 _ _ _ _ (am_nf (nI_lt (by omega) (by omega)) (And.intro (rfl) (And.intro (rfl) (Exists.intro (G) (Exists.intro (kind) (Exists.intro (snow) (Exists.intro (G 26) (Exists.intro (f) (Exists.intro (k) (Exists.intro (1) (And.intro (hX) (And.intro (hR1) (And.intro (rfl) (And.intro (by omega) (And.intro (hj) (fun i2 I3 L3 hi1 hi2 hi3 hj2 hf2 => ?_))))))))))))))))
          have hC3 : CR I3 L3 (G, K, hk, tn, tt, ln, sz, it) := CR_FJ hC1 hf2 ⟨_, hj2.2.2.2.2.2.2.2.2.2.1⟩
          have j4 : I3 21 4 = nI (g_S G kind snow (G 26) f i2).1 := hj2.2.2.2.1
          have j6 : I3 21 6 = nI i2 := hj2.2.2.2.2.1
          have jp := hj2.2.2.2.2.2.2.2.2.2.2
          show (¬ I3 21 6 = nI k + 1 → _) ∧ (I3 21 6 = nI k + 1 → _)
          rw [j6, nI_1]
          by_cases e : i2 = k + 1
          · subst e
            refine am_nf rfl ?_
            have hi : nI ii + nI k = nI (ii + k) := nI_add ii k
            have hb : f_hasB I3 32 (nI (ii + k)) 1 = 1 := by
              have q : I3 32 2 = nI (sz 3) := (hC3.2.2.2.2.2.2 3 (by omega)).2.1 hl
              rw [am_has hz24 q]
              have e1 : (1 : Int32).toInt = 1 := rfl
              rw [nI_toInt (by omega)]
              exact am_b1 ⟨by omega, by omega, by omega⟩
            have q2 : L3 33 (ii + k) = it 3 (ii + k) := (hC3.2.2.2.2.2.2 3 (by omega)).2.2 _ (by omega)
            show am_isS 32 ∧ ((f_hasB I3 32 (nI ii + nI k) 1 = 1 → vp_in (nI ii + nI k) 24) ∧ _)
            rw [hi]
            refine And.intro (Or.inr (Or.inr (Or.inr rfl))) (And.intro (fun _ => am_vin (by omega) rfl) ?_)
            show (lg_cmp (I3 21 4).toInt64 (if f_hasB I3 32 (nI (ii + k)) 1 = 1 then L3 33 (nI (ii + k)).toNatClampNeg else -4) = 0 → _) ∧ (¬ lg_cmp (I3 21 4).toInt64 (if f_hasB I3 32 (nI (ii + k)) 1 = 1 then L3 33 (nI (ii + k)).toNatClampNeg else -4) = 0 → _)
            rw [if_pos hb, nI_clamp (by omega), q2, j4, am_cmp_eq]
            by_cases e2 : (nI (g_S G kind snow (G 26) f (k + 1)).1).toInt64 = it 3 (ii + k)
            · refine am_t e2 ?_
              show G2 24 [some (.ref 0), some (.int (nI kind)), some (.int (nI f)), some (.int (nI snow)), some (.ref 32), some (.int (nI ii)), some (.int (nI nn)), some (.int (nI k + 1))] [] I3 L3
              rw [nI_1]
              refine ih (k + 1) I3 L3 (by omega) (by omega) hj2 hC3 (fun j hj3 => ?_)
              rcases Nat.lt_or_ge j k with z | z
              · exact hm j z
              · rw [show j = k by omega]; exact e2
            · exact am_f e2 (And.intro (Or.inl rfl) (hF I3 L3 hC3 (fun z => e2 ((g_lv_iff.mp z).2 k (by omega)))))
          · have e3 : i2 = k := by omega
            subst e3
            refine am_nt (fun z => e ((nI_eq (by omega) (by omega)).mp z)) (And.intro (Or.inl rfl) (hF I3 L3 hC3 (fun z => ?_)))
            have hen : ¬ g_end G (g_S G kind snow (G 26) f) i2 = 3 := by
              rcases hi3 with q | q
              · omega
              · exact q
            have := g_T_of hX hen jp
            have := (g_lv_iff.mp z).1
            omega
      refine hG2 [(24, [])] 100 0 _ _ _ _ (And.intro (rfl) (And.intro (rfl) (Exists.intro (G) (Exists.intro (kind) (Exists.intro (snow) (Exists.intro (G 26) (Exists.intro (f) (Exists.intro (V) (And.intro (hX) (And.intro (hR) (And.intro (rfl) (And.intro (rfl) (And.intro (rfl) (And.intro (hR.2.2.2.1) (And.intro (hS) (fun I1 L1 hj1 hf1 => ?_))))))))))))))))
      exact loop nn 0 I1 L1 (by omega) (by omega) hj1 (CR_FJ hC hf1 ⟨_, hj1.2.2.2.2.2.2.2.2.2.1⟩) (fun j hj => by omega)
  · exact h.elim
end
section
/-! THE CLASS: which snows may have been -/
def o_track : am_A → Int32 → Int32 → Int32 → Int32 → Int32 → Int32 → Int32 → Int32 × am_A
  | (G, K, hk, tn, tt, ln, sz, it), kind, f, s, a, i, n, what => if ¬ ((0 ≤ kind ∧ kind < 4) ∧ (0 ≤ f ∧ f < 8) ∧ (0 ≤ s ∧ s < 4) ∧ (0 ≤ a ∧ a < 3) ∧ (1 ≤ n ∧ n ≤ 24)) ∨ ¬ (0 ≤ what ∧ what < 3) then (-1, (G, K, hk, tn, tt, ln, sz, it)) else if ¬ o_bars ln sz s.toNatClampNeg a i n = 0 then (o_bars ln sz s.toNatClampNeg a i n, (G, K, hk, tn, tt, ln, sz, it)) else
    ((if what = 0 then nI (g_tr (fun m => g_lv G kind.toNatClampNeg m f.toNatClampNeg n.toNatClampNeg (fun k => it s.toNatClampNeg (i.toNatClampNeg + k))) (G 25) 4096).1 else if (g_tr (fun m => g_lv G kind.toNatClampNeg m f.toNatClampNeg n.toNatClampNeg (fun k => it s.toNatClampNeg (i.toNatClampNeg + k))) (G 25) 4096).1 = 0 then -4 else if what = 1 then (g_tr (fun m => g_lv G kind.toNatClampNeg m f.toNatClampNeg n.toNatClampNeg (fun k => it s.toNatClampNeg (i.toNatClampNeg + k))) (G 25) 4096).2.1 else (g_tr (fun m => g_lv G kind.toNatClampNeg m f.toNatClampNeg n.toNatClampNeg (fun k => it s.toNatClampNeg (i.toNatClampNeg + k))) (G 25) 4096).2.2), (G, K, hk, tn, tt, ln, sz, it))
theorem g_cnt_at {P : Nat → Bool} {u : Nat} (h : P u = true) : g_cnt P (u + 1) = g_cnt P u + 1 := by simp only [g_cnt]; rw [if_pos h]
def T_RP_track : am_Sp := fun vs I L post => match vs with
  | [.ref o, .int x, .int y, .int z, .int a, .int i, .int n, .int what] => o = 0 ∧ ∃ A, CR I L A ∧ ∀ (I2 : am_I) (L2 : am_J), CR I2 L2 (o_track A x y z a i n what).2 → post (some (.int (o_track A x y z a i n what).1)) I2 L2
  | _ => False
def sp_RP_track : Nat → am_Sp := fun i => match i with
  | 103 => T_RP_isFrom0
  | 177 => T_RP_isFilmable
  | 181 => T_SH_refusal
  | 184 => T_SH_has
  | 187 => T_RP_leaves
  | _ => am_no
set_option maxRecDepth 100000 in
set_option maxHeartbeats 4000000 in
theorem ok_RP_track : am_Ok am_SX sp_RP_track false k_RP_track 15 T_RP_track := by
  intro vs I L post h
  unfold T_RP_track at h
  split at h
  · rename_i o x y z a i n what
    obtain ⟨rfl, A, hC, h⟩ := h
    refine ⟨Nat.le_of_ble_eq_true rfl, fun G2 hG2 => ?_⟩
    obtain ⟨G, K, hk, tn, tt, ln, sz, it⟩ := A
    obtain ⟨hV, hR, hKr, hk7, hT, hS, hSh⟩ := id hC
    have hW : WG G := hV.1
    have h12 := hW.1
    dsimp only [o_track] at h
    by_cases hP : (0 ≤ x ∧ x < 4) ∧ (0 ≤ y ∧ y < 8) ∧ (0 ≤ z ∧ z < 4) ∧ (0 ≤ a ∧ a < 3) ∧ (1 ≤ n ∧ n ≤ 24)
    · by_cases hw : 0 ≤ what ∧ what < 3
      · rw [if_neg (by rintro (q | q); exact q hP; exact q hw)] at h
        obtain ⟨kind, hk4, rfl⟩ := am_rng (n := 4) (by omega) hP.1.1 hP.1.2
        obtain ⟨f, hf8, rfl⟩ := am_rng (n := 8) (by omega) hP.2.1.1 hP.2.1.2
        obtain ⟨s, hs4, rfl⟩ := am_rng (n := 4) (by omega) hP.2.2.1.1 hP.2.2.1.2
        obtain ⟨nn, hn25, rfl⟩ := am_rng (n := 25) (by omega) (Int32.le_trans (by decide) hP.2.2.2.2.1) (Int32.lt_of_le_of_lt hP.2.2.2.2.2 (by decide))
        rw [nI_clamp (n := kind) (by omega), nI_clamp (n := f) (by omega), nI_clamp (n := s) (by omega), nI_clamp (n := nn) (by omega)] at h
        rcases (show s = 0 ∨ s = 1 ∨ s = 2 ∨ s = 3 by omega) with rfl | rfl | rfl | rfl
        · have q : I 26 1 = ln 0 ∧ (¬ ln 0 = -1 → I 26 2 = nI (sz 0)) ∧ ∀ j, j < 24 → L 27 j = it 0 j := hSh 0 (by omega)
          have hz24 := (hV.2.2.2.2 0 (by omega)).2
          have h25 : G 25 < 4096 := hW.2.2.2.1
          refine hG2 [(91, [])] 100 0 _ _ _ _ (am_f (am_bp hP) (am_nt (am_bp hw) (And.intro (am_vin (N := 4) (n := 0) (by omega) rfl) (And.intro rfl (And.intro (by decide) (am_alS (s := 0) (o := 26) (by omega) rfl (And.intro (Or.inl rfl) ?_)))))))
          by_cases hl : ln 0 = -1
          · have e : o_bars ln sz 0 a i (nI nn) = -11 := by unfold o_bars; rw [if_pos hl]
            rw [e, if_pos (by decide)] at h
            rw [if_pos (q.1.trans hl)]
            exact am_f (by decide) (h I L hC)
          · rw [if_neg (fun z => hl (q.1.symm.trans z))]
            by_cases hla : ln 0 = a
            · rw [if_pos (q.1.trans hla)]
              refine am_t rfl (And.intro (Or.inl rfl) ?_)
              have br := @o_bars_ran ln sz 0 a i (nI nn) hl hla
              rw [am_has hz24 (q.2.1 hl)]
              by_cases hi : 0 ≤ i.toInt ∧ 0 ≤ (nI nn).toInt ∧ i.toInt + (nI nn).toInt ≤ (sz 0 : Int)
              · rw [if_neg (fun z => z (br.mpr hi))] at h
                refine am_nt (am_bp hi) ?_
                obtain ⟨ii, hii, rfl⟩ := nI_of (am_n0 hi.1)
                rw [nI_toInt hii, nI_toInt (by omega)] at hi
                rw [nI_clamp hii] at h
                have hz : ii + nn ≤ sz 0 := by omega
                show G2 91 [some (.ref 0), some (.int (nI kind)), some (.int (nI f)), some (.int (nI 0)), some (.int a), some (.int (nI ii)), some (.int (nI nn)), some (.int what), some (.ref 26), some (.int 0), some (.int (0)), some (.int (I 1 6)), some (.int (I 1 6)), some (.int (0)), some (.int (0))] [] I L
                rw [hR.2.1]
                generalize hM : (fun m => g_lv G kind m f nn (fun k => it 0 (ii + k))) = M at h
                have fin : ∀ (I1 : am_I) (L1 : am_J) (sn kk : Int32), CR I1 L1 (G, K, hk, tn, tt, ln, sz, it) → G2 168 [some (.ref 0), some (.int (nI kind)), some (.int (nI f)), some (.int (nI 0)), some (.int a), some (.int (nI ii)), some (.int (nI nn)), some (.int what), some (.ref 26), some (.int 0), some (.int (nI (g_tr M (G 25) (4096)).1)), some (.int ((g_tr M (G 25) (4096)).2.1)), some (.int ((g_tr M (G 25) (4096)).2.2)), some (.int (sn)), some (.int (kk))] [] I1 L1 := by
                  intro I1 L1 sn kk hC1
                  have hle := g_tr_le M (G 25) 4096
                  refine hG2 [] 100 168 _ _ _ _ ?_
                  by_cases w0 : what = 0
                  · rw [if_pos w0] at h
                    exact am_nf w0 (h I1 L1 hC1)
                  · rw [if_neg w0] at h
                    refine am_nt w0 ?_
                    by_cases c0 : (g_tr M (G 25) 4096).1 = 0
                    · rw [if_pos c0] at h
                      exact am_nf (by rw [c0]; rfl) (h I1 L1 hC1)
                    · rw [if_neg c0] at h
                      refine am_nt (nI_ne0 (by omega) (by omega)) ?_
                      by_cases w1 : what = 1
                      · rw [if_pos w1] at h
                        exact am_nf w1 (h I1 L1 hC1)
                      · rw [if_neg w1] at h
                        exact am_nt w1 (h I1 L1 hC1)
                have loop : ∀ d u k (I1 : am_I) (L1 : am_J), 64 - k = d → k ≤ 64 → CR I1 L1 (G, K, hk, tn, tt, ln, sz, it) → (∀ b, u.testBit b = true → (G 25).testBit b = true) → k ≤ g_cnt (fun v => decide (g_dif v (G 25) = 0)) u → G2 91 [some (.ref 0), some (.int (nI kind)), some (.int (nI f)), some (.int (nI 0)), some (.int a), some (.int (nI ii)), some (.int (nI nn)), some (.int what), some (.ref 26), some (.int 0), some (.int (nI (g_tr M (G 25) (u)).1)), some (.int ((g_tr M (G 25) (u)).2.1)), some (.int ((g_tr M (G 25) (u)).2.2)), some (.int (nI u)), some (.int (nI k))] [] I1 L1 := by
                  intro d
                  induction d with
                  | zero =>
                    intro u k I1 L1 hd hk64 hC1 hu hc
                    exfalso
                    have hud := am_sub_le hu
                    have h1 := g_cnt_mono (fun v => decide (g_dif v (G 25) = 0)) (show u + 1 ≤ 2 ^ 12 by omega)
                    rw [am_many] at h1
                    have h2 : 2 ^ g_pc (G 25) 12 ≤ 2 ^ 6 := Nat.pow_le_pow_right (by omega) hV.1.2.2.2.2.2.1
                    have h3 := g_cnt_at (P := fun v => decide (g_dif v (G 25) = 0)) (u := u) (decide_eq_true (g_dif_0.mpr hu))
                    omega
                  | succ d ih =>
                    intro u k I1 L1 hd hk64 hC1 hu hc
                    have hud := am_sub_le hu
                    have aft : ∀ (I2 : am_I) (L2 : am_J), CR I2 L2 (G, K, hk, tn, tt, ln, sz, it) → G2 134 [some (.ref 0), some (.int (nI kind)), some (.int (nI f)), some (.int (nI 0)), some (.int a), some (.int (nI ii)), some (.int (nI nn)), some (.int what), some (.ref 26), some (.int 0), some (.int (nI (g_tr M (G 25) (u + 1)).1)), some (.int ((g_tr M (G 25) (u + 1)).2.1)), some (.int ((g_tr M (G 25) (u + 1)).2.2)), some (.int (nI u)), some (.int (nI k))] [] I2 L2 := by
                      intro I2 L2 hC2
                      have h6 : I2 1 6 = nI (G 25) := hC2.2.1.2.1
                      refine hG2 [(91, []), (168, [])] 100 134 _ _ _ _ ?_
                      show (¬ (nI u - I2 1 6) &&& I2 1 6 = 0 → G2 91 [some (.ref 0), some (.int (nI kind)), some (.int (nI f)), some (.int (nI 0)), some (.int a), some (.int (nI ii)), some (.int (nI nn)), some (.int what), some (.ref 26), some (.int 0), some (.int (nI (g_tr M (G 25) (u + 1)).1)), some (.int ((g_tr M (G 25) (u + 1)).2.1)), some (.int ((g_tr M (G 25) (u + 1)).2.2)), some (.int ((nI u - I2 1 6) &&& I2 1 6)), some (.int (nI k + 1))] [] I2 L2) ∧ ((nI u - I2 1 6) &&& I2 1 6 = 0 → G2 168 [some (.ref 0), some (.int (nI kind)), some (.int (nI f)), some (.int (nI 0)), some (.int a), some (.int (nI ii)), some (.int (nI nn)), some (.int what), some (.ref 26), some (.int 0), some (.int (nI (g_tr M (G 25) (u + 1)).1)), some (.int ((g_tr M (G 25) (u + 1)).2.1)), some (.int ((g_tr M (G 25) (u + 1)).2.2)), some (.int ((nI u - I2 1 6) &&& I2 1 6)), some (.int (nI k))] [] I2 L2)
                      rw [h6, am_nxt_I hu, nI_1]
                      by_cases e : u = G 25
                      · refine am_nf (by unfold am_nxt; rw [if_pos e]; rfl) ?_
                        have e2 := g_tr_skip M (G 25) (u + 1) (4095 - u) (fun v h1 h2 z => by have := am_sub_le (g_dif_0.mp z); omega)
                        rw [show u + 1 + (4095 - u) = 4096 by omega] at e2
                        rw [← e2]
                        exact fin I2 L2 _ _ hC2
                      · obtain ⟨n1, n2, n3⟩ := am_nxt_spec hu e
                        have n4 := am_sub_le n1
                        refine am_nt (nI_ne0 (by omega) (by omega)) ?_
                        have e2 := g_tr_skip M (G 25) (u + 1) (am_nxt (G 25) u - (u + 1)) (fun v h1 h2 z => by have := n3 v (g_dif_0.mp z) (by omega); omega)
                        rw [show u + 1 + (am_nxt (G 25) u - (u + 1)) = am_nxt (G 25) u by omega] at e2
                        rw [← e2]
                        refine ih _ (k + 1) I2 L2 (by omega) (by omega) hC2 n1 ?_
                        have h1 := g_cnt_mono (fun v => decide (g_dif v (G 25) = 0)) (show u + 1 ≤ am_nxt (G 25) u by omega)
                        have h3 := g_cnt_at (P := fun v => decide (g_dif v (G 25) = 0)) (u := u) (decide_eq_true (g_dif_0.mpr hu))
                        omega
                    refine hG2 [(134, [])] 100 91 _ _ _ _ (am_nf (am_lt (show k < 64 by omega) rfl) (And.intro (rfl) (Exists.intro ((G, K, hk, tn, tt, ln, sz, it)) (Exists.intro (kind) (Exists.intro (f) (Exists.intro (u) (Exists.intro (0) (Exists.intro (ii) (Exists.intro (nn) (And.intro (hk4) (And.intro (hf8) (And.intro (by omega) (And.intro (rfl) (And.intro (by omega) (And.intro (hC1) (And.intro (hl) (And.intro (hz) (And.intro (rfl) (And.intro (rfl) (And.intro (rfl) (And.intro (rfl) (And.intro (rfl) (fun I2 L2 hC2 => ?_)))))))))))))))))))))))
                    dsimp only
                    have eM : g_lv G kind u f nn (fun k => it 0 (ii + k)) = M u := by rw [← hM]
                    rw [eM]
                    by_cases hm : M u = true
                    · have e1 : g_tr M (G 25) (u + 1) = ((g_tr M (G 25) u).1 + 1, (g_tr M (G 25) u).2.1 &&& nI u, (g_tr M (G 25) u).2.2 &&& (nI u ^^^ (-1))) := by
                        simp only [g_tr]; rw [if_pos ⟨g_dif_0.mpr hu, hm⟩]
                      have ha := aft I2 L2 hC2
                      rw [e1] at ha
                      refine am_f (am_bp hm) ?_
                      show G2 134 [some (.ref 0), some (.int (nI kind)), some (.int (nI f)), some (.int (nI 0)), some (.int a), some (.int (nI ii)), some (.int (nI nn)), some (.int what), some (.ref 26), some (.int 0), some (.int (nI (g_tr M (G 25) u).1 + 1)), some (.int ((g_tr M (G 25) u).2.1 &&& nI u)), some (.int ((g_tr M (G 25) u).2.2 &&& (nI u ^^^ (-1)))), some (.int (nI u)), some (.int (nI k))] [] I2 L2
                      rw [nI_1]
                      exact ha
                    · have e1 : g_tr M (G 25) (u + 1) = g_tr M (G 25) u := by
                        simp only [g_tr]; rw [if_neg (fun z => hm z.2)]
                      have ha := aft I2 L2 hC2
                      rw [e1] at ha
                      exact am_t (am_bn hm) ha
                exact loop 64 0 0 I L (by omega) (by omega) hC (fun b hb => by simp at hb) (Nat.zero_le _)
              · rw [if_pos (fun z => hi (br.mp z))] at h
                have e : o_bars ln sz 0 a i (nI nn) = -13 := by rw [o_bars_0 hl hla, if_neg hi]
                rw [e] at h
                exact am_nf (am_bn hi) (h I L hC)
            · have e : o_bars ln sz 0 a i (nI nn) = -12 := by unfold o_bars; rw [if_neg hl, if_pos hla]
              rw [e, if_pos (by decide)] at h
              rw [if_neg (fun z => hla (q.1.symm.trans z))]
              exact am_f (by decide) (h I L hC)
        · have q : I 28 1 = ln 1 ∧ (¬ ln 1 = -1 → I 28 2 = nI (sz 1)) ∧ ∀ j, j < 24 → L 29 j = it 1 j := hSh 1 (by omega)
          have hz24 := (hV.2.2.2.2 1 (by omega)).2
          have h25 : G 25 < 4096 := hW.2.2.2.1
          refine hG2 [(91, [])] 100 0 _ _ _ _ (am_f (am_bp hP) (am_nt (am_bp hw) (And.intro (am_vin (N := 4) (n := 1) (by omega) rfl) (And.intro rfl (And.intro (by decide) (am_alS (s := 1) (o := 28) (by omega) rfl (And.intro (Or.inr (Or.inl rfl)) ?_)))))))
          by_cases hl : ln 1 = -1
          · have e : o_bars ln sz 1 a i (nI nn) = -11 := by unfold o_bars; rw [if_pos hl]
            rw [e, if_pos (by decide)] at h
            rw [if_pos (q.1.trans hl)]
            exact am_f (by decide) (h I L hC)
          · rw [if_neg (fun z => hl (q.1.symm.trans z))]
            by_cases hla : ln 1 = a
            · rw [if_pos (q.1.trans hla)]
              refine am_t rfl (And.intro (Or.inr (Or.inl rfl)) ?_)
              have br := @o_bars_ran ln sz 1 a i (nI nn) hl hla
              rw [am_has hz24 (q.2.1 hl)]
              by_cases hi : 0 ≤ i.toInt ∧ 0 ≤ (nI nn).toInt ∧ i.toInt + (nI nn).toInt ≤ (sz 1 : Int)
              · rw [if_neg (fun z => z (br.mpr hi))] at h
                refine am_nt (am_bp hi) ?_
                obtain ⟨ii, hii, rfl⟩ := nI_of (am_n0 hi.1)
                rw [nI_toInt hii, nI_toInt (by omega)] at hi
                rw [nI_clamp hii] at h
                have hz : ii + nn ≤ sz 1 := by omega
                show G2 91 [some (.ref 0), some (.int (nI kind)), some (.int (nI f)), some (.int (nI 1)), some (.int a), some (.int (nI ii)), some (.int (nI nn)), some (.int what), some (.ref 28), some (.int 0), some (.int (0)), some (.int (I 1 6)), some (.int (I 1 6)), some (.int (0)), some (.int (0))] [] I L
                rw [hR.2.1]
                generalize hM : (fun m => g_lv G kind m f nn (fun k => it 1 (ii + k))) = M at h
                have fin : ∀ (I1 : am_I) (L1 : am_J) (sn kk : Int32), CR I1 L1 (G, K, hk, tn, tt, ln, sz, it) → G2 168 [some (.ref 0), some (.int (nI kind)), some (.int (nI f)), some (.int (nI 1)), some (.int a), some (.int (nI ii)), some (.int (nI nn)), some (.int what), some (.ref 28), some (.int 0), some (.int (nI (g_tr M (G 25) (4096)).1)), some (.int ((g_tr M (G 25) (4096)).2.1)), some (.int ((g_tr M (G 25) (4096)).2.2)), some (.int (sn)), some (.int (kk))] [] I1 L1 := by
                  intro I1 L1 sn kk hC1
                  have hle := g_tr_le M (G 25) 4096
                  refine hG2 [] 100 168 _ _ _ _ ?_
                  by_cases w0 : what = 0
                  · rw [if_pos w0] at h
                    exact am_nf w0 (h I1 L1 hC1)
                  · rw [if_neg w0] at h
                    refine am_nt w0 ?_
                    by_cases c0 : (g_tr M (G 25) 4096).1 = 0
                    · rw [if_pos c0] at h
                      exact am_nf (by rw [c0]; rfl) (h I1 L1 hC1)
                    · rw [if_neg c0] at h
                      refine am_nt (nI_ne0 (by omega) (by omega)) ?_
                      by_cases w1 : what = 1
                      · rw [if_pos w1] at h
                        exact am_nf w1 (h I1 L1 hC1)
                      · rw [if_neg w1] at h
                        exact am_nt w1 (h I1 L1 hC1)
                have loop : ∀ d u k (I1 : am_I) (L1 : am_J), 64 - k = d → k ≤ 64 → CR I1 L1 (G, K, hk, tn, tt, ln, sz, it) → (∀ b, u.testBit b = true → (G 25).testBit b = true) → k ≤ g_cnt (fun v => decide (g_dif v (G 25) = 0)) u → G2 91 [some (.ref 0), some (.int (nI kind)), some (.int (nI f)), some (.int (nI 1)), some (.int a), some (.int (nI ii)), some (.int (nI nn)), some (.int what), some (.ref 28), some (.int 0), some (.int (nI (g_tr M (G 25) (u)).1)), some (.int ((g_tr M (G 25) (u)).2.1)), some (.int ((g_tr M (G 25) (u)).2.2)), some (.int (nI u)), some (.int (nI k))] [] I1 L1 := by
                  intro d
                  induction d with
                  | zero =>
                    intro u k I1 L1 hd hk64 hC1 hu hc
                    exfalso
                    have hud := am_sub_le hu
                    have h1 := g_cnt_mono (fun v => decide (g_dif v (G 25) = 0)) (show u + 1 ≤ 2 ^ 12 by omega)
                    rw [am_many] at h1
                    have h2 : 2 ^ g_pc (G 25) 12 ≤ 2 ^ 6 := Nat.pow_le_pow_right (by omega) hV.1.2.2.2.2.2.1
                    have h3 := g_cnt_at (P := fun v => decide (g_dif v (G 25) = 0)) (u := u) (decide_eq_true (g_dif_0.mpr hu))
                    omega
                  | succ d ih =>
                    intro u k I1 L1 hd hk64 hC1 hu hc
                    have hud := am_sub_le hu
                    have aft : ∀ (I2 : am_I) (L2 : am_J), CR I2 L2 (G, K, hk, tn, tt, ln, sz, it) → G2 134 [some (.ref 0), some (.int (nI kind)), some (.int (nI f)), some (.int (nI 1)), some (.int a), some (.int (nI ii)), some (.int (nI nn)), some (.int what), some (.ref 28), some (.int 0), some (.int (nI (g_tr M (G 25) (u + 1)).1)), some (.int ((g_tr M (G 25) (u + 1)).2.1)), some (.int ((g_tr M (G 25) (u + 1)).2.2)), some (.int (nI u)), some (.int (nI k))] [] I2 L2 := by
                      intro I2 L2 hC2
                      have h6 : I2 1 6 = nI (G 25) := hC2.2.1.2.1
                      refine hG2 [(91, []), (168, [])] 100 134 _ _ _ _ ?_
                      show (¬ (nI u - I2 1 6) &&& I2 1 6 = 0 → G2 91 [some (.ref 0), some (.int (nI kind)), some (.int (nI f)), some (.int (nI 1)), some (.int a), some (.int (nI ii)), some (.int (nI nn)), some (.int what), some (.ref 28), some (.int 0), some (.int (nI (g_tr M (G 25) (u + 1)).1)), some (.int ((g_tr M (G 25) (u + 1)).2.1)), some (.int ((g_tr M (G 25) (u + 1)).2.2)), some (.int ((nI u - I2 1 6) &&& I2 1 6)), some (.int (nI k + 1))] [] I2 L2) ∧ ((nI u - I2 1 6) &&& I2 1 6 = 0 → G2 168 [some (.ref 0), some (.int (nI kind)), some (.int (nI f)), some (.int (nI 1)), some (.int a), some (.int (nI ii)), some (.int (nI nn)), some (.int what), some (.ref 28), some (.int 0), some (.int (nI (g_tr M (G 25) (u + 1)).1)), some (.int ((g_tr M (G 25) (u + 1)).2.1)), some (.int ((g_tr M (G 25) (u + 1)).2.2)), some (.int ((nI u - I2 1 6) &&& I2 1 6)), some (.int (nI k))] [] I2 L2)
                      rw [h6, am_nxt_I hu, nI_1]
                      by_cases e : u = G 25
                      · refine am_nf (by unfold am_nxt; rw [if_pos e]; rfl) ?_
                        have e2 := g_tr_skip M (G 25) (u + 1) (4095 - u) (fun v h1 h2 z => by have := am_sub_le (g_dif_0.mp z); omega)
                        rw [show u + 1 + (4095 - u) = 4096 by omega] at e2
                        rw [← e2]
                        exact fin I2 L2 _ _ hC2
                      · obtain ⟨n1, n2, n3⟩ := am_nxt_spec hu e
                        have n4 := am_sub_le n1
                        refine am_nt (nI_ne0 (by omega) (by omega)) ?_
                        have e2 := g_tr_skip M (G 25) (u + 1) (am_nxt (G 25) u - (u + 1)) (fun v h1 h2 z => by have := n3 v (g_dif_0.mp z) (by omega); omega)
                        rw [show u + 1 + (am_nxt (G 25) u - (u + 1)) = am_nxt (G 25) u by omega] at e2
                        rw [← e2]
                        refine ih _ (k + 1) I2 L2 (by omega) (by omega) hC2 n1 ?_
                        have h1 := g_cnt_mono (fun v => decide (g_dif v (G 25) = 0)) (show u + 1 ≤ am_nxt (G 25) u by omega)
                        have h3 := g_cnt_at (P := fun v => decide (g_dif v (G 25) = 0)) (u := u) (decide_eq_true (g_dif_0.mpr hu))
                        omega
                    refine hG2 [(134, [])] 100 91 _ _ _ _ (am_nf (am_lt (show k < 64 by omega) rfl) (And.intro (rfl) (Exists.intro ((G, K, hk, tn, tt, ln, sz, it)) (Exists.intro (kind) (Exists.intro (f) (Exists.intro (u) (Exists.intro (1) (Exists.intro (ii) (Exists.intro (nn) (And.intro (hk4) (And.intro (hf8) (And.intro (by omega) (And.intro (rfl) (And.intro (by omega) (And.intro (hC1) (And.intro (hl) (And.intro (hz) (And.intro (rfl) (And.intro (rfl) (And.intro (rfl) (And.intro (rfl) (And.intro (rfl) (fun I2 L2 hC2 => ?_)))))))))))))))))))))))
                    dsimp only
                    have eM : g_lv G kind u f nn (fun k => it 1 (ii + k)) = M u := by rw [← hM]
                    rw [eM]
                    by_cases hm : M u = true
                    · have e1 : g_tr M (G 25) (u + 1) = ((g_tr M (G 25) u).1 + 1, (g_tr M (G 25) u).2.1 &&& nI u, (g_tr M (G 25) u).2.2 &&& (nI u ^^^ (-1))) := by
                        simp only [g_tr]; rw [if_pos ⟨g_dif_0.mpr hu, hm⟩]
                      have ha := aft I2 L2 hC2
                      rw [e1] at ha
                      refine am_f (am_bp hm) ?_
                      show G2 134 [some (.ref 0), some (.int (nI kind)), some (.int (nI f)), some (.int (nI 1)), some (.int a), some (.int (nI ii)), some (.int (nI nn)), some (.int what), some (.ref 28), some (.int 0), some (.int (nI (g_tr M (G 25) u).1 + 1)), some (.int ((g_tr M (G 25) u).2.1 &&& nI u)), some (.int ((g_tr M (G 25) u).2.2 &&& (nI u ^^^ (-1)))), some (.int (nI u)), some (.int (nI k))] [] I2 L2
                      rw [nI_1]
                      exact ha
                    · have e1 : g_tr M (G 25) (u + 1) = g_tr M (G 25) u := by
                        simp only [g_tr]; rw [if_neg (fun z => hm z.2)]
                      have ha := aft I2 L2 hC2
                      rw [e1] at ha
                      exact am_t (am_bn hm) ha
                exact loop 64 0 0 I L (by omega) (by omega) hC (fun b hb => by simp at hb) (Nat.zero_le _)
              · rw [if_pos (fun z => hi (br.mp z))] at h
                have e : o_bars ln sz 1 a i (nI nn) = -13 := by rw [o_bars_0 hl hla, if_neg hi]
                rw [e] at h
                exact am_nf (am_bn hi) (h I L hC)
            · have e : o_bars ln sz 1 a i (nI nn) = -12 := by unfold o_bars; rw [if_neg hl, if_pos hla]
              rw [e, if_pos (by decide)] at h
              rw [if_neg (fun z => hla (q.1.symm.trans z))]
              exact am_f (by decide) (h I L hC)
        · have q : I 30 1 = ln 2 ∧ (¬ ln 2 = -1 → I 30 2 = nI (sz 2)) ∧ ∀ j, j < 24 → L 31 j = it 2 j := hSh 2 (by omega)
          have hz24 := (hV.2.2.2.2 2 (by omega)).2
          have h25 : G 25 < 4096 := hW.2.2.2.1
          refine hG2 [(91, [])] 100 0 _ _ _ _ (am_f (am_bp hP) (am_nt (am_bp hw) (And.intro (am_vin (N := 4) (n := 2) (by omega) rfl) (And.intro rfl (And.intro (by decide) (am_alS (s := 2) (o := 30) (by omega) rfl (And.intro (Or.inr (Or.inr (Or.inl rfl))) ?_)))))))
          by_cases hl : ln 2 = -1
          · have e : o_bars ln sz 2 a i (nI nn) = -11 := by unfold o_bars; rw [if_pos hl]
            rw [e, if_pos (by decide)] at h
            rw [if_pos (q.1.trans hl)]
            exact am_f (by decide) (h I L hC)
          · rw [if_neg (fun z => hl (q.1.symm.trans z))]
            by_cases hla : ln 2 = a
            · rw [if_pos (q.1.trans hla)]
              refine am_t rfl (And.intro (Or.inr (Or.inr (Or.inl rfl))) ?_)
              have br := @o_bars_ran ln sz 2 a i (nI nn) hl hla
              rw [am_has hz24 (q.2.1 hl)]
              by_cases hi : 0 ≤ i.toInt ∧ 0 ≤ (nI nn).toInt ∧ i.toInt + (nI nn).toInt ≤ (sz 2 : Int)
              · rw [if_neg (fun z => z (br.mpr hi))] at h
                refine am_nt (am_bp hi) ?_
                obtain ⟨ii, hii, rfl⟩ := nI_of (am_n0 hi.1)
                rw [nI_toInt hii, nI_toInt (by omega)] at hi
                rw [nI_clamp hii] at h
                have hz : ii + nn ≤ sz 2 := by omega
                show G2 91 [some (.ref 0), some (.int (nI kind)), some (.int (nI f)), some (.int (nI 2)), some (.int a), some (.int (nI ii)), some (.int (nI nn)), some (.int what), some (.ref 30), some (.int 0), some (.int (0)), some (.int (I 1 6)), some (.int (I 1 6)), some (.int (0)), some (.int (0))] [] I L
                rw [hR.2.1]
                generalize hM : (fun m => g_lv G kind m f nn (fun k => it 2 (ii + k))) = M at h
                have fin : ∀ (I1 : am_I) (L1 : am_J) (sn kk : Int32), CR I1 L1 (G, K, hk, tn, tt, ln, sz, it) → G2 168 [some (.ref 0), some (.int (nI kind)), some (.int (nI f)), some (.int (nI 2)), some (.int a), some (.int (nI ii)), some (.int (nI nn)), some (.int what), some (.ref 30), some (.int 0), some (.int (nI (g_tr M (G 25) (4096)).1)), some (.int ((g_tr M (G 25) (4096)).2.1)), some (.int ((g_tr M (G 25) (4096)).2.2)), some (.int (sn)), some (.int (kk))] [] I1 L1 := by
                  intro I1 L1 sn kk hC1
                  have hle := g_tr_le M (G 25) 4096
                  refine hG2 [] 100 168 _ _ _ _ ?_
                  by_cases w0 : what = 0
                  · rw [if_pos w0] at h
                    exact am_nf w0 (h I1 L1 hC1)
                  · rw [if_neg w0] at h
                    refine am_nt w0 ?_
                    by_cases c0 : (g_tr M (G 25) 4096).1 = 0
                    · rw [if_pos c0] at h
                      exact am_nf (by rw [c0]; rfl) (h I1 L1 hC1)
                    · rw [if_neg c0] at h
                      refine am_nt (nI_ne0 (by omega) (by omega)) ?_
                      by_cases w1 : what = 1
                      · rw [if_pos w1] at h
                        exact am_nf w1 (h I1 L1 hC1)
                      · rw [if_neg w1] at h
                        exact am_nt w1 (h I1 L1 hC1)
                have loop : ∀ d u k (I1 : am_I) (L1 : am_J), 64 - k = d → k ≤ 64 → CR I1 L1 (G, K, hk, tn, tt, ln, sz, it) → (∀ b, u.testBit b = true → (G 25).testBit b = true) → k ≤ g_cnt (fun v => decide (g_dif v (G 25) = 0)) u → G2 91 [some (.ref 0), some (.int (nI kind)), some (.int (nI f)), some (.int (nI 2)), some (.int a), some (.int (nI ii)), some (.int (nI nn)), some (.int what), some (.ref 30), some (.int 0), some (.int (nI (g_tr M (G 25) (u)).1)), some (.int ((g_tr M (G 25) (u)).2.1)), some (.int ((g_tr M (G 25) (u)).2.2)), some (.int (nI u)), some (.int (nI k))] [] I1 L1 := by
                  intro d
                  induction d with
                  | zero =>
                    intro u k I1 L1 hd hk64 hC1 hu hc
                    exfalso
                    have hud := am_sub_le hu
                    have h1 := g_cnt_mono (fun v => decide (g_dif v (G 25) = 0)) (show u + 1 ≤ 2 ^ 12 by omega)
                    rw [am_many] at h1
                    have h2 : 2 ^ g_pc (G 25) 12 ≤ 2 ^ 6 := Nat.pow_le_pow_right (by omega) hV.1.2.2.2.2.2.1
                    have h3 := g_cnt_at (P := fun v => decide (g_dif v (G 25) = 0)) (u := u) (decide_eq_true (g_dif_0.mpr hu))
                    omega
                  | succ d ih =>
                    intro u k I1 L1 hd hk64 hC1 hu hc
                    have hud := am_sub_le hu
                    have aft : ∀ (I2 : am_I) (L2 : am_J), CR I2 L2 (G, K, hk, tn, tt, ln, sz, it) → G2 134 [some (.ref 0), some (.int (nI kind)), some (.int (nI f)), some (.int (nI 2)), some (.int a), some (.int (nI ii)), some (.int (nI nn)), some (.int what), some (.ref 30), some (.int 0), some (.int (nI (g_tr M (G 25) (u + 1)).1)), some (.int ((g_tr M (G 25) (u + 1)).2.1)), some (.int ((g_tr M (G 25) (u + 1)).2.2)), some (.int (nI u)), some (.int (nI k))] [] I2 L2 := by
                      intro I2 L2 hC2
                      have h6 : I2 1 6 = nI (G 25) := hC2.2.1.2.1
                      refine hG2 [(91, []), (168, [])] 100 134 _ _ _ _ ?_
                      show (¬ (nI u - I2 1 6) &&& I2 1 6 = 0 → G2 91 [some (.ref 0), some (.int (nI kind)), some (.int (nI f)), some (.int (nI 2)), some (.int a), some (.int (nI ii)), some (.int (nI nn)), some (.int what), some (.ref 30), some (.int 0), some (.int (nI (g_tr M (G 25) (u + 1)).1)), some (.int ((g_tr M (G 25) (u + 1)).2.1)), some (.int ((g_tr M (G 25) (u + 1)).2.2)), some (.int ((nI u - I2 1 6) &&& I2 1 6)), some (.int (nI k + 1))] [] I2 L2) ∧ ((nI u - I2 1 6) &&& I2 1 6 = 0 → G2 168 [some (.ref 0), some (.int (nI kind)), some (.int (nI f)), some (.int (nI 2)), some (.int a), some (.int (nI ii)), some (.int (nI nn)), some (.int what), some (.ref 30), some (.int 0), some (.int (nI (g_tr M (G 25) (u + 1)).1)), some (.int ((g_tr M (G 25) (u + 1)).2.1)), some (.int ((g_tr M (G 25) (u + 1)).2.2)), some (.int ((nI u - I2 1 6) &&& I2 1 6)), some (.int (nI k))] [] I2 L2)
                      rw [h6, am_nxt_I hu, nI_1]
                      by_cases e : u = G 25
                      · refine am_nf (by unfold am_nxt; rw [if_pos e]; rfl) ?_
                        have e2 := g_tr_skip M (G 25) (u + 1) (4095 - u) (fun v h1 h2 z => by have := am_sub_le (g_dif_0.mp z); omega)
                        rw [show u + 1 + (4095 - u) = 4096 by omega] at e2
                        rw [← e2]
                        exact fin I2 L2 _ _ hC2
                      · obtain ⟨n1, n2, n3⟩ := am_nxt_spec hu e
                        have n4 := am_sub_le n1
                        refine am_nt (nI_ne0 (by omega) (by omega)) ?_
                        have e2 := g_tr_skip M (G 25) (u + 1) (am_nxt (G 25) u - (u + 1)) (fun v h1 h2 z => by have := n3 v (g_dif_0.mp z) (by omega); omega)
                        rw [show u + 1 + (am_nxt (G 25) u - (u + 1)) = am_nxt (G 25) u by omega] at e2
                        rw [← e2]
                        refine ih _ (k + 1) I2 L2 (by omega) (by omega) hC2 n1 ?_
                        have h1 := g_cnt_mono (fun v => decide (g_dif v (G 25) = 0)) (show u + 1 ≤ am_nxt (G 25) u by omega)
                        have h3 := g_cnt_at (P := fun v => decide (g_dif v (G 25) = 0)) (u := u) (decide_eq_true (g_dif_0.mpr hu))
                        omega
                    refine hG2 [(134, [])] 100 91 _ _ _ _ (am_nf (am_lt (show k < 64 by omega) rfl) (And.intro (rfl) (Exists.intro ((G, K, hk, tn, tt, ln, sz, it)) (Exists.intro (kind) (Exists.intro (f) (Exists.intro (u) (Exists.intro (2) (Exists.intro (ii) (Exists.intro (nn) (And.intro (hk4) (And.intro (hf8) (And.intro (by omega) (And.intro (rfl) (And.intro (by omega) (And.intro (hC1) (And.intro (hl) (And.intro (hz) (And.intro (rfl) (And.intro (rfl) (And.intro (rfl) (And.intro (rfl) (And.intro (rfl) (fun I2 L2 hC2 => ?_)))))))))))))))))))))))
                    dsimp only
                    have eM : g_lv G kind u f nn (fun k => it 2 (ii + k)) = M u := by rw [← hM]
                    rw [eM]
                    by_cases hm : M u = true
                    · have e1 : g_tr M (G 25) (u + 1) = ((g_tr M (G 25) u).1 + 1, (g_tr M (G 25) u).2.1 &&& nI u, (g_tr M (G 25) u).2.2 &&& (nI u ^^^ (-1))) := by
                        simp only [g_tr]; rw [if_pos ⟨g_dif_0.mpr hu, hm⟩]
                      have ha := aft I2 L2 hC2
                      rw [e1] at ha
                      refine am_f (am_bp hm) ?_
                      show G2 134 [some (.ref 0), some (.int (nI kind)), some (.int (nI f)), some (.int (nI 2)), some (.int a), some (.int (nI ii)), some (.int (nI nn)), some (.int what), some (.ref 30), some (.int 0), some (.int (nI (g_tr M (G 25) u).1 + 1)), some (.int ((g_tr M (G 25) u).2.1 &&& nI u)), some (.int ((g_tr M (G 25) u).2.2 &&& (nI u ^^^ (-1)))), some (.int (nI u)), some (.int (nI k))] [] I2 L2
                      rw [nI_1]
                      exact ha
                    · have e1 : g_tr M (G 25) (u + 1) = g_tr M (G 25) u := by
                        simp only [g_tr]; rw [if_neg (fun z => hm z.2)]
                      have ha := aft I2 L2 hC2
                      rw [e1] at ha
                      exact am_t (am_bn hm) ha
                exact loop 64 0 0 I L (by omega) (by omega) hC (fun b hb => by simp at hb) (Nat.zero_le _)
              · rw [if_pos (fun z => hi (br.mp z))] at h
                have e : o_bars ln sz 2 a i (nI nn) = -13 := by rw [o_bars_0 hl hla, if_neg hi]
                rw [e] at h
                exact am_nf (am_bn hi) (h I L hC)
            · have e : o_bars ln sz 2 a i (nI nn) = -12 := by unfold o_bars; rw [if_neg hl, if_pos hla]
              rw [e, if_pos (by decide)] at h
              rw [if_neg (fun z => hla (q.1.symm.trans z))]
              exact am_f (by decide) (h I L hC)
        · have q : I 32 1 = ln 3 ∧ (¬ ln 3 = -1 → I 32 2 = nI (sz 3)) ∧ ∀ j, j < 24 → L 33 j = it 3 j := hSh 3 (by omega)
          have hz24 := (hV.2.2.2.2 3 (by omega)).2
          have h25 : G 25 < 4096 := hW.2.2.2.1
          refine hG2 [(91, [])] 100 0 _ _ _ _ (am_f (am_bp hP) (am_nt (am_bp hw) (And.intro (am_vin (N := 4) (n := 3) (by omega) rfl) (And.intro rfl (And.intro (by decide) (am_alS (s := 3) (o := 32) (by omega) rfl (And.intro (Or.inr (Or.inr (Or.inr rfl))) ?_)))))))
          by_cases hl : ln 3 = -1
          · have e : o_bars ln sz 3 a i (nI nn) = -11 := by unfold o_bars; rw [if_pos hl]
            rw [e, if_pos (by decide)] at h
            rw [if_pos (q.1.trans hl)]
            exact am_f (by decide) (h I L hC)
          · rw [if_neg (fun z => hl (q.1.symm.trans z))]
            by_cases hla : ln 3 = a
            · rw [if_pos (q.1.trans hla)]
              refine am_t rfl (And.intro (Or.inr (Or.inr (Or.inr rfl))) ?_)
              have br := @o_bars_ran ln sz 3 a i (nI nn) hl hla
              rw [am_has hz24 (q.2.1 hl)]
              by_cases hi : 0 ≤ i.toInt ∧ 0 ≤ (nI nn).toInt ∧ i.toInt + (nI nn).toInt ≤ (sz 3 : Int)
              · rw [if_neg (fun z => z (br.mpr hi))] at h
                refine am_nt (am_bp hi) ?_
                obtain ⟨ii, hii, rfl⟩ := nI_of (am_n0 hi.1)
                rw [nI_toInt hii, nI_toInt (by omega)] at hi
                rw [nI_clamp hii] at h
                have hz : ii + nn ≤ sz 3 := by omega
                show G2 91 [some (.ref 0), some (.int (nI kind)), some (.int (nI f)), some (.int (nI 3)), some (.int a), some (.int (nI ii)), some (.int (nI nn)), some (.int what), some (.ref 32), some (.int 0), some (.int (0)), some (.int (I 1 6)), some (.int (I 1 6)), some (.int (0)), some (.int (0))] [] I L
                rw [hR.2.1]
                generalize hM : (fun m => g_lv G kind m f nn (fun k => it 3 (ii + k))) = M at h
                have fin : ∀ (I1 : am_I) (L1 : am_J) (sn kk : Int32), CR I1 L1 (G, K, hk, tn, tt, ln, sz, it) → G2 168 [some (.ref 0), some (.int (nI kind)), some (.int (nI f)), some (.int (nI 3)), some (.int a), some (.int (nI ii)), some (.int (nI nn)), some (.int what), some (.ref 32), some (.int 0), some (.int (nI (g_tr M (G 25) (4096)).1)), some (.int ((g_tr M (G 25) (4096)).2.1)), some (.int ((g_tr M (G 25) (4096)).2.2)), some (.int (sn)), some (.int (kk))] [] I1 L1 := by
                  intro I1 L1 sn kk hC1
                  have hle := g_tr_le M (G 25) 4096
                  refine hG2 [] 100 168 _ _ _ _ ?_
                  by_cases w0 : what = 0
                  · rw [if_pos w0] at h
                    exact am_nf w0 (h I1 L1 hC1)
                  · rw [if_neg w0] at h
                    refine am_nt w0 ?_
                    by_cases c0 : (g_tr M (G 25) 4096).1 = 0
                    · rw [if_pos c0] at h
                      exact am_nf (by rw [c0]; rfl) (h I1 L1 hC1)
                    · rw [if_neg c0] at h
                      refine am_nt (nI_ne0 (by omega) (by omega)) ?_
                      by_cases w1 : what = 1
                      · rw [if_pos w1] at h
                        exact am_nf w1 (h I1 L1 hC1)
                      · rw [if_neg w1] at h
                        exact am_nt w1 (h I1 L1 hC1)
                have loop : ∀ d u k (I1 : am_I) (L1 : am_J), 64 - k = d → k ≤ 64 → CR I1 L1 (G, K, hk, tn, tt, ln, sz, it) → (∀ b, u.testBit b = true → (G 25).testBit b = true) → k ≤ g_cnt (fun v => decide (g_dif v (G 25) = 0)) u → G2 91 [some (.ref 0), some (.int (nI kind)), some (.int (nI f)), some (.int (nI 3)), some (.int a), some (.int (nI ii)), some (.int (nI nn)), some (.int what), some (.ref 32), some (.int 0), some (.int (nI (g_tr M (G 25) (u)).1)), some (.int ((g_tr M (G 25) (u)).2.1)), some (.int ((g_tr M (G 25) (u)).2.2)), some (.int (nI u)), some (.int (nI k))] [] I1 L1 := by
                  intro d
                  induction d with
                  | zero =>
                    intro u k I1 L1 hd hk64 hC1 hu hc
                    exfalso
                    have hud := am_sub_le hu
                    have h1 := g_cnt_mono (fun v => decide (g_dif v (G 25) = 0)) (show u + 1 ≤ 2 ^ 12 by omega)
                    rw [am_many] at h1
                    have h2 : 2 ^ g_pc (G 25) 12 ≤ 2 ^ 6 := Nat.pow_le_pow_right (by omega) hV.1.2.2.2.2.2.1
                    have h3 := g_cnt_at (P := fun v => decide (g_dif v (G 25) = 0)) (u := u) (decide_eq_true (g_dif_0.mpr hu))
                    omega
                  | succ d ih =>
                    intro u k I1 L1 hd hk64 hC1 hu hc
                    have hud := am_sub_le hu
                    have aft : ∀ (I2 : am_I) (L2 : am_J), CR I2 L2 (G, K, hk, tn, tt, ln, sz, it) → G2 134 [some (.ref 0), some (.int (nI kind)), some (.int (nI f)), some (.int (nI 3)), some (.int a), some (.int (nI ii)), some (.int (nI nn)), some (.int what), some (.ref 32), some (.int 0), some (.int (nI (g_tr M (G 25) (u + 1)).1)), some (.int ((g_tr M (G 25) (u + 1)).2.1)), some (.int ((g_tr M (G 25) (u + 1)).2.2)), some (.int (nI u)), some (.int (nI k))] [] I2 L2 := by
                      intro I2 L2 hC2
                      have h6 : I2 1 6 = nI (G 25) := hC2.2.1.2.1
                      refine hG2 [(91, []), (168, [])] 100 134 _ _ _ _ ?_
                      show (¬ (nI u - I2 1 6) &&& I2 1 6 = 0 → G2 91 [some (.ref 0), some (.int (nI kind)), some (.int (nI f)), some (.int (nI 3)), some (.int a), some (.int (nI ii)), some (.int (nI nn)), some (.int what), some (.ref 32), some (.int 0), some (.int (nI (g_tr M (G 25) (u + 1)).1)), some (.int ((g_tr M (G 25) (u + 1)).2.1)), some (.int ((g_tr M (G 25) (u + 1)).2.2)), some (.int ((nI u - I2 1 6) &&& I2 1 6)), some (.int (nI k + 1))] [] I2 L2) ∧ ((nI u - I2 1 6) &&& I2 1 6 = 0 → G2 168 [some (.ref 0), some (.int (nI kind)), some (.int (nI f)), some (.int (nI 3)), some (.int a), some (.int (nI ii)), some (.int (nI nn)), some (.int what), some (.ref 32), some (.int 0), some (.int (nI (g_tr M (G 25) (u + 1)).1)), some (.int ((g_tr M (G 25) (u + 1)).2.1)), some (.int ((g_tr M (G 25) (u + 1)).2.2)), some (.int ((nI u - I2 1 6) &&& I2 1 6)), some (.int (nI k))] [] I2 L2)
                      rw [h6, am_nxt_I hu, nI_1]
                      by_cases e : u = G 25
                      · refine am_nf (by unfold am_nxt; rw [if_pos e]; rfl) ?_
                        have e2 := g_tr_skip M (G 25) (u + 1) (4095 - u) (fun v h1 h2 z => by have := am_sub_le (g_dif_0.mp z); omega)
                        rw [show u + 1 + (4095 - u) = 4096 by omega] at e2
                        rw [← e2]
                        exact fin I2 L2 _ _ hC2
                      · obtain ⟨n1, n2, n3⟩ := am_nxt_spec hu e
                        have n4 := am_sub_le n1
                        refine am_nt (nI_ne0 (by omega) (by omega)) ?_
                        have e2 := g_tr_skip M (G 25) (u + 1) (am_nxt (G 25) u - (u + 1)) (fun v h1 h2 z => by have := n3 v (g_dif_0.mp z) (by omega); omega)
                        rw [show u + 1 + (am_nxt (G 25) u - (u + 1)) = am_nxt (G 25) u by omega] at e2
                        rw [← e2]
                        refine ih _ (k + 1) I2 L2 (by omega) (by omega) hC2 n1 ?_
                        have h1 := g_cnt_mono (fun v => decide (g_dif v (G 25) = 0)) (show u + 1 ≤ am_nxt (G 25) u by omega)
                        have h3 := g_cnt_at (P := fun v => decide (g_dif v (G 25) = 0)) (u := u) (decide_eq_true (g_dif_0.mpr hu))
                        omega
                    refine hG2 [(134, [])] 100 91 _ _ _ _ (am_nf (am_lt (show k < 64 by omega) rfl) (And.intro (rfl) (Exists.intro ((G, K, hk, tn, tt, ln, sz, it)) (Exists.intro (kind) (Exists.intro (f) (Exists.intro (u) (Exists.intro (3) (Exists.intro (ii) (Exists.intro (nn) (And.intro (hk4) (And.intro (hf8) (And.intro (by omega) (And.intro (rfl) (And.intro (by omega) (And.intro (hC1) (And.intro (hl) (And.intro (hz) (And.intro (rfl) (And.intro (rfl) (And.intro (rfl) (And.intro (rfl) (And.intro (rfl) (fun I2 L2 hC2 => ?_)))))))))))))))))))))))
                    dsimp only
                    have eM : g_lv G kind u f nn (fun k => it 3 (ii + k)) = M u := by rw [← hM]
                    rw [eM]
                    by_cases hm : M u = true
                    · have e1 : g_tr M (G 25) (u + 1) = ((g_tr M (G 25) u).1 + 1, (g_tr M (G 25) u).2.1 &&& nI u, (g_tr M (G 25) u).2.2 &&& (nI u ^^^ (-1))) := by
                        simp only [g_tr]; rw [if_pos ⟨g_dif_0.mpr hu, hm⟩]
                      have ha := aft I2 L2 hC2
                      rw [e1] at ha
                      refine am_f (am_bp hm) ?_
                      show G2 134 [some (.ref 0), some (.int (nI kind)), some (.int (nI f)), some (.int (nI 3)), some (.int a), some (.int (nI ii)), some (.int (nI nn)), some (.int what), some (.ref 32), some (.int 0), some (.int (nI (g_tr M (G 25) u).1 + 1)), some (.int ((g_tr M (G 25) u).2.1 &&& nI u)), some (.int ((g_tr M (G 25) u).2.2 &&& (nI u ^^^ (-1)))), some (.int (nI u)), some (.int (nI k))] [] I2 L2
                      rw [nI_1]
                      exact ha
                    · have e1 : g_tr M (G 25) (u + 1) = g_tr M (G 25) u := by
                        simp only [g_tr]; rw [if_neg (fun z => hm z.2)]
                      have ha := aft I2 L2 hC2
                      rw [e1] at ha
                      exact am_t (am_bn hm) ha
                exact loop 64 0 0 I L (by omega) (by omega) hC (fun b hb => by simp at hb) (Nat.zero_le _)
              · rw [if_pos (fun z => hi (br.mp z))] at h
                have e : o_bars ln sz 3 a i (nI nn) = -13 := by rw [o_bars_0 hl hla, if_neg hi]
                rw [e] at h
                exact am_nf (am_bn hi) (h I L hC)
            · have e : o_bars ln sz 3 a i (nI nn) = -12 := by unfold o_bars; rw [if_neg hl, if_pos hla]
              rw [e, if_pos (by decide)] at h
              rw [if_neg (fun z => hla (q.1.symm.trans z))]
              exact am_f (by decide) (h I L hC)
      · rw [if_pos (Or.inr hw)] at h
        exact hG2 [] 100 0 _ _ _ _ (am_f (am_bp hP) (am_nf (am_bn hw) (h I L hC)))
    · rw [if_pos (Or.inl hP)] at h
      exact hG2 [] 100 0 _ _ _ _ (am_t (am_bn hP) (h I L hC))
  · exact h.elim
end
section
/-! THE CLASS: a journey filmed -/
theorem CR_fr {I I2 : am_I} {L L2 : am_J} {A : am_A} (h : CR I L A) (hI : ∀ a : Nat, a ≤ 33 → I2 a = I a) (hL : ∀ a : Nat, a ≤ 33 → L2 a = L a) : CR I2 L2 A := by
  obtain ⟨G, K, hk, tn, tt, ln, sz, it⟩ := A
  obtain ⟨h1, h2, h3, h4, h5, ⟨V, h6⟩, h7⟩ := h
  exact ⟨h1, RC_fr h2 (fun a _ _ => hI a (by omega)) (hL 1 (by omega)), RC_fr h3 (fun a _ _ => hI a (by omega)) (hL 7 (by omega)), by rw [hI 0 (by omega)]; exact h4, TP_fr h5 (by rw [hI 19 (by omega)]) (hI 20 (by omega)), ⟨V, SC_fr h6 (by rw [hI 22 (by omega)]) (hI 24 (by omega)) (hL 23 (by omega))⟩, SHc_fr h7 (fun a _ _ => hI a (by omega)) (fun a _ _ => hL a (by omega))⟩
def g_mn (T n : Nat) : Nat := if T < n then T else n
def g_trk (G : Nat → Nat) (kind f : Nat) : Nat → Int64 := fun k => (nI (g_S G kind (G 44) (G 26) f (k + 1)).1).toInt64
def o_film : am_A → Int32 → Int32 → Int32 → Int32 → Int32 → Int32 → Int32 × am_A
  | (G, K, hk, tn, tt, ln, sz, it), kind, f, s, a, i, n => if ¬ ((0 ≤ kind ∧ kind < 4) ∧ (0 ≤ f ∧ f < 8) ∧ (0 ≤ s ∧ s < 4) ∧ (0 ≤ a ∧ a < 3) ∧ (1 ≤ n ∧ n ≤ 24)) then (-1, (G, K, hk, tn, tt, ln, sz, it)) else if ¬ o_bars ln sz s.toNatClampNeg a i (nI (g_mn (g_T G kind.toNatClampNeg (G 44) (G 26) f.toNatClampNeg) n.toNatClampNeg)) = 0 then (o_bars ln sz s.toNatClampNeg a i (nI (g_mn (g_T G kind.toNatClampNeg (G 44) (G 26) f.toNatClampNeg) n.toNatClampNeg)), (G, K, hk, tn, tt, ln, sz, it)) else
    (nI (g_mn (g_T G kind.toNatClampNeg (G 44) (G 26) f.toNatClampNeg) n.toNatClampNeg), (G, K, hk, tn, tt, ln, sz, o_upd it s.toNatClampNeg (o_cpy (g_trk G kind.toNatClampNeg f.toNatClampNeg) (it s.toNatClampNeg) 0 i.toNatClampNeg (g_mn (g_T G kind.toNatClampNeg (G 44) (G 26) f.toNatClampNeg) n.toNatClampNeg))))
theorem f_cut_pl {a : Int32} (h : a = 0 ∨ a = 1 ∨ a = 2) : ∀ p, p < 8 → f_cut a (nI p).toInt64 = (nI p).toInt64 := by
  rcases h with rfl | rfl | rfl <;> decide +kernel
def T_RP_layTrail : am_Sp := fun vs I L post => match vs with
  | [.ref o, .int x, .int y, .int w] => o = 0 ∧ ∃ A, ∃ kind f nn : Nat, kind < 4 ∧ f < 8 ∧ nn ≤ 24 ∧ CR I L A ∧ x = nI kind ∧ y = nI f ∧ w = nI nn ∧ ∀ (I2 : am_I) (L2 : am_J), CR I2 L2 A → (∀ j, j < g_mn (g_T A.1 kind (A.1 44) (A.1 26) f) nn → I2 34 j = nI (g_S A.1 kind (A.1 44) (A.1 26) f (j + 1)).1) → post (some (.int (nI (g_mn (g_T A.1 kind (A.1 44) (A.1 26) f) nn)))) I2 L2
  | _ => False
def sp_RP_layTrail : Nat → am_Sp := fun i => match i with
  | 227 => T_JN_begin
  | 231 => T_JN_goOn
  | _ => am_no
set_option maxRecDepth 100000 in
set_option maxHeartbeats 4000000 in
theorem ok_RP_layTrail : am_Ok am_SX sp_RP_layTrail false k_RP_layTrail 5 T_RP_layTrail := by
  intro vs I L post h
  unfold T_RP_layTrail at h
  split at h
  · rename_i o x y w
    obtain ⟨rfl, A, kind, f, nn, hk4, hf8, hn24, hC, rfl, rfl, rfl, h⟩ := h
    refine ⟨Nat.le_of_ble_eq_true rfl, fun G2 hG2 => ?_⟩
    obtain ⟨G, K, hk, tn, tt, ln, sz, it⟩ := A
    dsimp only at h
    obtain ⟨hV, hR, hKr, hk7, hT, ⟨V, hS⟩, hSh⟩ := id hC
    have hX : JX G kind (G 26) f := JX_of hV.1 hk4 hf8
    have hTs := g_T_spec (snow := G 44) hX
    generalize hTe : g_T G kind (G 44) (G 26) f = T at h hTs
    have loop : ∀ d k (I1 : am_I) (L1 : am_J), nn - k = d → k ≤ nn → JS I1 L1 G kind (G 44) (G 26) f k → CR I1 L1 (G, K, hk, tn, tt, ln, sz, it) → (∀ j, j < k → I1 34 j = nI (g_S G kind (G 44) (G 26) f (j + 1)).1) → G2 30 [some (.ref 0), some (.int (nI kind)), some (.int (nI f)), some (.int (nI nn)), some (.int (nI k))] [] I1 L1 := by
      intro d
      induction d with
      | zero =>
        intro k I1 L1 hd hk1 hj hC1 hm
        have e : k = nn := by omega
        subst e
        refine hG2 [] 100 30 _ _ _ _ (am_nt (nI_nlt (Nat.le_refl k) (by omega)) ?_)
        show post (some (.int (I1 21 6))) I1 L1
        have hge : ¬ T < k := fun z => hTs.2.1 (hj.2.2.2.2.2.2.2.2.2.2 _ z)
        have e : g_mn T k = k := if_neg hge
        rw [e] at h
        rw [hj.2.2.2.2.1]
        exact h I1 L1 hC1 hm
      | succ d ih =>
        intro k I1 L1 hd hk1 hj hC1 hm
        have hR1 := hC1.2.1
        refine hG2 [(30, [])] 100 30 _ _ _ _ (am_nf (nI_lt (by omega) (by omega)) (am_nf (am_lt (show k < 24 by omega) rfl) (And.intro (rfl) (And.intro (rfl) (Exists.intro (G) (Exists.intro (kind) (Exists.intro (G 44) (Exists.intro (G 26) (Exists.intro (f) (Exists.intro (k) (Exists.intro (1) (And.intro (hX) (And.intro (hR1) (And.intro (rfl) (And.intro (by omega) (And.intro (hj) (fun i2 I3 L3 hi1 hi2 hi3 hj2 hf2 => ?_)))))))))))))))))
        have hC3 : CR I3 L3 (G, K, hk, tn, tt, ln, sz, it) := CR_FJ hC1 hf2 ⟨_, hj2.2.2.2.2.2.2.2.2.2.1⟩
        have j4 : I3 21 4 = nI (g_S G kind (G 44) (G 26) f i2).1 := hj2.2.2.2.1
        have j6 : I3 21 6 = nI i2 := hj2.2.2.2.2.1
        have jp := hj2.2.2.2.2.2.2.2.2.2.2
        have h34 : I3 34 = I1 34 := hf2.1 34 (by omega) (by omega) (by omega)
        show (I3 21 6 = nI k + 1 → _) ∧ (¬ I3 21 6 = nI k + 1 → _)
        rw [j6, nI_1]
        by_cases e : i2 = k + 1
        · subst e
          refine am_t rfl (And.intro (am_vin (by omega) rfl) ?_)
          show G2 30 [some (.ref 0), some (.int (nI kind)), some (.int (nI f)), some (.int (nI nn)), some (.int (nI k + 1))] [] (am_ui I3 34 (nI k).toNatClampNeg (I3 21 4)) L3
          rw [nI_1, nI_clamp (by omega), j4]
          refine ih (k + 1) _ L3 (by omega) (by omega) (JS_fr hj2 (am_ui_o (by omega)) (am_uo (by omega)) (am_ui_o (by omega)) rfl rfl) (CR_fr hC3 (fun a ha => am_ui_o (by omega)) (fun _ _ => rfl)) (fun j hj3 => ?_)
          by_cases e : j = k
          · subst e; exact am_ui_e
          · rw [am_uk e, h34]; exact hm j (by omega)
        · have e3 : i2 = k := by omega
          subst e3
          refine am_f (fun z => e ((nI_eq (by omega) (by omega)).mp z)) ?_
          have hen : ¬ g_end G (g_S G kind (G 44) (G 26) f) i2 = 3 := by
            rcases hi3 with q | q
            · omega
            · exact q
          have e4 := g_T_of hX hen jp
          rw [hTe] at e4
          have e5 : g_mn T nn = i2 := by unfold g_mn; rw [if_pos (by omega)]; exact e4.symm
          rw [e5] at h
          exact h I3 L3 hC3 (fun j hj => by rw [h34]; exact hm j hj)
    refine hG2 [(30, [])] 100 0 _ _ _ _ (And.intro (rfl) (And.intro (rfl) (Exists.intro (G) (Exists.intro (kind) (Exists.intro (G 44) (Exists.intro (G 26) (Exists.intro (f) (Exists.intro (V) (And.intro (hX) (And.intro (hR) (And.intro (rfl) (And.intro (rfl) (And.intro (hR.2.2.1) (And.intro (hR.2.2.2.1) (And.intro (hS) (fun I1 L1 hj1 hf1 => ?_))))))))))))))))
    exact loop nn 0 I1 L1 (by omega) (by omega) hj1 (CR_FJ hC hf1 ⟨_, hj1.2.2.2.2.2.2.2.2.2.1⟩) (fun j hj => by omega)
  · exact h.elim
def T_RP_film : am_Sp := fun vs I L post => match vs with
  | [.ref o, .int x, .int y, .int z, .int a, .int i, .int n] => o = 0 ∧ ∃ A, CR I L A ∧ ∀ (I2 : am_I) (L2 : am_J), CR I2 L2 (o_film A x y z a i n).2 → post (some (.int (o_film A x y z a i n).1)) I2 L2
  | _ => False
def sp_RP_film : Nat → am_Sp := fun i => match i with
  | 177 => T_RP_isFilmable
  | 181 => T_SH_refusal
  | 184 => T_SH_has
  | 191 => T_RP_layTrail
  | 195 => T_SH_put
  | _ => am_no
set_option maxRecDepth 100000 in
set_option maxHeartbeats 4000000 in
theorem ok_RP_film : am_Ok am_SX sp_RP_film false k_RP_film 11 T_RP_film := by
  intro vs I L post h
  unfold T_RP_film at h
  split at h
  · rename_i o x y z a i n
    obtain ⟨rfl, A, hC, h⟩ := h
    refine ⟨Nat.le_of_ble_eq_true rfl, fun G2 hG2 => ?_⟩
    obtain ⟨G, K, hk, tn, tt, ln, sz, it⟩ := A
    obtain ⟨hV, hR, hKr, hk7, hT, hS, hSh⟩ := id hC
    have hW : WG G := hV.1
    have h12 := hW.1
    dsimp only [o_film] at h
    by_cases hP : (0 ≤ x ∧ x < 4) ∧ (0 ≤ y ∧ y < 8) ∧ (0 ≤ z ∧ z < 4) ∧ (0 ≤ a ∧ a < 3) ∧ (1 ≤ n ∧ n ≤ 24)
    · rw [if_neg (fun q => q hP)] at h
      obtain ⟨kind, hk4, rfl⟩ := am_rng (n := 4) (by omega) hP.1.1 hP.1.2
      obtain ⟨f, hf8, rfl⟩ := am_rng (n := 8) (by omega) hP.2.1.1 hP.2.1.2
      obtain ⟨s, hs4, rfl⟩ := am_rng (n := 4) (by omega) hP.2.2.1.1 hP.2.2.1.2
      obtain ⟨nn, hn25, rfl⟩ := am_rng (n := 25) (by omega) (Int32.le_trans (by decide) hP.2.2.2.2.1) (Int32.lt_of_le_of_lt hP.2.2.2.2.2 (by decide))
      rw [nI_clamp (n := kind) (by omega), nI_clamp (n := f) (by omega), nI_clamp (n := s) (by omega), nI_clamp (n := nn) (by omega)] at h
      rcases (show s = 0 ∨ s = 1 ∨ s = 2 ∨ s = 3 by omega) with rfl | rfl | rfl | rfl
      · have q : I 26 1 = ln 0 ∧ (¬ ln 0 = -1 → I 26 2 = nI (sz 0)) ∧ ∀ j, j < 24 → L 27 j = it 0 j := hSh 0 (by omega)
        have hz24 := (hV.2.2.2.2 0 (by omega)).2
        refine hG2 [(68, [])] 100 0 _ _ _ _ (am_nt (am_bp hP) (And.intro (am_vin (N := 4) (n := 0) (by omega) rfl) (And.intro rfl (And.intro (by decide) (am_alS (s := 0) (o := 26) (by omega) rfl (And.intro (Or.inl rfl) ?_))))))
        by_cases hl : ln 0 = -1
        · have e : o_bars ln sz 0 a i (nI (g_mn (g_T G kind (G 44) (G 26) f) nn)) = -11 := by unfold o_bars; rw [if_pos hl]
          rw [e, if_pos (by decide)] at h
          rw [if_pos (q.1.trans hl)]
          exact am_f (by decide) (h I L hC)
        · rw [if_neg (fun z => hl (q.1.symm.trans z))]
          by_cases hla : ln 0 = a
          · rw [if_pos (q.1.trans hla)]
            refine am_t rfl (And.intro (rfl) (Exists.intro ((G, K, hk, tn, tt, ln, sz, it)) (Exists.intro (kind) (Exists.intro (f) (Exists.intro (nn) (And.intro (hk4) (And.intro (hf8) (And.intro (by omega) (And.intro (hC) (And.intro (rfl) (And.intro (rfl) (And.intro (rfl) (fun I2 L2 hC2 h34 => ?_)))))))))))))
            dsimp only at h34 ⊢
            have hmn : g_mn (g_T G kind (G 44) (G 26) f) nn ≤ 24 := by unfold g_mn; split <;> omega
            generalize hm : g_mn (g_T G kind (G 44) (G 26) f) nn = m at h h34 hmn
            have br := @o_bars_ran ln sz 0 a i (nI m) hl hla
            have q2 : I2 26 1 = ln 0 ∧ (¬ ln 0 = -1 → I2 26 2 = nI (sz 0)) ∧ ∀ j, j < 24 → L2 27 j = it 0 j := hC2.2.2.2.2.2.2 0 (by omega)
            refine And.intro (Or.inl rfl) ?_
            rw [am_has hz24 (q2.2.1 hl)]
            by_cases hi : 0 ≤ i.toInt ∧ 0 ≤ (nI m).toInt ∧ i.toInt + (nI m).toInt ≤ (sz 0 : Int)
            · rw [if_neg (fun z => z (br.mpr hi))] at h
              refine am_nt (am_bp hi) ?_
              obtain ⟨ii, hii, rfl⟩ := nI_of (am_n0 hi.1)
              rw [nI_toInt hii, nI_toInt (by omega)] at hi
              rw [nI_clamp hii] at h
              have hz : ii + m ≤ sz 0 := by omega
              have loop : ∀ d k (I1 : am_I) (L1 : am_J), m - k = d → k ≤ m → CR I1 L1 (G, K, hk, tn, tt, ln, sz, o_upd it 0 (o_cpy (g_trk G kind f) (it 0) 0 ii k)) → I1 34 = I2 34 → G2 68 [some (.ref 0), some (.int (nI kind)), some (.int (nI f)), some (.int (nI 0)), some (.int a), some (.int (nI ii)), some (.int (nI nn)), some (.ref 26), some (.int 0), some (.int (nI m)), some (.int (nI k))] [] I1 L1 := by
                intro d
                induction d with
                | zero =>
                  intro k I1 L1 hd hk1 hC1 _
                  have e : k = m := by omega
                  subst e
                  exact hG2 [] 100 68 _ _ _ _ (am_nt (nI_nlt (Nat.le_refl k) (by omega)) (h I1 L1 hC1))
                | succ d ih =>
                  intro k I1 L1 hd hk1 hC1 h34b
                  refine hG2 [(68, [])] 100 68 _ _ _ _ (am_nf (nI_lt (by omega) (by omega)) (And.intro (am_vin (show k < 24 by omega) rfl) ?_))
                  have p : I1 26 1 = ln 0 ∧ (¬ ln 0 = -1 → I1 26 2 = nI (sz 0)) ∧ ∀ j, j < 24 → L1 27 j = o_upd it 0 (o_cpy (g_trk G kind f) (it 0) 0 ii k) 0 j := hC1.2.2.2.2.2.2 0 (by omega)
                  have hb : f_hasB I1 26 (nI (ii + k)) 1 = 1 := by
                    rw [am_has hz24 (p.2.1 hl)]
                    have e1 : (1 : Int32).toInt = 1 := rfl
                    rw [nI_toInt (by omega)]
                    exact am_b1 ⟨by omega, by omega, by omega⟩
                  show am_isS 26 ∧ ((f_hasB I1 26 (nI ii + nI k) 1 = 1 → vp_in (nI ii + nI k) 24) ∧ _)
                  rw [nI_add]
                  refine And.intro (Or.inl rfl) (And.intro (fun _ => am_vin (by omega) rfl) ?_)
                  show G2 68 [some (.ref 0), some (.int (nI kind)), some (.int (nI f)), some (.int (nI 0)), some (.int a), some (.int (nI ii)), some (.int (nI nn)), some (.ref 26), some (.int 0), some (.int (nI m)), some (.int (nI k + 1))] [] I1 (if f_hasB I1 26 (nI (ii + k)) 1 = 1 then am_uj L1 27 (nI (ii + k)).toNatClampNeg (f_cut (I1 26 1) (I1 34 (nI k).toNatClampNeg).toInt64) else L1)
                  have hp8 := (g_S_lt (kind := kind) (snow := G 44) (stones := G 26) (f := f) hW (fun _ q => q) hf8 (k + 1)).1
                  rw [if_pos hb, nI_1, nI_clamp (by omega), nI_clamp (by omega), h34b, h34 k (by omega), p.1, hla, f_cut_pl (am_lane hP.2.2.2.1) _ hp8]
                  refine ih (k + 1) _ _ (by omega) (by omega) (CR_sh (s := 0) hC1 (by omega) (fun _ _ => rfl) (fun c hc => am_uj_o hc) (hV.2.2.2.2 0 (by omega)) (fun u hu => ⟨rfl, rfl, by rw [o_upd_n hu, o_upd_n hu]⟩) p.1 p.2.1 (fun j hj => ?_)) h34b
                  rw [o_upd_e]
                  show am_uj L1 27 (ii + k) (nI (g_S G kind (G 44) (G 26) f (k + 1)).1).toInt64 27 j = o_cpy (g_trk G kind f) (it 0) 0 ii (k + 1) j
                  have p3 := p.2.2 j hj
                  rw [o_upd_e] at p3
                  unfold o_cpy at p3 ⊢
                  by_cases e : j = ii + k
                  · subst e
                    rw [am_uj_e, if_pos ⟨by omega, by omega⟩, show 0 + (ii + k - ii) = k by omega]
                    rfl
                  · rw [am_uj_n (fun z => e z.2), p3]
                    by_cases e2 : ii ≤ j ∧ j < ii + k
                    · rw [if_pos e2, if_pos ⟨e2.1, by omega⟩]
                    · rw [if_neg e2, if_neg (fun z => e2 ⟨z.1, by omega⟩)]
              show G2 68 [some (.ref 0), some (.int (nI kind)), some (.int (nI f)), some (.int (nI 0)), some (.int a), some (.int (nI ii)), some (.int (nI nn)), some (.ref 26), some (.int 0), some (.int (nI m)), some (.int (0))] [] I2 L2
              refine loop m 0 I2 L2 (by omega) (by omega) (CR_sh (s := 0) hC2 (by omega) (fun _ _ => rfl) (fun _ _ => rfl) (hV.2.2.2.2 0 (by omega)) (fun u hu => ⟨rfl, rfl, o_upd_n hu⟩) q2.1 q2.2.1 (fun j hj => ?_)) rfl
              rw [o_upd_e]
              unfold o_cpy
              rw [if_neg (by omega)]
              exact q2.2.2 j hj
            · rw [if_pos (fun z => hi (br.mp z))] at h
              have e : o_bars ln sz 0 a i (nI m) = -13 := by rw [o_bars_0 hl hla, if_neg hi]
              rw [e] at h
              exact am_nf (am_bn hi) (h I2 L2 hC2)
          · have e : o_bars ln sz 0 a i (nI (g_mn (g_T G kind (G 44) (G 26) f) nn)) = -12 := by unfold o_bars; rw [if_neg hl, if_pos hla]
            rw [e, if_pos (by decide)] at h
            rw [if_neg (fun z => hla (q.1.symm.trans z))]
            exact am_f (by decide) (h I L hC)
      · have q : I 28 1 = ln 1 ∧ (¬ ln 1 = -1 → I 28 2 = nI (sz 1)) ∧ ∀ j, j < 24 → L 29 j = it 1 j := hSh 1 (by omega)
        have hz24 := (hV.2.2.2.2 1 (by omega)).2
        refine hG2 [(68, [])] 100 0 _ _ _ _ (am_nt (am_bp hP) (And.intro (am_vin (N := 4) (n := 1) (by omega) rfl) (And.intro rfl (And.intro (by decide) (am_alS (s := 1) (o := 28) (by omega) rfl (And.intro (Or.inr (Or.inl rfl)) ?_))))))
        by_cases hl : ln 1 = -1
        · have e : o_bars ln sz 1 a i (nI (g_mn (g_T G kind (G 44) (G 26) f) nn)) = -11 := by unfold o_bars; rw [if_pos hl]
          rw [e, if_pos (by decide)] at h
          rw [if_pos (q.1.trans hl)]
          exact am_f (by decide) (h I L hC)
        · rw [if_neg (fun z => hl (q.1.symm.trans z))]
          by_cases hla : ln 1 = a
          · rw [if_pos (q.1.trans hla)]
            refine am_t rfl (And.intro (rfl) (Exists.intro ((G, K, hk, tn, tt, ln, sz, it)) (Exists.intro (kind) (Exists.intro (f) (Exists.intro (nn) (And.intro (hk4) (And.intro (hf8) (And.intro (by omega) (And.intro (hC) (And.intro (rfl) (And.intro (rfl) (And.intro (rfl) (fun I2 L2 hC2 h34 => ?_)))))))))))))
            dsimp only at h34 ⊢
            have hmn : g_mn (g_T G kind (G 44) (G 26) f) nn ≤ 24 := by unfold g_mn; split <;> omega
            generalize hm : g_mn (g_T G kind (G 44) (G 26) f) nn = m at h h34 hmn
            have br := @o_bars_ran ln sz 1 a i (nI m) hl hla
            have q2 : I2 28 1 = ln 1 ∧ (¬ ln 1 = -1 → I2 28 2 = nI (sz 1)) ∧ ∀ j, j < 24 → L2 29 j = it 1 j := hC2.2.2.2.2.2.2 1 (by omega)
            refine And.intro (Or.inr (Or.inl rfl)) ?_
            rw [am_has hz24 (q2.2.1 hl)]
            by_cases hi : 0 ≤ i.toInt ∧ 0 ≤ (nI m).toInt ∧ i.toInt + (nI m).toInt ≤ (sz 1 : Int)
            · rw [if_neg (fun z => z (br.mpr hi))] at h
              refine am_nt (am_bp hi) ?_
              obtain ⟨ii, hii, rfl⟩ := nI_of (am_n0 hi.1)
              rw [nI_toInt hii, nI_toInt (by omega)] at hi
              rw [nI_clamp hii] at h
              have hz : ii + m ≤ sz 1 := by omega
              have loop : ∀ d k (I1 : am_I) (L1 : am_J), m - k = d → k ≤ m → CR I1 L1 (G, K, hk, tn, tt, ln, sz, o_upd it 1 (o_cpy (g_trk G kind f) (it 1) 0 ii k)) → I1 34 = I2 34 → G2 68 [some (.ref 0), some (.int (nI kind)), some (.int (nI f)), some (.int (nI 1)), some (.int a), some (.int (nI ii)), some (.int (nI nn)), some (.ref 28), some (.int 0), some (.int (nI m)), some (.int (nI k))] [] I1 L1 := by
                intro d
                induction d with
                | zero =>
                  intro k I1 L1 hd hk1 hC1 _
                  have e : k = m := by omega
                  subst e
                  exact hG2 [] 100 68 _ _ _ _ (am_nt (nI_nlt (Nat.le_refl k) (by omega)) (h I1 L1 hC1))
                | succ d ih =>
                  intro k I1 L1 hd hk1 hC1 h34b
                  refine hG2 [(68, [])] 100 68 _ _ _ _ (am_nf (nI_lt (by omega) (by omega)) (And.intro (am_vin (show k < 24 by omega) rfl) ?_))
                  have p : I1 28 1 = ln 1 ∧ (¬ ln 1 = -1 → I1 28 2 = nI (sz 1)) ∧ ∀ j, j < 24 → L1 29 j = o_upd it 1 (o_cpy (g_trk G kind f) (it 1) 0 ii k) 1 j := hC1.2.2.2.2.2.2 1 (by omega)
                  have hb : f_hasB I1 28 (nI (ii + k)) 1 = 1 := by
                    rw [am_has hz24 (p.2.1 hl)]
                    have e1 : (1 : Int32).toInt = 1 := rfl
                    rw [nI_toInt (by omega)]
                    exact am_b1 ⟨by omega, by omega, by omega⟩
                  show am_isS 28 ∧ ((f_hasB I1 28 (nI ii + nI k) 1 = 1 → vp_in (nI ii + nI k) 24) ∧ _)
                  rw [nI_add]
                  refine And.intro (Or.inr (Or.inl rfl)) (And.intro (fun _ => am_vin (by omega) rfl) ?_)
                  show G2 68 [some (.ref 0), some (.int (nI kind)), some (.int (nI f)), some (.int (nI 1)), some (.int a), some (.int (nI ii)), some (.int (nI nn)), some (.ref 28), some (.int 0), some (.int (nI m)), some (.int (nI k + 1))] [] I1 (if f_hasB I1 28 (nI (ii + k)) 1 = 1 then am_uj L1 29 (nI (ii + k)).toNatClampNeg (f_cut (I1 28 1) (I1 34 (nI k).toNatClampNeg).toInt64) else L1)
                  have hp8 := (g_S_lt (kind := kind) (snow := G 44) (stones := G 26) (f := f) hW (fun _ q => q) hf8 (k + 1)).1
                  rw [if_pos hb, nI_1, nI_clamp (by omega), nI_clamp (by omega), h34b, h34 k (by omega), p.1, hla, f_cut_pl (am_lane hP.2.2.2.1) _ hp8]
                  refine ih (k + 1) _ _ (by omega) (by omega) (CR_sh (s := 1) hC1 (by omega) (fun _ _ => rfl) (fun c hc => am_uj_o hc) (hV.2.2.2.2 1 (by omega)) (fun u hu => ⟨rfl, rfl, by rw [o_upd_n hu, o_upd_n hu]⟩) p.1 p.2.1 (fun j hj => ?_)) h34b
                  rw [o_upd_e]
                  show am_uj L1 29 (ii + k) (nI (g_S G kind (G 44) (G 26) f (k + 1)).1).toInt64 29 j = o_cpy (g_trk G kind f) (it 1) 0 ii (k + 1) j
                  have p3 := p.2.2 j hj
                  rw [o_upd_e] at p3
                  unfold o_cpy at p3 ⊢
                  by_cases e : j = ii + k
                  · subst e
                    rw [am_uj_e, if_pos ⟨by omega, by omega⟩, show 0 + (ii + k - ii) = k by omega]
                    rfl
                  · rw [am_uj_n (fun z => e z.2), p3]
                    by_cases e2 : ii ≤ j ∧ j < ii + k
                    · rw [if_pos e2, if_pos ⟨e2.1, by omega⟩]
                    · rw [if_neg e2, if_neg (fun z => e2 ⟨z.1, by omega⟩)]
              show G2 68 [some (.ref 0), some (.int (nI kind)), some (.int (nI f)), some (.int (nI 1)), some (.int a), some (.int (nI ii)), some (.int (nI nn)), some (.ref 28), some (.int 0), some (.int (nI m)), some (.int (0))] [] I2 L2
              refine loop m 0 I2 L2 (by omega) (by omega) (CR_sh (s := 1) hC2 (by omega) (fun _ _ => rfl) (fun _ _ => rfl) (hV.2.2.2.2 1 (by omega)) (fun u hu => ⟨rfl, rfl, o_upd_n hu⟩) q2.1 q2.2.1 (fun j hj => ?_)) rfl
              rw [o_upd_e]
              unfold o_cpy
              rw [if_neg (by omega)]
              exact q2.2.2 j hj
            · rw [if_pos (fun z => hi (br.mp z))] at h
              have e : o_bars ln sz 1 a i (nI m) = -13 := by rw [o_bars_0 hl hla, if_neg hi]
              rw [e] at h
              exact am_nf (am_bn hi) (h I2 L2 hC2)
          · have e : o_bars ln sz 1 a i (nI (g_mn (g_T G kind (G 44) (G 26) f) nn)) = -12 := by unfold o_bars; rw [if_neg hl, if_pos hla]
            rw [e, if_pos (by decide)] at h
            rw [if_neg (fun z => hla (q.1.symm.trans z))]
            exact am_f (by decide) (h I L hC)
      · have q : I 30 1 = ln 2 ∧ (¬ ln 2 = -1 → I 30 2 = nI (sz 2)) ∧ ∀ j, j < 24 → L 31 j = it 2 j := hSh 2 (by omega)
        have hz24 := (hV.2.2.2.2 2 (by omega)).2
        refine hG2 [(68, [])] 100 0 _ _ _ _ (am_nt (am_bp hP) (And.intro (am_vin (N := 4) (n := 2) (by omega) rfl) (And.intro rfl (And.intro (by decide) (am_alS (s := 2) (o := 30) (by omega) rfl (And.intro (Or.inr (Or.inr (Or.inl rfl))) ?_))))))
        by_cases hl : ln 2 = -1
        · have e : o_bars ln sz 2 a i (nI (g_mn (g_T G kind (G 44) (G 26) f) nn)) = -11 := by unfold o_bars; rw [if_pos hl]
          rw [e, if_pos (by decide)] at h
          rw [if_pos (q.1.trans hl)]
          exact am_f (by decide) (h I L hC)
        · rw [if_neg (fun z => hl (q.1.symm.trans z))]
          by_cases hla : ln 2 = a
          · rw [if_pos (q.1.trans hla)]
            refine am_t rfl (And.intro (rfl) (Exists.intro ((G, K, hk, tn, tt, ln, sz, it)) (Exists.intro (kind) (Exists.intro (f) (Exists.intro (nn) (And.intro (hk4) (And.intro (hf8) (And.intro (by omega) (And.intro (hC) (And.intro (rfl) (And.intro (rfl) (And.intro (rfl) (fun I2 L2 hC2 h34 => ?_)))))))))))))
            dsimp only at h34 ⊢
            have hmn : g_mn (g_T G kind (G 44) (G 26) f) nn ≤ 24 := by unfold g_mn; split <;> omega
            generalize hm : g_mn (g_T G kind (G 44) (G 26) f) nn = m at h h34 hmn
            have br := @o_bars_ran ln sz 2 a i (nI m) hl hla
            have q2 : I2 30 1 = ln 2 ∧ (¬ ln 2 = -1 → I2 30 2 = nI (sz 2)) ∧ ∀ j, j < 24 → L2 31 j = it 2 j := hC2.2.2.2.2.2.2 2 (by omega)
            refine And.intro (Or.inr (Or.inr (Or.inl rfl))) ?_
            rw [am_has hz24 (q2.2.1 hl)]
            by_cases hi : 0 ≤ i.toInt ∧ 0 ≤ (nI m).toInt ∧ i.toInt + (nI m).toInt ≤ (sz 2 : Int)
            · rw [if_neg (fun z => z (br.mpr hi))] at h
              refine am_nt (am_bp hi) ?_
              obtain ⟨ii, hii, rfl⟩ := nI_of (am_n0 hi.1)
              rw [nI_toInt hii, nI_toInt (by omega)] at hi
              rw [nI_clamp hii] at h
              have hz : ii + m ≤ sz 2 := by omega
              have loop : ∀ d k (I1 : am_I) (L1 : am_J), m - k = d → k ≤ m → CR I1 L1 (G, K, hk, tn, tt, ln, sz, o_upd it 2 (o_cpy (g_trk G kind f) (it 2) 0 ii k)) → I1 34 = I2 34 → G2 68 [some (.ref 0), some (.int (nI kind)), some (.int (nI f)), some (.int (nI 2)), some (.int a), some (.int (nI ii)), some (.int (nI nn)), some (.ref 30), some (.int 0), some (.int (nI m)), some (.int (nI k))] [] I1 L1 := by
                intro d
                induction d with
                | zero =>
                  intro k I1 L1 hd hk1 hC1 _
                  have e : k = m := by omega
                  subst e
                  exact hG2 [] 100 68 _ _ _ _ (am_nt (nI_nlt (Nat.le_refl k) (by omega)) (h I1 L1 hC1))
                | succ d ih =>
                  intro k I1 L1 hd hk1 hC1 h34b
                  refine hG2 [(68, [])] 100 68 _ _ _ _ (am_nf (nI_lt (by omega) (by omega)) (And.intro (am_vin (show k < 24 by omega) rfl) ?_))
                  have p : I1 30 1 = ln 2 ∧ (¬ ln 2 = -1 → I1 30 2 = nI (sz 2)) ∧ ∀ j, j < 24 → L1 31 j = o_upd it 2 (o_cpy (g_trk G kind f) (it 2) 0 ii k) 2 j := hC1.2.2.2.2.2.2 2 (by omega)
                  have hb : f_hasB I1 30 (nI (ii + k)) 1 = 1 := by
                    rw [am_has hz24 (p.2.1 hl)]
                    have e1 : (1 : Int32).toInt = 1 := rfl
                    rw [nI_toInt (by omega)]
                    exact am_b1 ⟨by omega, by omega, by omega⟩
                  show am_isS 30 ∧ ((f_hasB I1 30 (nI ii + nI k) 1 = 1 → vp_in (nI ii + nI k) 24) ∧ _)
                  rw [nI_add]
                  refine And.intro (Or.inr (Or.inr (Or.inl rfl))) (And.intro (fun _ => am_vin (by omega) rfl) ?_)
                  show G2 68 [some (.ref 0), some (.int (nI kind)), some (.int (nI f)), some (.int (nI 2)), some (.int a), some (.int (nI ii)), some (.int (nI nn)), some (.ref 30), some (.int 0), some (.int (nI m)), some (.int (nI k + 1))] [] I1 (if f_hasB I1 30 (nI (ii + k)) 1 = 1 then am_uj L1 31 (nI (ii + k)).toNatClampNeg (f_cut (I1 30 1) (I1 34 (nI k).toNatClampNeg).toInt64) else L1)
                  have hp8 := (g_S_lt (kind := kind) (snow := G 44) (stones := G 26) (f := f) hW (fun _ q => q) hf8 (k + 1)).1
                  rw [if_pos hb, nI_1, nI_clamp (by omega), nI_clamp (by omega), h34b, h34 k (by omega), p.1, hla, f_cut_pl (am_lane hP.2.2.2.1) _ hp8]
                  refine ih (k + 1) _ _ (by omega) (by omega) (CR_sh (s := 2) hC1 (by omega) (fun _ _ => rfl) (fun c hc => am_uj_o hc) (hV.2.2.2.2 2 (by omega)) (fun u hu => ⟨rfl, rfl, by rw [o_upd_n hu, o_upd_n hu]⟩) p.1 p.2.1 (fun j hj => ?_)) h34b
                  rw [o_upd_e]
                  show am_uj L1 31 (ii + k) (nI (g_S G kind (G 44) (G 26) f (k + 1)).1).toInt64 31 j = o_cpy (g_trk G kind f) (it 2) 0 ii (k + 1) j
                  have p3 := p.2.2 j hj
                  rw [o_upd_e] at p3
                  unfold o_cpy at p3 ⊢
                  by_cases e : j = ii + k
                  · subst e
                    rw [am_uj_e, if_pos ⟨by omega, by omega⟩, show 0 + (ii + k - ii) = k by omega]
                    rfl
                  · rw [am_uj_n (fun z => e z.2), p3]
                    by_cases e2 : ii ≤ j ∧ j < ii + k
                    · rw [if_pos e2, if_pos ⟨e2.1, by omega⟩]
                    · rw [if_neg e2, if_neg (fun z => e2 ⟨z.1, by omega⟩)]
              show G2 68 [some (.ref 0), some (.int (nI kind)), some (.int (nI f)), some (.int (nI 2)), some (.int a), some (.int (nI ii)), some (.int (nI nn)), some (.ref 30), some (.int 0), some (.int (nI m)), some (.int (0))] [] I2 L2
              refine loop m 0 I2 L2 (by omega) (by omega) (CR_sh (s := 2) hC2 (by omega) (fun _ _ => rfl) (fun _ _ => rfl) (hV.2.2.2.2 2 (by omega)) (fun u hu => ⟨rfl, rfl, o_upd_n hu⟩) q2.1 q2.2.1 (fun j hj => ?_)) rfl
              rw [o_upd_e]
              unfold o_cpy
              rw [if_neg (by omega)]
              exact q2.2.2 j hj
            · rw [if_pos (fun z => hi (br.mp z))] at h
              have e : o_bars ln sz 2 a i (nI m) = -13 := by rw [o_bars_0 hl hla, if_neg hi]
              rw [e] at h
              exact am_nf (am_bn hi) (h I2 L2 hC2)
          · have e : o_bars ln sz 2 a i (nI (g_mn (g_T G kind (G 44) (G 26) f) nn)) = -12 := by unfold o_bars; rw [if_neg hl, if_pos hla]
            rw [e, if_pos (by decide)] at h
            rw [if_neg (fun z => hla (q.1.symm.trans z))]
            exact am_f (by decide) (h I L hC)
      · have q : I 32 1 = ln 3 ∧ (¬ ln 3 = -1 → I 32 2 = nI (sz 3)) ∧ ∀ j, j < 24 → L 33 j = it 3 j := hSh 3 (by omega)
        have hz24 := (hV.2.2.2.2 3 (by omega)).2
        refine hG2 [(68, [])] 100 0 _ _ _ _ (am_nt (am_bp hP) (And.intro (am_vin (N := 4) (n := 3) (by omega) rfl) (And.intro rfl (And.intro (by decide) (am_alS (s := 3) (o := 32) (by omega) rfl (And.intro (Or.inr (Or.inr (Or.inr rfl))) ?_))))))
        by_cases hl : ln 3 = -1
        · have e : o_bars ln sz 3 a i (nI (g_mn (g_T G kind (G 44) (G 26) f) nn)) = -11 := by unfold o_bars; rw [if_pos hl]
          rw [e, if_pos (by decide)] at h
          rw [if_pos (q.1.trans hl)]
          exact am_f (by decide) (h I L hC)
        · rw [if_neg (fun z => hl (q.1.symm.trans z))]
          by_cases hla : ln 3 = a
          · rw [if_pos (q.1.trans hla)]
            refine am_t rfl (And.intro (rfl) (Exists.intro ((G, K, hk, tn, tt, ln, sz, it)) (Exists.intro (kind) (Exists.intro (f) (Exists.intro (nn) (And.intro (hk4) (And.intro (hf8) (And.intro (by omega) (And.intro (hC) (And.intro (rfl) (And.intro (rfl) (And.intro (rfl) (fun I2 L2 hC2 h34 => ?_)))))))))))))
            dsimp only at h34 ⊢
            have hmn : g_mn (g_T G kind (G 44) (G 26) f) nn ≤ 24 := by unfold g_mn; split <;> omega
            generalize hm : g_mn (g_T G kind (G 44) (G 26) f) nn = m at h h34 hmn
            have br := @o_bars_ran ln sz 3 a i (nI m) hl hla
            have q2 : I2 32 1 = ln 3 ∧ (¬ ln 3 = -1 → I2 32 2 = nI (sz 3)) ∧ ∀ j, j < 24 → L2 33 j = it 3 j := hC2.2.2.2.2.2.2 3 (by omega)
            refine And.intro (Or.inr (Or.inr (Or.inr rfl))) ?_
            rw [am_has hz24 (q2.2.1 hl)]
            by_cases hi : 0 ≤ i.toInt ∧ 0 ≤ (nI m).toInt ∧ i.toInt + (nI m).toInt ≤ (sz 3 : Int)
            · rw [if_neg (fun z => z (br.mpr hi))] at h
              refine am_nt (am_bp hi) ?_
              obtain ⟨ii, hii, rfl⟩ := nI_of (am_n0 hi.1)
              rw [nI_toInt hii, nI_toInt (by omega)] at hi
              rw [nI_clamp hii] at h
              have hz : ii + m ≤ sz 3 := by omega
              have loop : ∀ d k (I1 : am_I) (L1 : am_J), m - k = d → k ≤ m → CR I1 L1 (G, K, hk, tn, tt, ln, sz, o_upd it 3 (o_cpy (g_trk G kind f) (it 3) 0 ii k)) → I1 34 = I2 34 → G2 68 [some (.ref 0), some (.int (nI kind)), some (.int (nI f)), some (.int (nI 3)), some (.int a), some (.int (nI ii)), some (.int (nI nn)), some (.ref 32), some (.int 0), some (.int (nI m)), some (.int (nI k))] [] I1 L1 := by
                intro d
                induction d with
                | zero =>
                  intro k I1 L1 hd hk1 hC1 _
                  have e : k = m := by omega
                  subst e
                  exact hG2 [] 100 68 _ _ _ _ (am_nt (nI_nlt (Nat.le_refl k) (by omega)) (h I1 L1 hC1))
                | succ d ih =>
                  intro k I1 L1 hd hk1 hC1 h34b
                  refine hG2 [(68, [])] 100 68 _ _ _ _ (am_nf (nI_lt (by omega) (by omega)) (And.intro (am_vin (show k < 24 by omega) rfl) ?_))
                  have p : I1 32 1 = ln 3 ∧ (¬ ln 3 = -1 → I1 32 2 = nI (sz 3)) ∧ ∀ j, j < 24 → L1 33 j = o_upd it 3 (o_cpy (g_trk G kind f) (it 3) 0 ii k) 3 j := hC1.2.2.2.2.2.2 3 (by omega)
                  have hb : f_hasB I1 32 (nI (ii + k)) 1 = 1 := by
                    rw [am_has hz24 (p.2.1 hl)]
                    have e1 : (1 : Int32).toInt = 1 := rfl
                    rw [nI_toInt (by omega)]
                    exact am_b1 ⟨by omega, by omega, by omega⟩
                  show am_isS 32 ∧ ((f_hasB I1 32 (nI ii + nI k) 1 = 1 → vp_in (nI ii + nI k) 24) ∧ _)
                  rw [nI_add]
                  refine And.intro (Or.inr (Or.inr (Or.inr rfl))) (And.intro (fun _ => am_vin (by omega) rfl) ?_)
                  show G2 68 [some (.ref 0), some (.int (nI kind)), some (.int (nI f)), some (.int (nI 3)), some (.int a), some (.int (nI ii)), some (.int (nI nn)), some (.ref 32), some (.int 0), some (.int (nI m)), some (.int (nI k + 1))] [] I1 (if f_hasB I1 32 (nI (ii + k)) 1 = 1 then am_uj L1 33 (nI (ii + k)).toNatClampNeg (f_cut (I1 32 1) (I1 34 (nI k).toNatClampNeg).toInt64) else L1)
                  have hp8 := (g_S_lt (kind := kind) (snow := G 44) (stones := G 26) (f := f) hW (fun _ q => q) hf8 (k + 1)).1
                  rw [if_pos hb, nI_1, nI_clamp (by omega), nI_clamp (by omega), h34b, h34 k (by omega), p.1, hla, f_cut_pl (am_lane hP.2.2.2.1) _ hp8]
                  refine ih (k + 1) _ _ (by omega) (by omega) (CR_sh (s := 3) hC1 (by omega) (fun _ _ => rfl) (fun c hc => am_uj_o hc) (hV.2.2.2.2 3 (by omega)) (fun u hu => ⟨rfl, rfl, by rw [o_upd_n hu, o_upd_n hu]⟩) p.1 p.2.1 (fun j hj => ?_)) h34b
                  rw [o_upd_e]
                  show am_uj L1 33 (ii + k) (nI (g_S G kind (G 44) (G 26) f (k + 1)).1).toInt64 33 j = o_cpy (g_trk G kind f) (it 3) 0 ii (k + 1) j
                  have p3 := p.2.2 j hj
                  rw [o_upd_e] at p3
                  unfold o_cpy at p3 ⊢
                  by_cases e : j = ii + k
                  · subst e
                    rw [am_uj_e, if_pos ⟨by omega, by omega⟩, show 0 + (ii + k - ii) = k by omega]
                    rfl
                  · rw [am_uj_n (fun z => e z.2), p3]
                    by_cases e2 : ii ≤ j ∧ j < ii + k
                    · rw [if_pos e2, if_pos ⟨e2.1, by omega⟩]
                    · rw [if_neg e2, if_neg (fun z => e2 ⟨z.1, by omega⟩)]
              show G2 68 [some (.ref 0), some (.int (nI kind)), some (.int (nI f)), some (.int (nI 3)), some (.int a), some (.int (nI ii)), some (.int (nI nn)), some (.ref 32), some (.int 0), some (.int (nI m)), some (.int (0))] [] I2 L2
              refine loop m 0 I2 L2 (by omega) (by omega) (CR_sh (s := 3) hC2 (by omega) (fun _ _ => rfl) (fun _ _ => rfl) (hV.2.2.2.2 3 (by omega)) (fun u hu => ⟨rfl, rfl, o_upd_n hu⟩) q2.1 q2.2.1 (fun j hj => ?_)) rfl
              rw [o_upd_e]
              unfold o_cpy
              rw [if_neg (by omega)]
              exact q2.2.2 j hj
            · rw [if_pos (fun z => hi (br.mp z))] at h
              have e : o_bars ln sz 3 a i (nI m) = -13 := by rw [o_bars_0 hl hla, if_neg hi]
              rw [e] at h
              exact am_nf (am_bn hi) (h I2 L2 hC2)
          · have e : o_bars ln sz 3 a i (nI (g_mn (g_T G kind (G 44) (G 26) f) nn)) = -12 := by unfold o_bars; rw [if_neg hl, if_pos hla]
            rw [e, if_pos (by decide)] at h
            rw [if_neg (fun z => hla (q.1.symm.trans z))]
            exact am_f (by decide) (h I L hC)
    · rw [if_pos hP] at h
      exact hG2 [] 100 0 _ _ _ _ (am_nf (am_bn hP) (h I L hC))
  · exact h.elim
end
section
/-! THE CLASS: what is needed at worst -/
theorem g_E_sym (G : Nat → Nat) (s a b : Nat) : g_E G s a b = g_E G s b a := by
  unfold g_E
  rw [g_wy_sym G a b]
theorem g_D_le {E : Nat → Nat → Bool} {h k q : Nat} (hh : h < 8) (hq : q < 8) (hr : g_R E h k q = true) : g_d E h q ≤ k ∧ g_d E h q < 10000 := by
  rcases g_d_spec E h q with ⟨a, b⟩ | ⟨a, b, c⟩
  · have := g_R7 hh hq hr
    rw [b 7 (by omega)] at this
    cases this
  · refine ⟨?_, by omega⟩
    rcases Nat.lt_or_ge k (g_d E h q) with z | z
    · rw [c k z] at hr; cases hr
    · exact z
theorem g_D_R {E : Nat → Nat → Bool} {h q : Nat} (hl : g_d E h q < 10000) : g_R E h (g_d E h q) q = true ∧ g_d E h q < 8 := by
  rcases g_d_spec E h q with ⟨a, b⟩ | ⟨a, b, c⟩
  · omega
  · exact ⟨b, a⟩
theorem g_D_step {E : Nat → Nat → Bool} {h p q : Nat} (hh : h < 8) (hp : p < 8) (hq : q < 8) (he : E p q = true) (hl : g_d E h p < 10000) : g_d E h q ≤ g_d E h p + 1 ∧ g_d E h q < 10000 := g_D_le hh hq (g_R_succ.mpr (Or.inr ⟨p, hp, he, (g_D_R hl).1⟩))
theorem g_D_0 {E : Nat → Nat → Bool} {h : Nat} : g_d E h h = 0 := g_d_eq (by omega) (by simp [g_R]) (fun j hj => by omega)
theorem g_D_z {E : Nat → Nat → Bool} {h q : Nat} (hz : g_d E h q = 0) : q = h := by
  have := (g_D_R (E := E) (h := h) (q := q) (by omega)).1
  rw [hz] at this
  simpa [g_R] using this
theorem g_D_pred {E : Nat → Nat → Bool} {h q : Nat} (hh : h < 8) (hq : q < 8) (hl : g_d E h q < 10000) (hne : ¬ q = h) : ∃ p, p < 8 ∧ E p q = true ∧ g_d E h p < 10000 ∧ g_d E h q = g_d E h p + 1 := by
  obtain ⟨k, hk⟩ : ∃ k, g_d E h q = k + 1 := ⟨g_d E h q - 1, by
    have : ¬ g_d E h q = 0 := fun z => hne (g_D_z z)
    omega⟩
  have h1 := (g_D_R hl).1
  rw [hk] at h1
  rcases g_R_succ.mp h1 with a | ⟨p, a, b, c⟩
  · have := (g_D_le hh hq a).1; omega
  · obtain ⟨d1, d2⟩ := g_D_le hh a c
    have := (g_D_step hh a hq b d2).1
    exact ⟨p, a, b, d2, by omega⟩
theorem g_to_far {E : Nat → Nat → Bool} {h a : Nat} (hs : ∀ p q, E p q = E q p) (hh : h < 8) (ha : a < 8) (hl : ¬ g_d E h a < 10000) : g_to E h a = none := g_ch_none (fun q hq he hd => hl (g_D_step hh hq ha (by rw [hs]; exact he) hd).2)
theorem g_to_near {E : Nat → Nat → Bool} {h a : Nat} (hs : ∀ p q, E p q = E q p) (hh : h < 8) (ha : a < 8) (hl : g_d E h a < 10000) (hne : ¬ a = h) : ∃ q, g_to E h a = some q ∧ q < 8 ∧ g_d E h q < 10000 ∧ g_d E h a = g_d E h q + 1 := by
  obtain ⟨p, p1, p2, p3, p4⟩ := g_D_pred hh ha hl hne
  rcases g_ch_spec (g_d E h) (E a) 8 with ⟨z, z2⟩ | ⟨b, z1, z2, z3, z4, z5⟩
  · exact absurd p3 (z2 p p1 (by rw [hs]; exact p2))
  · have h1 := (z5 p p1 (by rw [hs]; exact p2)).1
    have h2 := (g_D_step hh z2 ha (by rw [hs]; exact z3) z4).1
    exact ⟨b, z1, z2, z4, by omega⟩
def o_worst : am_A → Int32 → Int32 × am_A
  | (G, R), f => if ¬ (0 ≤ f ∧ f < 8) then (-1, (G, R)) else if g_d (g_E G (G 25)) (G 43) f.toNatClampNeg < 10000 then (nI (g_d (g_E G (G 25)) (G 43) f.toNatClampNeg), (G, R)) else (-4, (G, R))
def o_next : am_A → Int32 → Int32 × am_A
  | (G, R), f => if ¬ (0 ≤ f ∧ f < 8) then (-1, (G, R)) else ((if f.toNatClampNeg = G 43 then -4 else match g_to (g_E G (G 25)) (G 43) f.toNatClampNeg with
    | some q => nI q
    | none => -4), (G, R))
def T_RP_worst : am_Sp := fun vs I L post => match vs with
  | [.ref o, .int x] => o = 0 ∧ ∃ A, CR I L A ∧ ∀ (I2 : am_I) (L2 : am_J), CR I2 L2 (o_worst A x).2 → post (some (.int (o_worst A x).1)) I2 L2
  | _ => False
def sp_RP_worst : Nat → am_Sp := fun i => match i with
  | 47 => T_RP_isPlace
  | 163 => T_NT_towards
  | _ => am_no
set_option maxRecDepth 100000 in
set_option maxHeartbeats 4000000 in
theorem ok_RP_worst : am_Ok am_SX sp_RP_worst false k_RP_worst 4 T_RP_worst := by
  intro vs I L post h
  unfold T_RP_worst at h
  split at h
  · rename_i o x
    obtain ⟨rfl, A, hC, h⟩ := h
    refine ⟨Nat.le_of_ble_eq_true rfl, fun G2 hG2 => ?_⟩
    obtain ⟨G, K, hk, tn, tt, ln, sz, it⟩ := A
    obtain ⟨hV, hR, hKr, hk7, hT, hS, hSh⟩ := id hC
    have hW : WG G := hV.1
    have h12 := hW.1
    obtain ⟨r5, r6, r7, r8, r9, rw2, rj, rs, rn, rc⟩ := id hR
    dsimp only [o_worst] at h
    by_cases hx : 0 ≤ x ∧ x < 8
    · rw [if_neg (fun q => q hx)] at h
      obtain ⟨f, hf8, rfl⟩ := am_rng (n := 8) (by omega) hx.1 hx.2
      rw [nI_clamp (by omega)] at h
      have h43 : G 43 < 8 := hW.2.2.2.2.2.2.2.2.1
      have hsy := g_E_sym G (G 25)
      have het : ∀ a, a < 8 → g_to (fun p q => bl (L 1 11) (8 * p + q)) (G 43) a = g_to (g_E G (G 25)) (G 43) a := fun a ha => g_to_congr (fun p q hp hq => rc p q hp hq) ha
      have r11 : I 1 9 = nI (G 43) := r9
      have hne : ∀ a, a < 8 → ¬ a = G 43 → ¬ nI a = nI (G 43) := fun a ha q z => q ((nI_eq (by omega) (by omega)).mp z)
      by_cases hd : g_d (g_E G (G 25)) (G 43) f < 10000
      · rw [if_pos hd] at h
        have loop : ∀ d p s, p < 8 → g_d (g_E G (G 25)) (G 43) p = d → d + s = g_d (g_E G (G 25)) (G 43) f → G2 13 [some (.ref 0), some (.int (nI f)), some (.int (nI p)), some (.int (nI s))] [] I L := by
          have h8 := (g_D_R hd).2
          intro d
          induction d with
          | zero =>
            intro p s hp hpd hs
            have e := g_D_z hpd
            refine hG2 [] 100 13 _ _ _ _ ?_
            show (nI p = I 1 9 → _) ∧ (¬ nI p = I 1 9 → _)
            rw [r11, e]
            rw [show g_d (g_E G (G 25)) (G 43) f = s by omega] at h
            exact am_t rfl (h I L hC)
          | succ d ih =>
            intro p s hp hpd hs
            have hpn : ¬ p = G 43 := fun z => by rw [z, g_D_0] at hpd; omega
            obtain ⟨q, q1, q2, q3, q4⟩ := g_to_near hsy h43 hp (by omega) hpn
            refine hG2 [(13, [])] 100 13 _ _ _ _ ?_
            show (nI p = I 1 9 → _) ∧ (¬ nI p = I 1 9 → _)
            rw [r11]
            refine am_f (hne p hp hpn) (am_nf (am_lt (show s < 8 by omega) rfl) (Exists.intro (p) (Exists.intro (G 43) (And.intro (hp) (And.intro (h43) (And.intro (rfl) (And.intro (r9) (?_))))))))
            rw [het p hp, q1]
            refine am_nt (nI_pos (show q < 2 ^ 31 by omega)) ?_
            show G2 13 [some (.ref 0), some (.int (nI f)), some (.int (nI q)), some (.int (nI s + 1))] [] I L
            rw [nI_1]
            exact ih q (s + 1) q2 (by omega) (by omega)
        refine hG2 [(13, [])] 100 0 _ _ _ _ (am_nt (am_bp hx) ?_)
        exact loop _ f 0 hf8 rfl (by omega)
      · rw [if_neg hd] at h
        have hfn : ¬ f = G 43 := fun z => by rw [z, g_D_0] at hd; omega
        refine hG2 [] 100 0 _ _ _ _ (am_nt (am_bp hx) ?_)
        show (nI f = I 1 9 → _) ∧ (¬ nI f = I 1 9 → _)
        rw [r11]
        refine am_f (hne f hf8 hfn) (am_nf (by decide) (Exists.intro (f) (Exists.intro (G 43) (And.intro (hf8) (And.intro (h43) (And.intro (rfl) (And.intro (r9) (?_))))))))
        rw [het f hf8, g_to_far hsy h43 hf8 hd]
        exact am_nf (by decide) (h I L hC)
    · rw [if_pos hx] at h
      exact hG2 [] 100 0 _ _ _ _ (am_nf (am_bn hx) (h I L hC))
  · exact h.elim
def T_RP_next : am_Sp := fun vs I L post => match vs with
  | [.ref o, .int x] => o = 0 ∧ ∃ A, CR I L A ∧ ∀ (I2 : am_I) (L2 : am_J), CR I2 L2 (o_next A x).2 → post (some (.int (o_next A x).1)) I2 L2
  | _ => False
def sp_RP_next : Nat → am_Sp := fun i => match i with
  | 47 => T_RP_isPlace
  | 163 => T_NT_towards
  | _ => am_no
set_option maxRecDepth 100000 in
set_option maxHeartbeats 4000000 in
theorem ok_RP_next : am_Ok am_SX sp_RP_next false k_RP_next 3 T_RP_next := by
  intro vs I L post h
  unfold T_RP_next at h
  split at h
  · rename_i o x
    obtain ⟨rfl, A, hC, h⟩ := h
    refine ⟨Nat.le_of_ble_eq_true rfl, fun G2 hG2 => ?_⟩
    obtain ⟨G, K, hk, tn, tt, ln, sz, it⟩ := A
    obtain ⟨hV, hR, hKr, hk7, hT, hS, hSh⟩ := id hC
    have hW : WG G := hV.1
    have h12 := hW.1
    obtain ⟨r5, r6, r7, r8, r9, rw2, rj, rs, rn, rc⟩ := id hR
    dsimp only [o_next] at h
    by_cases hx : 0 ≤ x ∧ x < 8
    · rw [if_neg (fun q => q hx)] at h
      obtain ⟨f, hf8, rfl⟩ := am_rng (n := 8) (by omega) hx.1 hx.2
      rw [nI_clamp (by omega)] at h
      have h43 : G 43 < 8 := hW.2.2.2.2.2.2.2.2.1
      have het : ∀ a, a < 8 → g_to (fun p q => bl (L 1 11) (8 * p + q)) (G 43) a = g_to (g_E G (G 25)) (G 43) a := fun a ha => g_to_congr (fun p q hp hq => rc p q hp hq) ha
      have r11 : I 1 9 = nI (G 43) := r9
      refine hG2 [] 100 0 _ _ _ _ (am_nt (am_bp hx) ?_)
      show (¬ nI f = I 1 9 → _) ∧ (nI f = I 1 9 → _)
      rw [r11]
      by_cases hfn : f = G 43
      · rw [if_pos hfn] at h
        exact am_nf (by rw [hfn]) (am_nf (by decide) (h I L hC))
      · rw [if_neg hfn] at h
        refine am_nt (fun z => hfn ((nI_eq (by omega) (by omega)).mp z)) (Exists.intro (f) (Exists.intro (G 43) (And.intro (hf8) (And.intro (h43) (And.intro (rfl) (And.intro (r9) (?_)))))))
        rw [het f hf8]
        cases e : g_to (g_E G (G 25)) (G 43) f with
        | none =>
          rw [e] at h
          exact am_nf (by decide) (h I L hC)
        | some q =>
          rw [e] at h
          have hq8 := (g_to_spec e).1
          exact am_nt (nI_pos (show q < 2 ^ 31 by omega)) (h I L hC)
    · rw [if_pos hx] at h
      exact hG2 [] 100 0 _ _ _ _ (am_nf (am_bn hx) (h I L hC))
  · exact h.elim
end
section
/-! THE CLASS: typing -/
def o_by (w : Int64) (k : Nat) : Nat := (f_byte w (nI k)).toNatClampNeg
theorem o_by_I (w : Int64) (k : Nat) : f_byte w (nI k) = nI (o_by w k) ∧ o_by w k < 256 := by
  obtain ⟨j, hj, e⟩ := pk_andE ((w.toUInt64 >>> ((8 * nI k).toInt64.toUInt64 &&& Int64.toUInt64 63)).toInt64.toInt32) (m := 255) 8 (by decide)
  have e2 : f_byte w (nI k) = nI j := e
  unfold o_by
  rw [e2, nI_clamp (by omega)]
  exact ⟨rfl, hj⟩
def o_tyB (w : Int64) (n : Nat) : Bool := (List.range n).all (fun k => decide (32 ≤ o_by w k) && decide (o_by w k ≤ 126))
theorem o_tyB_iff {w : Int64} {n : Nat} : o_tyB w n = true ↔ ∀ k, k < n → 32 ≤ o_by w k ∧ o_by w k ≤ 126 := by
  unfold o_tyB
  simp [List.all_eq_true]
/-- n bytes of w behind what is on the tape -/
def o_tt (tn : Nat) (tt : Nat → Nat) (w : Int64) (n : Nat) : Nat → Nat := fun j => if j < tn then tt j else o_by w (n - 1 - (j - tn))
def o_type : am_A → Int64 → Int32 → Int32 × am_A
  | (G, K, hk, tn, tt, R), w, n => if ¬ ((1 ≤ n ∧ n ≤ 8) ∧ o_tyB w n.toNatClampNeg = true) then (-1, (G, K, hk, tn, tt, R)) else if 100 < tn + n.toNatClampNeg then (-3, (G, K, hk, tn, tt, R)) else (nI (tn + n.toNatClampNeg), (G, K, hk, tn + n.toNatClampNeg, o_tt tn tt w n.toNatClampNeg, R))
theorem am_i8 : ∀ b, b < 127 → (nI b).toInt8.toInt32 = nI b := by decide +kernel
def T_RP_isTypeable : am_Sp := fun vs I L post => match vs with
  | [.long w, .int n] => post (some (.int (am_b ((1 ≤ n ∧ n ≤ 8) ∧ o_tyB w n.toNatClampNeg = true)))) I L
  | _ => False
def sp_RP_isTypeable : Nat → am_Sp := fun i => match i with
  | 223 => T_RP_byteOf
  | _ => am_no
set_option maxRecDepth 100000 in
set_option maxHeartbeats 4000000 in
theorem ok_RP_isTypeable : am_Ok am_SX sp_RP_isTypeable true k_RP_isTypeable 5 T_RP_isTypeable := by
  intro vs I L post h
  unfold T_RP_isTypeable at h
  split at h
  · rename_i w n
    refine ⟨Nat.le_of_ble_eq_true rfl, fun G2 hG2 => ?_⟩
    by_cases h1 : n < 1
    · rw [am_b0 (fun q => Int32.not_le.mpr h1 q.1.1)] at h
      exact hG2 [] 100 0 _ _ _ _ (am_t h1 (And.intro (Or.inl rfl) h))
    · by_cases h2 : 8 < n
      · rw [am_b0 (fun q => Int32.not_le.mpr h2 q.1.2)] at h
        exact hG2 [] 100 0 _ _ _ _ (am_f h1 (am_nf h2 (And.intro (Or.inl rfl) h)))
      · have hn1 : 1 ≤ n := Int32.not_lt.mp h1
        have hn8 : n ≤ 8 := Int32.not_lt.mp h2
        obtain ⟨m, hm, rfl⟩ := am_rng (n := 9) (by omega) (Int32.le_trans (by decide) hn1) (Int32.lt_of_le_of_lt hn8 (by decide))
        rw [nI_clamp (by omega)] at h
        have loop : ∀ d k (x4 : Option Value), m - k = d → k ≤ m → (∀ j, j < k → 32 ≤ o_by w j ∧ o_by w j ≤ 126) → G2 15 [some (.long w), none, some (.int (nI m)), some (.int (nI k)), x4] [] I L := by
          intro d
          induction d with
          | zero =>
            intro k x4 hd hk hj
            have e : k = m := by omega
            subst e
            rw [am_b1 ⟨⟨hn1, hn8⟩, o_tyB_iff.mpr hj⟩] at h
            exact hG2 [] 100 15 _ _ _ _ (am_nt (nI_nlt (Nat.le_refl k) (by omega)) (And.intro (Or.inr rfl) h))
          | succ d ih =>
            intro k x4 hd hk hj
            obtain ⟨e, hb⟩ := o_by_I w k
            have vb := o_by w k
            refine hG2 [(15, [])] 100 15 _ _ _ _ (am_nf (nI_lt (by omega) (by omega)) ?_)
            show (f_byte w (nI k) < 32 → _) ∧ (¬ f_byte w (nI k) < 32 → _)
            rw [e]
            by_cases b1 : o_by w k < 32
            · rw [am_b0 (fun q => by have := o_tyB_iff.mp q.2 k (by omega); omega)] at h
              exact am_t (am_lt b1 rfl) (And.intro (Or.inl rfl) h)
            · refine am_f (nI_nlt (a := o_by w k) (b := 32) (by omega) (by omega)) ?_
              by_cases b2 : 126 < o_by w k
              · rw [am_b0 (fun q => by have := o_tyB_iff.mp q.2 k (by omega); omega)] at h
                exact am_nf (nI_lt (a := 126) b2 (by omega)) (And.intro (Or.inl rfl) h)
              · refine am_nt (nI_nlt (a := 126) (b := o_by w k) (by omega) (by omega)) ?_
                show G2 15 [some (.long w), none, some (.int (nI m)), some (.int (nI k + 1)), some (.int (nI (o_by w k)))] [] I L
                rw [nI_1]
                refine ih (k + 1) _ (by omega) (by omega) (fun j hj2 => ?_)
                by_cases e3 : j = k
                · subst e3; exact ⟨by omega, by omega⟩
                · exact hj j (by omega)
        refine hG2 [(15, [])] 100 0 _ _ _ _ (am_f h1 (am_nt h2 ?_))
        exact loop m 0 none (by omega) (by omega) (fun j hj => by omega)
  · exact h.elim
def T_TP_add : am_Sp := fun vs I L post => match vs with
  | [.ref o, .long w, .int x] => o = 19 ∧ ∃ tn tt, ∃ n : Nat, TP I tn tt ∧ tn ≤ 100 ∧ 1 ≤ n ∧ n ≤ 8 ∧ x = nI n ∧ (∀ k, k < n → 32 ≤ o_by w k ∧ o_by w k ≤ 126) ∧ (100 < tn + n → post (some (.int 0)) I L) ∧ (¬ 100 < tn + n → ∀ I2 : am_I, TP I2 (tn + n) (o_tt tn tt w n) → (∀ a : Nat, a ≠ 19 → a ≠ 20 → I2 a = I a) → post (some (.int 1)) I2 L)
  | _ => False
def sp_TP_add : Nat → am_Sp := fun i => match i with
  | 19 => T_RP_byteOf
  | _ => am_no
set_option maxRecDepth 100000 in
set_option maxHeartbeats 4000000 in
theorem ok_TP_add : am_Ok am_SX sp_TP_add true k_TP_add 5 T_TP_add := by
  intro vs I L post h
  unfold T_TP_add at h
  split at h
  · rename_i o w x
    obtain ⟨rfl, tn, tt, n, hT, ht, hn1, hn8, rfl, hb2, h1, h2⟩ := h
    refine ⟨Nat.le_of_ble_eq_true rfl, fun G2 hG2 => ?_⟩
    have e100 : (100 : Int32) - I 19 1 = nI (100 - tn) := by rw [hT.1]; exact pk_sub ht
    by_cases hf : 100 < tn + n
    · refine hG2 [] 100 0 _ _ _ _ ?_
      show (¬ (100 : Int32) - I 19 1 < nI n → _) ∧ ((100 : Int32) - I 19 1 < nI n → _)
      rw [e100]
      exact am_nf (nI_lt (by omega) (by omega)) (And.intro (Or.inl rfl) (h1 hf))
    · have h2 := h2 hf
      have loop : ∀ c (I1 : am_I), c ≤ n → TP I1 (tn + (n - c)) (o_tt tn tt w n) → (∀ a : Nat, a ≠ 19 → a ≠ 20 → I1 a = I a) → G2 18 [some (.ref 19), some (.long w), none, some (.int (nI n)), some (.int (nI c - 1))] [] I1 L := by
        intro c
        induction c with
        | zero =>
          intro I1 hc hT1 hI1
          exact hG2 [] 100 18 _ _ _ _ (am_t (by decide) (And.intro (Or.inr rfl) (h2 I1 hT1 hI1)))
        | succ c ih =>
          intro I1 hc hT1 hI1
          obtain ⟨e, hb⟩ := o_by_I w c
          have hbb := hb2 c (by omega)
          rw [nI_pred]
          have e1 : I1 19 1 = nI (tn + (n - (c + 1))) := hT1.1
          refine hG2 [(18, [])] 100 18 _ _ _ _ (am_f (nI_pos (show c < 2 ^ 31 by omega)) ?_)
          refine And.intro (show vp_in (I1 19 1) 100 by rw [e1]; exact am_vin (by omega) rfl) ?_
          show G2 18 [some (.ref 19), some (.long w), none, some (.int (nI n)), some (.int (nI c + (-1)))] [] (am_ui (am_ui I1 20 (I1 19 1).toNatClampNeg (vp_nar .byte (f_byte w (nI c)).toInt8.toInt32)) 19 1 (am_ui I1 20 (I1 19 1).toNatClampNeg (vp_nar .byte (f_byte w (nI c)).toInt8.toInt32) 19 1 + 1)) L
          rw [am_uo (show (19 : Nat) ≠ 20 by omega), pk_vb, e, am_i8 _ (by omega), e1, nI_clamp (by omega), nI_1, show nI c + (-1) = nI c - 1 by grind]
          refine ih _ (by omega) ⟨?_, fun j hj => ?_⟩ (fun a h19 h20 => by rw [am_ui_o h19, am_ui_o h20]; exact hI1 a h19 h20)
          · rw [am_ui_e]; congr 1; omega
          · rw [am_uo (show (20 : Nat) ≠ 19 by omega)]
            by_cases e3 : j = tn + (n - (c + 1))
            · subst e3
              rw [am_ui_e]
              unfold o_tt
              rw [if_neg (by omega)]
              congr 2
              omega
            · rw [am_uk e3]; exact hT1.2 j (by omega)
      refine hG2 [(18, [])] 100 0 _ _ _ _ ?_
      show (¬ (100 : Int32) - I 19 1 < nI n → _) ∧ ((100 : Int32) - I 19 1 < nI n → _)
      rw [e100]
      refine am_nt (nI_nlt (by omega) (by omega)) ?_
      refine loop n I (Nat.le_refl n) ⟨?_, fun j hj => ?_⟩ (fun _ _ _ => rfl)
      · rw [hT.1]; congr 1; omega
      · rw [hT.2 j (by omega)]
        unfold o_tt
        rw [if_pos (by omega)]
  · exact h.elim
def T_RP_type : am_Sp := fun vs I L post => match vs with
  | [.ref o, .long w, .int n] => o = 0 ∧ ∃ A, CR I L A ∧ ∀ (I2 : am_I) (L2 : am_J), CR I2 L2 (o_type A w n).2 → post (some (.int (o_type A w n).1)) I2 L2
  | _ => False
def sp_RP_type : Nat → am_Sp := fun i => match i with
  | 115 => T_RP_isTypeable
  | 119 => T_TP_add
  | _ => am_no
set_option maxRecDepth 100000 in
set_option maxHeartbeats 4000000 in
theorem ok_RP_type : am_Ok am_SX sp_RP_type false k_RP_type 4 T_RP_type := by
  intro vs I L post h
  unfold T_RP_type at h
  split at h
  · rename_i o w n
    obtain ⟨rfl, A, hC, h⟩ := h
    refine ⟨Nat.le_of_ble_eq_true rfl, fun G2 hG2 => ?_⟩
    obtain ⟨G, K, hk, tn, tt, ln, sz, it⟩ := A
    obtain ⟨hV, hR, hKr, hk7, hT, hS, hSh⟩ := id hC
    have hW : WG G := hV.1
    have h12 := hW.1
    dsimp only [o_type] at h
    by_cases hv : (1 ≤ n ∧ n ≤ 8) ∧ o_tyB w n.toNatClampNeg = true
    · rw [if_neg (fun q => q hv)] at h
      obtain ⟨m, hm, rfl⟩ := am_rng (n := 9) (by omega) (Int32.le_trans (by decide) hv.1.1) (Int32.lt_of_le_of_lt hv.1.2 (by decide))
      have hm1 : 1 ≤ m := by
        have q := hv.1.1
        have e1 : (1 : Int32) = nI 1 := rfl
        rw [e1, nI_leI (by omega) (by omega)] at q
        exact q
      have hall := o_tyB_iff.mp hv.2
      have cm : (nI m).toNatClampNeg = m := nI_clamp (by omega)
      rw [cm] at hall
      rw [cm] at h
      refine hG2 [] 100 0 _ _ _ _ (am_nt (am_bp hv) (And.intro (rfl) (Exists.intro (tn) (Exists.intro (tt) (Exists.intro (m) (And.intro (hT) (And.intro (hV.2.2.1) (And.intro (hm1) (And.intro (by omega) (And.intro (rfl) (And.intro (hall) (And.intro (fun hf => ?_) (fun hf I2 hT2 hI2 => ?_)))))))))))))
      · rw [if_pos hf] at h
        exact am_t rfl (h I L hC)
      · rw [if_neg hf] at h
        refine am_f (by decide) ?_
        show post (some (.int (I2 19 1))) I2 L
        rw [hT2.1]
        obtain ⟨V, hS⟩ := hS
        refine h I2 L ⟨⟨hV.1, hV.2.1, by omega, fun j hj => ?_, hV.2.2.2.2⟩, RC_fr hR (fun a h1 h2 => hI2 a (by omega) (by omega)) rfl, RC_fr hKr (fun a h1 h2 => hI2 a (by omega) (by omega)) rfl, by rw [hI2 0 (by omega) (by omega)]; exact hk7, hT2, ⟨V, SC_fr hS (by rw [hI2 22 (by omega) (by omega)]) (hI2 24 (by omega) (by omega)) rfl⟩, SHc_fr hSh (fun a h1 h2 => hI2 a (by omega) (by omega)) (fun _ _ _ => rfl)⟩
        unfold o_tt
        split
        · rename_i hjt; exact hV.2.2.2.1 j hjt
        · exact hall _ (by omega)
    · rw [if_pos hv] at h
      exact hG2 [] 100 0 _ _ _ _ (am_nf (am_bn hv) (h I L hC))
  · exact h.elim
end
section
/-! A PASS READ, in words; THE CLASS: signs -/
def p_ah (tn : Nat) (tt : Nat → Nat) : Nat → Nat → Nat
  | 0, s => s
  | n + 1, s => if s < tn ∧ tt s = 32 then p_ah tn tt n (s + 1) else s
/-- where the next sign behind blanks is -/
def p_at (tn : Nat) (tt : Nat → Nat) (s : Nat) : Nat := p_ah tn tt 101 s
def p_c (tn : Nat) (tt : Nat → Nat) (s : Nat) : Int32 := if p_at tn tt s < tn then nI (tt (p_at tn tt s)) else -1
theorem p_ah_more (tn : Nat) (tt : Nat → Nat) : ∀ n s, tn ≤ s + n → p_ah tn tt (n + 1) s = p_ah tn tt n s := by
  intro n
  induction n with
  | zero =>
    intro s h
    simp only [p_ah]
    rw [if_neg (by omega)]
  | succ n ih =>
    intro s h
    show (if s < tn ∧ tt s = 32 then p_ah tn tt (n + 1) (s + 1) else s) = (if s < tn ∧ tt s = 32 then p_ah tn tt n (s + 1) else s)
    rw [ih (s + 1) (by omega)]
theorem p_at_step {tn : Nat} {tt : Nat → Nat} {s : Nat} (ht : tn ≤ 100) (h : s < tn ∧ tt s = 32) : p_at tn tt (s + 1) = p_at tn tt s := by
  unfold p_at
  rw [← p_ah_more tn tt 101 s (by omega)]
  show _ = if s < tn ∧ tt s = 32 then p_ah tn tt 101 (s + 1) else s
  rw [if_pos h]
theorem p_at_id {tn : Nat} {tt : Nat → Nat} {s : Nat} (h : ¬ (s < tn ∧ tt s = 32)) : p_at tn tt s = s := by
  unfold p_at
  show (if s < tn ∧ tt s = 32 then p_ah tn tt 100 (s + 1) else s) = s
  rw [if_neg h]
theorem p_at_spec {tn : Nat} {tt : Nat → Nat} (ht : tn ≤ 100) : ∀ d s, tn - s = d → s ≤ tn → s ≤ p_at tn tt s ∧ p_at tn tt s ≤ tn ∧ ¬ (p_at tn tt s < tn ∧ tt (p_at tn tt s) = 32) := by
  intro d
  induction d with
  | zero =>
    intro s hd hs
    rw [p_at_id (fun q => by omega)]
    exact ⟨Nat.le_refl _, hs, fun q => by omega⟩
  | succ d ih =>
    intro s hd hs
    by_cases h : s < tn ∧ tt s = 32
    · rw [← p_at_step ht h]
      obtain ⟨a, b, c⟩ := ih (s + 1) (by omega) (by omega)
      exact ⟨by omega, b, c⟩
    · rw [p_at_id h]
      exact ⟨Nat.le_refl _, hs, h⟩
theorem p_at_at {tn : Nat} {tt : Nat → Nat} {s : Nat} (ht : tn ≤ 100) (hs : s ≤ tn) : p_at tn tt (p_at tn tt s) = p_at tn tt s := p_at_id (p_at_spec ht _ s rfl hs).2.2
theorem p_c_at {tn : Nat} {tt : Nat → Nat} {s : Nat} (ht : tn ≤ 100) (hs : s ≤ tn) : p_c tn tt (p_at tn tt s) = p_c tn tt s := by
  unfold p_c
  rw [p_at_at ht hs]
theorem p_c_congr {tn : Nat} {tt : Nat → Nat} {s t : Nat} (h : p_at tn tt s = p_at tn tt t) : p_c tn tt s = p_c tn tt t := by
  unfold p_c
  rw [h]
theorem p_at_lt {tn : Nat} {tt : Nat → Nat} {s : Nat} (h : ¬ p_c tn tt s = -1) : p_at tn tt s < tn := by
  unfold p_c at h
  split at h
  · assumption
  · exact absurd rfl h
def p_B (tn : Nat) (tt : Nat → Nat) : Prop := tn ≤ 100 ∧ ∀ j, j < tn → 32 ≤ tt j ∧ tt j ≤ 126
theorem p_c_rng {tn : Nat} {tt : Nat → Nat} (h : p_B tn tt) (s : Nat) : p_c tn tt s = -1 ∨ ∃ c, c ≤ 126 ∧ p_c tn tt s = nI c := by
  unfold p_c
  split
  · rename_i q
    exact Or.inr ⟨_, (h.2 _ q).2, rfl⟩
  · exact Or.inl rfl
def T_TP_sign : am_Sp := fun vs I L post => match vs with
  | [.ref o] => o = 19 ∧ ∃ tn tt s, p_B tn tt ∧ TP I tn tt ∧ s ≤ tn ∧ I 19 2 = nI s ∧ post (some (.int (p_c tn tt s))) (am_ui I 19 2 (nI (p_at tn tt s))) L
  | _ => False
abbrev sp_TP_sign : Nat → am_Sp := fun _ => am_no
set_option maxRecDepth 100000 in
set_option maxHeartbeats 4000000 in
theorem ok_TP_sign : am_Ok am_SX sp_TP_sign false k_TP_sign 1 T_TP_sign := by
  intro vs I L post h
  unfold T_TP_sign at h
  split at h
  · rename_i o
    obtain ⟨rfl, tn, tt, s, hB, hT, hs, h2, h⟩ := h
    refine ⟨Nat.le_of_ble_eq_true rfl, fun G2 hG2 => ?_⟩
    have ht := hB.1
    have loop : ∀ d t, tn - t = d → t ≤ tn → p_at tn tt t = p_at tn tt s → G2 0 [some (.ref 19)] [] (am_ui I 19 2 (nI t)) L := by
      intro d
      induction d with
      | zero =>
        intro t hd hle he
        have e : t = tn := by omega
        subst e
        have e1 : am_ui I 19 2 (nI t) 19 1 = nI t := (am_uk (by omega)).trans hT.1
        have e3 : p_at t tt s = t := by rw [← he]; exact p_at_id (fun q => by omega)
        have e4 : p_c t tt s = -1 := by unfold p_c; rw [e3, if_neg (by omega)]
        rw [e3, e4] at h
        refine hG2 [(38, [])] 100 0 _ _ _ _ ?_
        show (¬ am_ui I 19 2 (nI t) 19 2 < am_ui I 19 2 (nI t) 19 1 → _) ∧ (am_ui I 19 2 (nI t) 19 2 < am_ui I 19 2 (nI t) 19 1 → _)
        rw [am_ui_e, e1]
        refine am_nt (nI_nlt (Nat.le_refl t) (by omega)) ?_
        refine hG2 [] 100 38 _ _ _ _ ?_
        show (¬ am_ui I 19 2 (nI t) 19 2 < am_ui I 19 2 (nI t) 19 1 → _) ∧ (am_ui I 19 2 (nI t) 19 2 < am_ui I 19 2 (nI t) 19 1 → _)
        rw [am_ui_e, e1]
        exact am_nt (nI_nlt (Nat.le_refl t) (by omega)) h
      | succ d ih =>
        intro t hd hle he
        have hlt : t < tn := by omega
        have e1 : am_ui I 19 2 (nI t) 19 1 = nI tn := (am_uk (by omega)).trans hT.1
        have e20 : am_ui I 19 2 (nI t) 20 = I 20 := am_ui_o (by omega)
        have hbt := hB.2 t hlt
        refine hG2 [(0, []), (38, [])] 100 0 _ _ _ _ ?_
        show (¬ am_ui I 19 2 (nI t) 19 2 < am_ui I 19 2 (nI t) 19 1 → _) ∧ (am_ui I 19 2 (nI t) 19 2 < am_ui I 19 2 (nI t) 19 1 → vp_in (am_ui I 19 2 (nI t) 19 2) 100 ∧ ((¬ am_ui I 19 2 (nI t) 20 (am_ui I 19 2 (nI t) 19 2).toNatClampNeg = 32 → _) ∧ (am_ui I 19 2 (nI t) 20 (am_ui I 19 2 (nI t) 19 2).toNatClampNeg = 32 → G2 0 [some (.ref 19)] [] (am_ui (am_ui I 19 2 (nI t)) 19 2 (am_ui I 19 2 (nI t) 19 2 + 1)) L)))
        rw [am_ui_e, e1, e20, nI_clamp (by omega), hT.2 t hlt, nI_1]
        refine am_nf (nI_lt hlt (by omega)) (And.intro (am_vin (by omega) rfl) ?_)
        by_cases hb : tt t = 32
        · refine am_nf (by rw [hb]; rfl) ?_
          have e5 : am_ui (am_ui I 19 2 (nI t)) 19 2 (nI (t + 1)) = am_ui I 19 2 (nI (t + 1)) := by
            funext a b
            simp only [am_ui_r]
            split <;> rfl
          rw [e5]
          exact ih (t + 1) (by omega) (by omega) (by rw [p_at_step ht ⟨hlt, hb⟩]; exact he)
        · have e3 : p_at tn tt s = t := by rw [← he]; exact p_at_id (fun q => hb q.2)
          have e4 : p_c tn tt s = nI (tt t) := by unfold p_c; rw [e3, if_pos hlt]
          rw [e3, e4] at h
          refine am_nt (fun z => hb ?_) ?_
          · have z : nI (tt t) = nI 32 := z
            exact (nI_eq (by omega) (by omega)).mp z
          · refine hG2 [] 100 38 _ _ _ _ ?_
            show (¬ am_ui I 19 2 (nI t) 19 2 < am_ui I 19 2 (nI t) 19 1 → _) ∧ (am_ui I 19 2 (nI t) 19 2 < am_ui I 19 2 (nI t) 19 1 → vp_in (am_ui I 19 2 (nI t) 19 2) 100 ∧ post (some (.int (am_ui I 19 2 (nI t) 20 (am_ui I 19 2 (nI t) 19 2).toNatClampNeg))) (am_ui I 19 2 (nI t)) L)
            rw [am_ui_e, e1, e20, nI_clamp (by omega), hT.2 t hlt]
            exact am_nf (nI_lt hlt (by omega)) (And.intro (am_vin (by omega) rfl) h)
    have := loop (tn - s) s rfl hs rfl
    rw [am_ui_id h2] at this
    exact this
  · exact h.elim
def p_dg (tn : Nat) (tt : Nat → Nat) (s : Nat) : Int32 := if 0 ≤ p_c tn tt s - 48 ∧ p_c tn tt s - 48 < 8 then p_c tn tt s - 48 else -1
def T_TP_digit : am_Sp := fun vs I L post => match vs with
  | [.ref o] => o = 19 ∧ ∃ tn tt s, p_B tn tt ∧ TP I tn tt ∧ s ≤ tn ∧ I 19 2 = nI s ∧ post (some (.int (p_dg tn tt s))) (am_ui I 19 2 (nI (p_at tn tt s))) L
  | _ => False
def sp_TP_digit : Nat → am_Sp := fun i => match i with
  | 35 => T_TP_sign
  | 78 => T_RP_isPlace
  | _ => am_no
set_option maxRecDepth 100000 in
theorem ok_TP_digit : am_Ok am_SX sp_TP_digit false k_TP_digit 2 T_TP_digit := by
  intro vs I L post h
  unfold T_TP_digit at h
  split at h
  · rename_i o
    obtain ⟨rfl, tn, tt, s, hB, hT, hs, h2, h⟩ := h
    refine ⟨Nat.le_of_ble_eq_true rfl, fun G2 hG2 => ?_⟩
    unfold p_dg at h
    refine hG2 [] 100 0 _ _ _ _ (And.intro (rfl) (Exists.intro (tn) (Exists.intro (tt) (Exists.intro (s) (And.intro (hB) (And.intro (hT) (And.intro (hs) (And.intro (h2) (?_)))))))))
    by_cases hd : 0 ≤ p_c tn tt s - 48 ∧ p_c tn tt s - 48 < 8
    · rw [if_pos hd] at h
      exact am_f (am_bp hd) h
    · rw [if_neg hd] at h
      exact am_t (am_bn hd) h
  · exact h.elim
def T_TP_take : am_Sp := fun vs I L post => match vs with
  | [.ref o, .int x] => o = 19 ∧ ∃ tn tt s, p_B tn tt ∧ TP I tn tt ∧ s ≤ tn ∧ I 19 2 = nI s ∧ (p_c tn tt s = x → post (some (.int 1)) (am_ui I 19 2 (nI (p_at tn tt s + 1))) L) ∧ (¬ p_c tn tt s = x → post (some (.int 0)) (am_ui I 19 2 (nI (p_at tn tt s))) L)
  | _ => False
def sp_TP_take : Nat → am_Sp := fun i => match i with
  | 35 => T_TP_sign
  | _ => am_no
set_option maxRecDepth 100000 in
theorem ok_TP_take : am_Ok am_SX sp_TP_take true k_TP_take 3 T_TP_take := by
  intro vs I L post h
  unfold T_TP_take at h
  split at h
  · rename_i o x
    obtain ⟨rfl, tn, tt, s, hB, hT, hs, h2, ha, hb⟩ := h
    refine ⟨Nat.le_of_ble_eq_true rfl, fun G2 hG2 => ?_⟩
    refine hG2 [(14, [])] 100 0 _ _ _ _ (And.intro (rfl) (Exists.intro (tn) (Exists.intro (tt) (Exists.intro (s) (And.intro (hB) (And.intro (hT) (And.intro (hs) (And.intro (h2) (?_)))))))))
    by_cases hd : p_c tn tt s = x
    · refine am_nf hd ?_
      refine hG2 [] 100 14 _ _ _ _ (am_f (by decide) (And.intro (Or.inr rfl) ?_))
      refine am_pq (ha hd) rfl ?_ rfl
      rw [am_ui_e, nI_1]
      funext a b
      simp only [am_ui_r]
      split <;> rfl
    · refine am_nt hd ?_
      exact hG2 [] 100 14 _ _ _ _ (am_t rfl (And.intro (Or.inl rfl) (hb hd)))
  · exact h.elim
end
section
/-! A PASS READ, in words; THE CLASS: a way read -/
theorem am_ui_ui {I : am_I} {o k : Nat} {x y : Int32} : am_ui (am_ui I o k x) o k y = am_ui I o k y := by
  funext a b
  simp only [am_ui_r]
  split <;> rfl
theorem am_ui_row {I X : am_I} {o k a : Nat} {x : Int32} (h : X a = I a) : am_ui X o k x a = am_ui I o k x a := by
  funext b
  simp only [am_ui_r, h]
theorem f_join_9 {I : am_I} {r : Nat} {a b d x : Int32} : f_joinI (am_ui I r 9 x) r a b d = am_ui (f_joinI I r a b d) r 9 x := by
  have e5 : am_ui I r 9 x r 5 = I r 5 := am_uk (by omega)
  have e6 : am_ui I r 9 x r 6 = I r 6 := am_uk (by omega)
  unfold f_joinI
  rw [e5, e6]
  by_cases hd : d = 0
  · simp only [hd, if_true]
    funext p q
    by_cases h9 : p = r ∧ q = 9
    · obtain ⟨rfl, rfl⟩ := h9; simp [am_ui_r]
    · simp [am_ui_r, h9]
  · simp only [hd, if_false]
    funext p q
    by_cases h9 : p = r ∧ q = 9
    · obtain ⟨rfl, rfl⟩ := h9; simp [am_ui_r]
    · simp [am_ui_r, h9]
/-- the draft holds D -/
def PD (I : am_I) (L : am_J) (D : Nat → Nat) : Prop := WG D ∧ D 43 = 0 ∧ D 44 = 0 ∧ RC (am_ui I 13 9 0) L 13 D
def PF (I I2 : am_I) (L L2 : am_J) : Prop := (∀ a : Nat, (a < 13 ∨ 19 < a) → I2 a = I a) ∧ I2 19 1 = I 19 1 ∧ ∀ a : Nat, a ≠ 13 → L2 a = L a
theorem PF_rfl {I : am_I} {L : am_J} : PF I I L L := ⟨fun _ _ => rfl, rfl, fun _ _ => rfl⟩
theorem PF_tr {I I2 I3 : am_I} {L L2 L3 : am_J} (h : PF I I2 L L2) (h2 : PF I2 I3 L2 L3) : PF I I3 L L3 := ⟨fun a x => (h2.1 a x).trans (h.1 a x), h2.2.1.trans h.2.1, fun a x => (h2.2.2 a x).trans (h.2.2 a x)⟩
theorem PF_19 {I : am_I} {L : am_J} {v : Int32} : PF I (am_ui I 19 2 v) L L := ⟨fun a h => am_ui_o (by omega), am_uk (by omega), fun _ _ => rfl⟩
theorem TP_19 {I : am_I} {tn : Nat} {tt : Nat → Nat} {v : Int32} (h : TP I tn tt) : TP (am_ui I 19 2 v) tn tt := TP_fr h (am_uk (by omega)) (am_ui_o (by omega))
theorem TP_PF {I I2 : am_I} {L L2 : am_J} {tn : Nat} {tt : Nat → Nat} (h : TP I tn tt) (hf : PF I I2 L L2) : TP I2 tn tt := TP_fr h hf.2.1 (hf.1 20 (by omega))
theorem PD_fr {I I2 : am_I} {L L2 : am_J} {D : Nat → Nat} (h : PD I L D) (hI : ∀ a : Nat, 13 ≤ a → a ≤ 18 → I2 a = I a) (hL : L2 13 = L 13) : PD I2 L2 D := ⟨h.1, h.2.1, h.2.2.1, RC_fr h.2.2.2 (fun a h1 h2 => am_ui_row (hI a h1 (by omega))) hL⟩
theorem PD_19 {I : am_I} {L : am_J} {D : Nat → Nat} {v : Int32} (h : PD I L D) : PD (am_ui I 19 2 v) L D := PD_fr h (fun a _ _ => am_ui_o (by omega)) rfl
theorem PD_cell {I : am_I} {L : am_J} {D : Nat → Nat} (h : PD I L D) : I 13 5 = nI (D 0) ∧ I 13 6 = nI (D 25) ∧ I 13 8 = nI (D 26) ∧ ∀ a b, a < 8 → b < 8 → f_wb I 13 (nI a) (nI b) = nI (g_wy D a b) - 1 := by
  obtain ⟨_, _, _, hR⟩ := h
  refine ⟨(am_uk (by omega)).symm.trans hR.1, (am_uk (by omega)).symm.trans hR.2.1, (am_uk (by omega)).symm.trans hR.2.2.2.1, fun a b ha hb => ?_⟩
  have := f_wb_RC hR ha hb
  have e : f_wb (am_ui I 13 9 0) 13 (nI a) (nI b) = f_wb I 13 (nI a) (nI b) := by
    unfold f_wb
    rw [am_uo (show (13 + 3 : Nat) ≠ 13 by omega)]
  rw [← e]; exact this
theorem PD_join {I : am_I} {L : am_J} {D : Nat → Nat} (h : PD I L D) {x y : Nat} {d : Int32} (hx : x < 8) (hy : y < 8) (hxy : x ≠ y) (hw : g_wy D x y = 0) (h12 : D 0 < 12) (hd : ¬ d = 0 → g_pc (D 25) 12 < 6) : PD (f_joinI I 13 (nI x) (nI y) d) (f_joinL L 13 (nI x) (nI y) d) (g_add D x y (!decide (d = 0))) := by
  obtain ⟨w, h43, h44, hR⟩ := h
  have eo : ∀ i, 25 < i → g_add D x y (!decide (d = 0)) i = D i := fun i hi => by
    unfold g_add
    rw [if_neg (by omega), if_neg (by omega), if_neg (by omega), if_neg (by omega)]
  refine ⟨WG_add w hx hy hxy hw h12 (fun z => hd (by simpa using z)), (eo 43 (by omega)).trans h43, (eo 44 (by omega)).trans h44, ?_⟩
  rw [← f_join_9]
  exact RC_join w hR hx hy hxy hw h12
theorem p_dg_cases {tn : Nat} {tt : Nat → Nat} (s : Nat) : p_dg tn tt s = -1 ∨ ∃ x, x < 8 ∧ p_dg tn tt s = nI x ∧ p_at tn tt s < tn := by
  unfold p_dg
  split
  · rename_i q
    obtain ⟨x, hx, e⟩ := am_rng (n := 8) (by omega) q.1 q.2
    refine Or.inr ⟨x, hx, e, p_at_lt (fun z => ?_)⟩
    rw [z] at q
    exact absurd q.1 (by decide)
  · exact Or.inl rfl
/-- a way is read: whether it may stand; where it ends, or the fault is; the road with it -/
def p_way (tn : Nat) (tt : Nat → Nat) (s : Nat) (D : Nat → Nat) : Bool × Nat × (Nat → Nat) :=
  if p_dg tn tt s = -1 then (false, p_at tn tt s, D)
  else if p_dg tn tt (p_at tn tt s + 1) = -1 ∨ p_dg tn tt s = p_dg tn tt (p_at tn tt s + 1) ∨ ¬ g_wy D (p_dg tn tt s).toNatClampNeg (p_dg tn tt (p_at tn tt s + 1)).toNatClampNeg = 0 then (false, p_at tn tt (p_at tn tt s + 1), D)
  else if p_c tn tt (p_at tn tt (p_at tn tt s + 1) + 1) = 63 then (if g_pc (D 25) 12 = 6 then (false, p_at tn tt (p_at tn tt (p_at tn tt s + 1) + 1), D) else (true, p_at tn tt (p_at tn tt (p_at tn tt s + 1) + 1) + 1, g_add D (p_dg tn tt s).toNatClampNeg (p_dg tn tt (p_at tn tt s + 1)).toNatClampNeg true))
  else (true, p_at tn tt (p_at tn tt (p_at tn tt s + 1) + 1), g_add D (p_dg tn tt s).toNatClampNeg (p_dg tn tt (p_at tn tt s + 1)).toNatClampNeg false)
/-- what the class makes of a part of the text -/
def p_R (tn : Nat) (tt : Nat → Nat) (r : Bool × Nat × (Nat → Nat)) (v : Int32) (t : Nat) (I2 : am_I) (L2 : am_J) : Prop := (r.1 = true ∧ v = 1 ∧ PD I2 L2 r.2.2 ∧ p_at tn tt t = p_at tn tt r.2.1) ∨ (r.1 = false ∧ v = 0 ∧ t = r.2.1) ∨ (r.1 = false ∧ v = 1 ∧ p_at tn tt t = r.2.1 ∧ p_c tn tt t = 63)
def T_TP_takeWay : am_Sp := fun vs I L post => match vs with
  | [.ref o, .ref r] => o = 19 ∧ r = 13 ∧ ∃ tn tt s D, p_B tn tt ∧ TP I tn tt ∧ s ≤ tn ∧ I 19 2 = nI s ∧ PD I L D ∧ D 0 < 12 ∧ ∀ (v : Int32) (t : Nat) (I2 : am_I) (L2 : am_J), TP I2 tn tt → t ≤ tn → I2 19 2 = nI t → PF I I2 L L2 → p_R tn tt (p_way tn tt s D) v t I2 L2 → post (some (.int v)) I2 L2
  | _ => False
def sp_TP_takeWay : Nat → am_Sp := fun i => match i with
  | 42 => T_TP_take
  | 49 => T_TP_digit
  | 52 => T_RD_isJoined
  | 56 => T_RD_hasRoom
  | 60 => T_RD_join
  | _ => am_no
set_option maxRecDepth 100000 in
set_option maxHeartbeats 4000000 in
theorem ok_TP_takeWay : am_Ok am_SX sp_TP_takeWay true k_TP_takeWay 5 T_TP_takeWay := by
  intro vs I L post h
  unfold T_TP_takeWay at h
  split at h
  · rename_i o r
    obtain ⟨rfl, rfl, tn, tt, s, D, hB, hT, hs, h2, hD, h6, h⟩ := h
    refine ⟨Nat.le_of_ble_eq_true rfl, fun G2 hG2 => ?_⟩
    have ht := hB.1
    obtain ⟨c5, c6, c8, cw⟩ := PD_cell hD
    have hpc : f_bc (nI (D 25)) = nI (g_pc (D 25) 12) := f_bc_nI _ (by have := hD.1.2.2.2.1; omega)
    have hp6 := hD.1.2.2.2.2.2.1
    obtain ⟨a1, a2, a3⟩ := p_at_spec (tt := tt) ht _ s rfl hs
    refine hG2 [(78, [])] 100 0 _ _ _ _ (And.intro (rfl) (Exists.intro (tn) (Exists.intro (tt) (Exists.intro (s) (And.intro (hB) (And.intro (hT) (And.intro (hs) (And.intro (h2) (?_)))))))))
    rcases p_dg_cases (tn := tn) (tt := tt) s with e1 | ⟨x, hx, e1, l1⟩
    · rw [e1]
      refine am_nf (by decide) (And.intro (Or.inl rfl) (h 0 _ _ _ (TP_19 hT) a2 am_ui_e PF_19 ?_))
      unfold p_way
      rw [if_pos e1]
      exact Or.inr (Or.inl ⟨rfl, rfl, rfl⟩)
    · have n1 : ¬ p_dg tn tt s = -1 := by rw [e1]; exact fun z => absurd z (fun z => nI_pos (n := x) (by omega) (by rw [z]; decide))
      rw [e1]
      refine am_nt (nI_pos (by omega)) ?_
      obtain ⟨b1, b2, b3⟩ := p_at_spec (tt := tt) ht _ (p_at tn tt s + 1) rfl l1
      show 19 = 19 ∧ ∃ tn tt s, p_B tn tt ∧ TP (am_ui (am_ui I 19 2 (nI (p_at _ _ _))) 19 2 (am_ui I 19 2 (nI (p_at _ _ _)) 19 2 + 1)) tn tt ∧ s ≤ tn ∧ _ ∧ _
      rw [am_ui_e, am_ui_ui, nI_1]
      refine And.intro (rfl) (Exists.intro (tn) (Exists.intro (tt) (Exists.intro (p_at tn tt s + 1) (And.intro (hB) (And.intro (TP_19 hT) (And.intro (l1) (And.intro (am_ui_e) (?_))))))))
      rw [am_ui_ui]
      rcases p_dg_cases (tn := tn) (tt := tt) (p_at tn tt s + 1) with e2 | ⟨y, hy, e2, l2⟩
      · rw [e2]
        refine am_t (by decide) (And.intro (Or.inl rfl) (h 0 _ _ _ (TP_19 hT) b2 am_ui_e PF_19 ?_))
        unfold p_way
        rw [if_neg n1, if_pos (Or.inl e2)]
        exact Or.inr (Or.inl ⟨rfl, rfl, rfl⟩)
      · have n2 : ¬ p_dg tn tt (p_at tn tt s + 1) = -1 := by rw [e2]; exact fun z => absurd z (fun z => nI_pos (n := y) (by omega) (by rw [z]; decide))
        rw [e2]
        refine am_f (nI_pos (by omega)) ?_
        have cx : (p_dg tn tt s).toNatClampNeg = x := by rw [e1]; exact nI_clamp (by omega)
        have cy : (p_dg tn tt (p_at tn tt s + 1)).toNatClampNeg = y := by rw [e2]; exact nI_clamp (by omega)
        by_cases hxy : x = y
        · refine am_t (by rw [hxy]) (And.intro (Or.inl rfl) (h 0 _ _ _ (TP_19 hT) b2 am_ui_e PF_19 ?_))
          unfold p_way
          rw [if_neg n1, if_pos (Or.inr (Or.inl (by rw [e1, e2, hxy])))]
          exact Or.inr (Or.inl ⟨rfl, rfl, rfl⟩)
        · have nxy : ¬ nI x = nI y := fun z => hxy ((nI_eq (by omega) (by omega)).mp z)
          refine am_f nxy (And.intro (Or.inr (Or.inr rfl)) ?_)
          have hle := g_wy_le D x y
          have h12 := hD.1.1
          have ew := (PD_cell (PD_19 (v := nI (p_at tn tt (p_at tn tt s + 1))) hD)).2.2.2 x y hx hy
          by_cases hw : g_wy D x y = 0
          · refine am_t (am_bn (by rw [ew, nI_m1 (by omega)]; exact fun q => q hw)) (And.intro (Or.inr (Or.inr rfl)) ?_)
            have hpw : p_way tn tt s D = if p_c tn tt (p_at tn tt (p_at tn tt s + 1) + 1) = 63 then (if g_pc (D 25) 12 = 6 then (false, p_at tn tt (p_at tn tt (p_at tn tt s + 1) + 1), D) else (true, p_at tn tt (p_at tn tt (p_at tn tt s + 1) + 1) + 1, g_add D x y true)) else (true, p_at tn tt (p_at tn tt (p_at tn tt s + 1) + 1), g_add D x y false) := by
              unfold p_way
              rw [if_neg n1, if_neg (by rintro (q | q | q); exact n2 q; exact nxy (by rw [← e1, ← e2]; exact q); exact q (by rw [cx, cy]; exact hw)), cx, cy]
            show (am_b (am_ui (am_ui I 19 2 (nI (p_at tn tt (p_at tn tt s + 1)))) 19 2 (am_ui I 19 2 (nI (p_at tn tt (p_at tn tt s + 1))) 19 2 + 1) 13 5 < 12 ∧ ((1 : Int32) = 0 ∨ f_bc (am_ui (am_ui I 19 2 (nI (p_at tn tt (p_at tn tt s + 1)))) 19 2 (am_ui I 19 2 (nI (p_at tn tt (p_at tn tt s + 1))) 19 2 + 1) 13 6) < 6)) = 0 → _) ∧ _
            rw [am_ui_e, am_ui_ui, nI_1, am_uo (show (13 : Nat) ≠ 19 by omega), am_uo (show (13 : Nat) ≠ 19 by omega), c5, c6, hpc]
            obtain ⟨d1, d2, d3⟩ := p_at_spec (tt := tt) ht _ (p_at tn tt (p_at tn tt s + 1) + 1) rfl l2
            -- the way joins the road
            have joi : ∀ (t : Nat) (dd : Int32), t ≤ tn → (dd = 0 ∨ dd = 1) → (¬ dd = 0 → g_pc (D 25) 12 < 6) → (∀ (I2 : am_I) (L2 : am_J), PD I2 L2 (g_add D x y (!decide (dd = 0))) → p_R tn tt (p_way tn tt s D) 1 t I2 L2) → G2 78 [some (.ref 19), some (.ref 13), some (.int (nI x)), some (.int (nI y)), none] [.int dd] (am_ui I 19 2 (nI t)) L := by
              intro t dd htn hdd hd6 hR
              have hD2 := PD_join (PD_19 (v := nI t) hD) hx hy hxy hw h6 hd6
              have c52 : am_ui I 19 2 (nI t) 13 5 = nI (D 0) := (am_uo (by omega)).trans c5
              have hfin : post (some (.int 1)) (f_joinI (am_ui I 19 2 (nI t)) 13 (nI x) (nI y) dd) (f_joinL L 13 (nI x) (nI y) dd) := by
                have hfr := f_join_fr (I := am_ui I 19 2 (nI t)) (L := L) (r := 13) (a := nI x) (b := nI y) (d := dd)
                have hpf : PF (am_ui I 19 2 (nI t)) (f_joinI (am_ui I 19 2 (nI t)) 13 (nI x) (nI y) dd) L (f_joinL L 13 (nI x) (nI y) dd) := ⟨fun a ha => hfr.1 a (show a ≠ 13 by omega) (show a ≠ 14 by omega) (show a ≠ 15 by omega) (show a ≠ 16 by omega), by rw [hfr.1 19 (by omega) (by omega) (by omega) (by omega)], fun a ha => hfr.2 a ha⟩
                exact h 1 t _ _ (TP_PF (TP_19 hT) hpf) htn (by rw [hfr.1 19 (by omega) (by omega) (by omega) (by omega)]; exact am_ui_e) (PF_tr PF_19 hpf) (hR _ _ hD2)
              refine hG2 [] 100 78 _ _ _ _ (And.intro (Or.inr (Or.inr rfl)) (And.intro (am_pl8 hx) (And.intro (am_pl8 hy) (And.intro ?_ ?_))))
              · rw [c52]; exact ⟨nI_pos' (by omega), am_lt h6 rfl⟩
              · rw [c52]
                exact am_f (fun z => nI_pos (n := D 0) (by omega) (by rw [z]; decide)) (And.intro (Or.inr rfl) hfin)
            by_cases hrm : g_pc (D 25) 12 = 6
            · refine am_t (am_bn ?_) ?_
              · rintro ⟨_, q | q⟩
                · exact absurd q (by decide)
                · rw [hrm] at q; exact absurd q (by decide)
              · refine joi (p_at tn tt (p_at tn tt s + 1) + 1) 0 l2 (Or.inl rfl) (fun q => absurd rfl q) (fun I2 L2 hD2 => ?_)
                rw [hpw]
                by_cases h63 : p_c tn tt (p_at tn tt (p_at tn tt s + 1) + 1) = 63
                · rw [if_pos h63, if_pos hrm]
                  exact Or.inr (Or.inr ⟨rfl, rfl, rfl, h63⟩)
                · rw [if_neg h63]
                  exact Or.inl ⟨rfl, rfl, hD2, (p_at_at ht l2).symm⟩
            · refine am_f (am_bp ⟨am_lt h6 rfl, Or.inr (am_lt (show g_pc (D 25) 12 < 6 by omega) rfl)⟩) ?_
              refine And.intro (rfl) (Exists.intro (tn) (Exists.intro (tt) (Exists.intro (p_at tn tt (p_at tn tt s + 1) + 1) (And.intro (hB) (And.intro (TP_19 hT) (And.intro (l2) (And.intro (am_ui_e) (And.intro (fun h63 => ?_) (fun h63 => ?_)))))))))
              · rw [am_ui_ui]
                refine am_f (by decide) ?_
                have l3 : p_at tn tt (p_at tn tt (p_at tn tt s + 1) + 1) < tn := p_at_lt (by rw [h63]; decide)
                refine joi _ 1 l3 (Or.inr rfl) (fun _ => by omega) (fun I2 L2 hD2 => ?_)
                rw [hpw, if_pos h63, if_neg hrm]
                exact Or.inl ⟨rfl, rfl, hD2, rfl⟩
              · rw [am_ui_ui]
                refine am_t rfl ?_
                refine joi _ 0 d2 (Or.inl rfl) (fun q => absurd rfl q) (fun I2 L2 hD2 => ?_)
                rw [hpw, if_neg h63]
                exact Or.inl ⟨rfl, rfl, hD2, rfl⟩
          · refine am_f (am_bp (by rw [ew, nI_m1 (by omega)]; exact hw)) (And.intro (Or.inl rfl) (h 0 _ _ _ (TP_19 hT) b2 am_ui_e PF_19 ?_))
            unfold p_way
            rw [if_neg n1, if_pos (Or.inr (Or.inr (by rw [cx, cy]; exact hw)))]
            exact Or.inr (Or.inl ⟨rfl, rfl, rfl⟩)
  · exact h.elim
end
section
/-! A PASS READ, in words; THE CLASS: a stone read -/
def g_sto (D : Nat → Nat) (p q k : Nat) : Nat → Nat := g_put (g_put (g_put D (27 + p) q) (35 + p) k) 26 (g_set (D 26) p)
theorem g_sto_r (D : Nat → Nat) (p q k i : Nat) : g_sto D p q k i = if i = 26 then g_set (D 26) p else if i = 35 + p then k else if i = 27 + p then q else D i := rfl
theorem PD_sto {I : am_I} {L : am_J} {D : Nat → Nat} (h : PD I L D) {x y k : Nat} (hx : x < 8) (hy : y < 8) (hk : k < D 0) : PD (am_ui (am_ui (am_ui I 17 x (nI y)) 18 x (nI k)) 13 8 (I 13 8 ||| ((1 : Int32) <<< (nI x &&& 31)))) L (g_sto D x y k) := by
  have c8 := (PD_cell h).2.2.1
  obtain ⟨w, h43, h44, r5, r6, r7, r8, r9, rw2, rj, rs, rn, rc⟩ := h
  have h12 := w.1
  have e : ∀ i, i < 26 → g_sto D x y k i = D i := fun i hi => by
    rw [g_sto_r, if_neg (by omega), if_neg (by omega), if_neg (by omega)]
  have e43 : g_sto D x y k 43 = D 43 := by rw [g_sto_r, if_neg (by omega), if_neg (by omega), if_neg (by omega)]
  have e44 : g_sto D x y k 44 = D 44 := by rw [g_sto_r, if_neg (by omega), if_neg (by omega), if_neg (by omega)]
  have e26 : g_sto D x y k 26 = g_set (D 26) x := by rw [g_sto_r, if_pos rfl]
  have hs : ∀ q, q < 8 → (g_sto D x y k 26).testBit q = true → (q = x ∧ g_sto D x y k (27 + q) = y ∧ g_sto D x y k (35 + q) = k) ∨ (¬ q = x ∧ (D 26).testBit q = true ∧ g_sto D x y k (27 + q) = D (27 + q) ∧ g_sto D x y k (35 + q) = D (35 + q)) := fun q hq hb => by
    by_cases z : q = x
    · left
      subst z
      exact ⟨rfl, by rw [g_sto_r, if_neg (by omega), if_neg (by omega), if_pos rfl], by rw [g_sto_r, if_neg (by omega), if_pos rfl]⟩
    · right
      rw [e26, g_set_t] at hb
      simp only [z, decide_false, Bool.or_false] at hb
      exact ⟨z, hb, by rw [g_sto_r, if_neg (by omega), if_neg (by omega), if_neg (by omega)], by rw [g_sto_r, if_neg (by omega), if_neg (by omega), if_neg (by omega)]⟩
  refine ⟨WG_of w e (by rw [e26]; exact g_set_lt (n := 8) w.2.2.2.2.2.2.1 hx) (fun q hq hb => ?_) (by rw [e43]; exact w.2.2.2.2.2.2.2.2.1) (by rw [e44]; exact w.2.2.2.2.2.2.2.2.2.1) (fun j hj => w.2.2.2.2.2.2.2.2.2.2 j (by rw [← e44]; exact hj)), e43.trans h43, e44.trans h44, ?_⟩
  · rcases hs q hq hb with ⟨_, z2, z3⟩ | ⟨_, z1, z2, z3⟩
    · rw [z2, z3]; exact ⟨hy, hk⟩
    · rw [z2, z3]; exact w.2.2.2.2.2.2.2.1 q hq z1
  have f9 : ∀ j, j ≠ 8 → am_ui (am_ui (am_ui (am_ui I 17 x (nI y)) 18 x (nI k)) 13 8 (I 13 8 ||| ((1 : Int32) <<< (nI x &&& 31)))) 13 9 0 13 j = am_ui I 13 9 0 13 j := fun j hj => by
    simp [am_ui_r, hj]
  have fo : ∀ a b : Nat, a ≠ 13 → a ≠ 17 → a ≠ 18 → am_ui (am_ui (am_ui (am_ui I 17 x (nI y)) 18 x (nI k)) 13 8 (I 13 8 ||| ((1 : Int32) <<< (nI x &&& 31)))) 13 9 0 a b = am_ui I 13 9 0 a b := fun a b h1 h2 h3 => by
    simp [am_ui_r, h1, h2, h3]
  refine ⟨?_, ?_, ?_, ?_, ?_, fun j hj => ?_, fun a b ha hb => ?_, fun q hq hb => ?_, fun a b ha hb => ?_, fun a b ha hb => ?_⟩
  · rw [f9 5 (by omega), e 0 (by omega)]; exact r5
  · rw [f9 6 (by omega), e 25 (by omega)]; exact r6
  · rw [f9 7 (by omega), e44]; exact r7
  · rw [e26, ← g_set_I _ (by omega), ← c8]
    simp [am_ui_r]
  · rw [f9 9 (by omega), e43]; exact r9
  · rw [e 0 (by omega)] at hj
    rw [fo _ _ (show 13 + 1 ≠ 13 by omega) (by omega) (by omega), fo _ _ (show 13 + 2 ≠ 13 by omega) (by omega) (by omega), e (1 + j) (by omega), e (13 + j) (by omega)]
    exact rw2 j hj
  · rw [fo _ _ (show 13 + 3 ≠ 13 by omega) (by omega) (by omega), g_wy_congr h12 (fun i hi => e i (by omega))]
    exact rj a b ha hb
  · rcases hs q hq hb with ⟨z1, z2, z3⟩ | ⟨z, z1, z2, z3⟩
    · rw [z2, z3, z1]
      constructor <;> simp [am_ui_r]
    · rw [z2, z3]
      have h1 : am_ui (am_ui (am_ui (am_ui I 17 x (nI y)) 18 x (nI k)) 13 8 (I 13 8 ||| ((1 : Int32) <<< (nI x &&& 31)))) 13 9 0 (13 + 4) q = am_ui I 13 9 0 (13 + 4) q := by simp [am_ui_r, z]
      have h2 : am_ui (am_ui (am_ui (am_ui I 17 x (nI y)) 18 x (nI k)) 13 8 (I 13 8 ||| ((1 : Int32) <<< (nI x &&& 31)))) 13 9 0 (13 + 5) q = am_ui I 13 9 0 (13 + 5) q := by simp [am_ui_r, z]
      rw [h1, h2]
      exact rs q hq z1
  · rw [g_E_congr h12 (fun i hi => e i (by omega))]
    exact rn a b ha hb
  · rw [g_E_congr h12 (fun i hi => e i (by omega)), e 25 (by omega)]
    exact rc a b ha hb
def p_stone (tn : Nat) (tt : Nat → Nat) (s : Nat) (D : Nat → Nat) : Bool × Nat × (Nat → Nat) :=
  if p_dg tn tt s = -1 ∨ (D 26).testBit (p_dg tn tt s).toNatClampNeg = true then (false, p_at tn tt s, D)
  else if ¬ p_c tn tt (p_at tn tt s + 1) = 60 then (false, p_at tn tt (p_at tn tt s + 1), D)
  else if p_dg tn tt (p_at tn tt (p_at tn tt s + 1) + 1) = -1 ∨ g_wy D (p_dg tn tt s).toNatClampNeg (p_dg tn tt (p_at tn tt (p_at tn tt s + 1) + 1)).toNatClampNeg = 0 then (false, p_at tn tt (p_at tn tt (p_at tn tt s + 1) + 1), D)
  else if ¬ p_c tn tt (p_at tn tt (p_at tn tt (p_at tn tt s + 1) + 1) + 1) = 58 then (false, p_at tn tt (p_at tn tt (p_at tn tt (p_at tn tt s + 1) + 1) + 1), D)
  else if ¬ (0 ≤ p_c tn tt (p_at tn tt (p_at tn tt (p_at tn tt (p_at tn tt s + 1) + 1) + 1) + 1) - 97 ∧ p_c tn tt (p_at tn tt (p_at tn tt (p_at tn tt (p_at tn tt s + 1) + 1) + 1) + 1) - 97 < nI (D 0)) then (false, p_at tn tt (p_at tn tt (p_at tn tt (p_at tn tt (p_at tn tt s + 1) + 1) + 1) + 1), D)
  else (true, p_at tn tt (p_at tn tt (p_at tn tt (p_at tn tt (p_at tn tt s + 1) + 1) + 1) + 1) + 1, g_sto D (p_dg tn tt s).toNatClampNeg (p_dg tn tt (p_at tn tt (p_at tn tt s + 1) + 1)).toNatClampNeg (p_c tn tt (p_at tn tt (p_at tn tt (p_at tn tt (p_at tn tt s + 1) + 1) + 1) + 1) - 97).toNatClampNeg)
theorem PD_has {I : am_I} {L : am_J} {D : Nat → Nat} (h : PD I L D) {x : Nat} (hx : x < 8) : am_b (f_bit (I 13 8) (nI x) = 1) = am_b ((D 26).testBit x = true) := by
  rw [(PD_cell h).2.2.1, f_bit_nI _ (by omega)]
  exact am_bc am_bo
def T_TP_takeStone : am_Sp := fun vs I L post => match vs with
  | [.ref o, .ref r] => o = 19 ∧ r = 13 ∧ ∃ tn tt s D, p_B tn tt ∧ TP I tn tt ∧ s ≤ tn ∧ I 19 2 = nI s ∧ PD I L D ∧ ∀ (v : Int32) (t : Nat) (I2 : am_I) (L2 : am_J), TP I2 tn tt → t ≤ tn → I2 19 2 = nI t → PF I I2 L L2 → p_R tn tt (p_stone tn tt s D) v t I2 L2 → post (some (.int v)) I2 L2
  | _ => False
def sp_TP_takeStone : Nat → am_Sp := fun i => match i with
  | 35 => T_TP_sign
  | 42 => T_TP_take
  | 49 => T_TP_digit
  | 52 => T_RD_isJoined
  | 67 => T_RD_hasStone
  | 71 => T_RD_isWay
  | 74 => T_RD_setStone
  | _ => am_no
set_option maxRecDepth 100000 in
set_option maxHeartbeats 4000000 in
theorem ok_TP_takeStone : am_Ok am_SX sp_TP_takeStone true k_TP_takeStone 5 T_TP_takeStone := by
  intro vs I L post h
  unfold T_TP_takeStone at h
  split at h
  · rename_i o r
    obtain ⟨rfl, rfl, tn, tt, s, D, hB, hT, hs, h2, hD, h⟩ := h
    refine ⟨Nat.le_of_ble_eq_true rfl, fun G2 hG2 => ?_⟩
    have ht := hB.1
    have h12 := hD.1.1
    obtain ⟨a1, a2, a3⟩ := p_at_spec (tt := tt) ht _ s rfl hs
    have bad : ∀ t, t ≤ tn → (p_stone tn tt s D).1 = false → t = (p_stone tn tt s D).2.1 → post (some (.int 0)) (am_ui I 19 2 (nI t)) L := fun t h1 h3 h4 => h 0 t _ _ (TP_19 hT) h1 am_ui_e PF_19 (Or.inr (Or.inl ⟨h3, rfl, h4⟩))
    refine hG2 [] 100 0 _ _ _ _ (And.intro (rfl) (Exists.intro (tn) (Exists.intro (tt) (Exists.intro (s) (And.intro (hB) (And.intro (hT) (And.intro (hs) (And.intro (h2) (?_)))))))))
    rcases p_dg_cases (tn := tn) (tt := tt) s with e1 | ⟨x, hx, e1, l1⟩
    · rw [e1]
      have e : p_stone tn tt s D = (false, p_at tn tt s, D) := by unfold p_stone; rw [if_pos (Or.inl e1)]
      exact am_t (by decide) (And.intro (Or.inl rfl) (bad _ a2 (by rw [e]) (by rw [e])))
    · have n1 : ¬ p_dg tn tt s = -1 := by rw [e1]; exact fun z => nI_pos (n := x) (by omega) (by rw [z]; decide)
      have cx : (p_dg tn tt s).toNatClampNeg = x := by rw [e1]; exact nI_clamp (by omega)
      rw [e1]
      refine am_f (nI_pos (by omega)) (And.intro (Or.inr (Or.inr rfl)) ?_)
      rw [PD_has (PD_19 hD) hx]
      by_cases hst : (D 26).testBit x = true
      · have e : p_stone tn tt s D = (false, p_at tn tt s, D) := by unfold p_stone; rw [if_pos (Or.inr (by rw [cx]; exact hst))]
        exact am_f (am_bp hst) (And.intro (Or.inl rfl) (bad _ a2 (by rw [e]) (by rw [e])))
      · have m1 : ¬ (p_dg tn tt s = -1 ∨ (D 26).testBit (p_dg tn tt s).toNatClampNeg = true) := by rw [cx]; rintro (z | z); exact n1 z; exact hst z
        refine am_t (am_bn hst) ?_
        obtain ⟨b1, b2, b3⟩ := p_at_spec (tt := tt) ht _ (p_at tn tt s + 1) rfl l1
        show 19 = 19 ∧ ∃ tn tt s, p_B tn tt ∧ TP (am_ui (am_ui I 19 2 (nI (p_at _ _ _))) 19 2 (am_ui I 19 2 (nI (p_at _ _ _)) 19 2 + 1)) tn tt ∧ s ≤ tn ∧ _ ∧ _
        rw [am_ui_e, am_ui_ui, nI_1]
        refine And.intro (rfl) (Exists.intro (tn) (Exists.intro (tt) (Exists.intro (p_at tn tt s + 1) (And.intro (hB) (And.intro (TP_19 hT) (And.intro (l1) (And.intro (am_ui_e) (And.intro (fun h60 => ?_) (fun h60 => ?_)))))))))
        rotate_left
        · rw [am_ui_ui]
          have e : p_stone tn tt s D = (false, p_at tn tt (p_at tn tt s + 1), D) := by unfold p_stone; rw [if_neg m1, if_pos h60]
          exact am_nf rfl (And.intro (Or.inl rfl) (bad _ b2 (by rw [e]) (by rw [e])))
        · rw [am_ui_ui]
          have l2 : p_at tn tt (p_at tn tt s + 1) < tn := p_at_lt (by rw [h60]; decide)
          obtain ⟨c1, c2, c3⟩ := p_at_spec (tt := tt) ht _ (p_at tn tt (p_at tn tt s + 1) + 1) rfl l2
          refine am_nt (by decide) (And.intro (rfl) (Exists.intro (tn) (Exists.intro (tt) (Exists.intro (p_at tn tt (p_at tn tt s + 1) + 1) (And.intro (hB) (And.intro (TP_19 hT) (And.intro (l2) (And.intro (am_ui_e) (?_)))))))))
          rw [am_ui_ui]
          refine And.intro (Or.inr (Or.inr rfl)) ?_
          rcases p_dg_cases (tn := tn) (tt := tt) (p_at tn tt (p_at tn tt s + 1) + 1) with e2 | ⟨y, hy, e2, l3⟩
          · rw [e2]
            have e : p_stone tn tt s D = (false, p_at tn tt (p_at tn tt (p_at tn tt s + 1) + 1), D) := by unfold p_stone; rw [if_neg m1, if_neg (fun z => z h60), if_pos (Or.inl e2)]
            refine am_nf (am_bn (fun z => z ?_)) (And.intro (Or.inl rfl) (bad _ c2 (by rw [e]) (by rw [e])))
            unfold f_wb
            rw [if_neg (fun z => absurd z.2.1 (by decide))]
          · have n2 : ¬ p_dg tn tt (p_at tn tt (p_at tn tt s + 1) + 1) = -1 := by rw [e2]; exact fun z => nI_pos (n := y) (by omega) (by rw [z]; decide)
            have cy : (p_dg tn tt (p_at tn tt (p_at tn tt s + 1) + 1)).toNatClampNeg = y := by rw [e2]; exact nI_clamp (by omega)
            rw [e2]
            have hle := g_wy_le D x y
            have ew := (PD_cell (PD_19 (v := nI (p_at tn tt (p_at tn tt (p_at tn tt s + 1) + 1))) hD)).2.2.2 x y hx hy
            rw [ew]
            by_cases hw : g_wy D x y = 0
            · have e : p_stone tn tt s D = (false, p_at tn tt (p_at tn tt (p_at tn tt s + 1) + 1), D) := by unfold p_stone; rw [if_neg m1, if_neg (fun z => z h60), if_pos (Or.inr (by rw [cx, cy]; exact hw))]
              exact am_nf (am_bn (by rw [nI_m1 (by omega)]; exact fun z => z hw)) (And.intro (Or.inl rfl) (bad _ c2 (by rw [e]) (by rw [e])))
            · have m2 : ¬ (p_dg tn tt (p_at tn tt (p_at tn tt s + 1) + 1) = -1 ∨ g_wy D (p_dg tn tt s).toNatClampNeg (p_dg tn tt (p_at tn tt (p_at tn tt s + 1) + 1)).toNatClampNeg = 0) := by rw [cx, cy]; rintro (z | z); exact n2 z; exact hw z
              refine am_nt (am_bp (by rw [nI_m1 (by omega)]; exact hw)) ?_
              obtain ⟨d1, d2, d3⟩ := p_at_spec (tt := tt) ht _ (p_at tn tt (p_at tn tt (p_at tn tt s + 1) + 1) + 1) rfl l3
              show 19 = 19 ∧ ∃ tn tt s, p_B tn tt ∧ TP (am_ui (am_ui I 19 2 (nI (p_at _ _ _))) 19 2 (am_ui I 19 2 (nI (p_at _ _ _)) 19 2 + 1)) tn tt ∧ s ≤ tn ∧ _ ∧ _
              rw [am_ui_e, am_ui_ui, nI_1]
              refine And.intro (rfl) (Exists.intro (tn) (Exists.intro (tt) (Exists.intro (p_at tn tt (p_at tn tt (p_at tn tt s + 1) + 1) + 1) (And.intro (hB) (And.intro (TP_19 hT) (And.intro (l3) (And.intro (am_ui_e) (And.intro (fun h58 => ?_) (fun h58 => ?_)))))))))
              rotate_left
              · rw [am_ui_ui]
                have e : p_stone tn tt s D = (false, p_at tn tt (p_at tn tt (p_at tn tt (p_at tn tt s + 1) + 1) + 1), D) := by unfold p_stone; rw [if_neg m1, if_neg (fun z => z h60), if_neg m2, if_pos h58]
                exact am_nf rfl (And.intro (Or.inl rfl) (bad _ d2 (by rw [e]) (by rw [e])))
              · rw [am_ui_ui]
                have l4 : p_at tn tt (p_at tn tt (p_at tn tt (p_at tn tt s + 1) + 1) + 1) < tn := p_at_lt (by rw [h58]; decide)
                obtain ⟨f1, f2, f3⟩ := p_at_spec (tt := tt) ht _ (p_at tn tt (p_at tn tt (p_at tn tt (p_at tn tt s + 1) + 1) + 1) + 1) rfl l4
                refine am_nt (by decide) (And.intro (rfl) (Exists.intro (tn) (Exists.intro (tt) (Exists.intro (p_at tn tt (p_at tn tt (p_at tn tt (p_at tn tt s + 1) + 1) + 1) + 1) (And.intro (hB) (And.intro (TP_19 hT) (And.intro (l4) (And.intro (am_ui_e) (?_)))))))))
                rw [am_ui_ui]
                refine And.intro (Or.inr (Or.inr rfl)) ?_
                rw [(PD_cell (PD_19 hD)).1]
                by_cases hwy : 0 ≤ p_c tn tt (p_at tn tt (p_at tn tt (p_at tn tt (p_at tn tt s + 1) + 1) + 1) + 1) - 97 ∧ p_c tn tt (p_at tn tt (p_at tn tt (p_at tn tt (p_at tn tt s + 1) + 1) + 1) + 1) - 97 < nI (D 0)
                · have l5 : p_at tn tt (p_at tn tt (p_at tn tt (p_at tn tt (p_at tn tt s + 1) + 1) + 1) + 1) < tn := p_at_lt (fun z => by rw [z] at hwy; exact absurd hwy.1 (by decide))
                  refine am_nt (am_bp hwy) ?_
                  have e : p_stone tn tt s D = (true, p_at tn tt (p_at tn tt (p_at tn tt (p_at tn tt (p_at tn tt s + 1) + 1) + 1) + 1) + 1, g_sto D x y (p_c tn tt (p_at tn tt (p_at tn tt (p_at tn tt (p_at tn tt s + 1) + 1) + 1) + 1) - 97).toNatClampNeg) := by unfold p_stone; rw [if_neg m1, if_neg (fun z => z h60), if_neg m2, if_neg (fun z => z h58), if_neg (fun z => z hwy), cx, cy]
                  obtain ⟨k, hk, ek⟩ := am_rng (n := D 0) (by omega) hwy.1 hwy.2
                  have ck : (p_c tn tt (p_at tn tt (p_at tn tt (p_at tn tt (p_at tn tt s + 1) + 1) + 1) + 1) - 97).toNatClampNeg = k := by rw [ek]; exact nI_clamp (by omega)
                  rw [ck] at e
                  rw [ek]
                  refine And.intro (Or.inr (Or.inr rfl)) (And.intro (am_pl8 hx) (And.intro (Or.inr rfl) ?_))
                  show post (some (.int 1)) (am_ui (am_ui (am_ui (am_ui (am_ui I 19 2 (nI (p_at tn tt (p_at tn tt (p_at tn tt (p_at tn tt (p_at tn tt s + 1) + 1) + 1) + 1)))) 19 2 (am_ui I 19 2 (nI (p_at tn tt (p_at tn tt (p_at tn tt (p_at tn tt (p_at tn tt s + 1) + 1) + 1) + 1))) 19 2 + 1)) 17 (nI x).toNatClampNeg (nI y)) 18 (nI x).toNatClampNeg (nI k)) 13 8 (am_ui (am_ui I 19 2 (nI (p_at tn tt (p_at tn tt (p_at tn tt (p_at tn tt (p_at tn tt s + 1) + 1) + 1) + 1)))) 19 2 (am_ui I 19 2 (nI (p_at tn tt (p_at tn tt (p_at tn tt (p_at tn tt (p_at tn tt s + 1) + 1) + 1) + 1))) 19 2 + 1) 13 8 ||| ((1 : Int32) <<< (nI x &&& 31)))) L
                  rw [am_ui_e, am_ui_ui, nI_1, nI_clamp (by omega)]
                  have hPD := PD_sto (PD_19 (v := nI (p_at tn tt (p_at tn tt (p_at tn tt (p_at tn tt (p_at tn tt s + 1) + 1) + 1) + 1) + 1)) hD) hx hy hk
                  generalize p_at tn tt (p_at tn tt (p_at tn tt (p_at tn tt (p_at tn tt s + 1) + 1) + 1) + 1) = s5 at *
                  have hX : ∀ a : Nat, a ≠ 13 → a ≠ 17 → a ≠ 18 → am_ui (am_ui (am_ui (am_ui I 19 2 (nI (s5 + 1))) 17 x (nI y)) 18 x (nI k)) 13 8 (am_ui I 19 2 (nI (s5 + 1)) 13 8 ||| ((1 : Int32) <<< (nI x &&& 31))) a = am_ui I 19 2 (nI (s5 + 1)) a := fun a h1 h3 h4 => by rw [am_ui_o h1, am_ui_o h4, am_ui_o h3]
                  refine h 1 (s5 + 1) _ _ (TP_fr (TP_19 (v := nI (s5 + 1)) hT) (by rw [hX 19 (by omega) (by omega) (by omega)]) (hX 20 (by omega) (by omega) (by omega))) l5 (by rw [hX 19 (by omega) (by omega) (by omega)]; exact am_ui_e) (PF_tr PF_19 ⟨fun a ha => hX a (by omega) (by omega) (by omega), by rw [hX 19 (by omega) (by omega) (by omega)], fun _ _ => rfl⟩) (Or.inl ⟨by rw [e], rfl, by rw [e]; exact hPD, by rw [e]⟩)
                · have e : p_stone tn tt s D = (false, p_at tn tt (p_at tn tt (p_at tn tt (p_at tn tt (p_at tn tt s + 1) + 1) + 1) + 1), D) := by unfold p_stone; rw [if_neg m1, if_neg (fun z => z h60), if_neg m2, if_neg (fun z => z h58), if_pos hwy]
                  exact am_nf (am_bn hwy) (And.intro (Or.inl rfl) (bad _ f2 (by rw [e]) (by rw [e])))
  · exact h.elim
end
section
/-! A PASS READ, in words; THE CLASS: the pass -/
def p_rep (f : Nat → (Nat → Nat) → Bool × Nat × (Nat → Nat)) (tn : Nat) (tt : Nat → Nat) : Nat → Nat → (Nat → Nat) → Bool × Nat × (Nat → Nat)
  | 0, s, D => f s D
  | m + 1, s, D => if (f s D).1 = true then (if p_c tn tt (f s D).2.1 = 44 then p_rep f tn tt m (p_at tn tt (f s D).2.1 + 1) (f s D).2.2 else (true, (f s D).2)) else (false, (f s D).2)
def p_all (tn : Nat) (tt : Nat → Nat) : Bool × Nat × (Nat → Nat) :=
  if (p_rep (p_way tn tt) tn tt 11 0 (g_0 0)).1 = true then
    (if p_c tn tt (p_rep (p_way tn tt) tn tt 11 0 (g_0 0)).2.1 = 59 then
      (if (p_rep (p_stone tn tt) tn tt 7 (p_at tn tt (p_rep (p_way tn tt) tn tt 11 0 (g_0 0)).2.1 + 1) (p_rep (p_way tn tt) tn tt 11 0 (g_0 0)).2.2).1 = true then
        (if p_c tn tt (p_rep (p_stone tn tt) tn tt 7 (p_at tn tt (p_rep (p_way tn tt) tn tt 11 0 (g_0 0)).2.1 + 1) (p_rep (p_way tn tt) tn tt 11 0 (g_0 0)).2.2).2.1 = -1 then p_rep (p_stone tn tt) tn tt 7 (p_at tn tt (p_rep (p_way tn tt) tn tt 11 0 (g_0 0)).2.1 + 1) (p_rep (p_way tn tt) tn tt 11 0 (g_0 0)).2.2
          else (false, p_at tn tt (p_rep (p_stone tn tt) tn tt 7 (p_at tn tt (p_rep (p_way tn tt) tn tt 11 0 (g_0 0)).2.1 + 1) (p_rep (p_way tn tt) tn tt 11 0 (g_0 0)).2.2).2.1, g_0 0))
        else p_rep (p_stone tn tt) tn tt 7 (p_at tn tt (p_rep (p_way tn tt) tn tt 11 0 (g_0 0)).2.1 + 1) (p_rep (p_way tn tt) tn tt 11 0 (g_0 0)).2.2)
      else if p_c tn tt (p_rep (p_way tn tt) tn tt 11 0 (g_0 0)).2.1 = -1 then p_rep (p_way tn tt) tn tt 11 0 (g_0 0) else (false, p_at tn tt (p_rep (p_way tn tt) tn tt 11 0 (g_0 0)).2.1, g_0 0))
  else p_rep (p_way tn tt) tn tt 11 0 (g_0 0)
theorem p_way_0 {tn : Nat} {tt : Nat → Nat} {s : Nat} {D : Nat → Nat} (h : (p_way tn tt s D).1 = true) : (p_way tn tt s D).2.2 0 = D 0 + 1 := by
  unfold p_way at h ⊢
  split
  · rename_i q; rw [if_pos q] at h; cases h
  · rename_i q; rw [if_neg q] at h
    split
    · rename_i q; rw [if_pos q] at h; cases h
    · rename_i q; rw [if_neg q] at h
      split
      · rename_i q; rw [if_pos q] at h
        split
        · rename_i q; rw [if_pos q] at h; cases h
        · simp [g_add]
      · simp [g_add]
def T_TP_takeWays : am_Sp := fun vs I L post => match vs with
  | [.ref o, .ref r] => o = 19 ∧ r = 13 ∧ ∃ tn tt s D, p_B tn tt ∧ TP I tn tt ∧ s ≤ tn ∧ I 19 2 = nI s ∧ PD I L D ∧ D 0 = 0 ∧ ∀ (v : Int32) (t : Nat) (I2 : am_I) (L2 : am_J), TP I2 tn tt → t ≤ tn → I2 19 2 = nI t → PF I I2 L L2 → p_R tn tt (p_rep (p_way tn tt) tn tt 11 s D) v t I2 L2 → post (some (.int v)) I2 L2
  | _ => False
def sp_TP_takeWays : Nat → am_Sp := fun i => match i with
  | 42 => T_TP_take
  | 46 => T_TP_takeWay
  | _ => am_no
set_option maxRecDepth 100000 in
set_option maxHeartbeats 4000000 in
theorem ok_TP_takeWays : am_Ok am_SX sp_TP_takeWays true k_TP_takeWays 3 T_TP_takeWays := by
  intro vs I L post h
  unfold T_TP_takeWays at h
  split at h
  · rename_i o r
    obtain ⟨rfl, rfl, tn, tt, s, D, hB, hT, hs, h2, hD, h0, h⟩ := h
    refine ⟨Nat.le_of_ble_eq_true rfl, fun G2 hG2 => ?_⟩
    have ht := hB.1
    have loop : ∀ m k t (D1 : Nat → Nat) (I1 : am_I) (L1 : am_J), m + k = 11 → D1 0 = k → t ≤ tn → TP I1 tn tt → I1 19 2 = nI t → PD I1 L1 D1 → PF I I1 L L1 → (p_rep (p_way tn tt) tn tt (m) (t) (D1)) = (p_rep (p_way tn tt) tn tt (11) (s) (D)) → G2 23 [some (.ref 19), some (.ref 13), some (.int (nI k))] [] I1 L1 := by
      intro m
      induction m with
      | zero =>
        intro k t D1 I1 L1 hk h0 htn hT1 h21 hD1 hf1 he
        have ek : k = 11 := by omega
        subst ek
        refine hG2 [] 100 23 _ _ _ _ (And.intro (rfl) (And.intro (rfl) (Exists.intro (tn) (Exists.intro (tt) (Exists.intro (t) (Exists.intro (D1) (And.intro (hB) (And.intro (hT1) (And.intro (htn) (And.intro (h21) (And.intro (hD1) (And.intro (by omega) (fun v t2 I2 L2 hT2 ht2 h22 hf2 hr => ?_)))))))))))))
        have he0 : (p_way tn tt t D1) = (p_rep (p_way tn tt) tn tt (11) (s) (D)) := he
        rw [he0] at hr
        rcases hr with ⟨q1, rfl, q3, q4⟩ | ⟨q1, rfl, q3⟩ | ⟨q1, rfl, q3, q4⟩
        · refine am_nt (by decide) (am_nt (by decide) (And.intro (Or.inr rfl) ?_))
          exact h 1 t2 I2 L2 hT2 ht2 h22 (PF_tr hf1 hf2) (Or.inl ⟨q1, rfl, q3, q4⟩)
        · exact am_nf rfl (And.intro (Or.inl rfl) (h 0 t2 I2 L2 hT2 ht2 h22 (PF_tr hf1 hf2) (Or.inr (Or.inl ⟨q1, rfl, q3⟩))))
        · refine am_nt (by decide) (am_nt (by decide) (And.intro (Or.inr rfl) ?_))
          exact h 1 t2 I2 L2 hT2 ht2 h22 (PF_tr hf1 hf2) (Or.inr (Or.inr ⟨q1, rfl, q3, q4⟩))
      | succ m ih =>
        intro k t D1 I1 L1 hk h0 htn hT1 h21 hD1 hf1 he
        refine hG2 [(2, [])] 100 23 _ _ _ _ (And.intro (rfl) (And.intro (rfl) (Exists.intro (tn) (Exists.intro (tt) (Exists.intro (t) (Exists.intro (D1) (And.intro (hB) (And.intro (hT1) (And.intro (htn) (And.intro (h21) (And.intro (hD1) (And.intro (by omega) (fun v t2 I2 L2 hT2 ht2 h22 hf2 hr => ?_)))))))))))))
        have he0 : (if (p_way tn tt t D1).1 = true then (if p_c tn tt (p_way tn tt t D1).2.1 = 44 then p_rep (p_way tn tt) tn tt m (p_at tn tt (p_way tn tt t D1).2.1 + 1) (p_way tn tt t D1).2.2 else (true, (p_way tn tt t D1).2)) else (false, (p_way tn tt t D1).2)) = (p_rep (p_way tn tt) tn tt (11) (s) (D)) := he
        have hkN : k + 1 < 12 := by omega
        -- behind a way or a stone there may be a further one
        have go : ∀ (I2 : am_I) (L2 : am_J) (t2 : Nat), TP I2 tn tt → t2 ≤ tn → I2 19 2 = nI t2 → (p_c tn tt t2 = 44 → G2 23 [some (.ref 19), some (.ref 13), some (.int (nI (k + 1)))] [] (am_ui I2 19 2 (nI (p_at tn tt t2 + 1))) L2) → (¬ p_c tn tt t2 = 44 → post (some (.int 1)) (am_ui I2 19 2 (nI (p_at tn tt t2))) L2) → G2 2 [some (.ref 19), some (.ref 13), some (.int (nI k + 1))] [] I2 L2 := by
          intro I2 L2 t2 hT2 ht2 h22 hy hn
          rw [nI_1]
          refine hG2 [(23, [])] 100 2 _ _ _ _ (am_nf (am_lt hkN rfl) (am_nf (show nI 0 < nI (k + 1) from nI_lt (by omega) (by omega)) (And.intro (rfl) (Exists.intro (tn) (Exists.intro (tt) (Exists.intro (t2) (And.intro (hB) (And.intro (hT2) (And.intro (ht2) (And.intro (h22) (And.intro (fun z => ?_) (fun z => ?_))))))))))))
          · exact am_nt (by decide) (hy z)
          · exact am_nf rfl (And.intro (Or.inr rfl) (hn z))
        rcases hr with ⟨q1, rfl, q3, q4⟩ | ⟨q1, rfl, q3⟩ | ⟨q1, rfl, q3, q4⟩
        · rw [if_pos q1] at he0
          have hcc := p_c_congr q4
          refine am_nt (by decide) (go I2 L2 t2 hT2 ht2 h22 (fun z => ?_) (fun z => ?_))
          · rw [if_pos (hcc ▸ z)] at he0
            refine ih (k + 1) (p_at tn tt t2 + 1) _ _ _ (by omega) (by rw [p_way_0 q1, h0]) (p_at_lt (by rw [z]; decide)) (TP_19 hT2) am_ui_e (PD_19 q3) (PF_tr hf1 (PF_tr hf2 PF_19)) ?_
            rw [q4]; exact he0
          · rw [if_neg (fun w => z (hcc ▸ w))] at he0
            refine h 1 _ _ _ (TP_19 hT2) (p_at_spec ht _ t2 rfl ht2).2.1 am_ui_e (PF_tr hf1 (PF_tr hf2 PF_19)) (Or.inl ?_)
            rw [← he0]
            exact ⟨rfl, rfl, PD_19 q3, (p_at_at ht ht2).trans q4⟩
        · rw [if_neg (by rw [q1]; decide)] at he0
          refine am_nf rfl (And.intro (Or.inl rfl) (h 0 t2 I2 L2 hT2 ht2 h22 (PF_tr hf1 hf2) (Or.inr (Or.inl ?_))))
          rw [← he0]
          exact ⟨rfl, rfl, q3⟩
        · rw [if_neg (by rw [q1]; decide)] at he0
          refine am_nt (by decide) (go I2 L2 t2 hT2 ht2 h22 (fun z => ?_) (fun z => ?_))
          · rw [q4] at z; exact absurd z (by decide)
          · refine h 1 _ _ _ (TP_19 hT2) (p_at_spec ht _ t2 rfl ht2).2.1 am_ui_e (PF_tr hf1 (PF_tr hf2 PF_19)) (Or.inr (Or.inr ?_))
            rw [← he0]
            exact ⟨rfl, rfl, (p_at_at ht ht2).trans q3, (p_c_at ht ht2).trans q4⟩
    refine hG2 [(23, [])] 100 0 _ _ _ _ (am_nf (by decide) (am_nt (by decide) ?_))
    show G2 23 [some (.ref 19), some (.ref 13), some (.int (nI 0))] [] I L
    exact loop 11 0 s D I L rfl h0 hs hT h2 hD PF_rfl rfl
  · exact h.elim
def T_TP_takeStones : am_Sp := fun vs I L post => match vs with
  | [.ref o, .ref r] => o = 19 ∧ r = 13 ∧ ∃ tn tt s D, p_B tn tt ∧ TP I tn tt ∧ s + 1 ≤ tn ∧ I 19 2 = nI s ∧ PD I L D ∧ ∀ (v : Int32) (t : Nat) (I2 : am_I) (L2 : am_J), TP I2 tn tt → t ≤ tn → I2 19 2 = nI t → PF I I2 L L2 → p_R tn tt (p_rep (p_stone tn tt) tn tt 7 (s + 1) D) v t I2 L2 → post (some (.int v)) I2 L2
  | _ => False
def sp_TP_takeStones : Nat → am_Sp := fun i => match i with
  | 42 => T_TP_take
  | 64 => T_TP_takeStone
  | _ => am_no
set_option maxRecDepth 100000 in
set_option maxHeartbeats 4000000 in
theorem ok_TP_takeStones : am_Ok am_SX sp_TP_takeStones true k_TP_takeStones 3 T_TP_takeStones := by
  intro vs I L post h
  unfold T_TP_takeStones at h
  split at h
  · rename_i o r
    obtain ⟨rfl, rfl, tn, tt, s, D, hB, hT, hs, h2, hD, h⟩ := h
    refine ⟨Nat.le_of_ble_eq_true rfl, fun G2 hG2 => ?_⟩
    have ht := hB.1
    have loop : ∀ m k t (D1 : Nat → Nat) (I1 : am_I) (L1 : am_J), m + k = 7 → t ≤ tn → TP I1 tn tt → I1 19 2 = nI t → PD I1 L1 D1 → PF I I1 L L1 → (p_rep (p_stone tn tt) tn tt (m) (t) (D1)) = (p_rep (p_stone tn tt) tn tt (7) ((s + 1)) (D)) → G2 33 [some (.ref 19), some (.ref 13), some (.int (nI k))] [] I1 L1 := by
      intro m
      induction m with
      | zero =>
        intro k t D1 I1 L1 hk htn hT1 h21 hD1 hf1 he
        have ek : k = 7 := by omega
        subst ek
        refine hG2 [] 100 33 _ _ _ _ (And.intro (rfl) (And.intro (rfl) (Exists.intro (tn) (Exists.intro (tt) (Exists.intro (t) (Exists.intro (D1) (And.intro (hB) (And.intro (hT1) (And.intro (htn) (And.intro (h21) (And.intro (hD1) (fun v t2 I2 L2 hT2 ht2 h22 hf2 hr => ?_))))))))))))
        have he0 : (p_stone tn tt t D1) = (p_rep (p_stone tn tt) tn tt (7) ((s + 1)) (D)) := he
        rw [he0] at hr
        rcases hr with ⟨q1, rfl, q3, q4⟩ | ⟨q1, rfl, q3⟩ | ⟨q1, rfl, q3, q4⟩
        · refine am_nt (by decide) (am_nt (by decide) (And.intro (Or.inr rfl) ?_))
          exact h 1 t2 I2 L2 hT2 ht2 h22 (PF_tr hf1 hf2) (Or.inl ⟨q1, rfl, q3, q4⟩)
        · exact am_nf rfl (And.intro (Or.inl rfl) (h 0 t2 I2 L2 hT2 ht2 h22 (PF_tr hf1 hf2) (Or.inr (Or.inl ⟨q1, rfl, q3⟩))))
        · refine am_nt (by decide) (am_nt (by decide) (And.intro (Or.inr rfl) ?_))
          exact h 1 t2 I2 L2 hT2 ht2 h22 (PF_tr hf1 hf2) (Or.inr (Or.inr ⟨q1, rfl, q3, q4⟩))
      | succ m ih =>
        intro k t D1 I1 L1 hk htn hT1 h21 hD1 hf1 he
        refine hG2 [(12, [])] 100 33 _ _ _ _ (And.intro (rfl) (And.intro (rfl) (Exists.intro (tn) (Exists.intro (tt) (Exists.intro (t) (Exists.intro (D1) (And.intro (hB) (And.intro (hT1) (And.intro (htn) (And.intro (h21) (And.intro (hD1) (fun v t2 I2 L2 hT2 ht2 h22 hf2 hr => ?_))))))))))))
        have he0 : (if (p_stone tn tt t D1).1 = true then (if p_c tn tt (p_stone tn tt t D1).2.1 = 44 then p_rep (p_stone tn tt) tn tt m (p_at tn tt (p_stone tn tt t D1).2.1 + 1) (p_stone tn tt t D1).2.2 else (true, (p_stone tn tt t D1).2)) else (false, (p_stone tn tt t D1).2)) = (p_rep (p_stone tn tt) tn tt (7) ((s + 1)) (D)) := he
        have hkN : k + 1 < 8 := by omega
        -- behind a way or a stone there may be a further one
        have go : ∀ (I2 : am_I) (L2 : am_J) (t2 : Nat), TP I2 tn tt → t2 ≤ tn → I2 19 2 = nI t2 → (p_c tn tt t2 = 44 → G2 33 [some (.ref 19), some (.ref 13), some (.int (nI (k + 1)))] [] (am_ui I2 19 2 (nI (p_at tn tt t2 + 1))) L2) → (¬ p_c tn tt t2 = 44 → post (some (.int 1)) (am_ui I2 19 2 (nI (p_at tn tt t2))) L2) → G2 12 [some (.ref 19), some (.ref 13), some (.int (nI k + 1))] [] I2 L2 := by
          intro I2 L2 t2 hT2 ht2 h22 hy hn
          rw [nI_1]
          refine hG2 [(33, [])] 100 12 _ _ _ _ (am_nf (am_lt hkN rfl) (am_nf (show nI 0 < nI (k + 1) from nI_lt (by omega) (by omega)) (And.intro (rfl) (Exists.intro (tn) (Exists.intro (tt) (Exists.intro (t2) (And.intro (hB) (And.intro (hT2) (And.intro (ht2) (And.intro (h22) (And.intro (fun z => ?_) (fun z => ?_))))))))))))
          · exact am_nt (by decide) (hy z)
          · exact am_nf rfl (And.intro (Or.inr rfl) (hn z))
        rcases hr with ⟨q1, rfl, q3, q4⟩ | ⟨q1, rfl, q3⟩ | ⟨q1, rfl, q3, q4⟩
        · rw [if_pos q1] at he0
          have hcc := p_c_congr q4
          refine am_nt (by decide) (go I2 L2 t2 hT2 ht2 h22 (fun z => ?_) (fun z => ?_))
          · rw [if_pos (hcc ▸ z)] at he0
            refine ih (k + 1) (p_at tn tt t2 + 1) _ _ _ (by omega) (p_at_lt (by rw [z]; decide)) (TP_19 hT2) am_ui_e (PD_19 q3) (PF_tr hf1 (PF_tr hf2 PF_19)) ?_
            rw [q4]; exact he0
          · rw [if_neg (fun w => z (hcc ▸ w))] at he0
            refine h 1 _ _ _ (TP_19 hT2) (p_at_spec ht _ t2 rfl ht2).2.1 am_ui_e (PF_tr hf1 (PF_tr hf2 PF_19)) (Or.inl ?_)
            rw [← he0]
            exact ⟨rfl, rfl, PD_19 q3, (p_at_at ht ht2).trans q4⟩
        · rw [if_neg (by rw [q1]; decide)] at he0
          refine am_nf rfl (And.intro (Or.inl rfl) (h 0 t2 I2 L2 hT2 ht2 h22 (PF_tr hf1 hf2) (Or.inr (Or.inl ?_))))
          rw [← he0]
          exact ⟨rfl, rfl, q3⟩
        · rw [if_neg (by rw [q1]; decide)] at he0
          refine am_nt (by decide) (go I2 L2 t2 hT2 ht2 h22 (fun z => ?_) (fun z => ?_))
          · rw [q4] at z; exact absurd z (by decide)
          · refine h 1 _ _ _ (TP_19 hT2) (p_at_spec ht _ t2 rfl ht2).2.1 am_ui_e (PF_tr hf1 (PF_tr hf2 PF_19)) (Or.inr (Or.inr ?_))
            rw [← he0]
            exact ⟨rfl, rfl, (p_at_at ht ht2).trans q3, (p_c_at ht ht2).trans q4⟩
    refine hG2 [(33, [])] 100 0 _ _ _ _ (am_nf (by decide) (am_nt (by decide) ?_))
    show G2 33 [some (.ref 19), some (.ref 13), some (.int (nI 0))] [] (am_ui I 19 2 (I 19 2 + 1)) L
    rw [h2, nI_1]
    exact loop 7 0 (s + 1) D _ L rfl hs (TP_19 hT) am_ui_e (PD_19 hD) PF_19 rfl
  · exact h.elim
end
section
/-! THE CLASS: the pass -/
theorem am_ex (x : Int32) : ∃ g, x = nI g := ⟨x.toBitVec.toNat, by
  apply Int32.toBitVec_inj.1
  show x.toBitVec = BitVec.ofNat 32 x.toBitVec.toNat
  simp⟩
theorem RC_ext {I : am_I} {L : am_J} {r : Nat} {G G' : Nat → Nat} (h : RC I L r G) (h0 : G' 0 = G 0) (h25 : G' 25 = G 25) (h26 : G' 26 = G 26) (h43 : G' 43 = G 43) (h44 : G' 44 = G 44) (hw : ∀ k, k < G 0 → G' (1 + k) = G (1 + k) ∧ G' (13 + k) = G (13 + k)) (hs : ∀ p, p < 8 → (G 26).testBit p = true → G' (27 + p) = G (27 + p) ∧ G' (35 + p) = G (35 + p)) : RC I L r G' := by
  obtain ⟨r5, r6, r7, r8, r9, rw2, rj, rs, rn, rc⟩ := h
  have ew : ∀ a b, g_wy G' a b = g_wy G a b := fun a b => by unfold g_wy; rw [h0]; exact g_w_congr a b (G 0) hw
  have ee : ∀ s a b, g_E G' s a b = g_E G s a b := fun s a b => by unfold g_E; rw [ew]
  refine ⟨by rw [h0]; exact r5, by rw [h25]; exact r6, by rw [h44]; exact r7, by rw [h26]; exact r8, by rw [h43]; exact r9, fun k hk => ?_, fun a b ha hb => by rw [ew]; exact rj a b ha hb, fun p hp hb => ?_, fun a b ha hb => by rw [ee]; exact rn a b ha hb, fun a b ha hb => by rw [ee, h25]; exact rc a b ha hb⟩
  · rw [h0] at hk
    rw [(hw k hk).1, (hw k hk).2]; exact rw2 k hk
  · rw [h26] at hb
    rw [(hs p hp hb).1, (hs p hp hb).2]; exact rs p hp hb
theorem RC_goal {I : am_I} {L : am_J} {r g : Nat} {G : Nat → Nat} (h12 : G 0 ≤ 12) (h : RC I L r G) : RC (am_ui I r 9 (nI g)) L r (g_put G 43 g) := by
  have e : ∀ i, i ≠ 43 → g_put G 43 g i = G i := fun i hi => if_neg hi
  obtain ⟨r5, r6, r7, r8, r9, rw2, rj, rs, rn, rc⟩ := h
  have ew : ∀ a b, g_wy (g_put G 43 g) a b = g_wy G a b := fun a b => g_wy_congr h12 (fun i hi => e i (by omega)) a b
  have ee : ∀ s a b, g_E (g_put G 43 g) s a b = g_E G s a b := fun s a b => g_E_congr h12 (fun i hi => e i (by omega)) s a b
  refine ⟨(am_uk (by omega)).trans (by rw [e 0 (by omega)]; exact r5), (am_uk (by omega)).trans (by rw [e 25 (by omega)]; exact r6), (am_uk (by omega)).trans (by rw [e 44 (by omega)]; exact r7), (am_uk (by omega)).trans (by rw [e 26 (by omega)]; exact r8), am_ui_e.trans (by show nI g = nI (if 43 = 43 then g else G 43); rw [if_pos rfl]), fun k hk => ?_, fun a b ha hb => ?_, fun p hp hb => ?_, fun a b ha hb => by rw [ee]; exact rn a b ha hb, fun a b ha hb => by rw [ee, e 25 (by omega)]; exact rc a b ha hb⟩
  · rw [e 0 (by omega)] at hk
    rw [am_uo (by omega), am_uo (by omega), e _ (by omega), e _ (by omega)]
    exact rw2 k hk
  · rw [am_uo (by omega), ew]
    exact rj a b ha hb
  · rw [e 26 (by omega)] at hb
    rw [am_uo (by omega), am_uo (by omega), e _ (by omega), e _ (by omega)]
    exact rs p hp hb
def g_new (G D u : Nat → Nat) : Nat → Nat := fun i => if i = 0 ∨ i = 25 ∨ i = 26 then D i else if i = 43 then G 43 else if i = 44 then 0 else if 27 ≤ i ∧ i < 35 then (if (D 26).testBit (i - 27) = true then D i else u i) else if 35 ≤ i ∧ i < 43 then (if (D 26).testBit (i - 35) = true then D i else u i) else if (1 ≤ i ∧ i < 1 + D 0) ∨ (13 ≤ i ∧ i < 13 + D 0) then D i else G i
theorem g_new_e {G D u : Nat → Nat} (h12 : D 0 ≤ 12) : g_new G D u 0 = D 0 ∧ g_new G D u 25 = D 25 ∧ g_new G D u 26 = D 26 ∧ g_new G D u 43 = G 43 ∧ g_new G D u 44 = 0 ∧ (∀ k, k < D 0 → g_new G D u (1 + k) = D (1 + k) ∧ g_new G D u (13 + k) = D (13 + k)) ∧ ∀ p, p < 8 → (D 26).testBit p = true → g_new G D u (27 + p) = D (27 + p) ∧ g_new G D u (35 + p) = D (35 + p) := by
  refine ⟨by unfold g_new; rw [if_pos (by omega)], by unfold g_new; rw [if_pos (by omega)], by unfold g_new; rw [if_pos (by omega)], by unfold g_new; rw [if_neg (by omega), if_pos rfl], by unfold g_new; rw [if_neg (by omega), if_neg (by omega), if_pos rfl], fun k hk => ⟨?_, ?_⟩, fun p hp hb => ⟨?_, ?_⟩⟩
  · unfold g_new
    rw [if_neg (by omega), if_neg (by omega), if_neg (by omega), if_neg (by omega), if_neg (by omega), if_pos (by omega)]
  · unfold g_new
    rw [if_neg (by omega), if_neg (by omega), if_neg (by omega), if_neg (by omega), if_neg (by omega), if_pos (by omega)]
  · unfold g_new
    rw [if_neg (by omega), if_neg (by omega), if_neg (by omega), if_pos (by omega), show 27 + p - 27 = p by omega, if_pos hb]
  · unfold g_new
    rw [if_neg (by omega), if_neg (by omega), if_neg (by omega), if_neg (by omega), if_pos (by omega), show 35 + p - 35 = p by omega, if_pos hb]
theorem WG_new {G D u : Nat → Nat} (h : WG D) (h43 : G 43 < 8) : WG (g_new G D u) := by
  obtain ⟨w1, w2, w3, w4, w5, w6, w7, w8, w9, w10, w11⟩ := h
  obtain ⟨n0, n25, n26, n43, n44, nw, ns⟩ := g_new_e (G := G) (u := u) w1
  refine ⟨by rw [n0]; exact w1, fun k hk => ?_, fun j k hjk hk => ?_, by rw [n25]; exact w4, fun k hk => ?_, by rw [n25]; exact w6, by rw [n26]; exact w7, fun p hp hb => ?_, by rw [n43]; exact h43, by rw [n44]; decide, fun k hk => ?_⟩
  · rw [n0] at hk
    rw [(nw k hk).1, (nw k hk).2]; exact w2 k hk
  · rw [n0] at hk
    rw [(nw k hk).1, (nw k hk).2, (nw j (by omega)).1, (nw j (by omega)).2]; exact w3 j k hjk hk
  · rw [n25] at hk
    rw [n0]; exact w5 k hk
  · rw [n26] at hb
    rw [(ns p hp hb).1, (ns p hp hb).2, n0]; exact w8 p hp hb
  · rw [n44] at hk; simp at hk
def o_pass : am_A → (Nat → Nat) → Int32 × am_A
  | (G, K, hk, tn, tt, R), u => if (p_all tn tt).1 = true then (nI ((p_all tn tt).2.2 0), (g_new G (p_all tn tt).2.2 u, K, hk, 0, tt, R)) else (-20 - nI (p_all tn tt).2.1, (G, K, hk, 0, tt, R))
def T_TP_parse : am_Sp := fun vs I L post => match vs with
  | [.ref o, .ref r] => o = 19 ∧ r = 13 ∧ ∃ tn tt, p_B tn tt ∧ TP I tn tt ∧ ((p_all tn tt).1 = true → ∀ (I2 : am_I) (L2 : am_J), PD I2 L2 (p_all tn tt).2.2 → PF I I2 L L2 → post (some (.int 0)) I2 L2) ∧ ((p_all tn tt).1 = false → ∀ (t : Nat) (I2 : am_I) (L2 : am_J), t ≤ tn → t = (p_all tn tt).2.1 → PF I I2 L L2 → post (some (.int (-20 - nI t))) I2 L2)
  | _ => False
def sp_TP_parse : Nat → am_Sp := fun i => match i with
  | 26 => T_RD_clear
  | 31 => T_TP_takeWays
  | 35 => T_TP_sign
  | 39 => T_TP_takeStones
  | _ => am_no
set_option maxRecDepth 100000 in
set_option maxHeartbeats 4000000 in
theorem ok_TP_parse : am_Ok am_SX sp_TP_parse false k_TP_parse 3 T_TP_parse := by
  intro vs I L post h
  unfold T_TP_parse at h
  split at h
  · rename_i o r
    obtain ⟨rfl, rfl, tn, tt, hB, hT, ha, hb⟩ := h
    refine ⟨Nat.le_of_ble_eq_true rfl, fun G2 hG2 => ?_⟩
    have ht := hB.1
    have fin0 : ∀ (I3 : am_I) (L3 : am_J) (t : Nat), PF I I3 L L3 → t ≤ tn → I3 19 2 = nI t → (p_all tn tt).1 = false → t = (p_all tn tt).2.1 → G2 46 [some (.ref 19), some (.ref 13), none] [] I3 L3 := by
      intro I3 L3 t hf h1 h2 h3 h4
      refine hG2 [] 100 46 _ _ _ _ (am_t rfl ?_)
      show post (some (.int (-20 - I3 19 2))) I3 L3
      rw [h2]
      exact hb h3 t I3 L3 h1 h4 hf
    have fin1 : ∀ (I3 : am_I) (L3 : am_J), PF I I3 L L3 → PD I3 L3 (p_all tn tt).2.2 → (p_all tn tt).1 = true → G2 42 [some (.ref 19), some (.ref 13), none] [] I3 L3 := by
      intro I3 L3 hf h1 h2
      exact hG2 [] 100 42 _ _ _ _ (am_f (by decide) (ha h2 I3 L3 h1 hf))
    clear ha hb
    have last : ∀ (I3 : am_I) (L3 : am_J) (t : Nat), TP I3 tn tt → t ≤ tn → I3 19 2 = nI t → (p_c tn tt t = -1 → G2 42 [some (.ref 19), some (.ref 13), none] [] (am_ui I3 19 2 (nI (p_at tn tt t))) L3) → (¬ p_c tn tt t = -1 → G2 46 [some (.ref 19), some (.ref 13), none] [] (am_ui I3 19 2 (nI (p_at tn tt t))) L3) → G2 34 [some (.ref 19), some (.ref 13), none] [] I3 L3 := by
      intro I3 L3 t hT3 ht3 h23 hy hn
      refine hG2 [(42, []), (46, [])] 100 34 _ _ _ _ (And.intro (rfl) (Exists.intro (tn) (Exists.intro (tt) (Exists.intro (t) (And.intro (hB) (And.intro (hT3) (And.intro (ht3) (And.intro (h23) (?_)))))))))
      by_cases z : p_c tn tt t = -1
      · exact am_nf z (hy z)
      · exact am_nt z (hn z)
    obtain ⟨g, hg⟩ := am_ex (I 13 9)
    refine hG2 [(34, []), (42, []), (46, [])] 100 0 _ _ _ _ (And.intro rfl (Exists.intro g (And.intro ((am_uo (by omega)).trans hg) (fun I1 L1 hR1 hI1 hL1 => ?_))))
    have hD1 : PD I1 L1 (g_0 0) := by
      refine ⟨WG_0 (by omega), rfl, rfl, ?_⟩
      have e : g_put (g_0 g) 43 0 = g_0 0 := by
        funext i
        simp only [g_put, g_0]
        split <;> rfl
      rw [← e]
      exact RC_goal (g := 0) (by simp [g_0]) hR1
    have i19 : I1 19 = am_ui I 19 2 0 19 := hI1 19 (by omega) (by omega)
    have hF1 : PF I I1 L L1 := ⟨fun a h => (hI1 a (by omega) (by omega)).trans (am_ui_o (by omega)), by rw [i19]; exact am_uk (by omega), fun a h => hL1 a h⟩
    have hT1 : TP I1 tn tt := TP_PF hT hF1
    have h21 : I1 19 2 = nI 0 := by rw [i19]; exact am_ui_e
    refine And.intro (rfl) (And.intro (rfl) (Exists.intro (tn) (Exists.intro (tt) (Exists.intro (0) (Exists.intro (g_0 0) (And.intro (hB) (And.intro (hT1) (And.intro (Nat.zero_le _) (And.intro (h21) (And.intro (hD1) (And.intro (rfl) (fun v t I3 L3 hT3 ht3 h23 hF3 hr => ?_))))))))))))
    have hF3 := PF_tr hF1 hF3
    unfold p_all at fin0 fin1
    generalize p_rep (p_way tn tt) tn tt 11 0 (g_0 0) = W at *
    obtain ⟨pt1, pt2, pt3⟩ := p_at_spec (tt := tt) ht _ t rfl ht3
    rcases hr with ⟨q1, rfl, q3, q4⟩ | ⟨q1, rfl, q3⟩ | ⟨q1, rfl, q3, q4⟩
    · rw [if_pos q1] at fin0 fin1
      have hcc := p_c_congr q4
      refine am_f (by decide) (And.intro (rfl) (Exists.intro (tn) (Exists.intro (tt) (Exists.intro (t) (And.intro (hB) (And.intro (hT3) (And.intro (ht3) (And.intro (h23) (?_)))))))))
      by_cases z : p_c tn tt t = 59
      · rw [if_pos (hcc ▸ z)] at fin0 fin1
        refine am_nf z (And.intro (rfl) (And.intro (rfl) (Exists.intro (tn) (Exists.intro (tt) (Exists.intro (p_at tn tt t) (Exists.intro (W.2.2) (And.intro (hB) (And.intro (TP_19 hT3) (And.intro (p_at_lt (by rw [z]; decide)) (And.intro (am_ui_e) (And.intro (PD_19 q3) (fun v2 t2 I4 L4 hT4 ht4 h24 hF4 hr2 => ?_))))))))))))
        have hF4 := PF_tr hF3 (PF_tr PF_19 hF4)
        rw [q4] at hr2
        generalize p_rep (p_stone tn tt) tn tt 7 (p_at tn tt W.2.1 + 1) W.2.2 = S at *
        rcases hr2 with ⟨y1, rfl, y3, y4⟩ | ⟨y1, rfl, y3⟩ | ⟨y1, rfl, y3, y4⟩
        · rw [if_pos y1] at fin0 fin1
          have hcy := p_c_congr y4
          refine am_f (by decide) (last I4 L4 t2 hT4 ht4 h24 (fun w => ?_) (fun w => ?_))
          · rw [if_pos (hcy ▸ w)] at fin1
            exact fin1 _ _ (PF_tr hF4 PF_19) (PD_19 y3) y1
          · rw [if_neg (fun x => w (hcy ▸ x))] at fin0
            exact fin0 _ _ _ (PF_tr hF4 PF_19) (p_at_spec ht _ t2 rfl ht4).2.1 am_ui_e rfl y4
        · rw [if_neg (by rw [y1]; decide)] at fin0
          exact am_t rfl (fin0 _ _ t2 hF4 ht4 h24 y1 y3)
        · rw [if_neg (by rw [y1]; decide)] at fin0
          refine am_f (by decide) (last I4 L4 t2 hT4 ht4 h24 (fun w => ?_) (fun w => ?_))
          · rw [y4] at w; exact absurd w (by decide)
          · exact fin0 _ _ _ (PF_tr hF4 PF_19) (p_at_spec ht _ t2 rfl ht4).2.1 am_ui_e y1 y3
      · rw [if_neg (fun x => z (hcc ▸ x))] at fin0 fin1
        refine am_nt z (last _ L3 (p_at tn tt t) (TP_19 hT3) pt2 am_ui_e (fun w => ?_) (fun w => ?_))
        · rw [p_c_at ht ht3] at w
          rw [if_pos (hcc ▸ w)] at fin1
          exact fin1 _ _ (PF_tr hF3 (PF_tr PF_19 PF_19)) (PD_19 (PD_19 q3)) q1
        · rw [p_c_at ht ht3] at w
          rw [if_neg (fun x => w (hcc ▸ x))] at fin0
          exact fin0 _ _ _ (PF_tr hF3 (PF_tr PF_19 PF_19)) (by rw [p_at_at ht ht3]; exact pt2) am_ui_e rfl ((p_at_at ht ht3).trans q4)
    · rw [if_neg (by rw [q1]; decide)] at fin0
      exact am_t rfl (fin0 _ _ t hF3 ht3 h23 q1 q3)
    · rw [if_neg (by rw [q1]; decide)] at fin0
      refine am_f (by decide) (And.intro (rfl) (Exists.intro (tn) (Exists.intro (tt) (Exists.intro (t) (And.intro (hB) (And.intro (hT3) (And.intro (ht3) (And.intro (h23) (?_)))))))))
      rw [q4]
      refine am_nt (by decide) (last _ L3 (p_at tn tt t) (TP_19 hT3) pt2 am_ui_e (fun w => ?_) (fun w => ?_))
      · rw [p_c_at ht ht3, q4] at w; exact absurd w (by decide)
      · exact fin0 _ _ _ (PF_tr hF3 (PF_tr PF_19 PF_19)) (by rw [p_at_at ht ht3]; exact pt2) am_ui_e q1 ((p_at_at ht ht3).trans q3)
  · exact h.elim
theorem am_flt : ∀ t, t < 101 → (-20 - nI t : Int32) < 0 := by decide +kernel
def T_RP_pass : am_Sp := fun vs I L post => match vs with
  | [.ref o] => o = 0 ∧ ∃ A, CR I L A ∧ ∀ (I2 : am_I) (L2 : am_J), (∀ u, CR I2 L2 (o_pass A u).2) → post (some (.int (o_pass A (fun _ => 0)).1)) I2 L2
  | _ => False
def sp_RP_pass : Nat → am_Sp := fun i => match i with
  | 125 => T_TP_parse
  | 129 => T_RD_become
  | _ => am_no
set_option maxRecDepth 100000 in
set_option maxHeartbeats 4000000 in
theorem ok_RP_pass : am_Ok am_SX sp_RP_pass false k_RP_pass 2 T_RP_pass := by
  intro vs I L post h
  unfold T_RP_pass at h
  split at h
  · rename_i o
    obtain ⟨rfl, A, hC, h⟩ := h
    refine ⟨Nat.le_of_ble_eq_true rfl, fun G2 hG2 => ?_⟩
    obtain ⟨G, K, hk, tn, tt, ln, sz, it⟩ := A
    obtain ⟨hV, hR, hKr, hk7, hT, ⟨V, hS⟩, hSh⟩ := id hC
    have hW : WG G := hV.1
    have h43 : G 43 < 8 := hW.2.2.2.2.2.2.2.2.1
    dsimp only [o_pass] at h
    have hCR : ∀ (I2 : am_I) (L2 : am_J) (G2 : Nat → Nat), WG G2 → RC I2 L2 1 G2 → I2 19 1 = 0 → (∀ a : Nat, (a = 0 ∨ (6 < a ∧ a < 13) ∨ 19 < a) → I2 a = I a) → (∀ a : Nat, a ≠ 1 → a ≠ 13 → L2 a = L a) → CR I2 L2 (G2, K, hk, 0, tt, ln, sz, it) := fun I2 L2 G2 w1 w2 w3 w4 w5 => ⟨⟨w1, hV.2.1, by omega, fun j hj => by omega, hV.2.2.2.2⟩, w2, RC_fr hKr (fun a h1 h2 => w4 a (by omega)) (w5 7 (by omega) (by omega)), by rw [w4 0 (by omega)]; exact hk7, ⟨w3, fun j hj => by omega⟩, ⟨V, SC_fr hS (by rw [w4 22 (by omega)]) (w4 24 (by omega)) (w5 23 (by omega) (by omega))⟩, SHc_fr hSh (fun a h1 h2 => w4 a (by omega)) (fun a h1 h2 => w5 a (by omega) (by omega))⟩
    refine hG2 [] 100 0 _ _ _ _ (And.intro (rfl) (And.intro (rfl) (Exists.intro (tn) (Exists.intro (tt) (And.intro (⟨hV.2.2.1, hV.2.2.2.1⟩) (And.intro (hT) (And.intro (fun hg I2 L2 hD hf => ?_) (fun hb t I2 L2 ht1 ht2 hf => ?_))))))))
    · have h : ∀ (I2 : am_I) (L2 : am_J), (∀ u, CR I2 L2 (g_new G (p_all tn tt).2.2 u, K, hk, 0, tt, ln, sz, it)) → post (some (.int (nI ((p_all tn tt).2.2 0)))) I2 L2 := fun I2 L2 q => by
        have := h I2 L2 (fun u => by rw [if_pos hg]; exact q u)
        rw [if_pos hg] at this
        exact this
      generalize (p_all tn tt).2.2 = D at *
      have hD12 := hD.1.1
      refine am_nt (by decide) (And.intro (Or.inl ⟨rfl, rfl⟩) (Exists.intro (g_put D 43 (G 43)) (And.intro ?_ (And.intro ?_ (fun I3 L3 hR3 hf3 => ?_)))))
      · exact hD12
      · show RC (am_ui (am_ui I2 19 1 0) 13 9 (am_ui I2 19 1 0 1 9)) L2 13 (g_put D 43 (G 43))
        have e1 : am_ui I2 19 1 0 1 9 = nI (G 43) := by rw [am_uo (by omega), hf.1 1 (by omega)]; exact hR.2.2.2.2.1
        rw [e1]
        have := RC_goal (g := G 43) hD12 hD.2.2.2
        rw [am_ui_ui] at this
        exact RC_fr this (fun a h1 h2 => am_ui_row (am_ui_o (by omega))) rfl
      · have hR3b : ∀ u, RC I3 L3 1 (g_new G D u) := fun u => by
          obtain ⟨n0, n25, n26, n43, n44, nw, ns⟩ := g_new_e (G := G) (u := u) hD12
          have e : ∀ i, i ≠ 43 → g_put D 43 (G 43) i = D i := fun i hi => if_neg hi
          have e0 := e 0 (by omega)
          have e26 := e 26 (by omega)
          refine RC_ext hR3 (n0.trans e0.symm) (n25.trans (e 25 (by omega)).symm) (n26.trans e26.symm) (n43.trans (by show G 43 = if 43 = 43 then G 43 else D 43; rw [if_pos rfl])) (n44.trans (by rw [e 44 (by omega), hD.2.2.1])) (fun k hk => ?_) (fun p hp hb => ?_)
          · rw [e0] at hk
            rw [e _ (by omega), e _ (by omega)]; exact nw k hk
          · rw [e26] at hb
            rw [e _ (by omega), e _ (by omega)]; exact ns p hp hb
        show post (some (.int (I3 1 5))) I3 L3
        have e5 : I3 1 5 = nI (D 0) := hR3.1
        rw [e5]
        have f3 : ∀ a : Nat, (a < 1 ∨ 6 < a) → I3 a = am_ui (am_ui I2 19 1 0) 13 9 (am_ui I2 19 1 0 1 9) a := fun a ha => hf3.1 a (show a < 1 ∨ 1 + 5 < a by omega)
        refine h I3 L3 (fun u => hCR I3 L3 _ (WG_new hD.1 h43) (hR3b u) ?_ (fun a ha => ?_) (fun a h1 h13 => ?_))
        · rw [f3 19 (by omega), am_ui_o (by omega)]; exact am_ui_e
        · rw [f3 a (by omega), am_ui_o (by omega), am_ui_o (by omega)]; exact hf.1 a (by omega)
        · rw [hf3.2 a h1]; exact hf.2.2 a h13
    · have hnb : ¬ (p_all tn tt).1 = true := by rw [hb]; decide
      have h : ∀ (I2 : am_I) (L2 : am_J), (∀ u : Nat → Nat, CR I2 L2 (G, K, hk, 0, tt, ln, sz, it)) → post (some (.int (-20 - nI t))) I2 L2 := fun I2 L2 q => by
        have := h I2 L2 (fun u => by rw [if_neg hnb]; exact q u)
        rw [if_neg hnb, ← ht2] at this
        exact this
      refine am_nf (am_flt t (by have := hV.2.2.1; omega)) ?_
      show post (some (.int (-20 - nI t))) (am_ui I2 19 1 0) L2
      refine h _ _ (fun u => hCR _ _ G hW (RC_fr hR (fun a h1 h2 => (am_ui_o (by omega)).trans (hf.1 a (by omega))) (hf.2.2 1 (by omega))) am_ui_e (fun a ha => (am_ui_o (by omega)).trans (hf.1 a (by omega))) (fun a h1 h13 => hf.2.2 a h13))
  · exact h.elim
end
section
/-! A LARGER WORLD: a contract over the shapes S1 is one over S, where the places of S1 lie by f; behind a call all else of S is as it was -/
def am_mvc (f : Nat → Nat) : Nat → Nat
  | 0 => 0
  | 1 => 1
  | 2 => 2
  | n + 3 => f n + 3
def am_mv (f : Nat → Nat) : am_C → am_C
  | .inl (ci, fs) => .inl (ci, fs.map (am_mvc f))
  | .inr (kd, n, rs) => .inr (kd, n, rs.map f)
theorem am_mv_fs {f ad : Nat → Nat} {I I' : am_I} {L L' : am_J} {o : Nat} (h1 : I' (f o) = I o) (h2 : L' (f o) = L o) : ∀ (fs : List Nat) (i : Nat), am_fs (fun k => ad (f k)) I L o i fs = am_fs ad I' L' (f o) i (fs.map (am_mvc f)) := by
  intro fs
  induction fs with
  | nil => intro i; rfl
  | cons x fs ih =>
    intro i
    show am_fv (fun k => ad (f k)) I L o i x :: am_fs (fun k => ad (f k)) I L o (i + 1) fs = am_fv ad I' L' (f o) i (am_mvc f x) :: am_fs ad I' L' (f o) (i + 1) (fs.map (am_mvc f))
    rw [ih (i + 1)]
    congr 1
    match x with
    | 0 => simp [am_fv, am_mvc, h1]
    | 1 => simp [am_fv, am_mvc, h2]
    | 2 => simp [am_fv, am_mvc, h1]
    | n + 3 => rfl
theorem am_mv_cell {f ad : Nat → Nat} {ca : Nat → ClassId} {I I' : am_I} {L L' : am_J} {o : Nat} (h1 : I' (f o) = I o) (h2 : L' (f o) = L o) (c : am_C) : am_cell (fun k => ad (f k)) ca I L o c = am_cell ad ca I' L' (f o) (am_mv f c) := by
  match c with
  | .inl (ci, fs) =>
    show Sum.inr (ci, am_fs (fun k => ad (f k)) I L o 0 fs) = Sum.inr (ci, am_fs ad I' L' (f o) 0 (fs.map (am_mvc f)))
    rw [am_mv_fs h1 h2]
  | .inr (0, n, rs) => simp [am_cell, am_mv, h1]
  | .inr (1, n, rs) => simp [am_cell, am_mv, h2]
  | .inr (2, n, rs) => simp [am_cell, am_mv, h1]
  | .inr (k + 3, n, rs) => simp [am_cell, am_mv, Function.comp_def]
def am_sub (S1 S : List am_C) (f : Nat → Nat) (g : Nat → Option Nat) : Prop := (∀ k, k < S1.length → S[f k]? = (S1[k]?).map (am_mv f) ∧ g (f k) = some k) ∧ ∀ a k, g a = some k → f k = a ∧ k < S1.length
def am_pt {α : Type} (g : Nat → Option Nat) (I I1 : Nat → α) : Nat → α := fun a => match g a with
  | some k => I1 k
  | none => I a
def am_upT (f : Nat → Nat) (g : Nat → Option Nat) (T : am_Sp) : am_Sp := fun vs I L post => ∃ vs1 : List Value, vs = vs1.map (am_val f) ∧ T vs1 (fun k => I (f k)) (fun k => L (f k)) (fun v I1 L1 => post (v.map (am_val f)) (am_pt g I I1) (am_pt g L L1))
theorem am_val_cp (ad f : Nat → Nat) (v : Value) : am_val ad (am_val f v) = am_val (fun k => ad (f k)) v := by cases v <;> rfl
section UP
variable {S1 S : List am_C} {f : Nat → Nat} {g : Nat → Option Nat} {ad : Nat → Nat} {ca : Nat → ClassId} {D : va_G} {A : Nat → Prop} {I : am_I} {L : am_J} {H H' : Heap}
theorem am_sub_at (h : am_sub S1 S f g) {k : Nat} {q : Nat × va_E} (hq : (am_w S1 (fun k => ad (f k)) ca (fun k => I (f k)) (fun k => L (f k)))[k]? = some q) : k < S1.length ∧ (am_w S ad ca I L)[f k]? = some q := by
  unfold am_w at hq ⊢
  rw [List.getElem?_mapIdx] at hq ⊢
  cases hs : S1[k]? with
  | none => rw [hs] at hq; cases hq
  | some c =>
    rw [hs] at hq
    have hk := (List.getElem?_eq_some_iff.mp hs).1
    refine ⟨hk, ?_⟩
    rw [(h.1 k hk).1, hs]
    cases hq
    show some (ad (f k), am_cell ad ca I L (f k) (am_mv f c)) = some (ad (f k), am_cell (fun k => ad (f k)) ca (fun k => I (f k)) (fun k => L (f k)) k c)
    rw [am_mv_cell (f := f) (ad := ad) (I := fun k => I (f k)) (L := fun k => L (f k)) (I' := I) (L' := L) rfl rfl]
theorem am_sub_P (h : am_sub S1 S f g) (hP : va_P D am_cl (am_w S ad ca I L) H) : va_P D am_cl (am_w S1 (fun k => ad (f k)) ca (fun k => I (f k)) (fun k => L (f k))) H := fun k q hq => hP (f k) q (am_sub_at h hq).2
theorem am_sub_D (h : am_sub S1 S f g) (hD : va_D A (am_w S ad ca I L)) : va_D A (am_w S1 (fun k => ad (f k)) ca (fun k => I (f k)) (fun k => L (f k))) := by
  refine ⟨fun i j p q hi hj e => ?_, fun k q hk => hD.2 _ q (am_sub_at h hk).2⟩
  obtain ⟨a1, a2⟩ := am_sub_at h hi
  obtain ⟨b1, b2⟩ := am_sub_at h hj
  have e2 := hD.1 _ _ p q a2 b2 e
  have e3 := (h.1 i a1).2
  rw [e2, (h.1 j b1).2] at e3
  exact (Option.some.inj e3).symm
theorem am_sub_A (h : am_sub S1 S f g) {sz : Nat} : ∀ q, va_A (am_w S1 (fun k => ad (f k)) ca (fun k => I (f k)) (fun k => L (f k))) sz q → va_A (am_w S ad ca I L) sz q := by
  intro q hq
  rcases hq with ⟨k, e, hk⟩ | hq
  · exact Or.inl ⟨f k, e, (am_sub_at h hk).2⟩
  · exact Or.inr hq
theorem am_pt_f (h : am_sub S1 S f g) {α : Type} {J J1 : Nat → α} {k : Nat} (hk : k < S1.length) : am_pt g J J1 (f k) = J1 k := by
  unfold am_pt
  rw [(h.1 k hk).2]
theorem am_sub_back (h : am_sub S1 S f g) (hD : va_D (fun _ => True) (am_w S ad ca I L)) (hP : va_P D am_cl (am_w S ad ca I L) H) {I1 : am_I} {L1 : am_J} (hP1 : va_P D am_cl (am_w S1 (fun k => ad (f k)) ca I1 L1) H')
    (hk : ∀ q : Nat, q < H.size → ¬ va_A (am_w S1 (fun k => ad (f k)) ca (fun k => I (f k)) (fun k => L (f k))) H.size q → H'[q]? = H[q]?) : va_P D am_cl (am_w S ad ca (am_pt g I I1) (am_pt g L L1)) H' := by
  intro a q hq
  unfold am_w at hq
  rw [List.getElem?_mapIdx] at hq
  cases hs : S[a]? with
  | none => rw [hs] at hq; cases hq
  | some c =>
    rw [hs] at hq
    cases hq
    cases hg : g a with
    | some k =>
      obtain ⟨e1, e2⟩ := h.2 a k hg
      subst e1
      have e3 := (h.1 k e2).1
      rw [hs] at e3
      obtain ⟨c1, hc1, hc2⟩ := Option.map_eq_some_iff.mp e3.symm
      subst hc2
      show va_at D am_cl (ad (f k), am_cell ad ca (am_pt g I I1) (am_pt g L L1) (f k) (am_mv f c1)) H'
      rw [← am_mv_cell (f := f) (ad := ad) (I := I1) (L := L1) (am_pt_f h e2) (am_pt_f h e2)]
      exact hP1 k _ (am_w_get hc1)
    | none =>
      have e0 : am_cell ad ca (am_pt g I I1) (am_pt g L L1) a c = am_cell ad ca I L a c := am_cell_congr (by unfold am_pt; rw [hg]) (by unfold am_pt; rw [hg]) c
      show va_at D am_cl (ad a, am_cell ad ca (am_pt g I I1) (am_pt g L L1) a c) H'
      rw [e0]
      have hold := hP a _ (am_w_get hs)
      have hkept : va_P D am_cl [(ad a, am_cell ad ca I L a c)] H' := va_P.kept (fun k q hq => by
        cases k with
        | zero => cases hq; exact hold
        | succ k => simp at hq) (fun k x hx => by
        cases k with
        | succ k => simp at hx
        | zero =>
          cases hx
          refine hk _ hold.lt (fun z => ?_)
          rcases z with ⟨j, e, hj⟩ | z
          · obtain ⟨j1, j2⟩ := am_sub_at h hj
            have e4 := hD.1 _ _ _ _ (am_w_get hs) j2 rfl
            rw [e4, (h.1 j j1).2] at hg
            cases hg
          · have := hold.lt
            omega)
      exact hkept 0 _ rfl
end UP
theorem am_up {l : Launch} {S1 S : List am_C} {f : Nat → Nat} {g : Nat → Option Nat} {y : MethodName} {cc : ByteArray} {maxL : Nat} {ret : Option FieldType} {rm : Room} {T : am_Sp} (h : am_sub S1 S f g) (hM : am_Met l S1 y cc maxL ret rm T) : am_Met l S y cc maxL ret rm (am_upT f g T) := by
  intro ad ca D sz vs I L post hT
  obtain ⟨vs1, rfl, hT1⟩ := hT
  have hm := hM (fun k => ad (f k)) ca D sz vs1 _ _ _ hT1
  rw [List.map_map, show (am_val ad ∘ am_val f) = am_val (fun k => ad (f k)) from funext (am_val_cp ad f)]
  refine MetFree.mono hm (fun a s hp => ?_) (fun _ _ _ _ _ _ => trivial) (fun a s o t hp hq => ?_)
  · obtain ⟨e, h1, h2, h3, h4, h5⟩ := hp
    exact ⟨e, h1, am_sub_P h h2, h3, am_sub_D h h4, h5⟩
  · obtain ⟨e, h1, h2, h3, h4, h5⟩ := hp
    obtain ⟨⟨⟨v, I1, L1, ho, hpost, hP1⟩, hF⟩, Lx, hfe, hfr⟩ := hq
    subst h1
    refine ⟨⟨⟨v.map (am_val f), am_pt g I I1, am_pt g L L1, ?_, hpost, am_sub_back h h4 h2 hP1 hF.2⟩, hF.1, fun q h1 h2 => hF.2 q h1 (fun z => h2 (am_sub_A h q z))⟩, Lx, hfe, fun q hq => am_sub_A h _ (hfr q hq)⟩
    rw [ho, Option.map_map, show (am_val ad ∘ am_val f) = am_val (fun k => ad (f k)) from funext (am_val_cp ad f)]
theorem am_Met.imp {l : Launch} {S : List am_C} {y : MethodName} {cc : ByteArray} {maxL : Nat} {ret : Option FieldType} {rm : Room} {T T' : am_Sp} (hM : am_Met l S y cc maxL ret rm T) (h : ∀ vs I L post, T' vs I L post → T vs I L post) : am_Met l S y cc maxL ret rm T' := fun ad ca D sz vs I L post hT => hM ad ca D sz vs I L post (h vs I L post hT)
theorem am_Met.or {l : Launch} {S : List am_C} {y : MethodName} {cc : ByteArray} {maxL : Nat} {ret : Option FieldType} {rm : Room} {T T' : am_Sp} (hM : am_Met l S y cc maxL ret rm T) (hM' : am_Met l S y cc maxL ret rm T') : am_Met l S y cc maxL ret rm (fun vs I L post => T vs I L post ∨ T' vs I L post) := fun ad ca D sz vs I L post hT => hT.elim (fun h => hM ad ca D sz vs I L post h) (fun h => hM' ad ca D sz vs I L post h)
/-! the worlds of the law: v behind one pass (35); two passes and v (70) -/
def am_f0 : Nat → Nat := fun k => k
def am_g0 : Nat → Option Nat := fun a => if a < 35 then some a else none
def am_f1 : Nat → Nat := fun k => k + 35
def am_g1 : Nat → Option Nat := fun a => if 35 ≤ a ∧ a < 70 then some (a - 35) else none
def am_S3 : List am_C := am_SX ++ [.inr (0, 51, [])]
def am_SB : List am_C := am_SX ++ (am_SX.map (am_mv am_f1) ++ [.inr (0, 51, [])])
/-- road's places in the law's world: of o, of q -/
def am_f2 : Nat → Nat := fun k => if k < 35 then k else k + 35
def am_g2 : Nat → Option Nat := fun a => if a < 35 then some a else if a = 70 then some 35 else none
def am_f3 : Nat → Nat := fun k => k + 35
def am_g3 : Nat → Option Nat := fun a => if 35 ≤ a ∧ a < 71 then some (a - 35) else none
theorem am_sub_of {S1 S : List am_C} {f : Nat → Nat} {g : Nat → Option Nat} (h1 : (List.range S1.length).map (fun k => S[f k]?) = S1.map (fun c => some (am_mv f c))) (h2 : (List.range S1.length).map (fun k => g (f k)) = (List.range S1.length).map some) : ∀ k, k < S1.length → S[f k]? = (S1[k]?).map (am_mv f) ∧ g (f k) = some k := by
  intro k hk
  have e1 := congrArg (fun l => l[k]?) h1
  have e2 := congrArg (fun l => l[k]?) h2
  simp only [List.getElem?_map, List.getElem?_range hk, Option.map_some, Option.some.injEq] at e1 e2
  refine ⟨?_, e2⟩
  cases hs : S1[k]? with
  | none => rw [hs] at e1; cases e1
  | some c => rw [hs] at e1; exact Option.some.inj e1
theorem am_sub03 : am_sub am_SX am_S3 am_f0 am_g0 := by
  refine ⟨am_sub_of rfl rfl, fun a k h => ?_⟩
  unfold am_g0 at h
  split at h
  · cases h; exact ⟨rfl, by rw [show am_SX.length = 35 from rfl]; assumption⟩
  · cases h
theorem am_sub0 : am_sub am_SX am_SB am_f0 am_g0 := by
  refine ⟨am_sub_of rfl rfl, fun a k h => ?_⟩
  unfold am_g0 at h
  split at h
  · cases h; exact ⟨rfl, by rw [show am_SX.length = 35 from rfl]; assumption⟩
  · cases h
theorem am_sub1 : am_sub am_SX am_SB am_f1 am_g1 := by
  refine ⟨am_sub_of rfl rfl, fun a k h => ?_⟩
  unfold am_g1 at h
  split at h
  · rename_i hz
    cases h
    exact ⟨by unfold am_f1; omega, by rw [show am_SX.length = 35 from rfl]; omega⟩
  · cases h
theorem am_sub2 : am_sub am_S3 am_SB am_f2 am_g2 := by
  refine ⟨am_sub_of rfl rfl, fun a k h => ?_⟩
  unfold am_g2 at h
  rw [show am_S3.length = 36 from rfl]
  unfold am_f2
  split at h
  · cases h
    exact ⟨by rw [if_pos (by assumption)], by omega⟩
  · split at h
    · cases h
      exact ⟨by rw [if_neg (by omega)]; omega, by omega⟩
    · cases h
theorem am_sub3 : am_sub am_S3 am_SB am_f3 am_g3 := by
  refine ⟨am_sub_of rfl rfl, fun a k h => ?_⟩
  unfold am_g3 at h
  rw [show am_S3.length = 36 from rfl]
  split at h
  · cases h
    exact ⟨by unfold am_f3; omega, by omega⟩
  · cases h
theorem am_sh3 : am_shOK am_S3 = true := by decide +kernel
theorem am_shB : am_shOK am_SB = true := by decide +kernel
/-! a call of one of the two passes -/
def T_two (X : am_Sp) : am_Sp := fun vs I L post => am_upT am_f0 am_g0 X vs I L post ∨ am_upT am_f1 am_g1 X vs I L post
theorem am_two {l : Launch} {y : MethodName} {cc : ByteArray} {maxL : Nat} {ret : Option FieldType} {rm : Room} {X : am_Sp} (hM : am_Met l am_SX y cc maxL ret rm X) : am_Met l am_SB y cc maxL ret rm (T_two X) := (am_up am_sub0 hM).or (am_up am_sub1 hM)
def sh1 {α : Type} (I : Nat → α) : Nat → α := fun k => I (am_f1 k)
def SB (I : am_I) (L : am_J) (A B : am_A) : Prop := CR I L A ∧ CR (sh1 I) (sh1 L) B
theorem am_pt0 {α : Type} {I I1 : Nat → α} {a : Nat} (h : a < 35) : am_pt am_g0 I I1 a = I1 a := by unfold am_pt am_g0; rw [if_pos h]
theorem am_pt0n {α : Type} {I I1 : Nat → α} {a : Nat} (h : ¬ a < 35) : am_pt am_g0 I I1 a = I a := by unfold am_pt am_g0; rw [if_neg h]
theorem am_pt1 {α : Type} {I I1 : Nat → α} {a : Nat} (h : a < 35) : am_pt am_g1 I I1 (am_f1 a) = I1 a := by unfold am_pt am_g1 am_f1; rw [if_pos (by omega)]; simp
theorem am_pt1n {α : Type} {I I1 : Nat → α} {a : Nat} (h : ¬ (35 ≤ a ∧ a < 70)) : am_pt am_g1 I I1 a = I a := by unfold am_pt am_g1; rw [if_neg h]
theorem tw0 {X : am_Sp} {t : List Value} {I : am_I} {L : am_J} {post : am_Po} {r : Int32} {A A2 B : am_A} (hX : ∀ post' : am_Po, (∀ (I2 : am_I) (L2 : am_J), CR I2 L2 A2 → post' (some (.int r)) I2 L2) → X (.ref 0 :: t) I L post') (ht : t.map (am_val am_f0) = t) (h : SB I L A B) (k : ∀ (I2 : am_I) (L2 : am_J), SB I2 L2 A2 B → post (some (.int r)) I2 L2) : T_two X (.ref 0 :: t) I L post := by
  refine Or.inl ⟨.ref 0 :: t, by rw [List.map_cons, ht]; rfl, hX _ (fun I2 L2 h2 => k _ _ ⟨CR_fr h2 (fun a ha => am_pt0 (by omega)) (fun a ha => am_pt0 (by omega)), CR_fr h.2 (fun a ha => am_pt0n (by unfold am_f1; omega)) (fun a ha => am_pt0n (by unfold am_f1; omega))⟩)⟩
theorem tw1 {X : am_Sp} {t : List Value} {I : am_I} {L : am_J} {post : am_Po} {r : Int32} {A B B2 : am_A} (hX : ∀ post' : am_Po, (∀ (I2 : am_I) (L2 : am_J), CR I2 L2 B2 → post' (some (.int r)) I2 L2) → X (.ref 0 :: t) (sh1 I) (sh1 L) post') (ht : t.map (am_val am_f1) = t) (h : SB I L A B) (k : ∀ (I2 : am_I) (L2 : am_J), SB I2 L2 A B2 → post (some (.int r)) I2 L2) : T_two X (.ref 35 :: t) I L post := by
  refine Or.inr ⟨.ref 0 :: t, by rw [List.map_cons, ht]; rfl, hX _ (fun I2 L2 h2 => k _ _ ⟨CR_fr h.1 (fun a ha => am_pt1n (by omega)) (fun a ha => am_pt1n (by omega)), CR_fr h2 (fun a ha => am_pt1 (by omega)) (fun a ha => am_pt1 (by omega))⟩)⟩
end
section
/-! THE LAW's OWN METHODS: their code, as tables (written by program) -/
def k_LW_cell : List am_E := [
  (0, .iload_n 1, 1, 0, 0, 0, 0, []),
  (1, .aload_n 0, 2, 0, 0, 0, 0, []),
  (2, .arraylength, 3, 0, 0, 0, 0, []),
  (3, .if_icmp .ge 9, 6, 12, 0, 0, 0, []),
  (6, .aload_n 0, 7, 0, 0, 0, 0, []),
  (7, .iload_n 1, 8, 0, 0, 0, 0, []),
  (8, .iaload, 9, 0, 0, 0, 0, []),
  (9, .goto 9, 12, 18, 0, 0, 0, []),
  (12, .ldc 7, 14, 281, 0, 747796405, 0, []),
  (14, .iload_n 1, 15, 0, 0, 0, 0, []),
  (15, .iconst 1, 16, 0, 0, 1, 0, []),
  (16, .iadd, 17, 0, 0, 0, 0, []),
  (17, .imul, 18, 0, 0, 0, 0, []),
  (18, .ireturn, 19, 0, 0, 0, 0, [])]
def k_LW_low : List am_E := [
  (0, .iload_n 0, 1, 0, 0, 0, 0, []),
  (1, .ldc 8, 3, 288, 0, 2147483647, 0, []),
  (3, .iand, 4, 0, 0, 0, 0, []),
  (4, .iload_n 1, 5, 0, 0, 0, 0, []),
  (5, .irem, 6, 0, 0, 0, 0, []),
  (6, .ireturn, 7, 0, 0, 0, 0, [])]
def k_LW_bits : List am_E := [
  (0, .iconst 0, 1, 0, 0, 0, 0, []),
  (1, .istore_n 1, 2, 0, 0, 0, 0, []),
  (2, .iconst 0, 3, 0, 0, 0, 0, []),
  (3, .istore_n 2, 4, 0, 0, 0, 0, []),
  (4, .iload_n 2, 5, 0, 0, 0, 0, []),
  (5, .bipush 12, 7, 0, 0, 12, 0, []),
  (7, .if_icmp .ge 17, 10, 24, 0, 0, 0, []),
  (10, .iload_n 1, 11, 0, 0, 0, 0, []),
  (11, .iload_n 0, 12, 0, 0, 0, 0, []),
  (12, .iload_n 2, 13, 0, 0, 0, 0, []),
  (13, .ishr, 14, 0, 0, 0, 0, []),
  (14, .iconst 1, 15, 0, 0, 1, 0, []),
  (15, .iand, 16, 0, 0, 0, 0, []),
  (16, .iadd, 17, 0, 0, 0, 0, []),
  (17, .istore_n 1, 18, 0, 0, 0, 0, []),
  (18, .iinc 2 1, 21, 0, 0, 1, 0, []),
  (21, .goto (-17), 24, 4, 0, 0, 0, []),
  (24, .iload_n 1, 25, 0, 0, 0, 0, []),
  (25, .ireturn, 26, 0, 0, 0, 0, [])]
def k_LW_joined : List am_E := [
  (0, .iconst (-1), 1, 0, 0, (-1), 0, []),
  (1, .istore_n 3, 2, 0, 0, 0, 0, []),
  (2, .iconst 0, 3, 0, 0, 0, 0, []),
  (3, .istore 4, 5, 0, 0, 0, 0, []),
  (5, .iload 4, 7, 0, 0, 0, 0, []),
  (7, .aload_n 0, 8, 0, 0, 0, 0, []),
  (8, .iconst 0, 9, 0, 0, 0, 0, []),
  (9, .iaload, 10, 0, 0, 0, 0, []),
  (10, .if_icmp .ge 58, 13, 68, 0, 0, 0, []),
  (13, .aload_n 0, 14, 0, 0, 0, 0, []),
  (14, .iconst 1, 15, 0, 0, 1, 0, []),
  (15, .iload 4, 17, 0, 0, 0, 0, []),
  (17, .iadd, 18, 0, 0, 0, 0, []),
  (18, .iaload, 19, 0, 0, 0, 0, []),
  (19, .iload_n 1, 20, 0, 0, 0, 0, []),
  (20, .if_icmp .ne 14, 23, 34, 0, 0, 0, []),
  (23, .aload_n 0, 24, 0, 0, 0, 0, []),
  (24, .bipush 13, 26, 0, 0, 13, 0, []),
  (26, .iload 4, 28, 0, 0, 0, 0, []),
  (28, .iadd, 29, 0, 0, 0, 0, []),
  (29, .iaload, 30, 0, 0, 0, 0, []),
  (30, .iload_n 2, 31, 0, 0, 0, 0, []),
  (31, .if_icmp .eq 24, 34, 55, 0, 0, 0, []),
  (34, .aload_n 0, 35, 0, 0, 0, 0, []),
  (35, .iconst 1, 36, 0, 0, 1, 0, []),
  (36, .iload 4, 38, 0, 0, 0, 0, []),
  (38, .iadd, 39, 0, 0, 0, 0, []),
  (39, .iaload, 40, 0, 0, 0, 0, []),
  (40, .iload_n 2, 41, 0, 0, 0, 0, []),
  (41, .if_icmp .ne 19, 44, 60, 0, 0, 0, []),
  (44, .aload_n 0, 45, 0, 0, 0, 0, []),
  (45, .bipush 13, 47, 0, 0, 13, 0, []),
  (47, .iload 4, 49, 0, 0, 0, 0, []),
  (49, .iadd, 50, 0, 0, 0, 0, []),
  (50, .iaload, 51, 0, 0, 0, 0, []),
  (51, .iload_n 1, 52, 0, 0, 0, 0, []),
  (52, .if_icmp .ne 8, 55, 60, 0, 0, 0, []),
  (55, .iload 4, 57, 0, 0, 0, 0, []),
  (57, .goto 4, 60, 61, 0, 0, 0, []),
  (60, .iload_n 3, 61, 0, 0, 0, 0, []),
  (61, .istore_n 3, 62, 0, 0, 0, 0, []),
  (62, .iinc 4 1, 65, 0, 0, 1, 0, []),
  (65, .goto (-60), 68, 5, 0, 0, 0, []),
  (68, .iload_n 3, 69, 0, 0, 0, 0, []),
  (69, .ireturn, 70, 0, 0, 0, 0, [])]
def k_LW_act : List am_E := [
  (0, .iload_n 1, 1, 0, 0, 0, 0, []),
  (1, .iconst 4, 2, 0, 0, 4, 0, []),
  (2, .ishr, 3, 0, 0, 0, 0, []),
  (3, .bipush 9, 5, 0, 0, 9, 0, []),
  (5, .invokestatic 15, 8, 15, 2, 0, 0, []),
  (8, .istore_n 2, 9, 0, 0, 0, 0, []),
  (9, .iload_n 1, 10, 0, 0, 0, 0, []),
  (10, .bipush 8, 12, 0, 0, 8, 0, []),
  (12, .ishr, 13, 0, 0, 0, 0, []),
  (13, .bipush 8, 15, 0, 0, 8, 0, []),
  (15, .invokestatic 15, 18, 15, 2, 0, 0, []),
  (18, .istore_n 3, 19, 0, 0, 0, 0, []),
  (19, .iload_n 1, 20, 0, 0, 0, 0, []),
  (20, .bipush 15, 22, 0, 0, 15, 0, []),
  (22, .iand, 23, 0, 0, 0, 0, []),
  (23, .tableswitch 282 0 14 #[73, 73, 95, 95, 111, 117, 123, 123, 151, 169, 183, 208, 229, 243, 262], 96, 305, 73, 0, 0, [96, 96, 118, 118, 134, 140, 146, 146, 174, 192, 206, 231, 252, 266, 285]),
  (96, .aload_n 0, 97, 0, 0, 0, 0, []),
  (97, .iload_n 2, 98, 0, 0, 0, 0, []),
  (98, .iload_n 3, 99, 0, 0, 0, 0, []),
  (99, .iload_n 1, 100, 0, 0, 0, 0, []),
  (100, .bipush 12, 102, 0, 0, 12, 0, []),
  (102, .ishr, 103, 0, 0, 0, 0, []),
  (103, .iconst 1, 104, 0, 0, 1, 0, []),
  (104, .iand, 105, 0, 0, 0, 0, []),
  (105, .iconst 1, 106, 0, 0, 1, 0, []),
  (106, .if_icmp .ne 7, 109, 113, 0, 0, 0, []),
  (109, .iconst 1, 110, 0, 0, 1, 0, []),
  (110, .goto 4, 113, 114, 0, 0, 0, []),
  (113, .iconst 0, 114, 0, 0, 0, 0, []),
  (114, .invokevirtual 27, 117, 27, 4, 0, 0, [0]),
  (117, .ireturn, 118, 0, 0, 0, 0, []),
  (118, .aload_n 0, 119, 0, 0, 0, 0, []),
  (119, .iload_n 2, 120, 0, 0, 0, 0, []),
  (120, .iload_n 3, 121, 0, 0, 0, 0, []),
  (121, .iload_n 1, 122, 0, 0, 0, 0, []),
  (122, .bipush 12, 124, 0, 0, 12, 0, []),
  (124, .ishr, 125, 0, 0, 0, 0, []),
  (125, .bipush 8, 127, 0, 0, 8, 0, []),
  (127, .invokestatic 15, 130, 15, 2, 0, 0, []),
  (130, .invokevirtual 33, 133, 33, 4, 0, 0, [0]),
  (133, .ireturn, 134, 0, 0, 0, 0, []),
  (134, .aload_n 0, 135, 0, 0, 0, 0, []),
  (135, .iload_n 2, 136, 0, 0, 0, 0, []),
  (136, .invokevirtual 54, 139, 54, 2, 0, 0, [0]),
  (139, .ireturn, 140, 0, 0, 0, 0, []),
  (140, .aload_n 0, 141, 0, 0, 0, 0, []),
  (141, .iload_n 2, 142, 0, 0, 0, 0, []),
  (142, .invokevirtual 37, 145, 37, 2, 0, 0, [0]),
  (145, .ireturn, 146, 0, 0, 0, 0, []),
  (146, .aload_n 0, 147, 0, 0, 0, 0, []),
  (147, .iload_n 1, 148, 0, 0, 0, 0, []),
  (148, .bipush 12, 150, 0, 0, 12, 0, []),
  (150, .ishr, 151, 0, 0, 0, 0, []),
  (151, .iconst 1, 152, 0, 0, 1, 0, []),
  (152, .iand, 153, 0, 0, 0, 0, []),
  (153, .ifCond .ne 16, 156, 169, 0, 0, 0, []),
  (156, .aload_n 0, 157, 0, 0, 0, 0, []),
  (157, .iconst 1, 158, 0, 0, 1, 0, []),
  (158, .invokevirtual 57, 161, 57, 2, 0, 0, [0]),
  (161, .iload_n 1, 162, 0, 0, 0, 0, []),
  (162, .bipush 13, 164, 0, 0, 13, 0, []),
  (164, .ishr, 165, 0, 0, 0, 0, []),
  (165, .iand, 166, 0, 0, 0, 0, []),
  (166, .goto 4, 169, 170, 0, 0, 0, []),
  (169, .iload_n 2, 170, 0, 0, 0, 0, []),
  (170, .invokevirtual 40, 173, 40, 2, 0, 0, [0]),
  (173, .ireturn, 174, 0, 0, 0, 0, []),
  (174, .aload_n 0, 175, 0, 0, 0, 0, []),
  (175, .ldc2_w 60, 178, 314, 0, 0, 3472626246716178220, []),
  (178, .iload_n 3, 179, 0, 0, 0, 0, []),
  (179, .iconst 3, 180, 0, 0, 3, 0, []),
  (180, .irem, 181, 0, 0, 0, 0, []),
  (181, .i2l, 182, 0, 0, 0, 0, []),
  (182, .bipush 24, 184, 0, 0, 24, 0, []),
  (184, .lshl, 185, 0, 0, 0, 0, []),
  (185, .ladd, 186, 0, 0, 0, 0, []),
  (186, .bipush 8, 188, 0, 0, 8, 0, []),
  (188, .invokevirtual 62, 191, 62, 3, 0, 0, [0]),
  (191, .ireturn, 192, 0, 0, 0, 0, []),
  (192, .aload_n 0, 193, 0, 0, 0, 0, []),
  (193, .ldc2_w 66, 196, 330, 0, 0, 219968975670, []),
  (196, .iload_n 3, 197, 0, 0, 0, 0, []),
  (197, .iconst 3, 198, 0, 0, 3, 0, []),
  (198, .irem, 199, 0, 0, 0, 0, []),
  (199, .i2l, 200, 0, 0, 0, 0, []),
  (200, .ladd, 201, 0, 0, 0, 0, []),
  (201, .iconst 5, 202, 0, 0, 5, 0, []),
  (202, .invokevirtual 62, 205, 62, 3, 0, 0, [0]),
  (205, .ireturn, 206, 0, 0, 0, 0, []),
  (206, .iload_n 1, 207, 0, 0, 0, 0, []),
  (207, .bipush 12, 209, 0, 0, 12, 0, []),
  (209, .ishr, 210, 0, 0, 0, 0, []),
  (210, .iconst 1, 211, 0, 0, 1, 0, []),
  (211, .iand, 212, 0, 0, 0, 0, []),
  (212, .ifCond .ne 10, 215, 222, 0, 0, 0, []),
  (215, .aload_n 0, 216, 0, 0, 0, 0, []),
  (216, .invokevirtual 68, 219, 68, 1, 0, 0, [0]),
  (219, .goto 11, 222, 230, 0, 0, 0, []),
  (222, .aload_n 0, 223, 0, 0, 0, 0, []),
  (223, .ldc2_w 72, 226, 378, 0, 0, 59, []),
  (226, .iconst 1, 227, 0, 0, 1, 0, []),
  (227, .invokevirtual 62, 230, 62, 3, 0, 0, [0]),
  (230, .ireturn, 231, 0, 0, 0, 0, []),
  (231, .iload_n 1, 232, 0, 0, 0, 0, []),
  (232, .bipush 12, 234, 0, 0, 12, 0, []),
  (234, .ishr, 235, 0, 0, 0, 0, []),
  (235, .iconst 3, 236, 0, 0, 3, 0, []),
  (236, .iand, 237, 0, 0, 0, 0, []),
  (237, .ifCond .ne 10, 240, 247, 0, 0, 0, []),
  (240, .aload_n 0, 241, 0, 0, 0, 0, []),
  (241, .invokevirtual 74, 244, 74, 1, 0, 0, [0]),
  (244, .goto 7, 247, 251, 0, 0, 0, []),
  (247, .aload_n 0, 248, 0, 0, 0, 0, []),
  (248, .invokevirtual 77, 251, 77, 1, 0, 0, [0]),
  (251, .ireturn, 252, 0, 0, 0, 0, []),
  (252, .aload_n 0, 253, 0, 0, 0, 0, []),
  (253, .iload_n 2, 254, 0, 0, 0, 0, []),
  (254, .iconst 5, 255, 0, 0, 5, 0, []),
  (255, .irem, 256, 0, 0, 0, 0, []),
  (256, .iload_n 3, 257, 0, 0, 0, 0, []),
  (257, .iconst 3, 258, 0, 0, 3, 0, []),
  (258, .irem, 259, 0, 0, 0, 0, []),
  (259, .iconst 3, 260, 0, 0, 3, 0, []),
  (260, .iload_n 2, 261, 0, 0, 0, 0, []),
  (261, .imul, 262, 0, 0, 0, 0, []),
  (262, .invokevirtual 80, 265, 80, 4, 0, 0, [0]),
  (265, .ireturn, 266, 0, 0, 0, 0, []),
  (266, .aload_n 0, 267, 0, 0, 0, 0, []),
  (267, .iload_n 2, 268, 0, 0, 0, 0, []),
  (268, .iconst 5, 269, 0, 0, 5, 0, []),
  (269, .irem, 270, 0, 0, 0, 0, []),
  (270, .iload_n 3, 271, 0, 0, 0, 0, []),
  (271, .iload_n 2, 272, 0, 0, 0, 0, []),
  (272, .iconst 4, 273, 0, 0, 4, 0, []),
  (273, .irem, 274, 0, 0, 0, 0, []),
  (274, .iload_n 3, 275, 0, 0, 0, 0, []),
  (275, .iconst 3, 276, 0, 0, 3, 0, []),
  (276, .irem, 277, 0, 0, 0, 0, []),
  (277, .iconst 1, 278, 0, 0, 1, 0, []),
  (278, .iconst 1, 279, 0, 0, 1, 0, []),
  (279, .iload_n 3, 280, 0, 0, 0, 0, []),
  (280, .iadd, 281, 0, 0, 0, 0, []),
  (281, .invokevirtual 83, 284, 83, 7, 0, 0, [0]),
  (284, .ireturn, 285, 0, 0, 0, 0, []),
  (285, .aload_n 0, 286, 0, 0, 0, 0, []),
  (286, .iload_n 2, 287, 0, 0, 0, 0, []),
  (287, .iconst 4, 288, 0, 0, 4, 0, []),
  (288, .irem, 289, 0, 0, 0, 0, []),
  (289, .iload_n 3, 290, 0, 0, 0, 0, []),
  (290, .iload_n 3, 291, 0, 0, 0, 0, []),
  (291, .iconst 4, 292, 0, 0, 4, 0, []),
  (292, .irem, 293, 0, 0, 0, 0, []),
  (293, .iload_n 2, 294, 0, 0, 0, 0, []),
  (294, .iconst 3, 295, 0, 0, 3, 0, []),
  (295, .irem, 296, 0, 0, 0, 0, []),
  (296, .iconst 0, 297, 0, 0, 0, 0, []),
  (297, .iconst 1, 298, 0, 0, 1, 0, []),
  (298, .iload_n 3, 299, 0, 0, 0, 0, []),
  (299, .iadd, 300, 0, 0, 0, 0, []),
  (300, .iconst 0, 301, 0, 0, 0, 0, []),
  (301, .invokevirtual 87, 304, 87, 8, 0, 0, [0]),
  (304, .ireturn, 305, 0, 0, 0, 0, []),
  (305, .aload_n 0, 306, 0, 0, 0, 0, []),
  (306, .iload_n 2, 307, 0, 0, 0, 0, []),
  (307, .iconst 4, 308, 0, 0, 4, 0, []),
  (308, .irem, 309, 0, 0, 0, 0, []),
  (309, .iload_n 3, 310, 0, 0, 0, 0, []),
  (310, .iload_n 3, 311, 0, 0, 0, 0, []),
  (311, .iconst 4, 312, 0, 0, 4, 0, []),
  (312, .irem, 313, 0, 0, 0, 0, []),
  (313, .iconst 0, 314, 0, 0, 0, 0, []),
  (314, .iconst 3, 315, 0, 0, 3, 0, []),
  (315, .invokevirtual 91, 318, 91, 6, 0, 0, [0]),
  (318, .ireturn, 319, 0, 0, 0, 0, [])]
def k_LW_isLeft : List am_E := [
  (0, .iload_n 1, 1, 0, 0, 0, 0, []),
  (1, .iconst 1, 2, 0, 0, 1, 0, []),
  (2, .iand, 3, 0, 0, 0, 0, []),
  (3, .ifCond .ne 17, 6, 20, 0, 0, 0, []),
  (6, .sipush 4096, 9, 0, 0, 4096, 0, []),
  (9, .iload_n 1, 10, 0, 0, 0, 0, []),
  (10, .iconst 1, 11, 0, 0, 1, 0, []),
  (11, .ishr, 12, 0, 0, 0, 0, []),
  (12, .sipush 1023, 15, 0, 0, 1023, 0, []),
  (15, .iand, 16, 0, 0, 0, 0, []),
  (16, .iadd, 17, 0, 0, 0, 0, []),
  (17, .goto 13, 20, 30, 0, 0, 0, []),
  (20, .bipush (-2), 22, 0, 0, (-2), 0, []),
  (22, .iload_n 1, 23, 0, 0, 0, 0, []),
  (23, .iconst 1, 24, 0, 0, 1, 0, []),
  (24, .ishr, 25, 0, 0, 0, 0, []),
  (25, .sipush 1023, 28, 0, 0, 1023, 0, []),
  (28, .iand, 29, 0, 0, 0, 0, []),
  (29, .isub, 30, 0, 0, 0, 0, []),
  (30, .istore_n 2, 31, 0, 0, 0, 0, []),
  (31, .aload_n 0, 32, 0, 0, 0, 0, []),
  (32, .iload_n 2, 33, 0, 0, 0, 0, []),
  (33, .iconst 0, 34, 0, 0, 0, 0, []),
  (34, .iconst 1, 35, 0, 0, 1, 0, []),
  (35, .invokevirtual 27, 38, 27, 4, 0, 0, [0]),
  (38, .iconst (-1), 39, 0, 0, (-1), 0, []),
  (39, .if_icmp .ne 319, 42, 358, 0, 0, 0, []),
  (42, .aload_n 0, 43, 0, 0, 0, 0, []),
  (43, .iconst 0, 44, 0, 0, 0, 0, []),
  (44, .iconst 0, 45, 0, 0, 0, 0, []),
  (45, .iconst 1, 46, 0, 0, 1, 0, []),
  (46, .invokevirtual 27, 49, 27, 4, 0, 0, [0]),
  (49, .iconst (-1), 50, 0, 0, (-1), 0, []),
  (50, .if_icmp .ne 308, 53, 358, 0, 0, 0, []),
  (53, .aload_n 0, 54, 0, 0, 0, 0, []),
  (54, .iload_n 2, 55, 0, 0, 0, 0, []),
  (55, .iconst 0, 56, 0, 0, 0, 0, []),
  (56, .invokevirtual 95, 59, 95, 3, 0, 0, [0]),
  (59, .iconst (-1), 60, 0, 0, (-1), 0, []),
  (60, .if_icmp .ne 298, 63, 358, 0, 0, 0, []),
  (63, .aload_n 0, 64, 0, 0, 0, 0, []),
  (64, .iload_n 2, 65, 0, 0, 0, 0, []),
  (65, .iconst 0, 66, 0, 0, 0, 0, []),
  (66, .iconst 0, 67, 0, 0, 0, 0, []),
  (67, .invokevirtual 33, 70, 33, 4, 0, 0, [0]),
  (70, .iconst (-1), 71, 0, 0, (-1), 0, []),
  (71, .if_icmp .ne 287, 74, 358, 0, 0, 0, []),
  (74, .aload_n 0, 75, 0, 0, 0, 0, []),
  (75, .iconst 0, 76, 0, 0, 0, 0, []),
  (76, .iconst 1, 77, 0, 0, 1, 0, []),
  (77, .iload_n 2, 78, 0, 0, 0, 0, []),
  (78, .invokevirtual 33, 81, 33, 4, 0, 0, [0]),
  (81, .iconst (-1), 82, 0, 0, (-1), 0, []),
  (82, .if_icmp .ne 276, 85, 358, 0, 0, 0, []),
  (85, .aload_n 0, 86, 0, 0, 0, 0, []),
  (86, .iload_n 2, 87, 0, 0, 0, 0, []),
  (87, .invokevirtual 54, 90, 54, 2, 0, 0, [0]),
  (90, .iconst (-1), 91, 0, 0, (-1), 0, []),
  (91, .if_icmp .ne 267, 94, 358, 0, 0, 0, []),
  (94, .aload_n 0, 95, 0, 0, 0, 0, []),
  (95, .iload_n 2, 96, 0, 0, 0, 0, []),
  (96, .iconst 0, 97, 0, 0, 0, 0, []),
  (97, .invokevirtual 98, 100, 98, 3, 0, 0, [0]),
  (100, .iconst (-1), 101, 0, 0, (-1), 0, []),
  (101, .if_icmp .ne 257, 104, 358, 0, 0, 0, []),
  (104, .aload_n 0, 105, 0, 0, 0, 0, []),
  (105, .iconst 0, 106, 0, 0, 0, 0, []),
  (106, .iload_n 2, 107, 0, 0, 0, 0, []),
  (107, .invokevirtual 98, 110, 98, 3, 0, 0, [0]),
  (110, .iconst (-1), 111, 0, 0, (-1), 0, []),
  (111, .if_icmp .ne 247, 114, 358, 0, 0, 0, []),
  (114, .aload_n 0, 115, 0, 0, 0, 0, []),
  (115, .iload_n 2, 116, 0, 0, 0, 0, []),
  (116, .invokevirtual 37, 119, 37, 2, 0, 0, [0]),
  (119, .iconst (-1), 120, 0, 0, (-1), 0, []),
  (120, .if_icmp .ne 238, 123, 358, 0, 0, 0, []),
  (123, .aload_n 0, 124, 0, 0, 0, 0, []),
  (124, .iload_n 2, 125, 0, 0, 0, 0, []),
  (125, .invokevirtual 40, 128, 40, 2, 0, 0, [0]),
  (128, .iconst (-1), 129, 0, 0, (-1), 0, []),
  (129, .if_icmp .ne 229, 132, 358, 0, 0, 0, []),
  (132, .aload_n 0, 133, 0, 0, 0, 0, []),
  (133, .lconst 0, 134, 0, 0, 0, 0, []),
  (134, .iconst 1, 135, 0, 0, 1, 0, []),
  (135, .invokevirtual 62, 138, 62, 3, 0, 0, [0]),
  (138, .iconst (-1), 139, 0, 0, (-1), 0, []),
  (139, .if_icmp .ne 219, 142, 358, 0, 0, 0, []),
  (142, .aload_n 0, 143, 0, 0, 0, 0, []),
  (143, .ldc2_w 101, 146, 533, 0, 0, 32, []),
  (146, .iload_n 2, 147, 0, 0, 0, 0, []),
  (147, .invokevirtual 62, 150, 62, 3, 0, 0, [0]),
  (150, .iconst (-1), 151, 0, 0, (-1), 0, []),
  (151, .if_icmp .ne 207, 154, 358, 0, 0, 0, []),
  (154, .aload_n 0, 155, 0, 0, 0, 0, []),
  (155, .iload_n 2, 156, 0, 0, 0, 0, []),
  (156, .invokevirtual 57, 159, 57, 2, 0, 0, [0]),
  (159, .iconst (-1), 160, 0, 0, (-1), 0, []),
  (160, .if_icmp .ne 198, 163, 358, 0, 0, 0, []),
  (163, .aload_n 0, 164, 0, 0, 0, 0, []),
  (164, .iload_n 2, 165, 0, 0, 0, 0, []),
  (165, .iconst 0, 166, 0, 0, 0, 0, []),
  (166, .invokevirtual 103, 169, 103, 3, 0, 0, [0]),
  (169, .iconst (-1), 170, 0, 0, (-1), 0, []),
  (170, .if_icmp .ne 188, 173, 358, 0, 0, 0, []),
  (173, .aload_n 0, 174, 0, 0, 0, 0, []),
  (174, .iload_n 2, 175, 0, 0, 0, 0, []),
  (175, .iconst 0, 176, 0, 0, 0, 0, []),
  (176, .iconst 0, 177, 0, 0, 0, 0, []),
  (177, .invokevirtual 106, 180, 106, 4, 0, 0, [0]),
  (180, .iconst (-1), 181, 0, 0, (-1), 0, []),
  (181, .if_icmp .ne 177, 184, 358, 0, 0, 0, []),
  (184, .aload_n 0, 185, 0, 0, 0, 0, []),
  (185, .iconst 0, 186, 0, 0, 0, 0, []),
  (186, .iload_n 2, 187, 0, 0, 0, 0, []),
  (187, .iconst 0, 188, 0, 0, 0, 0, []),
  (188, .invokevirtual 106, 191, 106, 4, 0, 0, [0]),
  (191, .iconst (-1), 192, 0, 0, (-1), 0, []),
  (192, .if_icmp .ne 166, 195, 358, 0, 0, 0, []),
  (195, .aload_n 0, 196, 0, 0, 0, 0, []),
  (196, .iconst 0, 197, 0, 0, 0, 0, []),
  (197, .iconst 0, 198, 0, 0, 0, 0, []),
  (198, .iload_n 2, 199, 0, 0, 0, 0, []),
  (199, .invokevirtual 109, 202, 109, 4, 0, 0, [0]),
  (202, .iconst (-1), 203, 0, 0, (-1), 0, []),
  (203, .if_icmp .ne 155, 206, 358, 0, 0, 0, []),
  (206, .aload_n 0, 207, 0, 0, 0, 0, []),
  (207, .iload_n 2, 208, 0, 0, 0, 0, []),
  (208, .iconst 0, 209, 0, 0, 0, 0, []),
  (209, .invokevirtual 112, 212, 112, 3, 0, 0, [0]),
  (212, .iconst (-1), 213, 0, 0, (-1), 0, []),
  (213, .if_icmp .ne 145, 216, 358, 0, 0, 0, []),
  (216, .aload_n 0, 217, 0, 0, 0, 0, []),
  (217, .iload_n 2, 218, 0, 0, 0, 0, []),
  (218, .invokevirtual 115, 221, 115, 2, 0, 0, [0]),
  (221, .iconst (-1), 222, 0, 0, (-1), 0, []),
  (222, .if_icmp .ne 136, 225, 358, 0, 0, 0, []),
  (225, .aload_n 0, 226, 0, 0, 0, 0, []),
  (226, .iload_n 2, 227, 0, 0, 0, 0, []),
  (227, .invokevirtual 118, 230, 118, 2, 0, 0, [0]),
  (230, .iconst (-1), 231, 0, 0, (-1), 0, []),
  (231, .if_icmp .ne 127, 234, 358, 0, 0, 0, []),
  (234, .aload_n 0, 235, 0, 0, 0, 0, []),
  (235, .iconst 0, 236, 0, 0, 0, 0, []),
  (236, .iload_n 2, 237, 0, 0, 0, 0, []),
  (237, .iconst 0, 238, 0, 0, 0, 0, []),
  (238, .invokevirtual 121, 241, 121, 4, 0, 0, [0]),
  (241, .iconst (-1), 242, 0, 0, (-1), 0, []),
  (242, .if_icmp .ne 116, 245, 358, 0, 0, 0, []),
  (245, .aload_n 0, 246, 0, 0, 0, 0, []),
  (246, .iconst 0, 247, 0, 0, 0, 0, []),
  (247, .iconst 0, 248, 0, 0, 0, 0, []),
  (248, .iload_n 2, 249, 0, 0, 0, 0, []),
  (249, .invokevirtual 121, 252, 121, 4, 0, 0, [0]),
  (252, .iconst (-1), 253, 0, 0, (-1), 0, []),
  (253, .if_icmp .ne 105, 256, 358, 0, 0, 0, []),
  (256, .aload_n 0, 257, 0, 0, 0, 0, []),
  (257, .iload_n 2, 258, 0, 0, 0, 0, []),
  (258, .iconst 0, 259, 0, 0, 0, 0, []),
  (259, .iconst 0, 260, 0, 0, 0, 0, []),
  (260, .iconst 0, 261, 0, 0, 0, 0, []),
  (261, .iconst 0, 262, 0, 0, 0, 0, []),
  (262, .iconst 1, 263, 0, 0, 1, 0, []),
  (263, .iconst 0, 264, 0, 0, 0, 0, []),
  (264, .invokevirtual 87, 267, 87, 8, 0, 0, [0]),
  (267, .iconst (-1), 268, 0, 0, (-1), 0, []),
  (268, .if_icmp .ne 90, 271, 358, 0, 0, 0, []),
  (271, .aload_n 0, 272, 0, 0, 0, 0, []),
  (272, .iconst 0, 273, 0, 0, 0, 0, []),
  (273, .iload_n 2, 274, 0, 0, 0, 0, []),
  (274, .iconst 0, 275, 0, 0, 0, 0, []),
  (275, .iconst 0, 276, 0, 0, 0, 0, []),
  (276, .iconst 0, 277, 0, 0, 0, 0, []),
  (277, .iconst 1, 278, 0, 0, 1, 0, []),
  (278, .invokevirtual 83, 281, 83, 7, 0, 0, [0]),
  (281, .iconst (-1), 282, 0, 0, (-1), 0, []),
  (282, .if_icmp .ne 76, 285, 358, 0, 0, 0, []),
  (285, .aload_n 0, 286, 0, 0, 0, 0, []),
  (286, .iload_n 2, 287, 0, 0, 0, 0, []),
  (287, .iconst 0, 288, 0, 0, 0, 0, []),
  (288, .iconst 0, 289, 0, 0, 0, 0, []),
  (289, .invokevirtual 80, 292, 80, 4, 0, 0, [0]),
  (292, .iconst (-1), 293, 0, 0, (-1), 0, []),
  (293, .if_icmp .ne 65, 296, 358, 0, 0, 0, []),
  (296, .aload_n 0, 297, 0, 0, 0, 0, []),
  (297, .iconst 0, 298, 0, 0, 0, 0, []),
  (298, .iconst 0, 299, 0, 0, 0, 0, []),
  (299, .bipush 25, 301, 0, 0, 25, 0, []),
  (301, .invokevirtual 80, 304, 80, 4, 0, 0, [0]),
  (304, .iconst (-1), 305, 0, 0, (-1), 0, []),
  (305, .if_icmp .ne 53, 308, 358, 0, 0, 0, []),
  (308, .aload_n 0, 309, 0, 0, 0, 0, []),
  (309, .iconst 0, 310, 0, 0, 0, 0, []),
  (310, .iconst 0, 311, 0, 0, 0, 0, []),
  (311, .iconst (-1), 312, 0, 0, (-1), 0, []),
  (312, .invokevirtual 80, 315, 80, 4, 0, 0, [0]),
  (315, .bipush (-14), 317, 0, 0, (-14), 0, []),
  (317, .if_icmp .ne 41, 320, 358, 0, 0, 0, []),
  (320, .aload_n 0, 321, 0, 0, 0, 0, []),
  (321, .iload_n 2, 322, 0, 0, 0, 0, []),
  (322, .invokevirtual 124, 325, 124, 2, 0, 0, [0]),
  (325, .iconst (-1), 326, 0, 0, (-1), 0, []),
  (326, .if_icmp .ne 32, 329, 358, 0, 0, 0, []),
  (329, .aload_n 0, 330, 0, 0, 0, 0, []),
  (330, .iload_n 2, 331, 0, 0, 0, 0, []),
  (331, .iconst 0, 332, 0, 0, 0, 0, []),
  (332, .iconst 0, 333, 0, 0, 0, 0, []),
  (333, .lconst 0, 334, 0, 0, 0, 0, []),
  (334, .invokevirtual 127, 337, 127, 5, 0, 0, [0]),
  (337, .iconst (-1), 338, 0, 0, (-1), 0, []),
  (338, .if_icmp .ne 20, 341, 358, 0, 0, 0, []),
  (341, .aload_n 0, 342, 0, 0, 0, 0, []),
  (342, .iload_n 2, 343, 0, 0, 0, 0, []),
  (343, .iconst 0, 344, 0, 0, 0, 0, []),
  (344, .iconst 0, 345, 0, 0, 0, 0, []),
  (345, .iconst 0, 346, 0, 0, 0, 0, []),
  (346, .iconst 0, 347, 0, 0, 0, 0, []),
  (347, .invokevirtual 91, 350, 91, 6, 0, 0, [0]),
  (350, .iconst (-1), 351, 0, 0, (-1), 0, []),
  (351, .if_icmp .ne 7, 354, 358, 0, 0, 0, []),
  (354, .iconst 1, 355, 0, 0, 1, 0, []),
  (355, .goto 4, 358, 359, 0, 0, 0, []),
  (358, .iconst 0, 359, 0, 0, 0, 0, []),
  (359, .istore_n 3, 360, 0, 0, 0, 0, []),
  (360, .aload_n 0, 361, 0, 0, 0, 0, []),
  (361, .iconst 0, 362, 0, 0, 0, 0, []),
  (362, .iconst 0, 363, 0, 0, 0, 0, []),
  (363, .iconst 0, 364, 0, 0, 0, 0, []),
  (364, .invokevirtual 106, 367, 106, 4, 0, 0, [0]),
  (367, .aload_n 0, 368, 0, 0, 0, 0, []),
  (368, .iconst 3, 369, 0, 0, 3, 0, []),
  (369, .iconst 1, 370, 0, 0, 1, 0, []),
  (370, .iconst 2, 371, 0, 0, 2, 0, []),
  (371, .invokevirtual 109, 374, 109, 4, 0, 0, [0]),
  (374, .iadd, 375, 0, 0, 0, 0, []),
  (375, .aload_n 0, 376, 0, 0, 0, 0, []),
  (376, .iconst 2, 377, 0, 0, 2, 0, []),
  (377, .iconst 0, 378, 0, 0, 0, 0, []),
  (378, .invokevirtual 112, 381, 112, 3, 0, 0, [0]),
  (381, .iadd, 382, 0, 0, 0, 0, []),
  (382, .aload_n 0, 383, 0, 0, 0, 0, []),
  (383, .iconst 0, 384, 0, 0, 0, 0, []),
  (384, .invokevirtual 115, 387, 115, 2, 0, 0, [0]),
  (387, .iadd, 388, 0, 0, 0, 0, []),
  (388, .aload_n 0, 389, 0, 0, 0, 0, []),
  (389, .iconst 1, 390, 0, 0, 1, 0, []),
  (390, .invokevirtual 118, 393, 118, 2, 0, 0, [0]),
  (393, .iadd, 394, 0, 0, 0, 0, []),
  (394, .aload_n 0, 395, 0, 0, 0, 0, []),
  (395, .iconst 0, 396, 0, 0, 0, 0, []),
  (396, .iconst 0, 397, 0, 0, 0, 0, []),
  (397, .iconst 1, 398, 0, 0, 1, 0, []),
  (398, .invokevirtual 121, 401, 121, 4, 0, 0, [0]),
  (401, .iadd, 402, 0, 0, 0, 0, []),
  (402, .aload_n 0, 403, 0, 0, 0, 0, []),
  (403, .iconst 1, 404, 0, 0, 1, 0, []),
  (404, .iconst 0, 405, 0, 0, 0, 0, []),
  (405, .invokevirtual 103, 408, 103, 3, 0, 0, [0]),
  (408, .iadd, 409, 0, 0, 0, 0, []),
  (409, .aload_n 0, 410, 0, 0, 0, 0, []),
  (410, .iconst 1, 411, 0, 0, 1, 0, []),
  (411, .iconst 0, 412, 0, 0, 0, 0, []),
  (412, .iconst 0, 413, 0, 0, 0, 0, []),
  (413, .iconst 0, 414, 0, 0, 0, 0, []),
  (414, .iconst 0, 415, 0, 0, 0, 0, []),
  (415, .iconst 1, 416, 0, 0, 1, 0, []),
  (416, .iconst 1, 417, 0, 0, 1, 0, []),
  (417, .invokevirtual 87, 420, 87, 8, 0, 0, [0]),
  (420, .iadd, 421, 0, 0, 0, 0, []),
  (421, .istore 4, 423, 0, 0, 0, 0, []),
  (423, .iload_n 3, 424, 0, 0, 0, 0, []),
  (424, .ifCond .eq 14, 427, 438, 0, 0, 0, []),
  (427, .iload 4, 429, 0, 0, 0, 0, []),
  (429, .bipush (-99), 431, 0, 0, (-99), 0, []),
  (431, .if_icmp .le 7, 434, 438, 0, 0, 0, []),
  (434, .iconst 1, 435, 0, 0, 1, 0, []),
  (435, .goto 4, 438, 439, 0, 0, 0, []),
  (438, .iconst 0, 439, 0, 0, 0, 0, []),
  (439, .ireturn, 440, 0, 0, 0, 0, [])]
def k_LW_areAlike : List am_E := [
  (0, .aload_n 0, 1, 0, 0, 0, 0, []),
  (1, .iconst 0, 2, 0, 0, 0, 0, []),
  (2, .iconst 1, 3, 0, 0, 1, 0, []),
  (3, .iconst 1, 4, 0, 0, 1, 0, []),
  (4, .invokevirtual 121, 7, 121, 4, 0, 0, [0]),
  (7, .aload_n 1, 8, 0, 0, 0, 0, []),
  (8, .iconst 0, 9, 0, 0, 0, 0, []),
  (9, .iconst 1, 10, 0, 0, 1, 0, []),
  (10, .iconst 1, 11, 0, 0, 1, 0, []),
  (11, .invokevirtual 121, 14, 121, 4, 0, 0, [0]),
  (14, .if_icmp .ne 20, 17, 34, 0, 0, 0, []),
  (17, .aload_n 0, 18, 0, 0, 0, 0, []),
  (18, .iconst 2, 19, 0, 0, 2, 0, []),
  (19, .invokevirtual 115, 22, 115, 2, 0, 0, [0]),
  (22, .aload_n 1, 23, 0, 0, 0, 0, []),
  (23, .iconst 2, 24, 0, 0, 2, 0, []),
  (24, .invokevirtual 115, 27, 115, 2, 0, 0, [0]),
  (27, .if_icmp .ne 7, 30, 34, 0, 0, 0, []),
  (30, .iconst 1, 31, 0, 0, 1, 0, []),
  (31, .goto 4, 34, 35, 0, 0, 0, []),
  (34, .iconst 0, 35, 0, 0, 0, 0, []),
  (35, .istore_n 2, 36, 0, 0, 0, 0, []),
  (36, .iconst 0, 37, 0, 0, 0, 0, []),
  (37, .istore_n 3, 38, 0, 0, 0, 0, []),
  (38, .iload_n 3, 39, 0, 0, 0, 0, []),
  (39, .bipush 12, 41, 0, 0, 12, 0, []),
  (41, .if_icmp .ge 148, 44, 189, 0, 0, 0, []),
  (44, .iload_n 3, 45, 0, 0, 0, 0, []),
  (45, .iconst 3, 46, 0, 0, 3, 0, []),
  (46, .iand, 47, 0, 0, 0, 0, []),
  (47, .istore 4, 49, 0, 0, 0, 0, []),
  (49, .iload_n 2, 50, 0, 0, 0, 0, []),
  (50, .ifCond .eq 131, 53, 181, 0, 0, 0, []),
  (53, .aload_n 0, 54, 0, 0, 0, 0, []),
  (54, .iload_n 3, 55, 0, 0, 0, 0, []),
  (55, .invokevirtual 57, 58, 57, 2, 0, 0, [0]),
  (58, .aload_n 1, 59, 0, 0, 0, 0, []),
  (59, .iload_n 3, 60, 0, 0, 0, 0, []),
  (60, .invokevirtual 57, 63, 57, 2, 0, 0, [0]),
  (63, .if_icmp .ne 118, 66, 181, 0, 0, 0, []),
  (66, .aload_n 0, 67, 0, 0, 0, 0, []),
  (67, .iload_n 3, 68, 0, 0, 0, 0, []),
  (68, .iconst 0, 69, 0, 0, 0, 0, []),
  (69, .invokevirtual 95, 72, 95, 3, 0, 0, [0]),
  (72, .aload_n 1, 73, 0, 0, 0, 0, []),
  (73, .iload_n 3, 74, 0, 0, 0, 0, []),
  (74, .iconst 0, 75, 0, 0, 0, 0, []),
  (75, .invokevirtual 95, 78, 95, 3, 0, 0, [0]),
  (78, .if_icmp .ne 103, 81, 181, 0, 0, 0, []),
  (81, .aload_n 0, 82, 0, 0, 0, 0, []),
  (82, .iload_n 3, 83, 0, 0, 0, 0, []),
  (83, .iconst 1, 84, 0, 0, 1, 0, []),
  (84, .invokevirtual 95, 87, 95, 3, 0, 0, [0]),
  (87, .aload_n 1, 88, 0, 0, 0, 0, []),
  (88, .iload_n 3, 89, 0, 0, 0, 0, []),
  (89, .iconst 1, 90, 0, 0, 1, 0, []),
  (90, .invokevirtual 95, 93, 95, 3, 0, 0, [0]),
  (93, .if_icmp .ne 88, 96, 181, 0, 0, 0, []),
  (96, .aload_n 0, 97, 0, 0, 0, 0, []),
  (97, .iload_n 3, 98, 0, 0, 0, 0, []),
  (98, .iconst 2, 99, 0, 0, 2, 0, []),
  (99, .invokevirtual 95, 102, 95, 3, 0, 0, [0]),
  (102, .aload_n 1, 103, 0, 0, 0, 0, []),
  (103, .iload_n 3, 104, 0, 0, 0, 0, []),
  (104, .iconst 2, 105, 0, 0, 2, 0, []),
  (105, .invokevirtual 95, 108, 95, 3, 0, 0, [0]),
  (108, .if_icmp .ne 73, 111, 181, 0, 0, 0, []),
  (111, .aload_n 0, 112, 0, 0, 0, 0, []),
  (112, .iload_n 3, 113, 0, 0, 0, 0, []),
  (113, .iconst 0, 114, 0, 0, 0, 0, []),
  (114, .invokevirtual 98, 117, 98, 3, 0, 0, [0]),
  (117, .aload_n 1, 118, 0, 0, 0, 0, []),
  (118, .iload_n 3, 119, 0, 0, 0, 0, []),
  (119, .iconst 0, 120, 0, 0, 0, 0, []),
  (120, .invokevirtual 98, 123, 98, 3, 0, 0, [0]),
  (123, .if_icmp .ne 58, 126, 181, 0, 0, 0, []),
  (126, .aload_n 0, 127, 0, 0, 0, 0, []),
  (127, .iload_n 3, 128, 0, 0, 0, 0, []),
  (128, .iconst 1, 129, 0, 0, 1, 0, []),
  (129, .invokevirtual 98, 132, 98, 3, 0, 0, [0]),
  (132, .aload_n 1, 133, 0, 0, 0, 0, []),
  (133, .iload_n 3, 134, 0, 0, 0, 0, []),
  (134, .iconst 1, 135, 0, 0, 1, 0, []),
  (135, .invokevirtual 98, 138, 98, 3, 0, 0, [0]),
  (138, .if_icmp .ne 43, 141, 181, 0, 0, 0, []),
  (141, .aload_n 0, 142, 0, 0, 0, 0, []),
  (142, .iload 4, 144, 0, 0, 0, 0, []),
  (144, .iload_n 3, 145, 0, 0, 0, 0, []),
  (145, .iconst 0, 146, 0, 0, 0, 0, []),
  (146, .invokevirtual 106, 149, 106, 4, 0, 0, [0]),
  (149, .aload_n 1, 150, 0, 0, 0, 0, []),
  (150, .iload 4, 152, 0, 0, 0, 0, []),
  (152, .iload_n 3, 153, 0, 0, 0, 0, []),
  (153, .iconst 0, 154, 0, 0, 0, 0, []),
  (154, .invokevirtual 106, 157, 106, 4, 0, 0, [0]),
  (157, .if_icmp .ne 24, 160, 181, 0, 0, 0, []),
  (160, .aload_n 0, 161, 0, 0, 0, 0, []),
  (161, .iload 4, 163, 0, 0, 0, 0, []),
  (163, .iload_n 3, 164, 0, 0, 0, 0, []),
  (164, .invokevirtual 112, 167, 112, 3, 0, 0, [0]),
  (167, .aload_n 1, 168, 0, 0, 0, 0, []),
  (168, .iload 4, 170, 0, 0, 0, 0, []),
  (170, .iload_n 3, 171, 0, 0, 0, 0, []),
  (171, .invokevirtual 112, 174, 112, 3, 0, 0, [0]),
  (174, .if_icmp .ne 7, 177, 181, 0, 0, 0, []),
  (177, .iconst 1, 178, 0, 0, 1, 0, []),
  (178, .goto 4, 181, 182, 0, 0, 0, []),
  (181, .iconst 0, 182, 0, 0, 0, 0, []),
  (182, .istore_n 2, 183, 0, 0, 0, 0, []),
  (183, .iinc 3 1, 186, 0, 0, 1, 0, []),
  (186, .goto (-148), 189, 38, 0, 0, 0, []),
  (189, .iload_n 2, 190, 0, 0, 0, 0, []),
  (190, .ireturn, 191, 0, 0, 0, 0, [])]
def k_LW_road : List am_E := [
  (0, .aload_n 1, 1, 0, 0, 0, 0, []),
  (1, .iconst 0, 2, 0, 0, 0, 0, []),
  (2, .invokestatic 9, 5, 9, 2, 0, 0, []),
  (5, .istore 4, 7, 0, 0, 0, 0, []),
  (7, .aload_n 3, 8, 0, 0, 0, 0, []),
  (8, .iconst 0, 9, 0, 0, 0, 0, []),
  (9, .iconst 0, 10, 0, 0, 0, 0, []),
  (10, .iastore, 11, 0, 0, 0, 0, []),
  (11, .aload_n 3, 12, 0, 0, 0, 0, []),
  (12, .bipush 25, 14, 0, 0, 25, 0, []),
  (14, .iconst 0, 15, 0, 0, 0, 0, []),
  (15, .iastore, 16, 0, 0, 0, 0, []),
  (16, .aload_n 3, 17, 0, 0, 0, 0, []),
  (17, .bipush 26, 19, 0, 0, 26, 0, []),
  (19, .iconst 0, 20, 0, 0, 0, 0, []),
  (20, .iastore, 21, 0, 0, 0, 0, []),
  (21, .iconst 1, 22, 0, 0, 1, 0, []),
  (22, .istore 5, 24, 0, 0, 0, 0, []),
  (24, .iconst 3, 25, 0, 0, 3, 0, []),
  (25, .iload 4, 27, 0, 0, 0, 0, []),
  (27, .bipush 6, 29, 0, 0, 6, 0, []),
  (29, .invokestatic 15, 32, 15, 2, 0, 0, []),
  (32, .iadd, 33, 0, 0, 0, 0, []),
  (33, .istore 6, 35, 0, 0, 0, 0, []),
  (35, .iconst 3, 36, 0, 0, 3, 0, []),
  (36, .iload 4, 38, 0, 0, 0, 0, []),
  (38, .iconst 4, 39, 0, 0, 4, 0, []),
  (39, .ishr, 40, 0, 0, 0, 0, []),
  (40, .bipush 14, 42, 0, 0, 14, 0, []),
  (42, .invokestatic 15, 45, 15, 2, 0, 0, []),
  (45, .iadd, 46, 0, 0, 0, 0, []),
  (46, .istore 7, 48, 0, 0, 0, 0, []),
  (48, .iconst 0, 49, 0, 0, 0, 0, []),
  (49, .istore 8, 51, 0, 0, 0, 0, []),
  (51, .iload 8, 53, 0, 0, 0, 0, []),
  (53, .iload 7, 55, 0, 0, 0, 0, []),
  (55, .if_icmp .ge 296, 58, 351, 0, 0, 0, []),
  (58, .iload 5, 60, 0, 0, 0, 0, []),
  (60, .ifCond .eq 291, 63, 351, 0, 0, 0, []),
  (63, .aload_n 1, 64, 0, 0, 0, 0, []),
  (64, .iconst 1, 65, 0, 0, 1, 0, []),
  (65, .iload 8, 67, 0, 0, 0, 0, []),
  (67, .iconst 3, 68, 0, 0, 3, 0, []),
  (68, .idiv, 69, 0, 0, 0, 0, []),
  (69, .iadd, 70, 0, 0, 0, 0, []),
  (70, .invokestatic 9, 73, 9, 2, 0, 0, []),
  (73, .bipush 9, 75, 0, 0, 9, 0, []),
  (75, .iload 8, 77, 0, 0, 0, 0, []),
  (77, .iconst 3, 78, 0, 0, 3, 0, []),
  (78, .irem, 79, 0, 0, 0, 0, []),
  (79, .imul, 80, 0, 0, 0, 0, []),
  (80, .ishr, 81, 0, 0, 0, 0, []),
  (81, .istore 9, 83, 0, 0, 0, 0, []),
  (83, .iload 8, 85, 0, 0, 0, 0, []),
  (85, .iload 6, 87, 0, 0, 0, 0, []),
  (87, .iconst 1, 88, 0, 0, 1, 0, []),
  (88, .isub, 89, 0, 0, 0, 0, []),
  (89, .if_icmp .ge 8, 92, 97, 0, 0, 0, []),
  (92, .iload 8, 94, 0, 0, 0, 0, []),
  (94, .goto 10, 97, 104, 0, 0, 0, []),
  (97, .iload 9, 99, 0, 0, 0, 0, []),
  (99, .iload 6, 101, 0, 0, 0, 0, []),
  (101, .invokestatic 15, 104, 15, 2, 0, 0, []),
  (104, .istore 10, 106, 0, 0, 0, 0, []),
  (106, .iload 8, 108, 0, 0, 0, 0, []),
  (108, .iload 6, 110, 0, 0, 0, 0, []),
  (110, .iconst 1, 111, 0, 0, 1, 0, []),
  (111, .isub, 112, 0, 0, 0, 0, []),
  (112, .if_icmp .ge 20, 115, 132, 0, 0, 0, []),
  (115, .iload 4, 117, 0, 0, 0, 0, []),
  (117, .bipush 8, 119, 0, 0, 8, 0, []),
  (119, .ishr, 120, 0, 0, 0, 0, []),
  (120, .iconst 3, 121, 0, 0, 3, 0, []),
  (121, .iand, 122, 0, 0, 0, 0, []),
  (122, .ifCond .le 10, 125, 132, 0, 0, 0, []),
  (125, .iload 8, 127, 0, 0, 0, 0, []),
  (127, .iconst 1, 128, 0, 0, 1, 0, []),
  (128, .iadd, 129, 0, 0, 0, 0, []),
  (129, .goto 22, 132, 151, 0, 0, 0, []),
  (132, .iload 10, 134, 0, 0, 0, 0, []),
  (134, .iconst 1, 135, 0, 0, 1, 0, []),
  (135, .iadd, 136, 0, 0, 0, 0, []),
  (136, .iload 9, 138, 0, 0, 0, 0, []),
  (138, .iconst 3, 139, 0, 0, 3, 0, []),
  (139, .ishr, 140, 0, 0, 0, 0, []),
  (140, .iload 6, 142, 0, 0, 0, 0, []),
  (142, .iconst 1, 143, 0, 0, 1, 0, []),
  (143, .isub, 144, 0, 0, 0, 0, []),
  (144, .invokestatic 15, 147, 15, 2, 0, 0, []),
  (147, .iadd, 148, 0, 0, 0, 0, []),
  (148, .iload 6, 150, 0, 0, 0, 0, []),
  (150, .irem, 151, 0, 0, 0, 0, []),
  (151, .istore 11, 153, 0, 0, 0, 0, []),
  (153, .iload 9, 155, 0, 0, 0, 0, []),
  (155, .bipush 6, 157, 0, 0, 6, 0, []),
  (157, .ishr, 158, 0, 0, 0, 0, []),
  (158, .iconst 3, 159, 0, 0, 3, 0, []),
  (159, .invokestatic 15, 162, 15, 2, 0, 0, []),
  (162, .ifCond .le 7, 165, 169, 0, 0, 0, []),
  (165, .iconst 1, 166, 0, 0, 1, 0, []),
  (166, .goto 4, 169, 170, 0, 0, 0, []),
  (169, .iconst 0, 170, 0, 0, 0, 0, []),
  (170, .istore 12, 172, 0, 0, 0, 0, []),
  (172, .aload_n 3, 173, 0, 0, 0, 0, []),
  (173, .iconst 0, 174, 0, 0, 0, 0, []),
  (174, .iaload, 175, 0, 0, 0, 0, []),
  (175, .istore 13, 177, 0, 0, 0, 0, []),
  (177, .aload_n 3, 178, 0, 0, 0, 0, []),
  (178, .iload 10, 180, 0, 0, 0, 0, []),
  (180, .iload 11, 182, 0, 0, 0, 0, []),
  (182, .invokestatic 19, 185, 19, 3, 0, 0, []),
  (185, .ifCond .lt 8, 188, 193, 0, 0, 0, []),
  (188, .bipush (-2), 190, 0, 0, (-2), 0, []),
  (190, .goto 34, 193, 224, 0, 0, 0, []),
  (193, .iload 13, 195, 0, 0, 0, 0, []),
  (195, .bipush 12, 197, 0, 0, 12, 0, []),
  (197, .if_icmp .eq 20, 200, 217, 0, 0, 0, []),
  (200, .iload 12, 202, 0, 0, 0, 0, []),
  (202, .ifCond .eq 20, 205, 222, 0, 0, 0, []),
  (205, .aload_n 3, 206, 0, 0, 0, 0, []),
  (206, .bipush 25, 208, 0, 0, 25, 0, []),
  (208, .iaload, 209, 0, 0, 0, 0, []),
  (209, .invokestatic 23, 212, 23, 1, 0, 0, []),
  (212, .bipush 6, 214, 0, 0, 6, 0, []),
  (214, .if_icmp .ne 8, 217, 222, 0, 0, 0, []),
  (217, .bipush (-3), 219, 0, 0, (-3), 0, []),
  (219, .goto 5, 222, 224, 0, 0, 0, []),
  (222, .iload 13, 224, 0, 0, 0, 0, []),
  (224, .istore 14, 226, 0, 0, 0, 0, []),
  (226, .iload 14, 228, 0, 0, 0, 0, []),
  (228, .ifCond .lt 22, 231, 250, 0, 0, 0, []),
  (231, .iload 12, 233, 0, 0, 0, 0, []),
  (233, .ifCond .eq 17, 236, 250, 0, 0, 0, []),
  (236, .aload_n 3, 237, 0, 0, 0, 0, []),
  (237, .bipush 25, 239, 0, 0, 25, 0, []),
  (239, .iaload, 240, 0, 0, 0, 0, []),
  (240, .invokestatic 23, 243, 23, 1, 0, 0, []),
  (243, .iload_n 2, 244, 0, 0, 0, 0, []),
  (244, .if_icmp .ne 6, 247, 250, 0, 0, 0, []),
  (247, .iconst 0, 248, 0, 0, 0, 0, []),
  (248, .istore 12, 250, 0, 0, 0, 0, []),
  (250, .aload_n 0, 251, 0, 0, 0, 0, []),
  (251, .iload 10, 253, 0, 0, 0, 0, []),
  (253, .iload 11, 255, 0, 0, 0, 0, []),
  (255, .iload 12, 257, 0, 0, 0, 0, []),
  (257, .invokevirtual 27, 260, 27, 4, 0, 0, [0]),
  (260, .iload 14, 262, 0, 0, 0, 0, []),
  (262, .if_icmp .ne 7, 265, 269, 0, 0, 0, []),
  (265, .iconst 1, 266, 0, 0, 1, 0, []),
  (266, .goto 4, 269, 270, 0, 0, 0, []),
  (269, .iconst 0, 270, 0, 0, 0, 0, []),
  (270, .istore 5, 272, 0, 0, 0, 0, []),
  (272, .iload 14, 274, 0, 0, 0, 0, []),
  (274, .ifCond .lt 71, 277, 345, 0, 0, 0, []),
  (277, .aload_n 3, 278, 0, 0, 0, 0, []),
  (278, .iconst 1, 279, 0, 0, 1, 0, []),
  (279, .iload 13, 281, 0, 0, 0, 0, []),
  (281, .iadd, 282, 0, 0, 0, 0, []),
  (282, .iload 10, 284, 0, 0, 0, 0, []),
  (284, .iload 11, 286, 0, 0, 0, 0, []),
  (286, .if_icmp .ge 8, 289, 294, 0, 0, 0, []),
  (289, .iload 10, 291, 0, 0, 0, 0, []),
  (291, .goto 5, 294, 296, 0, 0, 0, []),
  (294, .iload 11, 296, 0, 0, 0, 0, []),
  (296, .iastore, 297, 0, 0, 0, 0, []),
  (297, .aload_n 3, 298, 0, 0, 0, 0, []),
  (298, .bipush 13, 300, 0, 0, 13, 0, []),
  (300, .iload 13, 302, 0, 0, 0, 0, []),
  (302, .iadd, 303, 0, 0, 0, 0, []),
  (303, .iload 10, 305, 0, 0, 0, 0, []),
  (305, .iload 11, 307, 0, 0, 0, 0, []),
  (307, .if_icmp .ge 8, 310, 315, 0, 0, 0, []),
  (310, .iload 11, 312, 0, 0, 0, 0, []),
  (312, .goto 5, 315, 317, 0, 0, 0, []),
  (315, .iload 10, 317, 0, 0, 0, 0, []),
  (317, .iastore, 318, 0, 0, 0, 0, []),
  (318, .aload_n 3, 319, 0, 0, 0, 0, []),
  (319, .bipush 25, 321, 0, 0, 25, 0, []),
  (321, .dup2, 322, 0, 0, 0, 0, []),
  (322, .iaload, 323, 0, 0, 0, 0, []),
  (323, .iload 12, 325, 0, 0, 0, 0, []),
  (325, .ifCond .eq 10, 328, 335, 0, 0, 0, []),
  (328, .iconst 1, 329, 0, 0, 1, 0, []),
  (329, .iload 13, 331, 0, 0, 0, 0, []),
  (331, .ishl, 332, 0, 0, 0, 0, []),
  (332, .goto 4, 335, 336, 0, 0, 0, []),
  (335, .iconst 0, 336, 0, 0, 0, 0, []),
  (336, .ior, 337, 0, 0, 0, 0, []),
  (337, .iastore, 338, 0, 0, 0, 0, []),
  (338, .aload_n 3, 339, 0, 0, 0, 0, []),
  (339, .iconst 0, 340, 0, 0, 0, 0, []),
  (340, .dup2, 341, 0, 0, 0, 0, []),
  (341, .iaload, 342, 0, 0, 0, 0, []),
  (342, .iconst 1, 343, 0, 0, 1, 0, []),
  (343, .iadd, 344, 0, 0, 0, 0, []),
  (344, .iastore, 345, 0, 0, 0, 0, []),
  (345, .iinc 8 1, 348, 0, 0, 1, 0, []),
  (348, .goto (-297), 351, 51, 0, 0, 0, []),
  (351, .iconst 0, 352, 0, 0, 0, 0, []),
  (352, .istore 8, 354, 0, 0, 0, 0, []),
  (354, .iload 8, 356, 0, 0, 0, 0, []),
  (356, .bipush 8, 358, 0, 0, 8, 0, []),
  (358, .if_icmp .ge 215, 361, 573, 0, 0, 0, []),
  (361, .iload 5, 363, 0, 0, 0, 0, []),
  (363, .ifCond .eq 210, 366, 573, 0, 0, 0, []),
  (366, .iload 4, 368, 0, 0, 0, 0, []),
  (368, .bipush 10, 370, 0, 0, 10, 0, []),
  (370, .ishr, 371, 0, 0, 0, 0, []),
  (371, .bipush 7, 373, 0, 0, 7, 0, []),
  (373, .iand, 374, 0, 0, 0, 0, []),
  (374, .ifCond .le 199, 377, 573, 0, 0, 0, []),
  (377, .aload_n 1, 378, 0, 0, 0, 0, []),
  (378, .bipush 7, 380, 0, 0, 7, 0, []),
  (380, .iload 8, 382, 0, 0, 0, 0, []),
  (382, .iconst 2, 383, 0, 0, 2, 0, []),
  (383, .idiv, 384, 0, 0, 0, 0, []),
  (384, .iadd, 385, 0, 0, 0, 0, []),
  (385, .invokestatic 9, 388, 9, 2, 0, 0, []),
  (388, .bipush 14, 390, 0, 0, 14, 0, []),
  (390, .iload 8, 392, 0, 0, 0, 0, []),
  (392, .iconst 2, 393, 0, 0, 2, 0, []),
  (393, .irem, 394, 0, 0, 0, 0, []),
  (394, .imul, 395, 0, 0, 0, 0, []),
  (395, .ishr, 396, 0, 0, 0, 0, []),
  (396, .istore 9, 398, 0, 0, 0, 0, []),
  (398, .iload 9, 400, 0, 0, 0, 0, []),
  (400, .iload 6, 402, 0, 0, 0, 0, []),
  (402, .invokestatic 15, 405, 15, 2, 0, 0, []),
  (405, .istore 10, 407, 0, 0, 0, 0, []),
  (407, .iload 9, 409, 0, 0, 0, 0, []),
  (409, .iconst 3, 410, 0, 0, 3, 0, []),
  (410, .ishr, 411, 0, 0, 0, 0, []),
  (411, .iload 6, 413, 0, 0, 0, 0, []),
  (413, .invokestatic 15, 416, 15, 2, 0, 0, []),
  (416, .istore 11, 418, 0, 0, 0, 0, []),
  (418, .iload 9, 420, 0, 0, 0, 0, []),
  (420, .bipush 6, 422, 0, 0, 6, 0, []),
  (422, .ishr, 423, 0, 0, 0, 0, []),
  (423, .aload_n 3, 424, 0, 0, 0, 0, []),
  (424, .iconst 0, 425, 0, 0, 0, 0, []),
  (425, .iaload, 426, 0, 0, 0, 0, []),
  (426, .iconst 1, 427, 0, 0, 1, 0, []),
  (427, .iadd, 428, 0, 0, 0, 0, []),
  (428, .invokestatic 15, 431, 15, 2, 0, 0, []),
  (431, .istore 12, 433, 0, 0, 0, 0, []),
  (433, .iload 9, 435, 0, 0, 0, 0, []),
  (435, .bipush 10, 437, 0, 0, 10, 0, []),
  (437, .ishr, 438, 0, 0, 0, 0, []),
  (438, .iconst 4, 439, 0, 0, 4, 0, []),
  (439, .invokestatic 15, 442, 15, 2, 0, 0, []),
  (442, .ifCond .le 125, 445, 567, 0, 0, 0, []),
  (445, .iload 12, 447, 0, 0, 0, 0, []),
  (447, .aload_n 3, 448, 0, 0, 0, 0, []),
  (448, .iconst 0, 449, 0, 0, 0, 0, []),
  (449, .iaload, 450, 0, 0, 0, 0, []),
  (450, .if_icmp .ne 7, 453, 457, 0, 0, 0, []),
  (453, .iconst (-1), 454, 0, 0, (-1), 0, []),
  (454, .goto 31, 457, 485, 0, 0, 0, []),
  (457, .aload_n 3, 458, 0, 0, 0, 0, []),
  (458, .iload 10, 460, 0, 0, 0, 0, []),
  (460, .iload 11, 462, 0, 0, 0, 0, []),
  (462, .invokestatic 19, 465, 19, 3, 0, 0, []),
  (465, .ifCond .ge 8, 468, 473, 0, 0, 0, []),
  (468, .bipush (-2), 470, 0, 0, (-2), 0, []),
  (470, .goto 15, 473, 485, 0, 0, 0, []),
  (473, .aload_n 3, 474, 0, 0, 0, 0, []),
  (474, .bipush 26, 476, 0, 0, 26, 0, []),
  (476, .iaload, 477, 0, 0, 0, 0, []),
  (477, .iconst 1, 478, 0, 0, 1, 0, []),
  (478, .iload 10, 480, 0, 0, 0, 0, []),
  (480, .ishl, 481, 0, 0, 0, 0, []),
  (481, .ior, 482, 0, 0, 0, 0, []),
  (482, .invokestatic 23, 485, 23, 1, 0, 0, []),
  (485, .istore 13, 487, 0, 0, 0, 0, []),
  (487, .aload_n 0, 488, 0, 0, 0, 0, []),
  (488, .iload 10, 490, 0, 0, 0, 0, []),
  (490, .iload 11, 492, 0, 0, 0, 0, []),
  (492, .iload 12, 494, 0, 0, 0, 0, []),
  (494, .invokevirtual 33, 497, 33, 4, 0, 0, [0]),
  (497, .iload 13, 499, 0, 0, 0, 0, []),
  (499, .if_icmp .ne 7, 502, 506, 0, 0, 0, []),
  (502, .iconst 1, 503, 0, 0, 1, 0, []),
  (503, .goto 4, 506, 507, 0, 0, 0, []),
  (506, .iconst 0, 507, 0, 0, 0, 0, []),
  (507, .istore 5, 509, 0, 0, 0, 0, []),
  (509, .aload_n 3, 510, 0, 0, 0, 0, []),
  (510, .bipush 26, 512, 0, 0, 26, 0, []),
  (512, .dup2, 513, 0, 0, 0, 0, []),
  (513, .iaload, 514, 0, 0, 0, 0, []),
  (514, .iload 13, 516, 0, 0, 0, 0, []),
  (516, .ifCond .le 10, 519, 526, 0, 0, 0, []),
  (519, .iconst 1, 520, 0, 0, 1, 0, []),
  (520, .iload 10, 522, 0, 0, 0, 0, []),
  (522, .ishl, 523, 0, 0, 0, 0, []),
  (523, .goto 4, 526, 527, 0, 0, 0, []),
  (526, .iconst 0, 527, 0, 0, 0, 0, []),
  (527, .ior, 528, 0, 0, 0, 0, []),
  (528, .iastore, 529, 0, 0, 0, 0, []),
  (529, .aload_n 3, 530, 0, 0, 0, 0, []),
  (530, .iload 13, 532, 0, 0, 0, 0, []),
  (532, .ifCond .le 11, 535, 543, 0, 0, 0, []),
  (535, .bipush 27, 537, 0, 0, 27, 0, []),
  (537, .iload 10, 539, 0, 0, 0, 0, []),
  (539, .iadd, 540, 0, 0, 0, 0, []),
  (540, .goto 5, 543, 545, 0, 0, 0, []),
  (543, .bipush 50, 545, 0, 0, 50, 0, []),
  (545, .iload 11, 547, 0, 0, 0, 0, []),
  (547, .iastore, 548, 0, 0, 0, 0, []),
  (548, .aload_n 3, 549, 0, 0, 0, 0, []),
  (549, .iload 13, 551, 0, 0, 0, 0, []),
  (551, .ifCond .le 11, 554, 562, 0, 0, 0, []),
  (554, .bipush 35, 556, 0, 0, 35, 0, []),
  (556, .iload 10, 558, 0, 0, 0, 0, []),
  (558, .iadd, 559, 0, 0, 0, 0, []),
  (559, .goto 5, 562, 564, 0, 0, 0, []),
  (562, .bipush 50, 564, 0, 0, 50, 0, []),
  (564, .iload 12, 566, 0, 0, 0, 0, []),
  (566, .iastore, 567, 0, 0, 0, 0, []),
  (567, .iinc 8 1, 570, 0, 0, 1, 0, []),
  (570, .goto (-216), 573, 354, 0, 0, 0, []),
  (573, .aload_n 3, 574, 0, 0, 0, 0, []),
  (574, .bipush 43, 576, 0, 0, 43, 0, []),
  (576, .iload 4, 578, 0, 0, 0, 0, []),
  (578, .bipush 13, 580, 0, 0, 13, 0, []),
  (580, .ishr, 581, 0, 0, 0, 0, []),
  (581, .iload 6, 583, 0, 0, 0, 0, []),
  (583, .invokestatic 15, 586, 15, 2, 0, 0, []),
  (586, .iastore, 587, 0, 0, 0, 0, []),
  (587, .aload_n 3, 588, 0, 0, 0, 0, []),
  (588, .bipush 44, 590, 0, 0, 44, 0, []),
  (590, .aload_n 1, 591, 0, 0, 0, 0, []),
  (591, .bipush 11, 593, 0, 0, 11, 0, []),
  (593, .invokestatic 9, 596, 9, 2, 0, 0, []),
  (596, .aload_n 3, 597, 0, 0, 0, 0, []),
  (597, .bipush 25, 599, 0, 0, 25, 0, []),
  (599, .iaload, 600, 0, 0, 0, 0, []),
  (600, .iand, 601, 0, 0, 0, 0, []),
  (601, .iastore, 602, 0, 0, 0, 0, []),
  (602, .iload 5, 604, 0, 0, 0, 0, []),
  (604, .ifCond .eq 31, 607, 635, 0, 0, 0, []),
  (607, .aload_n 0, 608, 0, 0, 0, 0, []),
  (608, .aload_n 3, 609, 0, 0, 0, 0, []),
  (609, .bipush 43, 611, 0, 0, 43, 0, []),
  (611, .iaload, 612, 0, 0, 0, 0, []),
  (612, .invokevirtual 37, 615, 37, 2, 0, 0, [0]),
  (615, .bipush 7, 617, 0, 0, 7, 0, []),
  (617, .if_icmp .ne 18, 620, 635, 0, 0, 0, []),
  (620, .aload_n 0, 621, 0, 0, 0, 0, []),
  (621, .aload_n 3, 622, 0, 0, 0, 0, []),
  (622, .bipush 44, 624, 0, 0, 44, 0, []),
  (624, .iaload, 625, 0, 0, 0, 0, []),
  (625, .invokevirtual 40, 628, 40, 2, 0, 0, [0]),
  (628, .ifCond .ne 7, 631, 635, 0, 0, 0, []),
  (631, .iconst 1, 632, 0, 0, 1, 0, []),
  (632, .goto 4, 635, 636, 0, 0, 0, []),
  (635, .iconst 0, 636, 0, 0, 0, 0, []),
  (636, .ireturn, 637, 0, 0, 0, 0, [])]
def k_LW_law : List am_E := [
  (21, .aload_n 2, 22, 0, 0, 0, 0, []),
  (22, .aload_n 0, 23, 0, 0, 0, 0, []),
  (23, .iconst 1, 24, 0, 0, 1, 0, []),
  (24, .invokestatic 9, 27, 9, 2, 0, 0, []),
  (27, .invokestatic 132, 30, 132, 2, 0, 0, []),
  (30, .ifCond .eq 49, 33, 79, 0, 0, 0, []),
  (33, .aload_n 1, 34, 0, 0, 0, 0, []),
  (34, .aload_n 0, 35, 0, 0, 0, 0, []),
  (35, .bipush 6, 37, 0, 0, 6, 0, []),
  (37, .aload_n 3, 38, 0, 0, 0, 0, []),
  (38, .invokestatic 136, 41, 136, 4, 0, 0, []),
  (41, .ifCond .eq 38, 44, 79, 0, 0, 0, []),
  (44, .aload_n 2, 45, 0, 0, 0, 0, []),
  (45, .aload_n 0, 46, 0, 0, 0, 0, []),
  (46, .bipush 6, 48, 0, 0, 6, 0, []),
  (48, .aload_n 3, 49, 0, 0, 0, 0, []),
  (49, .invokestatic 136, 52, 136, 4, 0, 0, []),
  (52, .ifCond .eq 27, 55, 79, 0, 0, 0, []),
  (55, .aload_n 2, 56, 0, 0, 0, 0, []),
  (56, .aload_n 0, 57, 0, 0, 0, 0, []),
  (57, .iconst 0, 58, 0, 0, 0, 0, []),
  (58, .invokestatic 9, 61, 9, 2, 0, 0, []),
  (61, .invokestatic 132, 64, 132, 2, 0, 0, []),
  (64, .ifCond .eq 15, 67, 79, 0, 0, 0, []),
  (67, .aload_n 1, 68, 0, 0, 0, 0, []),
  (68, .aload_n 2, 69, 0, 0, 0, 0, []),
  (69, .invokestatic 140, 72, 140, 2, 0, 0, []),
  (72, .ifCond .eq 7, 75, 79, 0, 0, 0, []),
  (75, .iconst 1, 76, 0, 0, 1, 0, []),
  (76, .goto 4, 79, 80, 0, 0, 0, []),
  (79, .iconst 0, 80, 0, 0, 0, 0, []),
  (80, .istore 4, 82, 0, 0, 0, 0, []),
  (82, .iconst 0, 83, 0, 0, 0, 0, []),
  (83, .istore 5, 85, 0, 0, 0, 0, []),
  (85, .iload 5, 87, 0, 0, 0, 0, []),
  (87, .bipush 20, 89, 0, 0, 20, 0, []),
  (89, .if_icmp .ge 66, 92, 155, 0, 0, 0, []),
  (92, .iload 4, 94, 0, 0, 0, 0, []),
  (94, .ifCond .eq 61, 97, 155, 0, 0, 0, []),
  (97, .aload_n 0, 98, 0, 0, 0, 0, []),
  (98, .bipush 12, 100, 0, 0, 12, 0, []),
  (100, .iload 5, 102, 0, 0, 0, 0, []),
  (102, .iadd, 103, 0, 0, 0, 0, []),
  (103, .invokestatic 9, 106, 9, 2, 0, 0, []),
  (106, .istore 6, 108, 0, 0, 0, 0, []),
  (108, .aload_n 1, 109, 0, 0, 0, 0, []),
  (109, .iload 6, 111, 0, 0, 0, 0, []),
  (111, .invokestatic 144, 114, 144, 2, 0, 0, []),
  (114, .aload_n 2, 115, 0, 0, 0, 0, []),
  (115, .iload 6, 117, 0, 0, 0, 0, []),
  (117, .invokestatic 144, 120, 144, 2, 0, 0, []),
  (120, .if_icmp .ne 26, 123, 146, 0, 0, 0, []),
  (123, .aload_n 2, 124, 0, 0, 0, 0, []),
  (124, .iload 6, 126, 0, 0, 0, 0, []),
  (126, .iconst 3, 127, 0, 0, 3, 0, []),
  (127, .ishr, 128, 0, 0, 0, 0, []),
  (128, .invokestatic 132, 131, 132, 2, 0, 0, []),
  (131, .ifCond .eq 15, 134, 146, 0, 0, 0, []),
  (134, .aload_n 1, 135, 0, 0, 0, 0, []),
  (135, .aload_n 2, 136, 0, 0, 0, 0, []),
  (136, .invokestatic 140, 139, 140, 2, 0, 0, []),
  (139, .ifCond .eq 7, 142, 146, 0, 0, 0, []),
  (142, .iconst 1, 143, 0, 0, 1, 0, []),
  (143, .goto 4, 146, 147, 0, 0, 0, []),
  (146, .iconst 0, 147, 0, 0, 0, 0, []),
  (147, .istore 4, 149, 0, 0, 0, 0, []),
  (149, .iinc 5 1, 152, 0, 0, 1, 0, []),
  (152, .goto (-67), 155, 85, 0, 0, 0, []),
  (155, .iload 4, 157, 0, 0, 0, 0, []),
  (157, .ifCond .eq 61, 160, 218, 0, 0, 0, []),
  (160, .aload_n 2, 161, 0, 0, 0, 0, []),
  (161, .invokevirtual 77, 164, 77, 1, 0, 0, [0]),
  (164, .iconst 1, 165, 0, 0, 1, 0, []),
  (165, .if_icmp .ne 53, 168, 218, 0, 0, 0, []),
  (168, .aload_n 2, 169, 0, 0, 0, 0, []),
  (169, .iconst 2, 170, 0, 0, 2, 0, []),
  (170, .invokevirtual 37, 173, 37, 2, 0, 0, [0]),
  (173, .ifCond .lt 45, 176, 218, 0, 0, 0, []),
  (176, .aload_n 2, 177, 0, 0, 0, 0, []),
  (177, .iconst 0, 178, 0, 0, 0, 0, []),
  (178, .invokevirtual 40, 181, 40, 2, 0, 0, [0]),
  (181, .ifCond .lt 37, 184, 218, 0, 0, 0, []),
  (184, .aload_n 2, 185, 0, 0, 0, 0, []),
  (185, .iconst 1, 186, 0, 0, 1, 0, []),
  (186, .invokevirtual 54, 189, 54, 2, 0, 0, [0]),
  (189, .bipush (-2), 191, 0, 0, (-2), 0, []),
  (191, .if_icmp .lt 27, 194, 218, 0, 0, 0, []),
  (194, .aload_n 2, 195, 0, 0, 0, 0, []),
  (195, .iconst 0, 196, 0, 0, 0, 0, []),
  (196, .iconst 5, 197, 0, 0, 5, 0, []),
  (197, .iconst 1, 198, 0, 0, 1, 0, []),
  (198, .invokevirtual 27, 201, 27, 4, 0, 0, [0]),
  (201, .bipush (-3), 203, 0, 0, (-3), 0, []),
  (203, .if_icmp .lt 15, 206, 218, 0, 0, 0, []),
  (206, .aload_n 2, 207, 0, 0, 0, 0, []),
  (207, .invokevirtual 74, 210, 74, 1, 0, 0, [0]),
  (210, .iconst 1, 211, 0, 0, 1, 0, []),
  (211, .if_icmp .ne 7, 214, 218, 0, 0, 0, []),
  (214, .iconst 1, 215, 0, 0, 1, 0, []),
  (215, .goto 4, 218, 219, 0, 0, 0, []),
  (218, .iconst 0, 219, 0, 0, 0, 0, []),
  (219, .istore 4, 221, 0, 0, 0, 0, []),
  (221, .iload 4, 223, 0, 0, 0, 0, []),
  (223, .ifCond .eq 15, 226, 238, 0, 0, 0, []),
  (226, .aload_n 1, 227, 0, 0, 0, 0, []),
  (227, .aload_n 2, 228, 0, 0, 0, 0, []),
  (228, .invokestatic 140, 231, 140, 2, 0, 0, []),
  (231, .ifCond .eq 7, 234, 238, 0, 0, 0, []),
  (234, .iconst 1, 235, 0, 0, 1, 0, []),
  (235, .goto 4, 238, 239, 0, 0, 0, []),
  (238, .iconst 0, 239, 0, 0, 0, 0, [])]
/-- v without its sign, modulo n -/
def nl (v : Int32) (n : Nat) : Nat := v.toBitVec.toNat % 2 ^ 31 % n
theorem nl_lt (v : Int32) {n : Nat} (h : 0 < n) : nl v n < n := Nat.mod_lt _ h
theorem nl_I (v : Int32) {n : Nat} (h : 0 < n) (hn : n < 2 ^ 31) : (v &&& 2147483647) - (v &&& 2147483647) / nI n * nI n = nI (nl v n) := by
  rw [pk_and v 31 (by decide), pk_rem (Nat.mod_lt _ (by omega)) h hn]
  rfl
def T_LW_low : am_Sp := fun vs I L post => match vs with
  | [.int v, .int n] => ∃ N : Nat, n = nI N ∧ 0 < N ∧ N < 2 ^ 31 ∧ post (some (.int (nI (nl v N)))) I L
  | _ => False
abbrev sp_LW_low : Nat → am_Sp := fun _ => am_no
theorem ok_LW_low {S : List am_C} : am_Ok S sp_LW_low false k_LW_low 2 T_LW_low := by
  intro vs I L post h
  unfold T_LW_low at h
  split at h
  · rename_i v n
    obtain ⟨N, rfl, h0, h1, h⟩ := h
    rw [← nl_I v h0 h1] at h
    refine ⟨Nat.le_of_ble_eq_true rfl, fun G hG => ?_⟩
    exact hG [] 50 0 _ _ _ _ (And.intro (nI_ne0 h0 h1) h)
  · exact h.elim
def T_LW_bits : am_Sp := fun vs I L post => match vs with
  | [.int s] => ∃ m : Nat, s = nI m ∧ post (some (.int (nI (g_pc m 12)))) I L
  | _ => False
abbrev sp_LW_bits : Nat → am_Sp := fun _ => am_no
theorem ok_LW_bits {S : List am_C} : am_Ok S sp_LW_bits false k_LW_bits 3 T_LW_bits := by
  intro vs I L post h
  unfold T_LW_bits at h
  split at h
  · rename_i s
    obtain ⟨m, rfl, h⟩ := h
    refine ⟨Nat.le_of_ble_eq_true rfl, fun G hG => ?_⟩
    have loop : ∀ n k : Nat, 12 - k = n → k ≤ 12 → G 4 [some (.int (nI m)), some (.int (nI (g_pc m k))), some (.int (nI k))] [] I L := by
      intro n
      induction n with
      | zero =>
        intro k hn hk
        have : k = 12 := by omega
        subst this
        exact hG [(4, [])] 50 4 _ _ _ _ (And.intro (fun _ => h) (fun z => absurd z (by decide)))
      | succ n ih =>
        intro k hn hk
        refine hG [(4, [])] 50 4 _ _ _ _ (And.intro (fun z => absurd (am_lt (show k < 12 by omega) rfl) z) (fun _ => ?_))
        show G 4 [some (.int (nI m)), some (.int (nI (g_pc m k) + ((nI m >>> (nI k &&& 31)) &&& 1))), some (.int (nI k + 1))] [] I L
        have e : nI (g_pc m k) + ((nI m >>> (nI k &&& 31)) &&& 1) = nI (g_pc m (k + 1)) := by
          rw [has_eq _ (by omega), am_bc (Q := m.testBit k = true) (by rw [bt_nI _ _ (by omega)])]
          simp only [g_pc]
          unfold am_b
          split
          · exact nI_1 _
          · show nI (g_pc m k) + nI 0 = _
            rw [nI_add]
        rw [e, nI_1]
        exact ih (k + 1) (by omega) (by omega)
    exact hG [(4, [])] 50 0 _ _ _ _ (loop 12 0 (by omega) (by omega))
  · exact h.elim
/-- v at place 35 holds the ways of G -/
def VW (I : am_I) (G : Nat → Nat) : Prop := G 0 ≤ 12 ∧ I 35 0 = nI (G 0) ∧ ∀ k, k < G 0 → I 35 (1 + k) = nI (G (1 + k)) ∧ I 35 (13 + k) = nI (G (13 + k)) ∧ G (1 + k) < 8 ∧ G (13 + k) < 8
def T_LW_joined : am_Sp := fun vs I L post => match vs with
  | [.ref v, .int a, .int b] => v = 35 ∧ ∃ (G : Nat → Nat) (a' b' : Nat), VW I G ∧ a = nI a' ∧ b = nI b' ∧ a' < 8 ∧ b' < 8 ∧ post (some (.int (nI (g_wy G a' b') - 1))) I L
  | _ => False
abbrev sp_LW_joined : Nat → am_Sp := fun _ => am_no
theorem ok_LW_joined : am_Ok am_S3 sp_LW_joined false k_LW_joined 5 T_LW_joined := by
  intro vs I L post h
  unfold T_LW_joined at h
  split at h
  · rename_i v a b
    obtain ⟨rfl, W, a, b, ⟨h12, h0, hw⟩, rfl, rfl, ha, hb, h⟩ := h
    refine ⟨Nat.le_of_ble_eq_true rfl, fun G hG => ?_⟩
    have loop : ∀ n k : Nat, W 0 - k = n → k ≤ W 0 → G 5 [some (.ref 35), some (.int (nI a)), some (.int (nI b)), some (.int (nI (g_w W a b k) - 1)), some (.int (nI k))] [] I L := by
      intro n
      induction n with
      | zero =>
        intro k hn hk
        have : k = W 0 := by omega
        subst this
        refine hG [(5, [])] 50 5 _ _ _ _ (And.intro (am_vin (show 0 < 51 by omega) rfl) ?_)
        exact And.intro (fun _ => h) (fun z => absurd (show nI (W 0) < I 35 0 from z) (by rw [h0]; exact fun q => Int32.lt_irrefl q))
      | succ n ih =>
        intro k hn hk
        have hkW : k < W 0 := by omega
        have hk12 : k < 12 := by omega
        obtain ⟨w1, w2, w3, w4⟩ := hw k hkW
        have e1 : (1 : Int32) + nI k = nI (1 + k) := by rw [show (1 : Int32) = nI 1 from rfl, nI_add]
        have e13 : (13 : Int32) + nI k = nI (13 + k) := by rw [show (13 : Int32) = nI 13 from rfl, nI_add]
        have i1 : vp_in ((1 : Int32) + nI k) 51 := by rw [e1]; exact am_vin (by omega) rfl
        have i13 : vp_in ((13 : Int32) + nI k) 51 := by rw [e13]; exact am_vin (by omega) rfl
        have j1 : I 35 ((1 : Int32) + nI k).toNatClampNeg = nI (W (1 + k)) := by rw [e1, nI_clamp (by omega), w1]
        have j13 : I 35 ((13 : Int32) + nI k).toNatClampNeg = nI (W (13 + k)) := by rw [e13, nI_clamp (by omega), w2]
        have fin : ∀ r : Int32, r = nI (g_w W a b (k + 1)) - 1 → G 61 [some (.ref 35), some (.int (nI a)), some (.int (nI b)), some (.int (nI (g_w W a b k) - 1)), some (.int (nI k))] [.int r] I L := by
          intro r hr
          subst hr
          refine hG [(5, [])] 50 61 _ _ _ _ ?_
          show G 5 [some (.ref 35), some (.int (nI a)), some (.int (nI b)), some (.int (nI (g_w W a b (k + 1)) - 1)), some (.int (nI k + 1))] [] I L
          rw [nI_1]
          exact ih (k + 1) (by omega) (by omega)
        have q55 : g_j W a b k = true → G 55 [some (.ref 35), some (.int (nI a)), some (.int (nI b)), some (.int (nI (g_w W a b k) - 1)), some (.int (nI k))] [] I L := fun hj =>
          hG [(61, [])] 50 55 _ _ _ _ (fin _ (by simp only [g_w, hj, if_true]; exact (nI_pred k).symm))
        have q60 : g_j W a b k = false → G 60 [some (.ref 35), some (.int (nI a)), some (.int (nI b)), some (.int (nI (g_w W a b k) - 1)), some (.int (nI k))] [] I L := fun hj =>
          hG [(61, [])] 50 60 _ _ _ _ (fin _ (by simp only [g_w, hj, Bool.false_eq_true, if_false]))
        have q34 : ¬ (W (1 + k) = a ∧ W (13 + k) = b) → G 34 [some (.ref 35), some (.int (nI a)), some (.int (nI b)), some (.int (nI (g_w W a b k) - 1)), some (.int (nI k))] [] I L := fun hn1 => by
          refine hG [(55, []), (60, [])] 50 34 _ _ _ _ (And.intro i1 (And.intro (fun z => ?_) (fun z => And.intro i13 (And.intro (fun y => ?_) (fun y => ?_)))))
          · refine q60 ?_
            rw [j1, nI_eq (by omega) (by omega)] at z
            simp only [g_j, Bool.or_eq_false_iff, Bool.and_eq_false_iff, decide_eq_false_iff_not]
            omega
          · refine q60 ?_
            rw [j13, nI_eq (by omega) (by omega)] at y
            simp only [g_j, Bool.or_eq_false_iff, Bool.and_eq_false_iff, decide_eq_false_iff_not]
            omega
          · refine q55 ?_
            rw [j1, nI_eq (by omega) (by omega)] at z
            rw [j13, nI_eq (by omega) (by omega)] at y
            simp only [g_j, Bool.or_eq_true, Bool.and_eq_true, decide_eq_true_eq]
            omega
        refine hG [(34, []), (55, [])] 50 5 _ _ _ _ (And.intro (am_vin (show 0 < 51 by omega) rfl) (And.intro (fun z => ?_) (fun _ => And.intro i1 (And.intro (fun z => ?_) (fun z => And.intro i13 (And.intro (fun y => ?_) (fun y => ?_)))))))
        · exact absurd (show nI k < I 35 0 by rw [h0]; exact nI_lt hkW (by omega)) z
        · refine q34 ?_
          rw [j1, nI_eq (by omega) (by omega)] at z
          omega
        · refine q55 ?_
          rw [j1, nI_eq (by omega) (by omega)] at z
          rw [j13, nI_eq (by omega) (by omega)] at y
          simp only [g_j, Bool.or_eq_true, Bool.and_eq_true, decide_eq_true_eq]
          omega
        · refine q34 ?_
          rw [j13, nI_eq (by omega) (by omega)] at y
          omega
    refine hG [(5, [])] 50 0 _ _ _ _ ?_
    exact loop (W 0) 0 (by omega) (by omega)
  · exact h.elim
end
section
/-! THE LAW: act -/
def o_act0 (A : am_A) (x : Int32) : Int32 × am_A := o_way A (nI (nl (x >>> ((4 : Int32) &&& 31)) 9)) (nI (nl (x >>> ((8 : Int32) &&& 31)) 8)) (if (x >>> ((12 : Int32) &&& 31)) &&& 1 = 1 then 1 else 0)
def o_act1 (A : am_A) (x : Int32) : Int32 × am_A := o_way A (nI (nl (x >>> ((4 : Int32) &&& 31)) 9)) (nI (nl (x >>> ((8 : Int32) &&& 31)) 8)) (if (x >>> ((12 : Int32) &&& 31)) &&& 1 = 1 then 1 else 0)
def o_act2 (A : am_A) (x : Int32) : Int32 × am_A := o_stone A (nI (nl (x >>> ((4 : Int32) &&& 31)) 9)) (nI (nl (x >>> ((8 : Int32) &&& 31)) 8)) (nI (nl (x >>> ((12 : Int32) &&& 31)) 8))
def o_act3 (A : am_A) (x : Int32) : Int32 × am_A := o_stone A (nI (nl (x >>> ((4 : Int32) &&& 31)) 9)) (nI (nl (x >>> ((8 : Int32) &&& 31)) 8)) (nI (nl (x >>> ((12 : Int32) &&& 31)) 8))
def o_act4 (A : am_A) (x : Int32) : Int32 × am_A := o_strike A (nI (nl (x >>> ((4 : Int32) &&& 31)) 9))
def o_act5 (A : am_A) (x : Int32) : Int32 × am_A := o_home A (nI (nl (x >>> ((4 : Int32) &&& 31)) 9))
def o_act6 (A : am_A) (x : Int32) : Int32 × am_A := o_snow A (if (x >>> ((12 : Int32) &&& 31)) &&& 1 = 0 then (o_count A 1).1 &&& (x >>> ((13 : Int32) &&& 31)) else (nI (nl (x >>> ((4 : Int32) &&& 31)) 9)))
def o_act7 (A : am_A) (x : Int32) : Int32 × am_A := o_snow A (if (x >>> ((12 : Int32) &&& 31)) &&& 1 = 0 then (o_count A 1).1 &&& (x >>> ((13 : Int32) &&& 31)) else (nI (nl (x >>> ((4 : Int32) &&& 31)) 9)))
def o_act8 (A : am_A) (x : Int32) : Int32 × am_A := o_type A (3472626246716178220 + (((nI (nl (x >>> ((8 : Int32) &&& 31)) 8)) - (nI (nl (x >>> ((8 : Int32) &&& 31)) 8)) / 3 * 3).toInt64 <<< ((24 : Int32).toInt64 &&& 63))) 8
def o_act9 (A : am_A) (x : Int32) : Int32 × am_A := o_type A (219968975670 + ((nI (nl (x >>> ((8 : Int32) &&& 31)) 8)) - (nI (nl (x >>> ((8 : Int32) &&& 31)) 8)) / 3 * 3).toInt64) 5
def o_act10 (A : am_A) (x : Int32) : Int32 × am_A := (if (x >>> ((12 : Int32) &&& 31)) &&& 1 = 0 then o_pass A (fun _ => 0) else o_type A 59 1)
def o_act11 (A : am_A) (x : Int32) : Int32 × am_A := (if (x >>> ((12 : Int32) &&& 31)) &&& 3 = 0 then o_restore A else o_image A)
def o_act12 (A : am_A) (x : Int32) : Int32 × am_A := o_sheet A ((nI (nl (x >>> ((4 : Int32) &&& 31)) 9)) - (nI (nl (x >>> ((4 : Int32) &&& 31)) 9)) / 5 * 5) ((nI (nl (x >>> ((8 : Int32) &&& 31)) 8)) - (nI (nl (x >>> ((8 : Int32) &&& 31)) 8)) / 3 * 3) (3 * (nI (nl (x >>> ((4 : Int32) &&& 31)) 9)))
def o_act13 (A : am_A) (x : Int32) : Int32 × am_A := o_film A ((nI (nl (x >>> ((4 : Int32) &&& 31)) 9)) - (nI (nl (x >>> ((4 : Int32) &&& 31)) 9)) / 5 * 5) (nI (nl (x >>> ((8 : Int32) &&& 31)) 8)) ((nI (nl (x >>> ((4 : Int32) &&& 31)) 9)) - (nI (nl (x >>> ((4 : Int32) &&& 31)) 9)) / 4 * 4) ((nI (nl (x >>> ((8 : Int32) &&& 31)) 8)) - (nI (nl (x >>> ((8 : Int32) &&& 31)) 8)) / 3 * 3) 1 (1 + (nI (nl (x >>> ((8 : Int32) &&& 31)) 8)))
def o_act14 (A : am_A) (x : Int32) : Int32 × am_A := o_track A ((nI (nl (x >>> ((4 : Int32) &&& 31)) 9)) - (nI (nl (x >>> ((4 : Int32) &&& 31)) 9)) / 4 * 4) (nI (nl (x >>> ((8 : Int32) &&& 31)) 8)) ((nI (nl (x >>> ((8 : Int32) &&& 31)) 8)) - (nI (nl (x >>> ((8 : Int32) &&& 31)) 8)) / 4 * 4) ((nI (nl (x >>> ((4 : Int32) &&& 31)) 9)) - (nI (nl (x >>> ((4 : Int32) &&& 31)) 9)) / 3 * 3) 0 (1 + (nI (nl (x >>> ((8 : Int32) &&& 31)) 8))) 0
def o_act15 (A : am_A) (x : Int32) : Int32 × am_A := o_copy A ((nI (nl (x >>> ((4 : Int32) &&& 31)) 9)) - (nI (nl (x >>> ((4 : Int32) &&& 31)) 9)) / 4 * 4) (nI (nl (x >>> ((8 : Int32) &&& 31)) 8)) ((nI (nl (x >>> ((8 : Int32) &&& 31)) 8)) - (nI (nl (x >>> ((8 : Int32) &&& 31)) 8)) / 4 * 4) 0 3
def o_act (A : am_A) (x : Int32) : Int32 × am_A := if x &&& 15 = Int32.ofNat 0 then o_act0 A x else if x &&& 15 = Int32.ofNat 1 then o_act1 A x else if x &&& 15 = Int32.ofNat 2 then o_act2 A x else if x &&& 15 = Int32.ofNat 3 then o_act3 A x else if x &&& 15 = Int32.ofNat 4 then o_act4 A x else if x &&& 15 = Int32.ofNat 5 then o_act5 A x else if x &&& 15 = Int32.ofNat 6 then o_act6 A x else if x &&& 15 = Int32.ofNat 7 then o_act7 A x else if x &&& 15 = Int32.ofNat 8 then o_act8 A x else if x &&& 15 = Int32.ofNat 9 then o_act9 A x else if x &&& 15 = Int32.ofNat 10 then o_act10 A x else if x &&& 15 = Int32.ofNat 11 then o_act11 A x else if x &&& 15 = Int32.ofNat 12 then o_act12 A x else if x &&& 15 = Int32.ofNat 13 then o_act13 A x else if x &&& 15 = Int32.ofNat 14 then o_act14 A x else o_act15 A x
theorem o_count_2 (A : am_A) (x : Int32) : (o_count A x).2 = A := rfl
def T_LW_act : am_Sp := fun vs I L post => match vs with
  | [.ref o, .int x] => o = 0 ∧ ∃ A, CR I L A ∧ ∀ (I2 : am_I) (L2 : am_J), CR I2 L2 (o_act A x).2 → post (some (.int (o_act A x).1)) I2 L2
  | _ => False
def sp_LW_act : Nat → am_Sp := fun i => match i with
  | 15 => T_LW_low
  | 27 => T_RP_way
  | 33 => T_RP_stone
  | 37 => T_RP_home
  | 40 => T_RP_snow
  | 54 => T_RP_strike
  | 57 => T_RP_count
  | 62 => T_RP_type
  | 68 => T_RP_pass
  | 74 => T_RP_restore
  | 77 => T_RP_image
  | 80 => T_RP_sheet
  | 83 => T_RP_film
  | 87 => T_RP_track
  | 91 => T_RP_copy
  | _ => am_no
set_option maxRecDepth 100000 in
set_option maxHeartbeats 4000000 in
theorem ok_act0 {post : am_Po} {G : am_G} (hG : ∀ (cuts : List (Nat × List Nat)) (n pc : Nat) (ls : am_Lv) (st : List Value) (I : am_I) (L : am_J), am_ev am_SX sp_LW_act false post k_LW_act cuts G n pc ls st I L → G pc ls st I L) {x : Int32} {I : am_I} {L : am_J} {A : am_A} (hC : CR I L A) (h : ∀ (I2 : am_I) (L2 : am_J), CR I2 L2 (o_act0 A x).2 → post (some (.int (o_act0 A x).1)) I2 L2) : G 96 [some (.ref 0), some (.int x), some (.int (nI (nl (x >>> ((4 : Int32) &&& 31)) 9))), some (.int (nI (nl (x >>> ((8 : Int32) &&& 31)) 8)))] [] I L := by
    unfold o_act0 at h
    by_cases hy : (x >>> ((12 : Int32) &&& 31)) &&& 1 = 1
    · rw [if_pos hy] at h
      exact hG [] 60 96 _ _ _ _ (am_nf hy (And.intro rfl (Exists.intro A (And.intro hC (fun I2 L2 h2 => h I2 L2 h2)))))
    · rw [if_neg hy] at h
      exact hG [] 60 96 _ _ _ _ (am_nt hy (And.intro rfl (Exists.intro A (And.intro hC (fun I2 L2 h2 => h I2 L2 h2)))))
set_option maxRecDepth 100000 in
set_option maxHeartbeats 4000000 in
theorem ok_act1 {post : am_Po} {G : am_G} (hG : ∀ (cuts : List (Nat × List Nat)) (n pc : Nat) (ls : am_Lv) (st : List Value) (I : am_I) (L : am_J), am_ev am_SX sp_LW_act false post k_LW_act cuts G n pc ls st I L → G pc ls st I L) {x : Int32} {I : am_I} {L : am_J} {A : am_A} (hC : CR I L A) (h : ∀ (I2 : am_I) (L2 : am_J), CR I2 L2 (o_act1 A x).2 → post (some (.int (o_act1 A x).1)) I2 L2) : G 96 [some (.ref 0), some (.int x), some (.int (nI (nl (x >>> ((4 : Int32) &&& 31)) 9))), some (.int (nI (nl (x >>> ((8 : Int32) &&& 31)) 8)))] [] I L := by
    unfold o_act1 at h
    by_cases hy : (x >>> ((12 : Int32) &&& 31)) &&& 1 = 1
    · rw [if_pos hy] at h
      exact hG [] 60 96 _ _ _ _ (am_nf hy (And.intro rfl (Exists.intro A (And.intro hC (fun I2 L2 h2 => h I2 L2 h2)))))
    · rw [if_neg hy] at h
      exact hG [] 60 96 _ _ _ _ (am_nt hy (And.intro rfl (Exists.intro A (And.intro hC (fun I2 L2 h2 => h I2 L2 h2)))))
set_option maxRecDepth 100000 in
set_option maxHeartbeats 4000000 in
theorem ok_act2 {post : am_Po} {G : am_G} (hG : ∀ (cuts : List (Nat × List Nat)) (n pc : Nat) (ls : am_Lv) (st : List Value) (I : am_I) (L : am_J), am_ev am_SX sp_LW_act false post k_LW_act cuts G n pc ls st I L → G pc ls st I L) {x : Int32} {I : am_I} {L : am_J} {A : am_A} (hC : CR I L A) (h : ∀ (I2 : am_I) (L2 : am_J), CR I2 L2 (o_act2 A x).2 → post (some (.int (o_act2 A x).1)) I2 L2) : G 118 [some (.ref 0), some (.int x), some (.int (nI (nl (x >>> ((4 : Int32) &&& 31)) 9))), some (.int (nI (nl (x >>> ((8 : Int32) &&& 31)) 8)))] [] I L := by
    unfold o_act2 at h
    exact hG [] 60 118 _ _ _ _ (Exists.intro 8 (And.intro rfl (And.intro (by omega) (And.intro (by omega) (And.intro rfl (Exists.intro A (And.intro hC (fun I2 L2 h2 => h I2 L2 h2))))))))
set_option maxRecDepth 100000 in
set_option maxHeartbeats 4000000 in
theorem ok_act3 {post : am_Po} {G : am_G} (hG : ∀ (cuts : List (Nat × List Nat)) (n pc : Nat) (ls : am_Lv) (st : List Value) (I : am_I) (L : am_J), am_ev am_SX sp_LW_act false post k_LW_act cuts G n pc ls st I L → G pc ls st I L) {x : Int32} {I : am_I} {L : am_J} {A : am_A} (hC : CR I L A) (h : ∀ (I2 : am_I) (L2 : am_J), CR I2 L2 (o_act3 A x).2 → post (some (.int (o_act3 A x).1)) I2 L2) : G 118 [some (.ref 0), some (.int x), some (.int (nI (nl (x >>> ((4 : Int32) &&& 31)) 9))), some (.int (nI (nl (x >>> ((8 : Int32) &&& 31)) 8)))] [] I L := by
    unfold o_act3 at h
    exact hG [] 60 118 _ _ _ _ (Exists.intro 8 (And.intro rfl (And.intro (by omega) (And.intro (by omega) (And.intro rfl (Exists.intro A (And.intro hC (fun I2 L2 h2 => h I2 L2 h2))))))))
set_option maxRecDepth 100000 in
set_option maxHeartbeats 4000000 in
theorem ok_act4 {post : am_Po} {G : am_G} (hG : ∀ (cuts : List (Nat × List Nat)) (n pc : Nat) (ls : am_Lv) (st : List Value) (I : am_I) (L : am_J), am_ev am_SX sp_LW_act false post k_LW_act cuts G n pc ls st I L → G pc ls st I L) {x : Int32} {I : am_I} {L : am_J} {A : am_A} (hC : CR I L A) (h : ∀ (I2 : am_I) (L2 : am_J), CR I2 L2 (o_act4 A x).2 → post (some (.int (o_act4 A x).1)) I2 L2) : G 134 [some (.ref 0), some (.int x), some (.int (nI (nl (x >>> ((4 : Int32) &&& 31)) 9))), some (.int (nI (nl (x >>> ((8 : Int32) &&& 31)) 8)))] [] I L := by
    unfold o_act4 at h
    exact hG [] 60 134 _ _ _ _ (And.intro rfl (Exists.intro A (And.intro hC (fun I2 L2 h2 => h I2 L2 h2))))
set_option maxRecDepth 100000 in
set_option maxHeartbeats 4000000 in
theorem ok_act5 {post : am_Po} {G : am_G} (hG : ∀ (cuts : List (Nat × List Nat)) (n pc : Nat) (ls : am_Lv) (st : List Value) (I : am_I) (L : am_J), am_ev am_SX sp_LW_act false post k_LW_act cuts G n pc ls st I L → G pc ls st I L) {x : Int32} {I : am_I} {L : am_J} {A : am_A} (hC : CR I L A) (h : ∀ (I2 : am_I) (L2 : am_J), CR I2 L2 (o_act5 A x).2 → post (some (.int (o_act5 A x).1)) I2 L2) : G 140 [some (.ref 0), some (.int x), some (.int (nI (nl (x >>> ((4 : Int32) &&& 31)) 9))), some (.int (nI (nl (x >>> ((8 : Int32) &&& 31)) 8)))] [] I L := by
    unfold o_act5 at h
    exact hG [] 60 140 _ _ _ _ (And.intro rfl (Exists.intro A (And.intro hC (fun I2 L2 h2 => h I2 L2 h2))))
set_option maxRecDepth 100000 in
set_option maxHeartbeats 4000000 in
theorem ok_act6 {post : am_Po} {G : am_G} (hG : ∀ (cuts : List (Nat × List Nat)) (n pc : Nat) (ls : am_Lv) (st : List Value) (I : am_I) (L : am_J), am_ev am_SX sp_LW_act false post k_LW_act cuts G n pc ls st I L → G pc ls st I L) {x : Int32} {I : am_I} {L : am_J} {A : am_A} (hC : CR I L A) (h : ∀ (I2 : am_I) (L2 : am_J), CR I2 L2 (o_act6 A x).2 → post (some (.int (o_act6 A x).1)) I2 L2) : G 146 [some (.ref 0), some (.int x), some (.int (nI (nl (x >>> ((4 : Int32) &&& 31)) 9))), some (.int (nI (nl (x >>> ((8 : Int32) &&& 31)) 8)))] [] I L := by
    unfold o_act6 at h
    by_cases hy : (x >>> ((12 : Int32) &&& 31)) &&& 1 = 0
    · rw [if_pos hy] at h
      exact hG [] 60 146 _ _ _ _ (am_nf hy (And.intro rfl (Exists.intro A (And.intro hC (fun I1 L1 h1 => And.intro rfl (Exists.intro A (And.intro h1 (fun I2 L2 h2 => h I2 L2 h2))))))))
    · rw [if_neg hy] at h
      exact hG [] 60 146 _ _ _ _ (am_nt hy (And.intro rfl (Exists.intro A (And.intro hC (fun I2 L2 h2 => h I2 L2 h2)))))
set_option maxRecDepth 100000 in
set_option maxHeartbeats 4000000 in
theorem ok_act7 {post : am_Po} {G : am_G} (hG : ∀ (cuts : List (Nat × List Nat)) (n pc : Nat) (ls : am_Lv) (st : List Value) (I : am_I) (L : am_J), am_ev am_SX sp_LW_act false post k_LW_act cuts G n pc ls st I L → G pc ls st I L) {x : Int32} {I : am_I} {L : am_J} {A : am_A} (hC : CR I L A) (h : ∀ (I2 : am_I) (L2 : am_J), CR I2 L2 (o_act7 A x).2 → post (some (.int (o_act7 A x).1)) I2 L2) : G 146 [some (.ref 0), some (.int x), some (.int (nI (nl (x >>> ((4 : Int32) &&& 31)) 9))), some (.int (nI (nl (x >>> ((8 : Int32) &&& 31)) 8)))] [] I L := by
    unfold o_act7 at h
    by_cases hy : (x >>> ((12 : Int32) &&& 31)) &&& 1 = 0
    · rw [if_pos hy] at h
      exact hG [] 60 146 _ _ _ _ (am_nf hy (And.intro rfl (Exists.intro A (And.intro hC (fun I1 L1 h1 => And.intro rfl (Exists.intro A (And.intro h1 (fun I2 L2 h2 => h I2 L2 h2))))))))
    · rw [if_neg hy] at h
      exact hG [] 60 146 _ _ _ _ (am_nt hy (And.intro rfl (Exists.intro A (And.intro hC (fun I2 L2 h2 => h I2 L2 h2)))))
set_option maxRecDepth 100000 in
set_option maxHeartbeats 4000000 in
theorem ok_act8 {post : am_Po} {G : am_G} (hG : ∀ (cuts : List (Nat × List Nat)) (n pc : Nat) (ls : am_Lv) (st : List Value) (I : am_I) (L : am_J), am_ev am_SX sp_LW_act false post k_LW_act cuts G n pc ls st I L → G pc ls st I L) {x : Int32} {I : am_I} {L : am_J} {A : am_A} (hC : CR I L A) (h : ∀ (I2 : am_I) (L2 : am_J), CR I2 L2 (o_act8 A x).2 → post (some (.int (o_act8 A x).1)) I2 L2) : G 174 [some (.ref 0), some (.int x), some (.int (nI (nl (x >>> ((4 : Int32) &&& 31)) 9))), some (.int (nI (nl (x >>> ((8 : Int32) &&& 31)) 8)))] [] I L := by
    unfold o_act8 at h
    exact hG [] 60 174 _ _ _ _ (And.intro (show ¬ (3 : Int32) = 0 by decide) (And.intro rfl (Exists.intro A (And.intro hC (fun I2 L2 h2 => h I2 L2 h2)))))
set_option maxRecDepth 100000 in
set_option maxHeartbeats 4000000 in
theorem ok_act9 {post : am_Po} {G : am_G} (hG : ∀ (cuts : List (Nat × List Nat)) (n pc : Nat) (ls : am_Lv) (st : List Value) (I : am_I) (L : am_J), am_ev am_SX sp_LW_act false post k_LW_act cuts G n pc ls st I L → G pc ls st I L) {x : Int32} {I : am_I} {L : am_J} {A : am_A} (hC : CR I L A) (h : ∀ (I2 : am_I) (L2 : am_J), CR I2 L2 (o_act9 A x).2 → post (some (.int (o_act9 A x).1)) I2 L2) : G 192 [some (.ref 0), some (.int x), some (.int (nI (nl (x >>> ((4 : Int32) &&& 31)) 9))), some (.int (nI (nl (x >>> ((8 : Int32) &&& 31)) 8)))] [] I L := by
    unfold o_act9 at h
    exact hG [] 60 192 _ _ _ _ (And.intro (show ¬ (3 : Int32) = 0 by decide) (And.intro rfl (Exists.intro A (And.intro hC (fun I2 L2 h2 => h I2 L2 h2)))))
set_option maxRecDepth 100000 in
set_option maxHeartbeats 4000000 in
theorem ok_act10 {post : am_Po} {G : am_G} (hG : ∀ (cuts : List (Nat × List Nat)) (n pc : Nat) (ls : am_Lv) (st : List Value) (I : am_I) (L : am_J), am_ev am_SX sp_LW_act false post k_LW_act cuts G n pc ls st I L → G pc ls st I L) {x : Int32} {I : am_I} {L : am_J} {A : am_A} (hC : CR I L A) (h : ∀ (I2 : am_I) (L2 : am_J), CR I2 L2 (o_act10 A x).2 → post (some (.int (o_act10 A x).1)) I2 L2) : G 206 [some (.ref 0), some (.int x), some (.int (nI (nl (x >>> ((4 : Int32) &&& 31)) 9))), some (.int (nI (nl (x >>> ((8 : Int32) &&& 31)) 8)))] [] I L := by
    unfold o_act10 at h
    by_cases hy : (x >>> ((12 : Int32) &&& 31)) &&& 1 = 0
    · rw [if_pos hy] at h
      exact hG [] 60 206 _ _ _ _ (am_nf hy (And.intro rfl (Exists.intro A (And.intro hC (fun I2 L2 h2 => h I2 L2 (h2 _))))))
    · rw [if_neg hy] at h
      exact hG [] 60 206 _ _ _ _ (am_nt hy (And.intro rfl (Exists.intro A (And.intro hC (fun I2 L2 h2 => h I2 L2 h2)))))
set_option maxRecDepth 100000 in
set_option maxHeartbeats 4000000 in
theorem ok_act11 {post : am_Po} {G : am_G} (hG : ∀ (cuts : List (Nat × List Nat)) (n pc : Nat) (ls : am_Lv) (st : List Value) (I : am_I) (L : am_J), am_ev am_SX sp_LW_act false post k_LW_act cuts G n pc ls st I L → G pc ls st I L) {x : Int32} {I : am_I} {L : am_J} {A : am_A} (hC : CR I L A) (h : ∀ (I2 : am_I) (L2 : am_J), CR I2 L2 (o_act11 A x).2 → post (some (.int (o_act11 A x).1)) I2 L2) : G 231 [some (.ref 0), some (.int x), some (.int (nI (nl (x >>> ((4 : Int32) &&& 31)) 9))), some (.int (nI (nl (x >>> ((8 : Int32) &&& 31)) 8)))] [] I L := by
    unfold o_act11 at h
    by_cases hy : (x >>> ((12 : Int32) &&& 31)) &&& 3 = 0
    · rw [if_pos hy] at h
      exact hG [] 60 231 _ _ _ _ (am_nf hy (And.intro rfl (Exists.intro A (And.intro hC (fun I2 L2 h2 => h I2 L2 h2)))))
    · rw [if_neg hy] at h
      exact hG [] 60 231 _ _ _ _ (am_nt hy (And.intro rfl (Exists.intro A (And.intro hC (fun I2 L2 h2 => h I2 L2 h2)))))
set_option maxRecDepth 100000 in
set_option maxHeartbeats 4000000 in
theorem ok_act12 {post : am_Po} {G : am_G} (hG : ∀ (cuts : List (Nat × List Nat)) (n pc : Nat) (ls : am_Lv) (st : List Value) (I : am_I) (L : am_J), am_ev am_SX sp_LW_act false post k_LW_act cuts G n pc ls st I L → G pc ls st I L) {x : Int32} {I : am_I} {L : am_J} {A : am_A} (hC : CR I L A) (h : ∀ (I2 : am_I) (L2 : am_J), CR I2 L2 (o_act12 A x).2 → post (some (.int (o_act12 A x).1)) I2 L2) : G 252 [some (.ref 0), some (.int x), some (.int (nI (nl (x >>> ((4 : Int32) &&& 31)) 9))), some (.int (nI (nl (x >>> ((8 : Int32) &&& 31)) 8)))] [] I L := by
    unfold o_act12 at h
    exact hG [] 60 252 _ _ _ _ (And.intro (show ¬ (5 : Int32) = 0 by decide) (And.intro (show ¬ (3 : Int32) = 0 by decide) (And.intro rfl (Exists.intro A (And.intro hC (fun I2 L2 h2 => h I2 L2 h2))))))
set_option maxRecDepth 100000 in
set_option maxHeartbeats 4000000 in
theorem ok_act13 {post : am_Po} {G : am_G} (hG : ∀ (cuts : List (Nat × List Nat)) (n pc : Nat) (ls : am_Lv) (st : List Value) (I : am_I) (L : am_J), am_ev am_SX sp_LW_act false post k_LW_act cuts G n pc ls st I L → G pc ls st I L) {x : Int32} {I : am_I} {L : am_J} {A : am_A} (hC : CR I L A) (h : ∀ (I2 : am_I) (L2 : am_J), CR I2 L2 (o_act13 A x).2 → post (some (.int (o_act13 A x).1)) I2 L2) : G 266 [some (.ref 0), some (.int x), some (.int (nI (nl (x >>> ((4 : Int32) &&& 31)) 9))), some (.int (nI (nl (x >>> ((8 : Int32) &&& 31)) 8)))] [] I L := by
    unfold o_act13 at h
    exact hG [] 60 266 _ _ _ _ (And.intro (show ¬ (5 : Int32) = 0 by decide) (And.intro (show ¬ (4 : Int32) = 0 by decide) (And.intro (show ¬ (3 : Int32) = 0 by decide) (And.intro rfl (Exists.intro A (And.intro hC (fun I2 L2 h2 => h I2 L2 h2)))))))
set_option maxRecDepth 100000 in
set_option maxHeartbeats 4000000 in
theorem ok_act14 {post : am_Po} {G : am_G} (hG : ∀ (cuts : List (Nat × List Nat)) (n pc : Nat) (ls : am_Lv) (st : List Value) (I : am_I) (L : am_J), am_ev am_SX sp_LW_act false post k_LW_act cuts G n pc ls st I L → G pc ls st I L) {x : Int32} {I : am_I} {L : am_J} {A : am_A} (hC : CR I L A) (h : ∀ (I2 : am_I) (L2 : am_J), CR I2 L2 (o_act14 A x).2 → post (some (.int (o_act14 A x).1)) I2 L2) : G 285 [some (.ref 0), some (.int x), some (.int (nI (nl (x >>> ((4 : Int32) &&& 31)) 9))), some (.int (nI (nl (x >>> ((8 : Int32) &&& 31)) 8)))] [] I L := by
    unfold o_act14 at h
    exact hG [] 60 285 _ _ _ _ (And.intro (show ¬ (4 : Int32) = 0 by decide) (And.intro (show ¬ (4 : Int32) = 0 by decide) (And.intro (show ¬ (3 : Int32) = 0 by decide) (And.intro rfl (Exists.intro A (And.intro hC (fun I2 L2 h2 => h I2 L2 h2)))))))
set_option maxRecDepth 100000 in
set_option maxHeartbeats 4000000 in
theorem ok_act15 {post : am_Po} {G : am_G} (hG : ∀ (cuts : List (Nat × List Nat)) (n pc : Nat) (ls : am_Lv) (st : List Value) (I : am_I) (L : am_J), am_ev am_SX sp_LW_act false post k_LW_act cuts G n pc ls st I L → G pc ls st I L) {x : Int32} {I : am_I} {L : am_J} {A : am_A} (hC : CR I L A) (h : ∀ (I2 : am_I) (L2 : am_J), CR I2 L2 (o_act15 A x).2 → post (some (.int (o_act15 A x).1)) I2 L2) : G 305 [some (.ref 0), some (.int x), some (.int (nI (nl (x >>> ((4 : Int32) &&& 31)) 9))), some (.int (nI (nl (x >>> ((8 : Int32) &&& 31)) 8)))] [] I L := by
    unfold o_act15 at h
    exact hG [] 60 305 _ _ _ _ (And.intro (show ¬ (4 : Int32) = 0 by decide) (And.intro (show ¬ (4 : Int32) = 0 by decide) (And.intro rfl (Exists.intro A (And.intro hC (fun I2 L2 h2 => h I2 L2 h2))))))
set_option maxHeartbeats 4000000 in
set_option maxRecDepth 100000 in
theorem ok_LW_act : am_Ok am_SX sp_LW_act false k_LW_act 4 T_LW_act := by
  intro vs I L post h
  unfold T_LW_act at h
  split at h
  · rename_i o x
    obtain ⟨rfl, A, hC, h⟩ := h
    refine ⟨Nat.le_of_ble_eq_true rfl, fun G hG => ?_⟩
    unfold o_act at h
    refine hG [(19, [])] 60 0 _ _ _ _ (Exists.intro 9 (And.intro rfl (And.intro (by omega) (And.intro (by omega) (Exists.intro 8 (And.intro rfl (And.intro (by omega) (And.intro (by omega) (?_)))))))))
    refine hG [(96, []), (118, []), (134, []), (140, []), (146, []), (174, []), (192, []), (206, []), (231, []), (252, []), (266, []), (285, []), (305, [])] 60 19 _ _ _ _ (And.intro (fun z0 => ?_) (fun n0 => And.intro (fun z1 => ?_) (fun n1 => And.intro (fun z2 => ?_) (fun n2 => And.intro (fun z3 => ?_) (fun n3 => And.intro (fun z4 => ?_) (fun n4 => And.intro (fun z5 => ?_) (fun n5 => And.intro (fun z6 => ?_) (fun n6 => And.intro (fun z7 => ?_) (fun n7 => And.intro (fun z8 => ?_) (fun n8 => And.intro (fun z9 => ?_) (fun n9 => And.intro (fun z10 => ?_) (fun n10 => And.intro (fun z11 => ?_) (fun n11 => And.intro (fun z12 => ?_) (fun n12 => And.intro (fun z13 => ?_) (fun n13 => And.intro (fun z14 => ?_) (fun n14 => ?_))))))))))))))))
    · rw [if_pos z0] at h
      exact ok_act0 hG hC h
    · rw [if_neg n0, if_pos z1] at h
      exact ok_act1 hG hC h
    · rw [if_neg n0, if_neg n1, if_pos z2] at h
      exact ok_act2 hG hC h
    · rw [if_neg n0, if_neg n1, if_neg n2, if_pos z3] at h
      exact ok_act3 hG hC h
    · rw [if_neg n0, if_neg n1, if_neg n2, if_neg n3, if_pos z4] at h
      exact ok_act4 hG hC h
    · rw [if_neg n0, if_neg n1, if_neg n2, if_neg n3, if_neg n4, if_pos z5] at h
      exact ok_act5 hG hC h
    · rw [if_neg n0, if_neg n1, if_neg n2, if_neg n3, if_neg n4, if_neg n5, if_pos z6] at h
      exact ok_act6 hG hC h
    · rw [if_neg n0, if_neg n1, if_neg n2, if_neg n3, if_neg n4, if_neg n5, if_neg n6, if_pos z7] at h
      exact ok_act7 hG hC h
    · rw [if_neg n0, if_neg n1, if_neg n2, if_neg n3, if_neg n4, if_neg n5, if_neg n6, if_neg n7, if_pos z8] at h
      exact ok_act8 hG hC h
    · rw [if_neg n0, if_neg n1, if_neg n2, if_neg n3, if_neg n4, if_neg n5, if_neg n6, if_neg n7, if_neg n8, if_pos z9] at h
      exact ok_act9 hG hC h
    · rw [if_neg n0, if_neg n1, if_neg n2, if_neg n3, if_neg n4, if_neg n5, if_neg n6, if_neg n7, if_neg n8, if_neg n9, if_pos z10] at h
      exact ok_act10 hG hC h
    · rw [if_neg n0, if_neg n1, if_neg n2, if_neg n3, if_neg n4, if_neg n5, if_neg n6, if_neg n7, if_neg n8, if_neg n9, if_neg n10, if_pos z11] at h
      exact ok_act11 hG hC h
    · rw [if_neg n0, if_neg n1, if_neg n2, if_neg n3, if_neg n4, if_neg n5, if_neg n6, if_neg n7, if_neg n8, if_neg n9, if_neg n10, if_neg n11, if_pos z12] at h
      exact ok_act12 hG hC h
    · rw [if_neg n0, if_neg n1, if_neg n2, if_neg n3, if_neg n4, if_neg n5, if_neg n6, if_neg n7, if_neg n8, if_neg n9, if_neg n10, if_neg n11, if_neg n12, if_pos z13] at h
      exact ok_act13 hG hC h
    · rw [if_neg n0, if_neg n1, if_neg n2, if_neg n3, if_neg n4, if_neg n5, if_neg n6, if_neg n7, if_neg n8, if_neg n9, if_neg n10, if_neg n11, if_neg n12, if_neg n13, if_pos z14] at h
      exact ok_act14 hG hC h
    · rw [if_neg n0, if_neg n1, if_neg n2, if_neg n3, if_neg n4, if_neg n5, if_neg n6, if_neg n7, if_neg n8, if_neg n9, if_neg n10, if_neg n11, if_neg n12, if_neg n13, if_neg n14] at h
      exact ok_act15 hG hC h
  · exact h.elim
end
section
/-! THE LAW: isLeft: what is refused, what is only asked -/
/-- a number far from all that there is -/
def Far (f : Int32) : Prop := ∀ n : Nat, n ≤ 4096 → ¬ (0 ≤ f ∧ f < nI n)
theorem far_hi {j : Nat} (h : 4096 ≤ j) (h2 : j < 8192) : Far (nI j) := fun n hn q => absurd q.2 (nI_nlt (by omega) (by omega))
theorem far_lo {f : Int32} (h : f < 0) : Far f := fun n hn q => absurd h (Int32.not_lt.mpr q.1)
theorem far_x (x : Int32) : (x &&& 1 = 0 → Far (4096 + ((x >>> ((1 : Int32) &&& 31)) &&& 1023))) ∧ Far (-2 - ((x >>> ((1 : Int32) &&& 31)) &&& 1023)) := by
  obtain ⟨j, hj, e⟩ := pk_andE (x >>> ((1 : Int32) &&& 31)) (m := 1023) 10 (by decide)
  rw [e]
  refine ⟨fun _ => ?_, far_lo ?_⟩
  · rw [show (4096 : Int32) = nI 4096 from rfl, nI_add]
    exact far_hi (by omega) (by omega)
  · rw [Int32.lt_iff_toInt_lt, Int32.toInt_sub, nI_toInt (by omega), show (-2 : Int32).toInt = -2 from rfl, show (0 : Int32).toInt = 0 from rfl, Int.bmod_eq_of_le (by omega) (by omega)]
    omega
section LF
variable {A : am_A} {f : Int32}
theorem Far.p (h : Far f) (n : Nat) (hn : Nat.ble n 4096 = true) : ¬ (0 ≤ f ∧ f < nI n) := h n (Nat.le_of_ble_eq_true hn)
theorem Far.w (h : Far f) {n : Nat} (hn : n ≤ 12) : ¬ (0 ≤ f ∧ f < nI n) := h n (by omega)
theorem lf_way (h : Far f) : o_way A f 0 1 = (-1, A) := by
  obtain ⟨G, R⟩ := A
  exact if_pos (Or.inl (h.p 8 rfl))
theorem lf_way0 : o_way A 0 0 1 = (-1, A) := by
  obtain ⟨G, R⟩ := A
  unfold o_way; dsimp only
  rw [if_pos (Or.inr (Or.inr rfl))]
theorem lf_told (hV : VA A) (h : Far f) : o_told A f 0 = (-1, A) := by
  obtain ⟨G, R⟩ := A
  exact if_pos (Or.inl (h.w hV.1.1))
theorem lf_stone (h : Far f) : o_stone A f 0 0 = (-1, A) := by
  obtain ⟨G, R⟩ := A
  exact if_pos (Or.inl (h.p 8 rfl))
theorem lf_stone3 (hV : VA A) (h : Far f) : o_stone A 0 1 f = (-1, A) := by
  obtain ⟨G, R⟩ := A
  exact if_pos (Or.inr (Or.inr (h.w hV.1.1)))
theorem lf_strike (h : Far f) : o_strike A f = (-1, A) := by
  obtain ⟨G, R⟩ := A
  exact if_pos (h.p 8 rfl)
theorem lf_of (h : Far f) : o_of A f 0 = (-1, A) := by
  obtain ⟨G, R⟩ := A
  exact if_pos (Or.inl (h.p 8 rfl))
theorem lf_of2 (h : Far f) : o_of A 0 f = (-1, A) := by
  obtain ⟨G, R⟩ := A
  exact if_pos (Or.inr (h.p 2 rfl))
theorem lf_home (h : Far f) : o_home A f = (-1, A) := by
  obtain ⟨G, R⟩ := A
  exact if_pos (h.p 8 rfl)
theorem lf_snow (hV : VA A) (h : Far f) : o_snow A f = (-1, A) := by
  obtain ⟨G, R⟩ := A
  refine if_pos (fun z => ?_)
  obtain ⟨m, h1, h2, _⟩ := am_snow hV.1.2.2.2.1 z
  refine h 4096 (Nat.le_refl _) ?_
  rw [h2]
  exact ⟨nI_pos' (by omega), nI_lt (by omega) (by omega)⟩
theorem lf_type0 : o_type A 0 1 = (-1, A) := by
  obtain ⟨G, K, hk, tn, tt, R⟩ := A
  unfold o_type; dsimp only
  refine if_pos (fun z => ?_)
  have := (o_tyB_iff.mp z.2 0 (by decide)).1
  exact absurd this (by decide)
theorem lf_type (h : Far f) : o_type A 32 f = (-1, A) := by
  obtain ⟨G, K, hk, tn, tt, R⟩ := A
  refine if_pos (fun z => h.p 9 rfl ⟨?_, ?_⟩)
  · exact Int32.le_trans (by decide) z.1.1
  · exact Int32.lt_of_le_of_lt z.1.2 (by decide)
theorem lf_count (h : Far f) : o_count A f = (-1, A) := by
  have hn : ∀ k : Nat, k < 5 → ¬ f = nI k := fun k hk e => h.p 5 rfl (by rw [e]; exact ⟨nI_pos' (by omega), nI_lt hk (by omega)⟩)
  obtain ⟨G, R⟩ := A
  unfold o_count
  dsimp only
  rw [if_neg (show ¬ f = 0 from hn 0 (by omega)), if_neg (show ¬ f = 1 from hn 1 (by omega)), if_neg (show ¬ f = 2 from hn 2 (by omega)), if_neg (show ¬ f = 3 from hn 3 (by omega)), if_neg (show ¬ f = 4 from hn 4 (by omega))]
theorem lf_read (h : Far f) : o_read A f 0 = (-1, A) := by
  obtain ⟨G, R⟩ := A
  exact if_pos (Or.inl (h.p 8 rfl))
theorem lf_walk (h : Far f) : o_walk A f 0 0 = (-1, A) := by
  obtain ⟨G, R⟩ := A
  exact if_pos (Or.inl (h.p 4 rfl))
theorem lf_walk2 (h : Far f) : o_walk A 0 f 0 = (-1, A) := by
  obtain ⟨G, R⟩ := A
  exact if_pos (Or.inr (Or.inl (h.p 8 rfl)))
theorem lf_at (h : Far f) : o_at A 0 0 f = (-1, A) := by
  obtain ⟨G, R⟩ := A
  refine if_pos (Or.inr (Or.inr ?_))
  by_cases h0 : f < 0
  · exact Or.inl h0
  · refine Or.inr (Int32.not_le.mp (fun z => h.p 100 rfl ⟨Int32.not_lt.mp h0, Int32.lt_of_le_of_lt z (by decide)⟩))
theorem lf_shut (h : Far f) : o_shut A f 0 = (-1, A) := by
  obtain ⟨G, R⟩ := A
  exact if_pos (Or.inl (h.p 4 rfl))
theorem lf_worst (h : Far f) : o_worst A f = (-1, A) := by
  obtain ⟨G, R⟩ := A
  exact if_pos (h.p 8 rfl)
theorem lf_next (h : Far f) : o_next A f = (-1, A) := by
  obtain ⟨G, R⟩ := A
  exact if_pos (h.p 8 rfl)
theorem lf_struck (h : Far f) : o_struck A 0 f 0 = (-1, A) := by
  obtain ⟨G, R⟩ := A
  exact if_pos (Or.inr (Or.inl (h.p 8 rfl)))
theorem lf_struck3 (h : Far f) : o_struck A 0 0 f = (-1, A) := by
  obtain ⟨G, R⟩ := A
  exact if_pos (Or.inr (Or.inr (h.p 2 rfl)))
theorem lf_track (h : Far f) : o_track A f 0 0 0 0 1 0 = (-1, A) := by
  obtain ⟨G, K, hk, tn, tt, ln, sz, it⟩ := A
  exact if_pos (Or.inl (fun z => h.p 4 rfl z.1))
theorem lf_film (h : Far f) : o_film A 0 f 0 0 0 1 = (-1, A) := by
  obtain ⟨G, K, hk, tn, tt, ln, sz, it⟩ := A
  exact if_pos (fun z => h.p 8 rfl z.2.1)
theorem lf_sheet (h : Far f) : o_sheet A f 0 0 = (-1, A) := by
  obtain ⟨G, K, hk, tn, tt, ln, sz, it⟩ := A
  exact if_pos (Or.inl (h.p 4 rfl))
theorem lf_sheet25 : o_sheet A 0 0 25 = (-1, A) := by
  obtain ⟨G, K, hk, tn, tt, ln, sz, it⟩ := A
  unfold o_sheet; dsimp only
  rw [if_pos (by decide)]
theorem lf_sheetm : o_sheet A 0 0 (-1) = (-14, A) := by
  obtain ⟨G, K, hk, tn, tt, ln, sz, it⟩ := A
  unfold o_sheet; dsimp only
  rw [if_neg (by decide), if_pos (by decide)]
theorem lf_drop (h : Far f) : o_drop A f = (-1, A) := by
  obtain ⟨G, K, hk, tn, tt, ln, sz, it⟩ := A
  exact if_pos (h.p 4 rfl)
theorem lf_item (h : Far f) : o_item A f 0 0 0 = (-1, A) := by
  obtain ⟨G, K, hk, tn, tt, ln, sz, it⟩ := A
  exact if_pos (Or.inl (h.p 4 rfl))
theorem lf_copy (h : Far f) : o_copy A f 0 0 0 0 = (-1, A) := by
  obtain ⟨G, K, hk, tn, tt, ln, sz, it⟩ := A
  exact if_pos (Or.inl (h.p 4 rfl))
/-- what is only asked leaves all as it is -/
theorem la_walk (x y z : Int32) : (o_walk A x y z).2 = A := by
  obtain ⟨G, R⟩ := A
  unfold o_walk; dsimp only; split <;> rfl
theorem la_at (x y z : Int32) : (o_at A x y z).2 = A := by
  obtain ⟨G, R⟩ := A
  unfold o_at; dsimp only; split
  · rfl
  · split <;> rfl
theorem la_shut (x y : Int32) : (o_shut A x y).2 = A := by
  obtain ⟨G, R⟩ := A
  unfold o_shut; dsimp only; split <;> rfl
theorem la_worst (x : Int32) : (o_worst A x).2 = A := by
  obtain ⟨G, R⟩ := A
  unfold o_worst; dsimp only; split
  · rfl
  · split <;> rfl
theorem la_next (x : Int32) : (o_next A x).2 = A := by
  obtain ⟨G, R⟩ := A
  unfold o_next; dsimp only; split <;> rfl
theorem la_struck (x y z : Int32) : (o_struck A x y z).2 = A := by
  obtain ⟨G, R⟩ := A
  unfold o_struck; dsimp only; split <;> rfl
theorem la_read (x y : Int32) : (o_read A x y).2 = A := by
  obtain ⟨G, R⟩ := A
  unfold o_read; dsimp only; split
  · rfl
  · split
    · rfl
    · split <;> rfl
theorem la_track (a b c d e g h : Int32) : (o_track A a b c d e g h).2 = A := by
  obtain ⟨G, K, hk, tn, tt, ln, sz, it⟩ := A
  unfold o_track; dsimp only; split
  · rfl
  · split <;> rfl
theorem la_told (x y : Int32) : (o_told A x y).2 = A := by
  obtain ⟨G, R⟩ := A
  unfold o_told; dsimp only; split <;> rfl
theorem la_of (x y : Int32) : (o_of A x y).2 = A := by
  obtain ⟨G, R⟩ := A
  unfold o_of; dsimp only; split
  · rfl
  · split <;> rfl
end LF
/-- bounds of what is asked -/
def Bd (lo hi : Int) (r : Int32) : Prop := lo ≤ r.toInt ∧ r.toInt ≤ hi
theorem Bd.n {lo hi : Int} {n : Nat} (h : n ≤ 40000) (h1 : lo ≤ 0) (h2 : 40000 ≤ hi) : Bd lo hi (nI n) := by
  unfold Bd
  rw [nI_toInt (by omega)]
  omega
theorem Bd.add {a b c d : Int} {x y : Int32} (h1 : Bd a b x) (h2 : Bd c d y) (hl : -1000000 ≤ a ∧ -1000000 ≤ c) (hh : b ≤ 1000000 ∧ d ≤ 1000000) : Bd (a + c) (b + d) (x + y) := by
  unfold Bd at *
  rw [Int32.toInt_add, Int.bmod_eq_of_le (by omega) (by omega)]
  omega
theorem bd_4 : Bd (-13) 40000 (-4) := ⟨by decide, by decide⟩
theorem bd_2 : Bd (-13) 40000 (-2) := ⟨by decide, by decide⟩
theorem bd_0 : Bd (-13) 40000 (0) := ⟨by decide, by decide⟩
theorem bd_1 : Bd (-13) 40000 (1) := ⟨by decide, by decide⟩
theorem bd_11 : Bd (-13) 40000 (-11) := ⟨by decide, by decide⟩
theorem bd_12 : Bd (-13) 40000 (-12) := ⟨by decide, by decide⟩
theorem bd_13 : Bd (-13) 40000 (-13) := ⟨by decide, by decide⟩
section BDS
variable {A : am_A}
theorem bd_walk (hV : VA A) : Bd 0 40000 (o_walk A 0 0 0).1 := by
  obtain ⟨G, R⟩ := A
  have e : o_walk (G, R) 0 0 0 = (nI (g_T G 0 (G 44) (G 26) 0), (G, R)) := by
    unfold o_walk; dsimp only
    rw [if_neg (by decide), if_pos rfl]
    rfl
  rw [e]
  have := (g_T_spec (snow := G 44) (JX_of hV.1 (kind := 0) (f := 0) (by omega) (by omega))).1
  exact Bd.n (by omega) (by omega) (by omega)
theorem bd_at (hV : VA A) : Bd (-13) 40000 (o_at A 3 1 2).1 := by
  obtain ⟨G, R⟩ := A
  unfold o_at; dsimp only
  rw [if_neg (by decide)]
  split
  · first | exact bd_4 | exact bd_2 | exact bd_0 | exact bd_1 | exact bd_11 | exact bd_12 | exact bd_13
  · have := (g_S_lt (kind := (3 : Int32).toNatClampNeg) (snow := G 44) (stones := G 26) (f := (1 : Int32).toNatClampNeg) hV.1 (fun _ q => q) (by decide) (2 : Int32).toNatClampNeg).1
    exact Bd.n (by omega) (by omega) (by omega)
theorem bd_shut (hV : VA A) : Bd (-13) 40000 (o_shut A 2 0).1 := by
  obtain ⟨G, R⟩ := A
  unfold o_shut; dsimp only
  rw [if_neg (by decide)]
  have := (g_S_lt (kind := (2 : Int32).toNatClampNeg) (snow := G 44) (stones := G 26) (f := (0 : Int32).toNatClampNeg) hV.1 (fun _ q => q) (by decide) (g_T G (2 : Int32).toNatClampNeg (G 44) (G 26) (0 : Int32).toNatClampNeg)).2
  exact Bd.n (by omega) (by omega) (by omega)
theorem bd_worst : Bd (-13) 40000 (o_worst A 0).1 := by
  obtain ⟨G, R⟩ := A
  unfold o_worst; dsimp only
  rw [if_neg (by decide)]
  split
  · exact Bd.n (by omega) (by omega) (by omega)
  · first | exact bd_4 | exact bd_2 | exact bd_0 | exact bd_1 | exact bd_11 | exact bd_12 | exact bd_13
theorem bd_next : Bd (-13) 40000 (o_next A 1).1 := by
  obtain ⟨G, R⟩ := A
  unfold o_next; dsimp only
  rw [if_neg (by decide)]
  dsimp only
  split
  · first | exact bd_4 | exact bd_2 | exact bd_0 | exact bd_1 | exact bd_11 | exact bd_12 | exact bd_13
  · split
    · rename_i q hq
      have := (g_to_spec hq).1
      exact Bd.n (by omega) (by omega) (by omega)
    · first | exact bd_4 | exact bd_2 | exact bd_0 | exact bd_1 | exact bd_11 | exact bd_12 | exact bd_13
theorem bd_struck : Bd (-13) 40000 (o_struck A 0 0 1).1 := by
  obtain ⟨G, R⟩ := A
  unfold o_struck; dsimp only
  rw [if_neg (by decide)]
  dsimp only
  split
  · rename_i q hq
    rcases g_ch_spec (fun m => g_pc m 12) (g_sp G (0 : Int32).toNatClampNeg (0 : Int32).toNatClampNeg (decide ((1 : Int32) = 1))) 256 with ⟨z, _⟩ | ⟨b, z1, z2, _⟩
    · rw [hq] at z; cases z
    · rw [hq] at z1
      cases z1
      exact Bd.n (by omega) (by omega) (by omega)
  · first | exact bd_4 | exact bd_2 | exact bd_0 | exact bd_1 | exact bd_11 | exact bd_12 | exact bd_13
theorem bd_read : Bd (-13) 40000 (o_read A 1 0).1 := by
  obtain ⟨G, R⟩ := A
  unfold o_read; dsimp only
  rw [if_neg (by decide)]
  split
  · first | exact bd_4 | exact bd_2 | exact bd_0 | exact bd_1 | exact bd_11 | exact bd_12 | exact bd_13
  · split
    · first | exact bd_4 | exact bd_2 | exact bd_0 | exact bd_1 | exact bd_11 | exact bd_12 | exact bd_13
    · dsimp only
      unfold am_b
      split <;> first | exact bd_4 | exact bd_2 | exact bd_0 | exact bd_1 | exact bd_11 | exact bd_12 | exact bd_13
theorem g_tr_2 (M : Nat → Bool) {d : Nat} (hd : d < 4096) : ∀ n, ∃ m, m < 4096 ∧ (g_tr M d n).2.1 = nI m := by
  intro n
  induction n with
  | zero => exact ⟨d, hd, rfl⟩
  | succ n ih =>
    obtain ⟨m, h1, h2⟩ := ih
    simp only [g_tr]
    split
    · refine ⟨m &&& n, Nat.lt_of_le_of_lt Nat.and_le_left h1, ?_⟩
      dsimp only
      rw [h2, nx_and]
    · exact ⟨m, h1, h2⟩
theorem bd_bars (ln : Nat → Int32) (sz : Nat → Nat) (s : Nat) (a i n : Int32) : Bd (-13) 40000 (o_bars ln sz s a i n) := by
  unfold o_bars
  split
  · first | exact bd_4 | exact bd_2 | exact bd_0 | exact bd_1 | exact bd_11 | exact bd_12 | exact bd_13
  · split
    · first | exact bd_4 | exact bd_2 | exact bd_0 | exact bd_1 | exact bd_11 | exact bd_12 | exact bd_13
    · split <;> first | exact bd_4 | exact bd_2 | exact bd_0 | exact bd_1 | exact bd_11 | exact bd_12 | exact bd_13
theorem bd_track (hV : VA A) : Bd (-13) 40000 (o_track A 1 0 0 0 0 1 1).1 := by
  obtain ⟨G, K, hk, tn, tt, ln, sz, it⟩ := A
  unfold o_track; dsimp only
  rw [if_neg (by decide)]
  split
  · exact bd_bars _ _ _ _ _ _
  · dsimp only
    rw [if_neg (by decide)]
    split
    · first | exact bd_4 | exact bd_2 | exact bd_0 | exact bd_1 | exact bd_11 | exact bd_12 | exact bd_13
    · rw [if_pos rfl]
      obtain ⟨m, h1, h2⟩ := g_tr_2 (fun m => g_lv G (1 : Int32).toNatClampNeg m (0 : Int32).toNatClampNeg (1 : Int32).toNatClampNeg (fun k => it (0 : Int32).toNatClampNeg ((0 : Int32).toNatClampNeg + k))) (d := G 25) hV.1.2.2.2.1 4096
      rw [h2]
      exact Bd.n (by omega) (by omega) (by omega)
end BDS
def T_LW_isLeft : am_Sp := fun vs I L post => match vs with
  | [.ref o, .int x] => o = 0 ∧ ∃ A, CR I L A ∧ ∀ (I2 : am_I) (L2 : am_J), CR I2 L2 A → post (some (.int 1)) I2 L2
  | _ => False
def sp_LW_isLeft : Nat → am_Sp := fun i => match i with
  | 27 => T_RP_way
  | 33 => T_RP_stone
  | 37 => T_RP_home
  | 40 => T_RP_snow
  | 54 => T_RP_strike
  | 57 => T_RP_count
  | 62 => T_RP_type
  | 80 => T_RP_sheet
  | 83 => T_RP_film
  | 87 => T_RP_track
  | 91 => T_RP_copy
  | 95 => T_RP_told
  | 98 => T_RP_of
  | 103 => T_RP_read
  | 106 => T_RP_walk
  | 109 => T_RP_at
  | 112 => T_RP_shut
  | 115 => T_RP_worst
  | 118 => T_RP_next
  | 121 => T_RP_struck
  | 124 => T_RP_drop
  | 127 => T_RP_item
  | _ => am_no
theorem lf_ap {x : Int32 × am_A} {A : am_A} {r : Int32} (e : x = (r, A)) {I : am_I} {L : am_J} (h : CR I L x.2) : CR I L A := by rw [e] at h; exact h
theorem la_ap {B A : am_A} (e : B = A) {I : am_I} {L : am_J} (h : CR I L B) : CR I L A := e ▸ h
theorem CR.V {I : am_I} {L : am_J} {A : am_A} (h : CR I L A) : VA A := by
  obtain ⟨G, K, hk, tn, tt, ln, sz, it⟩ := A
  exact h.1
set_option maxHeartbeats 16000000 in
set_option maxRecDepth 100000 in
theorem ok_LW_isLeft : am_Ok am_SX sp_LW_isLeft true k_LW_isLeft 5 T_LW_isLeft := by
  intro vs I L post h
  unfold T_LW_isLeft at h
  split at h
  · rename_i o x
    obtain ⟨rfl, A, hC, hp⟩ := h
    have hV := hC.V
    refine ⟨Nat.le_of_ble_eq_true rfl, fun G hG => ?_⟩
    have main : ∀ f : Int32, Far f → G 30 [some (.ref 0), some (.int x), none, none, none] [.int f] I L := by
      intro f h
      have s423 : ∀ (r : Int32) (I : am_I) (L : am_J), Bd (-91) 320000 r → CR I L A → G 423 [some (.ref 0), some (.int x), some (.int f), some (.int 1), some (.int r)] [] I L := fun r I L hr hC => by
        refine hG [] 60 423 _ _ _ _ (am_f (by decide) (am_nf (show (-99 : Int32) < r from Int32.lt_iff_toInt_lt.mpr (by rw [show (-99 : Int32).toInt = -99 from rfl]; have := hr.1; omega)) (And.intro (Or.inr rfl) (hp I L hC))))
      have s360 : ∀ (I : am_I) (L : am_J), CR I L A → G 360 [some (.ref 0), some (.int x), some (.int f), some (.int 1), none] [] I L := fun I L h0 => by
        refine hG [(423, [])] 90 360 _ _ _ _ (And.intro rfl (Exists.intro A (And.intro h0 (fun I1 L1 h1 => And.intro rfl (Exists.intro A (And.intro (la_ap (la_walk 0 0 0) h1) (fun I2 L2 h2 => And.intro rfl (Exists.intro A (And.intro (la_ap (la_at 3 1 2) h2) (fun I3 L3 h3 => And.intro rfl (Exists.intro A (And.intro (la_ap (la_shut 2 0) h3) (fun I4 L4 h4 => And.intro rfl (Exists.intro A (And.intro (la_ap (la_worst 0) h4) (fun I5 L5 h5 => And.intro rfl (Exists.intro A (And.intro (la_ap (la_next 1) h5) (fun I6 L6 h6 => And.intro rfl (Exists.intro A (And.intro (la_ap (la_struck 0 0 1) h6) (fun I7 L7 h7 => And.intro rfl (Exists.intro A (And.intro (la_ap (la_read 1 0) h7) (fun I8 L8 h8 => s423 _ I8 L8 ((Bd.add (Bd.add (Bd.add (Bd.add (Bd.add (Bd.add (Bd.add (bd_walk hV) (bd_at hV) (by decide) (by decide)) (bd_shut hV) (by decide) (by decide)) bd_worst (by decide) (by decide)) bd_next (by decide) (by decide)) bd_struck (by decide) (by decide)) bd_read (by decide) (by decide)) (bd_track hV) (by decide) (by decide))) (la_ap (la_track 1 0 0 0 0 1 1) h8))))))))))))))))))))))))))
      have s354 : ∀ (I : am_I) (L : am_J), CR I L A → G 354 [some (.ref 0), some (.int x), some (.int f), none, none] [] I L := fun I L h0 => hG [(360, [])] 90 354 _ _ _ _ (s360 I L h0)
      have s341 : ∀ (I : am_I) (L : am_J), CR I L A → G 341 [some (.ref 0), some (.int x), some (.int f), none, none] [] I L := fun I L h0 => hG [(354, [])] 90 341 _ _ _ _ (And.intro rfl (Exists.intro A (And.intro h0 (fun I1 L1 h1 => am_nf (congrArg Prod.fst (lf_copy h)) (s354 I1 L1 (lf_ap (lf_copy h) h1))))))
      have s329 : ∀ (I : am_I) (L : am_J), CR I L A → G 329 [some (.ref 0), some (.int x), some (.int f), none, none] [] I L := fun I L h0 => hG [(341, [])] 90 329 _ _ _ _ (And.intro rfl (Exists.intro A (And.intro h0 (fun I1 L1 h1 => am_nf (congrArg Prod.fst (lf_item h)) (s341 I1 L1 (lf_ap (lf_item h) h1))))))
      have s320 : ∀ (I : am_I) (L : am_J), CR I L A → G 320 [some (.ref 0), some (.int x), some (.int f), none, none] [] I L := fun I L h0 => hG [(329, [])] 90 320 _ _ _ _ (And.intro rfl (Exists.intro A (And.intro h0 (fun I1 L1 h1 => am_nf (congrArg Prod.fst (lf_drop h)) (s329 I1 L1 (lf_ap (lf_drop h) h1))))))
      have s308 : ∀ (I : am_I) (L : am_J), CR I L A → G 308 [some (.ref 0), some (.int x), some (.int f), none, none] [] I L := fun I L h0 => hG [(320, [])] 90 308 _ _ _ _ (And.intro rfl (Exists.intro A (And.intro h0 (fun I1 L1 h1 => am_nf (congrArg Prod.fst (lf_sheetm)) (s320 I1 L1 (lf_ap (lf_sheetm) h1))))))
      have s296 : ∀ (I : am_I) (L : am_J), CR I L A → G 296 [some (.ref 0), some (.int x), some (.int f), none, none] [] I L := fun I L h0 => hG [(308, [])] 90 296 _ _ _ _ (And.intro rfl (Exists.intro A (And.intro h0 (fun I1 L1 h1 => am_nf (congrArg Prod.fst (lf_sheet25)) (s308 I1 L1 (lf_ap (lf_sheet25) h1))))))
      have s285 : ∀ (I : am_I) (L : am_J), CR I L A → G 285 [some (.ref 0), some (.int x), some (.int f), none, none] [] I L := fun I L h0 => hG [(296, [])] 90 285 _ _ _ _ (And.intro rfl (Exists.intro A (And.intro h0 (fun I1 L1 h1 => am_nf (congrArg Prod.fst (lf_sheet h)) (s296 I1 L1 (lf_ap (lf_sheet h) h1))))))
      have s271 : ∀ (I : am_I) (L : am_J), CR I L A → G 271 [some (.ref 0), some (.int x), some (.int f), none, none] [] I L := fun I L h0 => hG [(285, [])] 90 271 _ _ _ _ (And.intro rfl (Exists.intro A (And.intro h0 (fun I1 L1 h1 => am_nf (congrArg Prod.fst (lf_film h)) (s285 I1 L1 (lf_ap (lf_film h) h1))))))
      have s256 : ∀ (I : am_I) (L : am_J), CR I L A → G 256 [some (.ref 0), some (.int x), some (.int f), none, none] [] I L := fun I L h0 => hG [(271, [])] 90 256 _ _ _ _ (And.intro rfl (Exists.intro A (And.intro h0 (fun I1 L1 h1 => am_nf (congrArg Prod.fst (lf_track h)) (s271 I1 L1 (lf_ap (lf_track h) h1))))))
      have s245 : ∀ (I : am_I) (L : am_J), CR I L A → G 245 [some (.ref 0), some (.int x), some (.int f), none, none] [] I L := fun I L h0 => hG [(256, [])] 90 245 _ _ _ _ (And.intro rfl (Exists.intro A (And.intro h0 (fun I1 L1 h1 => am_nf (congrArg Prod.fst (lf_struck3 h)) (s256 I1 L1 (lf_ap (lf_struck3 h) h1))))))
      have s234 : ∀ (I : am_I) (L : am_J), CR I L A → G 234 [some (.ref 0), some (.int x), some (.int f), none, none] [] I L := fun I L h0 => hG [(245, [])] 90 234 _ _ _ _ (And.intro rfl (Exists.intro A (And.intro h0 (fun I1 L1 h1 => am_nf (congrArg Prod.fst (lf_struck h)) (s245 I1 L1 (lf_ap (lf_struck h) h1))))))
      have s225 : ∀ (I : am_I) (L : am_J), CR I L A → G 225 [some (.ref 0), some (.int x), some (.int f), none, none] [] I L := fun I L h0 => hG [(234, [])] 90 225 _ _ _ _ (And.intro rfl (Exists.intro A (And.intro h0 (fun I1 L1 h1 => am_nf (congrArg Prod.fst (lf_next h)) (s234 I1 L1 (lf_ap (lf_next h) h1))))))
      have s216 : ∀ (I : am_I) (L : am_J), CR I L A → G 216 [some (.ref 0), some (.int x), some (.int f), none, none] [] I L := fun I L h0 => hG [(225, [])] 90 216 _ _ _ _ (And.intro rfl (Exists.intro A (And.intro h0 (fun I1 L1 h1 => am_nf (congrArg Prod.fst (lf_worst h)) (s225 I1 L1 (lf_ap (lf_worst h) h1))))))
      have s206 : ∀ (I : am_I) (L : am_J), CR I L A → G 206 [some (.ref 0), some (.int x), some (.int f), none, none] [] I L := fun I L h0 => hG [(216, [])] 90 206 _ _ _ _ (And.intro rfl (Exists.intro A (And.intro h0 (fun I1 L1 h1 => am_nf (congrArg Prod.fst (lf_shut h)) (s216 I1 L1 (lf_ap (lf_shut h) h1))))))
      have s195 : ∀ (I : am_I) (L : am_J), CR I L A → G 195 [some (.ref 0), some (.int x), some (.int f), none, none] [] I L := fun I L h0 => hG [(206, [])] 90 195 _ _ _ _ (And.intro rfl (Exists.intro A (And.intro h0 (fun I1 L1 h1 => am_nf (congrArg Prod.fst (lf_at h)) (s206 I1 L1 (lf_ap (lf_at h) h1))))))
      have s184 : ∀ (I : am_I) (L : am_J), CR I L A → G 184 [some (.ref 0), some (.int x), some (.int f), none, none] [] I L := fun I L h0 => hG [(195, [])] 90 184 _ _ _ _ (And.intro rfl (Exists.intro A (And.intro h0 (fun I1 L1 h1 => am_nf (congrArg Prod.fst (lf_walk2 h)) (s195 I1 L1 (lf_ap (lf_walk2 h) h1))))))
      have s173 : ∀ (I : am_I) (L : am_J), CR I L A → G 173 [some (.ref 0), some (.int x), some (.int f), none, none] [] I L := fun I L h0 => hG [(184, [])] 90 173 _ _ _ _ (And.intro rfl (Exists.intro A (And.intro h0 (fun I1 L1 h1 => am_nf (congrArg Prod.fst (lf_walk h)) (s184 I1 L1 (lf_ap (lf_walk h) h1))))))
      have s163 : ∀ (I : am_I) (L : am_J), CR I L A → G 163 [some (.ref 0), some (.int x), some (.int f), none, none] [] I L := fun I L h0 => hG [(173, [])] 90 163 _ _ _ _ (And.intro rfl (Exists.intro A (And.intro h0 (fun I1 L1 h1 => am_nf (congrArg Prod.fst (lf_read h)) (s173 I1 L1 (lf_ap (lf_read h) h1))))))
      have s154 : ∀ (I : am_I) (L : am_J), CR I L A → G 154 [some (.ref 0), some (.int x), some (.int f), none, none] [] I L := fun I L h0 => hG [(163, [])] 90 154 _ _ _ _ (And.intro rfl (Exists.intro A (And.intro h0 (fun I1 L1 h1 => am_nf (congrArg Prod.fst (lf_count h)) (s163 I1 L1 (lf_ap (lf_count h) h1))))))
      have s142 : ∀ (I : am_I) (L : am_J), CR I L A → G 142 [some (.ref 0), some (.int x), some (.int f), none, none] [] I L := fun I L h0 => hG [(154, [])] 90 142 _ _ _ _ (And.intro rfl (Exists.intro A (And.intro h0 (fun I1 L1 h1 => am_nf (congrArg Prod.fst (lf_type h)) (s154 I1 L1 (lf_ap (lf_type h) h1))))))
      have s132 : ∀ (I : am_I) (L : am_J), CR I L A → G 132 [some (.ref 0), some (.int x), some (.int f), none, none] [] I L := fun I L h0 => hG [(142, [])] 90 132 _ _ _ _ (And.intro rfl (Exists.intro A (And.intro h0 (fun I1 L1 h1 => am_nf (congrArg Prod.fst (lf_type0)) (s142 I1 L1 (lf_ap (lf_type0) h1))))))
      have s123 : ∀ (I : am_I) (L : am_J), CR I L A → G 123 [some (.ref 0), some (.int x), some (.int f), none, none] [] I L := fun I L h0 => hG [(132, [])] 90 123 _ _ _ _ (And.intro rfl (Exists.intro A (And.intro h0 (fun I1 L1 h1 => am_nf (congrArg Prod.fst (lf_snow hV h)) (s132 I1 L1 (lf_ap (lf_snow hV h) h1))))))
      have s114 : ∀ (I : am_I) (L : am_J), CR I L A → G 114 [some (.ref 0), some (.int x), some (.int f), none, none] [] I L := fun I L h0 => hG [(123, [])] 90 114 _ _ _ _ (And.intro rfl (Exists.intro A (And.intro h0 (fun I1 L1 h1 => am_nf (congrArg Prod.fst (lf_home h)) (s123 I1 L1 (lf_ap (lf_home h) h1))))))
      have s104 : ∀ (I : am_I) (L : am_J), CR I L A → G 104 [some (.ref 0), some (.int x), some (.int f), none, none] [] I L := fun I L h0 => hG [(114, [])] 90 104 _ _ _ _ (And.intro rfl (Exists.intro A (And.intro h0 (fun I1 L1 h1 => am_nf (congrArg Prod.fst (lf_of2 h)) (s114 I1 L1 (lf_ap (lf_of2 h) h1))))))
      have s94 : ∀ (I : am_I) (L : am_J), CR I L A → G 94 [some (.ref 0), some (.int x), some (.int f), none, none] [] I L := fun I L h0 => hG [(104, [])] 90 94 _ _ _ _ (And.intro rfl (Exists.intro A (And.intro h0 (fun I1 L1 h1 => am_nf (congrArg Prod.fst (lf_of h)) (s104 I1 L1 (lf_ap (lf_of h) h1))))))
      have s85 : ∀ (I : am_I) (L : am_J), CR I L A → G 85 [some (.ref 0), some (.int x), some (.int f), none, none] [] I L := fun I L h0 => hG [(94, [])] 90 85 _ _ _ _ (And.intro rfl (Exists.intro A (And.intro h0 (fun I1 L1 h1 => am_nf (congrArg Prod.fst (lf_strike h)) (s94 I1 L1 (lf_ap (lf_strike h) h1))))))
      have s74 : ∀ (I : am_I) (L : am_J), CR I L A → G 74 [some (.ref 0), some (.int x), some (.int f), none, none] [] I L := fun I L h0 => hG [(85, [])] 90 74 _ _ _ _ (And.intro rfl (Exists.intro A (And.intro h0 (fun I1 L1 h1 => am_nf (congrArg Prod.fst (lf_stone3 hV h)) (s85 I1 L1 (lf_ap (lf_stone3 hV h) h1))))))
      have s63 : ∀ (I : am_I) (L : am_J), CR I L A → G 63 [some (.ref 0), some (.int x), some (.int f), none, none] [] I L := fun I L h0 => hG [(74, [])] 90 63 _ _ _ _ (And.intro rfl (Exists.intro A (And.intro h0 (fun I1 L1 h1 => am_nf (congrArg Prod.fst (lf_stone h)) (s74 I1 L1 (lf_ap (lf_stone h) h1))))))
      have s53 : ∀ (I : am_I) (L : am_J), CR I L A → G 53 [some (.ref 0), some (.int x), some (.int f), none, none] [] I L := fun I L h0 => hG [(63, [])] 90 53 _ _ _ _ (And.intro rfl (Exists.intro A (And.intro h0 (fun I1 L1 h1 => am_nf (congrArg Prod.fst (lf_told hV h)) (s63 I1 L1 (lf_ap (lf_told hV h) h1))))))
      have s42 : ∀ (I : am_I) (L : am_J), CR I L A → G 42 [some (.ref 0), some (.int x), some (.int f), none, none] [] I L := fun I L h0 => hG [(53, [])] 90 42 _ _ _ _ (And.intro rfl (Exists.intro A (And.intro h0 (fun I1 L1 h1 => am_nf (congrArg Prod.fst (lf_way0)) (s53 I1 L1 (lf_ap (lf_way0) h1))))))
      have s31 : ∀ (I : am_I) (L : am_J), CR I L A → G 31 [some (.ref 0), some (.int x), some (.int f), none, none] [] I L := fun I L h0 => hG [(42, [])] 90 31 _ _ _ _ (And.intro rfl (Exists.intro A (And.intro h0 (fun I1 L1 h1 => am_nf (congrArg Prod.fst (lf_way h)) (s42 I1 L1 (lf_ap (lf_way h) h1))))))
      exact hG [(31, [])] 90 30 _ _ _ _ (s31 I L hC)
    by_cases hx : x &&& 1 = 0
    · exact hG [(30, [])] 90 0 _ _ _ _ (am_nf hx (main _ ((far_x x).1 hx)))
    · exact hG [(30, [])] 90 0 _ _ _ _ (am_nt hx (main _ (far_x x).2))
  · exact h.elim
end
section
/-! THE LAW: areAlike -/
section LE
variable {G : Nat → Nat} {R R' : (Nat → Nat) × Bool × Nat × (Nat → Nat) × (Nat → Int32) × (Nat → Nat) × (Nat → Nat → Int64)}
theorem le_walk (x y z : Int32) : (o_walk (G, R) x y z).1 = (o_walk (G, R') x y z).1 := by
  unfold o_walk; dsimp only; split <;> rfl
theorem le_shut (x y : Int32) : (o_shut (G, R) x y).1 = (o_shut (G, R') x y).1 := by
  unfold o_shut; dsimp only; split <;> rfl
theorem le_worst (x : Int32) : (o_worst (G, R) x).1 = (o_worst (G, R') x).1 := by
  unfold o_worst; dsimp only; split
  · rfl
  · split <;> rfl
theorem le_struck (x y z : Int32) : (o_struck (G, R) x y z).1 = (o_struck (G, R') x y z).1 := by
  unfold o_struck; dsimp only
  by_cases h : ¬ (0 ≤ x ∧ x < 4) ∨ ¬ (0 ≤ y ∧ y < 8) ∨ ¬ (0 ≤ z ∧ z < 2)
  · rw [if_pos h, if_pos h]
  · rw [if_neg h, if_neg h]
theorem le_told (x y : Int32) : (o_told (G, R) x y).1 = (o_told (G, R') x y).1 := by
  unfold o_told; dsimp only; split <;> rfl
theorem le_of (x y : Int32) : (o_of (G, R) x y).1 = (o_of (G, R') x y).1 := by
  unfold o_of; dsimp only; split
  · rfl
  · split <;> rfl
theorem le_count (x : Int32) : (o_count (G, R) x).1 = (o_count (G, R') x).1 := rfl
end LE
theorem la_count {A : am_A} (x : Int32) : (o_count A x).2 = A := rfl
def T_LW_areAlike : am_Sp := fun vs I L post => match vs with
  | [.ref o, .ref q] => o = 0 ∧ q = 35 ∧ ∃ A B, SB I L A B ∧ A.1 = B.1 ∧ ∀ (I2 : am_I) (L2 : am_J), SB I2 L2 A B → post (some (.int 1)) I2 L2
  | _ => False
def sp_LW_areAlike : Nat → am_Sp := fun i => match i with
  | 57 => T_two T_RP_count
  | 95 => T_two T_RP_told
  | 98 => T_two T_RP_of
  | 106 => T_two T_RP_walk
  | 112 => T_two T_RP_shut
  | 115 => T_two T_RP_worst
  | 121 => T_two T_RP_struck
  | _ => am_no
set_option maxHeartbeats 16000000 in
set_option maxRecDepth 100000 in
theorem ok_LW_areAlike : am_Ok am_SB sp_LW_areAlike true k_LW_areAlike 5 T_LW_areAlike := by
  intro vs I L post h
  unfold T_LW_areAlike at h
  split at h
  · rename_i o q
    obtain ⟨rfl, rfl, A, B, hC, hAB, hp⟩ := h
    obtain ⟨W, RA⟩ := A
    obtain ⟨W2, RB⟩ := B
    dsimp only at hAB
    subst hAB
    refine ⟨Nat.le_of_ble_eq_true rfl, fun G hG => ?_⟩
    have loop : ∀ n k : Nat, 12 - k = n → k ≤ 12 → ∀ (I : am_I) (L : am_J), SB I L (W, RA) (W, RB) → G 38 [some (.ref 0), some (.ref 35), some (.int 1), some (.int (nI k)), none] [] I L := by
      intro n
      induction n with
      | zero =>
        intro k hn hk I L h
        have : k = 12 := by omega
        subst this
        exact hG [] 50 38 _ _ _ _ (am_nt (by decide) (And.intro (Or.inr rfl) (hp I L h)))
      | succ n ih =>
        intro k hn hk I L h
        have q177 : ∀ (I : am_I) (L : am_J), SB I L (W, RA) (W, RB) → G 177 [some (.ref 0), some (.ref 35), some (.int 1), some (.int (nI k)), some (.int (nI k &&& 3))] [] I L := fun I L h => by
          refine hG [(38, [1, 1, 1, 1, 0])] 50 177 _ _ _ _ ?_
          show G 38 [some (.ref 0), some (.ref 35), some (.int 1), some (.int (nI k + 1)), none] [] I L
          rw [nI_1]
          exact ih (k + 1) (by omega) (by omega) I L h
        have q160 : ∀ (I : am_I) (L : am_J), SB I L (W, RA) (W, RB) → G 160 [some (.ref 0), some (.ref 35), some (.int 1), some (.int (nI k)), some (.int (nI k &&& 3))] [] I L := fun I L h => hG [(177, [])] 90 160 _ _ _ _ (tw0 (fun post2 hp2 => And.intro rfl (Exists.intro (W, RA) (And.intro h.1 (fun Ix Lx hx => hp2 Ix Lx (la_ap (la_shut (nI k &&& 3) (nI k)) hx))))) rfl h (fun I1 L1 h1 => tw1 (fun post2 hp2 => And.intro rfl (Exists.intro (W, RB) (And.intro h1.2 (fun Ix Lx hx => hp2 Ix Lx (la_ap (la_shut (nI k &&& 3) (nI k)) hx))))) rfl h1 (fun I2 L2 h2 => am_nf (le_shut (nI k &&& 3) (nI k)) (q177 I2 L2 h2))))
        have q141 : ∀ (I : am_I) (L : am_J), SB I L (W, RA) (W, RB) → G 141 [some (.ref 0), some (.ref 35), some (.int 1), some (.int (nI k)), some (.int (nI k &&& 3))] [] I L := fun I L h => hG [(160, [])] 90 141 _ _ _ _ (tw0 (fun post2 hp2 => And.intro rfl (Exists.intro (W, RA) (And.intro h.1 (fun Ix Lx hx => hp2 Ix Lx (la_ap (la_walk (nI k &&& 3) (nI k) 0) hx))))) rfl h (fun I1 L1 h1 => tw1 (fun post2 hp2 => And.intro rfl (Exists.intro (W, RB) (And.intro h1.2 (fun Ix Lx hx => hp2 Ix Lx (la_ap (la_walk (nI k &&& 3) (nI k) 0) hx))))) rfl h1 (fun I2 L2 h2 => am_nf (le_walk (nI k &&& 3) (nI k) 0) (q160 I2 L2 h2))))
        have q126 : ∀ (I : am_I) (L : am_J), SB I L (W, RA) (W, RB) → G 126 [some (.ref 0), some (.ref 35), some (.int 1), some (.int (nI k)), some (.int (nI k &&& 3))] [] I L := fun I L h => hG [(141, [])] 90 126 _ _ _ _ (tw0 (fun post2 hp2 => And.intro rfl (Exists.intro (W, RA) (And.intro h.1 (fun Ix Lx hx => hp2 Ix Lx (la_ap (la_of (nI k) 1) hx))))) rfl h (fun I1 L1 h1 => tw1 (fun post2 hp2 => And.intro rfl (Exists.intro (W, RB) (And.intro h1.2 (fun Ix Lx hx => hp2 Ix Lx (la_ap (la_of (nI k) 1) hx))))) rfl h1 (fun I2 L2 h2 => am_nf (le_of (nI k) 1) (q141 I2 L2 h2))))
        have q111 : ∀ (I : am_I) (L : am_J), SB I L (W, RA) (W, RB) → G 111 [some (.ref 0), some (.ref 35), some (.int 1), some (.int (nI k)), some (.int (nI k &&& 3))] [] I L := fun I L h => hG [(126, [])] 90 111 _ _ _ _ (tw0 (fun post2 hp2 => And.intro rfl (Exists.intro (W, RA) (And.intro h.1 (fun Ix Lx hx => hp2 Ix Lx (la_ap (la_of (nI k) 0) hx))))) rfl h (fun I1 L1 h1 => tw1 (fun post2 hp2 => And.intro rfl (Exists.intro (W, RB) (And.intro h1.2 (fun Ix Lx hx => hp2 Ix Lx (la_ap (la_of (nI k) 0) hx))))) rfl h1 (fun I2 L2 h2 => am_nf (le_of (nI k) 0) (q126 I2 L2 h2))))
        have q96 : ∀ (I : am_I) (L : am_J), SB I L (W, RA) (W, RB) → G 96 [some (.ref 0), some (.ref 35), some (.int 1), some (.int (nI k)), some (.int (nI k &&& 3))] [] I L := fun I L h => hG [(111, [])] 90 96 _ _ _ _ (tw0 (fun post2 hp2 => And.intro rfl (Exists.intro (W, RA) (And.intro h.1 (fun Ix Lx hx => hp2 Ix Lx (la_ap (la_told (nI k) 2) hx))))) rfl h (fun I1 L1 h1 => tw1 (fun post2 hp2 => And.intro rfl (Exists.intro (W, RB) (And.intro h1.2 (fun Ix Lx hx => hp2 Ix Lx (la_ap (la_told (nI k) 2) hx))))) rfl h1 (fun I2 L2 h2 => am_nf (le_told (nI k) 2) (q111 I2 L2 h2))))
        have q81 : ∀ (I : am_I) (L : am_J), SB I L (W, RA) (W, RB) → G 81 [some (.ref 0), some (.ref 35), some (.int 1), some (.int (nI k)), some (.int (nI k &&& 3))] [] I L := fun I L h => hG [(96, [])] 90 81 _ _ _ _ (tw0 (fun post2 hp2 => And.intro rfl (Exists.intro (W, RA) (And.intro h.1 (fun Ix Lx hx => hp2 Ix Lx (la_ap (la_told (nI k) 1) hx))))) rfl h (fun I1 L1 h1 => tw1 (fun post2 hp2 => And.intro rfl (Exists.intro (W, RB) (And.intro h1.2 (fun Ix Lx hx => hp2 Ix Lx (la_ap (la_told (nI k) 1) hx))))) rfl h1 (fun I2 L2 h2 => am_nf (le_told (nI k) 1) (q96 I2 L2 h2))))
        have q66 : ∀ (I : am_I) (L : am_J), SB I L (W, RA) (W, RB) → G 66 [some (.ref 0), some (.ref 35), some (.int 1), some (.int (nI k)), some (.int (nI k &&& 3))] [] I L := fun I L h => hG [(81, [])] 90 66 _ _ _ _ (tw0 (fun post2 hp2 => And.intro rfl (Exists.intro (W, RA) (And.intro h.1 (fun Ix Lx hx => hp2 Ix Lx (la_ap (la_told (nI k) 0) hx))))) rfl h (fun I1 L1 h1 => tw1 (fun post2 hp2 => And.intro rfl (Exists.intro (W, RB) (And.intro h1.2 (fun Ix Lx hx => hp2 Ix Lx (la_ap (la_told (nI k) 0) hx))))) rfl h1 (fun I2 L2 h2 => am_nf (le_told (nI k) 0) (q81 I2 L2 h2))))
        have q53 : ∀ (I : am_I) (L : am_J), SB I L (W, RA) (W, RB) → G 53 [some (.ref 0), some (.ref 35), some (.int 1), some (.int (nI k)), some (.int (nI k &&& 3))] [] I L := fun I L h => hG [(66, [])] 90 53 _ _ _ _ (tw0 (fun post2 hp2 => And.intro rfl (Exists.intro (W, RA) (And.intro h.1 (fun Ix Lx hx => hp2 Ix Lx (la_ap (la_count (nI k)) hx))))) rfl h (fun I1 L1 h1 => tw1 (fun post2 hp2 => And.intro rfl (Exists.intro (W, RB) (And.intro h1.2 (fun Ix Lx hx => hp2 Ix Lx (la_ap (la_count (nI k)) hx))))) rfl h1 (fun I2 L2 h2 => am_nf (le_count (nI k)) (q66 I2 L2 h2))))
        exact hG [(53, [])] 50 38 _ _ _ _ (am_nf (am_lt (show k < 12 by omega) rfl) (am_f (by decide) (q53 I L h)))
    have q30 : ∀ (I : am_I) (L : am_J), SB I L (W, RA) (W, RB) → G 30 [some (.ref 0), some (.ref 35), none, none, none] [] I L := fun I L h => hG [(38, [])] 50 30 _ _ _ _ (loop 12 0 (by omega) (by omega) I L h)
    have q17 : ∀ (I : am_I) (L : am_J), SB I L (W, RA) (W, RB) → G 17 [some (.ref 0), some (.ref 35), none, none, none] [] I L := fun I L h => hG [(30, [])] 90 17 _ _ _ _ (tw0 (fun post2 hp2 => And.intro rfl (Exists.intro (W, RA) (And.intro h.1 (fun Ix Lx hx => hp2 Ix Lx (la_ap (la_worst 2) hx))))) rfl h (fun I1 L1 h1 => tw1 (fun post2 hp2 => And.intro rfl (Exists.intro (W, RB) (And.intro h1.2 (fun Ix Lx hx => hp2 Ix Lx (la_ap (la_worst 2) hx))))) rfl h1 (fun I2 L2 h2 => am_nf (le_worst 2) (q30 I2 L2 h2))))
    have q0 : ∀ (I : am_I) (L : am_J), SB I L (W, RA) (W, RB) → G 0 [some (.ref 0), some (.ref 35), none, none, none] [] I L := fun I L h => hG [(17, [])] 90 0 _ _ _ _ (tw0 (fun post2 hp2 => And.intro rfl (Exists.intro (W, RA) (And.intro h.1 (fun Ix Lx hx => hp2 Ix Lx (la_ap (la_struck 0 1 1) hx))))) rfl h (fun I1 L1 h1 => tw1 (fun post2 hp2 => And.intro rfl (Exists.intro (W, RB) (And.intro h1.2 (fun Ix Lx hx => hp2 Ix Lx (la_ap (la_struck 0 1 1) hx))))) rfl h1 (fun I2 L2 h2 => am_nf (le_struck 0 1 1) (q17 I2 L2 h2))))
    exact q0 I L hC
  · exact h.elim
end
section
/-! THE LAW: road -/
/-- nothing yet -/
def A_0 : am_A := (g_0 7, g_0 7, false, 0, fun _ => 0, fun _ => -1, fun _ => 0, fun _ _ => 0)
def T_one (X : am_Sp) : am_Sp := fun vs I L post => True ∧ am_upT am_f0 am_g0 X vs I L post
theorem tw3 {X : am_Sp} {t : List Value} {I : am_I} {L : am_J} {post : am_Po} {r : Int32} {A2 : am_A} (hX : ∀ post' : am_Po, (∀ (I2 : am_I) (L2 : am_J), CR I2 L2 A2 → post' (some (.int r)) I2 L2) → X (.ref 0 :: t) I L post') (ht : t.map (am_val am_f0) = t) (k : ∀ (I2 : am_I) (L2 : am_J), CR I2 L2 A2 → I2 35 = I 35 → post (some (.int r)) I2 L2) : T_one X (.ref 0 :: t) I L post := by
  refine ⟨trivial, .ref 0 :: t, by rw [List.map_cons, ht]; rfl, hX _ (fun I2 L2 h2 => k _ _ (CR_fr h2 (fun a ha => am_pt0 (by omega)) (fun a ha => am_pt0 (by omega))) (am_pt0n (by omega)))⟩
/-- a cell of the script (its place: 36) -/
def T_LW_cell (sc : Nat) (ce : Nat → Int32) : am_Sp := fun vs I L post => match vs with
  | [.ref r, .int k] => r = sc ∧ ∃ j : Nat, k = nI j ∧ j < 1000 ∧ post (some (.int (ce j))) I L
  | _ => False
/-- v holds what G tells -/
def RV (I : am_I) (G : Nat → Nat) : Prop := VW I G ∧ I 35 25 = nI (G 25) ∧ I 35 26 = nI (G 26)
section RDS
variable (ce : Nat → Int32)
def rd_pl : Nat := 3 + nl (ce 0) 6
def rd_tr : Nat := 3 + nl (ce 0 >>> ((4 : Int32) &&& 31)) 14
def rd_y (k : Nat) : Int32 := ce (1 + k / 3) >>> ((9 * (nI k - nI k / 3 * 3)) &&& 31)
def rd_a (k : Nat) : Nat := if k < rd_pl ce - 1 then k else nl (rd_y ce k) (rd_pl ce)
def rd_b (k : Nat) : Nat := if k < rd_pl ce - 1 ∧ 0 < (ce 0 >>> ((8 : Int32) &&& 31)) &&& 3 then k + 1 else (rd_a ce k + 1 + nl (rd_y ce k >>> ((3 : Int32) &&& 31)) (rd_pl ce - 1)) % rd_pl ce
def rd_d (k : Nat) : Int32 := if nl (rd_y ce k >>> ((6 : Int32) &&& 31)) 3 = 0 then 0 else 1
def rd_A : Nat → am_A
  | 0 => A_0
  | k + 1 => (o_way (rd_A k) (nI (rd_a ce k)) (nI (rd_b ce k)) (rd_d ce k)).2
def rs_y (k : Nat) : Int32 := ce (7 + k / 2) >>> ((14 * (nI k - nI k / 2 * 2)) &&& 31)
def rs_p (k : Nat) : Nat := nl (rs_y ce k) (rd_pl ce)
def rs_s (k : Nat) : Nat := nl (rs_y ce k >>> ((3 : Int32) &&& 31)) (rd_pl ce)
def rs_w (A : am_A) (k : Nat) : Nat := nl (rs_y ce k >>> ((6 : Int32) &&& 31)) (A.1 0 + 1)
def rs_A : Nat → am_A
  | 0 => rd_A ce (rd_tr ce)
  | k + 1 => if nl (rs_y ce k >>> ((10 : Int32) &&& 31)) 4 = 0 then rs_A k else (o_stone (rs_A k) (nI (rs_p ce k)) (nI (rs_s ce k)) (nI (rs_w ce (rs_A k) k))).2
def rs_n : Nat := if 0 < (ce 0 >>> ((10 : Int32) &&& 31)) &&& 7 then 8 else 0
def rd_h : Nat := nl (ce 0 >>> ((13 : Int32) &&& 31)) (rd_pl ce)
/-- the pass that the law tells -/
def o_road : am_A := (o_snow (o_home (rs_A ce (rs_n ce)) (nI (rd_h ce))).2 (ce 11 &&& nI ((rs_A ce (rs_n ce)).1 25))).2
theorem rd_pl_b : 3 ≤ rd_pl ce ∧ rd_pl ce ≤ 8 := by
  have := nl_lt (ce 0) (n := 6) (by omega)
  unfold rd_pl
  omega
theorem rd_tr_b : rd_tr ce ≤ 16 := by
  have := nl_lt (ce 0 >>> ((4 : Int32) &&& 31)) (n := 14) (by omega)
  unfold rd_tr
  omega
theorem rd_ab (k : Nat) : rd_a ce k < 8 ∧ rd_b ce k < 8 ∧ rd_a ce k ≠ rd_b ce k := by
  have hp := rd_pl_b ce
  have ha : rd_a ce k < rd_pl ce := by
    unfold rd_a
    split
    · omega
    · exact nl_lt _ (by omega)
  have ht := nl_lt (rd_y ce k >>> ((3 : Int32) &&& 31)) (n := rd_pl ce - 1) (by omega)
  unfold rd_b
  split
  · rename_i h
    have : rd_a ce k = k := by unfold rd_a; rw [if_pos h.1]
    omega
  · have hm := Nat.mod_lt (rd_a ce k + 1 + nl (rd_y ce k >>> ((3 : Int32) &&& 31)) (rd_pl ce - 1)) (show 0 < rd_pl ce by omega)
    refine ⟨by omega, by omega, ?_⟩
    rcases Nat.lt_or_ge (rd_a ce k + 1 + nl (rd_y ce k >>> ((3 : Int32) &&& 31)) (rd_pl ce - 1)) (rd_pl ce) with z | z
    · rw [Nat.mod_eq_of_lt z]; omega
    · rw [Nat.mod_eq_sub_mod z, Nat.mod_eq_of_lt (by omega)]; omega
theorem rd_d_b (k : Nat) : rd_d ce k = 0 ∨ rd_d ce k = 1 := by
  unfold rd_d
  split
  · exact Or.inl rfl
  · exact Or.inr rfl
end RDS
section OW
variable {G : Nat → Nat} {R : (Nat → Nat) × Bool × Nat × (Nat → Nat) × (Nat → Int32) × (Nat → Nat) × (Nat → Nat → Int64)} {a b : Nat} {d : Int32}
theorem ow_c (ha : a < 8) (hb : b < 8) (hab : a ≠ b) : ¬ (¬ (0 ≤ nI a ∧ nI a < 8) ∨ ¬ (0 ≤ nI b ∧ nI b < 8) ∨ nI a = nI b) := by
  rintro (q | q | q)
  · exact q (am_pl8 ha)
  · exact q (am_pl8 hb)
  · exact hab ((nI_eq (by omega) (by omega)).mp q)
theorem ow_J (ha : a < 8) (hb : b < 8) (hab : a ≠ b) (h : ¬ g_wy G a b = 0) : o_way (G, R) (nI a) (nI b) d = (-2, (G, R)) := by
  unfold o_way; dsimp only
  rw [if_neg (ow_c ha hb hab), nI_clamp (by omega), nI_clamp (by omega), if_pos h]
theorem ow_F (ha : a < 8) (hb : b < 8) (hab : a ≠ b) (h : g_wy G a b = 0) (hf : G 0 = 12 ∨ (¬ d = 0 ∧ g_pc (G 25) 12 = 6)) : o_way (G, R) (nI a) (nI b) d = (-3, (G, R)) := by
  unfold o_way; dsimp only
  rw [if_neg (ow_c ha hb hab), nI_clamp (by omega), nI_clamp (by omega), if_neg (fun q => q h), if_pos hf]
theorem ow_N (ha : a < 8) (hb : b < 8) (hab : a ≠ b) (h : g_wy G a b = 0) (hf : ¬ (G 0 = 12 ∨ (¬ d = 0 ∧ g_pc (G 25) 12 = 6))) : o_way (G, R) (nI a) (nI b) d = (nI (G 0), (g_add G a b (!decide (d = 0)), R)) := by
  unfold o_way; dsimp only
  rw [if_neg (ow_c ha hb hab), nI_clamp (by omega), nI_clamp (by omega), if_neg (fun q => q h), if_neg hf]
theorem os_c (ha : a < 8) (hb : b < 8) {w : Nat} (hw : w < G 0) (hG : G 0 ≤ 12) : ¬ (¬ (0 ≤ nI a ∧ nI a < 8) ∨ ¬ (0 ≤ nI b ∧ nI b < 8) ∨ ¬ (0 ≤ nI w ∧ nI w < nI (G 0))) := by
  rintro (q | q | q)
  · exact q (am_pl8 ha)
  · exact q (am_pl8 hb)
  · exact q ⟨nI_pos' (by omega), nI_lt hw (by omega)⟩
theorem os_B {w : Nat} (hw : w = G 0) : o_stone (G, R) (nI a) (nI b) (nI w) = (-1, (G, R)) := by
  unfold o_stone; dsimp only
  rw [if_pos (Or.inr (Or.inr (fun q => absurd q.2 (by rw [hw]; exact fun z => Int32.lt_irrefl z))))]
theorem os_J (ha : a < 8) (hb : b < 8) {w : Nat} (hw : w < G 0) (hG : G 0 ≤ 12) (h : g_wy G a b = 0) : o_stone (G, R) (nI a) (nI b) (nI w) = (-2, (G, R)) := by
  unfold o_stone; dsimp only
  rw [if_neg (os_c ha hb hw hG), nI_clamp (by omega), nI_clamp (by omega), if_pos h]
theorem os_N (ha : a < 8) (hb : b < 8) {w : Nat} (hw : w < G 0) (hG : G 0 ≤ 12) (h : ¬ g_wy G a b = 0) : o_stone (G, R) (nI a) (nI b) (nI w) = (nI (g_pc (g_set (G 26) a) 12), (g_put (g_put (g_put G (27 + a) b) (35 + a) w) 26 (g_set (G 26) a), R)) := by
  unfold o_stone; dsimp only
  rw [if_neg (os_c ha hb hw hG), nI_clamp (by omega), nI_clamp (by omega), nI_clamp (by omega), if_neg h]
end OW
theorem A0_g : (A_0.1 43 = 7 ∧ A_0.1 44 = 0) := ⟨rfl, rfl⟩
/-- home and snow stay while ways and stones come -/
theorem ow_43 (A : am_A) (a b d : Int32) : (o_way A a b d).2.1 43 = A.1 43 ∧ (o_way A a b d).2.1 44 = A.1 44 ∨ (o_way A a b d).2 = A ∨ ∃ x y e, (o_way A a b d).2.1 = g_add A.1 x y e := by
  obtain ⟨G, R⟩ := A
  unfold o_way; dsimp only
  split
  · exact Or.inr (Or.inl rfl)
  · split
    · exact Or.inr (Or.inl rfl)
    · split
      · exact Or.inr (Or.inl rfl)
      · exact Or.inr (Or.inr ⟨_, _, _, rfl⟩)
theorem g_add_hi {G : Nat → Nat} {a b : Nat} {d : Bool} (h12 : G 0 < 12) {i : Nat} (hi : 25 < i) : g_add G a b d i = G i := by
  unfold g_add
  rw [if_neg (by omega), if_neg (by omega), if_neg (by omega), if_neg (by omega)]
def sp_LW_road (ce : Nat → Int32) : Nat → am_Sp := fun i => match i with
  | 9 => T_LW_cell 36 ce
  | 15 => T_LW_low
  | 19 => T_LW_joined
  | 23 => T_LW_bits
  | 27 => T_one T_RP_way
  | 33 => T_one T_RP_stone
  | 37 => T_one T_RP_home
  | 40 => T_one T_RP_snow
  | _ => am_no
def T_LW_road (ce : Nat → Int32) : am_Sp := fun vs I L post => match vs with
  | [.ref o, .ref s, .int d, .ref v] => o = 0 ∧ s = 36 ∧ d = 6 ∧ v = 35 ∧ CR I L A_0 ∧ ∀ (I2 : am_I) (L2 : am_J), CR I2 L2 (o_road ce) → post (some (.int 1)) I2 L2
  | _ => False
set_option maxHeartbeats 16000000 in
set_option maxRecDepth 100000 in
theorem rd_in {post : am_Po} {ce : Nat → Int32} {G : am_G} (hG : ∀ (cuts : List (Nat × List Nat)) (n pc : Nat) (ls : am_Lv) (st : List Value) (I : am_I) (L : am_J), am_ev am_S3 (sp_LW_road ce) true post k_LW_road cuts G n pc ls st I L → G pc ls st I L) {k : Nat} {W : Nat → Nat} {R : (Nat → Nat) × Bool × Nat × (Nat → Nat) × (Nat → Int32) × (Nat → Nat) × (Nat → Nat → Int64)} (hk : k < rd_tr ce) {I : am_I} {L : am_J} (hV : RV I W)
    (kk : G 224 [some (.ref 0), some (.ref 36), some (.int 6), some (.ref 35), some (.int (ce 0)), some (.int 1), some (.int (nI (rd_pl ce))), some (.int (nI (rd_tr ce))), some (.int (nI k)), some (.int (rd_y ce k)), some (.int (nI (rd_a ce k))), some (.int (nI (rd_b ce k))), some (.int (rd_d ce k)), some (.int (nI (W 0))), none] [.int (o_way (W, R) (nI (rd_a ce k)) (nI (rd_b ce k)) (rd_d ce k)).1] I L) : G 51 [some (.ref 0), some (.ref 36), some (.int 6), some (.ref 35), some (.int (ce 0)), some (.int 1), some (.int (nI (rd_pl ce))), some (.int (nI (rd_tr ce))), some (.int (nI k)), none, none, none, none, none, none] [] I L := by
  have hp := rd_pl_b ce
  have ht := rd_tr_b ce
  obtain ⟨ha, hb, hab⟩ := rd_ab ce k
  obtain ⟨hW, h25, h26⟩ := hV
  obtain ⟨h12, h0, hw⟩ := id hW
  have ep : nI (rd_pl ce) - 1 = nI (rd_pl ce - 1) := by
    obtain ⟨m, hm⟩ : ∃ m, rd_pl ce = m + 1 := ⟨rd_pl ce - 1, by omega⟩
    rw [hm, nI_pred]; rfl
  have s224 : ∀ v : Int32, v = (o_way (W, R) (nI (rd_a ce k)) (nI (rd_b ce k)) (rd_d ce k)).1 → G 224 [some (.ref 0), some (.ref 36), some (.int 6), some (.ref 35), some (.int (ce 0)), some (.int 1), some (.int (nI (rd_pl ce))), some (.int (nI (rd_tr ce))), some (.int (nI k)), some (.int (rd_y ce k)), some (.int (nI (rd_a ce k))), some (.int (nI (rd_b ce k))), some (.int (rd_d ce k)), some (.int (nI (W 0))), none] [.int v] I L := fun v e => by rw [e]; exact kk
  have s177 : G 177 [some (.ref 0), some (.ref 36), some (.int 6), some (.ref 35), some (.int (ce 0)), some (.int 1), some (.int (nI (rd_pl ce))), some (.int (nI (rd_tr ce))), some (.int (nI k)), some (.int (rd_y ce k)), some (.int (nI (rd_a ce k))), some (.int (nI (rd_b ce k))), some (.int (rd_d ce k)), some (.int (nI (W 0))), none] [] I L := by
    by_cases hj : g_wy W (rd_a ce k) (rd_b ce k) = 0
    · have hneg : nI (g_wy W (rd_a ce k) (rd_b ce k)) - 1 < 0 := by rw [hj]; decide
      refine hG [(193, [])] 90 177 _ _ _ _ (And.intro rfl (Exists.intro W (Exists.intro (rd_a ce k) (Exists.intro (rd_b ce k) (And.intro hW (And.intro rfl (And.intro rfl (And.intro ha (And.intro hb (am_t hneg ?_))))))))))
      by_cases hf : W 0 = 12
      · refine hG [(224, [])] 90 193 _ _ _ _ (am_t (by rw [hf]; rfl) (s224 _ (by rw [ow_F ha hb hab hj (Or.inl hf)])))
      · have hn12 : ¬ nI (W 0) = 12 := fun z => hf ((nI_eq (b := 12) (by omega) (by omega)).mp z)
        rcases rd_d_b ce k with hd | hd
        · refine hG [(224, [])] 90 193 _ _ _ _ (am_f hn12 (am_t hd (s224 _ (by rw [ow_N ha hb hab hj (by rintro (q | q); exact hf q; exact q.1 hd)]))))
        · have hd0 : ¬ rd_d ce k = 0 := by rw [hd]; decide
          refine hG [(224, []), (217, []), (222, [])] 90 193 _ _ _ _ (am_f hn12 (am_f hd0 (And.intro (am_vin (show 25 < 51 by omega) rfl) (Exists.intro (W 25) (And.intro h25 (And.intro (fun z => ?_) (fun z => ?_)))))))
          · exact hG [(224, [])] 90 222 _ _ _ _ (s224 _ (by rw [ow_N ha hb hab hj (by
              rintro (q | q)
              · exact hf q
              · exact z (by rw [q.2]; rfl))]))
          · have h6 : g_pc (W 25) 12 = 6 := (nI_eq (b := 6) (by have := g_pc_le (W 25) 12; omega) (by omega)).mp z
            exact hG [(224, [])] 90 217 _ _ _ _ (s224 _ (by rw [ow_F ha hb hab hj (Or.inr ⟨hd0, h6⟩)]))
    · have hpos : ¬ nI (g_wy W (rd_a ce k) (rd_b ce k)) - 1 < 0 := by
        obtain ⟨m, hm⟩ : ∃ m, g_wy W (rd_a ce k) (rd_b ce k) = m + 1 := ⟨g_wy W (rd_a ce k) (rd_b ce k) - 1, by omega⟩
        have := g_wy_le W (rd_a ce k) (rd_b ce k)
        rw [hm, nI_pred]
        exact nI_pos (by omega)
      refine hG [(224, [])] 90 177 _ _ _ _ (And.intro rfl (Exists.intro W (Exists.intro (rd_a ce k) (Exists.intro (rd_b ce k) (And.intro hW (And.intro rfl (And.intro rfl (And.intro ha (And.intro hb (am_f hpos (s224 _ (by rw [ow_J ha hb hab hj]))))))))))))
  have s170 : ∀ v : Int32, v = rd_d ce k → G 170 [some (.ref 0), some (.ref 36), some (.int 6), some (.ref 35), some (.int (ce 0)), some (.int 1), some (.int (nI (rd_pl ce))), some (.int (nI (rd_tr ce))), some (.int (nI k)), some (.int (rd_y ce k)), some (.int (nI (rd_a ce k))), some (.int (nI (rd_b ce k))), none, none, none] [.int v] I L := fun v e => by
    rw [e]
    refine hG [(177, [])] 90 170 _ _ _ _ (And.intro (am_vin (show 0 < 51 by omega) rfl) ?_)
    show G 177 [some (.ref 0), some (.ref 36), some (.int 6), some (.ref 35), some (.int (ce 0)), some (.int 1), some (.int (nI (rd_pl ce))), some (.int (nI (rd_tr ce))), some (.int (nI k)), some (.int (rd_y ce k)), some (.int (nI (rd_a ce k))), some (.int (nI (rd_b ce k))), some (.int (rd_d ce k)), some (.int (I 35 0)), none] [] I L
    rw [h0]
    exact s177
  have s151 : ∀ v : Int32, v = nI (rd_b ce k) → G 151 [some (.ref 0), some (.ref 36), some (.int 6), some (.ref 35), some (.int (ce 0)), some (.int 1), some (.int (nI (rd_pl ce))), some (.int (nI (rd_tr ce))), some (.int (nI k)), some (.int (rd_y ce k)), some (.int (nI (rd_a ce k))), none, none, none, none] [.int v] I L := fun v e => by
    rw [e]
    have h3 := nl_lt (rd_y ce k >>> ((6 : Int32) &&& 31)) (n := 3) (by omega)
    by_cases hz : nl (rd_y ce k >>> ((6 : Int32) &&& 31)) 3 = 0
    · refine hG [(170, [])] 90 151 _ _ _ _ (Exists.intro (3) (And.intro (rfl) (And.intro (by omega) (And.intro (by omega) (?_)))))
      exact am_nt (by rw [hz]; decide) (s170 _ (by unfold rd_d; rw [if_pos hz]))
    · refine hG [(170, [])] 90 151 _ _ _ _ (Exists.intro (3) (And.intro (rfl) (And.intro (by omega) (And.intro (by omega) (?_)))))
      exact am_nf (show (0 : Int32) < nI _ from nI_lt (a := 0) (by omega) (by omega)) (s170 _ (by unfold rd_d; rw [if_neg hz]))
  have s132 : ¬ (k < rd_pl ce - 1 ∧ 0 < (ce 0 >>> ((8 : Int32) &&& 31)) &&& 3) → G 132 [some (.ref 0), some (.ref 36), some (.int 6), some (.ref 35), some (.int (ce 0)), some (.int 1), some (.int (nI (rd_pl ce))), some (.int (nI (rd_tr ce))), some (.int (nI k)), some (.int (rd_y ce k)), some (.int (nI (rd_a ce k))), none, none, none, none] [] I L := fun hc => by
    have hl := nl_lt (rd_y ce k >>> ((3 : Int32) &&& 31)) (n := rd_pl ce - 1) (by omega)
    refine hG [(151, [])] 90 132 _ _ _ _ (Exists.intro (rd_pl ce - 1) (And.intro (ep) (And.intro (by omega) (And.intro (by omega) (?_)))))
    refine And.intro (nI_ne0 (by omega) (by omega)) (s151 _ ?_)
    rw [nI_1, nI_add, pk_rem (by omega) (by omega) (by omega)]
    unfold rd_b
    rw [if_neg hc]
  have s104 : ∀ v : Int32, v = nI (rd_a ce k) → G 104 [some (.ref 0), some (.ref 36), some (.int 6), some (.ref 35), some (.int (ce 0)), some (.int 1), some (.int (nI (rd_pl ce))), some (.int (nI (rd_tr ce))), some (.int (nI k)), some (.int (rd_y ce k)), none, none, none, none, none] [.int v] I L := fun v e => by
    rw [e]
    by_cases hk1 : k < rd_pl ce - 1
    · by_cases hx : 0 < (ce 0 >>> ((8 : Int32) &&& 31)) &&& 3
      · exact hG [(132, []), (151, [])] 90 104 _ _ _ _ (am_nf (show nI k < nI (rd_pl ce) - 1 by rw [ep]; exact nI_lt hk1 (by omega)) (am_nf hx (s151 _ (by unfold rd_b; rw [if_pos ⟨hk1, hx⟩, nI_1]))))
      · exact hG [(132, []), (151, [])] 90 104 _ _ _ _ (am_nf (show nI k < nI (rd_pl ce) - 1 by rw [ep]; exact nI_lt hk1 (by omega)) (am_nt hx (s132 (fun q => hx q.2))))
    · exact hG [(132, []), (151, [])] 90 104 _ _ _ _ (am_nt (show ¬ nI k < nI (rd_pl ce) - 1 by rw [ep]; exact nI_nlt (by omega) (by omega)) (s132 (fun q => hk1 q.1)))
  have s83 : G 83 [some (.ref 0), some (.ref 36), some (.int 6), some (.ref 35), some (.int (ce 0)), some (.int 1), some (.int (nI (rd_pl ce))), some (.int (nI (rd_tr ce))), some (.int (nI k)), some (.int (rd_y ce k)), none, none, none, none, none] [] I L := by
    by_cases hk1 : k < rd_pl ce - 1
    · exact hG [(104, [])] 90 83 _ _ _ _ (am_nf (show nI k < nI (rd_pl ce) - 1 by rw [ep]; exact nI_lt hk1 (by omega)) (s104 _ (by unfold rd_a; rw [if_pos hk1])))
    · refine hG [(104, [])] 90 83 _ _ _ _ (am_nt (show ¬ nI k < nI (rd_pl ce) - 1 by rw [ep]; exact nI_nlt (by omega) (by omega)) (Exists.intro (rd_pl ce) (And.intro (rfl) (And.intro (by omega) (And.intro (by omega) (?_))))))
      exact s104 _ (by unfold rd_a; rw [if_neg hk1])
  have e1 : (1 : Int32) + nI k / 3 = nI (1 + k / 3) := by
    rw [show (3 : Int32) = nI 3 from rfl, pk_div (by omega) (by omega) (by omega), show (1 : Int32) = nI 1 from rfl, nI_add]
  exact hG [(83, [])] 90 51 _ _ _ _ (am_nf (nI_lt hk (by omega)) (am_f (by decide) (And.intro (show ¬ (3 : Int32) = 0 by decide) (And.intro rfl (Exists.intro (1 + k / 3) (And.intro e1 (And.intro (by omega) (And.intro (show ¬ (3 : Int32) = 0 by decide) s83))))))))
end
section
/-! THE LAW: road, its loops -/
def RW (I : am_I) (G : Nat → Nat) : Prop := RV I G ∧ G 43 = 7 ∧ G 44 = 0
theorem RW_fr {I I2 : am_I} {G : Nat → Nat} (h : RW I G) (e : I2 35 = I 35) : RW I2 G := by
  unfold RW RV VW at *
  rw [e]
  exact h
theorem RW_add {I : am_I} {W : Nat → Nat} {a b : Nat} {d : Int32} {mn mx : Nat} {w : Int32} {c0 c1 c13 c25 : Nat} (h : RW I W) (h12 : W 0 < 12) (ha : a < 8) (hb : b < 8) (hmn : mn = if a < b then a else b) (hmx : mx = if a < b then b else a) (hw : (d = 0 ∧ w = 0) ∨ (¬ d = 0 ∧ w = (1 : Int32) <<< (nI (W 0) &&& 31))) (e0 : c0 = 0) (e1 : c1 = 1 + W 0) (e13 : c13 = 13 + W 0) (e25 : c25 = 25) :
    RW (am_ui (am_ui (am_ui (am_ui I 35 c1 (nI mn)) 35 c13 (nI mx)) 35 c25 ((am_ui (am_ui I 35 c1 (nI mn)) 35 c13 (nI mx)) 35 c25 ||| w)) 35 c0 ((am_ui (am_ui (am_ui I 35 c1 (nI mn)) 35 c13 (nI mx)) 35 c25 ((am_ui (am_ui I 35 c1 (nI mn)) 35 c13 (nI mx)) 35 c25 ||| w)) 35 c0 + 1)) (g_add W a b (!decide (d = 0))) := by
  subst e0 e1 e13 e25
  obtain ⟨⟨⟨hle, h0, hk⟩, h25, h26⟩, h43, h44⟩ := h
  have g0 : g_add W a b (!decide (d = 0)) 0 = W 0 + 1 := by simp [g_add]
  have ge1 : ∀ k, k < W 0 → g_add W a b (!decide (d = 0)) (1 + k) = W (1 + k) ∧ g_add W a b (!decide (d = 0)) (13 + k) = W (13 + k) := fun k hk => by
    constructor <;> (unfold g_add; rw [if_neg (by omega), if_neg (by omega), if_neg (by omega), if_neg (by omega)])
  have gea : g_add W a b (!decide (d = 0)) (1 + W 0) = mn := by
    unfold g_add
    rw [if_neg (by omega), if_pos rfl, hmn]
  have geb : g_add W a b (!decide (d = 0)) (13 + W 0) = mx := by
    unfold g_add
    rw [if_neg (by omega), if_neg (by omega), if_pos rfl, hmx]
  have ge25 : g_add W a b (!decide (d = 0)) 25 = if (!decide (d = 0)) = true then g_set (W 25) (W 0) else W 25 := by
    unfold g_add
    rw [if_neg (by omega), if_neg (by omega), if_neg (by omega), if_pos rfl]
  have q : ∀ j, am_ui (am_ui (am_ui (am_ui I 35 (1 + W 0) (nI mn)) 35 (13 + W 0) (nI mx)) 35 25 ((am_ui (am_ui I 35 (1 + W 0) (nI mn)) 35 (13 + W 0) (nI mx)) 35 25 ||| w)) 35 0 ((am_ui (am_ui (am_ui I 35 (1 + W 0) (nI mn)) 35 (13 + W 0) (nI mx)) 35 25 ((am_ui (am_ui I 35 (1 + W 0) (nI mn)) 35 (13 + W 0) (nI mx)) 35 25 ||| w)) 35 0 + 1) 35 j = if j = 0 then I 35 0 + 1 else if j = 25 then I 35 25 ||| w else if j = 13 + W 0 then nI mx else if j = 1 + W 0 then nI mn else I 35 j := by
    intro j
    have n1 : ¬ (0 = 1 + W 0) := by omega
    have n2 : ¬ (0 = 13 + W 0) := by omega
    have n3 : ¬ (25 = 1 + W 0) := by omega
    have n4 : ¬ (25 = 13 + W 0) := by omega
    simp only [am_ui_r, true_and, n1, n2, n3, n4, if_false, show ¬ ((0 : Nat) = 25) from by omega]
  refine ⟨⟨⟨by rw [g0]; omega, by rw [q, if_pos rfl, g0, h0, nI_1], fun k hkk => ?_⟩, ?_, ?_⟩, by rw [g_add_hi h12 (by omega)]; exact h43, by rw [g_add_hi h12 (by omega)]; exact h44⟩
  · rw [g0] at hkk
    have zz : (13 + k = 1 + W 0) = False := eq_false (by omega)
    have z0 : (1 + k = 13 + W 0) = False := eq_false (by omega)
    have z2 : (1 + k = 0) = False := eq_false (by omega)
    have z3 : (1 + k = 25) = False := eq_false (by omega)
    have z4 : (13 + k = 0) = False := eq_false (by omega)
    have z5 : (13 + k = 25) = False := eq_false (by omega)
    rw [q (1 + k), q (13 + k)]
    simp only [zz, z0, z2, z3, z4, z5, if_false]
    rcases Nat.lt_or_ge k (W 0) with z | z
    · obtain ⟨k1, k2, k3, k4⟩ := hk k z
      rw [if_neg (show ¬ 1 + k = 1 + W 0 by omega), if_neg (show ¬ 13 + k = 13 + W 0 by omega), (ge1 k z).1, (ge1 k z).2]
      exact ⟨k1, k2, k3, k4⟩
    · have ek : k = W 0 := by omega
      subst ek
      rw [if_pos rfl, if_pos rfl, gea, geb]
      refine ⟨rfl, rfl, ?_, ?_⟩
      · rw [hmn]; split <;> omega
      · rw [hmx]; split <;> omega
  · rw [q, if_neg (by omega), if_pos rfl, ge25, h25]
    rcases hw with ⟨x, y⟩ | ⟨x, y⟩
    · subst y
      have e0 : nI (W 25) ||| (0 : Int32) = nI (W 25) := by rw [show (0 : Int32) = nI 0 from rfl, nI_or, Nat.or_zero]
      rw [e0]
      simp [x]
    · subst y
      rw [g_set_I _ (by omega)]
      simp [x]
  · rw [q, if_neg (by omega), if_neg (by omega), if_neg (by omega), if_neg (by omega), g_add_hi h12 (by omega)]
    exact h26
theorem CR_35 {I I2 : am_I} {L : am_J} {A : am_A} (h : CR I L A) (e : ∀ a : Nat, a ≠ 35 → I2 a = I a) : CR I2 L A := CR_fr h (fun a ha => e a (by omega)) (fun a ha => rfl)
theorem ui_35 {I : am_I} {k : Nat} {x : Int32} : ∀ a : Nat, a ≠ 35 → am_ui I 35 k x a = I a := fun a ha => am_ui_o ha
set_option maxHeartbeats 16000000 in
set_option maxRecDepth 100000 in
theorem rd_out {post : am_Po} {ce : Nat → Int32} {G : am_G} (hG : ∀ (cuts : List (Nat × List Nat)) (n pc : Nat) (ls : am_Lv) (st : List Value) (I : am_I) (L : am_J), am_ev am_S3 (sp_LW_road ce) true post k_LW_road cuts G n pc ls st I L → G pc ls st I L) {k : Nat} {W : Nat → Nat} {R : (Nat → Nat) × Bool × Nat × (Nat → Nat) × (Nat → Int32) × (Nat → Nat) × (Nat → Nat → Int64)} (hk : k < rd_tr ce) {I : am_I} {L : am_J} (hA : rd_A ce k = (W, R)) (hC : CR I L (W, R)) (hV : RW I W)
    (next : ∀ (I2 : am_I) (L2 : am_J), CR I2 L2 (rd_A ce (k + 1)) → RW I2 (rd_A ce (k + 1)).1 → G 51 [some (.ref 0), some (.ref 36), some (.int 6), some (.ref 35), some (.int (ce 0)), some (.int 1), some (.int (nI (rd_pl ce))), some (.int (nI (rd_tr ce))), some (.int (nI (k + 1))), none, none, none, none, none, none] [] I2 L2) : G 224 [some (.ref 0), some (.ref 36), some (.int 6), some (.ref 35), some (.int (ce 0)), some (.int 1), some (.int (nI (rd_pl ce))), some (.int (nI (rd_tr ce))), some (.int (nI k)), some (.int (rd_y ce k)), some (.int (nI (rd_a ce k))), some (.int (nI (rd_b ce k))), some (.int (rd_d ce k)), some (.int (nI (W 0))), none] [.int (o_way (W, R) (nI (rd_a ce k)) (nI (rd_b ce k)) (rd_d ce k)).1] I L := by
  obtain ⟨ha, hb, hab⟩ := rd_ab ce k
  have hWG : WG W := hC.V.1
  obtain ⟨⟨hW, h25, h26⟩, h43, h44⟩ := id hV
  obtain ⟨h12, h0, hw⟩ := id hW
  have eA : rd_A ce (k + 1) = (o_way (W, R) (nI (rd_a ce k)) (nI (rd_b ce k)) (rd_d ce k)).2 := by
    show (o_way (rd_A ce k) (nI (rd_a ce k)) (nI (rd_b ce k)) (rd_d ce k)).2 = _
    rw [hA]
  have s345 : ∀ (r : Int32) (I2 : am_I) (L2 : am_J), CR I2 L2 (rd_A ce (k + 1)) → RW I2 (rd_A ce (k + 1)).1 → G 345 [some (.ref 0), some (.ref 36), some (.int 6), some (.ref 35), some (.int (ce 0)), some (.int 1), some (.int (nI (rd_pl ce))), some (.int (nI (rd_tr ce))), some (.int (nI k)), some (.int (rd_y ce k)), some (.int (nI (rd_a ce k))), some (.int (nI (rd_b ce k))), some (.int (rd_d ce k)), some (.int (nI (W 0))), some (.int r)] [] I2 L2 := fun r I2 L2 g1 g2 => by
    refine hG [(51, [1, 1, 1, 1, 1, 1, 1, 1, 1, 0, 0, 0, 0, 0, 0])] 90 345 _ _ _ _ ?_
    show G 51 [some (.ref 0), some (.ref 36), some (.int 6), some (.ref 35), some (.int (ce 0)), some (.int 1), some (.int (nI (rd_pl ce))), some (.int (nI (rd_tr ce))), some (.int (nI k + 1)), none, none, none, none, none, none] [] I2 L2
    rw [nI_1]
    exact next I2 L2 g1 g2
  have ref : ∀ r : Int32, r < 0 → o_way (W, R) (nI (rd_a ce k)) (nI (rd_b ce k)) (rd_d ce k) = (r, (W, R)) → G 224 [some (.ref 0), some (.ref 36), some (.int 6), some (.ref 35), some (.int (ce 0)), some (.int 1), some (.int (nI (rd_pl ce))), some (.int (nI (rd_tr ce))), some (.int (nI k)), some (.int (rd_y ce k)), some (.int (nI (rd_a ce k))), some (.int (nI (rd_b ce k))), some (.int (rd_d ce k)), some (.int (nI (W 0))), none] [.int (o_way (W, R) (nI (rd_a ce k)) (nI (rd_b ce k)) (rd_d ce k)).1] I L := fun r hr e => by
    have e1 : (o_way (W, R) (nI (rd_a ce k)) (nI (rd_b ce k)) (rd_d ce k)).1 = r := by rw [e]
    rw [e1]
    exact hG [(345, [])] 90 224 _ _ _ _ (am_t hr (tw3 (fun post2 hp2 => And.intro rfl (Exists.intro (W, R) (And.intro hC (fun Ix Lx hx => hp2 Ix Lx hx)))) rfl (fun I1 L1 h1 e35 => am_nf e1 (am_t hr (s345 r I1 L1 (by rw [eA]; exact h1) (by rw [eA, e]; exact RW_fr hV e35))))))
  by_cases hj : g_wy W (rd_a ce k) (rd_b ce k) = 0
  · by_cases hf : W 0 = 12 ∨ (¬ rd_d ce k = 0 ∧ g_pc (W 25) 12 = 6)
    · exact ref (-3) (by decide) (ow_F ha hb hab hj hf)
    · have e := ow_N (R := R) ha hb hab hj hf
      have h12' : W 0 < 12 := by
        rcases Nat.lt_or_ge (W 0) 12 with z | z
        · exact z
        · exact absurd (Or.inl (by omega)) hf
      have e1 : (o_way (W, R) (nI (rd_a ce k)) (nI (rd_b ce k)) (rd_d ce k)).1 = nI (W 0) := by rw [e]
      have hr : ¬ nI (W 0) < 0 := nI_pos (by omega)
      have ei1 : (1 : Int32) + nI (W 0) = nI (1 + W 0) := by rw [show (1 : Int32) = nI 1 from rfl, nI_add]
      have ei13 : (13 : Int32) + nI (W 0) = nI (13 + W 0) := by rw [show (13 : Int32) = nI 13 from rfl, nI_add]
      have i1 : vp_in ((1 : Int32) + nI (W 0)) 51 := by rw [ei1]; exact am_vin (by omega) rfl
      have i13 : vp_in ((13 : Int32) + nI (W 0)) 51 := by rw [ei13]; exact am_vin (by omega) rfl
      have i0 : vp_in (0 : Int32) 51 := am_vin (show 0 < 51 by omega) rfl
      have i25 : vp_in (25 : Int32) 51 := am_vin (show 25 < 51 by omega) rfl
      have c1 : ((1 : Int32) + nI (W 0)).toNatClampNeg = 1 + W 0 := by rw [ei1, nI_clamp (by omega)]
      have c13 : ((13 : Int32) + nI (W 0)).toNatClampNeg = 13 + W 0 := by rw [ei13, nI_clamp (by omega)]
      rw [e1]
      have s277 : ∀ (I1 : am_I) (L1 : am_J), CR I1 L1 (o_way (W, R) (nI (rd_a ce k)) (nI (rd_b ce k)) (rd_d ce k)).2 → I1 35 = I 35 → G 277 [some (.ref 0), some (.ref 36), some (.int 6), some (.ref 35), some (.int (ce 0)), some (.int 1), some (.int (nI (rd_pl ce))), some (.int (nI (rd_tr ce))), some (.int (nI k)), some (.int (rd_y ce k)), some (.int (nI (rd_a ce k))), some (.int (nI (rd_b ce k))), some (.int (rd_d ce k)), some (.int (nI (W 0))), some (.int (nI (W 0)))] [] I1 L1 := fun I1 L1 h1 e35 => by
        by_cases hlt : rd_a ce k < rd_b ce k
        · rcases rd_d_b ce k with hd | hd
          · exact hG [(345, [])] 90 277 _ _ _ _ (am_nf (nI_lt hlt (by omega)) (And.intro i1 (am_nf (nI_lt hlt (by omega)) (And.intro i13 (And.intro i25 (am_t hd (And.intro i25 (And.intro i0 (And.intro i0 (s345 _ _ L1 (CR_35 (CR_35 (CR_35 (CR_35 (by rw [eA]; exact h1) ui_35) ui_35) ui_35) ui_35) (by rw [eA, e]; exact RW_add (RW_fr hV e35) h12' ha hb (by rw [if_pos hlt]) (by rw [if_pos hlt]) (Or.inl ⟨hd, rfl⟩) rfl c1 c13 rfl)))))))))))
          · have hd0 : ¬ rd_d ce k = 0 := by rw [hd]; decide
            exact hG [(345, [])] 90 277 _ _ _ _ (am_nf (nI_lt hlt (by omega)) (And.intro i1 (am_nf (nI_lt hlt (by omega)) (And.intro i13 (And.intro i25 (am_f hd0 (And.intro i25 (And.intro i0 (And.intro i0 (s345 _ _ L1 (CR_35 (CR_35 (CR_35 (CR_35 (by rw [eA]; exact h1) ui_35) ui_35) ui_35) ui_35) (by rw [eA, e]; exact RW_add (RW_fr hV e35) h12' ha hb (by rw [if_pos hlt]) (by rw [if_pos hlt]) (Or.inr ⟨hd0, rfl⟩) rfl c1 c13 rfl)))))))))))
        · rcases rd_d_b ce k with hd | hd
          · exact hG [(345, [])] 90 277 _ _ _ _ (am_nt (nI_nlt (by omega) (by omega)) (And.intro i1 (am_nt (nI_nlt (by omega) (by omega)) (And.intro i13 (And.intro i25 (am_t hd (And.intro i25 (And.intro i0 (And.intro i0 (s345 _ _ L1 (CR_35 (CR_35 (CR_35 (CR_35 (by rw [eA]; exact h1) ui_35) ui_35) ui_35) ui_35) (by rw [eA, e]; exact RW_add (RW_fr hV e35) h12' ha hb (by rw [if_neg hlt]) (by rw [if_neg hlt]) (Or.inl ⟨hd, rfl⟩) rfl c1 c13 rfl)))))))))))
          · have hd0 : ¬ rd_d ce k = 0 := by rw [hd]; decide
            exact hG [(345, [])] 90 277 _ _ _ _ (am_nt (nI_nlt (by omega) (by omega)) (And.intro i1 (am_nt (nI_nlt (by omega) (by omega)) (And.intro i13 (And.intro i25 (am_f hd0 (And.intro i25 (And.intro i0 (And.intro i0 (s345 _ _ L1 (CR_35 (CR_35 (CR_35 (CR_35 (by rw [eA]; exact h1) ui_35) ui_35) ui_35) ui_35) (by rw [eA, e]; exact RW_add (RW_fr hV e35) h12' ha hb (by rw [if_neg hlt]) (by rw [if_neg hlt]) (Or.inr ⟨hd0, rfl⟩) rfl c1 c13 rfl)))))))))))
      have s250 : G 250 [some (.ref 0), some (.ref 36), some (.int 6), some (.ref 35), some (.int (ce 0)), some (.int 1), some (.int (nI (rd_pl ce))), some (.int (nI (rd_tr ce))), some (.int (nI k)), some (.int (rd_y ce k)), some (.int (nI (rd_a ce k))), some (.int (nI (rd_b ce k))), some (.int (rd_d ce k)), some (.int (nI (W 0))), some (.int (nI (W 0)))] [] I L := hG [(277, [])] 90 250 _ _ _ _ (tw3 (fun post2 hp2 => And.intro rfl (Exists.intro (W, R) (And.intro hC (fun Ix Lx hx => hp2 Ix Lx hx)))) rfl (fun I1 L1 h1 e35 => am_nf e1 (am_f hr (s277 I1 L1 h1 e35))))
      rcases rd_d_b ce k with hd | hd
      · exact hG [(250, [])] 90 224 _ _ _ _ (am_f hr (am_t hd s250))
      · have hd0 : ¬ rd_d ce k = 0 := by rw [hd]; decide
        exact hG [(250, [])] 90 224 _ _ _ _ (am_f hr (am_f hd0 (And.intro i25 (Exists.intro (W 25) (And.intro h25 (am_nt (fun z => hf (Or.inr ⟨hd0, (nI_eq (b := 6) (by have := g_pc_le (W 25) 12; omega) (by omega)).mp z⟩)) s250))))))
  · exact ref (-2) (by decide) (ow_J ha hb hab hj)
theorem RW_ref {I : am_I} {W : Nat → Nat} {s w : Int32} {c26 c50 c51 : Nat} (h : RW I W) (e26 : c26 = 26) (e50 : c50 = 50) (e51 : c51 = 50) : RW (am_ui (am_ui (am_ui I 35 c26 (I 35 c26 ||| 0)) 35 c50 s) 35 c51 w) W := by
  subst e26 e50 e51
  obtain ⟨⟨⟨hle, h0, hk⟩, h25, h26⟩, h43, h44⟩ := h
  have q : ∀ j, j < 50 → am_ui (am_ui (am_ui I 35 26 (I 35 26 ||| 0)) 35 50 s) 35 50 w 35 j = I 35 j := fun j hj => by
    rw [am_uk (by omega), am_uk (by omega)]
    by_cases e : j = 26
    · subst e
      rw [am_ui_r, if_pos ⟨rfl, rfl⟩, h26, show (0 : Int32) = nI 0 from rfl, nI_or, Nat.or_zero]
    · rw [am_uk e]
  refine ⟨⟨⟨hle, by rw [q 0 (by omega)]; exact h0, fun k hkk => ?_⟩, by rw [q 25 (by omega)]; exact h25, by rw [q 26 (by omega)]; exact h26⟩, h43, h44⟩
  rw [q _ (by omega), q _ (by omega)]
  exact hk k hkk
theorem RW_stone {I : am_I} {W : Nat → Nat} {p s w : Nat} {c26 c27 c35 : Nat} (h : RW I W) (hp : p < 8) (e26 : c26 = 26) (e27 : c27 = 27 + p) (e35 : c35 = 35 + p) : RW (am_ui (am_ui (am_ui I 35 c26 (I 35 c26 ||| ((1 : Int32) <<< (nI p &&& 31)))) 35 c27 (nI s)) 35 c35 (nI w)) (g_put (g_put (g_put W (27 + p) s) (35 + p) w) 26 (g_set (W 26) p)) := by
  subst e26 e27 e35
  obtain ⟨⟨⟨hle, h0, hk⟩, h25, h26⟩, h43, h44⟩ := h
  have q : ∀ j, j < 26 → am_ui (am_ui (am_ui I 35 26 (I 35 26 ||| ((1 : Int32) <<< (nI p &&& 31)))) 35 (27 + p) (nI s)) 35 (35 + p) (nI w) 35 j = I 35 j := fun j hj => by
    rw [am_uk (by omega), am_uk (by omega), am_uk (by omega)]
  have g : ∀ j, (j < 26 ∨ 42 < j) → g_put (g_put (g_put W (27 + p) s) (35 + p) w) 26 (g_set (W 26) p) j = W j := fun j hj => by
    unfold g_put
    rw [if_neg (by omega), if_neg (by omega), if_neg (by omega)]
  refine ⟨⟨⟨by rw [g 0 (by omega)]; exact hle, by rw [q 0 (by omega), g 0 (by omega)]; exact h0, fun k hkk => ?_⟩, by rw [q 25 (by omega), g 25 (by omega)]; exact h25, ?_⟩, by rw [g 43 (by omega)]; exact h43, by rw [g 44 (by omega)]; exact h44⟩
  · rw [g 0 (by omega)] at hkk
    rw [q _ (by omega), q _ (by omega), g _ (by omega), g _ (by omega)]
    exact hk k hkk
  · rw [am_uk (by omega), am_uk (by omega), am_ui_r, if_pos ⟨rfl, rfl⟩, h26, g_set_I _ (by omega)]
    simp [g_put]
theorem g_pc_pos {m p : Nat} : ∀ n, p < n → 0 < g_pc (g_set m p) n := by
  intro n
  induction n with
  | zero => intro h; omega
  | succ n ih =>
    intro h
    simp only [g_pc]
    rcases Nat.lt_or_ge p n with z | z
    · have := ih z; omega
    · have : p = n := by omega
      subst this
      rw [g_set_t]
      simp
set_option maxHeartbeats 16000000 in
set_option maxRecDepth 100000 in
theorem rs_step {post : am_Po} {ce : Nat → Int32} {G : am_G} (hG : ∀ (cuts : List (Nat × List Nat)) (n pc : Nat) (ls : am_Lv) (st : List Value) (I : am_I) (L : am_J), am_ev am_S3 (sp_LW_road ce) true post k_LW_road cuts G n pc ls st I L → G pc ls st I L) {k : Nat} {W : Nat → Nat} {R : (Nat → Nat) × Bool × Nat × (Nat → Nat) × (Nat → Int32) × (Nat → Nat) × (Nat → Nat → Int64)} (hk : k < 8) (hx : 0 < (ce 0 >>> ((10 : Int32) &&& 31)) &&& 7) {I : am_I} {L : am_J} (hA : rs_A ce k = (W, R)) (hC : CR I L (W, R)) (hV : RW I W)
    (next : ∀ (I2 : am_I) (L2 : am_J), CR I2 L2 (rs_A ce (k + 1)) → RW I2 (rs_A ce (k + 1)).1 → G 354 [some (.ref 0), some (.ref 36), some (.int 6), some (.ref 35), some (.int (ce 0)), some (.int 1), some (.int (nI (rd_pl ce))), some (.int (nI (rd_tr ce))), some (.int (nI (k + 1))), none, none, none, none, none, none] [] I2 L2) : G 354 [some (.ref 0), some (.ref 36), some (.int 6), some (.ref 35), some (.int (ce 0)), some (.int 1), some (.int (nI (rd_pl ce))), some (.int (nI (rd_tr ce))), some (.int (nI k)), none, none, none, none, none, none] [] I L := by
  have hpl := rd_pl_b ce
  obtain ⟨⟨hW, h25, h26⟩, h43, h44⟩ := id hV
  obtain ⟨h12, h0, hw⟩ := id hW
  have hp : rs_p ce k < 8 := by have := nl_lt (rs_y ce k) (n := rd_pl ce) (by omega); unfold rs_p; omega
  have hs : rs_s ce k < 8 := by have := nl_lt (rs_y ce k >>> ((3 : Int32) &&& 31)) (n := rd_pl ce) (by omega); unfold rs_s; omega
  obtain ⟨w, hwd⟩ : ∃ w, w = nl (rs_y ce k >>> ((6 : Int32) &&& 31)) (W 0 + 1) := ⟨_, rfl⟩
  have hwl : w < W 0 + 1 := by rw [hwd]; exact nl_lt _ (by omega)
  have ew : rs_w ce (rs_A ce k) k = w := by unfold rs_w; rw [hA, hwd]
  have i0 : vp_in (0 : Int32) 51 := am_vin (show 0 < 51 by omega) rfl
  have i26 : vp_in (26 : Int32) 51 := am_vin (show 26 < 51 by omega) rfl
  have i50 : vp_in (50 : Int32) 51 := am_vin (show 50 < 51 by omega) rfl
  have ei27 : (27 : Int32) + nI (rs_p ce k) = nI (27 + rs_p ce k) := by rw [show (27 : Int32) = nI 27 from rfl, nI_add]
  have ei35 : (35 : Int32) + nI (rs_p ce k) = nI (35 + rs_p ce k) := by rw [show (35 : Int32) = nI 35 from rfl, nI_add]
  have i27 : vp_in ((27 : Int32) + nI (rs_p ce k)) 51 := by rw [ei27]; exact am_vin (by omega) rfl
  have i35 : vp_in ((35 : Int32) + nI (rs_p ce k)) 51 := by rw [ei35]; exact am_vin (by omega) rfl
  have c27 : ((27 : Int32) + nI (rs_p ce k)).toNatClampNeg = 27 + rs_p ce k := by rw [ei27, nI_clamp (by omega)]
  have c35 : ((35 : Int32) + nI (rs_p ce k)).toNatClampNeg = 35 + rs_p ce k := by rw [ei35, nI_clamp (by omega)]
  have s567 : ∀ (I2 : am_I) (L2 : am_J), CR I2 L2 (rs_A ce (k + 1)) → RW I2 (rs_A ce (k + 1)).1 → G 567 [some (.ref 0), some (.ref 36), some (.int 6), some (.ref 35), some (.int (ce 0)), some (.int 1), some (.int (nI (rd_pl ce))), some (.int (nI (rd_tr ce))), some (.int (nI k)), none, none, none, none, none, none] [] I2 L2 := fun I2 L2 g1 g2 => by
    refine hG [(354, [])] 90 567 _ _ _ _ ?_
    show G 354 [some (.ref 0), some (.ref 36), some (.int 6), some (.ref 35), some (.int (ce 0)), some (.int 1), some (.int (nI (rd_pl ce))), some (.int (nI (rd_tr ce))), some (.int (nI k + 1)), none, none, none, none, none, none] [] I2 L2
    rw [nI_1]
    exact next I2 L2 g1 g2
  have s485 : ¬ nl (rs_y ce k >>> ((10 : Int32) &&& 31)) 4 = 0 → ∀ v : Int32, v = (o_stone (W, R) (nI (rs_p ce k)) (nI (rs_s ce k)) (nI w)).1 → G 485 [some (.ref 0), some (.ref 36), some (.int 6), some (.ref 35), some (.int (ce 0)), some (.int 1), some (.int (nI (rd_pl ce))), some (.int (nI (rd_tr ce))), some (.int (nI k)), some (.int (rs_y ce k)), some (.int (nI (rs_p ce k))), some (.int (nI (rs_s ce k))), some (.int (nI w)), none, none] [.int v] I L := fun hz v ev => by
    have eA : rs_A ce (k + 1) = (o_stone (W, R) (nI (rs_p ce k)) (nI (rs_s ce k)) (nI w)).2 := by
      show (if nl (rs_y ce k >>> ((10 : Int32) &&& 31)) 4 = 0 then rs_A ce k else (o_stone (rs_A ce k) (nI (rs_p ce k)) (nI (rs_s ce k)) (nI (rs_w ce (rs_A ce k) k))).2) = _
      rw [if_neg hz, ew, hA]
    have ref : ∀ r : Int32, ¬ 0 < r → o_stone (W, R) (nI (rs_p ce k)) (nI (rs_s ce k)) (nI w) = (r, (W, R)) → G 485 [some (.ref 0), some (.ref 36), some (.int 6), some (.ref 35), some (.int (ce 0)), some (.int 1), some (.int (nI (rd_pl ce))), some (.int (nI (rd_tr ce))), some (.int (nI k)), some (.int (rs_y ce k)), some (.int (nI (rs_p ce k))), some (.int (nI (rs_s ce k))), some (.int (nI w)), none, none] [.int v] I L := fun r hr e => by
      have e1 : (o_stone (W, R) (nI (rs_p ce k)) (nI (rs_s ce k)) (nI w)).1 = v := ev.symm
      have hr2 : ¬ 0 < v := by rw [ev, e]; exact hr
      refine hG [(567, [1, 1, 1, 1, 1, 1, 1, 1, 1, 0, 0, 0, 0, 0, 0])] 120 485 _ _ _ _ (tw3 (fun post2 hp2 => And.intro rfl (Exists.intro (W, R) (And.intro hC (fun Ix Lx hx => hp2 Ix Lx hx)))) rfl (fun I1 L1 h1 e35 => am_nf e1 (And.intro i26 (am_nt hr2 (And.intro i26 (am_nt hr2 (And.intro i50 (am_nt hr2 (And.intro i50 (s567 _ L1 (CR_35 (CR_35 (CR_35 (by rw [eA]; exact h1) ui_35) ui_35) ui_35) (by rw [eA, e]; exact RW_ref (RW_fr hV e35) rfl rfl rfl)))))))))))
    by_cases hwz : w = W 0
    · exact ref (-1) (by decide) (os_B hwz)
    · by_cases hj : g_wy W (rs_p ce k) (rs_s ce k) = 0
      · exact ref (-2) (by decide) (os_J hp hs (by omega) h12 hj)
      · have e := os_N (R := R) hp hs (show w < W 0 by omega) h12 hj
        have e1 : (o_stone (W, R) (nI (rs_p ce k)) (nI (rs_s ce k)) (nI w)).1 = v := ev.symm
        have hr2 : 0 < v := by
          rw [ev, e]
          exact nI_lt (a := 0) (g_pc_pos 12 (by omega)) (by have := g_pc_le (g_set (W 26) (rs_p ce k)) 12; omega)
        refine hG [(567, [1, 1, 1, 1, 1, 1, 1, 1, 1, 0, 0, 0, 0, 0, 0])] 120 485 _ _ _ _ (tw3 (fun post2 hp2 => And.intro rfl (Exists.intro (W, R) (And.intro hC (fun Ix Lx hx => hp2 Ix Lx hx)))) rfl (fun I1 L1 h1 e35 => am_nf e1 (And.intro i26 (am_nf hr2 (And.intro i26 (am_nf hr2 (And.intro i27 (am_nf hr2 (And.intro i35 (s567 _ L1 (CR_35 (CR_35 (CR_35 (by rw [eA]; exact h1) ui_35) ui_35) ui_35) (by rw [eA, e]; exact RW_stone (RW_fr hV e35) hp rfl c27 c35)))))))))))
  have s445 : ¬ nl (rs_y ce k >>> ((10 : Int32) &&& 31)) 4 = 0 → G 445 [some (.ref 0), some (.ref 36), some (.int 6), some (.ref 35), some (.int (ce 0)), some (.int 1), some (.int (nI (rd_pl ce))), some (.int (nI (rd_tr ce))), some (.int (nI k)), some (.int (rs_y ce k)), some (.int (nI (rs_p ce k))), some (.int (nI (rs_s ce k))), some (.int (nI w)), none, none] [] I L := fun hz => by
    by_cases hwz : w = W 0
    · exact hG [(485, []), (457, [])] 90 445 _ _ _ _ (And.intro i0 (am_nf (show nI w = I 35 0 by rw [h0, hwz]) (s485 hz _ (by rw [os_B hwz]))))
    · have hn : ¬ nI w = I 35 0 := by rw [h0, nI_eq (by omega) (by omega)]; exact hwz
      by_cases hj : g_wy W (rs_p ce k) (rs_s ce k) = 0
      · have hneg : nI (g_wy W (rs_p ce k) (rs_s ce k)) - 1 < 0 := by rw [hj]; decide
        exact hG [(485, [])] 90 445 _ _ _ _ (And.intro i0 (am_nt hn (And.intro rfl (Exists.intro W (Exists.intro (rs_p ce k) (Exists.intro (rs_s ce k) (And.intro hW (And.intro rfl (And.intro rfl (And.intro hp (And.intro hs (am_nf hneg (s485 hz _ (by rw [os_J hp hs (show w < W 0 by omega) h12 hj]))))))))))))))
      · have hpos : ¬ nI (g_wy W (rs_p ce k) (rs_s ce k)) - 1 < 0 := by
          obtain ⟨m, hm⟩ : ∃ m, g_wy W (rs_p ce k) (rs_s ce k) = m + 1 := ⟨g_wy W (rs_p ce k) (rs_s ce k) - 1, by omega⟩
          have := g_wy_le W (rs_p ce k) (rs_s ce k)
          rw [hm, nI_pred]
          exact nI_pos (by omega)
        have eb : I 35 26 ||| ((1 : Int32) <<< (nI (rs_p ce k) &&& 31)) = nI (g_set (W 26) (rs_p ce k)) := by rw [h26, g_set_I _ (by omega)]
        exact hG [(485, [])] 90 445 _ _ _ _ (And.intro i0 (am_nt hn (And.intro rfl (Exists.intro W (Exists.intro (rs_p ce k) (Exists.intro (rs_s ce k) (And.intro hW (And.intro rfl (And.intro rfl (And.intro hp (And.intro hs (am_nt hpos (And.intro i26 (Exists.intro (g_set (W 26) (rs_p ce k)) (And.intro eb (s485 hz _ (by rw [os_N hp hs (show w < W 0 by omega) h12 hj])))))))))))))))))
  have ez : I 35 0 + 1 = nI (W 0 + 1) := by rw [h0, nI_1]
  have s398 : G 398 [some (.ref 0), some (.ref 36), some (.int 6), some (.ref 35), some (.int (ce 0)), some (.int 1), some (.int (nI (rd_pl ce))), some (.int (nI (rd_tr ce))), some (.int (nI k)), some (.int (rs_y ce k)), none, none, none, none, none] [] I L := by
    refine hG [(445, []), (567, [1, 1, 1, 1, 1, 1, 1, 1, 1, 0, 0, 0, 0, 0, 0])] 90 398 _ _ _ _ (Exists.intro (rd_pl ce) (And.intro (rfl) (And.intro (by omega) (And.intro (by omega) (Exists.intro (rd_pl ce) (And.intro (rfl) (And.intro (by omega) (And.intro (by omega) (And.intro i0 (Exists.intro (W 0 + 1) (And.intro (ez) (And.intro (by omega) (And.intro (by omega) (?_))))))))))))))
    rw [← hwd]
    by_cases hz : nl (rs_y ce k >>> ((10 : Int32) &&& 31)) 4 = 0
    · exact Exists.intro (4) (And.intro (rfl) (And.intro (by omega) (And.intro (by omega) (am_nt (by rw [hz]; decide) (s567 I L (by show CR I L (if nl (rs_y ce k >>> ((10 : Int32) &&& 31)) 4 = 0 then rs_A ce k else _); rw [if_pos hz, hA]; exact hC) (by show RW I (if nl (rs_y ce k >>> ((10 : Int32) &&& 31)) 4 = 0 then rs_A ce k else _).1; rw [if_pos hz, hA]; exact hV))))))
    · exact Exists.intro (4) (And.intro (rfl) (And.intro (by omega) (And.intro (by omega) (am_nf (show (0 : Int32) < nI _ from nI_lt (a := 0) (by omega) (by have := nl_lt (rs_y ce k >>> ((10 : Int32) &&& 31)) (n := 4) (by omega); omega)) (s445 hz)))))
  have e7 : (7 : Int32) + nI k / 2 = nI (7 + k / 2) := by
    rw [show (2 : Int32) = nI 2 from rfl, pk_div (by omega) (by omega) (by omega), show (7 : Int32) = nI 7 from rfl, nI_add]
  exact hG [(398, [])] 90 354 _ _ _ _ (am_nf (am_lt hk rfl) (am_f (by decide) (am_nf hx (And.intro (show ¬ (2 : Int32) = 0 by decide) (And.intro rfl (Exists.intro (7 + k / 2) (And.intro e7 (And.intro (by omega) (And.intro (show ¬ (2 : Int32) = 0 by decide) s398)))))))))
end
section
/-! THE LAW: road, whole -/
theorem snow_sub (c : Int32) (d : Nat) : (c &&& nI d) &&& (nI d ^^^ (-1)) = 0 := by
  apply b_ext
  intro i hi
  rw [b_and, b_and, bt_not hi, b_0]
  cases bt c i <;> cases bt (nI d) i <;> rfl
theorem oh_N {G : Nat → Nat} {R : (Nat → Nat) × Bool × Nat × (Nat → Nat) × (Nat → Int32) × (Nat → Nat) × (Nat → Nat → Int64)} {p : Nat} (hp : p < 8) : o_home (G, R) (nI p) = (nI (G 43), (g_put G 43 p, R)) := by
  unfold o_home; dsimp only
  rw [if_neg (fun q => q (am_pl8 hp)), nI_clamp (by omega)]
set_option maxHeartbeats 16000000 in
set_option maxRecDepth 100000 in
theorem rd_end {post : am_Po} {ce : Nat → Int32} {G : am_G} (hG : ∀ (cuts : List (Nat × List Nat)) (n pc : Nat) (ls : am_Lv) (st : List Value) (I : am_I) (L : am_J), am_ev am_S3 (sp_LW_road ce) true post k_LW_road cuts G n pc ls st I L → G pc ls st I L) {i8 : Int32} {W : Nat → Nat} {R : (Nat → Nat) × Bool × Nat × (Nat → Nat) × (Nat → Int32) × (Nat → Nat) × (Nat → Nat → Int64)} {I : am_I} {L : am_J} (hA : rs_A ce (rs_n ce) = (W, R)) (hC : CR I L (W, R)) (hV : RW I W)
    (hp : ∀ (I2 : am_I) (L2 : am_J), CR I2 L2 (o_road ce) → post (some (.int 1)) I2 L2) : G 573 [some (.ref 0), some (.ref 36), some (.int 6), some (.ref 35), some (.int (ce 0)), some (.int 1), some (.int (nI (rd_pl ce))), some (.int (nI (rd_tr ce))), some (.int i8), none, none, none, none, none, none] [] I L := by
  have hpl := rd_pl_b ce
  have hh : rd_h ce < 8 := by have := nl_lt (ce 0 >>> ((13 : Int32) &&& 31)) (n := rd_pl ce) (by omega); unfold rd_h; omega
  obtain ⟨⟨hW, h25, h26⟩, h43, h44⟩ := id hV
  have i43 : vp_in (43 : Int32) 51 := am_vin (show 43 < 51 by omega) rfl
  have i44 : vp_in (44 : Int32) 51 := am_vin (show 44 < 51 by omega) rfl
  have i25 : vp_in (25 : Int32) 51 := am_vin (show 25 < 51 by omega) rfl
  have eo : o_road ce = (o_snow (g_put W 43 (rd_h ce), R) (ce 11 &&& nI (W 25))).2 := by
    unfold o_road
    rw [hA, oh_N hh]
  have e25 : g_put W 43 (rd_h ce) 25 = W 25 := by simp [g_put]
  have e44 : g_put W 43 (rd_h ce) 44 = 0 := by simp [g_put, h44]
  have esn : (o_snow (g_put W 43 (rd_h ce), R) (ce 11 &&& nI (W 25))).1 = 0 := by
    unfold o_snow; dsimp only
    rw [e25, if_neg (fun q => q (snow_sub _ _)), e44]
    rfl
  have s625 : ∀ v : Int32, v = ce 11 &&& nI (W 25) → ∀ (I2 : am_I) (L2 : am_J), CR I2 L2 (g_put W 43 (rd_h ce), R) → G 625 [some (.ref 0), some (.ref 36), some (.int 6), some (.ref 35), some (.int (ce 0)), some (.int 1), some (.int (nI (rd_pl ce))), some (.int (nI (rd_tr ce))), some (.int i8), none, none, none, none, none, none] [.int v, .ref 0] I2 L2 := fun v ev I2 L2 h2 => by
    rw [ev]
    exact hG [] 90 625 _ _ _ _ (tw3 (fun post2 hp2 => And.intro rfl (Exists.intro ((g_put W 43 (rd_h ce), R)) (And.intro h2 (fun Ix Lx hx => hp2 Ix Lx hx)))) rfl (fun I3 L3 h3 e35 => am_nf esn (And.intro (Or.inr rfl) (hp I3 L3 (by rw [eo]; exact h3)))))
  have s612 : ∀ v : Int32, v = nI (rd_h ce) → ∀ (I2 : am_I) (L2 : am_J), CR I2 L2 (W, R) → I2 35 44 = ce 11 &&& nI (W 25) → G 612 [some (.ref 0), some (.ref 36), some (.int 6), some (.ref 35), some (.int (ce 0)), some (.int 1), some (.int (nI (rd_pl ce))), some (.int (nI (rd_tr ce))), some (.int i8), none, none, none, none, none, none] [.int v, .ref 0] I2 L2 := fun v ev I2 L2 h2 e2 => by
    rw [ev]
    exact hG [(625, [])] 90 612 _ _ _ _ (tw3 (fun post2 hp2 => And.intro rfl (Exists.intro ((W, R)) (And.intro h2 (fun Ix Lx hx => hp2 Ix Lx hx)))) rfl (fun I3 L3 h3 e35 => am_nf (show (o_home (W, R) (nI (rd_h ce))).1 = 7 by rw [oh_N hh, h43]; rfl) (And.intro i44 (s625 _ (show I3 35 44 = _ by rw [e35, e2]) I3 L3 (by rw [oh_N hh] at h3; exact h3)))))
  refine hG [(612, [])] 90 573 _ _ _ _ (Exists.intro (rd_pl ce) (And.intro (rfl) (And.intro (by omega) (And.intro (by omega) (?_)))))
  refine And.intro i43 (And.intro rfl (Exists.intro 11 (And.intro rfl (And.intro (by omega) (And.intro i25 (And.intro i44 (am_f (by decide) (And.intro i43 (s612 _ ?_ _ L (CR_35 (CR_35 hC ui_35) ui_35) ?_)))))))))
  · show am_ui (am_ui I 35 43 (nI (rd_h ce))) 35 44 _ 35 43 = nI (rd_h ce)
    rw [am_uk (by omega), am_ui_r, if_pos ⟨rfl, rfl⟩]
  · show am_ui (am_ui I 35 43 (nI (rd_h ce))) 35 44 (ce 11 &&& am_ui I 35 43 (nI (rd_h ce)) 35 25) 35 44 = ce 11 &&& nI (W 25)
    rw [am_ui_r, if_pos ⟨rfl, rfl⟩, am_uk (by omega), h25]
set_option maxHeartbeats 16000000 in
set_option maxRecDepth 100000 in
theorem ok_LW_road (ce : Nat → Int32) : am_Ok am_S3 (sp_LW_road ce) true k_LW_road 15 (T_LW_road ce) := by
  intro vs I L post h
  unfold T_LW_road at h
  split at h
  · rename_i o s d v
    obtain ⟨rfl, rfl, rfl, rfl, hC, hp⟩ := h
    refine ⟨Nat.le_of_ble_eq_true rfl, fun G hG => ?_⟩
    have htr := rd_tr_b ce
    have stones : ∀ n k : Nat, 8 - k = n → k ≤ 8 → 0 < (ce 0 >>> ((10 : Int32) &&& 31)) &&& 7 → ∀ (I : am_I) (L : am_J), CR I L (rs_A ce k) → RW I (rs_A ce k).1 → G 354 [some (.ref 0), some (.ref 36), some (.int 6), some (.ref 35), some (.int (ce 0)), some (.int 1), some (.int (nI (rd_pl ce))), some (.int (nI (rd_tr ce))), some (.int (nI k)), none, none, none, none, none, none] [] I L := by
      intro n
      induction n with
      | zero =>
        intro k hn hk hx I L h1 h2
        have e : k = 8 := by omega
        subst e
        obtain ⟨⟨W, R⟩, hA⟩ : ∃ A, rs_A ce 8 = A := ⟨_, rfl⟩
        rw [hA] at h1 h2
        exact hG [(573, [])] 90 354 _ _ _ _ (am_nt (by decide) (rd_end hG (by rw [show rs_n ce = 8 from if_pos hx]; exact hA) h1 h2 hp))
      | succ n ih =>
        intro k hn hk hx I L h1 h2
        obtain ⟨⟨W, R⟩, hA⟩ : ∃ A, rs_A ce k = A := ⟨_, rfl⟩
        rw [hA] at h1 h2
        exact rs_step hG (by omega) hx hA h1 h2 (fun I2 L2 g1 g2 => ih (k + 1) (by omega) (by omega) hx I2 L2 g1 g2)
    have s354 : ∀ (I : am_I) (L : am_J), CR I L (rs_A ce 0) → RW I (rs_A ce 0).1 → G 354 [some (.ref 0), some (.ref 36), some (.int 6), some (.ref 35), some (.int (ce 0)), some (.int 1), some (.int (nI (rd_pl ce))), some (.int (nI (rd_tr ce))), some (.int 0), none, none, none, none, none, none] [] I L := fun I L h1 h2 => by
      by_cases hx : 0 < (ce 0 >>> ((10 : Int32) &&& 31)) &&& 7
      · exact stones 8 0 (by omega) (by omega) hx I L h1 h2
      · obtain ⟨⟨W, R⟩, hA⟩ : ∃ A, rs_A ce 0 = A := ⟨_, rfl⟩
        rw [hA] at h1 h2
        exact hG [(573, [])] 90 354 _ _ _ _ (am_nf (by decide) (am_f (by decide) (am_nt hx (rd_end hG (by rw [show rs_n ce = 0 from if_neg hx]; exact hA) h1 h2 hp))))
    have ways : ∀ n k : Nat, rd_tr ce - k = n → k ≤ rd_tr ce → ∀ (I : am_I) (L : am_J), CR I L (rd_A ce k) → RW I (rd_A ce k).1 → G 51 [some (.ref 0), some (.ref 36), some (.int 6), some (.ref 35), some (.int (ce 0)), some (.int 1), some (.int (nI (rd_pl ce))), some (.int (nI (rd_tr ce))), some (.int (nI k)), none, none, none, none, none, none] [] I L := by
      intro n
      induction n with
      | zero =>
        intro k hn hk I L h1 h2
        have e : k = rd_tr ce := by omega
        subst e
        exact hG [(354, [])] 90 51 _ _ _ _ (am_nt (fun q => Int32.lt_irrefl q) (s354 I L h1 h2))
      | succ n ih =>
        intro k hn hk I L h1 h2
        obtain ⟨⟨W, R⟩, hA⟩ : ∃ A, rd_A ce k = A := ⟨_, rfl⟩
        rw [hA] at h1 h2
        exact rd_in hG (by omega) h2.1 (rd_out hG (by omega) hA h1 h2 (fun I2 L2 g1 g2 => ih (k + 1) (by omega) (by omega) I2 L2 g1 g2))
    have i0 : vp_in (0 : Int32) 51 := am_vin (show 0 < 51 by omega) rfl
    have i25 : vp_in (25 : Int32) 51 := am_vin (show 25 < 51 by omega) rfl
    have i26 : vp_in (26 : Int32) 51 := am_vin (show 26 < 51 by omega) rfl
    refine hG [(51, [])] 90 0 _ _ _ _ (And.intro rfl (Exists.intro 0 (And.intro rfl (And.intro (by omega) (And.intro i0 (And.intro i25 (And.intro i26 (Exists.intro (6) (And.intro (rfl) (And.intro (by omega) (And.intro (by omega) (Exists.intro (14) (And.intro (rfl) (And.intro (by omega) (And.intro (by omega) (?_))))))))))))))))
    show G 51 [some (.ref 0), some (.ref 36), some (.int 6), some (.ref 35), some (.int (ce 0)), some (.int 1), some (.int (nI 3 + nI (nl (ce 0) 6))), some (.int (nI 3 + nI (nl (ce 0 >>> ((4 : Int32) &&& 31)) 14))), some (.int (nI 0)), none, none, none, none, none, none] [] (am_ui (am_ui (am_ui I 35 0 0) 35 25 0) 35 26 0) L
    rw [nI_add, nI_add]
    refine ways (rd_tr ce) 0 (by omega) (by omega) _ L (CR_35 (CR_35 (CR_35 hC ui_35) ui_35) ui_35) ⟨⟨⟨Nat.zero_le _, ?_, fun k hk => absurd hk (Nat.not_lt_zero k)⟩, ?_, ?_⟩, rfl, rfl⟩
    · rw [am_uk (by omega), am_uk (by omega), am_ui_r, if_pos ⟨rfl, rfl⟩]; rfl
    · rw [am_uk (by omega), am_ui_r, if_pos ⟨rfl, rfl⟩]; rfl
    · rw [am_ui_r, if_pos ⟨rfl, rfl⟩]; rfl
  · exact h.elim
end
