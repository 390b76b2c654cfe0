/-! THE SMALL MACHINE, words of it: ints and longs of the world as two functions of (cell, place); what refers to what never changes, and stands in a list of shapes -/
abbrev am_I : Type := Nat → Nat → Int32
abbrev am_J : Type := Nat → Nat → Int64
abbrev am_Lv : Type := List (Option Value)
abbrev am_C : Type := (Nat × List Nat) ⊕ (Nat × Nat × List Nat)
abbrev am_Po : Type := Option Value → am_I → am_J → Prop
abbrev am_Sp : Type := List Value → am_I → am_J → am_Po → Prop
abbrev am_G : Type := Nat → am_Lv → List Value → am_I → am_J → Prop
abbrev am_E : Type := Nat × Instr × Nat × Nat × Nat × Int32 × Int64 × List Nat
/-- the tables' words that a call may hand on -/
def am_U : List Cond := lw_tbl.filter goodWord
theorem am_inU {w : Cond} (i : Nat) (h : lw_tbl[i]? = some w) (hg : goodWord w = true) : w ∈ am_U := List.mem_filter.mpr ⟨List.mem_of_getElem? h, hg⟩
theorem am_Utbl {w : Cond} (h : w ∈ am_U) : w ∈ lw_tbl := (List.mem_filter.mp h).1
theorem am_goodU {ws : List Cond} (h : ∀ w ∈ ws, w ∈ am_U) : GoodIn am_U ws := fun w hw => ⟨h w hw, good_of_word (List.mem_filter.mp (h w hw)).2⟩
def am_val (ad : Nat → Nat) : Value → Value
  | .ref a => .ref (ad a)
  | v => v
theorem am_val_cat (ad : Nat → Nat) (v : Value) : (am_val ad v).category = v.category := by cases v <;> rfl
def am_fv (ad : Nat → Nat) (I : am_I) (L : am_J) (o k : Nat) : Nat → Value
  | 0 => .int (I o k)
  | 1 => .long (L o k)
  | 2 => .int (I o k)
  | n + 3 => .ref (ad n)
def am_fs (ad : Nat → Nat) (I : am_I) (L : am_J) (o : Nat) : Nat → List Nat → List Value
  | _, [] => []
  | k, c :: cs => am_fv ad I L o k c :: am_fs ad I L o (k + 1) cs
def am_cell (ad : Nat → Nat) (ca : Nat → ClassId) (I : am_I) (L : am_J) (o : Nat) : am_C → va_E
  | .inl (ci, fs) => .inr (ci, am_fs ad I L o 0 fs)
  | .inr (0, n, _) => .inl (ca 0, n, .inl (I o))
  | .inr (1, n, _) => .inl (ca 1, n, .inr (.inl (L o)))
  | .inr (2, n, _) => .inl (ca 2, n, .inl (I o))
  | .inr (_ + 3, n, rs) => .inl (ca 3, n, .inr (.inr (.inr (.inr (fun j => (rs[j]?).map ad)))))
def am_ty (ca : Nat → ClassId) : List (ClassId × FieldType) := [(ca 0, .int), (ca 1, .long), (ca 2, .byte), (ca 3, .object "ReadPass$Sheet")]
def am_w (S : List am_C) (ad : Nat → Nat) (ca : Nat → ClassId) (I : am_I) (L : am_J) : va_W := S.mapIdx (fun k c => (ad k, am_cell ad ca I L k c))
def am_ui (I : am_I) (o k : Nat) (x : Int32) : am_I := fun a b => if a = o ∧ b = k then x else I a b
def am_uj (L : am_J) (o k : Nat) (x : Int64) : am_J := fun a b => if a = o ∧ b = k then x else L a b
def am_cpi (I : am_I) (src dst sp dp n : Nat) : am_I := fun a b => if a = dst ∧ (dp ≤ b ∧ b < dp + n) then I src (sp + (b - dp)) else I a b
def am_cpj (L : am_J) (src dst sp dp n : Nat) : am_J := fun a b => if a = dst ∧ (dp ≤ b ∧ b < dp + n) then L src (sp + (b - dp)) else L a b
theorem am_w_get {S : List am_C} {ad : Nat → Nat} {ca : Nat → ClassId} {I : am_I} {L : am_J} {o : Nat} {c : am_C} (h : S[o]? = some c) : (am_w S ad ca I L)[o]? = some (ad o, am_cell ad ca I L o c) := by
  unfold am_w
  rw [List.getElem?_mapIdx, h]
  rfl
theorem am_fs_get {ad : Nat → Nat} {I : am_I} {L : am_J} {o : Nat} : ∀ {fs : List Nat} {i k c : Nat}, fs[k]? = some c → (am_fs ad I L o i fs)[k]? = some (am_fv ad I L o (i + k) c) := by
  intro fs
  induction fs with
  | nil => intro i k c h; simp at h
  | cons x fs ih =>
    intro i k c h
    cases k with
    | zero =>
      simp only [List.getElem?_cons_zero, Option.some.injEq] at h
      subst h
      rfl
    | succ k =>
      rw [List.getElem?_cons_succ] at h
      have h2 := ih (i := i + 1) h
      rw [show i + 1 + k = i + (k + 1) by omega] at h2
      rw [← h2]
      rfl
theorem am_fs_len {ad : Nat → Nat} {I : am_I} {L : am_J} {o : Nat} : ∀ (fs : List Nat) (i : Nat), (am_fs ad I L o i fs).length = fs.length := by
  intro fs
  induction fs with
  | nil => intro i; rfl
  | cons x fs ih => intro i; show (am_fs ad I L o (i + 1) fs).length + 1 = fs.length + 1; rw [ih]
theorem am_fv_congr {ad : Nat → Nat} {I I' : am_I} {L L' : am_J} {o k : Nat} (h1 : I' o k = I o k) (h2 : L' o k = L o k) (c : Nat) : am_fv ad I' L' o k c = am_fv ad I L o k c := by
  match c with
  | 0 => simp [am_fv, h1]
  | 1 => simp [am_fv, h2]
  | 2 => simp [am_fv, h1]
  | n + 3 => rfl
theorem am_fs_congr {ad : Nat → Nat} {I I' : am_I} {L L' : am_J} {o : Nat} : ∀ (fs : List Nat) (i : Nat), (∀ j, i ≤ j → I' o j = I o j ∧ L' o j = L o j) → am_fs ad I' L' o i fs = am_fs ad I L o i fs := by
  intro fs
  induction fs with
  | nil => intro i _; rfl
  | cons x fs ih =>
    intro i h
    show am_fv ad I' L' o i x :: am_fs ad I' L' o (i + 1) fs = _
    rw [ih (i + 1) (fun j hj => h j (by omega)), am_fv_congr (h i (Nat.le_refl i)).1 (h i (Nat.le_refl i)).2]
    rfl
theorem am_fs_set {ad : Nat → Nat} {I I' : am_I} {L L' : am_J} {o : Nat} : ∀ (fs : List Nat) (i k c : Nat), fs[k]? = some c → (∀ j, j ≠ i + k → I' o j = I o j ∧ L' o j = L o j) → (am_fs ad I L o i fs).set k (am_fv ad I' L' o (i + k) c) = am_fs ad I' L' o i fs := by
  intro fs
  induction fs with
  | nil => intro i k c h _; simp at h
  | cons x fs ih =>
    intro i k c h hj
    cases k with
    | zero =>
      simp only [List.getElem?_cons_zero, Option.some.injEq] at h
      subst h
      show am_fv ad I' L' o i x :: am_fs ad I L o (i + 1) fs = am_fv ad I' L' o i x :: am_fs ad I' L' o (i + 1) fs
      rw [am_fs_congr fs (i + 1) (fun j h => hj j (by omega))]
    | succ k =>
      rw [List.getElem?_cons_succ] at h
      have h2 := ih (i + 1) k c h (fun j h => hj j (by omega))
      rw [show i + 1 + k = i + (k + 1) by omega] at h2
      show am_fv ad I L o i x :: (am_fs ad I L o (i + 1) fs).set k (am_fv ad I' L' o (i + (k + 1)) c) = am_fv ad I' L' o i x :: am_fs ad I' L' o (i + 1) fs
      rw [h2, am_fv_congr (hj i (by omega)).1 (hj i (by omega)).2]
theorem am_cell_congr {ad : Nat → Nat} {ca : Nat → ClassId} {I I' : am_I} {L L' : am_J} {o : Nat} (h1 : I' o = I o) (h2 : L' o = L o) (c : am_C) : am_cell ad ca I' L' o c = am_cell ad ca I L o c := by
  match c with
  | .inl (ci, fs) =>
    show Sum.inr (ci, am_fs ad I' L' o 0 fs) = Sum.inr (ci, am_fs ad I L o 0 fs)
    rw [am_fs_congr fs 0 (fun j _ => ⟨by rw [h1], by rw [h2]⟩)]
  | .inr (0, n, rs) => simp [am_cell, h1]
  | .inr (1, n, rs) => simp [am_cell, h2]
  | .inr (2, n, rs) => simp [am_cell, h1]
  | .inr (k + 3, n, rs) => rfl
theorem am_w_set {S : List am_C} {ad : Nat → Nat} {ca : Nat → ClassId} {I I' : am_I} {L L' : am_J} {o : Nat} {c : am_C} (h : S[o]? = some c) (hI : ∀ a, a ≠ o → I' a = I a ∧ L' a = L a) : (am_w S ad ca I L).set o (ad o, am_cell ad ca I' L' o c) = am_w S ad ca I' L' := by
  apply List.ext_getElem?
  intro k
  by_cases hk : k = o
  · subst hk
    rw [am_w_get h, List.getElem?_set_self]
    have := am_w_get (ad := ad) (ca := ca) (I := I) (L := L) h
    exact (List.getElem?_eq_some_iff.mp this).1
  · rw [List.getElem?_set_ne (Ne.symm hk)]
    unfold am_w
    rw [List.getElem?_mapIdx, List.getElem?_mapIdx]
    cases S[k]? with
    | none => rfl
    | some c2 =>
      show some (ad k, am_cell ad ca I L k c2) = some (ad k, am_cell ad ca I' L' k c2)
      rw [am_cell_congr (hI k hk).1 (hI k hk).2]
theorem am_D {S : List am_C} {ad : Nat → Nat} {ca : Nat → ClassId} {I I' : am_I} {L L' : am_J} {A : Nat → Prop} (h : va_D A (am_w S ad ca I L)) : va_D A (am_w S ad ca I' L') := by
  have key : ∀ (k : Nat) (q : Nat × va_E), (am_w S ad ca I' L')[k]? = some q → ∃ e, (am_w S ad ca I L)[k]? = some (q.1, e) := by
    intro k q hq
    unfold am_w at hq ⊢
    rw [List.getElem?_mapIdx] at hq ⊢
    cases hs : S[k]? with
    | none => rw [hs] at hq; cases hq
    | some c =>
      rw [hs] at hq
      cases hq
      exact ⟨_, rfl⟩
  refine ⟨fun i j p q hi hj hpq => ?_, fun k q hk => ?_⟩
  · obtain ⟨e1, h1⟩ := key i p hi
    obtain ⟨e2, h2⟩ := key j q hj
    exact h.1 i j _ _ h1 h2 hpq
  · obtain ⟨e1, h1⟩ := key k q hk
    exact h.2 k (q.1, e1) h1
/-! the locals -/
def am_lc (ad : Nat → Nat) : Nat → am_Lv → List (Nat × Value)
  | _, [] => []
  | k, some v :: t => (k, am_val ad v) :: am_lc ad (k + 1) t
  | k, none :: t => am_lc ad (k + 1) t
theorem am_lc_mem {ad : Nat → Nat} : ∀ (ls : am_Lv) (k : Nat) (q : Nat × Value), q ∈ am_lc ad k ls ↔ ∃ (j : Nat) (v : Value), ls[j]? = some (some v) ∧ q = (k + j, am_val ad v) := by
  intro ls
  induction ls with
  | nil => intro k q; simp [am_lc]
  | cons x ls ih =>
    intro k q
    have key : (∃ (j : Nat) (v : Value), (x :: ls)[j]? = some (some v) ∧ q = (k + j, am_val ad v)) ↔ ((∃ v, x = some v ∧ q = (k, am_val ad v)) ∨ ∃ (j : Nat) (v : Value), ls[j]? = some (some v) ∧ q = (k + 1 + j, am_val ad v)) := by
      constructor
      · rintro ⟨j, v, h1, h2⟩
        cases j with
        | zero => exact Or.inl ⟨v, by simpa using h1, h2⟩
        | succ j => exact Or.inr ⟨j, v, by simpa using h1, by rw [h2, show k + (j + 1) = k + 1 + j by omega]⟩
      · rintro (⟨v, h1, h2⟩ | ⟨j, v, h1, h2⟩)
        · exact ⟨0, v, by simp [h1], h2⟩
        · exact ⟨j + 1, v, by simpa using h1, by rw [h2, show k + (j + 1) = k + 1 + j by omega]⟩
    rw [key, ← ih (k + 1) q]
    cases x with
    | none => simp [am_lc]
    | some v => simp [am_lc]
theorem am_lv_sub {ad : Nat → Nat} {a : Array Slot} {n : Nat} {ls ls2 : am_Lv} (h : lv_has a n (am_lc ad 0 ls)) (hs : ∀ (j : Nat) (v : Value), ls2[j]? = some (some v) → ls[j]? = some (some v)) : lv_has a n (am_lc ad 0 ls2) := by
  refine ⟨h.1, h.2.1, fun q hq => ?_⟩
  obtain ⟨j, v, h1, rfl⟩ := (am_lc_mem ls2 0 q).mp hq
  exact h.2.2 _ ((am_lc_mem ls 0 _).mpr ⟨j, v, hs j v h1, rfl⟩)
theorem am_lv_at {ad : Nat → Nat} {a : Array Slot} {n : Nat} {ls : am_Lv} (h : lv_has a n (am_lc ad 0 ls)) {j : Nat} {v : Value} (hv : ls[j]? = some (some v)) : a[j]? = some (.val (am_val ad v)) := by
  have h1 := h.2.2 (0 + j, am_val ad v) ((am_lc_mem ls 0 _).mpr ⟨j, v, hv, rfl⟩)
  rw [show 0 + j = j by omega] at h1
  exact h1
def am_gl : am_Lv → Nat → (Value → Prop) → Prop
  | [], _, _ => False
  | none :: _, 0, _ => False
  | some v :: _, 0, f => f v
  | _ :: t, n + 1, f => am_gl t n f
theorem am_gl_ok : ∀ {ls : am_Lv} {n : Nat} {f : Value → Prop}, am_gl ls n f → ∃ v, ls[n]? = some (some v) ∧ f v := by
  intro ls
  induction ls with
  | nil => intro n f h; exact h.elim
  | cons x ls ih =>
    intro n f h
    cases n with
    | zero =>
      cases x with
      | none => exact h.elim
      | some v => exact ⟨v, rfl, h⟩
    | succ n =>
      have h' : am_gl ls n f := by cases x <;> exact h
      obtain ⟨v, h1, h2⟩ := ih h'
      exact ⟨v, by simpa using h1, h2⟩
def am_s1 : Nat → Value → am_Lv → (am_Lv → Prop) → Prop
  | 0, v, _ :: t, f => f (some v :: t)
  | 1, v, x :: _ :: t, f => (match x with
    | some (.long _) => f (none :: some v :: t)
    | some (.double _) => f (none :: some v :: t)
    | y => f (y :: some v :: t))
  | n + 2, v, x :: t, f => am_s1 (n + 1) v t (fun t' => f (x :: t'))
  | _, _, _, _ => False
def am_s2 : Nat → Value → am_Lv → (am_Lv → Prop) → Prop
  | 0, v, _ :: _ :: t, f => f (some v :: none :: t)
  | 1, v, x :: _ :: _ :: t, f => (match x with
    | some (.long _) => f (none :: some v :: none :: t)
    | some (.double _) => f (none :: some v :: none :: t)
    | y => f (y :: some v :: none :: t))
  | n + 2, v, x :: t, f => am_s2 (n + 1) v t (fun t' => f (x :: t'))
  | _, _, _, _ => False
theorem am_s1_ok : ∀ (ls : am_Lv) (i : Nat) (v : Value) (f : am_Lv → Prop), am_s1 i v ls f → ∃ ls2, f ls2 ∧ ls2.length = ls.length ∧ i < ls.length ∧ ∀ j u, ls2[j]? = some (some u) → (j = i ∧ u = v) ∨ (ls[j]? = some (some u) ∧ j ≠ i ∧ ¬ (j + 1 = i ∧ u.category = 2)) := by
  intro ls
  induction ls with
  | nil => intro i v f h; match i, h with
    | 0, h => exact h.elim
    | 1, h => exact h.elim
    | n + 2, h => exact h.elim
  | cons x ls ih =>
    intro i v f h
    match i, h with
    | 0, h =>
      refine ⟨_, h, rfl, by simp, fun j u hj => ?_⟩
      cases j with
      | zero => left; simp at hj; exact ⟨rfl, hj.symm⟩
      | succ j => right; exact ⟨by simpa using hj, by omega, by omega⟩
    | 1, h =>
      cases ls with
      | nil => exact h.elim
      | cons y t =>
        have key : ∀ x', (x' = none ∨ (x' = x ∧ ∀ u, x = some u → u.category ≠ 2)) → ∀ (j : Nat) (u : Value), (x' :: some v :: t)[j]? = some (some u) → (j = 1 ∧ u = v) ∨ ((x :: y :: t)[j]? = some (some u) ∧ j ≠ 1 ∧ ¬ (j + 1 = 1 ∧ u.category = 2)) := by
          intro x' hx' j u hj
          match j, hj with
          | 0, hj =>
            right
            rcases hx' with rfl | ⟨rfl, hc⟩
            · simp at hj
            · simp at hj
              exact ⟨by simp [hj], by omega, fun q => hc u hj q.2⟩
          | 1, hj => left; simp at hj; exact ⟨rfl, hj.symm⟩
          | j + 2, hj => right; exact ⟨by simpa using hj, by omega, by omega⟩
        have h2 : (∃ x', (x' = none ∨ (x' = x ∧ ∀ u, x = some u → u.category ≠ 2)) ∧ f (x' :: some v :: t)) := by
          match x, h with
          | none, h => exact ⟨none, Or.inl rfl, h⟩
          | some (.long a), h => exact ⟨none, Or.inl rfl, h⟩
          | some (.double a), h => exact ⟨none, Or.inl rfl, h⟩
          | some (.int a), h => exact ⟨_, Or.inr ⟨rfl, fun u hu => by cases hu; exact (by simp [Value.category])⟩, h⟩
          | some (.float a), h => exact ⟨_, Or.inr ⟨rfl, fun u hu => by cases hu; exact (by simp [Value.category])⟩, h⟩
          | some .null, h => exact ⟨_, Or.inr ⟨rfl, fun u hu => by cases hu; exact (by simp [Value.category])⟩, h⟩
          | some (.ref a), h => exact ⟨_, Or.inr ⟨rfl, fun u hu => by cases hu; exact (by simp [Value.category])⟩, h⟩
          | some (.retAddr a), h => exact ⟨_, Or.inr ⟨rfl, fun u hu => by cases hu; exact (by simp [Value.category])⟩, h⟩
        obtain ⟨x', hx', hf⟩ := h2
        exact ⟨_, hf, by simp, by simp, key x' hx'⟩
    | n + 2, h =>
      obtain ⟨ls2, h1, h2, h3, h4⟩ := ih (n + 1) v _ h
      refine ⟨_, h1, by simp [h2], by simp; omega, fun j u hj => ?_⟩
      cases j with
      | zero => right; exact ⟨by simpa using hj, by omega, by omega⟩
      | succ j =>
        rcases h4 j u (by simpa using hj) with ⟨a, b⟩ | ⟨a, b, c⟩
        · left; exact ⟨by omega, b⟩
        · right; exact ⟨by simpa using a, by omega, fun q => c ⟨by omega, q.2⟩⟩
theorem am_s2_ok : ∀ (ls : am_Lv) (i : Nat) (v : Value) (f : am_Lv → Prop), am_s2 i v ls f → ∃ ls2, f ls2 ∧ ls2.length = ls.length ∧ i + 1 < ls.length ∧ ∀ j u, ls2[j]? = some (some u) → (j = i ∧ u = v) ∨ (ls[j]? = some (some u) ∧ j ≠ i ∧ j ≠ i + 1 ∧ ¬ (j + 1 = i ∧ u.category = 2)) := by
  intro ls
  induction ls with
  | nil => intro i v f h; match i, h with
    | 0, h => exact h.elim
    | 1, h => exact h.elim
    | n + 2, h => exact h.elim
  | cons x ls ih =>
    intro i v f h
    match i, h with
    | 0, h =>
      cases ls with
      | nil => exact h.elim
      | cons y t =>
        refine ⟨_, h, by simp, by simp, fun j u hj => ?_⟩
        match j, hj with
        | 0, hj => left; simp at hj; exact ⟨rfl, hj.symm⟩
        | 1, hj => simp at hj
        | j + 2, hj => right; exact ⟨by simpa using hj, by omega, by omega, by omega⟩
    | 1, h =>
      match ls, h with
      | [], h => exact h.elim
      | [y], h => exact h.elim
      | y :: y2 :: t, h =>
        have key : ∀ x', (x' = none ∨ (x' = x ∧ ∀ u, x = some u → u.category ≠ 2)) → ∀ (j : Nat) (u : Value), (x' :: some v :: none :: t)[j]? = some (some u) → (j = 1 ∧ u = v) ∨ ((x :: y :: y2 :: t)[j]? = some (some u) ∧ j ≠ 1 ∧ j ≠ 1 + 1 ∧ ¬ (j + 1 = 1 ∧ u.category = 2)) := by
          intro x' hx' j u hj
          match j, hj with
          | 0, hj =>
            right
            rcases hx' with rfl | ⟨rfl, hc⟩
            · simp at hj
            · simp at hj
              exact ⟨by simp [hj], by omega, by omega, fun q => hc u hj q.2⟩
          | 1, hj => left; simp at hj; exact ⟨rfl, hj.symm⟩
          | 2, hj => simp at hj
          | j + 3, hj => right; exact ⟨by simpa using hj, by omega, by omega, by omega⟩
        have h2 : (∃ x', (x' = none ∨ (x' = x ∧ ∀ u, x = some u → u.category ≠ 2)) ∧ f (x' :: some v :: none :: t)) := by
          match x, h with
          | none, h => exact ⟨none, Or.inl rfl, h⟩
          | some (.long a), h => exact ⟨none, Or.inl rfl, h⟩
          | some (.double a), h => exact ⟨none, Or.inl rfl, h⟩
          | some (.int a), h => exact ⟨_, Or.inr ⟨rfl, fun u hu => by cases hu; exact (by simp [Value.category])⟩, h⟩
          | some (.float a), h => exact ⟨_, Or.inr ⟨rfl, fun u hu => by cases hu; exact (by simp [Value.category])⟩, h⟩
          | some .null, h => exact ⟨_, Or.inr ⟨rfl, fun u hu => by cases hu; exact (by simp [Value.category])⟩, h⟩
          | some (.ref a), h => exact ⟨_, Or.inr ⟨rfl, fun u hu => by cases hu; exact (by simp [Value.category])⟩, h⟩
          | some (.retAddr a), h => exact ⟨_, Or.inr ⟨rfl, fun u hu => by cases hu; exact (by simp [Value.category])⟩, h⟩
        obtain ⟨x', hx', hf⟩ := h2
        exact ⟨_, hf, by simp, by simp, key x' hx'⟩
    | n + 2, h =>
      obtain ⟨ls2, h1, h2, h3, h4⟩ := ih (n + 1) v _ h
      refine ⟨_, h1, by simp [h2], by simp; omega, fun j u hj => ?_⟩
      cases j with
      | zero => right; exact ⟨by simpa using hj, by omega, by omega, by omega⟩
      | succ j =>
        rcases h4 j u (by simpa using hj) with ⟨a, b⟩ | ⟨a, b, c, d⟩
        · left; exact ⟨by omega, b⟩
        · right; exact ⟨by simpa using a, by omega, by omega, fun q => d ⟨by omega, q.2⟩⟩
def am_keep : List Nat → am_Lv → (am_Lv → Prop) → Prop
  | [], ls, f => f ls
  | _ :: _, [], f => f []
  | 0 :: m, _ :: t, f => am_keep m t (fun t' => f (none :: t'))
  | (_ + 1) :: m, x :: t, f => am_keep m t (fun t' => f (x :: t'))
theorem am_keep_ok : ∀ (m : List Nat) (ls : am_Lv) (f : am_Lv → Prop), am_keep m ls f → ∃ ls2, f ls2 ∧ ls2.length = ls.length ∧ ∀ (j : Nat) (u : Value), ls2[j]? = some (some u) → ls[j]? = some (some u) := by
  intro m
  induction m with
  | nil => intro ls f h; exact ⟨ls, h, rfl, fun _ _ h => h⟩
  | cons a m ih =>
    intro ls f h
    cases ls with
    | nil => exact ⟨[], h, rfl, fun _ _ h => h⟩
    | cons x t =>
      cases a with
      | zero =>
        obtain ⟨l2, h1, h2, h3⟩ := ih t _ h
        refine ⟨_, h1, by simp [h2], fun j u hj => ?_⟩
        cases j with
        | zero => simp at hj
        | succ j => simpa using h3 j u (by simpa using hj)
      | succ a =>
        obtain ⟨l2, h1, h2, h3⟩ := ih t _ h
        refine ⟨_, h1, by simp [h2], fun j u hj => ?_⟩
        cases j with
        | zero => simpa using hj
        | succ j => simpa using h3 j u (by simpa using hj)
def am_tk : Nat → List Value → List Value → (List Value → List Value → Prop) → Prop
  | 0, st, acc, f => f acc st
  | n + 1, v :: st, acc, f => am_tk n st (v :: acc) f
  | _ + 1, [], _, _ => False
theorem am_tk_ok : ∀ (n : Nat) (st acc : List Value) (f : List Value → List Value → Prop), am_tk n st acc f → ∃ vs r, f (vs ++ acc) r ∧ vs.length = n ∧ st = vs.reverse ++ r := by
  intro n
  induction n with
  | zero => intro st acc f h; exact ⟨[], st, h, rfl, rfl⟩
  | succ n ih =>
    intro st acc f h
    cases st with
    | nil => exact h.elim
    | cons v st =>
      obtain ⟨vs, r, h1, h2, h3⟩ := ih st (v :: acc) f h
      exact ⟨vs ++ [v], r, by simpa using h1, by simp [h2], by simp [h3]⟩
def am_cat : List Value → Nat
  | [] => 0
  | v :: r => v.category + am_cat r
theorem am_cat_ok (ad : Nat → Nat) : ∀ (st : List Value), ((st.map (am_val ad)).map fun v => v.category).sum = am_cat st := by
  intro st
  induction st with
  | nil => rfl
  | cons v r ih => simp [am_cat, am_val_cat, ← ih]
def am_sh : List am_C → Nat → (am_C → Prop) → Prop
  | [], _, _ => False
  | c :: _, 0, f => f c
  | _ :: t, n + 1, f => am_sh t n f
theorem am_sh_ok : ∀ {S : List am_C} {n : Nat} {f : am_C → Prop}, am_sh S n f → ∃ c, S[n]? = some c ∧ f c := by
  intro S
  induction S with
  | nil => intro n f h; exact h.elim
  | cons x S ih =>
    intro n f h
    cases n with
    | zero => exact ⟨x, rfl, h⟩
    | succ n => obtain ⟨c, h1, h2⟩ := ih h; exact ⟨c, by simpa using h1, h2⟩
def am_fc : List Nat → Nat → (Nat → Prop) → Prop
  | [], _, _ => False
  | c :: _, 0, f => f c
  | _ :: t, n + 1, f => am_fc t n f
theorem am_fc_ok : ∀ {S : List Nat} {n : Nat} {f : Nat → Prop}, am_fc S n f → ∃ c, S[n]? = some c ∧ f c := by
  intro S
  induction S with
  | nil => intro n f h; exact h.elim
  | cons x S ih =>
    intro n f h
    cases n with
    | zero => exact ⟨x, rfl, h⟩
    | succ n => obtain ⟨c, h1, h2⟩ := ih h; exact ⟨c, by simpa using h1, h2⟩
def am_al : List Nat → Nat → Int32 → (Nat → Prop) → Prop
  | [], _, _, _ => True
  | r :: t, j, i, f => (i = Int32.ofNat j → f r) ∧ am_al t (j + 1) i f
theorem am_al_ok : ∀ (rs : List Nat) (j : Nat) (i : Int32) (f : Nat → Prop), am_al rs j i f → ∀ k r, rs[k]? = some r → i = Int32.ofNat (j + k) → f r := by
  intro rs
  induction rs with
  | nil => intro j i f _ k r h; simp at h
  | cons x rs ih =>
    intro j i f h k r hk hi
    cases k with
    | zero => simp at hk; subst hk; exact h.1 hi
    | succ k => exact ih (j + 1) i f h.2 k r (by simpa using hk) (by rw [hi, show j + (k + 1) = j + 1 + k by omega])
def am_ts : List Nat → Nat → Int32 → (Nat → Prop) → Nat → Prop
  | [], _, _, f, d => f d
  | t :: ts, n, a, f, d => (a = Int32.ofNat n → f t) ∧ (¬ a = Int32.ofNat n → am_ts ts (n + 1) a f d)
theorem am_ts_ok : ∀ (ts : List Nat) (n : Nat) (a : Int32) (f : Nat → Prop) (d : Nat), am_ts ts n a f d → (∃ k t, ts[k]? = some t ∧ a = Int32.ofNat (n + k) ∧ f t) ∨ ((∀ k, k < ts.length → ¬ a = Int32.ofNat (n + k)) ∧ f d) := by
  intro ts
  induction ts with
  | nil => intro n a f d h; exact Or.inr ⟨fun k hk => by simp at hk, h⟩
  | cons t ts ih =>
    intro n a f d h
    by_cases ha : a = Int32.ofNat n
    · exact Or.inl ⟨0, t, rfl, ha, h.1 ha⟩
    · rcases ih (n + 1) a f d (h.2 ha) with ⟨k, u, h1, h2, h3⟩ | ⟨h1, h2⟩
      · exact Or.inl ⟨k + 1, u, by simpa using h1, by rw [h2, show n + 1 + k = n + (k + 1) by omega], h3⟩
      · refine Or.inr ⟨fun k hk => ?_, h2⟩
        cases k with
        | zero => exact ha
        | succ k => rw [show n + (k + 1) = n + 1 + k by omega]; exact h1 k (by simpa using hk)
def am_fd : List am_E → Nat → (am_E → Prop) → Prop
  | [], _, _ => False
  | q :: t, pc, f => match Nat.beq q.1 pc with
    | true => f q
    | false => am_fd t pc f
theorem am_fd_ok : ∀ {code : List am_E} {pc : Nat} {f : am_E → Prop}, am_fd code pc f → ∃ q, q ∈ code ∧ q.1 = pc ∧ f q := by
  intro code
  induction code with
  | nil => intro pc f h; exact h.elim
  | cons x code ih =>
    intro pc f h
    unfold am_fd at h
    cases hb : Nat.beq x.1 pc with
    | true => rw [hb] at h; exact ⟨x, List.mem_cons_self, Nat.eq_of_beq_eq_true hb, h⟩
    | false =>
      rw [hb] at h
      obtain ⟨q, h1, h2, h3⟩ := ih h
      exact ⟨q, List.mem_cons_of_mem _ h1, h2, h3⟩
def am_ct : List (Nat × List Nat) → Nat → (List Nat → Prop) → Prop → Prop
  | [], _, _, d => d
  | q :: t, pc, f, d => match Nat.beq q.1 pc with
    | true => f q.2
    | false => am_ct t pc f d
theorem am_ct_ok : ∀ {cuts : List (Nat × List Nat)} {pc : Nat} {f : List Nat → Prop} {d : Prop}, am_ct cuts pc f d → (∃ m, f m) ∨ d := by
  intro cuts
  induction cuts with
  | nil => intro pc f d h; exact Or.inr h
  | cons x cuts ih =>
    intro pc f d h
    unfold am_ct at h
    cases hb : Nat.beq x.1 pc with
    | true => rw [hb] at h; exact Or.inl ⟨_, h⟩
    | false => rw [hb] at h; exact ih h
def am_en : List Value → am_Lv
  | [] => []
  | v :: vs => match v with
    | .long a => some (.long a) :: none :: am_en vs
    | .double a => some (.double a) :: none :: am_en vs
    | v => some v :: am_en vs
def am_pad : Nat → am_Lv → am_Lv
  | 0, ls => ls
  | n + 1, [] => none :: am_pad n []
  | n + 1, x :: ls => x :: am_pad n ls
def am_ent (vs : List Value) (n : Nat) : am_Lv := am_pad n (am_en vs)
theorem am_en_cons (v : Value) (vs : List Value) : am_en (v :: vs) = some v :: ((if v.category = 2 then [none] else []) ++ am_en vs) := by
  cases v <;> simp [am_en, Value.category]
theorem am_pad_len : ∀ (n : Nat) (ls : am_Lv), ls.length ≤ n → (am_pad n ls).length = n := by
  intro n
  induction n with
  | zero => intro ls h; simpa [am_pad] using h
  | succ n ih =>
    intro ls h
    cases ls with
    | nil => simp [am_pad, ih]
    | cons x ls => simp at h; simp [am_pad, ih ls h]
theorem am_pad_at : ∀ (n : Nat) (ls : am_Lv) (j : Nat) (v : Value), (am_pad n ls)[j]? = some (some v) → ls[j]? = some (some v) := by
  intro n
  induction n with
  | zero => intro ls j v h; exact h
  | succ n ih =>
    intro ls j v h
    cases ls with
    | nil =>
      cases j with
      | zero => simp [am_pad] at h
      | succ j =>
        have := ih [] j v (by simpa [am_pad] using h)
        simp at this
    | cons x ls =>
      cases j with
      | zero => simpa [am_pad] using h
      | succ j => simpa using ih ls j v (by simpa [am_pad] using h)
theorem am_en_sub {ad : Nat → Nat} : ∀ (vs : List Value) (k : Nat) (q : Nat × Value), q ∈ am_lc ad k (am_en vs) → q ∈ lv_args k (vs.map (am_val ad)) := by
  intro vs
  induction vs with
  | nil => intro k q h; exact h
  | cons v vs ih =>
    intro k q h
    rw [am_en_cons] at h
    have e : lv_args k ((v :: vs).map (am_val ad)) = (k, am_val ad v) :: lv_args (if v.category = 2 then k + 2 else k + 1) (vs.map (am_val ad)) := by
      show (k, am_val ad v) :: lv_args (if (am_val ad v).category = 2 then k + 2 else k + 1) (vs.map (am_val ad)) = _
      rw [am_val_cat]
    rw [e]
    by_cases hc : v.category = 2
    · rw [if_pos hc] at h ⊢
      rcases List.mem_cons.mp h with h | h
      · exact List.mem_cons.mpr (Or.inl h)
      · exact List.mem_cons_of_mem _ (ih (k + 2) q h)
    · rw [if_neg hc] at h ⊢
      rcases List.mem_cons.mp h with h | h
      · exact List.mem_cons.mpr (Or.inl h)
      · exact List.mem_cons_of_mem _ (ih (k + 1) q h)
theorem am_en_len : ∀ (ad : Nat → Nat) (vs : List Value), (lg_sl (vs.map (am_val ad))).length = (am_en vs).length := by
  intro ad vs
  induction vs with
  | nil => rfl
  | cons v vs ih =>
    rw [am_en_cons]
    have : lg_sl ((v :: vs).map (am_val ad)) = (if (am_val ad v).category = 2 then [Slot.val (am_val ad v), .second] else [.val (am_val ad v)]) ++ lg_sl (vs.map (am_val ad)) := rfl
    rw [this, am_val_cat]
    by_cases hc : v.category = 2
    · simp [hc, ih]
    · simp [hc, ih]
