/-! A LARGER WORLD: a contract over the shapes S1 is one over S, where the places of S1 lie by f; behind a call all else of S is as it was -/
def am_mvc (f : Nat → Nat) : Nat → Nat
  | 0 => 0
  | 1 => 1
  | 2 => 2
  | n + 3 => f n + 3
def am_mv (f : Nat → Nat) : am_C → am_C
  | .inl (ci, fs) => .inl (ci, fs.map (am_mvc f))
  | .inr (kd, n, rs) => .inr (kd, n, rs.map f)
theorem am_mv_fs {f ad : Nat → Nat} {I I' : am_I} {L L' : am_J} {o : Nat} (h1 : I' (f o) = I o) (h2 : L' (f o) = L o) : ∀ (fs : List Nat) (i : Nat), am_fs (fun k => ad (f k)) I L o i fs = am_fs ad I' L' (f o) i (fs.map (am_mvc f)) := by
  intro fs
  induction fs with
  | nil => intro i; rfl
  | cons x fs ih =>
    intro i
    show am_fv (fun k => ad (f k)) I L o i x :: am_fs (fun k => ad (f k)) I L o (i + 1) fs = am_fv ad I' L' (f o) i (am_mvc f x) :: am_fs ad I' L' (f o) (i + 1) (fs.map (am_mvc f))
    rw [ih (i + 1)]
    congr 1
    match x with
    | 0 => simp [am_fv, am_mvc, h1]
    | 1 => simp [am_fv, am_mvc, h2]
    | 2 => simp [am_fv, am_mvc, h1]
    | n + 3 => rfl
theorem am_mv_cell {f ad : Nat → Nat} {ca : Nat → ClassId} {I I' : am_I} {L L' : am_J} {o : Nat} (h1 : I' (f o) = I o) (h2 : L' (f o) = L o) (c : am_C) : am_cell (fun k => ad (f k)) ca I L o c = am_cell ad ca I' L' (f o) (am_mv f c) := by
  match c with
  | .inl (ci, fs) =>
    show Sum.inr (ci, am_fs (fun k => ad (f k)) I L o 0 fs) = Sum.inr (ci, am_fs ad I' L' (f o) 0 (fs.map (am_mvc f)))
    rw [am_mv_fs h1 h2]
  | .inr (0, n, rs) => simp [am_cell, am_mv, h1]
  | .inr (1, n, rs) => simp [am_cell, am_mv, h2]
  | .inr (2, n, rs) => simp [am_cell, am_mv, h1]
  | .inr (k + 3, n, rs) => simp [am_cell, am_mv, Function.comp_def]
def am_sub (S1 S : List am_C) (f : Nat → Nat) (g : Nat → Option Nat) : Prop := (∀ k, k < S1.length → S[f k]? = (S1[k]?).map (am_mv f) ∧ g (f k) = some k) ∧ ∀ a k, g a = some k → f k = a ∧ k < S1.length
def am_pt {α : Type} (g : Nat → Option Nat) (I I1 : Nat → α) : Nat → α := fun a => match g a with
  | some k => I1 k
  | none => I a
def am_upT (f : Nat → Nat) (g : Nat → Option Nat) (T : am_Sp) : am_Sp := fun vs I L post => ∃ vs1 : List Value, vs = vs1.map (am_val f) ∧ T vs1 (fun k => I (f k)) (fun k => L (f k)) (fun v I1 L1 => post (v.map (am_val f)) (am_pt g I I1) (am_pt g L L1))
theorem am_val_cp (ad f : Nat → Nat) (v : Value) : am_val ad (am_val f v) = am_val (fun k => ad (f k)) v := by cases v <;> rfl
section UP
variable {S1 S : List am_C} {f : Nat → Nat} {g : Nat → Option Nat} {ad : Nat → Nat} {ca : Nat → ClassId} {D : va_G} {A : Nat → Prop} {I : am_I} {L : am_J} {H H' : Heap}
theorem am_sub_at (h : am_sub S1 S f g) {k : Nat} {q : Nat × va_E} (hq : (am_w S1 (fun k => ad (f k)) ca (fun k => I (f k)) (fun k => L (f k)))[k]? = some q) : k < S1.length ∧ (am_w S ad ca I L)[f k]? = some q := by
  unfold am_w at hq ⊢
  rw [List.getElem?_mapIdx] at hq ⊢
  cases hs : S1[k]? with
  | none => rw [hs] at hq; cases hq
  | some c =>
    rw [hs] at hq
    have hk := (List.getElem?_eq_some_iff.mp hs).1
    refine ⟨hk, ?_⟩
    rw [(h.1 k hk).1, hs]
    cases hq
    show some (ad (f k), am_cell ad ca I L (f k) (am_mv f c)) = some (ad (f k), am_cell (fun k => ad (f k)) ca (fun k => I (f k)) (fun k => L (f k)) k c)
    rw [am_mv_cell (f := f) (ad := ad) (I := fun k => I (f k)) (L := fun k => L (f k)) (I' := I) (L' := L) rfl rfl]
theorem am_sub_P (h : am_sub S1 S f g) (hP : va_P D am_cl (am_w S ad ca I L) H) : va_P D am_cl (am_w S1 (fun k => ad (f k)) ca (fun k => I (f k)) (fun k => L (f k))) H := fun k q hq => hP (f k) q (am_sub_at h hq).2
theorem am_sub_D (h : am_sub S1 S f g) (hD : va_D A (am_w S ad ca I L)) : va_D A (am_w S1 (fun k => ad (f k)) ca (fun k => I (f k)) (fun k => L (f k))) := by
  refine ⟨fun i j p q hi hj e => ?_, fun k q hk => hD.2 _ q (am_sub_at h hk).2⟩
  obtain ⟨a1, a2⟩ := am_sub_at h hi
  obtain ⟨b1, b2⟩ := am_sub_at h hj
  have e2 := hD.1 _ _ p q a2 b2 e
  have e3 := (h.1 i a1).2
  rw [e2, (h.1 j b1).2] at e3
  exact (Option.some.inj e3).symm
theorem am_sub_A (h : am_sub S1 S f g) {sz : Nat} : ∀ q, va_A (am_w S1 (fun k => ad (f k)) ca (fun k => I (f k)) (fun k => L (f k))) sz q → va_A (am_w S ad ca I L) sz q := by
  intro q hq
  rcases hq with ⟨k, e, hk⟩ | hq
  · exact Or.inl ⟨f k, e, (am_sub_at h hk).2⟩
  · exact Or.inr hq
theorem am_pt_f (h : am_sub S1 S f g) {α : Type} {J J1 : Nat → α} {k : Nat} (hk : k < S1.length) : am_pt g J J1 (f k) = J1 k := by
  unfold am_pt
  rw [(h.1 k hk).2]
theorem am_sub_back (h : am_sub S1 S f g) (hD : va_D (fun _ => True) (am_w S ad ca I L)) (hP : va_P D am_cl (am_w S ad ca I L) H) {I1 : am_I} {L1 : am_J} (hP1 : va_P D am_cl (am_w S1 (fun k => ad (f k)) ca I1 L1) H')
    (hk : ∀ q : Nat, q < H.size → ¬ va_A (am_w S1 (fun k => ad (f k)) ca (fun k => I (f k)) (fun k => L (f k))) H.size q → H'[q]? = H[q]?) : va_P D am_cl (am_w S ad ca (am_pt g I I1) (am_pt g L L1)) H' := by
  intro a q hq
  unfold am_w at hq
  rw [List.getElem?_mapIdx] at hq
  cases hs : S[a]? with
  | none => rw [hs] at hq; cases hq
  | some c =>
    rw [hs] at hq
    cases hq
    cases hg : g a with
    | some k =>
      obtain ⟨e1, e2⟩ := h.2 a k hg
      subst e1
      have e3 := (h.1 k e2).1
      rw [hs] at e3
      obtain ⟨c1, hc1, hc2⟩ := Option.map_eq_some_iff.mp e3.symm
      subst hc2
      show va_at D am_cl (ad (f k), am_cell ad ca (am_pt g I I1) (am_pt g L L1) (f k) (am_mv f c1)) H'
      rw [← am_mv_cell (f := f) (ad := ad) (I := I1) (L := L1) (am_pt_f h e2) (am_pt_f h e2)]
      exact hP1 k _ (am_w_get hc1)
    | none =>
      have e0 : am_cell ad ca (am_pt g I I1) (am_pt g L L1) a c = am_cell ad ca I L a c := am_cell_congr (by unfold am_pt; rw [hg]) (by unfold am_pt; rw [hg]) c
      show va_at D am_cl (ad a, am_cell ad ca (am_pt g I I1) (am_pt g L L1) a c) H'
      rw [e0]
      have hold := hP a _ (am_w_get hs)
      have hkept : va_P D am_cl [(ad a, am_cell ad ca I L a c)] H' := va_P.kept (fun k q hq => by
        cases k with
        | zero => cases hq; exact hold
        | succ k => simp at hq) (fun k x hx => by
        cases k with
        | succ k => simp at hx
        | zero =>
          cases hx
          refine hk _ hold.lt (fun z => ?_)
          rcases z with ⟨j, e, hj⟩ | z
          · obtain ⟨j1, j2⟩ := am_sub_at h hj
            have e4 := hD.1 _ _ _ _ (am_w_get hs) j2 rfl
            rw [e4, (h.1 j j1).2] at hg
            cases hg
          · have := hold.lt
            omega)
      exact hkept 0 _ rfl
end UP
theorem am_up {l : Launch} {S1 S : List am_C} {f : Nat → Nat} {g : Nat → Option Nat} {y : MethodName} {cc : ByteArray} {maxL : Nat} {ret : Option FieldType} {rm : Room} {T : am_Sp} (h : am_sub S1 S f g) (hM : am_Met l S1 y cc maxL ret rm T) : am_Met l S y cc maxL ret rm (am_upT f g T) := by
  intro ad ca D sz vs I L post hT
  obtain ⟨vs1, rfl, hT1⟩ := hT
  have hm := hM (fun k => ad (f k)) ca D sz vs1 _ _ _ hT1
  rw [List.map_map, show (am_val ad ∘ am_val f) = am_val (fun k => ad (f k)) from funext (am_val_cp ad f)]
  refine MetFree.mono hm (fun a s hp => ?_) (fun _ _ _ _ _ _ => trivial) (fun a s o t hp hq => ?_)
  · obtain ⟨e, h1, h2, h3, h4, h5⟩ := hp
    exact ⟨e, h1, am_sub_P h h2, h3, am_sub_D h h4, h5⟩
  · obtain ⟨e, h1, h2, h3, h4, h5⟩ := hp
    obtain ⟨⟨⟨v, I1, L1, ho, hpost, hP1⟩, hF⟩, Lx, hfe, hfr⟩ := hq
    subst h1
    refine ⟨⟨⟨v.map (am_val f), am_pt g I I1, am_pt g L L1, ?_, hpost, am_sub_back h h4 h2 hP1 hF.2⟩, hF.1, fun q h1 h2 => hF.2 q h1 (fun z => h2 (am_sub_A h q z))⟩, Lx, hfe, fun q hq => am_sub_A h _ (hfr q hq)⟩
    rw [ho, Option.map_map, show (am_val ad ∘ am_val f) = am_val (fun k => ad (f k)) from funext (am_val_cp ad f)]
theorem am_Met.imp {l : Launch} {S : List am_C} {y : MethodName} {cc : ByteArray} {maxL : Nat} {ret : Option FieldType} {rm : Room} {T T' : am_Sp} (hM : am_Met l S y cc maxL ret rm T) (h : ∀ vs I L post, T' vs I L post → T vs I L post) : am_Met l S y cc maxL ret rm T' := fun ad ca D sz vs I L post hT => hM ad ca D sz vs I L post (h vs I L post hT)
theorem am_Met.or {l : Launch} {S : List am_C} {y : MethodName} {cc : ByteArray} {maxL : Nat} {ret : Option FieldType} {rm : Room} {T T' : am_Sp} (hM : am_Met l S y cc maxL ret rm T) (hM' : am_Met l S y cc maxL ret rm T') : am_Met l S y cc maxL ret rm (fun vs I L post => T vs I L post ∨ T' vs I L post) := fun ad ca D sz vs I L post hT => hT.elim (fun h => hM ad ca D sz vs I L post h) (fun h => hM' ad ca D sz vs I L post h)
/-! the worlds of the law: v behind one pass (35); two passes and v (70) -/
def am_f0 : Nat → Nat := fun k => k
def am_g0 : Nat → Option Nat := fun a => if a < 35 then some a else none
def am_f1 : Nat → Nat := fun k => k + 35
def am_g1 : Nat → Option Nat := fun a => if 35 ≤ a ∧ a < 70 then some (a - 35) else none
def am_S3 : List am_C := am_SX ++ [.inr (0, 51, [])]
def am_SB : List am_C := am_SX ++ (am_SX.map (am_mv am_f1) ++ [.inr (0, 51, [])])
/-- road's places in the law's world: of o, of q -/
def am_f2 : Nat → Nat := fun k => if k < 35 then k else k + 35
def am_g2 : Nat → Option Nat := fun a => if a < 35 then some a else if a = 70 then some 35 else none
def am_f3 : Nat → Nat := fun k => k + 35
def am_g3 : Nat → Option Nat := fun a => if 35 ≤ a ∧ a < 71 then some (a - 35) else none
theorem am_sub_of {S1 S : List am_C} {f : Nat → Nat} {g : Nat → Option Nat} (h1 : (List.range S1.length).map (fun k => S[f k]?) = S1.map (fun c => some (am_mv f c))) (h2 : (List.range S1.length).map (fun k => g (f k)) = (List.range S1.length).map some) : ∀ k, k < S1.length → S[f k]? = (S1[k]?).map (am_mv f) ∧ g (f k) = some k := by
  intro k hk
  have e1 := congrArg (fun l => l[k]?) h1
  have e2 := congrArg (fun l => l[k]?) h2
  simp only [List.getElem?_map, List.getElem?_range hk, Option.map_some, Option.some.injEq] at e1 e2
  refine ⟨?_, e2⟩
  cases hs : S1[k]? with
  | none => rw [hs] at e1; cases e1
  | some c => rw [hs] at e1; exact Option.some.inj e1
theorem am_sub03 : am_sub am_SX am_S3 am_f0 am_g0 := by
  refine ⟨am_sub_of rfl rfl, fun a k h => ?_⟩
  unfold am_g0 at h
  split at h
  · cases h; exact ⟨rfl, by rw [show am_SX.length = 35 from rfl]; assumption⟩
  · cases h
theorem am_sub0 : am_sub am_SX am_SB am_f0 am_g0 := by
  refine ⟨am_sub_of rfl rfl, fun a k h => ?_⟩
  unfold am_g0 at h
  split at h
  · cases h; exact ⟨rfl, by rw [show am_SX.length = 35 from rfl]; assumption⟩
  · cases h
theorem am_sub1 : am_sub am_SX am_SB am_f1 am_g1 := by
  refine ⟨am_sub_of rfl rfl, fun a k h => ?_⟩
  unfold am_g1 at h
  split at h
  · rename_i hz
    cases h
    exact ⟨by unfold am_f1; omega, by rw [show am_SX.length = 35 from rfl]; omega⟩
  · cases h
theorem am_sub2 : am_sub am_S3 am_SB am_f2 am_g2 := by
  refine ⟨am_sub_of rfl rfl, fun a k h => ?_⟩
  unfold am_g2 at h
  rw [show am_S3.length = 36 from rfl]
  unfold am_f2
  split at h
  · cases h
    exact ⟨by rw [if_pos (by assumption)], by omega⟩
  · split at h
    · cases h
      exact ⟨by rw [if_neg (by omega)]; omega, by omega⟩
    · cases h
theorem am_sub3 : am_sub am_S3 am_SB am_f3 am_g3 := by
  refine ⟨am_sub_of rfl rfl, fun a k h => ?_⟩
  unfold am_g3 at h
  rw [show am_S3.length = 36 from rfl]
  split at h
  · cases h
    exact ⟨by unfold am_f3; omega, by omega⟩
  · cases h
theorem am_sh3 : am_shOK am_S3 = true := by decide +kernel
theorem am_shB : am_shOK am_SB = true := by decide +kernel
/-! a call of one of the two passes -/
def T_two (X : am_Sp) : am_Sp := fun vs I L post => am_upT am_f0 am_g0 X vs I L post ∨ am_upT am_f1 am_g1 X vs I L post
theorem am_two {l : Launch} {y : MethodName} {cc : ByteArray} {maxL : Nat} {ret : Option FieldType} {rm : Room} {X : am_Sp} (hM : am_Met l am_SX y cc maxL ret rm X) : am_Met l am_SB y cc maxL ret rm (T_two X) := (am_up am_sub0 hM).or (am_up am_sub1 hM)
def sh1 {α : Type} (I : Nat → α) : Nat → α := fun k => I (am_f1 k)
def SB (I : am_I) (L : am_J) (A B : am_A) : Prop := CR I L A ∧ CR (sh1 I) (sh1 L) B
theorem am_pt0 {α : Type} {I I1 : Nat → α} {a : Nat} (h : a < 35) : am_pt am_g0 I I1 a = I1 a := by unfold am_pt am_g0; rw [if_pos h]
theorem am_pt0n {α : Type} {I I1 : Nat → α} {a : Nat} (h : ¬ a < 35) : am_pt am_g0 I I1 a = I a := by unfold am_pt am_g0; rw [if_neg h]
theorem am_pt1 {α : Type} {I I1 : Nat → α} {a : Nat} (h : a < 35) : am_pt am_g1 I I1 (am_f1 a) = I1 a := by unfold am_pt am_g1 am_f1; rw [if_pos (by omega)]; simp
theorem am_pt1n {α : Type} {I I1 : Nat → α} {a : Nat} (h : ¬ (35 ≤ a ∧ a < 70)) : am_pt am_g1 I I1 a = I a := by unfold am_pt am_g1; rw [if_neg h]
theorem tw0 {X : am_Sp} {t : List Value} {I : am_I} {L : am_J} {post : am_Po} {r : Int32} {A A2 B : am_A} (hX : ∀ post' : am_Po, (∀ (I2 : am_I) (L2 : am_J), CR I2 L2 A2 → post' (some (.int r)) I2 L2) → X (.ref 0 :: t) I L post') (ht : t.map (am_val am_f0) = t) (h : SB I L A B) (k : ∀ (I2 : am_I) (L2 : am_J), SB I2 L2 A2 B → post (some (.int r)) I2 L2) : T_two X (.ref 0 :: t) I L post := by
  refine Or.inl ⟨.ref 0 :: t, by rw [List.map_cons, ht]; rfl, hX _ (fun I2 L2 h2 => k _ _ ⟨CR_fr h2 (fun a ha => am_pt0 (by omega)) (fun a ha => am_pt0 (by omega)), CR_fr h.2 (fun a ha => am_pt0n (by unfold am_f1; omega)) (fun a ha => am_pt0n (by unfold am_f1; omega))⟩)⟩
theorem tw1 {X : am_Sp} {t : List Value} {I : am_I} {L : am_J} {post : am_Po} {r : Int32} {A B B2 : am_A} (hX : ∀ post' : am_Po, (∀ (I2 : am_I) (L2 : am_J), CR I2 L2 B2 → post' (some (.int r)) I2 L2) → X (.ref 0 :: t) (sh1 I) (sh1 L) post') (ht : t.map (am_val am_f1) = t) (h : SB I L A B) (k : ∀ (I2 : am_I) (L2 : am_J), SB I2 L2 A B2 → post (some (.int r)) I2 L2) : T_two X (.ref 35 :: t) I L post := by
  refine Or.inr ⟨.ref 0 :: t, by rw [List.map_cons, ht]; rfl, hX _ (fun I2 L2 h2 => k _ _ ⟨CR_fr h.1 (fun a ha => am_pt1n (by omega)) (fun a ha => am_pt1n (by omega)), CR_fr h2 (fun a ha => am_pt1 (by omega)) (fun a ha => am_pt1 (by omega))⟩)⟩
