/-! THE SMALL MACHINE stands for the machine -/
def am_kind (k idx : Nat) : Instr := if k = 0 then .invokestatic idx else .invokevirtual idx
/-- what a call of a method may count on, and what it leaves -/
def am_Qc (S : List am_C) (ad : Nat → Nat) (ca : Nat → ClassId) (D : va_G) (A : Nat → Prop) (post : am_Po) : Array Value → State → Outcome → State → Prop := fun _ st oc t => (∃ (v : Option Value) (I : am_I) (L : am_J), oc = .returned (v.map (am_val ad)) ∧ post v I L ∧ va_P D am_cl (am_w S ad ca I L) t.heap) ∧ va_F A st t
/-- the class descriptors and the shapes agree: I, J, Z -/
def am_shOK (S : List am_C) : Bool := S.all (fun c => match c with
  | .inr _ => true
  | .inl (ci, fs) => match am_cl[ci]? with
    | none => false
    | some (_, T, N) => decide (fs.length = N) && (List.range N).all (fun k => match fs[k]? with
      | some 0 => decide ((T k).2.2.1 = "I")
      | some 1 => decide ((T k).2.2.1 = "J")
      | some 2 => decide ((T k).2.2.1 = "Z")
      | some _ => true
      | none => false))
/-- the words of nest mates: they stay, but are handed on apart -/
def am_isN : Cond → Bool
  | .fieldLinkNest .. => true
  | .methodLinkNest .. => true
  | _ => false
def am_N : List Cond := lw_tbl.filter am_isN
theorem am_N_tabs {w : Cond} (h : w ∈ am_N) : w.onTables = true := by
  have h2 := (List.mem_filter.mp h).2
  cases w <;> first | rfl | cases h2
theorem am_N_warm {s U : State} (hW : s.WarmedH U.vm) (h : ∀ w ∈ am_N, va_Nw w s) : ∀ w ∈ am_N, va_Nw w U := by
  intro w hw
  have h1 := h w hw
  have h2 := (List.mem_filter.mp hw).2
  cases w <;> first | exact va_Nw.warmF hW h1 | exact va_Nw.warmM hW h1 | cases h2
section AM
variable {p : Program} {l : Launch} {e : Env} {R : Room} {s : State} {m : MethodId} {args : Array Value} {below : List Frame} {meth : Method} {c : Code} {cc : ByteArray} {own : String} {nL : Nat} {S : List am_C} {ad : Nat → Nat} {ca : Nat → ClassId} {D : va_G} {A : Nat → Prop} {Q : State → Prop}
def am_V (p : Program) (l : Launch) (e : Env) (R : Room) (s : State) (m : MethodId) (args : Array Value) (below : List Frame) (meth : Method) (c : Code) (nL : Nat) (S : List am_C) (ad : Nat → Nat) (ca : Nat → ClassId) (D : va_G) (A : Nat → Prop) (Q : State → Prop) : am_G := fun pc ls st I L =>
  ls.length = nL → ∀ (H : Heap) (locs : List Loc) (lsA : Array Slot), va_P D am_cl (am_w S ad ca I L) H → va_S A s.heap H locs → lv_has lsA nL (am_lc ad 0 ls) → W p l e R s m args below meth c H locs 0 0 Q (F0 m pc lsA (st.map (am_val ad)))
def am_CO (p : Program) (l : Launch) (e : Env) (R : Room) (s : State) (m : MethodId) (args : Array Value) (below : List Frame) (meth : Method) (c : Code) (cc : ByteArray) (nL : Nat) (S : List am_C) (ad : Nat → Nat) (ca : Nat → ClassId) (D : va_G) (A : Nat → Prop) (Q : State → Prop) (idx n k : Nat) (T : am_Sp) : Prop :=
  ∀ (pc : Nat) (vs r : List Value) (I : am_I) (L : am_J) (post : am_Po) (H : Heap) (locs : List Loc) (lsA : Array Slot), decode cc pc = .ok (am_kind k idx, 3) → vs.length = n → am_cat r ≤ 8 → (∀ ci, k = 10 + ci → ∃ o t fs, vs = .ref o :: t ∧ S[o]? = some (.inl (ci, fs))) → T vs I L post → lsA.size = nL → va_P D am_cl (am_w S ad ca I L) H → va_S A s.heap H locs →
    (∀ (v : Option Value) (I' : am_I) (L' : am_J) (H' : Heap) (locs' : List Loc), post v I' L' → va_P D am_cl (am_w S ad ca I' L') H' → va_S A s.heap H' locs' → W p l e R s m args below meth c H' locs' 0 0 Q (F0 m (pc + 3) lsA ((v.toList ++ r).map (am_val ad)))) →
    W p l e R s m args below meth c H locs 0 0 Q (F0 m pc lsA ((vs.reverse ++ r).map (am_val ad)))
/-- what stands all along a method's run -/
def am_X (p : Program) (s : State) (m : MethodId) (args : Array Value) (c : Code) (cc : ByteArray) (own : String) (nL : Nat) (S : List am_C) (ad : Nat → Nat) (ca : Nat → ClassId) (D : va_G) (A : Nat → Prop) : Prop :=
  p.tables.exec = Jvm.exec ∧ c.code = cc ∧ c.maxLocals = nL ∧ s.vm.findClass own = some m.cls ∧ (∀ w ∈ am_U, w.before args s = true) ∧ (∀ w ∈ am_N, w.before args s = true) ∧ va_K D am_cl (am_ty ca) s ∧ (∀ (I : am_I) (L : am_J), va_D A (am_w S ad ca I L)) ∧ am_shOK S = true ∧ ∀ q : Nat, s.heap.size ≤ q → A q
theorem am_store1 {pc : Nat} {i nx : Nat} {v : Value} {ls : am_Lv} {lsA : Array Slot} {G : am_Lv → Prop} (hl : lv_has lsA nL (am_lc ad 0 ls)) (hn : ls.length = nL) (h : am_s1 i v ls G) : ∃ ls2, G ls2 ∧ ls2.length = nL ∧ i < nL ∧ ∀ a : Array Slot, lv_has a nL ((i, am_val ad v) :: (am_lc ad 0 ls).filter (fun q => !(q.1 == i) && !(q.1 + 1 == i && q.2.category == 2))) → lv_has a nL (am_lc ad 0 ls2) := by
  obtain ⟨ls2, h1, h2, h3, h4⟩ := am_s1_ok ls i v G h
  refine ⟨ls2, h1, h2.trans hn, by omega, fun a ha => ⟨ha.1, ha.2.1, fun q hq => ha.2.2 q ?_⟩⟩
  obtain ⟨j, u, g1, rfl⟩ := (am_lc_mem ls2 0 q).mp hq
  rcases h4 j u g1 with ⟨rfl, rfl⟩ | ⟨g2, g3, g4⟩
  · rw [show 0 + j = j by omega]; exact List.mem_cons_self
  · refine List.mem_cons_of_mem _ (List.mem_filter.mpr ⟨(am_lc_mem ls 0 _).mpr ⟨j, u, g2, rfl⟩, ?_⟩)
    simp only [Nat.zero_add, am_val_cat]
    simp only [Bool.and_eq_true, Bool.not_eq_true', beq_eq_false_iff_ne, ne_eq, Bool.and_eq_false_iff]
    refine ⟨g3, ?_⟩
    by_cases hj : j + 1 = i
    · right; exact fun q => g4 ⟨hj, q⟩
    · left; exact hj
theorem am_store2 {pc : Nat} {i nx : Nat} {v : Value} {ls : am_Lv} {lsA : Array Slot} {G : am_Lv → Prop} (hl : lv_has lsA nL (am_lc ad 0 ls)) (hn : ls.length = nL) (h : am_s2 i v ls G) : ∃ ls2, G ls2 ∧ ls2.length = nL ∧ i + 1 < nL ∧ ∀ a : Array Slot, lv_has a nL ((i, am_val ad v) :: (am_lc ad 0 ls).filter (fun q => !(q.1 == i) && (!(q.1 == i + 1) && !(q.1 + 1 == i && q.2.category == 2)))) → lv_has a nL (am_lc ad 0 ls2) := by
  obtain ⟨ls2, h1, h2, h3, h4⟩ := am_s2_ok ls i v G h
  refine ⟨ls2, h1, h2.trans hn, by omega, fun a ha => ⟨ha.1, ha.2.1, fun q hq => ha.2.2 q ?_⟩⟩
  obtain ⟨j, u, g1, rfl⟩ := (am_lc_mem ls2 0 q).mp hq
  rcases h4 j u g1 with ⟨rfl, rfl⟩ | ⟨g2, g3, g5, g4⟩
  · rw [show 0 + j = j by omega]; exact List.mem_cons_self
  · refine List.mem_cons_of_mem _ (List.mem_filter.mpr ⟨(am_lc_mem ls 0 _).mpr ⟨j, u, g2, rfl⟩, ?_⟩)
    simp only [Nat.zero_add, am_val_cat]
    simp only [Bool.and_eq_true, Bool.not_eq_true', beq_eq_false_iff_ne, ne_eq, Bool.and_eq_false_iff]
    refine ⟨g3, g5, ?_⟩
    by_cases hj : j + 1 = i
    · right; exact fun q => g4 ⟨hj, q⟩
    · left; exact hj
theorem am_inR {j : Int32} {n : Nat} (h : vp_in j n) (hn : n < 100) : ∃ k : Nat, k < n ∧ j = Int32.ofNat k := vp_in_of h (by omega)
theorem am_gld {ls : am_Lv} {lsA : Array Slot} {k : Nat} {f : Value → Prop} (hl : lv_has lsA nL (am_lc ad 0 ls)) (h : am_gl ls k f) : ∃ v, f v ∧ lsA[k]? = some (.val (am_val ad v)) := by
  obtain ⟨v, h1, h2⟩ := am_gl_ok h
  exact ⟨v, h2, am_lv_at hl h1⟩
end AM
/-- per class: its words, names, types -/
theorem am_cls0 : (∀ w ∈ u_ws "ReadPass" am_T0 8, w ∈ lw_tbl ∧ goodWord w = true) ∧ (∀ a, a < 8 → ∀ b, b < 8 → a ≠ b → (am_T0 a).2.1 ≠ (am_T0 b).2.1) ∧ (∀ k, k < 8 → (parseFieldDescriptor (am_T0 k).2.2.1).isSome = true) := ⟨by decide +kernel, by decide +kernel, by decide +kernel⟩
theorem am_cls1 : (∀ w ∈ u_ws "ReadPass$Road" am_T1 12, w ∈ lw_tbl ∧ goodWord w = true) ∧ (∀ a, a < 12 → ∀ b, b < 12 → a ≠ b → (am_T1 a).2.1 ≠ (am_T1 b).2.1) ∧ (∀ k, k < 12 → (parseFieldDescriptor (am_T1 k).2.2.1).isSome = true) := ⟨by decide +kernel, by decide +kernel, by decide +kernel⟩
theorem am_cls2 : (∀ w ∈ u_ws "ReadPass$Tape" am_T2 3, w ∈ lw_tbl ∧ goodWord w = true) ∧ (∀ a, a < 3 → ∀ b, b < 3 → a ≠ b → (am_T2 a).2.1 ≠ (am_T2 b).2.1) ∧ (∀ k, k < 3 → (parseFieldDescriptor (am_T2 k).2.2.1).isSome = true) := ⟨by decide +kernel, by decide +kernel, by decide +kernel⟩
theorem am_cls3 : (∀ w ∈ u_ws "ReadPass$Journey" am_T3 10, w ∈ lw_tbl ∧ goodWord w = true) ∧ (∀ a, a < 10 → ∀ b, b < 10 → a ≠ b → (am_T3 a).2.1 ≠ (am_T3 b).2.1) ∧ (∀ k, k < 10 → (parseFieldDescriptor (am_T3 k).2.2.1).isSome = true) := ⟨by decide +kernel, by decide +kernel, by decide +kernel⟩
theorem am_cls4 : (∀ w ∈ u_ws "ReadPass$Seen" am_T4 3, w ∈ lw_tbl ∧ goodWord w = true) ∧ (∀ a, a < 3 → ∀ b, b < 3 → a ≠ b → (am_T4 a).2.1 ≠ (am_T4 b).2.1) ∧ (∀ k, k < 3 → (parseFieldDescriptor (am_T4 k).2.2.1).isSome = true) := ⟨by decide +kernel, by decide +kernel, by decide +kernel⟩
theorem am_cls5 : (∀ w ∈ u_ws "ReadPass$Sheet" am_T5 3, w ∈ lw_tbl ∧ goodWord w = true) ∧ (∀ a, a < 3 → ∀ b, b < 3 → a ≠ b → (am_T5 a).2.1 ≠ (am_T5 b).2.1) ∧ (∀ k, k < 3 → (parseFieldDescriptor (am_T5 k).2.2.1).isSome = true) := ⟨by decide +kernel, by decide +kernel, by decide +kernel⟩
theorem am_cls {ci N : Nat} {C : String} {T : u_T} (h : am_cl[ci]? = some (C, T, N)) : (∀ w ∈ u_ws C T N, w ∈ lw_tbl ∧ goodWord w = true) ∧ (∀ a, a < N → ∀ b, b < N → a ≠ b → (T a).2.1 ≠ (T b).2.1) ∧ (∀ k, k < N → (parseFieldDescriptor (T k).2.2.1).isSome = true) := by
  match ci, h with
  | 0, h => cases h; exact am_cls0
  | 1, h => cases h; exact am_cls1
  | 2, h => cases h; exact am_cls2
  | 3, h => cases h; exact am_cls3
  | 4, h => cases h; exact am_cls4
  | 5, h => cases h; exact am_cls5
  | k + 6, h => simp [am_cl] at h
