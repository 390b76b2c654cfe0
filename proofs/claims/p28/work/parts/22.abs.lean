/-! THE ABSTRACT STATE: the road, its image (and whether there is one), the tape, the sheets; and what each simple call makes of it -/
abbrev am_A : Type := (Nat → Nat) × (Nat → Nat) × Bool × Nat × (Nat → Nat) × (Nat → Int32) × (Nat → Nat) × (Nat → Nat → Int64)
def VA : am_A → Prop
  | (G, K, _, tn, tt, ln, sz, _) => WG G ∧ WG K ∧ tn ≤ 100 ∧ (∀ j, j < tn → 32 ≤ tt j ∧ tt j ≤ 126) ∧ ∀ s, s < 4 → (ln s = -1 ∨ ln s = 0 ∨ ln s = 1 ∨ ln s = 2) ∧ sz s ≤ 24
def TP (I : am_I) (tn : Nat) (tt : Nat → Nat) : Prop := I 19 1 = nI tn ∧ ∀ j, j < tn → I 20 j = nI (tt j)
def SHc (I : am_I) (L : am_J) (ln : Nat → Int32) (sz : Nat → Nat) (it : Nat → Nat → Int64) : Prop := ∀ s, s < 4 → I (26 + 2 * s) 1 = ln s ∧ (¬ ln s = -1 → I (26 + 2 * s) 2 = nI (sz s)) ∧ ∀ j, j < 24 → L (27 + 2 * s) j = it s j
/-- the class's cells hold A -/
def CR (I : am_I) (L : am_J) : am_A → Prop
  | (G, K, hk, tn, tt, ln, sz, it) => VA (G, K, hk, tn, tt, ln, sz, it) ∧ RC I L 1 G ∧ RC I L 7 K ∧ I 0 7 = am_b (hk = true) ∧ TP I tn tt ∧ (∃ V, SC I L V) ∧ SHc I L ln sz it
theorem TP_fr {I I2 : am_I} {tn : Nat} {tt : Nat → Nat} (h : TP I tn tt) (h1 : I2 19 1 = I 19 1) (h2 : I2 20 = I 20) : TP I2 tn tt := by
  unfold TP at *; rw [h1, h2]; exact h
theorem SHc_fr {I I2 : am_I} {L L2 : am_J} {ln : Nat → Int32} {sz : Nat → Nat} {it : Nat → Nat → Int64} (h : SHc I L ln sz it) (h1 : ∀ a, 26 ≤ a → a ≤ 33 → I2 a = I a) (h2 : ∀ a, 26 ≤ a → a ≤ 33 → L2 a = L a) : SHc I2 L2 ln sz it := by
  intro s hs
  rw [h1 (26 + 2 * s) (by omega) (by omega), h2 (27 + 2 * s) (by omega) (by omega)]
  exact h s hs
/-- whatever a journey does, the abstract state stays -/
theorem CR_FJ {I I2 : am_I} {L L2 : am_J} {A : am_A} (h : CR I L A) (hf : FJ I I2 L L2) (hv : ∃ V, SC I2 L2 V) : CR I2 L2 A := by
  obtain ⟨G, K, hk, tn, tt, ln, sz, it⟩ := A
  obtain ⟨h1, h2, h3, h4, h5, h6, h7⟩ := h
  exact ⟨h1, FJ_RC hf (by omega) h2, FJ_RC hf (by omega) h3, by rw [hf.1 0 (by omega) (by omega) (by omega)]; exact h4, TP_fr h5 (by rw [hf.1 19 (by omega) (by omega) (by omega)]) (hf.1 20 (by omega) (by omega) (by omega)), hv, SHc_fr h7 (fun a _ _ => hf.1 a (by omega) (by omega) (by omega)) (fun a _ _ => hf.2 a (by omega) (by omega))⟩
def o_pl (x : Int32) : Prop := 0 ≤ x ∧ x < 8
def o_plD (x : Int32) : Decidable (o_pl x) := by unfold o_pl; exact inferInstance
/-- a road with one way more -/
def g_add (G : Nat → Nat) (a b : Nat) (d : Bool) : Nat → Nat := fun i => if i = 0 then G 0 + 1 else if i = 1 + G 0 then (if a < b then a else b) else if i = 13 + G 0 then (if a < b then b else a) else if i = 25 then (if d = true then g_set (G 25) (G 0) else G 25) else G i
def g_put (G : Nat → Nat) (k v : Nat) : Nat → Nat := fun i => if i = k then v else G i
def o_way : am_A → Int32 → Int32 → Int32 → Int32 × am_A
  | (G, R), a, b, d => if ¬ (0 ≤ a ∧ a < 8) ∨ ¬ (0 ≤ b ∧ b < 8) ∨ a = b then (-1, (G, R)) else if ¬ g_wy G a.toNatClampNeg b.toNatClampNeg = 0 then (-2, (G, R)) else if G 0 = 12 ∨ (¬ d = 0 ∧ g_pc (G 25) 12 = 6) then (-3, (G, R)) else (nI (G 0), (g_add G a.toNatClampNeg b.toNatClampNeg (!decide (d = 0)), R))
def o_told : am_A → Int32 → Int32 → Int32 × am_A
  | (G, R), w, x => if ¬ (0 ≤ w ∧ w < nI (G 0)) ∨ ¬ (0 ≤ x ∧ x < 4) then (-1, (G, R)) else ((if x = 0 then nI (G (1 + w.toNatClampNeg)) else if x = 1 then nI (G (13 + w.toNatClampNeg)) else if x = 2 then am_b ((G 25).testBit w.toNatClampNeg = true) else am_b ((G 44).testBit w.toNatClampNeg = true)), (G, R))
def o_stone : am_A → Int32 → Int32 → Int32 → Int32 × am_A
  | (G, R), p, s, w => if ¬ (0 ≤ p ∧ p < 8) ∨ ¬ (0 ≤ s ∧ s < 8) ∨ ¬ (0 ≤ w ∧ w < nI (G 0)) then (-1, (G, R)) else if g_wy G p.toNatClampNeg s.toNatClampNeg = 0 then (-2, (G, R)) else (nI (g_pc (g_set (G 26) p.toNatClampNeg) 12), (g_put (g_put (g_put G (27 + p.toNatClampNeg) s.toNatClampNeg) (35 + p.toNatClampNeg) w.toNatClampNeg) 26 (g_set (G 26) p.toNatClampNeg), R))
def o_strike : am_A → Int32 → Int32 × am_A
  | (G, R), p => if ¬ (0 ≤ p ∧ p < 8) then (-1, (G, R)) else if ¬ (G 26).testBit p.toNatClampNeg = true then (-2, (G, R)) else (nI (g_pc (g_clr (G 26) p.toNatClampNeg) 12), (g_put G 26 (g_clr (G 26) p.toNatClampNeg), R))
def o_of : am_A → Int32 → Int32 → Int32 × am_A
  | (G, R), p, x => if ¬ (0 ≤ p ∧ p < 8) ∨ ¬ (0 ≤ x ∧ x < 2) then (-1, (G, R)) else if ¬ (G 26).testBit p.toNatClampNeg = true then (-4, (G, R)) else ((if x = 0 then nI (G (27 + p.toNatClampNeg)) else nI (G (35 + p.toNatClampNeg))), (G, R))
def o_home : am_A → Int32 → Int32 × am_A
  | (G, R), p => if ¬ (0 ≤ p ∧ p < 8) then (-1, (G, R)) else (nI (G 43), (g_put G 43 p.toNatClampNeg, R))
def o_snow : am_A → Int32 → Int32 × am_A
  | (G, R), s => if ¬ s &&& (nI (G 25) ^^^ (-1)) = 0 then (-1, (G, R)) else (nI (G 44), (g_put G 44 s.toNatClampNeg, R))
def o_count : am_A → Int32 → Int32 × am_A
  | (G, R), x => (if x = 0 then nI (G 0) else if x = 1 then nI (G 25) else if x = 2 then nI (g_pc (G 26) 12) else if x = 3 then nI (G 43) else if x = 4 then nI (G 44) else -1, (G, R))
def o_read : am_A → Int32 → Int32 → Int32 × am_A
  | (G, R), p, f => if ¬ (0 ≤ p ∧ p < 8) ∨ ¬ (0 ≤ f ∧ f < 8) then (-1, (G, R)) else if g_wy G p.toNatClampNeg f.toNatClampNeg = 0 then (-2, (G, R)) else if ¬ (G 26).testBit p.toNatClampNeg = true then (-4, (G, R)) else (am_b ((G 44).testBit (G (35 + p.toNatClampNeg)) = false ↔ G (27 + p.toNatClampNeg) = f.toNatClampNeg), (G, R))
def o_image : am_A → Int32 × am_A
  | (G, _, _, R) => (1, (G, G, true, R))
def o_restore : am_A → Int32 × am_A
  | (G, K, hk, R) => if hk = true then (1, (K, K, hk, R)) else (-4, (G, K, hk, R))
def o_upd {α : Type} (f : Nat → α) (k : Nat) (v : α) : Nat → α := fun i => if i = k then v else f i
def o_sheet : am_A → Int32 → Int32 → Int32 → Int32 × am_A
  | (G, K, hk, tn, tt, ln, sz, it), s, a, n => if ¬ (0 ≤ s ∧ s < 4) ∨ ¬ (0 ≤ a ∧ a < 3) ∨ 24 < n then (-1, (G, K, hk, tn, tt, ln, sz, it)) else if n < 0 then (-14, (G, K, hk, tn, tt, ln, sz, it)) else (n, (G, K, hk, tn, tt, o_upd ln s.toNatClampNeg a, o_upd sz s.toNatClampNeg n.toNatClampNeg, o_upd it s.toNatClampNeg (fun _ => 0)))
def o_drop : am_A → Int32 → Int32 × am_A
  | (G, K, hk, tn, tt, ln, sz, it), s => if ¬ (0 ≤ s ∧ s < 4) then (-1, (G, K, hk, tn, tt, ln, sz, it)) else if ln s.toNatClampNeg = -1 then (-11, (G, K, hk, tn, tt, ln, sz, it)) else (nI (sz s.toNatClampNeg), (G, K, hk, tn, tt, o_upd ln s.toNatClampNeg (-1), sz, it))
/-- what is against n items of a sheet from i on, taken as of a lane -/
def o_bars (ln : Nat → Int32) (sz : Nat → Nat) (s : Nat) (a i n : Int32) : Int32 := if ln s = -1 then -11 else if ¬ ln s = a then -12 else if 0 ≤ i.toInt ∧ 0 ≤ n.toInt ∧ i.toInt + n.toInt ≤ sz s then 0 else -13
def o_item : am_A → Int32 → Int32 → Int32 → Int64 → Int32 × am_A
  | (G, K, hk, tn, tt, ln, sz, it), s, a, i, v => if ¬ (0 ≤ s ∧ s < 4) ∨ ¬ (0 ≤ a ∧ a < 3) then (-1, (G, K, hk, tn, tt, ln, sz, it)) else if ¬ o_bars ln sz s.toNatClampNeg a i 1 = 0 then (o_bars ln sz s.toNatClampNeg a i 1, (G, K, hk, tn, tt, ln, sz, it)) else (1, (G, K, hk, tn, tt, ln, sz, o_upd it s.toNatClampNeg (o_upd (it s.toNatClampNeg) i.toNatClampNeg (f_cut a v))))
def o_cpy (f g : Nat → Int64) (i j n : Nat) : Nat → Int64 := fun k => if j ≤ k ∧ k < j + n then f (i + (k - j)) else g k
def o_copy : am_A → Int32 → Int32 → Int32 → Int32 → Int32 → Int32 × am_A
  | (G, K, hk, tn, tt, ln, sz, it), s, i, t, j, n => if ¬ (0 ≤ s ∧ s < 4) ∨ ¬ (0 ≤ t ∧ t < 4) then (-1, (G, K, hk, tn, tt, ln, sz, it)) else if ln s.toNatClampNeg = -1 ∨ ln t.toNatClampNeg = -1 then (-11, (G, K, hk, tn, tt, ln, sz, it)) else if ¬ ln s.toNatClampNeg = ln t.toNatClampNeg then (-12, (G, K, hk, tn, tt, ln, sz, it))
    else if ¬ o_bars ln sz s.toNatClampNeg (ln t.toNatClampNeg) i n = 0 ∨ ¬ o_bars ln sz t.toNatClampNeg (ln s.toNatClampNeg) j n = 0 then (-13, (G, K, hk, tn, tt, ln, sz, it)) else (n, (G, K, hk, tn, tt, ln, sz, o_upd it t.toNatClampNeg (o_cpy (it s.toNatClampNeg) (it t.toNatClampNeg) i.toNatClampNeg j.toNatClampNeg n.toNatClampNeg)))
/-! the row of a road stays one -/
theorem g_pc_congr {m m' : Nat} : ∀ n, (∀ i, i < n → m.testBit i = m'.testBit i) → g_pc m n = g_pc m' n := by
  intro n
  induction n with
  | zero => intro _; rfl
  | succ n ih => intro h; simp only [g_pc, ih (fun i hi => h i (by omega)), h n (by omega)]
theorem g_pc_set {m k : Nat} (h : m.testBit k = false) : ∀ n, k < n → g_pc (g_set m k) n = g_pc m n + 1 := by
  intro n
  induction n with
  | zero => intro h; omega
  | succ n ih =>
    intro hk
    simp only [g_pc]
    rcases Nat.lt_or_ge k n with z | z
    · have hne : ¬ n = k := by omega
      rw [ih z, g_set_t]
      simp only [hne, decide_false, Bool.or_false]
      omega
    · have e : k = n := by omega
      subst e
      rw [g_pc_congr (m := g_set m k) (m' := m) k (fun i hi => by
        have : ¬ i = k := by omega
        rw [g_set_t]; simp [this]), g_set_t, h]
      simp
theorem g_add_wy {G : Nat → Nat} {a b : Nat} {d : Bool} (h12 : G 0 < 12) (p q : Nat) : g_wy (g_add G a b d) p q = if (p = a ∧ q = b) ∨ (p = b ∧ q = a) then G 0 + 1 else g_wy G p q := by
  have e0 : g_add G a b d 0 = G 0 + 1 := by simp [g_add]
  have hj : ∀ k, k < G 0 → g_j (g_add G a b d) p q k = g_j G p q k := fun k hk => by
    have e1 : g_add G a b d (1 + k) = G (1 + k) := by
      unfold g_add
      rw [if_neg (by omega), if_neg (by omega), if_neg (by omega), if_neg (by omega)]
    have e2 : g_add G a b d (13 + k) = G (13 + k) := by
      unfold g_add
      rw [if_neg (by omega), if_neg (by omega), if_neg (by omega), if_neg (by omega)]
    simp only [g_j, e1, e2]
  have hw : ∀ n, n ≤ G 0 → g_w (g_add G a b d) p q n = g_w G p q n := by
    intro n
    induction n with
    | zero => intro _; rfl
    | succ n ih => intro hn; simp only [g_w, hj n (by omega), ih (by omega)]
  have ea : g_add G a b d (1 + G 0) = if a < b then a else b := by
    unfold g_add
    rw [if_neg (by omega), if_pos rfl]
  have eb : g_add G a b d (13 + G 0) = if a < b then b else a := by
    unfold g_add
    rw [if_neg (by omega), if_neg (by omega), if_pos rfl]
  unfold g_wy
  rw [e0]
  show (if g_j (g_add G a b d) p q (G 0) = true then G 0 + 1 else g_w (g_add G a b d) p q (G 0)) = _
  rw [hw _ (Nat.le_refl _)]
  have hc : g_j (g_add G a b d) p q (G 0) = true ↔ (p = a ∧ q = b) ∨ (p = b ∧ q = a) := by
    simp only [g_j, ea, eb, Bool.or_eq_true, Bool.and_eq_true, decide_eq_true_eq]
    split <;> omega
  by_cases h : (p = a ∧ q = b) ∨ (p = b ∧ q = a)
  · rw [if_pos (hc.mpr h), if_pos h]
  · rw [if_neg (fun z => h (hc.mp z)), if_neg h]
theorem WG_add {G : Nat → Nat} (h : WG G) {a b : Nat} {d : Bool} (ha : a < 8) (hb : b < 8) (hab : a ≠ b) (hw : g_wy G a b = 0) (h12 : G 0 < 12) (hd : d = true → g_pc (G 25) 12 < 6) : WG (g_add G a b d) := by
  obtain ⟨w1, w2, w3, w4, w5, w6, w7, w8, w9, w10, w11⟩ := id h
  have e0 : g_add G a b d 0 = G 0 + 1 := by simp [g_add]
  have e1 : ∀ k, k < G 0 → g_add G a b d (1 + k) = G (1 + k) ∧ g_add G a b d (13 + k) = G (13 + k) := fun k hk => by
    constructor <;> (unfold g_add; rw [if_neg (by omega), if_neg (by omega), if_neg (by omega), if_neg (by omega)])
  have ea : g_add G a b d (1 + G 0) = if a < b then a else b := by
    unfold g_add
    rw [if_neg (by omega), if_pos rfl]
  have eb : g_add G a b d (13 + G 0) = if a < b then b else a := by
    unfold g_add
    rw [if_neg (by omega), if_neg (by omega), if_pos rfl]
  have e25 : g_add G a b d 25 = if d = true then g_set (G 25) (G 0) else G 25 := by
    unfold g_add
    rw [if_neg (by omega), if_neg (by omega), if_neg (by omega), if_pos rfl]
  have eo : ∀ i, 25 < i → g_add G a b d i = G i := fun i hi => by
    unfold g_add
    rw [if_neg (by omega), if_neg (by omega), if_neg (by omega), if_neg (by omega)]
  have hb0 : (G 25).testBit (G 0) = false := by
    cases hq : (G 25).testBit (G 0) with
    | false => rfl
    | true => have := w5 _ hq; omega
  refine ⟨by omega, fun k hk => ?_, fun j k hjk hk => ?_, ?_, fun k hk => ?_, ?_, by rw [eo 26 (by omega)]; exact w7, fun p hp hst => ?_, by rw [eo 43 (by omega)]; exact w9, by rw [eo 44 (by omega)]; exact w10, fun k hk => ?_⟩
  · rw [e0] at hk
    rcases Nat.lt_or_ge k (G 0) with z | z
    · rw [(e1 k z).1, (e1 k z).2]; exact w2 k z
    · rw [show k = G 0 by omega, ea, eb]; split <;> omega
  · rw [e0] at hk
    rcases Nat.lt_or_ge k (G 0) with z | z
    · rw [(e1 k z).1, (e1 k z).2, (e1 j (by omega)).1, (e1 j (by omega)).2]; exact w3 j k hjk z
    · have ek : k = G 0 := by omega
      subst ek
      rw [(e1 j (by omega)).1, (e1 j (by omega)).2, ea, eb]
      rintro ⟨x, y⟩
      have hj : g_j G a b j = true := by
        simp only [g_j, Bool.or_eq_true, Bool.and_eq_true, decide_eq_true_eq]
        split at x <;> split at y <;> omega
      rw [g_wy_of h hjk hj] at hw
      omega
  · rw [e25]; split
    · exact g_set_lt w4 (by omega)
    · exact w4
  · rw [e25] at hk
    rw [e0]
    split at hk
    · rw [g_set_t] at hk
      simp only [Bool.or_eq_true, decide_eq_true_eq] at hk
      rcases hk with z | z
      · have := w5 k z; omega
      · omega
    · have := w5 k hk; omega
  · rw [e25]; split
    · rename_i hdt
      rw [g_pc_set hb0 12 (by omega)]
      have := hd hdt
      omega
    · exact w6
  · rw [eo 26 (by omega)] at hst
    rw [eo _ (by omega), eo _ (by omega), e0]
    have := w8 p hp hst
    omega
  · rw [eo 44 (by omega)] at hk
    rw [e25]
    split
    · rw [g_set_t, w11 k hk]; rfl
    · exact w11 k hk
