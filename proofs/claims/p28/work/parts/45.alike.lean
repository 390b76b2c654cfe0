/-! THE LAW: areAlike -/
section LE
variable {G : Nat → Nat} {R R' : (Nat → Nat) × Bool × Nat × (Nat → Nat) × (Nat → Int32) × (Nat → Nat) × (Nat → Nat → Int64)}
theorem le_walk (x y z : Int32) : (o_walk (G, R) x y z).1 = (o_walk (G, R') x y z).1 := by
  unfold o_walk; dsimp only; split <;> rfl
theorem le_shut (x y : Int32) : (o_shut (G, R) x y).1 = (o_shut (G, R') x y).1 := by
  unfold o_shut; dsimp only; split <;> rfl
theorem le_worst (x : Int32) : (o_worst (G, R) x).1 = (o_worst (G, R') x).1 := by
  unfold o_worst; dsimp only; split
  · rfl
  · split <;> rfl
theorem le_struck (x y z : Int32) : (o_struck (G, R) x y z).1 = (o_struck (G, R') x y z).1 := by
  unfold o_struck; dsimp only
  by_cases h : ¬ (0 ≤ x ∧ x < 4) ∨ ¬ (0 ≤ y ∧ y < 8) ∨ ¬ (0 ≤ z ∧ z < 2)
  · rw [if_pos h, if_pos h]
  · rw [if_neg h, if_neg h]
theorem le_told (x y : Int32) : (o_told (G, R) x y).1 = (o_told (G, R') x y).1 := by
  unfold o_told; dsimp only; split <;> rfl
theorem le_of (x y : Int32) : (o_of (G, R) x y).1 = (o_of (G, R') x y).1 := by
  unfold o_of; dsimp only; split
  · rfl
  · split <;> rfl
theorem le_count (x : Int32) : (o_count (G, R) x).1 = (o_count (G, R') x).1 := rfl
end LE
theorem la_count {A : am_A} (x : Int32) : (o_count A x).2 = A := rfl
def T_LW_areAlike : am_Sp := fun vs I L post => match vs with
  | [.ref o, .ref q] => o = 0 ∧ q = 35 ∧ ∃ A B, SB I L A B ∧ A.1 = B.1 ∧ ∀ (I2 : am_I) (L2 : am_J), SB I2 L2 A B → post (some (.int 1)) I2 L2
  | _ => False
def sp_LW_areAlike : Nat → am_Sp := fun i => match i with
  | 57 => T_two T_RP_count
  | 95 => T_two T_RP_told
  | 98 => T_two T_RP_of
  | 106 => T_two T_RP_walk
  | 112 => T_two T_RP_shut
  | 115 => T_two T_RP_worst
  | 121 => T_two T_RP_struck
  | _ => am_no
set_option maxHeartbeats 16000000 in
set_option maxRecDepth 100000 in
theorem ok_LW_areAlike : am_Ok am_SB sp_LW_areAlike true k_LW_areAlike 5 T_LW_areAlike := by
  intro vs I L post h
  unfold T_LW_areAlike at h
  split at h
  · rename_i o q
    obtain ⟨rfl, rfl, A, B, hC, hAB, hp⟩ := h
    obtain ⟨W, RA⟩ := A
    obtain ⟨W2, RB⟩ := B
    dsimp only at hAB
    subst hAB
    refine ⟨Nat.le_of_ble_eq_true rfl, fun G hG => ?_⟩
    have loop : ∀ n k : Nat, 12 - k = n → k ≤ 12 → ∀ (I : am_I) (L : am_J), SB I L (W, RA) (W, RB) → G 38 [some (.ref 0), some (.ref 35), some (.int 1), some (.int (nI k)), none] [] I L := by
      intro n
      induction n with
      | zero =>
        intro k hn hk I L h
        have : k = 12 := by omega
        subst this
        exact hG [] 50 38 _ _ _ _ (am_nt (by decide) (And.intro (Or.inr rfl) (hp I L h)))
      | succ n ih =>
        intro k hn hk I L h
        have q177 : ∀ (I : am_I) (L : am_J), SB I L (W, RA) (W, RB) → G 177 [some (.ref 0), some (.ref 35), some (.int 1), some (.int (nI k)), some (.int (nI k &&& 3))] [] I L := fun I L h => by
          refine hG [(38, [1, 1, 1, 1, 0])] 50 177 _ _ _ _ ?_
          show G 38 [some (.ref 0), some (.ref 35), some (.int 1), some (.int (nI k + 1)), none] [] I L
          rw [nI_1]
          exact ih (k + 1) (by omega) (by omega) I L h
        have q160 : ∀ (I : am_I) (L : am_J), SB I L (W, RA) (W, RB) → G 160 [some (.ref 0), some (.ref 35), some (.int 1), some (.int (nI k)), some (.int (nI k &&& 3))] [] I L := fun I L h => hG [(177, [])] 90 160 _ _ _ _ (tw0 (fun post2 hp2 => And.intro rfl (Exists.intro (W, RA) (And.intro h.1 (fun Ix Lx hx => hp2 Ix Lx (la_ap (la_shut (nI k &&& 3) (nI k)) hx))))) rfl h (fun I1 L1 h1 => tw1 (fun post2 hp2 => And.intro rfl (Exists.intro (W, RB) (And.intro h1.2 (fun Ix Lx hx => hp2 Ix Lx (la_ap (la_shut (nI k &&& 3) (nI k)) hx))))) rfl h1 (fun I2 L2 h2 => am_nf (le_shut (nI k &&& 3) (nI k)) (q177 I2 L2 h2))))
        have q141 : ∀ (I : am_I) (L : am_J), SB I L (W, RA) (W, RB) → G 141 [some (.ref 0), some (.ref 35), some (.int 1), some (.int (nI k)), some (.int (nI k &&& 3))] [] I L := fun I L h => hG [(160, [])] 90 141 _ _ _ _ (tw0 (fun post2 hp2 => And.intro rfl (Exists.intro (W, RA) (And.intro h.1 (fun Ix Lx hx => hp2 Ix Lx (la_ap (la_walk (nI k &&& 3) (nI k) 0) hx))))) rfl h (fun I1 L1 h1 => tw1 (fun post2 hp2 => And.intro rfl (Exists.intro (W, RB) (And.intro h1.2 (fun Ix Lx hx => hp2 Ix Lx (la_ap (la_walk (nI k &&& 3) (nI k) 0) hx))))) rfl h1 (fun I2 L2 h2 => am_nf (le_walk (nI k &&& 3) (nI k) 0) (q160 I2 L2 h2))))
        have q126 : ∀ (I : am_I) (L : am_J), SB I L (W, RA) (W, RB) → G 126 [some (.ref 0), some (.ref 35), some (.int 1), some (.int (nI k)), some (.int (nI k &&& 3))] [] I L := fun I L h => hG [(141, [])] 90 126 _ _ _ _ (tw0 (fun post2 hp2 => And.intro rfl (Exists.intro (W, RA) (And.intro h.1 (fun Ix Lx hx => hp2 Ix Lx (la_ap (la_of (nI k) 1) hx))))) rfl h (fun I1 L1 h1 => tw1 (fun post2 hp2 => And.intro rfl (Exists.intro (W, RB) (And.intro h1.2 (fun Ix Lx hx => hp2 Ix Lx (la_ap (la_of (nI k) 1) hx))))) rfl h1 (fun I2 L2 h2 => am_nf (le_of (nI k) 1) (q141 I2 L2 h2))))
        have q111 : ∀ (I : am_I) (L : am_J), SB I L (W, RA) (W, RB) → G 111 [some (.ref 0), some (.ref 35), some (.int 1), some (.int (nI k)), some (.int (nI k &&& 3))] [] I L := fun I L h => hG [(126, [])] 90 111 _ _ _ _ (tw0 (fun post2 hp2 => And.intro rfl (Exists.intro (W, RA) (And.intro h.1 (fun Ix Lx hx => hp2 Ix Lx (la_ap (la_of (nI k) 0) hx))))) rfl h (fun I1 L1 h1 => tw1 (fun post2 hp2 => And.intro rfl (Exists.intro (W, RB) (And.intro h1.2 (fun Ix Lx hx => hp2 Ix Lx (la_ap (la_of (nI k) 0) hx))))) rfl h1 (fun I2 L2 h2 => am_nf (le_of (nI k) 0) (q126 I2 L2 h2))))
        have q96 : ∀ (I : am_I) (L : am_J), SB I L (W, RA) (W, RB) → G 96 [some (.ref 0), some (.ref 35), some (.int 1), some (.int (nI k)), some (.int (nI k &&& 3))] [] I L := fun I L h => hG [(111, [])] 90 96 _ _ _ _ (tw0 (fun post2 hp2 => And.intro rfl (Exists.intro (W, RA) (And.intro h.1 (fun Ix Lx hx => hp2 Ix Lx (la_ap (la_told (nI k) 2) hx))))) rfl h (fun I1 L1 h1 => tw1 (fun post2 hp2 => And.intro rfl (Exists.intro (W, RB) (And.intro h1.2 (fun Ix Lx hx => hp2 Ix Lx (la_ap (la_told (nI k) 2) hx))))) rfl h1 (fun I2 L2 h2 => am_nf (le_told (nI k) 2) (q111 I2 L2 h2))))
        have q81 : ∀ (I : am_I) (L : am_J), SB I L (W, RA) (W, RB) → G 81 [some (.ref 0), some (.ref 35), some (.int 1), some (.int (nI k)), some (.int (nI k &&& 3))] [] I L := fun I L h => hG [(96, [])] 90 81 _ _ _ _ (tw0 (fun post2 hp2 => And.intro rfl (Exists.intro (W, RA) (And.intro h.1 (fun Ix Lx hx => hp2 Ix Lx (la_ap (la_told (nI k) 1) hx))))) rfl h (fun I1 L1 h1 => tw1 (fun post2 hp2 => And.intro rfl (Exists.intro (W, RB) (And.intro h1.2 (fun Ix Lx hx => hp2 Ix Lx (la_ap (la_told (nI k) 1) hx))))) rfl h1 (fun I2 L2 h2 => am_nf (le_told (nI k) 1) (q96 I2 L2 h2))))
        have q66 : ∀ (I : am_I) (L : am_J), SB I L (W, RA) (W, RB) → G 66 [some (.ref 0), some (.ref 35), some (.int 1), some (.int (nI k)), some (.int (nI k &&& 3))] [] I L := fun I L h => hG [(81, [])] 90 66 _ _ _ _ (tw0 (fun post2 hp2 => And.intro rfl (Exists.intro (W, RA) (And.intro h.1 (fun Ix Lx hx => hp2 Ix Lx (la_ap (la_told (nI k) 0) hx))))) rfl h (fun I1 L1 h1 => tw1 (fun post2 hp2 => And.intro rfl (Exists.intro (W, RB) (And.intro h1.2 (fun Ix Lx hx => hp2 Ix Lx (la_ap (la_told (nI k) 0) hx))))) rfl h1 (fun I2 L2 h2 => am_nf (le_told (nI k) 0) (q81 I2 L2 h2))))
        have q53 : ∀ (I : am_I) (L : am_J), SB I L (W, RA) (W, RB) → G 53 [some (.ref 0), some (.ref 35), some (.int 1), some (.int (nI k)), some (.int (nI k &&& 3))] [] I L := fun I L h => hG [(66, [])] 90 53 _ _ _ _ (tw0 (fun post2 hp2 => And.intro rfl (Exists.intro (W, RA) (And.intro h.1 (fun Ix Lx hx => hp2 Ix Lx (la_ap (la_count (nI k)) hx))))) rfl h (fun I1 L1 h1 => tw1 (fun post2 hp2 => And.intro rfl (Exists.intro (W, RB) (And.intro h1.2 (fun Ix Lx hx => hp2 Ix Lx (la_ap (la_count (nI k)) hx))))) rfl h1 (fun I2 L2 h2 => am_nf (le_count (nI k)) (q66 I2 L2 h2))))
        exact hG [(53, [])] 50 38 _ _ _ _ (am_nf (am_lt (show k < 12 by omega) rfl) (am_f (by decide) (q53 I L h)))
    have q30 : ∀ (I : am_I) (L : am_J), SB I L (W, RA) (W, RB) → G 30 [some (.ref 0), some (.ref 35), none, none, none] [] I L := fun I L h => hG [(38, [])] 50 30 _ _ _ _ (loop 12 0 (by omega) (by omega) I L h)
    have q17 : ∀ (I : am_I) (L : am_J), SB I L (W, RA) (W, RB) → G 17 [some (.ref 0), some (.ref 35), none, none, none] [] I L := fun I L h => hG [(30, [])] 90 17 _ _ _ _ (tw0 (fun post2 hp2 => And.intro rfl (Exists.intro (W, RA) (And.intro h.1 (fun Ix Lx hx => hp2 Ix Lx (la_ap (la_worst 2) hx))))) rfl h (fun I1 L1 h1 => tw1 (fun post2 hp2 => And.intro rfl (Exists.intro (W, RB) (And.intro h1.2 (fun Ix Lx hx => hp2 Ix Lx (la_ap (la_worst 2) hx))))) rfl h1 (fun I2 L2 h2 => am_nf (le_worst 2) (q30 I2 L2 h2))))
    have q0 : ∀ (I : am_I) (L : am_J), SB I L (W, RA) (W, RB) → G 0 [some (.ref 0), some (.ref 35), none, none, none] [] I L := fun I L h => hG [(17, [])] 90 0 _ _ _ _ (tw0 (fun post2 hp2 => And.intro rfl (Exists.intro (W, RA) (And.intro h.1 (fun Ix Lx hx => hp2 Ix Lx (la_ap (la_struck 0 1 1) hx))))) rfl h (fun I1 L1 h1 => tw1 (fun post2 hp2 => And.intro rfl (Exists.intro (W, RB) (And.intro h1.2 (fun Ix Lx hx => hp2 Ix Lx (la_ap (la_struck 0 1 1) hx))))) rfl h1 (fun I2 L2 h2 => am_nf (le_struck 0 1 1) (q17 I2 L2 h2))))
    exact q0 I L hC
  · exact h.elim
