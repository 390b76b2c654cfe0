/-! THE LAW: isLeft: what is refused, what is only asked -/
/-- a number far from all that there is -/
def Far (f : Int32) : Prop := ∀ n : Nat, n ≤ 4096 → ¬ (0 ≤ f ∧ f < nI n)
theorem far_hi {j : Nat} (h : 4096 ≤ j) (h2 : j < 8192) : Far (nI j) := fun n hn q => absurd q.2 (nI_nlt (by omega) (by omega))
theorem far_lo {f : Int32} (h : f < 0) : Far f := fun n hn q => absurd h (Int32.not_lt.mpr q.1)
theorem far_x (x : Int32) : (x &&& 1 = 0 → Far (4096 + ((x >>> ((1 : Int32) &&& 31)) &&& 1023))) ∧ Far (-2 - ((x >>> ((1 : Int32) &&& 31)) &&& 1023)) := by
  obtain ⟨j, hj, e⟩ := pk_andE (x >>> ((1 : Int32) &&& 31)) (m := 1023) 10 (by decide)
  rw [e]
  refine ⟨fun _ => ?_, far_lo ?_⟩
  · rw [show (4096 : Int32) = nI 4096 from rfl, nI_add]
    exact far_hi (by omega) (by omega)
  · rw [Int32.lt_iff_toInt_lt, Int32.toInt_sub, nI_toInt (by omega), show (-2 : Int32).toInt = -2 from rfl, show (0 : Int32).toInt = 0 from rfl, Int.bmod_eq_of_le (by omega) (by omega)]
    omega
section LF
variable {A : am_A} {f : Int32}
theorem Far.p (h : Far f) (n : Nat) (hn : Nat.ble n 4096 = true) : ¬ (0 ≤ f ∧ f < nI n) := h n (Nat.le_of_ble_eq_true hn)
theorem Far.w (h : Far f) {n : Nat} (hn : n ≤ 12) : ¬ (0 ≤ f ∧ f < nI n) := h n (by omega)
theorem lf_way (h : Far f) : o_way A f 0 1 = (-1, A) := by
  obtain ⟨G, R⟩ := A
  exact if_pos (Or.inl (h.p 8 rfl))
theorem lf_way0 : o_way A 0 0 1 = (-1, A) := by
  obtain ⟨G, R⟩ := A
  unfold o_way; dsimp only
  rw [if_pos (Or.inr (Or.inr rfl))]
theorem lf_told (hV : VA A) (h : Far f) : o_told A f 0 = (-1, A) := by
  obtain ⟨G, R⟩ := A
  exact if_pos (Or.inl (h.w hV.1.1))
theorem lf_stone (h : Far f) : o_stone A f 0 0 = (-1, A) := by
  obtain ⟨G, R⟩ := A
  exact if_pos (Or.inl (h.p 8 rfl))
theorem lf_stone3 (hV : VA A) (h : Far f) : o_stone A 0 1 f = (-1, A) := by
  obtain ⟨G, R⟩ := A
  exact if_pos (Or.inr (Or.inr (h.w hV.1.1)))
theorem lf_strike (h : Far f) : o_strike A f = (-1, A) := by
  obtain ⟨G, R⟩ := A
  exact if_pos (h.p 8 rfl)
theorem lf_of (h : Far f) : o_of A f 0 = (-1, A) := by
  obtain ⟨G, R⟩ := A
  exact if_pos (Or.inl (h.p 8 rfl))
theorem lf_of2 (h : Far f) : o_of A 0 f = (-1, A) := by
  obtain ⟨G, R⟩ := A
  exact if_pos (Or.inr (h.p 2 rfl))
theorem lf_home (h : Far f) : o_home A f = (-1, A) := by
  obtain ⟨G, R⟩ := A
  exact if_pos (h.p 8 rfl)
theorem lf_snow (hV : VA A) (h : Far f) : o_snow A f = (-1, A) := by
  obtain ⟨G, R⟩ := A
  refine if_pos (fun z => ?_)
  obtain ⟨m, h1, h2, _⟩ := am_snow hV.1.2.2.2.1 z
  refine h 4096 (Nat.le_refl _) ?_
  rw [h2]
  exact ⟨nI_pos' (by omega), nI_lt (by omega) (by omega)⟩
theorem lf_type0 : o_type A 0 1 = (-1, A) := by
  obtain ⟨G, K, hk, tn, tt, R⟩ := A
  unfold o_type; dsimp only
  refine if_pos (fun z => ?_)
  have := (o_tyB_iff.mp z.2 0 (by decide)).1
  exact absurd this (by decide)
theorem lf_type (h : Far f) : o_type A 32 f = (-1, A) := by
  obtain ⟨G, K, hk, tn, tt, R⟩ := A
  refine if_pos (fun z => h.p 9 rfl ⟨?_, ?_⟩)
  · exact Int32.le_trans (by decide) z.1.1
  · exact Int32.lt_of_le_of_lt z.1.2 (by decide)
theorem lf_count (h : Far f) : o_count A f = (-1, A) := by
  have hn : ∀ k : Nat, k < 5 → ¬ f = nI k := fun k hk e => h.p 5 rfl (by rw [e]; exact ⟨nI_pos' (by omega), nI_lt hk (by omega)⟩)
  obtain ⟨G, R⟩ := A
  unfold o_count
  dsimp only
  rw [if_neg (show ¬ f = 0 from hn 0 (by omega)), if_neg (show ¬ f = 1 from hn 1 (by omega)), if_neg (show ¬ f = 2 from hn 2 (by omega)), if_neg (show ¬ f = 3 from hn 3 (by omega)), if_neg (show ¬ f = 4 from hn 4 (by omega))]
theorem lf_read (h : Far f) : o_read A f 0 = (-1, A) := by
  obtain ⟨G, R⟩ := A
  exact if_pos (Or.inl (h.p 8 rfl))
theorem lf_walk (h : Far f) : o_walk A f 0 0 = (-1, A) := by
  obtain ⟨G, R⟩ := A
  exact if_pos (Or.inl (h.p 4 rfl))
theorem lf_walk2 (h : Far f) : o_walk A 0 f 0 = (-1, A) := by
  obtain ⟨G, R⟩ := A
  exact if_pos (Or.inr (Or.inl (h.p 8 rfl)))
theorem lf_at (h : Far f) : o_at A 0 0 f = (-1, A) := by
  obtain ⟨G, R⟩ := A
  refine if_pos (Or.inr (Or.inr ?_))
  by_cases h0 : f < 0
  · exact Or.inl h0
  · refine Or.inr (Int32.not_le.mp (fun z => h.p 100 rfl ⟨Int32.not_lt.mp h0, Int32.lt_of_le_of_lt z (by decide)⟩))
theorem lf_shut (h : Far f) : o_shut A f 0 = (-1, A) := by
  obtain ⟨G, R⟩ := A
  exact if_pos (Or.inl (h.p 4 rfl))
theorem lf_worst (h : Far f) : o_worst A f = (-1, A) := by
  obtain ⟨G, R⟩ := A
  exact if_pos (h.p 8 rfl)
theorem lf_next (h : Far f) : o_next A f = (-1, A) := by
  obtain ⟨G, R⟩ := A
  exact if_pos (h.p 8 rfl)
theorem lf_struck (h : Far f) : o_struck A 0 f 0 = (-1, A) := by
  obtain ⟨G, R⟩ := A
  exact if_pos (Or.inr (Or.inl (h.p 8 rfl)))
theorem lf_struck3 (h : Far f) : o_struck A 0 0 f = (-1, A) := by
  obtain ⟨G, R⟩ := A
  exact if_pos (Or.inr (Or.inr (h.p 2 rfl)))
theorem lf_track (h : Far f) : o_track A f 0 0 0 0 1 0 = (-1, A) := by
  obtain ⟨G, K, hk, tn, tt, ln, sz, it⟩ := A
  exact if_pos (Or.inl (fun z => h.p 4 rfl z.1))
theorem lf_film (h : Far f) : o_film A 0 f 0 0 0 1 = (-1, A) := by
  obtain ⟨G, K, hk, tn, tt, ln, sz, it⟩ := A
  exact if_pos (fun z => h.p 8 rfl z.2.1)
theorem lf_sheet (h : Far f) : o_sheet A f 0 0 = (-1, A) := by
  obtain ⟨G, K, hk, tn, tt, ln, sz, it⟩ := A
  exact if_pos (Or.inl (h.p 4 rfl))
theorem lf_sheet25 : o_sheet A 0 0 25 = (-1, A) := by
  obtain ⟨G, K, hk, tn, tt, ln, sz, it⟩ := A
  unfold o_sheet; dsimp only
  rw [if_pos (by decide)]
theorem lf_sheetm : o_sheet A 0 0 (-1) = (-14, A) := by
  obtain ⟨G, K, hk, tn, tt, ln, sz, it⟩ := A
  unfold o_sheet; dsimp only
  rw [if_neg (by decide), if_pos (by decide)]
theorem lf_drop (h : Far f) : o_drop A f = (-1, A) := by
  obtain ⟨G, K, hk, tn, tt, ln, sz, it⟩ := A
  exact if_pos (h.p 4 rfl)
theorem lf_item (h : Far f) : o_item A f 0 0 0 = (-1, A) := by
  obtain ⟨G, K, hk, tn, tt, ln, sz, it⟩ := A
  exact if_pos (Or.inl (h.p 4 rfl))
theorem lf_copy (h : Far f) : o_copy A f 0 0 0 0 = (-1, A) := by
  obtain ⟨G, K, hk, tn, tt, ln, sz, it⟩ := A
  exact if_pos (Or.inl (h.p 4 rfl))
/-- what is only asked leaves all as it is -/
theorem la_walk (x y z : Int32) : (o_walk A x y z).2 = A := by
  obtain ⟨G, R⟩ := A
  unfold o_walk; dsimp only; split <;> rfl
theorem la_at (x y z : Int32) : (o_at A x y z).2 = A := by
  obtain ⟨G, R⟩ := A
  unfold o_at; dsimp only; split
  · rfl
  · split <;> rfl
theorem la_shut (x y : Int32) : (o_shut A x y).2 = A := by
  obtain ⟨G, R⟩ := A
  unfold o_shut; dsimp only; split <;> rfl
theorem la_worst (x : Int32) : (o_worst A x).2 = A := by
  obtain ⟨G, R⟩ := A
  unfold o_worst; dsimp only; split
  · rfl
  · split <;> rfl
theorem la_next (x : Int32) : (o_next A x).2 = A := by
  obtain ⟨G, R⟩ := A
  unfold o_next; dsimp only; split <;> rfl
theorem la_struck (x y z : Int32) : (o_struck A x y z).2 = A := by
  obtain ⟨G, R⟩ := A
  unfold o_struck; dsimp only; split <;> rfl
theorem la_read (x y : Int32) : (o_read A x y).2 = A := by
  obtain ⟨G, R⟩ := A
  unfold o_read; dsimp only; split
  · rfl
  · split
    · rfl
    · split <;> rfl
theorem la_track (a b c d e g h : Int32) : (o_track A a b c d e g h).2 = A := by
  obtain ⟨G, K, hk, tn, tt, ln, sz, it⟩ := A
  unfold o_track; dsimp only; split
  · rfl
  · split <;> rfl
theorem la_told (x y : Int32) : (o_told A x y).2 = A := by
  obtain ⟨G, R⟩ := A
  unfold o_told; dsimp only; split <;> rfl
theorem la_of (x y : Int32) : (o_of A x y).2 = A := by
  obtain ⟨G, R⟩ := A
  unfold o_of; dsimp only; split
  · rfl
  · split <;> rfl
end LF
/-- bounds of what is asked -/
def Bd (lo hi : Int) (r : Int32) : Prop := lo ≤ r.toInt ∧ r.toInt ≤ hi
theorem Bd.n {lo hi : Int} {n : Nat} (h : n ≤ 40000) (h1 : lo ≤ 0) (h2 : 40000 ≤ hi) : Bd lo hi (nI n) := by
  unfold Bd
  rw [nI_toInt (by omega)]
  omega
theorem Bd.add {a b c d : Int} {x y : Int32} (h1 : Bd a b x) (h2 : Bd c d y) (hl : -1000000 ≤ a ∧ -1000000 ≤ c) (hh : b ≤ 1000000 ∧ d ≤ 1000000) : Bd (a + c) (b + d) (x + y) := by
  unfold Bd at *
  rw [Int32.toInt_add, Int.bmod_eq_of_le (by omega) (by omega)]
  omega
theorem bd_4 : Bd (-13) 40000 (-4) := ⟨by decide, by decide⟩
theorem bd_2 : Bd (-13) 40000 (-2) := ⟨by decide, by decide⟩
theorem bd_0 : Bd (-13) 40000 (0) := ⟨by decide, by decide⟩
theorem bd_1 : Bd (-13) 40000 (1) := ⟨by decide, by decide⟩
theorem bd_11 : Bd (-13) 40000 (-11) := ⟨by decide, by decide⟩
theorem bd_12 : Bd (-13) 40000 (-12) := ⟨by decide, by decide⟩
theorem bd_13 : Bd (-13) 40000 (-13) := ⟨by decide, by decide⟩
section BDS
variable {A : am_A}
theorem bd_walk (hV : VA A) : Bd 0 40000 (o_walk A 0 0 0).1 := by
  obtain ⟨G, R⟩ := A
  have e : o_walk (G, R) 0 0 0 = (nI (g_T G 0 (G 44) (G 26) 0), (G, R)) := by
    unfold o_walk; dsimp only
    rw [if_neg (by decide), if_pos rfl]
    rfl
  rw [e]
  have := (g_T_spec (snow := G 44) (JX_of hV.1 (kind := 0) (f := 0) (by omega) (by omega))).1
  exact Bd.n (by omega) (by omega) (by omega)
theorem bd_at (hV : VA A) : Bd (-13) 40000 (o_at A 3 1 2).1 := by
  obtain ⟨G, R⟩ := A
  unfold o_at; dsimp only
  rw [if_neg (by decide)]
  split
  · first | exact bd_4 | exact bd_2 | exact bd_0 | exact bd_1 | exact bd_11 | exact bd_12 | exact bd_13
  · have := (g_S_lt (kind := (3 : Int32).toNatClampNeg) (snow := G 44) (stones := G 26) (f := (1 : Int32).toNatClampNeg) hV.1 (fun _ q => q) (by decide) (2 : Int32).toNatClampNeg).1
    exact Bd.n (by omega) (by omega) (by omega)
theorem bd_shut (hV : VA A) : Bd (-13) 40000 (o_shut A 2 0).1 := by
  obtain ⟨G, R⟩ := A
  unfold o_shut; dsimp only
  rw [if_neg (by decide)]
  have := (g_S_lt (kind := (2 : Int32).toNatClampNeg) (snow := G 44) (stones := G 26) (f := (0 : Int32).toNatClampNeg) hV.1 (fun _ q => q) (by decide) (g_T G (2 : Int32).toNatClampNeg (G 44) (G 26) (0 : Int32).toNatClampNeg)).2
  exact Bd.n (by omega) (by omega) (by omega)
theorem bd_worst : Bd (-13) 40000 (o_worst A 0).1 := by
  obtain ⟨G, R⟩ := A
  unfold o_worst; dsimp only
  rw [if_neg (by decide)]
  split
  · exact Bd.n (by omega) (by omega) (by omega)
  · first | exact bd_4 | exact bd_2 | exact bd_0 | exact bd_1 | exact bd_11 | exact bd_12 | exact bd_13
theorem bd_next : Bd (-13) 40000 (o_next A 1).1 := by
  obtain ⟨G, R⟩ := A
  unfold o_next; dsimp only
  rw [if_neg (by decide)]
  dsimp only
  split
  · first | exact bd_4 | exact bd_2 | exact bd_0 | exact bd_1 | exact bd_11 | exact bd_12 | exact bd_13
  · split
    · rename_i q hq
      have := (g_to_spec hq).1
      exact Bd.n (by omega) (by omega) (by omega)
    · first | exact bd_4 | exact bd_2 | exact bd_0 | exact bd_1 | exact bd_11 | exact bd_12 | exact bd_13
theorem bd_struck : Bd (-13) 40000 (o_struck A 0 0 1).1 := by
  obtain ⟨G, R⟩ := A
  unfold o_struck; dsimp only
  rw [if_neg (by decide)]
  dsimp only
  split
  · rename_i q hq
    rcases g_ch_spec (fun m => g_pc m 12) (g_sp G (0 : Int32).toNatClampNeg (0 : Int32).toNatClampNeg (decide ((1 : Int32) = 1))) 256 with ⟨z, _⟩ | ⟨b, z1, z2, _⟩
    · rw [hq] at z; cases z
    · rw [hq] at z1
      cases z1
      exact Bd.n (by omega) (by omega) (by omega)
  · first | exact bd_4 | exact bd_2 | exact bd_0 | exact bd_1 | exact bd_11 | exact bd_12 | exact bd_13
theorem bd_read : Bd (-13) 40000 (o_read A 1 0).1 := by
  obtain ⟨G, R⟩ := A
  unfold o_read; dsimp only
  rw [if_neg (by decide)]
  split
  · first | exact bd_4 | exact bd_2 | exact bd_0 | exact bd_1 | exact bd_11 | exact bd_12 | exact bd_13
  · split
    · first | exact bd_4 | exact bd_2 | exact bd_0 | exact bd_1 | exact bd_11 | exact bd_12 | exact bd_13
    · dsimp only
      unfold am_b
      split <;> first | exact bd_4 | exact bd_2 | exact bd_0 | exact bd_1 | exact bd_11 | exact bd_12 | exact bd_13
theorem g_tr_2 (M : Nat → Bool) {d : Nat} (hd : d < 4096) : ∀ n, ∃ m, m < 4096 ∧ (g_tr M d n).2.1 = nI m := by
  intro n
  induction n with
  | zero => exact ⟨d, hd, rfl⟩
  | succ n ih =>
    obtain ⟨m, h1, h2⟩ := ih
    simp only [g_tr]
    split
    · refine ⟨m &&& n, Nat.lt_of_le_of_lt Nat.and_le_left h1, ?_⟩
      dsimp only
      rw [h2, nx_and]
    · exact ⟨m, h1, h2⟩
theorem bd_bars (ln : Nat → Int32) (sz : Nat → Nat) (s : Nat) (a i n : Int32) : Bd (-13) 40000 (o_bars ln sz s a i n) := by
  unfold o_bars
  split
  · first | exact bd_4 | exact bd_2 | exact bd_0 | exact bd_1 | exact bd_11 | exact bd_12 | exact bd_13
  · split
    · first | exact bd_4 | exact bd_2 | exact bd_0 | exact bd_1 | exact bd_11 | exact bd_12 | exact bd_13
    · split <;> first | exact bd_4 | exact bd_2 | exact bd_0 | exact bd_1 | exact bd_11 | exact bd_12 | exact bd_13
theorem bd_track (hV : VA A) : Bd (-13) 40000 (o_track A 1 0 0 0 0 1 1).1 := by
  obtain ⟨G, K, hk, tn, tt, ln, sz, it⟩ := A
  unfold o_track; dsimp only
  rw [if_neg (by decide)]
  split
  · exact bd_bars _ _ _ _ _ _
  · dsimp only
    rw [if_neg (by decide)]
    split
    · first | exact bd_4 | exact bd_2 | exact bd_0 | exact bd_1 | exact bd_11 | exact bd_12 | exact bd_13
    · rw [if_pos rfl]
      obtain ⟨m, h1, h2⟩ := g_tr_2 (fun m => g_lv G (1 : Int32).toNatClampNeg m (0 : Int32).toNatClampNeg (1 : Int32).toNatClampNeg (fun k => it (0 : Int32).toNatClampNeg ((0 : Int32).toNatClampNeg + k))) (d := G 25) hV.1.2.2.2.1 4096
      rw [h2]
      exact Bd.n (by omega) (by omega) (by omega)
end BDS
def T_LW_isLeft : am_Sp := fun vs I L post => match vs with
  | [.ref o, .int x] => o = 0 ∧ ∃ A, CR I L A ∧ ∀ (I2 : am_I) (L2 : am_J), CR I2 L2 A → post (some (.int 1)) I2 L2
  | _ => False
def sp_LW_isLeft : Nat → am_Sp := fun i => match i with
  | 27 => T_RP_way
  | 33 => T_RP_stone
  | 37 => T_RP_home
  | 40 => T_RP_snow
  | 54 => T_RP_strike
  | 57 => T_RP_count
  | 62 => T_RP_type
  | 80 => T_RP_sheet
  | 83 => T_RP_film
  | 87 => T_RP_track
  | 91 => T_RP_copy
  | 95 => T_RP_told
  | 98 => T_RP_of
  | 103 => T_RP_read
  | 106 => T_RP_walk
  | 109 => T_RP_at
  | 112 => T_RP_shut
  | 115 => T_RP_worst
  | 118 => T_RP_next
  | 121 => T_RP_struck
  | 124 => T_RP_drop
  | 127 => T_RP_item
  | _ => am_no
theorem lf_ap {x : Int32 × am_A} {A : am_A} {r : Int32} (e : x = (r, A)) {I : am_I} {L : am_J} (h : CR I L x.2) : CR I L A := by rw [e] at h; exact h
theorem la_ap {B A : am_A} (e : B = A) {I : am_I} {L : am_J} (h : CR I L B) : CR I L A := e ▸ h
theorem CR.V {I : am_I} {L : am_J} {A : am_A} (h : CR I L A) : VA A := by
  obtain ⟨G, K, hk, tn, tt, ln, sz, it⟩ := A
  exact h.1
set_option maxHeartbeats 16000000 in
set_option maxRecDepth 100000 in
theorem ok_LW_isLeft : am_Ok am_SX sp_LW_isLeft true k_LW_isLeft 5 T_LW_isLeft := by
  intro vs I L post h
  unfold T_LW_isLeft at h
  split at h
  · rename_i o x
    obtain ⟨rfl, A, hC, hp⟩ := h
    have hV := hC.V
    refine ⟨Nat.le_of_ble_eq_true rfl, fun G hG => ?_⟩
    have main : ∀ f : Int32, Far f → G 30 [some (.ref 0), some (.int x), none, none, none] [.int f] I L := by
      intro f h
      have s423 : ∀ (r : Int32) (I : am_I) (L : am_J), Bd (-91) 320000 r → CR I L A → G 423 [some (.ref 0), some (.int x), some (.int f), some (.int 1), some (.int r)] [] I L := fun r I L hr hC => by
        refine hG [] 60 423 _ _ _ _ (am_f (by decide) (am_nf (show (-99 : Int32) < r from Int32.lt_iff_toInt_lt.mpr (by rw [show (-99 : Int32).toInt = -99 from rfl]; have := hr.1; omega)) (And.intro (Or.inr rfl) (hp I L hC))))
      have s360 : ∀ (I : am_I) (L : am_J), CR I L A → G 360 [some (.ref 0), some (.int x), some (.int f), some (.int 1), none] [] I L := fun I L h0 => by
        refine hG [(423, [])] 90 360 _ _ _ _ (And.intro rfl (Exists.intro A (And.intro h0 (fun I1 L1 h1 => And.intro rfl (Exists.intro A (And.intro (la_ap (la_walk 0 0 0) h1) (fun I2 L2 h2 => And.intro rfl (Exists.intro A (And.intro (la_ap (la_at 3 1 2) h2) (fun I3 L3 h3 => And.intro rfl (Exists.intro A (And.intro (la_ap (la_shut 2 0) h3) (fun I4 L4 h4 => And.intro rfl (Exists.intro A (And.intro (la_ap (la_worst 0) h4) (fun I5 L5 h5 => And.intro rfl (Exists.intro A (And.intro (la_ap (la_next 1) h5) (fun I6 L6 h6 => And.intro rfl (Exists.intro A (And.intro (la_ap (la_struck 0 0 1) h6) (fun I7 L7 h7 => And.intro rfl (Exists.intro A (And.intro (la_ap (la_read 1 0) h7) (fun I8 L8 h8 => s423 _ I8 L8 ((Bd.add (Bd.add (Bd.add (Bd.add (Bd.add (Bd.add (Bd.add (bd_walk hV) (bd_at hV) (by decide) (by decide)) (bd_shut hV) (by decide) (by decide)) bd_worst (by decide) (by decide)) bd_next (by decide) (by decide)) bd_struck (by decide) (by decide)) bd_read (by decide) (by decide)) (bd_track hV) (by decide) (by decide))) (la_ap (la_track 1 0 0 0 0 1 1) h8))))))))))))))))))))))))))
      have s354 : ∀ (I : am_I) (L : am_J), CR I L A → G 354 [some (.ref 0), some (.int x), some (.int f), none, none] [] I L := fun I L h0 => hG [(360, [])] 90 354 _ _ _ _ (s360 I L h0)
      have s341 : ∀ (I : am_I) (L : am_J), CR I L A → G 341 [some (.ref 0), some (.int x), some (.int f), none, none] [] I L := fun I L h0 => hG [(354, [])] 90 341 _ _ _ _ (And.intro rfl (Exists.intro A (And.intro h0 (fun I1 L1 h1 => am_nf (congrArg Prod.fst (lf_copy h)) (s354 I1 L1 (lf_ap (lf_copy h) h1))))))
      have s329 : ∀ (I : am_I) (L : am_J), CR I L A → G 329 [some (.ref 0), some (.int x), some (.int f), none, none] [] I L := fun I L h0 => hG [(341, [])] 90 329 _ _ _ _ (And.intro rfl (Exists.intro A (And.intro h0 (fun I1 L1 h1 => am_nf (congrArg Prod.fst (lf_item h)) (s341 I1 L1 (lf_ap (lf_item h) h1))))))
      have s320 : ∀ (I : am_I) (L : am_J), CR I L A → G 320 [some (.ref 0), some (.int x), some (.int f), none, none] [] I L := fun I L h0 => hG [(329, [])] 90 320 _ _ _ _ (And.intro rfl (Exists.intro A (And.intro h0 (fun I1 L1 h1 => am_nf (congrArg Prod.fst (lf_drop h)) (s329 I1 L1 (lf_ap (lf_drop h) h1))))))
      have s308 : ∀ (I : am_I) (L : am_J), CR I L A → G 308 [some (.ref 0), some (.int x), some (.int f), none, none] [] I L := fun I L h0 => hG [(320, [])] 90 308 _ _ _ _ (And.intro rfl (Exists.intro A (And.intro h0 (fun I1 L1 h1 => am_nf (congrArg Prod.fst (lf_sheetm)) (s320 I1 L1 (lf_ap (lf_sheetm) h1))))))
      have s296 : ∀ (I : am_I) (L : am_J), CR I L A → G 296 [some (.ref 0), some (.int x), some (.int f), none, none] [] I L := fun I L h0 => hG [(308, [])] 90 296 _ _ _ _ (And.intro rfl (Exists.intro A (And.intro h0 (fun I1 L1 h1 => am_nf (congrArg Prod.fst (lf_sheet25)) (s308 I1 L1 (lf_ap (lf_sheet25) h1))))))
      have s285 : ∀ (I : am_I) (L : am_J), CR I L A → G 285 [some (.ref 0), some (.int x), some (.int f), none, none] [] I L := fun I L h0 => hG [(296, [])] 90 285 _ _ _ _ (And.intro rfl (Exists.intro A (And.intro h0 (fun I1 L1 h1 => am_nf (congrArg Prod.fst (lf_sheet h)) (s296 I1 L1 (lf_ap (lf_sheet h) h1))))))
      have s271 : ∀ (I : am_I) (L : am_J), CR I L A → G 271 [some (.ref 0), some (.int x), some (.int f), none, none] [] I L := fun I L h0 => hG [(285, [])] 90 271 _ _ _ _ (And.intro rfl (Exists.intro A (And.intro h0 (fun I1 L1 h1 => am_nf (congrArg Prod.fst (lf_film h)) (s285 I1 L1 (lf_ap (lf_film h) h1))))))
      have s256 : ∀ (I : am_I) (L : am_J), CR I L A → G 256 [some (.ref 0), some (.int x), some (.int f), none, none] [] I L := fun I L h0 => hG [(271, [])] 90 256 _ _ _ _ (And.intro rfl (Exists.intro A (And.intro h0 (fun I1 L1 h1 => am_nf (congrArg Prod.fst (lf_track h)) (s271 I1 L1 (lf_ap (lf_track h) h1))))))
      have s245 : ∀ (I : am_I) (L : am_J), CR I L A → G 245 [some (.ref 0), some (.int x), some (.int f), none, none] [] I L := fun I L h0 => hG [(256, [])] 90 245 _ _ _ _ (And.intro rfl (Exists.intro A (And.intro h0 (fun I1 L1 h1 => am_nf (congrArg Prod.fst (lf_struck3 h)) (s256 I1 L1 (lf_ap (lf_struck3 h) h1))))))
      have s234 : ∀ (I : am_I) (L : am_J), CR I L A → G 234 [some (.ref 0), some (.int x), some (.int f), none, none] [] I L := fun I L h0 => hG [(245, [])] 90 234 _ _ _ _ (And.intro rfl (Exists.intro A (And.intro h0 (fun I1 L1 h1 => am_nf (congrArg Prod.fst (lf_struck h)) (s245 I1 L1 (lf_ap (lf_struck h) h1))))))
      have s225 : ∀ (I : am_I) (L : am_J), CR I L A → G 225 [some (.ref 0), some (.int x), some (.int f), none, none] [] I L := fun I L h0 => hG [(234, [])] 90 225 _ _ _ _ (And.intro rfl (Exists.intro A (And.intro h0 (fun I1 L1 h1 => am_nf (congrArg Prod.fst (lf_next h)) (s234 I1 L1 (lf_ap (lf_next h) h1))))))
      have s216 : ∀ (I : am_I) (L : am_J), CR I L A → G 216 [some (.ref 0), some (.int x), some (.int f), none, none] [] I L := fun I L h0 => hG [(225, [])] 90 216 _ _ _ _ (And.intro rfl (Exists.intro A (And.intro h0 (fun I1 L1 h1 => am_nf (congrArg Prod.fst (lf_worst h)) (s225 I1 L1 (lf_ap (lf_worst h) h1))))))
      have s206 : ∀ (I : am_I) (L : am_J), CR I L A → G 206 [some (.ref 0), some (.int x), some (.int f), none, none] [] I L := fun I L h0 => hG [(216, [])] 90 206 _ _ _ _ (And.intro rfl (Exists.intro A (And.intro h0 (fun I1 L1 h1 => am_nf (congrArg Prod.fst (lf_shut h)) (s216 I1 L1 (lf_ap (lf_shut h) h1))))))
      have s195 : ∀ (I : am_I) (L : am_J), CR I L A → G 195 [some (.ref 0), some (.int x), some (.int f), none, none] [] I L := fun I L h0 => hG [(206, [])] 90 195 _ _ _ _ (And.intro rfl (Exists.intro A (And.intro h0 (fun I1 L1 h1 => am_nf (congrArg Prod.fst (lf_at h)) (s206 I1 L1 (lf_ap (lf_at h) h1))))))
      have s184 : ∀ (I : am_I) (L : am_J), CR I L A → G 184 [some (.ref 0), some (.int x), some (.int f), none, none] [] I L := fun I L h0 => hG [(195, [])] 90 184 _ _ _ _ (And.intro rfl (Exists.intro A (And.intro h0 (fun I1 L1 h1 => am_nf (congrArg Prod.fst (lf_walk2 h)) (s195 I1 L1 (lf_ap (lf_walk2 h) h1))))))
      have s173 : ∀ (I : am_I) (L : am_J), CR I L A → G 173 [some (.ref 0), some (.int x), some (.int f), none, none] [] I L := fun I L h0 => hG [(184, [])] 90 173 _ _ _ _ (And.intro rfl (Exists.intro A (And.intro h0 (fun I1 L1 h1 => am_nf (congrArg Prod.fst (lf_walk h)) (s184 I1 L1 (lf_ap (lf_walk h) h1))))))
      have s163 : ∀ (I : am_I) (L : am_J), CR I L A → G 163 [some (.ref 0), some (.int x), some (.int f), none, none] [] I L := fun I L h0 => hG [(173, [])] 90 163 _ _ _ _ (And.intro rfl (Exists.intro A (And.intro h0 (fun I1 L1 h1 => am_nf (congrArg Prod.fst (lf_read h)) (s173 I1 L1 (lf_ap (lf_read h) h1))))))
      have s154 : ∀ (I : am_I) (L : am_J), CR I L A → G 154 [some (.ref 0), some (.int x), some (.int f), none, none] [] I L := fun I L h0 => hG [(163, [])] 90 154 _ _ _ _ (And.intro rfl (Exists.intro A (And.intro h0 (fun I1 L1 h1 => am_nf (congrArg Prod.fst (lf_count h)) (s163 I1 L1 (lf_ap (lf_count h) h1))))))
      have s142 : ∀ (I : am_I) (L : am_J), CR I L A → G 142 [some (.ref 0), some (.int x), some (.int f), none, none] [] I L := fun I L h0 => hG [(154, [])] 90 142 _ _ _ _ (And.intro rfl (Exists.intro A (And.intro h0 (fun I1 L1 h1 => am_nf (congrArg Prod.fst (lf_type h)) (s154 I1 L1 (lf_ap (lf_type h) h1))))))
      have s132 : ∀ (I : am_I) (L : am_J), CR I L A → G 132 [some (.ref 0), some (.int x), some (.int f), none, none] [] I L := fun I L h0 => hG [(142, [])] 90 132 _ _ _ _ (And.intro rfl (Exists.intro A (And.intro h0 (fun I1 L1 h1 => am_nf (congrArg Prod.fst (lf_type0)) (s142 I1 L1 (lf_ap (lf_type0) h1))))))
      have s123 : ∀ (I : am_I) (L : am_J), CR I L A → G 123 [some (.ref 0), some (.int x), some (.int f), none, none] [] I L := fun I L h0 => hG [(132, [])] 90 123 _ _ _ _ (And.intro rfl (Exists.intro A (And.intro h0 (fun I1 L1 h1 => am_nf (congrArg Prod.fst (lf_snow hV h)) (s132 I1 L1 (lf_ap (lf_snow hV h) h1))))))
      have s114 : ∀ (I : am_I) (L : am_J), CR I L A → G 114 [some (.ref 0), some (.int x), some (.int f), none, none] [] I L := fun I L h0 => hG [(123, [])] 90 114 _ _ _ _ (And.intro rfl (Exists.intro A (And.intro h0 (fun I1 L1 h1 => am_nf (congrArg Prod.fst (lf_home h)) (s123 I1 L1 (lf_ap (lf_home h) h1))))))
      have s104 : ∀ (I : am_I) (L : am_J), CR I L A → G 104 [some (.ref 0), some (.int x), some (.int f), none, none] [] I L := fun I L h0 => hG [(114, [])] 90 104 _ _ _ _ (And.intro rfl (Exists.intro A (And.intro h0 (fun I1 L1 h1 => am_nf (congrArg Prod.fst (lf_of2 h)) (s114 I1 L1 (lf_ap (lf_of2 h) h1))))))
      have s94 : ∀ (I : am_I) (L : am_J), CR I L A → G 94 [some (.ref 0), some (.int x), some (.int f), none, none] [] I L := fun I L h0 => hG [(104, [])] 90 94 _ _ _ _ (And.intro rfl (Exists.intro A (And.intro h0 (fun I1 L1 h1 => am_nf (congrArg Prod.fst (lf_of h)) (s104 I1 L1 (lf_ap (lf_of h) h1))))))
      have s85 : ∀ (I : am_I) (L : am_J), CR I L A → G 85 [some (.ref 0), some (.int x), some (.int f), none, none] [] I L := fun I L h0 => hG [(94, [])] 90 85 _ _ _ _ (And.intro rfl (Exists.intro A (And.intro h0 (fun I1 L1 h1 => am_nf (congrArg Prod.fst (lf_strike h)) (s94 I1 L1 (lf_ap (lf_strike h) h1))))))
      have s74 : ∀ (I : am_I) (L : am_J), CR I L A → G 74 [some (.ref 0), some (.int x), some (.int f), none, none] [] I L := fun I L h0 => hG [(85, [])] 90 74 _ _ _ _ (And.intro rfl (Exists.intro A (And.intro h0 (fun I1 L1 h1 => am_nf (congrArg Prod.fst (lf_stone3 hV h)) (s85 I1 L1 (lf_ap (lf_stone3 hV h) h1))))))
      have s63 : ∀ (I : am_I) (L : am_J), CR I L A → G 63 [some (.ref 0), some (.int x), some (.int f), none, none] [] I L := fun I L h0 => hG [(74, [])] 90 63 _ _ _ _ (And.intro rfl (Exists.intro A (And.intro h0 (fun I1 L1 h1 => am_nf (congrArg Prod.fst (lf_stone h)) (s74 I1 L1 (lf_ap (lf_stone h) h1))))))
      have s53 : ∀ (I : am_I) (L : am_J), CR I L A → G 53 [some (.ref 0), some (.int x), some (.int f), none, none] [] I L := fun I L h0 => hG [(63, [])] 90 53 _ _ _ _ (And.intro rfl (Exists.intro A (And.intro h0 (fun I1 L1 h1 => am_nf (congrArg Prod.fst (lf_told hV h)) (s63 I1 L1 (lf_ap (lf_told hV h) h1))))))
      have s42 : ∀ (I : am_I) (L : am_J), CR I L A → G 42 [some (.ref 0), some (.int x), some (.int f), none, none] [] I L := fun I L h0 => hG [(53, [])] 90 42 _ _ _ _ (And.intro rfl (Exists.intro A (And.intro h0 (fun I1 L1 h1 => am_nf (congrArg Prod.fst (lf_way0)) (s53 I1 L1 (lf_ap (lf_way0) h1))))))
      have s31 : ∀ (I : am_I) (L : am_J), CR I L A → G 31 [some (.ref 0), some (.int x), some (.int f), none, none] [] I L := fun I L h0 => hG [(42, [])] 90 31 _ _ _ _ (And.intro rfl (Exists.intro A (And.intro h0 (fun I1 L1 h1 => am_nf (congrArg Prod.fst (lf_way h)) (s42 I1 L1 (lf_ap (lf_way h) h1))))))
      exact hG [(31, [])] 90 30 _ _ _ _ (s31 I L hC)
    by_cases hx : x &&& 1 = 0
    · exact hG [(30, [])] 90 0 _ _ _ _ (am_nf hx (main _ ((far_x x).1 hx)))
    · exact hG [(30, [])] 90 0 _ _ _ _ (am_nt hx (main _ (far_x x).2))
  · exact h.elim
