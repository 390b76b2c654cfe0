/-! THE LAW: act -/
def o_act0 (A : am_A) (x : Int32) : Int32 × am_A := o_way A (nI (nl (x >>> ((4 : Int32) &&& 31)) 9)) (nI (nl (x >>> ((8 : Int32) &&& 31)) 8)) (if (x >>> ((12 : Int32) &&& 31)) &&& 1 = 1 then 1 else 0)
def o_act1 (A : am_A) (x : Int32) : Int32 × am_A := o_way A (nI (nl (x >>> ((4 : Int32) &&& 31)) 9)) (nI (nl (x >>> ((8 : Int32) &&& 31)) 8)) (if (x >>> ((12 : Int32) &&& 31)) &&& 1 = 1 then 1 else 0)
def o_act2 (A : am_A) (x : Int32) : Int32 × am_A := o_stone A (nI (nl (x >>> ((4 : Int32) &&& 31)) 9)) (nI (nl (x >>> ((8 : Int32) &&& 31)) 8)) (nI (nl (x >>> ((12 : Int32) &&& 31)) 8))
def o_act3 (A : am_A) (x : Int32) : Int32 × am_A := o_stone A (nI (nl (x >>> ((4 : Int32) &&& 31)) 9)) (nI (nl (x >>> ((8 : Int32) &&& 31)) 8)) (nI (nl (x >>> ((12 : Int32) &&& 31)) 8))
def o_act4 (A : am_A) (x : Int32) : Int32 × am_A := o_strike A (nI (nl (x >>> ((4 : Int32) &&& 31)) 9))
def o_act5 (A : am_A) (x : Int32) : Int32 × am_A := o_home A (nI (nl (x >>> ((4 : Int32) &&& 31)) 9))
def o_act6 (A : am_A) (x : Int32) : Int32 × am_A := o_snow A (if (x >>> ((12 : Int32) &&& 31)) &&& 1 = 0 then (o_count A 1).1 &&& (x >>> ((13 : Int32) &&& 31)) else (nI (nl (x >>> ((4 : Int32) &&& 31)) 9)))
def o_act7 (A : am_A) (x : Int32) : Int32 × am_A := o_snow A (if (x >>> ((12 : Int32) &&& 31)) &&& 1 = 0 then (o_count A 1).1 &&& (x >>> ((13 : Int32) &&& 31)) else (nI (nl (x >>> ((4 : Int32) &&& 31)) 9)))
def o_act8 (A : am_A) (x : Int32) : Int32 × am_A := o_type A (3472626246716178220 + (((nI (nl (x >>> ((8 : Int32) &&& 31)) 8)) - (nI (nl (x >>> ((8 : Int32) &&& 31)) 8)) / 3 * 3).toInt64 <<< ((24 : Int32).toInt64 &&& 63))) 8
def o_act9 (A : am_A) (x : Int32) : Int32 × am_A := o_type A (219968975670 + ((nI (nl (x >>> ((8 : Int32) &&& 31)) 8)) - (nI (nl (x >>> ((8 : Int32) &&& 31)) 8)) / 3 * 3).toInt64) 5
def o_act10 (A : am_A) (x : Int32) : Int32 × am_A := (if (x >>> ((12 : Int32) &&& 31)) &&& 1 = 0 then o_pass A (fun _ => 0) else o_type A 59 1)
def o_act11 (A : am_A) (x : Int32) : Int32 × am_A := (if (x >>> ((12 : Int32) &&& 31)) &&& 3 = 0 then o_restore A else o_image A)
def o_act12 (A : am_A) (x : Int32) : Int32 × am_A := o_sheet A ((nI (nl (x >>> ((4 : Int32) &&& 31)) 9)) - (nI (nl (x >>> ((4 : Int32) &&& 31)) 9)) / 5 * 5) ((nI (nl (x >>> ((8 : Int32) &&& 31)) 8)) - (nI (nl (x >>> ((8 : Int32) &&& 31)) 8)) / 3 * 3) (3 * (nI (nl (x >>> ((4 : Int32) &&& 31)) 9)))
def o_act13 (A : am_A) (x : Int32) : Int32 × am_A := o_film A ((nI (nl (x >>> ((4 : Int32) &&& 31)) 9)) - (nI (nl (x >>> ((4 : Int32) &&& 31)) 9)) / 5 * 5) (nI (nl (x >>> ((8 : Int32) &&& 31)) 8)) ((nI (nl (x >>> ((4 : Int32) &&& 31)) 9)) - (nI (nl (x >>> ((4 : Int32) &&& 31)) 9)) / 4 * 4) ((nI (nl (x >>> ((8 : Int32) &&& 31)) 8)) - (nI (nl (x >>> ((8 : Int32) &&& 31)) 8)) / 3 * 3) 1 (1 + (nI (nl (x >>> ((8 : Int32) &&& 31)) 8)))
def o_act14 (A : am_A) (x : Int32) : Int32 × am_A := o_track A ((nI (nl (x >>> ((4 : Int32) &&& 31)) 9)) - (nI (nl (x >>> ((4 : Int32) &&& 31)) 9)) / 4 * 4) (nI (nl (x >>> ((8 : Int32) &&& 31)) 8)) ((nI (nl (x >>> ((8 : Int32) &&& 31)) 8)) - (nI (nl (x >>> ((8 : Int32) &&& 31)) 8)) / 4 * 4) ((nI (nl (x >>> ((4 : Int32) &&& 31)) 9)) - (nI (nl (x >>> ((4 : Int32) &&& 31)) 9)) / 3 * 3) 0 (1 + (nI (nl (x >>> ((8 : Int32) &&& 31)) 8))) 0
def o_act15 (A : am_A) (x : Int32) : Int32 × am_A := o_copy A ((nI (nl (x >>> ((4 : Int32) &&& 31)) 9)) - (nI (nl (x >>> ((4 : Int32) &&& 31)) 9)) / 4 * 4) (nI (nl (x >>> ((8 : Int32) &&& 31)) 8)) ((nI (nl (x >>> ((8 : Int32) &&& 31)) 8)) - (nI (nl (x >>> ((8 : Int32) &&& 31)) 8)) / 4 * 4) 0 3
def o_act (A : am_A) (x : Int32) : Int32 × am_A := if x &&& 15 = Int32.ofNat 0 then o_act0 A x else if x &&& 15 = Int32.ofNat 1 then o_act1 A x else if x &&& 15 = Int32.ofNat 2 then o_act2 A x else if x &&& 15 = Int32.ofNat 3 then o_act3 A x else if x &&& 15 = Int32.ofNat 4 then o_act4 A x else if x &&& 15 = Int32.ofNat 5 then o_act5 A x else if x &&& 15 = Int32.ofNat 6 then o_act6 A x else if x &&& 15 = Int32.ofNat 7 then o_act7 A x else if x &&& 15 = Int32.ofNat 8 then o_act8 A x else if x &&& 15 = Int32.ofNat 9 then o_act9 A x else if x &&& 15 = Int32.ofNat 10 then o_act10 A x else if x &&& 15 = Int32.ofNat 11 then o_act11 A x else if x &&& 15 = Int32.ofNat 12 then o_act12 A x else if x &&& 15 = Int32.ofNat 13 then o_act13 A x else if x &&& 15 = Int32.ofNat 14 then o_act14 A x else o_act15 A x
theorem o_count_2 (A : am_A) (x : Int32) : (o_count A x).2 = A := rfl
def T_LW_act : am_Sp := fun vs I L post => match vs with
  | [.ref o, .int x] => o = 0 ∧ ∃ A, CR I L A ∧ ∀ (I2 : am_I) (L2 : am_J), CR I2 L2 (o_act A x).2 → post (some (.int (o_act A x).1)) I2 L2
  | _ => False
def sp_LW_act : Nat → am_Sp := fun i => match i with
  | 15 => T_LW_low
  | 27 => T_RP_way
  | 33 => T_RP_stone
  | 37 => T_RP_home
  | 40 => T_RP_snow
  | 54 => T_RP_strike
  | 57 => T_RP_count
  | 62 => T_RP_type
  | 68 => T_RP_pass
  | 74 => T_RP_restore
  | 77 => T_RP_image
  | 80 => T_RP_sheet
  | 83 => T_RP_film
  | 87 => T_RP_track
  | 91 => T_RP_copy
  | _ => am_no
set_option maxRecDepth 100000 in
set_option maxHeartbeats 4000000 in
theorem ok_act0 {post : am_Po} {G : am_G} (hG : ∀ (cuts : List (Nat × List Nat)) (n pc : Nat) (ls : am_Lv) (st : List Value) (I : am_I) (L : am_J), am_ev am_SX sp_LW_act false post k_LW_act cuts G n pc ls st I L → G pc ls st I L) {x : Int32} {I : am_I} {L : am_J} {A : am_A} (hC : CR I L A) (h : ∀ (I2 : am_I) (L2 : am_J), CR I2 L2 (o_act0 A x).2 → post (some (.int (o_act0 A x).1)) I2 L2) : G 96 [some (.ref 0), some (.int x), some (.int (nI (nl (x >>> ((4 : Int32) &&& 31)) 9))), some (.int (nI (nl (x >>> ((8 : Int32) &&& 31)) 8)))] [] I L := by
    unfold o_act0 at h
    by_cases hy : (x >>> ((12 : Int32) &&& 31)) &&& 1 = 1
    · rw [if_pos hy] at h
      exact hG [] 60 96 _ _ _ _ (am_nf hy (And.intro rfl (Exists.intro A (And.intro hC (fun I2 L2 h2 => h I2 L2 h2)))))
    · rw [if_neg hy] at h
      exact hG [] 60 96 _ _ _ _ (am_nt hy (And.intro rfl (Exists.intro A (And.intro hC (fun I2 L2 h2 => h I2 L2 h2)))))
set_option maxRecDepth 100000 in
set_option maxHeartbeats 4000000 in
theorem ok_act1 {post : am_Po} {G : am_G} (hG : ∀ (cuts : List (Nat × List Nat)) (n pc : Nat) (ls : am_Lv) (st : List Value) (I : am_I) (L : am_J), am_ev am_SX sp_LW_act false post k_LW_act cuts G n pc ls st I L → G pc ls st I L) {x : Int32} {I : am_I} {L : am_J} {A : am_A} (hC : CR I L A) (h : ∀ (I2 : am_I) (L2 : am_J), CR I2 L2 (o_act1 A x).2 → post (some (.int (o_act1 A x).1)) I2 L2) : G 96 [some (.ref 0), some (.int x), some (.int (nI (nl (x >>> ((4 : Int32) &&& 31)) 9))), some (.int (nI (nl (x >>> ((8 : Int32) &&& 31)) 8)))] [] I L := by
    unfold o_act1 at h
    by_cases hy : (x >>> ((12 : Int32) &&& 31)) &&& 1 = 1
    · rw [if_pos hy] at h
      exact hG [] 60 96 _ _ _ _ (am_nf hy (And.intro rfl (Exists.intro A (And.intro hC (fun I2 L2 h2 => h I2 L2 h2)))))
    · rw [if_neg hy] at h
      exact hG [] 60 96 _ _ _ _ (am_nt hy (And.intro rfl (Exists.intro A (And.intro hC (fun I2 L2 h2 => h I2 L2 h2)))))
set_option maxRecDepth 100000 in
set_option maxHeartbeats 4000000 in
theorem ok_act2 {post : am_Po} {G : am_G} (hG : ∀ (cuts : List (Nat × List Nat)) (n pc : Nat) (ls : am_Lv) (st : List Value) (I : am_I) (L : am_J), am_ev am_SX sp_LW_act false post k_LW_act cuts G n pc ls st I L → G pc ls st I L) {x : Int32} {I : am_I} {L : am_J} {A : am_A} (hC : CR I L A) (h : ∀ (I2 : am_I) (L2 : am_J), CR I2 L2 (o_act2 A x).2 → post (some (.int (o_act2 A x).1)) I2 L2) : G 118 [some (.ref 0), some (.int x), some (.int (nI (nl (x >>> ((4 : Int32) &&& 31)) 9))), some (.int (nI (nl (x >>> ((8 : Int32) &&& 31)) 8)))] [] I L := by
    unfold o_act2 at h
    exact hG [] 60 118 _ _ _ _ (Exists.intro 8 (And.intro rfl (And.intro (by omega) (And.intro (by omega) (And.intro rfl (Exists.intro A (And.intro hC (fun I2 L2 h2 => h I2 L2 h2))))))))
set_option maxRecDepth 100000 in
set_option maxHeartbeats 4000000 in
theorem ok_act3 {post : am_Po} {G : am_G} (hG : ∀ (cuts : List (Nat × List Nat)) (n pc : Nat) (ls : am_Lv) (st : List Value) (I : am_I) (L : am_J), am_ev am_SX sp_LW_act false post k_LW_act cuts G n pc ls st I L → G pc ls st I L) {x : Int32} {I : am_I} {L : am_J} {A : am_A} (hC : CR I L A) (h : ∀ (I2 : am_I) (L2 : am_J), CR I2 L2 (o_act3 A x).2 → post (some (.int (o_act3 A x).1)) I2 L2) : G 118 [some (.ref 0), some (.int x), some (.int (nI (nl (x >>> ((4 : Int32) &&& 31)) 9))), some (.int (nI (nl (x >>> ((8 : Int32) &&& 31)) 8)))] [] I L := by
    unfold o_act3 at h
    exact hG [] 60 118 _ _ _ _ (Exists.intro 8 (And.intro rfl (And.intro (by omega) (And.intro (by omega) (And.intro rfl (Exists.intro A (And.intro hC (fun I2 L2 h2 => h I2 L2 h2))))))))
set_option maxRecDepth 100000 in
set_option maxHeartbeats 4000000 in
theorem ok_act4 {post : am_Po} {G : am_G} (hG : ∀ (cuts : List (Nat × List Nat)) (n pc : Nat) (ls : am_Lv) (st : List Value) (I : am_I) (L : am_J), am_ev am_SX sp_LW_act false post k_LW_act cuts G n pc ls st I L → G pc ls st I L) {x : Int32} {I : am_I} {L : am_J} {A : am_A} (hC : CR I L A) (h : ∀ (I2 : am_I) (L2 : am_J), CR I2 L2 (o_act4 A x).2 → post (some (.int (o_act4 A x).1)) I2 L2) : G 134 [some (.ref 0), some (.int x), some (.int (nI (nl (x >>> ((4 : Int32) &&& 31)) 9))), some (.int (nI (nl (x >>> ((8 : Int32) &&& 31)) 8)))] [] I L := by
    unfold o_act4 at h
    exact hG [] 60 134 _ _ _ _ (And.intro rfl (Exists.intro A (And.intro hC (fun I2 L2 h2 => h I2 L2 h2))))
set_option maxRecDepth 100000 in
set_option maxHeartbeats 4000000 in
theorem ok_act5 {post : am_Po} {G : am_G} (hG : ∀ (cuts : List (Nat × List Nat)) (n pc : Nat) (ls : am_Lv) (st : List Value) (I : am_I) (L : am_J), am_ev am_SX sp_LW_act false post k_LW_act cuts G n pc ls st I L → G pc ls st I L) {x : Int32} {I : am_I} {L : am_J} {A : am_A} (hC : CR I L A) (h : ∀ (I2 : am_I) (L2 : am_J), CR I2 L2 (o_act5 A x).2 → post (some (.int (o_act5 A x).1)) I2 L2) : G 140 [some (.ref 0), some (.int x), some (.int (nI (nl (x >>> ((4 : Int32) &&& 31)) 9))), some (.int (nI (nl (x >>> ((8 : Int32) &&& 31)) 8)))] [] I L := by
    unfold o_act5 at h
    exact hG [] 60 140 _ _ _ _ (And.intro rfl (Exists.intro A (And.intro hC (fun I2 L2 h2 => h I2 L2 h2))))
set_option maxRecDepth 100000 in
set_option maxHeartbeats 4000000 in
theorem ok_act6 {post : am_Po} {G : am_G} (hG : ∀ (cuts : List (Nat × List Nat)) (n pc : Nat) (ls : am_Lv) (st : List Value) (I : am_I) (L : am_J), am_ev am_SX sp_LW_act false post k_LW_act cuts G n pc ls st I L → G pc ls st I L) {x : Int32} {I : am_I} {L : am_J} {A : am_A} (hC : CR I L A) (h : ∀ (I2 : am_I) (L2 : am_J), CR I2 L2 (o_act6 A x).2 → post (some (.int (o_act6 A x).1)) I2 L2) : G 146 [some (.ref 0), some (.int x), some (.int (nI (nl (x >>> ((4 : Int32) &&& 31)) 9))), some (.int (nI (nl (x >>> ((8 : Int32) &&& 31)) 8)))] [] I L := by
    unfold o_act6 at h
    by_cases hy : (x >>> ((12 : Int32) &&& 31)) &&& 1 = 0
    · rw [if_pos hy] at h
      exact hG [] 60 146 _ _ _ _ (am_nf hy (And.intro rfl (Exists.intro A (And.intro hC (fun I1 L1 h1 => And.intro rfl (Exists.intro A (And.intro h1 (fun I2 L2 h2 => h I2 L2 h2))))))))
    · rw [if_neg hy] at h
      exact hG [] 60 146 _ _ _ _ (am_nt hy (And.intro rfl (Exists.intro A (And.intro hC (fun I2 L2 h2 => h I2 L2 h2)))))
set_option maxRecDepth 100000 in
set_option maxHeartbeats 4000000 in
theorem ok_act7 {post : am_Po} {G : am_G} (hG : ∀ (cuts : List (Nat × List Nat)) (n pc : Nat) (ls : am_Lv) (st : List Value) (I : am_I) (L : am_J), am_ev am_SX sp_LW_act false post k_LW_act cuts G n pc ls st I L → G pc ls st I L) {x : Int32} {I : am_I} {L : am_J} {A : am_A} (hC : CR I L A) (h : ∀ (I2 : am_I) (L2 : am_J), CR I2 L2 (o_act7 A x).2 → post (some (.int (o_act7 A x).1)) I2 L2) : G 146 [some (.ref 0), some (.int x), some (.int (nI (nl (x >>> ((4 : Int32) &&& 31)) 9))), some (.int (nI (nl (x >>> ((8 : Int32) &&& 31)) 8)))] [] I L := by
    unfold o_act7 at h
    by_cases hy : (x >>> ((12 : Int32) &&& 31)) &&& 1 = 0
    · rw [if_pos hy] at h
      exact hG [] 60 146 _ _ _ _ (am_nf hy (And.intro rfl (Exists.intro A (And.intro hC (fun I1 L1 h1 => And.intro rfl (Exists.intro A (And.intro h1 (fun I2 L2 h2 => h I2 L2 h2))))))))
    · rw [if_neg hy] at h
      exact hG [] 60 146 _ _ _ _ (am_nt hy (And.intro rfl (Exists.intro A (And.intro hC (fun I2 L2 h2 => h I2 L2 h2)))))
set_option maxRecDepth 100000 in
set_option maxHeartbeats 4000000 in
theorem ok_act8 {post : am_Po} {G : am_G} (hG : ∀ (cuts : List (Nat × List Nat)) (n pc : Nat) (ls : am_Lv) (st : List Value) (I : am_I) (L : am_J), am_ev am_SX sp_LW_act false post k_LW_act cuts G n pc ls st I L → G pc ls st I L) {x : Int32} {I : am_I} {L : am_J} {A : am_A} (hC : CR I L A) (h : ∀ (I2 : am_I) (L2 : am_J), CR I2 L2 (o_act8 A x).2 → post (some (.int (o_act8 A x).1)) I2 L2) : G 174 [some (.ref 0), some (.int x), some (.int (nI (nl (x >>> ((4 : Int32) &&& 31)) 9))), some (.int (nI (nl (x >>> ((8 : Int32) &&& 31)) 8)))] [] I L := by
    unfold o_act8 at h
    exact hG [] 60 174 _ _ _ _ (And.intro (show ¬ (3 : Int32) = 0 by decide) (And.intro rfl (Exists.intro A (And.intro hC (fun I2 L2 h2 => h I2 L2 h2)))))
set_option maxRecDepth 100000 in
set_option maxHeartbeats 4000000 in
theorem ok_act9 {post : am_Po} {G : am_G} (hG : ∀ (cuts : List (Nat × List Nat)) (n pc : Nat) (ls : am_Lv) (st : List Value) (I : am_I) (L : am_J), am_ev am_SX sp_LW_act false post k_LW_act cuts G n pc ls st I L → G pc ls st I L) {x : Int32} {I : am_I} {L : am_J} {A : am_A} (hC : CR I L A) (h : ∀ (I2 : am_I) (L2 : am_J), CR I2 L2 (o_act9 A x).2 → post (some (.int (o_act9 A x).1)) I2 L2) : G 192 [some (.ref 0), some (.int x), some (.int (nI (nl (x >>> ((4 : Int32) &&& 31)) 9))), some (.int (nI (nl (x >>> ((8 : Int32) &&& 31)) 8)))] [] I L := by
    unfold o_act9 at h
    exact hG [] 60 192 _ _ _ _ (And.intro (show ¬ (3 : Int32) = 0 by decide) (And.intro rfl (Exists.intro A (And.intro hC (fun I2 L2 h2 => h I2 L2 h2)))))
set_option maxRecDepth 100000 in
set_option maxHeartbeats 4000000 in
theorem ok_act10 {post : am_Po} {G : am_G} (hG : ∀ (cuts : List (Nat × List Nat)) (n pc : Nat) (ls : am_Lv) (st : List Value) (I : am_I) (L : am_J), am_ev am_SX sp_LW_act false post k_LW_act cuts G n pc ls st I L → G pc ls st I L) {x : Int32} {I : am_I} {L : am_J} {A : am_A} (hC : CR I L A) (h : ∀ (I2 : am_I) (L2 : am_J), CR I2 L2 (o_act10 A x).2 → post (some (.int (o_act10 A x).1)) I2 L2) : G 206 [some (.ref 0), some (.int x), some (.int (nI (nl (x >>> ((4 : Int32) &&& 31)) 9))), some (.int (nI (nl (x >>> ((8 : Int32) &&& 31)) 8)))] [] I L := by
    unfold o_act10 at h
    by_cases hy : (x >>> ((12 : Int32) &&& 31)) &&& 1 = 0
    · rw [if_pos hy] at h
      exact hG [] 60 206 _ _ _ _ (am_nf hy (And.intro rfl (Exists.intro A (And.intro hC (fun I2 L2 h2 => h I2 L2 (h2 _))))))
    · rw [if_neg hy] at h
      exact hG [] 60 206 _ _ _ _ (am_nt hy (And.intro rfl (Exists.intro A (And.intro hC (fun I2 L2 h2 => h I2 L2 h2)))))
set_option maxRecDepth 100000 in
set_option maxHeartbeats 4000000 in
theorem ok_act11 {post : am_Po} {G : am_G} (hG : ∀ (cuts : List (Nat × List Nat)) (n pc : Nat) (ls : am_Lv) (st : List Value) (I : am_I) (L : am_J), am_ev am_SX sp_LW_act false post k_LW_act cuts G n pc ls st I L → G pc ls st I L) {x : Int32} {I : am_I} {L : am_J} {A : am_A} (hC : CR I L A) (h : ∀ (I2 : am_I) (L2 : am_J), CR I2 L2 (o_act11 A x).2 → post (some (.int (o_act11 A x).1)) I2 L2) : G 231 [some (.ref 0), some (.int x), some (.int (nI (nl (x >>> ((4 : Int32) &&& 31)) 9))), some (.int (nI (nl (x >>> ((8 : Int32) &&& 31)) 8)))] [] I L := by
    unfold o_act11 at h
    by_cases hy : (x >>> ((12 : Int32) &&& 31)) &&& 3 = 0
    · rw [if_pos hy] at h
      exact hG [] 60 231 _ _ _ _ (am_nf hy (And.intro rfl (Exists.intro A (And.intro hC (fun I2 L2 h2 => h I2 L2 h2)))))
    · rw [if_neg hy] at h
      exact hG [] 60 231 _ _ _ _ (am_nt hy (And.intro rfl (Exists.intro A (And.intro hC (fun I2 L2 h2 => h I2 L2 h2)))))
set_option maxRecDepth 100000 in
set_option maxHeartbeats 4000000 in
theorem ok_act12 {post : am_Po} {G : am_G} (hG : ∀ (cuts : List (Nat × List Nat)) (n pc : Nat) (ls : am_Lv) (st : List Value) (I : am_I) (L : am_J), am_ev am_SX sp_LW_act false post k_LW_act cuts G n pc ls st I L → G pc ls st I L) {x : Int32} {I : am_I} {L : am_J} {A : am_A} (hC : CR I L A) (h : ∀ (I2 : am_I) (L2 : am_J), CR I2 L2 (o_act12 A x).2 → post (some (.int (o_act12 A x).1)) I2 L2) : G 252 [some (.ref 0), some (.int x), some (.int (nI (nl (x >>> ((4 : Int32) &&& 31)) 9))), some (.int (nI (nl (x >>> ((8 : Int32) &&& 31)) 8)))] [] I L := by
    unfold o_act12 at h
    exact hG [] 60 252 _ _ _ _ (And.intro (show ¬ (5 : Int32) = 0 by decide) (And.intro (show ¬ (3 : Int32) = 0 by decide) (And.intro rfl (Exists.intro A (And.intro hC (fun I2 L2 h2 => h I2 L2 h2))))))
set_option maxRecDepth 100000 in
set_option maxHeartbeats 4000000 in
theorem ok_act13 {post : am_Po} {G : am_G} (hG : ∀ (cuts : List (Nat × List Nat)) (n pc : Nat) (ls : am_Lv) (st : List Value) (I : am_I) (L : am_J), am_ev am_SX sp_LW_act false post k_LW_act cuts G n pc ls st I L → G pc ls st I L) {x : Int32} {I : am_I} {L : am_J} {A : am_A} (hC : CR I L A) (h : ∀ (I2 : am_I) (L2 : am_J), CR I2 L2 (o_act13 A x).2 → post (some (.int (o_act13 A x).1)) I2 L2) : G 266 [some (.ref 0), some (.int x), some (.int (nI (nl (x >>> ((4 : Int32) &&& 31)) 9))), some (.int (nI (nl (x >>> ((8 : Int32) &&& 31)) 8)))] [] I L := by
    unfold o_act13 at h
    exact hG [] 60 266 _ _ _ _ (And.intro (show ¬ (5 : Int32) = 0 by decide) (And.intro (show ¬ (4 : Int32) = 0 by decide) (And.intro (show ¬ (3 : Int32) = 0 by decide) (And.intro rfl (Exists.intro A (And.intro hC (fun I2 L2 h2 => h I2 L2 h2)))))))
set_option maxRecDepth 100000 in
set_option maxHeartbeats 4000000 in
theorem ok_act14 {post : am_Po} {G : am_G} (hG : ∀ (cuts : List (Nat × List Nat)) (n pc : Nat) (ls : am_Lv) (st : List Value) (I : am_I) (L : am_J), am_ev am_SX sp_LW_act false post k_LW_act cuts G n pc ls st I L → G pc ls st I L) {x : Int32} {I : am_I} {L : am_J} {A : am_A} (hC : CR I L A) (h : ∀ (I2 : am_I) (L2 : am_J), CR I2 L2 (o_act14 A x).2 → post (some (.int (o_act14 A x).1)) I2 L2) : G 285 [some (.ref 0), some (.int x), some (.int (nI (nl (x >>> ((4 : Int32) &&& 31)) 9))), some (.int (nI (nl (x >>> ((8 : Int32) &&& 31)) 8)))] [] I L := by
    unfold o_act14 at h
    exact hG [] 60 285 _ _ _ _ (And.intro (show ¬ (4 : Int32) = 0 by decide) (And.intro (show ¬ (4 : Int32) = 0 by decide) (And.intro (show ¬ (3 : Int32) = 0 by decide) (And.intro rfl (Exists.intro A (And.intro hC (fun I2 L2 h2 => h I2 L2 h2)))))))
set_option maxRecDepth 100000 in
set_option maxHeartbeats 4000000 in
theorem ok_act15 {post : am_Po} {G : am_G} (hG : ∀ (cuts : List (Nat × List Nat)) (n pc : Nat) (ls : am_Lv) (st : List Value) (I : am_I) (L : am_J), am_ev am_SX sp_LW_act false post k_LW_act cuts G n pc ls st I L → G pc ls st I L) {x : Int32} {I : am_I} {L : am_J} {A : am_A} (hC : CR I L A) (h : ∀ (I2 : am_I) (L2 : am_J), CR I2 L2 (o_act15 A x).2 → post (some (.int (o_act15 A x).1)) I2 L2) : G 305 [some (.ref 0), some (.int x), some (.int (nI (nl (x >>> ((4 : Int32) &&& 31)) 9))), some (.int (nI (nl (x >>> ((8 : Int32) &&& 31)) 8)))] [] I L := by
    unfold o_act15 at h
    exact hG [] 60 305 _ _ _ _ (And.intro (show ¬ (4 : Int32) = 0 by decide) (And.intro (show ¬ (4 : Int32) = 0 by decide) (And.intro rfl (Exists.intro A (And.intro hC (fun I2 L2 h2 => h I2 L2 h2))))))
set_option maxHeartbeats 4000000 in
set_option maxRecDepth 100000 in
theorem ok_LW_act : am_Ok am_SX sp_LW_act false k_LW_act 4 T_LW_act := by
  intro vs I L post h
  unfold T_LW_act at h
  split at h
  · rename_i o x
    obtain ⟨rfl, A, hC, h⟩ := h
    refine ⟨Nat.le_of_ble_eq_true rfl, fun G hG => ?_⟩
    unfold o_act at h
    refine hG [(19, [])] 60 0 _ _ _ _ (Exists.intro 9 (And.intro rfl (And.intro (by omega) (And.intro (by omega) (Exists.intro 8 (And.intro rfl (And.intro (by omega) (And.intro (by omega) (?_)))))))))
    refine hG [(96, []), (118, []), (134, []), (140, []), (146, []), (174, []), (192, []), (206, []), (231, []), (252, []), (266, []), (285, []), (305, [])] 60 19 _ _ _ _ (And.intro (fun z0 => ?_) (fun n0 => And.intro (fun z1 => ?_) (fun n1 => And.intro (fun z2 => ?_) (fun n2 => And.intro (fun z3 => ?_) (fun n3 => And.intro (fun z4 => ?_) (fun n4 => And.intro (fun z5 => ?_) (fun n5 => And.intro (fun z6 => ?_) (fun n6 => And.intro (fun z7 => ?_) (fun n7 => And.intro (fun z8 => ?_) (fun n8 => And.intro (fun z9 => ?_) (fun n9 => And.intro (fun z10 => ?_) (fun n10 => And.intro (fun z11 => ?_) (fun n11 => And.intro (fun z12 => ?_) (fun n12 => And.intro (fun z13 => ?_) (fun n13 => And.intro (fun z14 => ?_) (fun n14 => ?_))))))))))))))))
    · rw [if_pos z0] at h
      exact ok_act0 hG hC h
    · rw [if_neg n0, if_pos z1] at h
      exact ok_act1 hG hC h
    · rw [if_neg n0, if_neg n1, if_pos z2] at h
      exact ok_act2 hG hC h
    · rw [if_neg n0, if_neg n1, if_neg n2, if_pos z3] at h
      exact ok_act3 hG hC h
    · rw [if_neg n0, if_neg n1, if_neg n2, if_neg n3, if_pos z4] at h
      exact ok_act4 hG hC h
    · rw [if_neg n0, if_neg n1, if_neg n2, if_neg n3, if_neg n4, if_pos z5] at h
      exact ok_act5 hG hC h
    · rw [if_neg n0, if_neg n1, if_neg n2, if_neg n3, if_neg n4, if_neg n5, if_pos z6] at h
      exact ok_act6 hG hC h
    · rw [if_neg n0, if_neg n1, if_neg n2, if_neg n3, if_neg n4, if_neg n5, if_neg n6, if_pos z7] at h
      exact ok_act7 hG hC h
    · rw [if_neg n0, if_neg n1, if_neg n2, if_neg n3, if_neg n4, if_neg n5, if_neg n6, if_neg n7, if_pos z8] at h
      exact ok_act8 hG hC h
    · rw [if_neg n0, if_neg n1, if_neg n2, if_neg n3, if_neg n4, if_neg n5, if_neg n6, if_neg n7, if_neg n8, if_pos z9] at h
      exact ok_act9 hG hC h
    · rw [if_neg n0, if_neg n1, if_neg n2, if_neg n3, if_neg n4, if_neg n5, if_neg n6, if_neg n7, if_neg n8, if_neg n9, if_pos z10] at h
      exact ok_act10 hG hC h
    · rw [if_neg n0, if_neg n1, if_neg n2, if_neg n3, if_neg n4, if_neg n5, if_neg n6, if_neg n7, if_neg n8, if_neg n9, if_neg n10, if_pos z11] at h
      exact ok_act11 hG hC h
    · rw [if_neg n0, if_neg n1, if_neg n2, if_neg n3, if_neg n4, if_neg n5, if_neg n6, if_neg n7, if_neg n8, if_neg n9, if_neg n10, if_neg n11, if_pos z12] at h
      exact ok_act12 hG hC h
    · rw [if_neg n0, if_neg n1, if_neg n2, if_neg n3, if_neg n4, if_neg n5, if_neg n6, if_neg n7, if_neg n8, if_neg n9, if_neg n10, if_neg n11, if_neg n12, if_pos z13] at h
      exact ok_act13 hG hC h
    · rw [if_neg n0, if_neg n1, if_neg n2, if_neg n3, if_neg n4, if_neg n5, if_neg n6, if_neg n7, if_neg n8, if_neg n9, if_neg n10, if_neg n11, if_neg n12, if_neg n13, if_pos z14] at h
      exact ok_act14 hG hC h
    · rw [if_neg n0, if_neg n1, if_neg n2, if_neg n3, if_neg n4, if_neg n5, if_neg n6, if_neg n7, if_neg n8, if_neg n9, if_neg n10, if_neg n11, if_neg n12, if_neg n13, if_neg n14] at h
      exact ok_act15 hG hC h
  · exact h.elim
