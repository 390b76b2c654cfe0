/-! THE LAW: its worlds at the start -/
def x_I : am_I := fun a b => match a with
  | 1 => if b = 9 then 7 else 0
  | 7 => if b = 9 then 7 else 0
  | 13 => if b = 9 then 7 else 0
  | 26 => if b = 1 then -1 else 0
  | 28 => if b = 1 then -1 else 0
  | 30 => if b = 1 then -1 else 0
  | 32 => if b = 1 then -1 else 0
  | _ => 0
def x_L : am_J := fun _ _ => 0
def x_ad (h0 : Nat) (u : Nat → Nat) : Nat → Nat := fun k => [h0, (u 0), (u 1), (u 2), (u 3), (u 4), (u 5), (u 6), (u 7), (u 8), (u 9), (u 10), (u 11), (u 12), (u 13), (u 14), (u 15), (u 16), (u 17), (u 18), (u 19), (u 20), (u 21), (u 22), (u 23), (u 24), (u 25), (u 26), (u 27), (u 28), (u 29), (u 30), (u 31), (u 32), (u 33)].getD k 0
theorem x_up (h0 : Nat) (u : Nat → Nat) : (va_up (va_up (va_up (va_up (fun _ => none) 0 (some (u 25))) 1 (some (u 27))) 2 (some (u 29))) 3 (some (u 31))) = fun j => (([26, 28, 30, 32] : List Nat)[j]?).map (x_ad h0 u) := by
  funext j
  match j with
  | 0 => rfl
  | 1 => rfl
  | 2 => rfl
  | 3 => rfl
  | k + 4 =>
    have e : ∀ i, i < 4 → ¬ k + 4 = i := fun i hi => by omega
    simp [va_up, e]
theorem am_w_of {S : List am_C} {ad : Nat → Nat} {ca : Nat → ClassId} {I : am_I} {L : am_J} {ws : va_W} {A : Nat → Prop} {D : va_G} {H : Heap} (f : Nat → Nat) (h : ∀ (k : Nat) (c : am_C), S[k]? = some c → ws[f k]? = some (ad k, am_cell ad ca I L k c)) (hf : ∀ i j, i < S.length → j < S.length → f i = f j → i = j) (hP : va_P D am_cl ws H) (hD : va_D A ws) : va_P D am_cl (am_w S ad ca I L) H ∧ va_D A (am_w S ad ca I L) := by
  have key : ∀ (k : Nat) (q : Nat × va_E), (am_w S ad ca I L)[k]? = some q → k < S.length ∧ ws[f k]? = some q := by
    intro k q hk
    unfold am_w at hk
    rw [List.getElem?_mapIdx] at hk
    cases hs : S[k]? with
    | none => rw [hs] at hk; cases hk
    | some c =>
      rw [hs] at hk
      cases hk
      exact ⟨(List.getElem?_eq_some_iff.mp hs).1, h k c hs⟩
  refine ⟨fun k q hk => hP _ q (key k q hk).2, fun i j p q hi hj e => ?_, fun k q hk => hD.2 _ q (key k q hk).2⟩
  obtain ⟨a1, a2⟩ := key i p hi
  obtain ⟨b1, b2⟩ := key j q hj
  exact hf i j a1 b1 (hD.1 _ _ p q a2 b2 e)
def x_p : Nat → Nat := fun k => ([0, 1, 2, 3, 4, 5, 6, 7, 8, 9, 10, 11, 12, 13, 14, 15, 16, 17, 18, 19, 20, 21, 22, 23, 24, 25, 26, 27, 28, 29, 30, 31, 32, 33, 34] : List Nat).getD k 0
theorem x_pi : ∀ i, i < 35 → ∀ j, j < 35 → x_p i = x_p j → i = j := by decide +kernel
set_option maxRecDepth 100000 in
theorem x_w0 (ca : Nat → ClassId) (h0 : Nat) (u : Nat → Nat) (c : am_C) (hc : am_SX[0]? = some c) : some (h0, .inr (0, [.ref (u 0), .ref (u 6), .ref (u 12), .ref (u 18), .ref (u 20), .ref (u 24), .ref (u 33), .int 0])) = some (x_ad h0 u 0, am_cell (x_ad h0 u) ca x_I x_L 0 c) := by
  have e := Option.some.inj hc
  rw [← e]
  rfl
set_option maxRecDepth 100000 in
theorem x_w1 (ca : Nat → ClassId) (h0 : Nat) (u : Nat → Nat) (c : am_C) (hc : am_SX[1]? = some c) : some ((u 0), .inr (1, [.ref (u 1), .ref (u 2), .ref (u 3), .ref (u 4), .ref (u 5), .int 0, .int 0, .int 0, .int 0, .int 7, .long 0, .long 0])) = some (x_ad h0 u 1, am_cell (x_ad h0 u) ca x_I x_L 1 c) := by
  have e := Option.some.inj hc
  rw [← e]
  rfl
set_option maxRecDepth 100000 in
theorem x_w2 (ca : Nat → ClassId) (h0 : Nat) (u : Nat → Nat) (c : am_C) (hc : am_SX[2]? = some c) : some ((u 1), .inl (ca 0, 12, .inl (fun _ => 0))) = some (x_ad h0 u 2, am_cell (x_ad h0 u) ca x_I x_L 2 c) := by
  have e := Option.some.inj hc
  rw [← e]
  rfl
set_option maxRecDepth 100000 in
theorem x_w3 (ca : Nat → ClassId) (h0 : Nat) (u : Nat → Nat) (c : am_C) (hc : am_SX[3]? = some c) : some ((u 2), .inl (ca 0, 12, .inl (fun _ => 0))) = some (x_ad h0 u 3, am_cell (x_ad h0 u) ca x_I x_L 3 c) := by
  have e := Option.some.inj hc
  rw [← e]
  rfl
set_option maxRecDepth 100000 in
theorem x_w4 (ca : Nat → ClassId) (h0 : Nat) (u : Nat → Nat) (c : am_C) (hc : am_SX[4]? = some c) : some ((u 3), .inl (ca 0, 64, .inl (fun _ => 0))) = some (x_ad h0 u 4, am_cell (x_ad h0 u) ca x_I x_L 4 c) := by
  have e := Option.some.inj hc
  rw [← e]
  rfl
set_option maxRecDepth 100000 in
theorem x_w5 (ca : Nat → ClassId) (h0 : Nat) (u : Nat → Nat) (c : am_C) (hc : am_SX[5]? = some c) : some ((u 4), .inl (ca 0, 8, .inl (fun _ => 0))) = some (x_ad h0 u 5, am_cell (x_ad h0 u) ca x_I x_L 5 c) := by
  have e := Option.some.inj hc
  rw [← e]
  rfl
set_option maxRecDepth 100000 in
theorem x_w6 (ca : Nat → ClassId) (h0 : Nat) (u : Nat → Nat) (c : am_C) (hc : am_SX[6]? = some c) : some ((u 5), .inl (ca 0, 8, .inl (fun _ => 0))) = some (x_ad h0 u 6, am_cell (x_ad h0 u) ca x_I x_L 6 c) := by
  have e := Option.some.inj hc
  rw [← e]
  rfl
set_option maxRecDepth 100000 in
theorem x_w7 (ca : Nat → ClassId) (h0 : Nat) (u : Nat → Nat) (c : am_C) (hc : am_SX[7]? = some c) : some ((u 6), .inr (1, [.ref (u 7), .ref (u 8), .ref (u 9), .ref (u 10), .ref (u 11), .int 0, .int 0, .int 0, .int 0, .int 7, .long 0, .long 0])) = some (x_ad h0 u 7, am_cell (x_ad h0 u) ca x_I x_L 7 c) := by
  have e := Option.some.inj hc
  rw [← e]
  rfl
set_option maxRecDepth 100000 in
theorem x_w8 (ca : Nat → ClassId) (h0 : Nat) (u : Nat → Nat) (c : am_C) (hc : am_SX[8]? = some c) : some ((u 7), .inl (ca 0, 12, .inl (fun _ => 0))) = some (x_ad h0 u 8, am_cell (x_ad h0 u) ca x_I x_L 8 c) := by
  have e := Option.some.inj hc
  rw [← e]
  rfl
set_option maxRecDepth 100000 in
theorem x_w9 (ca : Nat → ClassId) (h0 : Nat) (u : Nat → Nat) (c : am_C) (hc : am_SX[9]? = some c) : some ((u 8), .inl (ca 0, 12, .inl (fun _ => 0))) = some (x_ad h0 u 9, am_cell (x_ad h0 u) ca x_I x_L 9 c) := by
  have e := Option.some.inj hc
  rw [← e]
  rfl
set_option maxRecDepth 100000 in
theorem x_w10 (ca : Nat → ClassId) (h0 : Nat) (u : Nat → Nat) (c : am_C) (hc : am_SX[10]? = some c) : some ((u 9), .inl (ca 0, 64, .inl (fun _ => 0))) = some (x_ad h0 u 10, am_cell (x_ad h0 u) ca x_I x_L 10 c) := by
  have e := Option.some.inj hc
  rw [← e]
  rfl
set_option maxRecDepth 100000 in
theorem x_w11 (ca : Nat → ClassId) (h0 : Nat) (u : Nat → Nat) (c : am_C) (hc : am_SX[11]? = some c) : some ((u 10), .inl (ca 0, 8, .inl (fun _ => 0))) = some (x_ad h0 u 11, am_cell (x_ad h0 u) ca x_I x_L 11 c) := by
  have e := Option.some.inj hc
  rw [← e]
  rfl
set_option maxRecDepth 100000 in
theorem x_w12 (ca : Nat → ClassId) (h0 : Nat) (u : Nat → Nat) (c : am_C) (hc : am_SX[12]? = some c) : some ((u 11), .inl (ca 0, 8, .inl (fun _ => 0))) = some (x_ad h0 u 12, am_cell (x_ad h0 u) ca x_I x_L 12 c) := by
  have e := Option.some.inj hc
  rw [← e]
  rfl
set_option maxRecDepth 100000 in
theorem x_w13 (ca : Nat → ClassId) (h0 : Nat) (u : Nat → Nat) (c : am_C) (hc : am_SX[13]? = some c) : some ((u 12), .inr (1, [.ref (u 13), .ref (u 14), .ref (u 15), .ref (u 16), .ref (u 17), .int 0, .int 0, .int 0, .int 0, .int 7, .long 0, .long 0])) = some (x_ad h0 u 13, am_cell (x_ad h0 u) ca x_I x_L 13 c) := by
  have e := Option.some.inj hc
  rw [← e]
  rfl
set_option maxRecDepth 100000 in
theorem x_w14 (ca : Nat → ClassId) (h0 : Nat) (u : Nat → Nat) (c : am_C) (hc : am_SX[14]? = some c) : some ((u 13), .inl (ca 0, 12, .inl (fun _ => 0))) = some (x_ad h0 u 14, am_cell (x_ad h0 u) ca x_I x_L 14 c) := by
  have e := Option.some.inj hc
  rw [← e]
  rfl
set_option maxRecDepth 100000 in
theorem x_w15 (ca : Nat → ClassId) (h0 : Nat) (u : Nat → Nat) (c : am_C) (hc : am_SX[15]? = some c) : some ((u 14), .inl (ca 0, 12, .inl (fun _ => 0))) = some (x_ad h0 u 15, am_cell (x_ad h0 u) ca x_I x_L 15 c) := by
  have e := Option.some.inj hc
  rw [← e]
  rfl
set_option maxRecDepth 100000 in
theorem x_w16 (ca : Nat → ClassId) (h0 : Nat) (u : Nat → Nat) (c : am_C) (hc : am_SX[16]? = some c) : some ((u 15), .inl (ca 0, 64, .inl (fun _ => 0))) = some (x_ad h0 u 16, am_cell (x_ad h0 u) ca x_I x_L 16 c) := by
  have e := Option.some.inj hc
  rw [← e]
  rfl
set_option maxRecDepth 100000 in
theorem x_w17 (ca : Nat → ClassId) (h0 : Nat) (u : Nat → Nat) (c : am_C) (hc : am_SX[17]? = some c) : some ((u 16), .inl (ca 0, 8, .inl (fun _ => 0))) = some (x_ad h0 u 17, am_cell (x_ad h0 u) ca x_I x_L 17 c) := by
  have e := Option.some.inj hc
  rw [← e]
  rfl
set_option maxRecDepth 100000 in
theorem x_w18 (ca : Nat → ClassId) (h0 : Nat) (u : Nat → Nat) (c : am_C) (hc : am_SX[18]? = some c) : some ((u 17), .inl (ca 0, 8, .inl (fun _ => 0))) = some (x_ad h0 u 18, am_cell (x_ad h0 u) ca x_I x_L 18 c) := by
  have e := Option.some.inj hc
  rw [← e]
  rfl
set_option maxRecDepth 100000 in
theorem x_w19 (ca : Nat → ClassId) (h0 : Nat) (u : Nat → Nat) (c : am_C) (hc : am_SX[19]? = some c) : some ((u 18), .inr (2, [.ref (u 19), .int 0, .int 0])) = some (x_ad h0 u 19, am_cell (x_ad h0 u) ca x_I x_L 19 c) := by
  have e := Option.some.inj hc
  rw [← e]
  rfl
set_option maxRecDepth 100000 in
theorem x_w20 (ca : Nat → ClassId) (h0 : Nat) (u : Nat → Nat) (c : am_C) (hc : am_SX[20]? = some c) : some ((u 19), .inl (ca 2, 100, .inl (fun _ => 0))) = some (x_ad h0 u 20, am_cell (x_ad h0 u) ca x_I x_L 20 c) := by
  have e := Option.some.inj hc
  rw [← e]
  rfl
set_option maxRecDepth 100000 in
theorem x_w21 (ca : Nat → ClassId) (h0 : Nat) (u : Nat → Nat) (c : am_C) (hc : am_SX[21]? = some c) : some ((u 20), .inr (3, [.ref (u 21), .int 0, .int 0, .int 0, .int 0, .int 0, .int 0, .int 0, .int 0, .long 0])) = some (x_ad h0 u 21, am_cell (x_ad h0 u) ca x_I x_L 21 c) := by
  have e := Option.some.inj hc
  rw [← e]
  rfl
set_option maxRecDepth 100000 in
theorem x_w22 (ca : Nat → ClassId) (h0 : Nat) (u : Nat → Nat) (c : am_C) (hc : am_SX[22]? = some c) : some ((u 21), .inr (4, [.ref (u 22), .ref (u 23), .int 0])) = some (x_ad h0 u 22, am_cell (x_ad h0 u) ca x_I x_L 22 c) := by
  have e := Option.some.inj hc
  rw [← e]
  rfl
set_option maxRecDepth 100000 in
theorem x_w23 (ca : Nat → ClassId) (h0 : Nat) (u : Nat → Nat) (c : am_C) (hc : am_SX[23]? = some c) : some ((u 22), .inl (ca 1, 512, .inr (.inl (fun _ => 0)))) = some (x_ad h0 u 23, am_cell (x_ad h0 u) ca x_I x_L 23 c) := by
  have e := Option.some.inj hc
  rw [← e]
  rfl
set_option maxRecDepth 100000 in
theorem x_w24 (ca : Nat → ClassId) (h0 : Nat) (u : Nat → Nat) (c : am_C) (hc : am_SX[24]? = some c) : some ((u 23), .inl (ca 0, 512, .inl (fun _ => 0))) = some (x_ad h0 u 24, am_cell (x_ad h0 u) ca x_I x_L 24 c) := by
  have e := Option.some.inj hc
  rw [← e]
  rfl
set_option maxRecDepth 100000 in
theorem x_w25 (ca : Nat → ClassId) (h0 : Nat) (u : Nat → Nat) (c : am_C) (hc : am_SX[25]? = some c) : some ((u 24), .inl (ca 3, 4, .inr (.inr (.inr (.inr (va_up (va_up (va_up (va_up (fun _ => none) 0 (some (u 25))) 1 (some (u 27))) 2 (some (u 29))) 3 (some (u 31)))))))) = some (x_ad h0 u 25, am_cell (x_ad h0 u) ca x_I x_L 25 c) := by
  have e := Option.some.inj hc
  rw [← e, x_up]
  rfl
set_option maxRecDepth 100000 in
theorem x_w26 (ca : Nat → ClassId) (h0 : Nat) (u : Nat → Nat) (c : am_C) (hc : am_SX[26]? = some c) : some ((u 25), .inr (5, [.ref (u 26), .int (-1), .int 0])) = some (x_ad h0 u 26, am_cell (x_ad h0 u) ca x_I x_L 26 c) := by
  have e := Option.some.inj hc
  rw [← e]
  rfl
set_option maxRecDepth 100000 in
theorem x_w27 (ca : Nat → ClassId) (h0 : Nat) (u : Nat → Nat) (c : am_C) (hc : am_SX[27]? = some c) : some ((u 26), .inl (ca 1, 24, .inr (.inl (fun _ => 0)))) = some (x_ad h0 u 27, am_cell (x_ad h0 u) ca x_I x_L 27 c) := by
  have e := Option.some.inj hc
  rw [← e]
  rfl
set_option maxRecDepth 100000 in
theorem x_w28 (ca : Nat → ClassId) (h0 : Nat) (u : Nat → Nat) (c : am_C) (hc : am_SX[28]? = some c) : some ((u 27), .inr (5, [.ref (u 28), .int (-1), .int 0])) = some (x_ad h0 u 28, am_cell (x_ad h0 u) ca x_I x_L 28 c) := by
  have e := Option.some.inj hc
  rw [← e]
  rfl
set_option maxRecDepth 100000 in
theorem x_w29 (ca : Nat → ClassId) (h0 : Nat) (u : Nat → Nat) (c : am_C) (hc : am_SX[29]? = some c) : some ((u 28), .inl (ca 1, 24, .inr (.inl (fun _ => 0)))) = some (x_ad h0 u 29, am_cell (x_ad h0 u) ca x_I x_L 29 c) := by
  have e := Option.some.inj hc
  rw [← e]
  rfl
set_option maxRecDepth 100000 in
theorem x_w30 (ca : Nat → ClassId) (h0 : Nat) (u : Nat → Nat) (c : am_C) (hc : am_SX[30]? = some c) : some ((u 29), .inr (5, [.ref (u 30), .int (-1), .int 0])) = some (x_ad h0 u 30, am_cell (x_ad h0 u) ca x_I x_L 30 c) := by
  have e := Option.some.inj hc
  rw [← e]
  rfl
set_option maxRecDepth 100000 in
theorem x_w31 (ca : Nat → ClassId) (h0 : Nat) (u : Nat → Nat) (c : am_C) (hc : am_SX[31]? = some c) : some ((u 30), .inl (ca 1, 24, .inr (.inl (fun _ => 0)))) = some (x_ad h0 u 31, am_cell (x_ad h0 u) ca x_I x_L 31 c) := by
  have e := Option.some.inj hc
  rw [← e]
  rfl
set_option maxRecDepth 100000 in
theorem x_w32 (ca : Nat → ClassId) (h0 : Nat) (u : Nat → Nat) (c : am_C) (hc : am_SX[32]? = some c) : some ((u 31), .inr (5, [.ref (u 32), .int (-1), .int 0])) = some (x_ad h0 u 32, am_cell (x_ad h0 u) ca x_I x_L 32 c) := by
  have e := Option.some.inj hc
  rw [← e]
  rfl
set_option maxRecDepth 100000 in
theorem x_w33 (ca : Nat → ClassId) (h0 : Nat) (u : Nat → Nat) (c : am_C) (hc : am_SX[33]? = some c) : some ((u 32), .inl (ca 1, 24, .inr (.inl (fun _ => 0)))) = some (x_ad h0 u 33, am_cell (x_ad h0 u) ca x_I x_L 33 c) := by
  have e := Option.some.inj hc
  rw [← e]
  rfl
set_option maxRecDepth 100000 in
theorem x_w34 (ca : Nat → ClassId) (h0 : Nat) (u : Nat → Nat) (c : am_C) (hc : am_SX[34]? = some c) : some ((u 33), .inl (ca 0, 24, .inl (fun _ => 0))) = some (x_ad h0 u 34, am_cell (x_ad h0 u) ca x_I x_L 34 c) := by
  have e := Option.some.inj hc
  rw [← e]
  rfl
set_option maxRecDepth 100000 in
theorem x_start {D : va_G} {ca : Nat → ClassId} {A : Nat → Prop} {h0 : Nat} {u : Nat → Nat} {H : Heap} (hP : va_P D am_cl [(h0, .inr (0, [.ref (u 0), .ref (u 6), .ref (u 12), .ref (u 18), .ref (u 20), .ref (u 24), .ref (u 33), .int 0])), ((u 0), .inr (1, [.ref (u 1), .ref (u 2), .ref (u 3), .ref (u 4), .ref (u 5), .int 0, .int 0, .int 0, .int 0, .int 7, .long 0, .long 0])), ((u 1), .inl (ca 0, 12, .inl (fun _ => 0))), ((u 2), .inl (ca 0, 12, .inl (fun _ => 0))), ((u 3), .inl (ca 0, 64, .inl (fun _ => 0))), ((u 4), .inl (ca 0, 8, .inl (fun _ => 0))), ((u 5), .inl (ca 0, 8, .inl (fun _ => 0))), ((u 6), .inr (1, [.ref (u 7), .ref (u 8), .ref (u 9), .ref (u 10), .ref (u 11), .int 0, .int 0, .int 0, .int 0, .int 7, .long 0, .long 0])), ((u 7), .inl (ca 0, 12, .inl (fun _ => 0))), ((u 8), .inl (ca 0, 12, .inl (fun _ => 0))), ((u 9), .inl (ca 0, 64, .inl (fun _ => 0))), ((u 10), .inl (ca 0, 8, .inl (fun _ => 0))), ((u 11), .inl (ca 0, 8, .inl (fun _ => 0))), ((u 12), .inr (1, [.ref (u 13), .ref (u 14), .ref (u 15), .ref (u 16), .ref (u 17), .int 0, .int 0, .int 0, .int 0, .int 7, .long 0, .long 0])), ((u 13), .inl (ca 0, 12, .inl (fun _ => 0))), ((u 14), .inl (ca 0, 12, .inl (fun _ => 0))), ((u 15), .inl (ca 0, 64, .inl (fun _ => 0))), ((u 16), .inl (ca 0, 8, .inl (fun _ => 0))), ((u 17), .inl (ca 0, 8, .inl (fun _ => 0))), ((u 18), .inr (2, [.ref (u 19), .int 0, .int 0])), ((u 19), .inl (ca 2, 100, .inl (fun _ => 0))), ((u 20), .inr (3, [.ref (u 21), .int 0, .int 0, .int 0, .int 0, .int 0, .int 0, .int 0, .int 0, .long 0])), ((u 21), .inr (4, [.ref (u 22), .ref (u 23), .int 0])), ((u 22), .inl (ca 1, 512, .inr (.inl (fun _ => 0)))), ((u 23), .inl (ca 0, 512, .inl (fun _ => 0))), ((u 24), .inl (ca 3, 4, .inr (.inr (.inr (.inr (va_up (va_up (va_up (va_up (fun _ => none) 0 (some (u 25))) 1 (some (u 27))) 2 (some (u 29))) 3 (some (u 31)))))))), ((u 25), .inr (5, [.ref (u 26), .int (-1), .int 0])), ((u 26), .inl (ca 1, 24, .inr (.inl (fun _ => 0)))), ((u 27), .inr (5, [.ref (u 28), .int (-1), .int 0])), ((u 28), .inl (ca 1, 24, .inr (.inl (fun _ => 0)))), ((u 29), .inr (5, [.ref (u 30), .int (-1), .int 0])), ((u 30), .inl (ca 1, 24, .inr (.inl (fun _ => 0)))), ((u 31), .inr (5, [.ref (u 32), .int (-1), .int 0])), ((u 32), .inl (ca 1, 24, .inr (.inl (fun _ => 0)))), ((u 33), .inl (ca 0, 24, .inl (fun _ => 0)))] H) (hD : va_D A [(h0, .inr (0, [.ref (u 0), .ref (u 6), .ref (u 12), .ref (u 18), .ref (u 20), .ref (u 24), .ref (u 33), .int 0])), ((u 0), .inr (1, [.ref (u 1), .ref (u 2), .ref (u 3), .ref (u 4), .ref (u 5), .int 0, .int 0, .int 0, .int 0, .int 7, .long 0, .long 0])), ((u 1), .inl (ca 0, 12, .inl (fun _ => 0))), ((u 2), .inl (ca 0, 12, .inl (fun _ => 0))), ((u 3), .inl (ca 0, 64, .inl (fun _ => 0))), ((u 4), .inl (ca 0, 8, .inl (fun _ => 0))), ((u 5), .inl (ca 0, 8, .inl (fun _ => 0))), ((u 6), .inr (1, [.ref (u 7), .ref (u 8), .ref (u 9), .ref (u 10), .ref (u 11), .int 0, .int 0, .int 0, .int 0, .int 7, .long 0, .long 0])), ((u 7), .inl (ca 0, 12, .inl (fun _ => 0))), ((u 8), .inl (ca 0, 12, .inl (fun _ => 0))), ((u 9), .inl (ca 0, 64, .inl (fun _ => 0))), ((u 10), .inl (ca 0, 8, .inl (fun _ => 0))), ((u 11), .inl (ca 0, 8, .inl (fun _ => 0))), ((u 12), .inr (1, [.ref (u 13), .ref (u 14), .ref (u 15), .ref (u 16), .ref (u 17), .int 0, .int 0, .int 0, .int 0, .int 7, .long 0, .long 0])), ((u 13), .inl (ca 0, 12, .inl (fun _ => 0))), ((u 14), .inl (ca 0, 12, .inl (fun _ => 0))), ((u 15), .inl (ca 0, 64, .inl (fun _ => 0))), ((u 16), .inl (ca 0, 8, .inl (fun _ => 0))), ((u 17), .inl (ca 0, 8, .inl (fun _ => 0))), ((u 18), .inr (2, [.ref (u 19), .int 0, .int 0])), ((u 19), .inl (ca 2, 100, .inl (fun _ => 0))), ((u 20), .inr (3, [.ref (u 21), .int 0, .int 0, .int 0, .int 0, .int 0, .int 0, .int 0, .int 0, .long 0])), ((u 21), .inr (4, [.ref (u 22), .ref (u 23), .int 0])), ((u 22), .inl (ca 1, 512, .inr (.inl (fun _ => 0)))), ((u 23), .inl (ca 0, 512, .inl (fun _ => 0))), ((u 24), .inl (ca 3, 4, .inr (.inr (.inr (.inr (va_up (va_up (va_up (va_up (fun _ => none) 0 (some (u 25))) 1 (some (u 27))) 2 (some (u 29))) 3 (some (u 31)))))))), ((u 25), .inr (5, [.ref (u 26), .int (-1), .int 0])), ((u 26), .inl (ca 1, 24, .inr (.inl (fun _ => 0)))), ((u 27), .inr (5, [.ref (u 28), .int (-1), .int 0])), ((u 28), .inl (ca 1, 24, .inr (.inl (fun _ => 0)))), ((u 29), .inr (5, [.ref (u 30), .int (-1), .int 0])), ((u 30), .inl (ca 1, 24, .inr (.inl (fun _ => 0)))), ((u 31), .inr (5, [.ref (u 32), .int (-1), .int 0])), ((u 32), .inl (ca 1, 24, .inr (.inl (fun _ => 0)))), ((u 33), .inl (ca 0, 24, .inl (fun _ => 0)))]) : va_P D am_cl (am_w am_SX (x_ad h0 u) ca x_I x_L) H ∧ va_D A (am_w am_SX (x_ad h0 u) ca x_I x_L) := by
  refine am_w_of x_p (fun k c hc => ?_) (fun i j hi hj => x_pi i hi j hj) hP hD
  match k, hc with
  | 0, hc => exact x_w0 ca h0 u c hc
  | 1, hc => exact x_w1 ca h0 u c hc
  | 2, hc => exact x_w2 ca h0 u c hc
  | 3, hc => exact x_w3 ca h0 u c hc
  | 4, hc => exact x_w4 ca h0 u c hc
  | 5, hc => exact x_w5 ca h0 u c hc
  | 6, hc => exact x_w6 ca h0 u c hc
  | 7, hc => exact x_w7 ca h0 u c hc
  | 8, hc => exact x_w8 ca h0 u c hc
  | 9, hc => exact x_w9 ca h0 u c hc
  | 10, hc => exact x_w10 ca h0 u c hc
  | 11, hc => exact x_w11 ca h0 u c hc
  | 12, hc => exact x_w12 ca h0 u c hc
  | 13, hc => exact x_w13 ca h0 u c hc
  | 14, hc => exact x_w14 ca h0 u c hc
  | 15, hc => exact x_w15 ca h0 u c hc
  | 16, hc => exact x_w16 ca h0 u c hc
  | 17, hc => exact x_w17 ca h0 u c hc
  | 18, hc => exact x_w18 ca h0 u c hc
  | 19, hc => exact x_w19 ca h0 u c hc
  | 20, hc => exact x_w20 ca h0 u c hc
  | 21, hc => exact x_w21 ca h0 u c hc
  | 22, hc => exact x_w22 ca h0 u c hc
  | 23, hc => exact x_w23 ca h0 u c hc
  | 24, hc => exact x_w24 ca h0 u c hc
  | 25, hc => exact x_w25 ca h0 u c hc
  | 26, hc => exact x_w26 ca h0 u c hc
  | 27, hc => exact x_w27 ca h0 u c hc
  | 28, hc => exact x_w28 ca h0 u c hc
  | 29, hc => exact x_w29 ca h0 u c hc
  | 30, hc => exact x_w30 ca h0 u c hc
  | 31, hc => exact x_w31 ca h0 u c hc
  | 32, hc => exact x_w32 ca h0 u c hc
  | 33, hc => exact x_w33 ca h0 u c hc
  | 34, hc => exact x_w34 ca h0 u c hc
  | k + 35, hc => cases hc
theorem VA_0 : VA A_0 := ⟨WG_0 (by omega), WG_0 (by omega), by omega, fun j hj => by omega, fun s hs => ⟨Or.inl rfl, Nat.zero_le _⟩⟩
theorem RC_0 {I : am_I} {L : am_J} {r : Nat} (h9 : I r 9 = 7) (h5 : I r 5 = 0 ∧ I r 6 = 0 ∧ I r 7 = 0 ∧ I r 8 = 0) (h3 : ∀ j, I (r + 3) j = 0) (hL : ∀ j, L r j = 0) : RC I L r (g_0 7) := by
  refine ⟨h5.1, h5.2.1, h5.2.2.1, h5.2.2.2, h9, fun k hk => absurd hk (Nat.not_lt_zero k), fun a b ha hb => ?_, fun p hp hb => ?_, fun a b ha hb => ?_, fun a b ha hb => ?_⟩
  · rw [h3, g_wy_0]; rfl
  · rw [show g_0 7 26 = 0 from rfl, Nat.zero_testBit] at hb; cases hb
  · rw [hL, g_E_0, bl_0]
  · rw [hL, g_E_0, bl_0]
theorem CR_0 : CR x_I x_L A_0 := by
  refine ⟨VA_0, RC_0 rfl ⟨rfl, rfl, rfl, rfl⟩ (fun _ => rfl) (fun _ => rfl), RC_0 rfl ⟨rfl, rfl, rfl, rfl⟩ (fun _ => rfl) (fun _ => rfl), rfl, ⟨rfl, fun j hj => absurd hj (Nat.not_lt_zero j)⟩, ⟨fun _ => false, 0, by omega, rfl, ?_, fun w hw hz => absurd rfl hz, fun j hj => absurd hj (Nat.not_lt_zero j), fun s hs => bl_0 _⟩, fun s hs => ?_⟩
  · rw [g_cnt_zero 512 (fun j _ => by simp [x_L])]
  · have hc : s = 0 ∨ s = 1 ∨ s = 2 ∨ s = 3 := by omega
    rcases hc with rfl | rfl | rfl | rfl <;> exact ⟨rfl, fun z => absurd rfl z, fun j hj => rfl⟩
