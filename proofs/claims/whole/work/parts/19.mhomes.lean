/-! THE REFERENCE: homes laid by rounds; the choice -/
def HP (E : Nat → Nat → Bool) (h : Nat) (hm : Nat → Nat) : Prop := ∀ q, q < 8 → hm q = 10000 ∨ (hm q < 10000 ∧ g_R E h (hm q) q = true)
def HT (E : Nat → Nat → Bool) (h t : Nat) (hm : Nat → Nat) : Prop := ∀ s q, s ≤ t → q < 8 → g_R E h s q = true → hm q ≤ s
def HQ (G : Nat → Nat) (b h t k : Nat) (hm : Nat → Nat) : Prop := ∀ j, j < k → b.testBit j = false → (g_R (g_E G b) h t (G (1 + j)) = true → hm (G (13 + j)) ≤ t + 1) ∧ (g_R (g_E G b) h t (G (13 + j)) = true → hm (G (1 + j)) ≤ t + 1)
def hm1 (hm : Nat → Nat) (x y : Nat) : Nat → Nat := fun q => if q = x then (if hm y + 1 < hm x then hm y + 1 else hm x) else hm q
theorem hm1_le (hm : Nat → Nat) (x y q : Nat) : hm1 hm x y q ≤ hm q := by
  unfold hm1
  split
  · rename_i e; subst e; split <;> omega
  · exact Nat.le_refl _
theorem hm1_x (hm : Nat → Nat) (x y : Nat) : hm1 hm x y x ≤ hm y + 1 := by
  unfold hm1
  rw [if_pos rfl]; split <;> omega
theorem hm1_P {E : Nat → Nat → Bool} {h : Nat} {hm : Nat → Nat} {x y : Nat} (hp : HP E h hm) (hx : x < 8) (hy : y < 8) (he : E y x = true) : HP E h (hm1 hm x y) := by
  intro q hq
  unfold hm1
  split
  · rename_i e
    subst e
    split
    · rename_i hl
      right
      rcases hp y hy with z | ⟨z1, z2⟩
      · rcases hp q hq with w | w <;> omega
      · refine ⟨?_, g_R_succ.mpr (Or.inr ⟨y, hy, he, z2⟩)⟩
        rcases hp q hq with w | ⟨w, _⟩ <;> omega
    · exact hp q hq
  · exact hp q hq
theorem HT_le {E : Nat → Nat → Bool} {h t : Nat} {hm hm' : Nat → Nat} (ht : HT E h t hm) (hl : ∀ q, hm' q ≤ hm q) : HT E h t hm' := fun s q h1 h2 h3 => Nat.le_trans (hl q) (ht s q h1 h2 h3)
theorem HQ_le {G : Nat → Nat} {b h t k : Nat} {hm hm' : Nat → Nat} (hq : HQ G b h t k hm) (hl : ∀ q, hm' q ≤ hm q) : HQ G b h t k hm' := fun j h1 h2 => ⟨fun z => Nat.le_trans (hl _) ((hq j h1 h2).1 z), fun z => Nat.le_trans (hl _) ((hq j h1 h2).2 z)⟩
theorem g_E_way {G : Nat → Nat} (hW : WG G) {b k : Nat} (hk : k < G 0) (hb : b.testBit k = false) : g_E G b (G (1 + k)) (G (13 + k)) = true ∧ g_E G b (G (13 + k)) (G (1 + k)) = true := by
  have h1 : g_wy G (G (1 + k)) (G (13 + k)) = k + 1 := g_wy_of hW hk (by simp [g_j])
  have h2 : g_wy G (G (13 + k)) (G (1 + k)) = k + 1 := g_wy_of hW hk (by simp [g_j])
  constructor
  · unfold g_E; rw [h1]; simp [hb]
  · unfold g_E; rw [h2]; simp [hb]
/-- a round is through -/
theorem HT_next {G : Nat → Nat} {b h t : Nat} {hm : Nat → Nat} (ht : HT (g_E G b) h t hm) (hq : HQ G b h t (G 0) hm) : HT (g_E G b) h (t + 1) hm := by
  intro s q h1 h2 h3
  rcases Nat.lt_or_ge s (t + 1) with z | z
  · exact ht s q (by omega) h2 h3
  · have e : s = t + 1 := by omega
    subst e
    rcases g_R_succ.mp h3 with a | ⟨p, a1, a2, a3⟩
    · have := ht t q (Nat.le_refl t) h2 a; omega
    · obtain ⟨k, e1, e2, e3, e4⟩ := g_E_wy a2
      simp only [g_j, Bool.or_eq_true, Bool.and_eq_true, decide_eq_true_eq] at e3
      rcases e3 with ⟨c1, c2⟩ | ⟨c1, c2⟩
      · have := (hq k e2 e4).1 (by rw [c1]; exact a3)
        rwa [c2] at this
      · have := (hq k e2 e4).2 (by rw [c2]; exact a3)
        rwa [c1] at this
theorem HD {E : Nat → Nat → Bool} {h : Nat} {hm : Nat → Nat} (hh : h < 8) (hp : HP E h hm) (ht : HT E h 8 hm) {q : Nat} (hq : q < 8) : hm q = g_d E h q := by
  rcases g_d_spec E h q with ⟨a, b⟩ | ⟨a, b, c⟩
  · rw [a]
    rcases hp q hq with z | ⟨_, z⟩
    · exact z
    · have := g_R7 hh hq z
      rw [b 7 (by omega)] at this
      cases this
  · have h1 := ht (g_d E h q) q (by omega) hq b
    rcases Nat.lt_or_ge (hm q) (g_d E h q) with z | z
    · rcases hp q hq with w | ⟨_, w⟩
      · omega
      · rw [c _ z] at w; cases w
    · omega
def HM (I : am_I) (hm : Nat → Nat) : Prop := ∀ q, q < 8 → I 8 q = nI (hm q) ∧ hm q ≤ 10000
theorem HM_put {I : am_I} {hm : Nat → Nat} {x v : Nat} (h : HM I hm) (hv : v ≤ 10000) : HM (am_ui I 8 x (nI v)) (fun q => if q = x then v else hm q) := by
  intro q hq
  rw [am_ui_r]
  dsimp only
  by_cases e : q = x
  · rw [if_pos ⟨rfl, e⟩, if_pos e]; exact ⟨rfl, hv⟩
  · rw [if_neg (fun z => e z.2), if_neg e]; exact h q hq
def T_MD_layHomes : am_Sp := fun vs I L post => match vs with
  | [.ref o, .int x] => o = 0 ∧ ∃ G b, WG G ∧ RM I 0 G ∧ x = nI b ∧ ∀ I2 : am_I, (∀ q, q < 8 → I2 8 q = nI (g_d (g_E G b) (G 43) q)) → (∀ a, a ≠ 8 → I2 a = I a) → post none I2 L
  | _ => False
def sp_MD_layHomes : Nat → am_Sp := fun i => match i with
  | 83 => T_MD_has
  | _ => am_no
set_option maxRecDepth 100000 in
set_option maxHeartbeats 4000000 in
theorem ok_MD_layHomes : am_Ok am_SM sp_MD_layHomes false k_MD_layHomes 6 T_MD_layHomes := by
  intro vs I L post h
  unfold T_MD_layHomes at h
  split at h
  · rename_i o x
    obtain ⟨rfl, G, b, hW, hM, rfl, h⟩ := h
    refine ⟨Nat.le_of_ble_eq_true rfl, fun G2 hG2 => ?_⟩
    have h12 := hW.1
    have h43 : G 43 < 8 := hW.2.2.2.2.2.2.2.2.1
    have v0 : vp_in (0 : Int32) 90 := am_vin (n := 0) (by decide) rfl
    -- one way
    have inner : ∀ t, (∀ (I1 : am_I) (hm : Nat → Nat), HM I1 hm → (∀ a, a ≠ 8 → I1 a = I a) → HP (g_E G b) (G 43) hm → HT (g_E G b) (G 43) t hm → HQ G b (G 43) t (G 0) hm → G2 183 [some (.ref 0), some (.int (nI b)), some (.int (nI t)), none, none, none] [] I1 L) → ∀ d k (I1 : am_I) (hm : Nat → Nat), G 0 - k = d → k ≤ G 0 → HM I1 hm → (∀ a, a ≠ 8 → I1 a = I a) → HP (g_E G b) (G 43) hm → HT (g_E G b) (G 43) t hm → HQ G b (G 43) t k hm → G2 48 [some (.ref 0), some (.int (nI b)), some (.int (nI t)), some (.int (nI k)), none, none] [] I1 L := by
      intro t hnext d
      induction d with
      | zero =>
        intro k I1 hm hd hk hM1 ho hp ht hq
        have e : k = G 0 := by omega
        subst e
        exact hG2 [(48, [1, 1, 1, 1, 0, 0]), (183, [1, 1, 1, 0, 0, 0])] 100 48 _ _ _ _ (And.intro v0 (am_nt (by rw [show I1 1 (0 : Int32).toNatClampNeg = nI (G 0) from by rw [ho 1 (by omega)]; exact RM_i hM 0 (by omega)]; exact nI_nlt (Nat.le_refl _) (by omega)) (hnext I1 hm hM1 ho hp ht hq)))
      | succ d ih =>
        intro k I1 hm hd hk hM1 ho hp ht hq
        have hk2 : k < G 0 := by omega
        obtain ⟨k12, ea, eb⟩ := WG_e hW hk2
        have hne := (hW.2.1 k hk2).1
        have i1 : ((1 : Int32) + nI k).toNatClampNeg = 1 + k := by rw [show (1 : Int32) = nI 1 from rfl, nI_add, nI_clamp (by omega)]
        have i2 : ((13 : Int32) + nI k).toNatClampNeg = 13 + k := by rw [show (13 : Int32) = nI 13 from rfl, nI_add, nI_clamp (by omega)]
        have v1 : vp_in ((1 : Int32) + nI k) 90 := by rw [show (1 : Int32) = nI 1 from rfl, nI_add]; exact am_vin (by omega) rfl
        have v2 : vp_in ((13 : Int32) + nI k) 90 := by rw [show (13 : Int32) = nI 13 from rfl, nI_add]; exact am_vin (by omega) rfl
        have wa : I1 1 ((1 : Int32) + nI k).toNatClampNeg = nI (G (1 + k)) := by rw [i1, ho 1 (by omega)]; exact RM_i hM _ (by omega)
        have wb : I1 1 ((13 : Int32) + nI k).toNatClampNeg = nI (G (13 + k)) := by rw [i2, ho 1 (by omega)]; exact RM_i hM _ (by omega)
        refine hG2 [] 23 48 _ _ _ _ (And.intro v0 (am_nf (by rw [show I1 1 (0 : Int32).toNatClampNeg = nI (G 0) from by rw [ho 1 (by omega)]; exact RM_i hM 0 (by omega)]; exact nI_lt hk2 (by omega)) (And.intro v1 (And.intro v2 ?_))))
        show G2 84 [some (.ref 0), some (.int (nI b)), some (.int (nI t)), some (.int (nI k)), some (.int (I1 1 ((1 : Int32) + nI k).toNatClampNeg)), some (.int (I1 1 ((13 : Int32) + nI k).toNatClampNeg))] [.int (am_b (f_h (nI b) (nI k) = 1))] I1 L
        rw [wa, wb, f_h_nI b (by omega)]
        generalize hx : G (1 + k) = x at *
        generalize hy : G (13 + k) = y at *
        have cx : (nI x).toNatClampNeg = x := nI_clamp (by omega)
        have cy : (nI y).toNatClampNeg = y := nI_clamp (by omega)
        cases hb : b.testBit k with
        | true =>
          refine hG2 [(48, [1, 1, 1, 1, 0, 0]), (183, [1, 1, 1, 0, 0, 0])] 100 84 _ _ _ _ (am_nt (by simp [am_b1]) ?_)
          show G2 48 [some (.ref 0), some (.int (nI b)), some (.int (nI t)), some (.int (nI k + 1)), none, none] [] I1 L
          rw [nI_1]
          exact ih (k + 1) I1 hm (by omega) (by omega) hM1 ho hp ht (fun j hj hjb => by
            rcases Nat.lt_or_ge j k with z | z
            · exact hq j z hjb
            · rw [show j = k by omega, hb] at hjb; cases hjb)
        | false =>
          obtain ⟨he1, he2⟩ := g_E_way hW hk2 hb
          rw [hx, hy] at he1 he2
          -- the second end
          have snd : ∀ (I3 : am_I) (h1 : Nat → Nat), h1 = hm1 hm x y → HM I3 h1 → (∀ a, a ≠ 8 → I3 a = I a) → G2 132 [some (.ref 0), some (.int (nI b)), some (.int (nI t)), some (.int (nI k)), some (.int (nI x)), some (.int (nI y))] [] I3 L := by
            intro I3 h1 hh1 hM3 ho3
            have p1 : HP (g_E G b) (G 43) h1 := by rw [hh1]; exact hm1_P hp (by omega) (by omega) he2
            have l1 : ∀ q, h1 q ≤ hm q := fun q => by rw [hh1]; exact hm1_le hm x y q
            have fin : ∀ v, v = (if h1 x + 1 < h1 y then h1 x + 1 else h1 y) → G2 48 [some (.ref 0), some (.int (nI b)), some (.int (nI t)), some (.int (nI k + 1)), none, none] [] (am_ui I3 8 y (nI v)) L := by
              intro v hv
              have e2 : (fun q => if q = y then v else h1 q) = hm1 h1 y x := by funext q; unfold hm1; rw [hv]
              have hv2 : v ≤ 10000 := by
                have := (hM3 y (by omega)).2
                rw [hv]; split <;> omega
              have hM4 := HM_put (x := y) hM3 hv2
              rw [e2] at hM4
              have l2 : ∀ q, hm1 h1 y x q ≤ hm q := fun q => Nat.le_trans (hm1_le h1 y x q) (l1 q)
              rw [nI_1]
              refine ih (k + 1) _ _ (by omega) (by omega) hM4 (fun a ha => (am_ui_o ha).trans (ho3 a ha)) (hm1_P p1 (by omega) (by omega) he1) (HT_le ht l2) (fun j hj hjb => ?_)
              rcases Nat.lt_or_ge j k with z | z
              · exact HQ_le hq l2 j z hjb
              · have e : j = k := by omega
                subst e
                rw [hx, hy]
                refine ⟨fun hr => ?_, fun hr => ?_⟩
                · have a1 := ht t x (Nat.le_refl t) (by omega) hr
                  have a2 := hm1_x h1 y x
                  have a3 := l1 x
                  omega
                · have a1 := ht t y (Nat.le_refl t) (by omega) hr
                  have a2 := hm1_x hm x y
                  rw [← hh1] at a2
                  have a3 := hm1_le h1 y x x
                  omega
            have bx := hM3 x (by omega)
            have by' := hM3 y (by omega)
            have vx : I3 8 (nI x).toNatClampNeg = nI (h1 x) := by rw [cx]; exact bx.1
            have vy : I3 8 (nI y).toNatClampNeg = nI (h1 y) := by rw [cy]; exact by'.1
            have inx : vp_in (nI x) 8 := am_vin (by omega) rfl
            have iny : vp_in (nI y) 8 := am_vin (by omega) rfl
            by_cases hc : h1 x + 1 < h1 y
            · refine hG2 [(48, [1, 1, 1, 1, 0, 0]), (183, [1, 1, 1, 0, 0, 0])] 100 132 _ _ _ _ (And.intro inx (And.intro iny (am_nf (by rw [vx, vy, nI_1]; exact nI_lt hc (by omega)) (And.intro inx (And.intro iny ?_)))))
              show G2 48 [some (.ref 0), some (.int (nI b)), some (.int (nI t)), some (.int (nI k + 1)), none, none] [] (am_ui I3 8 (nI y).toNatClampNeg (I3 8 (nI x).toNatClampNeg + 1)) L
              rw [cy, vx, nI_1 (h1 x)]
              exact fin _ (by rw [if_pos hc])
            · refine hG2 [(48, [1, 1, 1, 1, 0, 0]), (183, [1, 1, 1, 0, 0, 0])] 100 132 _ _ _ _ (And.intro inx (And.intro iny (am_nt (by rw [vx, vy, nI_1]; exact nI_nlt (by omega) (by omega)) (And.intro iny (And.intro iny ?_)))))
              show G2 48 [some (.ref 0), some (.int (nI b)), some (.int (nI t)), some (.int (nI k + 1)), none, none] [] (am_ui I3 8 (nI y).toNatClampNeg (I3 8 (nI y).toNatClampNeg)) L
              rw [vy, cy]
              exact fin _ (by rw [if_neg hc])
          have bx := hM1 x (by omega)
          have by' := hM1 y (by omega)
          have vx : I1 8 (nI x).toNatClampNeg = nI (hm x) := by rw [cx]; exact bx.1
          have vy : I1 8 (nI y).toNatClampNeg = nI (hm y) := by rw [cy]; exact by'.1
          have inx : vp_in (nI x) 8 := am_vin (by omega) rfl
          have iny : vp_in (nI y) 8 := am_vin (by omega) rfl
          by_cases hc : hm y + 1 < hm x
          · refine hG2 [(132, [])] 100 84 _ _ _ _ (am_nf (am_b0 (by simp [am_b0])) (And.intro iny (And.intro inx (am_nf (by rw [vx, vy, nI_1]; exact nI_lt hc (by omega)) (And.intro iny (And.intro inx ?_))))))
            show G2 132 [some (.ref 0), some (.int (nI b)), some (.int (nI t)), some (.int (nI k)), some (.int (nI x)), some (.int (nI y))] [] (am_ui I1 8 (nI x).toNatClampNeg (I1 8 (nI y).toNatClampNeg + 1)) L
            rw [cx, vy, nI_1]
            refine snd _ _ (by funext q; unfold hm1; rw [if_pos hc]) (HM_put hM1 (by omega)) (fun a ha => (am_ui_o ha).trans (ho a ha))
          · refine hG2 [(132, [])] 100 84 _ _ _ _ (am_nf (am_b0 (by simp [am_b0])) (And.intro iny (And.intro inx (am_nt (by rw [vx, vy, nI_1]; exact nI_nlt (by omega) (by omega)) (And.intro inx (And.intro inx ?_))))))
            show G2 132 [some (.ref 0), some (.int (nI b)), some (.int (nI t)), some (.int (nI k)), some (.int (nI x)), some (.int (nI y))] [] (am_ui I1 8 (nI x).toNatClampNeg (I1 8 (nI x).toNatClampNeg)) L
            rw [vx, cx]
            refine snd _ _ (by funext q; unfold hm1; rw [if_neg hc]) (HM_put hM1 (by omega)) (fun a ha => (am_ui_o ha).trans (ho a ha))
    -- the rounds
    have outer : ∀ d t (I1 : am_I) (hm : Nat → Nat), 8 - t = d → t ≤ 8 → HM I1 hm → (∀ a, a ≠ 8 → I1 a = I a) → HP (g_E G b) (G 43) hm → HT (g_E G b) (G 43) t hm → G2 40 [some (.ref 0), some (.int (nI b)), some (.int (nI t)), none, none, none] [] I1 L := by
      intro d
      induction d with
      | zero =>
        intro t I1 hm hd ht hM1 ho hp hT
        have e : t = 8 := by omega
        subst e
        exact hG2 [(48, [1, 1, 1, 1, 0, 0]), (183, [1, 1, 1, 0, 0, 0])] 100 40 _ _ _ _ (am_nt (am_nlt (Nat.le_refl 8) rfl) (h I1 (fun q hq => by rw [(hM1 q hq).1, HD h43 hp hT hq]) ho))
      | succ d ih =>
        intro t I1 hm hd ht hM1 ho hp hT
        refine hG2 [(48, [1, 1, 1, 1, 0, 0]), (183, [1, 1, 1, 0, 0, 0])] 100 40 _ _ _ _ (am_nf (am_lt (by omega : t < 8) rfl) ?_)
        refine inner t (fun I3 h3 hM3 ho3 hp3 hT3 hQ3 => ?_) (G 0) 0 I1 hm (by omega) (by omega) hM1 ho hp hT (fun j hj => by omega)
        refine hG2 [(40, [1, 1, 1, 0, 0, 0])] 100 183 _ _ _ _ ?_
        show G2 40 [some (.ref 0), some (.int (nI b)), some (.int (nI t + 1)), none, none, none] [] I3 L
        rw [nI_1]
        exact ih (t + 1) I3 h3 (by omega) (by omega) hM3 ho3 hp3 (HT_next hT3 hQ3)
    -- the start
    have init : ∀ d k (I1 : am_I), 8 - k = d → k ≤ 8 → (∀ a, a ≠ 8 → I1 a = I a) → (∀ q, q < k → I1 8 q = nI (if q = G 43 then 0 else 10000)) → G2 2 [some (.ref 0), some (.int (nI b)), some (.int (nI k)), none, none, none] [] I1 L := by
      intro d
      induction d with
      | zero =>
        intro k I1 hd hk ho hv
        have e : k = 8 := by omega
        subst e
        refine hG2 [(40, [1, 1, 1, 0, 0, 0])] 100 2 _ _ _ _ (am_nt (am_nlt (Nat.le_refl 8) rfl) ?_)
        refine outer 8 0 I1 (fun q => if q = G 43 then 0 else 10000) (by omega) (by omega) (fun q hq => ⟨hv q hq, by dsimp only; split <;> omega⟩) ho (fun q hq => ?_) (fun s q hs hq hr => ?_)
        · dsimp only
          by_cases e : q = G 43
          · right; rw [if_pos e]; exact ⟨by omega, by simp [g_R, e]⟩
          · left; rw [if_neg e]
        · have e : s = 0 := by omega
          subst e
          simp only [g_R, decide_eq_true_eq] at hr
          dsimp only
          rw [if_pos hr]; omega
      | succ d ih =>
        intro k I1 hd hk ho hv
        have w43 : I1 1 (43 : Int32).toNatClampNeg = nI (G 43) := by rw [ho 1 (by omega)]; exact RM_i hM 43 (by omega)
        have ck : (nI k).toNatClampNeg = k := nI_clamp (by omega)
        have nxt : ∀ v, v = (if k = G 43 then 0 else 10000) → G2 2 [some (.ref 0), some (.int (nI b)), some (.int (nI k + 1)), none, none, none] [] (am_ui I1 8 k (nI v)) L := by
          intro v hv2
          rw [nI_1]
          refine ih (k + 1) _ (by omega) (by omega) (fun a ha => (am_ui_o ha).trans (ho a ha)) (fun q hq => ?_)
          rw [am_ui_r]
          by_cases e : q = k
          · rw [if_pos ⟨rfl, e⟩, hv2, e]
          · rw [if_neg (fun z => e z.2)]; exact hv q (by omega)
        refine hG2 [(2, [1, 1, 1, 0, 0, 0])] 100 2 _ _ _ _ (am_nf (am_lt (by omega : k < 8) rfl) (And.intro (am_vin (n := 43) (by decide) rfl) ?_))
        by_cases e : k = G 43
        · refine am_nf (by rw [w43, e]) (And.intro (am_vin (by omega) rfl) ?_)
          show G2 2 [some (.ref 0), some (.int (nI b)), some (.int (nI k + 1)), none, none, none] [] (am_ui I1 8 (nI k).toNatClampNeg (nI 0)) L
          rw [ck]; exact nxt 0 (by rw [if_pos e])
        · refine am_nt (by rw [w43, nI_eq (by omega) (by omega)]; exact e) (And.intro (am_vin (by omega) rfl) ?_)
          show G2 2 [some (.ref 0), some (.int (nI b)), some (.int (nI k + 1)), none, none, none] [] (am_ui I1 8 (nI k).toNatClampNeg (nI 10000)) L
          rw [ck]; exact nxt 10000 (by rw [if_neg e])
    refine hG2 [(2, [1, 1, 1, 0, 0, 0])] 50 0 _ _ _ _ ?_
    exact init 8 0 I (by omega) (by omega) (fun _ _ => rfl) (fun q hq => by omega)
  · exact h.elim
