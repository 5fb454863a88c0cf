/-! TO FEED; bytes alike -/
def lf_bt (x j : Int) : Int := pj_w8 (pj_w8 (pj_shr x (24 - 8 * j)))
theorem pj_w8_in (x : Int) : -128 ≤ pj_w8 x ∧ pj_w8 x < 128 := by unfold pj_w8; omega
theorem x_feedInt {x t : Int} {w : pj_W} (h0 : 0 ≤ t) (h1 : t + 4 ≤ 900) (ht : w 12 0 5 = t) : ∃ u, fR_feedInt x w = some u ∧ u 12 0 5 = t + 4 ∧ (∀ j, 0 ≤ j → j < 4 → u 30 0 (t + j) = lf_bt x j) ∧ ∀ k i s, ¬ (k = 12 ∧ i = 0 ∧ s = 5) → ¬ (k = 30 ∧ i = 0 ∧ t ≤ s ∧ s < t + 4) → u k i s = w k i s := by
  have key : ∀ m : Nat, m ≤ 4 → ∀ z : pj_W, z 12 0 5 = t + (4 - (m : Int)) → (∀ j, 0 ≤ j → j < 4 - (m : Int) → z 30 0 (t + j) = lf_bt x j) → (∀ k i s, ¬ (k = 12 ∧ i = 0 ∧ s = 5) → ¬ (k = 30 ∧ i = 0 ∧ t ≤ s ∧ s < t + 4) → z k i s = w k i s) → ∃ u, fR_feedInt_3 x (8 * (m : Int) - 8, z) = some u ∧ u 12 0 5 = t + 4 ∧ (∀ j, 0 ≤ j → j < 4 → u 30 0 (t + j) = lf_bt x j) ∧ ∀ k i s, ¬ (k = 12 ∧ i = 0 ∧ s = 5) → ¬ (k = 30 ∧ i = 0 ∧ t ≤ s ∧ s < t + 4) → u k i s = w k i s := by
    intro m
    induction m with
    | zero =>
      intro hm z z1 z2 z3
      refine ⟨z, pj_Lp_end ?_, by omega, fun j j0 j1 => z2 j j0 (by omega), z3⟩
      unfold fR_feedInt_3b
      dsimp only
      rw [if_pos (by omega)]
    | succ m ih =>
      intro hm z z1 z2 z3
      have e5 : ∀ v, pj_set z 30 0 (z 12 0 5) v 12 0 5 = z 12 0 5 := fun v => pj_sne (by omega)
      obtain ⟨u, e, r⟩ := ih (by omega) (pj_set (pj_set z 30 0 (z 12 0 5) (pj_w8 (pj_w8 (pj_shr x (8 * ((m + 1 : Nat) : Int) - 8))))) 12 0 5 (z 12 0 5 + 1)) (by rw [pj_set_at]; omega) (fun j j0 j1 => by
        rw [pj_sne (by omega)]
        by_cases c : t + j = z 12 0 5
        · rw [c, pj_set_at]
          unfold lf_bt
          rw [show 24 - 8 * j = 8 * ((m + 1 : Nat) : Int) - 8 by omega]
        · rw [pj_sne (by omega)]; exact z2 j j0 (by omega)) (fun k i s a b => by rw [pj_sne (by omega), pj_sne (by omega)]; exact z3 k i s a b)
      refine ⟨u, ?_, r⟩
      rw [← e]
      refine pj_Lp_st ?_
      unfold fR_feedInt_3b
      dsimp only
      rw [if_neg (by omega), if_neg (by omega), if_pos (by omega), Option.bind_some, e5, pj_wr_id (x := z 12 0 5 + 1) (by omega) (by omega), pj_wr_id (by omega) (by omega), show 8 * ((m + 1 : Nat) : Int) - 8 + -8 = 8 * (m : Int) - 8 by omega]
  exact key 4 (by omega) w (by omega) (fun j j0 j1 => by omega) (fun _ _ _ _ _ => rfl)
theorem m_four {x t : Int} {w : pj_W} (h0 : 0 ≤ t) (h1 : t + 4 ≤ 900) (ht : w 26 0 10 = t) : ∃ u, fM_four x w = some u ∧ u 26 0 10 = t + 4 ∧ (∀ j, 0 ≤ j → j < 4 → u 65 0 (t + j) = lf_bt x j) ∧ ∀ k i s, ¬ (k = 26 ∧ i = 0 ∧ s = 10) → ¬ (k = 65 ∧ i = 0 ∧ t ≤ s ∧ s < t + 4) → u k i s = w k i s := by
  have key : ∀ m : Nat, m ≤ 4 → ∀ z : pj_W, z 26 0 10 = t + (4 - (m : Int)) → (∀ j, 0 ≤ j → j < 4 - (m : Int) → z 65 0 (t + j) = lf_bt x j) → (∀ k i s, ¬ (k = 26 ∧ i = 0 ∧ s = 10) → ¬ (k = 65 ∧ i = 0 ∧ t ≤ s ∧ s < t + 4) → z k i s = w k i s) → ∃ u, fM_four_3 x (8 * (m : Int) - 8, z) = some u ∧ u 26 0 10 = t + 4 ∧ (∀ j, 0 ≤ j → j < 4 → u 65 0 (t + j) = lf_bt x j) ∧ ∀ k i s, ¬ (k = 26 ∧ i = 0 ∧ s = 10) → ¬ (k = 65 ∧ i = 0 ∧ t ≤ s ∧ s < t + 4) → u k i s = w k i s := by
    intro m
    induction m with
    | zero =>
      intro hm z z1 z2 z3
      refine ⟨z, pj_Lp_end ?_, by omega, fun j j0 j1 => z2 j j0 (by omega), z3⟩
      unfold fM_four_3b
      dsimp only
      rw [if_pos (by omega)]
    | succ m ih =>
      intro hm z z1 z2 z3
      have e5 : ∀ v, pj_set z 65 0 (z 26 0 10) v 26 0 10 = z 26 0 10 := fun v => pj_sne (by omega)
      obtain ⟨u, e, r⟩ := ih (by omega) (pj_set (pj_set z 65 0 (z 26 0 10) (pj_w8 (pj_w8 (pj_shr x (8 * ((m + 1 : Nat) : Int) - 8))))) 26 0 10 (z 26 0 10 + 1)) (by rw [pj_set_at]; omega) (fun j j0 j1 => by
        rw [pj_sne (by omega)]
        by_cases c : t + j = z 26 0 10
        · rw [c, pj_set_at]
          unfold lf_bt
          rw [show 24 - 8 * j = 8 * ((m + 1 : Nat) : Int) - 8 by omega]
        · rw [pj_sne (by omega)]; exact z2 j j0 (by omega)) (fun k i s a b => by rw [pj_sne (by omega), pj_sne (by omega)]; exact z3 k i s a b)
      refine ⟨u, ?_, r⟩
      rw [← e]
      refine pj_Lp_st ?_
      unfold fM_four_3b
      dsimp only
      rw [if_neg (by omega), if_pos (by omega), Option.bind_some, e5, pj_wr_id (x := z 26 0 10 + 1) (by omega) (by omega), pj_wr_id (by omega) (by omega), show 8 * ((m + 1 : Nat) : Int) - 8 + -8 = 8 * (m : Int) - 8 by omega]
  exact key 4 (by omega) w (by omega) (fun j j0 j1 => by omega) (fun _ _ _ _ _ => rfl)
/-- twenty bytes -/
def lf_b5 (a b c d e j : Int) : Int := if j < 4 then lf_bt a j else if j < 8 then lf_bt b (j - 4) else if j < 12 then lf_bt c (j - 8) else if j < 16 then lf_bt d (j - 12) else lf_bt e (j - 16)
theorem lf_b5_of {a b c d e t : Int} {f : Int → Int} (r1 : ∀ j, 0 ≤ j → j < 4 → f (t + j) = lf_bt a j) (r2 : ∀ j, 0 ≤ j → j < 4 → f (t + 4 + j) = lf_bt b j) (r3 : ∀ j, 0 ≤ j → j < 4 → f (t + 8 + j) = lf_bt c j) (r4 : ∀ j, 0 ≤ j → j < 4 → f (t + 12 + j) = lf_bt d j) (r5 : ∀ j, 0 ≤ j → j < 4 → f (t + 16 + j) = lf_bt e j) : ∀ j, 0 ≤ j → j < 20 → f (t + j) = lf_b5 a b c d e j := fun j j0 j1 => by
  unfold lf_b5
  by_cases c1 : j < 4
  · rw [if_pos c1]; exact r1 j j0 c1
  · rw [if_neg c1]
    by_cases c2 : j < 8
    · rw [if_pos c2, show t + j = t + 4 + (j - 4) by omega]; exact r2 _ (by omega) (by omega)
    · rw [if_neg c2]
      by_cases c3 : j < 12
      · rw [if_pos c3, show t + j = t + 8 + (j - 8) by omega]; exact r3 _ (by omega) (by omega)
      · rw [if_neg c3]
        by_cases c4 : j < 16
        · rw [if_pos c4, show t + j = t + 12 + (j - 12) by omega]; exact r4 _ (by omega) (by omega)
        · rw [if_neg c4, show t + j = t + 16 + (j - 16) by omega]; exact r5 _ (by omega) (by omega)
theorem lf_b5_in (a b c d e j : Int) : -128 ≤ lf_b5 a b c d e j ∧ lf_b5 a b c d e j < 128 := by
  have hb : ∀ j x, -128 ≤ lf_bt x j ∧ lf_bt x j < 128 := fun j x => pj_w8_in _
  unfold lf_b5
  repeat' split
  all_goals exact hb _ _
theorem x_feed20 {a b c d e t : Int} {w : pj_W} (h0 : 0 ≤ t) (h1 : t ≤ 880) (ht : w 12 0 5 = t) : ∃ u, fX_feed a b c d e w = some (t + 20, u) ∧ u 12 0 5 = t + 20 ∧ (∀ j, 0 ≤ j → j < 20 → u 30 0 (t + j) = lf_b5 a b c d e j) ∧ ∀ k i s, ¬ (k = 12 ∧ i = 0 ∧ s = 5) → ¬ (k = 30 ∧ i = 0 ∧ t ≤ s ∧ s < t + 20) → u k i s = w k i s := by
  obtain ⟨x1, p1, q1, r1, s1⟩ := x_feedInt (x := a) (w := w) h0 (by omega) ht
  obtain ⟨x2, p2, q2, r2, s2⟩ := x_feedInt (x := b) (w := x1) (by omega) (by omega) q1
  rw [show t + 4 + 4 = t + 8 by omega] at q2 s2
  obtain ⟨x3, p3, q3, r3, s3⟩ := x_feedInt (x := c) (w := x2) (by omega) (by omega) q2
  rw [show t + 8 + 4 = t + 12 by omega] at q3 s3
  obtain ⟨x4, p4, q4, r4, s4⟩ := x_feedInt (x := d) (w := x3) (by omega) (by omega) q3
  rw [show t + 12 + 4 = t + 16 by omega] at q4 s4
  obtain ⟨x5, p5, q5, r5, s5⟩ := x_feedInt (x := e) (w := x4) (by omega) (by omega) q4
  rw [show t + 16 + 4 = t + 20 by omega] at q5 s5
  refine ⟨x5, ?_, q5, lf_b5_of (f := x5 30 0) (fun j j0 j1 => ?_) (fun j j0 j1 => ?_) (fun j j0 j1 => ?_) (fun j j0 j1 => ?_) r5, fun k i s a1 a2 => ?_⟩
  · unfold fX_feed fR_hasRoom
    rw [if_neg (by omega), Option.bind_some, if_neg (by decide), p1, Option.bind_some, p2, Option.bind_some, p3, Option.bind_some, p4, Option.bind_some, p5, Option.bind_some, q5]
  · rw [s5 30 0 _ (by omega) (by omega), s4 30 0 _ (by omega) (by omega), s3 30 0 _ (by omega) (by omega), s2 30 0 _ (by omega) (by omega)]; exact r1 j j0 j1
  · rw [s5 30 0 _ (by omega) (by omega), s4 30 0 _ (by omega) (by omega), s3 30 0 _ (by omega) (by omega)]; exact r2 j j0 j1
  · rw [s5 30 0 _ (by omega) (by omega), s4 30 0 _ (by omega) (by omega)]; exact r3 j j0 j1
  · rw [s5 30 0 _ (by omega) (by omega)]; exact r4 j j0 j1
  · rw [s5 k i s a1 (by omega), s4 k i s a1 (by omega), s3 k i s a1 (by omega), s2 k i s a1 (by omega), s1 k i s a1 (by omega)]
theorem m_feed20 {a b c d e t : Int} {w : pj_W} (h0 : 0 ≤ t) (h1 : t ≤ 880) (ht : w 26 0 10 = t) : ∃ u, fM_feed a b c d e w = some (t + 20, u) ∧ u 26 0 10 = t + 20 ∧ (∀ j, 0 ≤ j → j < 20 → u 65 0 (t + j) = lf_b5 a b c d e j) ∧ ∀ k i s, ¬ (k = 26 ∧ i = 0 ∧ s = 10) → ¬ (k = 65 ∧ i = 0 ∧ t ≤ s ∧ s < t + 20) → u k i s = w k i s := by
  obtain ⟨x1, p1, q1, r1, s1⟩ := m_four (x := a) (w := w) h0 (by omega) ht
  obtain ⟨x2, p2, q2, r2, s2⟩ := m_four (x := b) (w := x1) (by omega) (by omega) q1
  rw [show t + 4 + 4 = t + 8 by omega] at q2 s2
  obtain ⟨x3, p3, q3, r3, s3⟩ := m_four (x := c) (w := x2) (by omega) (by omega) q2
  rw [show t + 8 + 4 = t + 12 by omega] at q3 s3
  obtain ⟨x4, p4, q4, r4, s4⟩ := m_four (x := d) (w := x3) (by omega) (by omega) q3
  rw [show t + 12 + 4 = t + 16 by omega] at q4 s4
  obtain ⟨x5, p5, q5, r5, s5⟩ := m_four (x := e) (w := x4) (by omega) (by omega) q4
  rw [show t + 16 + 4 = t + 20 by omega] at q5 s5
  refine ⟨x5, ?_, q5, lf_b5_of (f := x5 65 0) (fun j j0 j1 => ?_) (fun j j0 j1 => ?_) (fun j j0 j1 => ?_) (fun j j0 j1 => ?_) r5, fun k i s a1 a2 => ?_⟩
  · unfold fM_feed
    rw [ht, pj_wr_id (by omega) (by omega), if_pos (by omega), p1, Option.bind_some, p2, Option.bind_some, p3, Option.bind_some, p4, Option.bind_some, p5, Option.bind_some, q5]
  · rw [s5 65 0 _ (by omega) (by omega), s4 65 0 _ (by omega) (by omega), s3 65 0 _ (by omega) (by omega), s2 65 0 _ (by omega) (by omega)]; exact r1 j j0 j1
  · rw [s5 65 0 _ (by omega) (by omega), s4 65 0 _ (by omega) (by omega), s3 65 0 _ (by omega) (by omega)]; exact r2 j j0 j1
  · rw [s5 65 0 _ (by omega) (by omega), s4 65 0 _ (by omega) (by omega)]; exact r3 j j0 j1
  · rw [s5 65 0 _ (by omega) (by omega)]; exact r4 j j0 j1
  · rw [s5 k i s a1 (by omega), s4 k i s a1 (by omega), s3 k i s a1 (by omega), s2 k i s a1 (by omega), s1 k i s a1 (by omega)]
section
variable {n n' : Int} {w : pj_W}
theorem cc_feed (R : pj_REL n w) (hn : n ≤ n') (a b c d e : Int) : pj_cB n' w (fX_feed a b c d e) (fM_feed a b c d e) := by
  obtain ⟨E1, E2, E3, E4, E5, E6, E7⟩ := R.2.2.2.2.1
  by_cases c0 : 880 < w 12 0 5
  · refine ⟨-1, w, w, ?_, ?_, ?_⟩
    · unfold fX_feed fR_hasRoom
      rw [if_pos c0, Option.bind_some, if_pos rfl]
    · unfold fM_feed
      rw [← E1, pj_wr_id (by omega) (by omega), if_neg (by omega)]
    · exact R.ex hn R.2.1 R.2.2.1 (fun _ _ _ _ _ _ _ => rfl) (fun _ _ _ => rfl)
  obtain ⟨x, hx, q, xb, xo⟩ := x_feed20 (a := a) (b := b) (c := c) (d := d) (e := e) (w := w) E2 (by omega) rfl
  have h26 : x 26 0 10 = w 12 0 5 := (xo 26 0 10 (by omega) (by omega)).trans E1.symm
  obtain ⟨y, hm, q', yb, yo⟩ := m_feed20 (a := a) (b := b) (c := c) (d := d) (e := e) (w := x) E2 (by omega) h26
  have all : ∀ k i s, ¬ (k = 12 ∧ i = 0 ∧ s = 5) → k ≠ 30 → ¬ (k = 26 ∧ i = 0 ∧ s = 10) → k ≠ 65 → y k i s = w k i s := fun k i s h1 h2 h3 h4 => (yo k i s h3 (by omega)).trans (xo k i s h1 (by omega))
  have e12 : y 12 0 5 = w 12 0 5 + 20 := (yo 12 0 5 (by omega) (by omega)).trans q
  have S := R.2.2.1
  have hE : pj_RE y := by
    refine ⟨by rw [e12, q'], by omega, by omega, ?_, ?_, fun i i0 i1 => ?_, fun i hi => (all 34 0 i (by omega) (by omega) (by omega) (by omega)).trans (E7 i hi)⟩
    · rw [all 12 0 6 (by omega) (by omega) (by omega) (by omega), all 26 0 16 (by omega) (by omega) (by omega) (by omega)]; exact E4
    · rw [all 12 0 7 (by omega) (by omega) (by omega) (by omega), all 26 0 17 (by omega) (by omega) (by omega) (by omega)]; exact E5
    · rw [yo 30 0 i (by omega) (by omega)]
      by_cases c1 : i < w 12 0 5
      · rw [yo 65 0 i (by omega) (by omega), xo 30 0 i (by omega) (by omega), xo 65 0 i (by omega) (by omega)]
        exact E6 i i0 c1
      · have h1 := xb (i - w 12 0 5) (by omega) (by omega)
        have h2 := yb (i - w 12 0 5) (by omega) (by omega)
        rw [show w 12 0 5 + (i - w 12 0 5) = i by omega] at h1 h2
        rw [h1, h2]
        exact ⟨rfl, lf_b5_in a b c d e _⟩
  clear E1 E2 E3 E4 E5 E6 E7 xb yb h26 q q' e12 xo yo c0
  refine ⟨_, x, y, hx, hm, ?_, ?_, ⟨?_, ?_, ?_⟩, ?_, hE, ?_, ?_, ?_, ?_⟩
  · exact R.1.ex (fun s _ _ => all 10 0 s (by omega) (by omega) (by omega) (by omega))
  · rw [all 10 0 10 (by omega) (by omega) (by omega) (by omega), all 10 0 12 (by omega) (by omega) (by omega) (by omega), show y 60 0 = w 60 0 from funext fun s => all 60 0 s (by omega) (by omega) (by omega) (by omega)]
    exact R.2.1.ex (fun k i s hk => by unfold pj_ix pj_in at hk; exact all k i s (by omega) (by omega) (by omega) (by omega))
  · rw [all 10 0 15 (by omega) (by omega) (by omega) (by omega), all 26 0 2 (by omega) (by omega) (by omega) (by omega)]; exact S.1
  · rw [all 10 0 16 (by omega) (by omega) (by omega) (by omega), all 26 0 3 (by omega) (by omega) (by omega) (by omega)]; exact S.2.1
  · rw [all 10 0 17 (by omega) (by omega) (by omega) (by omega), all 26 0 4 (by omega) (by omega) (by omega) (by omega)]; exact S.2.2
  · exact R.2.2.2.1.ex (fun k i s hk => all k i s (by omega) (by omega) (by omega) (by omega))
  · exact R.2.2.2.2.2.1.ex (all 10 0 14 (by omega) (by omega) (by omega) (by omega)) (all 26 0 37 (by omega) (by omega) (by omega) (by omega)) (fun m m0 m1 k i s hk => by unfold pj_ix pj_in at hk; exact all k i s (by omega) (by omega) (by omega) (by omega)) (fun m x m0 m1 x0 x1 => all 60 0 _ (by omega) (by omega) (by omega) (by omega))
  · exact R.2.2.2.2.2.2.1.ex (all 17 0 6 (by omega) (by omega) (by omega) (by omega)) (all 26 0 30 (by omega) (by omega) (by omega) (by omega)) (fun s => all 41 0 s (by omega) (by omega) (by omega) (by omega)) (fun s => all 71 0 s (by omega) (by omega) (by omega) (by omega))
  · exact R.2.2.2.2.2.2.2.1.ex (all 10 0 9 (by omega) (by omega) (by omega) (by omega)) (all 26 0 36 (by omega) (by omega) (by omega) (by omega)) (fun s => all 44 0 s (by omega) (by omega) (by omega) (by omega)) (fun s => all 74 0 s (by omega) (by omega) (by omega) (by omega))
  · exact R.2.2.2.2.2.2.2.2.mono hn (fun s => all 43 0 s (by omega) (by omega) (by omega) (by omega)) (fun s => all 72 0 s (by omega) (by omega) (by omega) (by omega))
/-- answers that leave all as it is -/
theorem cc_same (R : pj_REL n w) : fX_status w = fM_status w ∧ fX_top w = fM_top w ∧ fX_bottom w = fM_bottom w ∧ ∀ k, fX_fault k w = fM_fault k w := by
  have S := R.2.2.1
  have E := R.2.2.2.2.1
  unfold fX_status fM_status fX_top fM_top fX_bottom fM_bottom
  refine ⟨by rw [S.1], by rw [S.2.1], by rw [S.2.2], fun k => ?_⟩
  unfold fX_fault fM_fault
  rw [E.2.2.2.1, E.2.2.2.2.1]
end
