/-! BEST, THE ROW, LATENESS: both answer alike -/
def pj_rk (k : Nat) (i s : Int) : Prop := k = 17 ∨ k = 36 ∨ k = 37 ∨ k = 38 ∨ k = 39 ∨ k = 40 ∨ k = 41 ∨ k = 68 ∨ k = 69 ∨ k = 70 ∨ k = 71 ∨ (k = 26 ∧ i = 0 ∧ (s = 2 ∨ s = 29 ∨ s = 30)) ∨ (k = 10 ∧ i = 0 ∧ s = 15)
theorem pj_REL.rnd {n n' : Int} {w w' : pj_W} (R : pj_REL n w) (hn : n ≤ n') (h : ∀ k i s, ¬ pj_rk k i s → w' k i s = w k i s) (hs : w' 10 0 15 = w' 26 0 2) (hO : pj_RO w') : pj_REL n' w' := by
  have a : ∀ k i s, k ≠ 17 → k ≠ 36 → k ≠ 37 → k ≠ 38 → k ≠ 39 → k ≠ 40 → k ≠ 41 → k ≠ 68 → k ≠ 69 → k ≠ 70 → k ≠ 71 → ¬ (k = 26 ∧ i = 0 ∧ (s = 2 ∨ s = 29 ∨ s = 30)) → ¬ (k = 10 ∧ i = 0 ∧ s = 15) → w' k i s = w k i s := fun k i s h1 h2 h3 h4 h5 h6 h7 h8 h9 h10 h11 h12 h13 => h k i s (by unfold pj_rk; omega)
  have h60 : w' 60 0 = w 60 0 := funext fun s => h 60 0 s (by unfold pj_rk; omega)
  have S := R.2.2.1
  refine ⟨R.1.ex (fun s h1 h2 => h 10 0 s (by unfold pj_rk; omega)), ?_, ⟨hs, ?_, ?_⟩, R.2.2.2.1.ex (fun k i s hk => h k i s (by unfold pj_rk; omega)), R.2.2.2.2.1.ex (fun s h1 h2 => h 12 0 s (by unfold pj_rk; omega)) (fun s hs => h 26 0 s (by unfold pj_rk; omega)) (fun s => h 30 0 s (by unfold pj_rk; omega)) (fun s => h 65 0 s (by unfold pj_rk; omega)) (fun s => h 34 0 s (by unfold pj_rk; omega)), R.2.2.2.2.2.1.ex (h 10 0 14 (by unfold pj_rk; omega)) (h 26 0 37 (by unfold pj_rk; omega)) (fun m m0 m1 k i s hk => h k i s (by unfold pj_ix pj_in at hk; unfold pj_rk; omega)) (fun m x _ _ _ _ => h 60 0 _ (by unfold pj_rk; omega)), hO, R.2.2.2.2.2.2.2.1.ex (h 10 0 9 (by unfold pj_rk; omega)) (h 26 0 36 (by unfold pj_rk; omega)) (fun s => h 44 0 s (by unfold pj_rk; omega)) (fun s => h 74 0 s (by unfold pj_rk; omega)), R.2.2.2.2.2.2.2.2.mono hn (fun s => h 43 0 s (by unfold pj_rk; omega)) (fun s => h 72 0 s (by unfold pj_rk; omega))⟩
  · rw [h 10 0 10 (by unfold pj_rk; omega), h 10 0 12 (by unfold pj_rk; omega), h60]
    exact R.2.1.ex (fun k i s hk => h k i s (by unfold pj_ix pj_in at hk; unfold pj_rk; omega))
  · rw [h 10 0 16 (by unfold pj_rk; omega), h 26 0 3 (by unfold pj_rk; omega)]; exact S.2.1
  · rw [h 10 0 17 (by unfold pj_rk; omega), h 26 0 4 (by unfold pj_rk; omega)]; exact S.2.2
section
variable {n n' : Int} {w : pj_W}
theorem cc_bestAt (R : pj_REL n w) (hn : n ≤ n') (k : Int) : pj_cB n' w (fX_bestAt k) (fM_bestAt k) := by
  obtain ⟨O1, O2, O3, O4⟩ := R.2.2.2.2.2.2.1
  by_cases c : 0 ≤ k ∧ k < w 17 0 6
  · refine pj_cB.s R hn (a := w 41 0 k) (y := 0) ?_ ?_
    · unfold fX_bestAt
      rw [if_neg (by omega), if_neg (by omega), if_pos (by omega)]; rfl
    · unfold fM_bestAt
      rw [if_neg (by omega), pj_sne (by omega), ← O1, if_pos c.2, if_pos (by omega), pj_sne (by omega), ← O4 k c.1 c.2]; rfl
  · refine pj_cB.s R hn (a := -1) (y := 6) ?_ ?_
    · unfold fX_bestAt fX_bestAt_31
      by_cases c1 : k < 0
      · rw [if_pos c1]; rfl
      · rw [if_neg c1, if_pos (by omega)]; rfl
    · unfold fM_bestAt fM_bestAt_12
      by_cases c1 : k < 0
      · rw [if_pos c1]; rfl
      · rw [if_neg c1, pj_sne (by omega), ← O1, if_neg (by omega)]; rfl
theorem m_told {x2 : Int} {u : pj_W} {B : Nat} (hB : B ≤ 8) (h29 : u 26 0 29 = B) : ∃ u', fM_best_36 x2 (0, pj_set u 26 0 30 (u 26 0 29)) = some (x2, u') ∧ u' 26 0 30 = B ∧ u' 26 0 2 = 0 ∧ (∀ j : Int, 0 ≤ j → j < B → u' 71 0 j = u 70 0 j) ∧ ∀ k i s, k ≠ 71 → ¬ (k = 26 ∧ i = 0 ∧ (s = 2 ∨ s = 30)) → u' k i s = u k i s := by
  have key : ∀ m c : Nat, c + m = B → ∀ z : pj_W, z 26 0 30 = B → (∀ j : Int, 0 ≤ j → j < c → z 71 0 j = u 70 0 j) → (∀ k i s, k ≠ 71 → ¬ (k = 26 ∧ i = 0 ∧ s = 30) → z k i s = u k i s) → ∃ u', fM_best_36 x2 ((c : Int), z) = some (x2, u') ∧ u' 26 0 30 = B ∧ u' 26 0 2 = 0 ∧ (∀ j : Int, 0 ≤ j → j < B → u' 71 0 j = u 70 0 j) ∧ ∀ k i s, k ≠ 71 → ¬ (k = 26 ∧ i = 0 ∧ (s = 2 ∨ s = 30)) → u' k i s = u k i s := by
    intro m
    induction m with
    | zero =>
      intro c hc z z1 z2 z3
      have e29 : z 26 0 29 = B := (z3 26 0 29 (by decide) (by omega)).trans h29
      refine ⟨pj_set z 26 0 2 0, pj_Lp_end ?_, by rw [pj_sne (by omega)]; exact z1, pj_set_at, fun j j0 j1 => by rw [pj_sne (by omega)]; exact z2 j j0 (by omega), fun k i s a1 a2 => by rw [pj_sne (by omega)]; exact z3 k i s a1 (by omega)⟩
      unfold fM_best_36b fM_gives
      dsimp only
      rw [if_pos (by omega)]; rfl
    | succ m ih =>
      intro c hc z z1 z2 z3
      have e29 : z 26 0 29 = B := (z3 26 0 29 (by decide) (by omega)).trans h29
      obtain ⟨u', e, r⟩ := ih (c + 1) (by omega) (pj_set z 71 0 c (z 70 0 c)) (by rw [pj_sne (by omega)]; exact z1) (fun j j0 j1 => by
        by_cases cj : j = c
        · rw [cj, pj_set_at, z3 70 0 c (by decide) (by omega)]
        · rw [pj_sne (by omega)]; exact z2 j j0 (by omega)) (fun k i s a1 a2 => by rw [pj_sne (by omega)]; exact z3 k i s a1 a2)
      refine ⟨u', ?_, r⟩
      rw [← e]
      refine pj_Lp_st ?_
      unfold fM_best_36b
      dsimp only
      rw [if_neg (by omega), if_pos (by omega), pj_wri (by omega)]; rfl
  exact key B 0 (by omega) _ (by rw [pj_set_at]; exact h29) (fun j j0 j1 => by omega) (fun k i s a1 a2 => pj_sne (by omega))
theorem cc_best (R : pj_REL n w) (hn : n ≤ n') (f : Int) : pj_cB n' w (fX_best f) (fM_best f) := by
  have I := R.2.1.1
  have hA := I.1
  have RB := R.2.1.2.2.1
  have hb := R.hb
  by_cases hf : pj_isF (w 60 0) f
  case neg =>
    refine pj_cB.s R hn (a := -1) (y := 1) ?_ ?_
    · unfold fX_best
      rw [if_pos hb, xq_finderAt RB I, Option.bind_some, if_neg hf, if_pos (by decide)]; rfl
    · unfold fM_best
      rw [mq_isFinder, Option.bind_some, pj_sne (by omega), if_neg hf, if_pos rfl]; rfl
  have f0 := hf.1
  have hF := I.2.2.1 f hf.1 hf.2
  have k : bs_ok (bs_of (w 60 0) f (w 60 0 3)) := bs_of_ok I hf (by omega) (by omega)
  obtain ⟨v1, e1, p1, t1, o1⟩ := o_prepare RB I hb hf (x3 := 0) (by omega) (by omega)
  rw [Int.add_zero] at p1 t1
  obtain ⟨v2, e2, r6, r41, o2⟩ := o_choose p1 k t1
  have p2 : bs_pr v2 (bs_of (w 60 0) f (w 60 0 3)) := p1.ex (fun s h1 h2 => o2 17 0 s (by decide) (by decide) (by omega)) (fun kk s hk => o2 kk 0 s (by omega) (by omega) (by omega))
  have tb2 : bs_tab v2 = bs_tab v1 := funext fun S => funext fun a => o2 36 0 _ (by decide) (by decide) (by omega)
  have e3 := o_best p2 k (by rw [tb2]; exact t1)
  have hx : fX_best f w = some (bs_w (bs_of (w 60 0) f (w 60 0 3)) (bs_B (bs_of (w 60 0) f (w 60 0 3))), pj_set v2 10 0 15 0) := by
    unfold fX_best
    rw [if_pos hb, xq_finderAt RB I, Option.bind_some, if_pos hf, if_neg (by omega), e1, Option.bind_some, e2, Option.bind_some, e3]; rfl
  have xo : ∀ kk i s, ¬ (kk = 17 ∧ i = 0 ∧ 6 ≤ s ∧ s ≤ 10) → kk ≠ 36 → kk ≠ 37 → kk ≠ 38 → kk ≠ 39 → kk ≠ 40 → kk ≠ 41 → ¬ (kk = 10 ∧ i = 0 ∧ s = 15) → pj_set v2 10 0 15 0 kk i s = w kk i s := fun kk i s a1 a2 a3 a4 a5 a6 a7 a8 => by
    rw [pj_sne (by omega), o2 kk i s a6 a7 (by omega)]
    exact o1 kk i s (by omega) a2 a3 a4 a5
  have x60 : pj_set v2 10 0 15 0 60 0 = w 60 0 := funext fun s => xo 60 0 s (by omega) (by decide) (by decide) (by decide) (by decide) (by decide) (by decide) (by omega)
  obtain ⟨u1, g1, g29, g70, go⟩ := m_rounds (w := pj_set v2 10 0 15 0) (T := w 60 0 3) x60 I hf (by omega) (by omega)
  have hBl := bs_B_len k
  have hBn : bs_n (bs_of (w 60 0) f (w 60 0 3)) ≤ 8 := k.1
  obtain ⟨u2, q1, q30, q2, q71, qo⟩ := m_told (x2 := bs_w (bs_of (w 60 0) f (w 60 0 3)) (bs_B (bs_of (w 60 0) f (w 60 0 3)))) (u := u1) (by omega) g29
  have hm : fM_best f (pj_set v2 10 0 15 0) = some (bs_w (bs_of (w 60 0) f (w 60 0 3)) (bs_B (bs_of (w 60 0) f (w 60 0 3))), u2) := by
    unfold fM_best
    rw [mq_isFinder, Option.bind_some, x60, if_pos hf, if_neg (by decide), g1, Option.bind_some]
    exact q1
  have mo : ∀ kk i s, kk ≠ 68 → kk ≠ 69 → kk ≠ 70 → kk ≠ 71 → ¬ (kk = 26 ∧ i = 0 ∧ (s = 2 ∨ s = 29 ∨ s = 30)) → u2 kk i s = pj_set v2 10 0 15 0 kk i s := fun kk i s a1 a2 a3 a4 a5 => (qo kk i s a4 (by omega)).trans (go kk i s a1 a2 a3 (by omega))
  have u17 : u2 17 0 6 = ((bs_B (bs_of (w 60 0) f (w 60 0 3))).length : Int) := by rw [mo 17 0 6 (by decide) (by decide) (by decide) (by decide) (by omega), pj_sne (by omega)]; exact r6
  refine ⟨_, _, u2, hx, hm, R.rnd hn (fun kk i s hk => ?_) ?_ ⟨by rw [u17, q30], by omega, by omega, fun j j0 j1 => ?_⟩⟩
  · unfold pj_rk at hk
    rw [mo kk i s (by omega) (by omega) (by omega) (by omega) (by omega), xo kk i s (by omega) (by omega) (by omega) (by omega) (by omega) (by omega) (by omega) (by omega)]
  · rw [mo 10 0 15 (by decide) (by decide) (by decide) (by decide) (by omega), pj_set_at, q2]
  · rw [u17] at j1
    have h1 := r41 j.toNat (by omega)
    have h2 := g70 j.toNat (by omega)
    rw [Int.toNat_of_nonneg j0] at h1 h2
    rw [mo 41 0 j (by decide) (by decide) (by decide) (by decide) (by omega), pj_sne (by omega), h1, q71 j j0 j1, h2]
theorem cc_lateness (R : pj_REL n w) (hn : n ≤ n') (f z : Int) : pj_cB n' w (fX_lateness f z) (fM_lateness f z) := by
  have I := R.2.1.1
  have hA := I.1
  have RB := R.2.1.2.2.1
  have hb := R.hb
  by_cases hc : pj_isF (w 60 0) f ∧ 0 ≤ z ∧ z ≤ 240
  case neg =>
    refine pj_cB.s R hn (a := -1) (y := 1) ?_ ?_
    · unfold fX_lateness fX_lateness_22
      rw [if_pos hb, xq_finderAt RB I, Option.bind_some]
      by_cases c1 : pj_isF (w 60 0) f
      · have := c1.1
        rw [if_pos c1, if_neg (by omega)]
        by_cases c2 : z < 0
        · rw [if_pos c2]; rfl
        · rw [if_neg c2, if_neg (fun x => hc ⟨c1, by omega, x⟩)]; rfl
      · rw [if_neg c1, if_pos (by decide)]; rfl
    · unfold fM_lateness fM_lateness_20
      rw [mq_isFinder, Option.bind_some, mq_isFrom, Option.bind_some, pj_sne (by omega)]
      by_cases c1 : pj_isF (w 60 0) f
      · rw [if_pos c1, if_neg (by decide), if_neg (fun x => hc ⟨c1, x⟩), if_pos rfl]; rfl
      · rw [if_neg c1, if_pos rfl]; rfl
  obtain ⟨hf, z0, z1⟩ := hc
  have f0 := hf.1
  have hF := I.2.2.1 f hf.1 hf.2
  have k1 : bs_ok (bs_of (w 60 0) f (w 60 0 3 + z)) := bs_of_ok I hf (by omega) (by omega)
  have k2 : bs_ok (bs_of (w 60 0) f (w 60 0 3)) := bs_of_ok I hf (by omega) (by omega)
  obtain ⟨v1, e1, p1, t1, o1⟩ := o_prepare RB I hb hf (x3 := z) z0 z1
  have e2 := o_best p1 k1 t1
  have v10 : v1 10 0 10 = w 10 0 10 := o1 10 0 10 (by omega) (by decide) (by decide) (by decide) (by decide)
  have RB1 : pj_RB (w 10 0 10) v1 (w 60 0) := RB.ex I (fun kk i s hk => o1 kk i s (by unfold pj_in at hk; omega) (by unfold pj_in at hk; omega) (by unfold pj_in at hk; omega) (by unfold pj_in at hk; omega) (by unfold pj_in at hk; omega))
  obtain ⟨v2, e3, p2, t2, o2⟩ := o_prepare RB1 I hb hf (x3 := 0) (by omega) (by omega)
  rw [Int.add_zero] at p2 t2
  have e4 := o_best p2 k2 t2
  have hx : fX_lateness f z w = some (pj_wr (bs_w (bs_of (w 60 0) f (w 60 0 3 + z)) (bs_B (bs_of (w 60 0) f (w 60 0 3 + z))) - bs_w (bs_of (w 60 0) f (w 60 0 3)) (bs_B (bs_of (w 60 0) f (w 60 0 3)))), pj_set v2 10 0 15 0) := by
    unfold fX_lateness
    rw [if_pos hb, xq_finderAt RB I, Option.bind_some, if_pos hf, if_neg (by omega), if_neg (by omega), if_pos z1, e1, Option.bind_some, e2, Option.bind_some, v10, e3, Option.bind_some, e4]; rfl
  have xo : ∀ kk i s, ¬ (kk = 17 ∧ i = 0 ∧ 7 ≤ s ∧ s ≤ 10) → kk ≠ 36 → kk ≠ 37 → kk ≠ 38 → kk ≠ 39 → ¬ (kk = 10 ∧ i = 0 ∧ s = 15) → pj_set v2 10 0 15 0 kk i s = w kk i s := fun kk i s a1 a2 a3 a4 a5 a8 => by
    rw [pj_sne (by omega), o2 kk i s a1 a2 a3 a4 a5]
    exact o1 kk i s a1 a2 a3 a4 a5
  have x60 : pj_set v2 10 0 15 0 60 0 = w 60 0 := funext fun s => xo 60 0 s (by omega) (by decide) (by decide) (by decide) (by decide) (by omega)
  obtain ⟨u1, g1, _, _, go⟩ := m_rounds (w := pj_set v2 10 0 15 0) (T := w 60 0 3 + z) x60 I hf (by omega) (by omega)
  have u60 : u1 60 0 = w 60 0 := by rw [← x60]; exact funext fun s => go 60 0 s (by decide) (by decide) (by decide) (by omega)
  obtain ⟨u2, g2, _, _, go2⟩ := m_rounds (w := u1) (T := w 60 0 3) u60 I hf (by omega) (by omega)
  have hm : fM_lateness f z (pj_set v2 10 0 15 0) = some (pj_wr (bs_w (bs_of (w 60 0) f (w 60 0 3 + z)) (bs_B (bs_of (w 60 0) f (w 60 0 3 + z))) - bs_w (bs_of (w 60 0) f (w 60 0 3)) (bs_B (bs_of (w 60 0) f (w 60 0 3)))), pj_set u2 26 0 2 0) := by
    unfold fM_lateness
    rw [mq_isFinder, Option.bind_some, mq_isFrom, Option.bind_some, x60, if_pos hf, if_neg (by decide), if_pos (show 0 ≤ z ∧ z ≤ 240 from ⟨z0, z1⟩), if_neg (by decide), pj_wr_id (x := w 60 0 3 + z) (by omega) (by omega), g1, Option.bind_some]
    dsimp only
    rw [u60, g2]; rfl
  have mo : ∀ kk i s, kk ≠ 68 → kk ≠ 69 → kk ≠ 70 → ¬ (kk = 26 ∧ i = 0 ∧ (s = 2 ∨ s = 29)) → pj_set u2 26 0 2 0 kk i s = pj_set v2 10 0 15 0 kk i s := fun kk i s a1 a2 a3 a5 => (pj_sne (by omega)).trans ((go2 kk i s a1 a2 a3 (by omega)).trans (go kk i s a1 a2 a3 (by omega)))
  refine ⟨_, _, _, hx, hm, R.rnd hn (fun kk i s hk => ?_) ?_ (R.2.2.2.2.2.2.1.ex ?_ ?_ (fun s => ?_) (fun s => ?_))⟩
  · unfold pj_rk at hk
    rw [mo kk i s (by omega) (by omega) (by omega) (by omega), xo kk i s (by omega) (by omega) (by omega) (by omega) (by omega) (by omega)]
  · rw [mo 10 0 15 (by decide) (by decide) (by decide) (by omega), pj_set_at, pj_set_at]
  · rw [mo 17 0 6 (by decide) (by decide) (by decide) (by omega), xo 17 0 6 (by omega) (by decide) (by decide) (by decide) (by decide) (by omega)]
  · rw [mo 26 0 30 (by decide) (by decide) (by decide) (by omega), xo 26 0 30 (by omega) (by decide) (by decide) (by decide) (by decide) (by omega)]
  · rw [mo 41 0 s (by decide) (by decide) (by decide) (by omega), xo 41 0 s (by omega) (by decide) (by decide) (by decide) (by decide) (by omega)]
  · rw [mo 71 0 s (by decide) (by decide) (by decide) (by omega), xo 71 0 s (by omega) (by decide) (by decide) (by decide) (by decide) (by omega)]
end
