/-! TO GO AND TO WAIT, in the class -/
section
variable {b : Int} {w : pj_W} {A : pj_Q}
theorem pj_dB.no (R : pj_RB b w A) (y : Int) (hy : y ≠ 0) : pj_dB b w w (y, 0, A) := ⟨R, pj_fr.refl b w, fun x => absurd x hy⟩
theorem xc_spend (R : pj_RB b w A) (I : pj_IV A) (hb : 0 ≤ b) {f m : Int} (hf : pj_isF A f) (hm : 0 ≤ m) (hm2 : m ≤ 100000) :
    ∃ w', fB_spend b (6 * b + f) m w = some (if A (10 + 5 * f + 3) + m ≤ A 3 then 0 else 7, w') ∧ pj_dB b w w' (if A (10 + 5 * f + 3) + m ≤ A 3 then (0, A (10 + 5 * f + 3) + m, q_spent A f m) else (7, 0, A)) := by
  have hA := I.1
  have hF := I.2.2.1 f hf.1 hf.2
  have h3 : w 19 b 3 = A 3 := R.1.2.1
  have hRF := R.2.1 f hf
  have := hf.1
  have := hf.2
  unfold fB_spend fB_done
  rw [if_pos (by omega), h3, hRF.2.2.2.1, pj_wr_id (x := A 3 - A (10 + 5 * f + 3)) (by omega) (by omega), pj_wr_id (x := A (10 + 5 * f + 3) + m) (by omega) (by omega)]
  by_cases c : A (10 + 5 * f + 3) + m ≤ A 3
  · rw [if_pos (by omega), if_pos c, if_pos c]
    refine ⟨pj_set (pj_set w 22 (6 * b + f) 4 (A (10 + 5 * f + 3) + m)) 19 b 9 (pj_set w 22 (6 * b + f) 4 (A (10 + 5 * f + 3) + m) 22 (6 * b + f) 4), rfl, ?_, ?_, fun _ => ?_⟩
    · refine pj_RB.fin (w' := pj_set (pj_set w 22 (6 * b + f) 4 (A (10 + 5 * f + 3) + m)) 19 b 9 (pj_set w 22 (6 * b + f) 4 (A (10 + 5 * f + 3) + m) 22 (6 * b + f) 4)) (A' := q_spent A f m) R hf (by omega) (fun x hx => q_up_ne _ _ (by omega)) (fun k i s hk h1 h2 => ?_) ?_
      · unfold pj_set
        rw [if_neg (by omega), if_neg (by omega)]
      · have hne : ∀ x, x ≠ 10 + 5 * f + 3 → q_spent A f m x = A x := fun x hx => q_up_ne _ _ hx
        rw [hne _ (by omega), hne _ (by omega), hne _ (by omega), hne (10 + 5 * f + 4) (by omega), q_spent, q_up_at]
        unfold pj_set
        simp only [show (22 : Nat) ≠ 19 by decide, false_and, if_false, true_and, show (1 : Int) ≠ 4 by decide, show (2 : Int) ≠ 4 by decide, show (3 : Int) ≠ 4 by decide, show (5 : Int) ≠ 4 by decide, and_false, if_true]
        exact ⟨hRF.1, hRF.2.1, hRF.2.2.1, hRF.2.2.2.2⟩
    · exact ((pj_fr.refl b w).set _ _ (Or.inr (Or.inl ⟨rfl, by omega, by omega⟩))).set _ _ (Or.inl ⟨rfl, rfl⟩)
    · exact pj_set_at.trans pj_set_at
  · rw [if_neg (by omega), if_neg c, if_neg c]
    exact ⟨w, rfl, pj_dB.no R 7 (by decide)⟩
theorem xc_waitFor (R : pj_RB b w A) (I : pj_IV A) (hb : 0 ≤ b) (f m : Int) : ∃ w', fB_waitFor b f m w = some ((q_pass A f m).1, w') ∧ pj_dB b w w' (q_pass A f m) := by
  unfold fB_waitFor q_pass
  rw [xq_finderAt R I, Option.bind_some]
  by_cases h : pj_isF A f
  · have := h.1
    rw [if_pos h, if_neg (by omega)]
    by_cases h1 : m < 1
    · rw [if_pos h1, if_neg (by omega)]
      exact ⟨w, rfl, pj_dB.no R 1 (by decide)⟩
    · rw [if_neg h1]
      by_cases h2 : m ≤ 240
      · rw [if_pos h2, if_pos ⟨h, by omega, h2⟩]
        obtain ⟨w', e, d⟩ := xc_spend R I hb h (m := m) (by omega) (by omega)
        rw [e]
        refine ⟨w', ?_, d⟩
        by_cases c : A (10 + 5 * f + 3) + m ≤ A 3
        · rw [if_pos c, if_pos c]; rfl
        · rw [if_neg c, if_neg c]; rfl
      · rw [if_neg h2, if_neg (by omega)]
        exact ⟨w, rfl, pj_dB.no R 1 (by decide)⟩
  · rw [if_neg h, if_pos (by omega), if_neg (fun x => h x.1)]
    exact ⟨w, rfl, pj_dB.no R 1 (by decide)⟩
theorem xc_walkTo (R : pj_RB b w A) (I : pj_IV A) (hb : 0 ≤ b) (f c : Int) : ∃ w', fB_walkTo b f c w = some ((q_go A f c).1, w') ∧ pj_dB b w w' (q_go A f c) := by
  have hA := I.1
  have h2' : w 19 b 2 = A 0 := R.1.1
  unfold fB_walkTo q_go
  rw [xq_finderAt R I, Option.bind_some]
  by_cases h : pj_isF A f
  · have := h.1
    have := h.2
    rw [if_pos h, if_neg (by omega)]
    by_cases h1 : c < 0
    · rw [if_pos h1, if_neg (by omega)]
      exact ⟨w, rfl, pj_dB.no R 1 (by decide)⟩
    · rw [if_neg h1, h2']
      by_cases h2 : c < A 0
      · have hW := pj_walk_in I h.1 h.2 (c := c) (by omega) (by omega)
        rw [if_pos h2, if_pos ⟨h, by omega, h2⟩, xq_minutesTo R I h (by omega) (by omega), Option.bind_some]
        obtain ⟨w', e, d⟩ := xc_spend R I hb h (m := pj_walk A f c) (by omega) (by omega)
        rw [e, Option.bind_some]
        by_cases c1 : A (10 + 5 * f + 3) + pj_walk A f c ≤ A 3
        · rw [if_pos c1] at d
          rw [if_pos c1, if_pos c1]
          dsimp only
          rw [if_pos rfl]
          have dR : pj_RB b w' (q_spent A f (pj_walk A f c)) := d.1
          refine ⟨pj_set w' 22 (6 * b + f) 1 c, rfl, ?_, ?_, fun _ => ?_⟩
          · have h1' : q_spent A f (pj_walk A f c) 1 = A 1 := q_up_ne _ _ (by omega)
            have hRF := dR.2.1 f (by rw [pj_isF, h1']; exact h)
            refine pj_RB.fin (w' := pj_set w' 22 (6 * b + f) 1 c) (A' := q_went A f c) dR (f := f) (by rw [pj_isF, h1']; exact h) (by rw [h1']; omega) (fun x hx => q_up_ne _ _ (by omega)) (fun k i s hk h1 h2 => ?_) ?_
            · unfold pj_set
              rw [if_neg (by omega)]
            · have hne : ∀ x, x ≠ 10 + 5 * f → q_went A f c x = q_spent A f (pj_walk A f c) x := fun x hx => q_up_ne _ _ hx
              rw [show q_went A f c (10 + 5 * f) = c from q_up_at _ _ _, hne (10 + 5 * f + 1) (by omega), hne (10 + 5 * f + 2) (by omega), hne (10 + 5 * f + 3) (by omega), hne (10 + 5 * f + 4) (by omega)]
              unfold pj_set
              simp only [true_and, show (2 : Int) ≠ 1 by decide, show (3 : Int) ≠ 1 by decide, show (4 : Int) ≠ 1 by decide, show (5 : Int) ≠ 1 by decide, and_false, if_false, if_true]
              exact ⟨hRF.2.1, hRF.2.2.1, hRF.2.2.2.1, hRF.2.2.2.2⟩
          · exact d.2.1.set _ _ (Or.inr (Or.inl ⟨rfl, by omega, by omega⟩))
          · exact (if_neg (by rintro ⟨x, _⟩; exact absurd x (by decide))).trans (d.2.2 rfl)
        · rw [if_neg c1] at d
          rw [if_neg c1, if_neg c1]
          exact ⟨w', rfl, d⟩
      · rw [if_neg h2, if_neg (by omega)]
        exact ⟨w, rfl, pj_dB.no R 1 (by decide)⟩
  · rw [if_neg h, if_pos (by omega), if_neg (fun x => h x.1)]
    exact ⟨w, rfl, pj_dB.no R 1 (by decide)⟩
end
/-- what the class answers to a deed -/
theorem xs_settle {w w' : pj_W} {r : pj_R} (hb : 0 ≤ w 10 0 10) (d : pj_dB (w 10 0 10) w w' r) : fX_settle r.1 w' = some (if r.1 = 0 then r.2.1 else -1, pj_set w' 10 0 15 r.1) := by
  have h : w' 10 0 10 = w 10 0 10 := d.2.1 10 0 10 (by unfold pj_in; omega)
  unfold fX_settle
  by_cases c : r.1 = 0
  · rw [if_pos c, h, if_pos hb, d.2.2 c, if_pos c, c]; rfl
  · rw [if_neg c, if_neg c]; rfl
abbrev pj_xD (w : pj_W) (t : Option (Int × pj_W)) (r : pj_R) : Prop := ∃ w', t = some (if r.1 = 0 then r.2.1 else -1, pj_set w' 10 0 15 r.1) ∧ pj_dB (w 10 0 10) w w' r
theorem xs_go {w : pj_W} {A : pj_Q} (R : pj_RB (w 10 0 10) w A) (I : pj_IV A) (hb : 0 ≤ w 10 0 10) (f c : Int) : pj_xD w (fX_go f c w) (q_go A f c) := by
  obtain ⟨w', e, d⟩ := xc_walkTo R I hb f c
  unfold fX_go
  rw [if_pos hb, e, Option.bind_some]
  dsimp only
  rw [xs_settle hb d]
  exact ⟨w', rfl, d⟩
theorem xs_pass {w : pj_W} {A : pj_Q} (R : pj_RB (w 10 0 10) w A) (I : pj_IV A) (hb : 0 ≤ w 10 0 10) (f m : Int) : pj_xD w (fX_pass f m w) (q_pass A f m) := by
  obtain ⟨w', e, d⟩ := xc_waitFor R I hb f m
  unfold fX_pass
  rw [if_pos hb, e, Option.bind_some]
  dsimp only
  rw [xs_settle hb d]
  exact ⟨w', rfl, d⟩
