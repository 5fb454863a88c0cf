/-! TO GO AND TO WAIT -/
/-- why, what is told, the numbers behind -/
abbrev pj_R : Type := Int × Int × pj_Q
def q_spent (A : pj_Q) (f m : Int) : pj_Q := q_up A (10 + 5 * f + 3) (A (10 + 5 * f + 3) + m)
def q_went (A : pj_Q) (f c : Int) : pj_Q := q_up (q_spent A f (pj_walk A f c)) (10 + 5 * f) c
def q_go (A : pj_Q) (f c : Int) : pj_R := if pj_isF A f ∧ 0 ≤ c ∧ c < A 0 then (if A (10 + 5 * f + 3) + pj_walk A f c ≤ A 3 then (0, A (10 + 5 * f + 3) + pj_walk A f c, q_went A f c) else (7, 0, A)) else (1, 0, A)
def q_pass (A : pj_Q) (f m : Int) : pj_R := if pj_isF A f ∧ 1 ≤ m ∧ m ≤ 240 then (if A (10 + 5 * f + 3) + m ≤ A 3 then (0, A (10 + 5 * f + 3) + m, q_spent A f m) else (7, 0, A)) else (1, 0, A)
abbrev pj_dB (b : Int) (w w' : pj_W) (r : pj_R) : Prop := pj_RB b w' r.2.2 ∧ pj_fr b w w' ∧ (r.1 = 0 → w' 19 b 9 = r.2.1)
abbrev pj_aP (r : pj_R) (w : pj_W) : Option (Int × pj_W) := some (if r.1 = 0 then r.2.1 else -1, pj_set (pj_put w r.2.2) 26 0 2 r.1)
theorem q_spent_IV {A : pj_Q} (I : pj_IV A) {f m : Int} (hf : pj_isF A f) (hm : 0 ≤ m) (h : A (10 + 5 * f + 3) + m ≤ A 3) : pj_IV (q_spent A f m) := by
  have hF := I.2.2.1 f hf.1 hf.2
  have hne : ∀ x, x ≠ 10 + 5 * f + 3 → q_spent A f m x = A x := fun x hx => q_up_ne _ _ hx
  have hS := I.2.2.2.2.2.2.2
  refine I.fin hf (fun x hx => hne x (by omega)) ?_ ?_ ?_ ?_
  · rw [hne _ (by omega)]; omega
  · rw [hne _ (by omega)]
  · rw [hne _ (by omega)]; omega
  · rw [q_spent, q_up_at]; omega
theorem q_went_IV {A : pj_Q} (I : pj_IV A) {f c : Int} (hf : pj_isF A f) (hc : 0 ≤ c) (hc2 : c < A 0) (h : A (10 + 5 * f + 3) + pj_walk A f c ≤ A 3) : pj_IV (q_went A f c) := by
  have hA := I.1
  have hW := pj_walk_in I hf.1 hf.2 (c := c) hc (by omega)
  have I2 := q_spent_IV I hf hW.1 h
  have hF := I2.2.2.1 f hf.1 (by rw [q_spent, q_up_ne _ _ (by have := hf.1; omega)]; exact hf.2)
  have hne : ∀ x, x ≠ 10 + 5 * f → q_went A f c x = q_spent A f (pj_walk A f c) x := fun x hx => q_up_ne _ _ hx
  have hS := I2.2.2.2.2.2.2.2
  have h0 : q_spent A f (pj_walk A f c) 0 = A 0 := q_up_ne _ _ (by have := hf.1; omega)
  refine I2.fin (f := f) ⟨hf.1, by rw [q_spent, q_up_ne _ _ (by have := hf.1; omega)]; exact hf.2⟩ (fun x hx => hne x (by omega)) ?_ ?_ ?_ ?_
  · rw [q_went, q_up_at, h0]; exact ⟨hc, hc2⟩
  · rw [hne _ (by omega)]
  · rw [hne _ (by omega)]; omega
  · rw [hne _ (by omega)]; omega
theorem q_go_IV {A : pj_Q} (I : pj_IV A) (f c : Int) : pj_IV (q_go A f c).2.2 := by
  unfold q_go
  split
  · rename_i h
    split
    · exact q_went_IV I h.1 h.2.1 h.2.2 (by assumption)
    · exact I
  · exact I
theorem q_pass_IV {A : pj_Q} (I : pj_IV A) (f c : Int) : pj_IV (q_pass A f c).2.2 := by
  unfold q_pass
  split
  · rename_i h
    split
    · exact q_spent_IV I h.1 (by omega) (by assumption)
    · exact I
  · exact I
theorem mq_mayTo {f m : Int} {w : pj_W} (I : pj_IV (w 60 0)) (hf : pj_isF (w 60 0) f) (hm : 0 ≤ m) (hm2 : m ≤ 100000) : fM_mayTo f m w = some (if w 60 0 (10 + 5 * f + 3) + m ≤ w 60 0 3 then 1 else 0) := by
  have hA := I.1
  have hF := I.2.2.1 f hf.1 hf.2
  have := hf.1
  have := hf.2
  unfold fM_mayTo
  rw [mq_finderRow (by omega) (by omega), Option.bind_some, pj_wr_id (x := 10 + 5 * f + 3) (by omega) (by omega), if_pos (by omega), pj_wr_id (by omega) (by omega)]
  by_cases c : w 60 0 (10 + 5 * f + 3) + m ≤ w 60 0 3
  · rw [if_pos c, if_neg (by omega)]
  · rw [if_neg c, if_pos (by omega)]
theorem mc_waited {f m : Int} {w : pj_W} (I : pj_IV (w 60 0)) (hf : pj_isF (w 60 0) f) (hm : 0 ≤ m) (hm2 : m ≤ 100000) : fM_waited f m w = some (if w 60 0 (10 + 5 * f + 3) + m ≤ w 60 0 3 then (1, pj_put w (q_spent (w 60 0) f m)) else (0, w)) := by
  have hA := I.1
  have hF := I.2.2.1 f hf.1 hf.2
  have := hf.1
  have := hf.2
  unfold fM_waited
  rw [mq_mayTo I hf hm hm2, Option.bind_some]
  by_cases c : w 60 0 (10 + 5 * f + 3) + m ≤ w 60 0 3
  · rw [if_pos c, if_neg (by omega), mq_finderRow (by omega) (by omega), Option.bind_some, pj_wr_id (x := 10 + 5 * f + 3) (by omega) (by omega), if_pos (by omega), if_pos c, pj_put_of, pj_wr_id (by omega) (by omega)]; rfl
  · rw [if_neg c, if_pos rfl, if_neg c]
theorem mc_went {f c : Int} {w : pj_W} (I : pj_IV (w 60 0)) (hf : pj_isF (w 60 0) f) (hc : 0 ≤ c) (hc2 : c < w 60 0 0) : fM_went f c w = some (if w 60 0 (10 + 5 * f + 3) + pj_walk (w 60 0) f c ≤ w 60 0 3 then (1, pj_put w (q_went (w 60 0) f c)) else (0, w)) := by
  have hA := I.1
  have hF := I.2.2.1 f hf.1 hf.2
  have hW := pj_walk_in I hf.1 hf.2 (c := c) hc (by omega)
  have := hf.1
  have := hf.2
  unfold fM_went
  rw [mq_stepsTo I hf.1 hf.2 hc (by omega), Option.bind_some, mq_mayTo I hf hW.1 (by omega), Option.bind_some]
  by_cases c1 : w 60 0 (10 + 5 * f + 3) + pj_walk (w 60 0) f c ≤ w 60 0 3
  · rw [if_pos c1, if_neg (by omega), mq_finderRow (by omega) (by omega), Option.bind_some, pj_wr_id (x := 10 + 5 * f + 3) (by omega) (by omega), if_pos (by omega), Option.bind_some, mq_finderRow (by omega) (by omega), Option.bind_some, if_pos (by omega), if_pos c1, pj_put_of w (10 + 5 * f + 3), pj_put_set, pj_wr_id (by omega) (by omega)]; rfl
  · rw [if_neg c1, if_pos rfl, if_neg c1]
theorem q_went_clock {A : pj_Q} {f c : Int} : q_went A f c (10 + 5 * f + 3) = A (10 + 5 * f + 3) + pj_walk A f c := by
  unfold q_went q_spent
  rw [q_up_ne _ _ (by omega), q_up_at]
theorem mt_go (f c : Int) {w : pj_W} (I : pj_IV (w 60 0)) : fM_go f c w = pj_aP (q_go (w 60 0) f c) w := by
  have hA := I.1
  unfold fM_go fM_go_26 q_go
  rw [mq_isFinder, Option.bind_some, mq_isFrom, Option.bind_some, pj_wl_id (by omega) (by omega)]
  by_cases h : pj_isF (w 60 0) f
  · rw [if_pos h, if_neg (by omega)]
    by_cases h2 : 0 ≤ c ∧ c ≤ w 60 0 0 - 1
    · have := h.1
      have := h.2
      rw [if_pos h2, if_neg (by omega), if_pos (show pj_isF (w 60 0) f ∧ 0 ≤ c ∧ c < w 60 0 0 from ⟨h, by omega, by omega⟩), mc_went I h h2.1 (by omega), Option.bind_some]
      by_cases c1 : w 60 0 (10 + 5 * f + 3) + pj_walk (w 60 0) f c ≤ w 60 0 3
      · rw [if_pos c1, if_pos c1]
        dsimp only
        rw [if_neg (by omega), mq_finderRow (by omega) (by omega), Option.bind_some, pj_wr_id (x := 10 + 5 * f + 3) (by omega) (by omega), if_pos (by omega), pj_put_at, q_went_clock]
        rfl
      · rw [if_neg c1, if_neg c1]
        dsimp only
        rw [if_pos rfl]
        show some (-1, pj_set w 26 0 2 7) = some (-1, pj_set (pj_put w (w 60 0)) 26 0 2 7)
        rw [pj_put_self]
    · rw [if_neg h2, if_pos rfl, if_neg (fun x => h2 ⟨x.2.1, by omega⟩)]
      show some (-1, pj_set w 26 0 2 1) = some (-1, pj_set (pj_put w (w 60 0)) 26 0 2 1)
      rw [pj_put_self]
  · rw [if_neg h, if_pos rfl, if_neg (fun x => h x.1)]
    show some (-1, pj_set w 26 0 2 1) = some (-1, pj_set (pj_put w (w 60 0)) 26 0 2 1)
    rw [pj_put_self]
theorem mt_pass (f m : Int) {w : pj_W} (I : pj_IV (w 60 0)) : fM_pass f m w = pj_aP (q_pass (w 60 0) f m) w := by
  have hA := I.1
  unfold fM_pass fM_pass_20 q_pass
  rw [mq_isFinder, Option.bind_some, mq_isFrom, Option.bind_some]
  by_cases h : pj_isF (w 60 0) f
  · rw [if_pos h, if_neg (by omega)]
    by_cases h2 : 1 ≤ m ∧ m ≤ 240
    · have := h.1
      have := h.2
      rw [if_pos h2, if_neg (by omega), if_pos ⟨h, h2⟩, mc_waited I h (by omega) (by omega), Option.bind_some]
      by_cases c1 : w 60 0 (10 + 5 * f + 3) + m ≤ w 60 0 3
      · rw [if_pos c1, if_pos c1]
        dsimp only
        rw [if_neg (by omega), mq_finderRow (by omega) (by omega), Option.bind_some, pj_wr_id (x := 10 + 5 * f + 3) (by omega) (by omega), if_pos (by omega), pj_put_at, q_spent, q_up_at]
        rfl
      · rw [if_neg c1, if_neg c1]
        dsimp only
        rw [if_pos rfl]
        show some (-1, pj_set w 26 0 2 7) = some (-1, pj_set (pj_put w (w 60 0)) 26 0 2 7)
        rw [pj_put_self]
    · rw [if_neg h2, if_pos rfl, if_neg (fun x => h2 x.2)]
      show some (-1, pj_set w 26 0 2 1) = some (-1, pj_set (pj_put w (w 60 0)) 26 0 2 1)
      rw [pj_put_self]
  · rw [if_neg h, if_pos rfl, if_neg (fun x => h x.1)]
    show some (-1, pj_set w 26 0 2 1) = some (-1, pj_set (pj_put w (w 60 0)) 26 0 2 1)
    rw [pj_put_self]
