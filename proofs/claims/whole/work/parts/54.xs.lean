/-! THE REST OF THE CLASS'S ANSWERS OVER A BEACH -/
section
variable {w : pj_W} {A : pj_Q}
theorem xs_walk (R : pj_RB (w 10 0 10) w A) (I : pj_IV A) (hb : 0 ≤ w 10 0 10) (f d : Int) : fX_walk f d w = pj_aX (qs_onFD A f d (pj_walk A f (A (40 + 3 * d)), 0)) w := by
  have hA := I.1
  unfold fX_walk fX_walk_28 qs_onFD
  rw [if_pos hb, xq_finderAt R I, Option.bind_some, xq_findAt R I, Option.bind_some]
  by_cases c : pj_isF A f
  · rw [if_pos c, if_neg (by have := c.1; omega)]
    by_cases c1 : pj_isD A d
    · have hD := I.2.2.2.1 d c1.1 c1.2
      rw [if_pos c1, if_neg (by have := c1.1; omega), if_pos ⟨c, c1⟩, (R.2.2.1 d c1).1, xq_minutesTo R I c (by omega) (by omega)]; rfl
    · rw [if_neg c1, if_pos (by omega), if_neg (fun x => c1 x.2)]; rfl
  · rw [if_neg c, if_pos (by omega), if_neg (fun x => c x.1)]; rfl
theorem xs_open (R : pj_RB (w 10 0 10) w A) (I : pj_IV A) (hb : 0 ≤ w 10 0 10) : fX_open w = pj_aX (pj_open A, 0) w := by
  have hA := I.1
  have h8 : w 19 (w 10 0 10) 8 = A 2 := R.1.2.2.2.2.2.2
  have hg : ∀ n : Nat, n ≤ (A 2).toNat → 0 ≤ pj_sum (fun d => if pj_there A d ∧ pj_own A d = 0 then A (40 + 3 * d + 1) else 0) n ∧ pj_sum (fun d => if pj_there A d ∧ pj_own A d = 0 then A (40 + 3 * d + 1) else 0) n ≤ 999 * n := fun n hn => pj_sum_in (fun i hi => by have := I.2.2.2.1 i (by omega) (by omega); split <;> omega)
  unfold fX_open pj_open
  refine pj_Lp_fo (fun i => (pj_sum (fun d => if pj_there A d ∧ pj_own A d = 0 then A (40 + 3 * d + 1) else 0) i, (i : Int))) (A 2).toNat (fun i hi => ?_) ?_
  · show fX_open_4b w _ i = some (Sum.inl (pj_sum (fun d => if pj_there A d ∧ pj_own A d = 0 then A (40 + 3 * d + 1) else 0) i + (if pj_there A i ∧ pj_own A i = 0 then A (40 + 3 * i + 1) else 0), _))
    have hi' : pj_isD A (i : Int) := ⟨by omega, by omega⟩
    have h1 := hg i (by omega)
    have hD := I.2.2.2.1 i hi'.1 hi'.2
    generalize pj_sum _ i = a at h1 ⊢
    unfold fX_open_4b fX_open_50
    rw [if_pos hb, h8, if_neg (by omega), if_pos (by omega), pj_wri (by omega)]
    by_cases c1 : pj_there A i
    · rw [if_neg (by rw [R.th hi']; exact fun x => x c1), xq_heirs R I hb hi', Option.bind_some]
      by_cases c2 : pj_own A i = 0
      · rw [if_pos c2, if_pos ⟨c1, c2⟩, (R.2.2.1 i hi').2.1, pj_wr_id (by omega) (by omega)]; rfl
      · rw [if_neg c2, if_neg (fun x => c2 x.2), Int.add_zero]; rfl
    · rw [if_pos ((R.th hi').mpr c1), if_neg (fun x => c1 x.1), Int.add_zero]; rfl
  · show fX_open_4b w _ _ = _
    unfold fX_open_4b
    rw [if_pos hb, h8, if_pos (by omega)]; rfl
theorem xs_far (R : pj_RB (w 10 0 10) w A) (I : pj_IV A) (hb : 0 ≤ w 10 0 10) (f : Int) : fX_farthest f w = pj_aX (if pj_isF A f then qs_or (pj_far A f (A 2).toNat).1 else (-1, 1)) w := by
  have hA := I.1
  have h8 : w 19 (w 10 0 10) 8 = A 2 := R.1.2.2.2.2.2.2
  unfold fX_farthest
  rw [if_pos hb, xq_finderAt R I, Option.bind_some]
  by_cases c : pj_isF A f
  · rw [if_pos c, if_pos c, if_neg (by have := c.1; omega)]
    unfold fX_farthest_27
    refine pj_Lp_fo (fun i => ((pj_far A f i).1, (pj_far A f i).2, (i : Int))) (A 2).toNat (fun i hi => ?_) ?_
    · show fX_farthest_27b (6 * w 10 0 10 + f) w (pj_far A f i).1 (pj_far A f i).2 i = some (Sum.inl ((pj_far A f (i + 1)).1, (pj_far A f (i + 1)).2, _))
      have hi' : pj_isD A (i : Int) := ⟨by omega, by omega⟩
      have hD := I.2.2.2.1 i hi'.1 hi'.2
      have hs : pj_far A f (i + 1) = if pj_there A i ∧ (pj_far A f i).2 < pj_walk A f (A (40 + 3 * i)) then ((i : Int), pj_walk A f (A (40 + 3 * i))) else pj_far A f i := rfl
      rw [hs]
      unfold fX_farthest_27b fX_farthest_87
      rw [if_pos hb, h8, if_neg (by omega), if_pos (by omega), pj_wri (by omega), (R.2.2.1 i hi').1, xq_minutesTo R I c (by omega) (by omega)]
      by_cases c1 : pj_there A i
      · rw [if_neg (by rw [R.th hi']; exact fun x => x c1), Option.bind_some]
        by_cases c2 : pj_walk A f (A (40 + 3 * (i : Int))) ≤ (pj_far A f i).2
        · rw [if_pos c2, if_neg (by omega)]; rfl
        · rw [if_neg c2, Option.bind_some, if_pos (by exact ⟨c1, by omega⟩)]; rfl
      · rw [if_pos ((R.th hi').mpr c1), if_neg (fun x => c1 x.1)]; rfl
    · show fX_farthest_27b (6 * w 10 0 10 + f) w (pj_far A f (A 2).toNat).1 (pj_far A f (A 2).toNat).2 (((A 2).toNat : Nat) : Int) = _
      unfold fX_farthest_27b qs_or
      rw [if_pos hb, h8, if_pos (by omega)]
      by_cases c : (pj_far A f (A 2).toNat).1 = -1
      · rw [if_pos c, if_pos c]; rfl
      · rw [if_neg c, if_neg c]; rfl
  · rw [if_neg c, if_neg c, if_pos (by omega)]; rfl
theorem xs_time (R : pj_RB (w 10 0 10) w A) (I : pj_IV A) (hb : 0 ≤ w 10 0 10) (f : Int) : fX_time f w = pj_aX (qs_onF A f (A 3 - A (10 + 5 * f + 3))) w := by
  have hA := I.1
  have h3 : w 19 (w 10 0 10) 3 = A 3 := R.1.2.1
  unfold fX_time qs_onF
  rw [if_pos hb, xq_finderAt R I, Option.bind_some]
  by_cases c : pj_isF A f
  · have hF := I.2.2.1 f c.1 c.2
    rw [if_pos c, if_pos c, if_neg (by have := c.1; omega), h3, (R.2.1 f c).2.2.2.1, pj_wr_id (by omega) (by omega)]; rfl
  · rw [if_neg c, if_neg c, if_pos (by omega)]; rfl
theorem xs_tally (R : pj_RB (w 10 0 10) w A) (I : pj_IV A) (hb : 0 ≤ w 10 0 10) (d f : Int) : fX_tally d f w = pj_aX (qs_onFD A f d (pj_tal A f d, 0)) w := by
  unfold fX_tally fX_tally_24 qs_onFD
  rw [if_pos hb, xq_findAt R I, Option.bind_some, xq_finderAt R I]
  by_cases c : pj_isD A d
  · rw [if_pos c, if_neg (by have := c.1; omega), Option.bind_some]
    by_cases c1 : pj_isF A f
    · rw [if_pos c1, if_neg (by have := c1.1; omega), if_pos ⟨c1, c⟩, xq_tallyOf R I f c]; rfl
    · rw [if_neg c1, if_pos (by omega), if_neg (fun x => c1 x.1)]; rfl
  · rw [if_neg c, if_pos (by omega), if_neg (fun x => c x.2)]; rfl
theorem pj_strewn_in (I : pj_IV A) (f : Int) : 0 ≤ pj_strewn A f := (pj_sum_in' I f (Nat.le_refl _)).1
theorem xs_busy (R : pj_RB (w 10 0 10) w A) (I : pj_IV A) (hb : 0 ≤ w 10 0 10) : fX_busiest w = pj_aX (qs_or (pj_busy A (A 1).toNat)) w := by
  have hA := I.1
  have h7 : w 19 (w 10 0 10) 7 = A 1 := R.1.2.2.2.2.2.1
  unfold fX_busiest
  refine pj_Lp_fo (fun i => (pj_busy A i, (if pj_busy A i = -1 then -1 else pj_strewn A (pj_busy A i)), (i : Int))) (A 1).toNat (fun i hi => ?_) ?_
  · show fX_busiest_6b w (pj_busy A i) (if pj_busy A i = -1 then -1 else pj_strewn A (pj_busy A i)) i = some (Sum.inl (pj_busy A (i + 1), (if pj_busy A (i + 1) = -1 then -1 else pj_strewn A (pj_busy A (i + 1))), _))
    have hr := pj_busy_in (A := A) i
    have hs : pj_busy A (i + 1) = if pj_busy A i = -1 ∨ pj_strewn A (pj_busy A i) < pj_strewn A i then (i : Int) else pj_busy A i := rfl
    have hst := pj_strewn_in I (i : Int)
    rw [hs]
    generalize pj_busy A i = a at hr ⊢
    unfold fX_busiest_6b fX_busiest_38
    rw [if_pos hb, h7, if_neg (by omega), xq_strewnBy R I, Option.bind_some, pj_wri (by omega)]
    by_cases c2 : a = -1
    · subst c2
      rw [if_pos rfl, if_neg (by omega), if_pos (by exact Or.inl rfl), if_neg (by omega)]; rfl
    · rw [if_neg c2]
      by_cases c3 : pj_strewn A i ≤ pj_strewn A a
      · rw [if_pos c3, if_neg (show ¬ (a = -1 ∨ pj_strewn A a < pj_strewn A i) by omega), if_neg c2]; rfl
      · rw [if_neg c3, if_pos (show a = -1 ∨ pj_strewn A a < pj_strewn A i by omega), if_neg (by omega)]; rfl
  · show fX_busiest_6b w (pj_busy A (A 1).toNat) _ (((A 1).toNat : Nat) : Int) = _
    unfold fX_busiest_6b qs_or
    rw [if_pos hb, h7, if_pos (by omega)]
    by_cases c : pj_busy A (A 1).toNat = -1
    · rw [if_pos c, if_pos c]; rfl
    · rw [if_neg c, if_neg c]; rfl
theorem xs_both (R : pj_RB (w 10 0 10) w A) (I : pj_IV A) (hb : 0 ≤ w 10 0 10) (a b r : Int) : fX_both a b r w = pj_aX (if pj_isF A a ∧ pj_isF A b ∧ a ≠ b ∧ 0 ≤ r ∧ r ≤ 40 then (pj_and (pj_sight A a r) (pj_sight A b r), 0) else (-1, 1)) w := by
  unfold fX_both fX_both_45
  rw [if_pos hb, xq_finderAt R I, xq_finderAt R I, Option.bind_some, Option.bind_some]
  by_cases c : pj_isF A a
  · rw [if_pos c, if_neg (by have := c.1; omega)]
    by_cases c1 : pj_isF A b
    · rw [if_pos c1, if_neg (by have := c1.1; omega)]
      by_cases c2 : a = b
      · rw [if_pos c2, if_neg (fun x => x.2.2.1 c2)]; rfl
      · rw [if_neg c2]
        by_cases c3 : r < 0
        · rw [if_pos c3, if_neg (by omega)]; rfl
        · rw [if_neg c3]
          by_cases c4 : r ≤ 40
          · rw [if_pos c4, if_pos ⟨c, c1, c2, by omega, c4⟩, xq_sightOf R I hb c, Option.bind_some, xq_sightOf R I hb c1]; rfl
          · rw [if_neg c4, if_neg (by omega)]; rfl
    · rw [if_neg c1, if_pos (by omega), if_neg (fun x => c1 x.2.1)]; rfl
  · rw [if_neg c, if_pos (by omega), if_neg (fun x => c x.1)]; rfl
theorem xs_soonest (R : pj_RB (w 10 0 10) w A) (I : pj_IV A) (hb : 0 ≤ w 10 0 10) (f d : Int) : fX_soonest f d w = pj_aX (qs_onFD A f d (if pj_soon A f d = -1 then (-1, 7) else (pj_soon A f d, 0))) w := by
  unfold fX_soonest fX_soonest_24 qs_onFD
  rw [if_pos hb, xq_findAt R I, Option.bind_some, xq_finderAt R I, Option.bind_some]
  by_cases c : pj_isF A f
  · rw [if_pos c, if_neg (by have := c.1; omega)]
    by_cases c1 : pj_isD A d
    · rw [if_pos c1, if_neg (by have := c1.1; omega), if_pos ⟨c, c1⟩, xq_soonestOf R I hb c c1, Option.bind_some]
      by_cases c2 : pj_soon A f d = -1
      · rw [if_pos c2, if_pos c2]; rfl
      · rw [if_neg c2, if_neg c2]; rfl
    · rw [if_neg c1, if_pos (by omega), if_neg (fun x => c1 x.2)]; rfl
  · rw [if_neg c, if_pos (by omega), if_neg (fun x => c x.1)]; rfl
theorem xs_gain (R : pj_RB (w 10 0 10) w A) (I : pj_IV A) (hb : 0 ≤ w 10 0 10) (f d : Int) : fX_gain f d w = pj_aX (qs_onFD A f d (if pj_soon A f d = -1 then (-1, 7) else (A (40 + 3 * d + 1) - pj_share A f d, 0))) w := by
  have hA := I.1
  unfold fX_gain fX_gain_24 qs_onFD
  rw [if_pos hb, xq_findAt R I, Option.bind_some, xq_finderAt R I, Option.bind_some]
  by_cases c : pj_isF A f
  · rw [if_pos c, if_neg (by have := c.1; omega)]
    by_cases c1 : pj_isD A d
    · have hD := I.2.2.2.1 d c1.1 c1.2
      have hS := pj_share_in I (f := f) c.1 (by have := c.2; omega) c1.1 c1.2
      rw [if_pos c1, if_neg (by have := c1.1; omega), if_pos ⟨c, c1⟩, xq_soonestOf R I hb c c1, Option.bind_some]
      by_cases c2 : pj_soon A f d = -1
      · rw [if_pos c2, if_pos c2]; rfl
      · rw [if_neg c2, if_neg c2, xq_shareOf R I hb c.1 (by have := c.2; omega) c1, Option.bind_some, (R.2.2.1 d c1).2.1, pj_wr_id (by omega) (by omega)]; rfl
    · rw [if_neg c1, if_pos (by omega), if_neg (fun x => c1 x.2)]; rfl
  · rw [if_neg c, if_pos (by omega), if_neg (fun x => c x.1)]; rfl
theorem xs_seen (R : pj_RB (w 10 0 10) w A) (I : pj_IV A) (hb : 0 ≤ w 10 0 10) (f r : Int) : fX_seen f r w = pj_aX (if pj_isF A f ∧ 0 ≤ r ∧ r ≤ 40 then (pj_sight A f r, 0) else (-1, 1)) w := by
  unfold fX_seen fX_seen_23
  rw [if_pos hb, xq_finderAt R I, Option.bind_some]
  by_cases c : pj_isF A f
  · rw [if_pos c, if_neg (by have := c.1; omega)]
    by_cases c3 : r < 0
    · rw [if_pos c3, if_neg (by omega)]; rfl
    · rw [if_neg c3]
      by_cases c4 : r ≤ 40
      · rw [if_pos c4, if_pos ⟨c, by omega, c4⟩, xq_sightOf R I hb c]; rfl
      · rw [if_neg c4, if_neg (by omega)]; rfl
  · rw [if_neg c, if_pos (by omega), if_neg (fun x => c x.1)]; rfl
theorem xs_boys (R : pj_RB (w 10 0 10) w A) (I : pj_IV A) (hb : 0 ≤ w 10 0 10) (r : Int) : fX_boys r w = pj_aX (qs_upto 0 40 r (pj_boys A r, 0)) w := by
  unfold fX_boys fX_boys_10 qs_upto
  by_cases c : r < 0
  · rw [if_pos c, if_neg (by omega)]; rfl
  · by_cases c1 : r ≤ 40
    · rw [if_neg c, if_pos c1, if_pos (by omega)]
      have hbc : ∀ i : Nat, i < 8 → fB_boyCell (w 10 0 10) r i w = some (pj_boy A r i) := fun i hi => by
        rw [xq_boyCell R I (by omega) c1, if_neg (by omega), show (min (i : Int) 8).toNat = i by omega]
      unfold fX_boys_18 pj_boys
      refine (pj_Lp_ff (fun i : Nat => (i : Int)) (fun n => pj_boy A r n = -1) 8 (r := fun n => ((n : Int), pj_set w 10 0 15 0)) (e := (8, pj_set w 10 0 15 0)) (fun i hi hp => ?_) (fun i hi hp => ?_) ?_).trans ?_
      · show fX_boys_18b r w i = _
        unfold fX_boys_18b
        rw [if_neg (by omega), if_pos hb, hbc i hi, Option.bind_some, if_neg hp, pj_wri (by omega)]; rfl
      · show fX_boys_18b r w i = _
        unfold fX_boys_18b
        rw [if_neg (by omega), if_pos hb, hbc i hi, Option.bind_some, if_pos hp]; rfl
      · rfl
      · cases pj_ff (fun n => pj_boy A r n = -1) 0 8 <;> rfl
    · rw [if_neg c, if_neg c1, if_neg (by omega)]; rfl
theorem xs_boyAt (R : pj_RB (w 10 0 10) w A) (I : pj_IV A) (hb : 0 ≤ w 10 0 10) (r k : Int) : fX_boyAt r k w = pj_aX (qs_upto 0 40 r (if 0 ≤ k ∧ k ≤ 8 then qs_or (pj_boy A r k.toNat) else (-1, 6))) w := by
  unfold fX_boyAt fX_boyAt_10 qs_upto
  by_cases c : r < 0
  · rw [if_pos c, if_neg (by omega)]; rfl
  · by_cases c1 : r ≤ 40
    · rw [if_neg c, if_pos c1, if_pos hb, if_pos (show 0 ≤ r ∧ r ≤ 40 by omega), xq_boyCell R I (by omega) c1, Option.bind_some]
      refine (xs_or _ w).trans ?_
      by_cases c2 : k < 0
      · rw [if_pos c2, if_neg (by omega)]; rfl
      · rw [if_neg c2]
        by_cases c3 : k ≤ 8
        · rw [if_pos (by omega), show (min k 8).toNat = k.toNat by omega]
        · rw [if_neg (by omega), show (min k 8).toNat = 8 by omega, pj_boy8 I (by omega)]; rfl
    · rw [if_neg c, if_neg c1, if_neg (by omega)]; rfl
end
