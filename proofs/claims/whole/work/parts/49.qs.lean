/-! THE REST OF THE MODEL'S ANSWERS -/
theorem mt_walk (f d : Int) {w : pj_W} (I : pj_IV (w 60 0)) : fM_walk f d w = pj_aM (qs_onFD (w 60 0) f d (pj_walk (w 60 0) f (w 60 0 (40 + 3 * d)), 0)) w := by
  have hA := I.1
  unfold fM_walk fM_walk_38 qs_onFD
  rw [mq_isFinder, mq_isFind, Option.bind_some]
  by_cases c : pj_isF (w 60 0) f
  · rw [if_pos c, if_neg (by omega), Option.bind_some]
    by_cases c1 : pj_isD (w 60 0) d
    · have hD := I.2.2.2.1 d c1.1 c1.2
      rw [if_pos c1, if_neg (by omega), if_pos ⟨c, c1⟩, mq_findRow (by omega) (by omega) (by omega) (by omega), Option.bind_some, Int.zero_add, if_pos (by omega), mq_stepsTo I c.1 c.2 (by omega) (by omega)]; rfl
    · rw [if_neg c1, if_pos rfl, if_neg (fun x => c1 x.2)]; rfl
  · rw [if_neg c, if_pos rfl, if_neg (fun x => c x.1)]; rfl
theorem mt_open {w : pj_W} (I : pj_IV (w 60 0)) : fM_open w = pj_aM (pj_open (w 60 0), 0) w := by
  have hA := I.1
  unfold fM_open pj_open
  refine pj_Lp_sum (fun d => if pj_there (w 60 0) d ∧ pj_own (w 60 0) d = 0 then w 60 0 (40 + 3 * d + 1) else 0) (w 60 0 2).toNat 999 (fun i hi => by have := I.2.2.2.1 i (by omega) (by omega); split <;> omega) (by omega) (by omega) (by omega) (fun i hi a => ?_) ?_
  · show fM_open_4b w a i = _
    unfold fM_open_4b fM_open_46 fM_open_47
    rw [if_neg (by omega), mq_isThere, Option.bind_some, mq_ownersOf I (by omega) (by omega), pj_wri (by omega)]
    by_cases c1 : pj_there (w 60 0) i
    · rw [if_pos c1, if_neg (by omega), Option.bind_some]
      by_cases c2 : pj_own (w 60 0) i = 0
      · rw [if_pos c2, if_pos ⟨c1, c2⟩, mq_findRow (by omega) (by omega) (by omega) (by omega), Option.bind_some, Int.zero_add, pj_wr_id (x := 40 + 3 * (i : Int) + 1) (by omega) (by omega), if_pos (by omega)]
      · rw [if_neg c2, if_neg (fun x => c2 x.2)]
    · rw [if_neg c1, if_pos rfl, if_neg (fun x => c1 x.1)]
  · show fM_open_4b w _ _ = _
    unfold fM_open_4b
    rw [if_pos (by omega)]
    rfl
theorem mt_far (f : Int) {w : pj_W} (I : pj_IV (w 60 0)) : fM_farthest f w = pj_aM (if pj_isF (w 60 0) f then qs_or (pj_far (w 60 0) f (w 60 0 2).toNat).1 else (-1, 1)) w := by
  have hA := I.1
  unfold fM_farthest
  rw [mq_isFinder, Option.bind_some]
  by_cases c : pj_isF (w 60 0) f
  · rw [if_pos c, if_pos c, if_neg (by omega)]
    unfold fM_farthest_21
    refine pj_Lp_fo (fun i => ((pj_far (w 60 0) f i).1, (pj_far (w 60 0) f i).2, (i : Int))) (w 60 0 2).toNat (fun i hi => ?_) ?_
    · show fM_farthest_21b f w _ _ i = some (Sum.inl (_, _, _))
      have hD := I.2.2.2.1 i (by omega) (by omega)
      have hs : pj_far (w 60 0) f (i + 1) = if pj_there (w 60 0) i ∧ (pj_far (w 60 0) f i).2 < pj_walk (w 60 0) f (w 60 0 (40 + 3 * i)) then ((i : Int), pj_walk (w 60 0) f (w 60 0 (40 + 3 * i))) else pj_far (w 60 0) f i := rfl
      dsimp only
      rw [hs]
      unfold fM_farthest_21b fM_farthest_74
      rw [if_neg (by omega), mq_findRow (by omega) (by omega) (by omega) (by omega), Option.bind_some, Int.zero_add, if_pos (by omega), mq_stepsTo I c.1 c.2 (by omega) (by omega), Option.bind_some, mq_isThere, Option.bind_some, pj_wri (by omega)]
      by_cases c1 : pj_there (w 60 0) i
      · rw [if_pos c1, if_neg (by omega)]
        by_cases c2 : (pj_far (w 60 0) f i).2 < pj_walk (w 60 0) f (w 60 0 (40 + 3 * i))
        · rw [if_pos c2, if_pos (by exact ⟨c1, c2⟩)]; rfl
        · rw [if_neg c2, if_neg (fun x => c2 x.2)]; rfl
      · rw [if_neg c1, if_pos rfl, if_neg (fun x => c1 x.1)]; rfl
    · show fM_farthest_21b f w (pj_far (w 60 0) f (w 60 0 2).toNat).1 (pj_far (w 60 0) f (w 60 0 2).toNat).2 (((w 60 0 2).toNat : Nat) : Int) = _
      unfold fM_farthest_21b
      rw [if_pos (by omega), mt_or]
      rfl
  · rw [if_neg c, if_neg c]; rfl
theorem mt_time (f : Int) {w : pj_W} (I : pj_IV (w 60 0)) : fM_time f w = pj_aM (qs_onF (w 60 0) f (w 60 0 3 - w 60 0 (10 + 5 * f + 3))) w := by
  have hA := I.1
  unfold fM_time qs_onF
  rw [mq_isFinder, Option.bind_some]
  by_cases c : pj_isF (w 60 0) f
  · have hF := I.2.2.1 f c.1 c.2
    rw [if_pos c, if_pos c, if_neg (by omega), mq_finderRow (by omega) (by omega), Option.bind_some, pj_wr_id (x := 10 + 5 * f + 3) (by omega) (by omega), if_pos (by omega), pj_wr_id (by omega) (by omega)]; rfl
  · rw [if_neg c, if_neg c]; rfl
theorem mt_tally (d f : Int) {w : pj_W} (I : pj_IV (w 60 0)) : fM_tally d f w = pj_aM (qs_onFD (w 60 0) f d (pj_tal (w 60 0) f d, 0)) w := by
  have hA := I.1
  unfold fM_tally fM_tally_29 qs_onFD
  rw [mq_isFinder, mq_isFind, Option.bind_some]
  by_cases c : pj_isD (w 60 0) d
  · rw [if_pos c, if_neg (by omega), Option.bind_some]
    by_cases c1 : pj_isF (w 60 0) f
    · rw [if_pos c1, if_neg (by omega), if_pos ⟨c1, c⟩, mq_ownMany I c.1 c.2]; rfl
    · rw [if_neg c1, if_pos rfl, if_neg (fun x => c1 x.1)]; rfl
  · rw [if_neg c, if_pos rfl, if_neg (fun x => c x.2)]; rfl
theorem pj_busy_in {A : pj_Q} (n : Nat) : -1 ≤ pj_busy A n ∧ pj_busy A n < n := by
  unfold pj_busy
  refine pj_fo_inv (fun (i : Nat) (a : Int) => -1 ≤ a ∧ a < i) (by omega) (fun i hi a ha => ?_)
  split <;> omega
theorem mt_busy {w : pj_W} (I : pj_IV (w 60 0)) : fM_busiest w = pj_aM (qs_or (pj_busy (w 60 0) (w 60 0 1).toNat)) w := by
  have hA := I.1
  unfold fM_busiest
  refine pj_Lp_fo (fun i => (pj_busy (w 60 0) i, (i : Int))) (w 60 0 1).toNat (fun i hi => ?_) ?_
  · show fM_busiest_4b w _ i = some (Sum.inl (pj_busy (w 60 0) (i + 1), _))
    have hb := pj_busy_in (A := w 60 0) i
    have hs : pj_busy (w 60 0) (i + 1) = if pj_busy (w 60 0) i = -1 ∨ pj_strewn (w 60 0) (pj_busy (w 60 0) i) < pj_strewn (w 60 0) i then (i : Int) else pj_busy (w 60 0) i := rfl
    rw [hs]
    unfold fM_busiest_4b fM_busiest_32 fM_busiest_34
    dsimp only
    rw [if_neg (by omega), mq_strewnOf I, mq_strewnOf I, Option.bind_some, pj_wri (by omega)]
    by_cases c1 : pj_busy (w 60 0) i = -1
    · rw [if_pos c1, if_pos (Or.inl c1)]; rfl
    · rw [if_neg c1, Option.bind_some]
      by_cases c2 : pj_strewn (w 60 0) i ≤ pj_strewn (w 60 0) (pj_busy (w 60 0) i)
      · rw [if_pos c2, if_neg (by omega)]; rfl
      · rw [if_neg c2, if_pos (Or.inr (by omega))]; rfl
  · show fM_busiest_4b w _ _ = _
    unfold fM_busiest_4b
    rw [if_pos (by omega), mt_or]
    rfl
theorem mt_both (a b r : Int) {w : pj_W} (I : pj_IV (w 60 0)) : fM_both a b r w = pj_aM (if pj_isF (w 60 0) a ∧ pj_isF (w 60 0) b ∧ a ≠ b ∧ 0 ≤ r ∧ r ≤ 40 then (pj_and (pj_sight (w 60 0) a r) (pj_sight (w 60 0) b r), 0) else (-1, 1)) w := by
  unfold fM_both fM_both_33
  rw [mq_isFinder, mq_isFinder, mq_isFrom, Option.bind_some]
  by_cases c : pj_isF (w 60 0) a
  · rw [if_pos c, if_neg (by omega), Option.bind_some]
    by_cases c1 : pj_isF (w 60 0) b
    · rw [if_pos c1, if_neg (by omega)]
      by_cases c2 : a = b
      · rw [if_pos c2, if_neg (fun x => x.2.2.1 c2)]; rfl
      · rw [if_neg c2, Option.bind_some]
        by_cases c3 : 0 ≤ r ∧ r ≤ 40
        · rw [if_pos c3, if_neg (by omega), if_pos ⟨c, c1, c2, c3⟩, mq_seenBy I c.1 c.2, Option.bind_some, mq_seenBy I c1.1 c1.2]; rfl
        · rw [if_neg c3, if_pos rfl, if_neg (fun x => c3 x.2.2.2)]; rfl
    · rw [if_neg c1, if_pos rfl, if_neg (fun x => c1 x.2.1)]; rfl
  · rw [if_neg c, if_pos rfl, if_neg (fun x => c x.1)]; rfl
theorem mt_soonest (f d : Int) {w : pj_W} (I : pj_IV (w 60 0)) : fM_soonest f d w = pj_aM (qs_onFD (w 60 0) f d (if pj_soon (w 60 0) f d = -1 then (-1, 7) else (pj_soon (w 60 0) f d, 0))) w := by
  unfold fM_soonest fM_soonest_16 qs_onFD
  rw [mq_isFinder, mq_isFind, Option.bind_some]
  by_cases c : pj_isF (w 60 0) f
  · rw [if_pos c, if_neg (by omega), Option.bind_some]
    by_cases c1 : pj_isD (w 60 0) d
    · rw [if_pos c1, if_neg (by omega), if_pos ⟨c, c1⟩, mq_soonestOf I c.1 c.2 c1.1 c1.2, Option.bind_some]
      by_cases c2 : pj_soon (w 60 0) f d = -1
      · rw [if_pos c2, if_pos c2]; rfl
      · rw [if_neg c2, if_neg c2]; rfl
    · rw [if_neg c1, if_pos rfl, if_neg (fun x => c1 x.2)]; rfl
  · rw [if_neg c, if_pos rfl, if_neg (fun x => c x.1)]; rfl
theorem mt_gain (f d : Int) {w : pj_W} (I : pj_IV (w 60 0)) : fM_gain f d w = pj_aM (qs_onFD (w 60 0) f d (if pj_soon (w 60 0) f d = -1 then (-1, 7) else (w 60 0 (40 + 3 * d + 1) - pj_share (w 60 0) f d, 0))) w := by
  have hA := I.1
  unfold fM_gain fM_gain_16 qs_onFD
  rw [mq_isFinder, mq_isFind, Option.bind_some]
  by_cases c : pj_isF (w 60 0) f
  · rw [if_pos c, if_neg (by omega), Option.bind_some]
    by_cases c1 : pj_isD (w 60 0) d
    · have hD := I.2.2.2.1 d c1.1 c1.2
      have hS := pj_share_in I (f := f) c.1 (by omega) c1.1 c1.2
      rw [if_pos c1, if_neg (by omega), if_pos ⟨c, c1⟩, mq_soonestOf I c.1 c.2 c1.1 c1.2, Option.bind_some]
      by_cases c2 : pj_soon (w 60 0) f d = -1
      · rw [if_pos c2, if_pos c2]; rfl
      · rw [if_neg c2, if_neg c2, mq_findRow (by omega) (by omega) (by omega) (by omega), Option.bind_some, Int.zero_add, pj_wr_id (x := 40 + 3 * d + 1) (by omega) (by omega), if_pos (by omega), mq_shareOf I c.1 (by omega) c1.1 c1.2, Option.bind_some, pj_wr_id (by omega) (by omega)]; rfl
    · rw [if_neg c1, if_pos rfl, if_neg (fun x => c1 x.2)]; rfl
  · rw [if_neg c, if_pos rfl, if_neg (fun x => c x.1)]; rfl
theorem mt_seen (f r : Int) {w : pj_W} (I : pj_IV (w 60 0)) : fM_seen f r w = pj_aM (if pj_isF (w 60 0) f ∧ 0 ≤ r ∧ r ≤ 40 then (pj_sight (w 60 0) f r, 0) else (-1, 1)) w := by
  unfold fM_seen fM_seen_33
  rw [mq_isFinder, mq_isFrom, Option.bind_some]
  by_cases c : pj_isF (w 60 0) f
  · rw [if_pos c, if_neg (by omega), Option.bind_some]
    by_cases c3 : 0 ≤ r ∧ r ≤ 40
    · rw [if_pos c3, if_neg (by omega), if_pos ⟨c, c3⟩, mq_seenBy I c.1 c.2]; rfl
    · rw [if_neg c3, if_pos rfl, if_neg (fun x => c3 x.2)]; rfl
  · rw [if_neg c, if_pos rfl, if_neg (fun x => c x.1)]; rfl
theorem mt_boys (r : Int) {w : pj_W} (I : pj_IV (w 60 0)) : fM_boys r w = pj_aM (qs_upto 0 40 r (pj_boys (w 60 0) r, 0)) w := by
  unfold fM_boys qs_upto
  rw [mq_isFrom, Option.bind_some]
  by_cases c : 0 ≤ r ∧ r ≤ 40
  · rw [if_pos c, if_pos c, if_neg (by omega)]
    unfold fM_boys_20 pj_boys
    refine (pj_Lp_ff (fun i : Nat => (i : Int)) (fun n => pj_boy (w 60 0) r n = -1) 8 (r := fun n => ((n : Int), pj_set w 26 0 2 0)) (e := (8, pj_set w 26 0 2 0)) (fun i hi hp => ?_) (fun i hi hp => ?_) ?_).trans ?_
    · show fM_boys_20b r w i = _
      unfold fM_boys_20b
      rw [if_neg (by omega), mq_boy I c.1 c.2 (by omega), Option.bind_some, if_neg hp, pj_wri (by omega)]; rfl
    · show fM_boys_20b r w i = _
      unfold fM_boys_20b
      rw [if_neg (by omega), mq_boy I c.1 c.2 (by omega), Option.bind_some, if_pos hp]; rfl
    · rfl
    · cases pj_ff (fun n => pj_boy (w 60 0) r n = -1) 0 8 <;> rfl
  · rw [if_neg c, if_neg c]; rfl
theorem mt_boyAt (r k : Int) {w : pj_W} (I : pj_IV (w 60 0)) : fM_boyAt r k w = pj_aM (qs_upto 0 40 r (if 0 ≤ k ∧ k ≤ 8 then qs_or (pj_boy (w 60 0) r k.toNat) else (-1, 6))) w := by
  unfold fM_boyAt fM_boyAt_28 qs_upto
  rw [mq_isFrom, Option.bind_some]
  by_cases c : 0 ≤ r ∧ r ≤ 40
  · rw [if_pos c, if_pos c, if_neg (by omega)]
    by_cases c1 : k < 0
    · rw [if_pos c1, if_neg (by omega)]; rfl
    · rw [if_neg c1]
      by_cases c2 : k ≤ 8
      · have hb := mq_boy (k := k.toNat) I c.1 c.2 (by omega)
        rw [Int.toNat_of_nonneg (by omega)] at hb
        rw [if_pos c2, if_pos (by omega), hb, Option.bind_some, mt_or]; rfl
      · rw [if_neg c2, if_neg (by omega)]; rfl
  · rw [if_neg c, if_neg c]; rfl
