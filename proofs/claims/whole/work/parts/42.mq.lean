/-! THE MODEL'S QUESTIONS, over its numbers -/
theorem mq_finderRow {f : Int} (h : -100000 ≤ f) (h2 : f ≤ 100000) (w : pj_W) : fM_finderRow f w = some (10 + 5 * f) := by
  simp (disch := omega) only [fM_finderRow, pj_wr_id]
theorem mq_findRow {s d : Int} (hs : 0 ≤ s) (hs2 : s ≤ 8400) (h : -100000 ≤ d) (h2 : d ≤ 100000) (w : pj_W) : fM_findRow s d w = some (s + 40 + 3 * d) := by
  simp (disch := omega) only [fM_findRow, pj_wr_id]
theorem mq_pebbleRow {s d k : Int} (hs : 0 ≤ s) (hs2 : s ≤ 8400) (h : -100000 ≤ d) (h2 : d ≤ 100000) (hk : -100000 ≤ k) (hk2 : k ≤ 100000) (w : pj_W) : fM_pebbleRow s d k w = some (s + 64 + 120 * d + 2 * k) := by
  simp (disch := omega) only [fM_pebbleRow, pj_wr_id]
theorem mq_manyOn {d : Int} (h : 0 ≤ d) (h2 : d < 8) (w : pj_W) : fM_manyOn d w = some (pj_many (w 60 0) d) := by
  simp (disch := omega) only [fM_manyOn, mq_findRow, Option.bind_some, pj_wr_id, if_pos, Int.zero_add]
theorem mq_whoAt {d k : Int} (h : 0 ≤ d) (h2 : d < 8) (hk : 0 ≤ k) (hk2 : k < 60) (w : pj_W) : fM_whoAt d k w = some (pj_who (w 60 0) d k) := by
  simp (disch := omega) only [fM_whoAt, mq_pebbleRow, Option.bind_some, pj_wr_id, if_pos, Int.zero_add]
theorem mq_minuteAt {d k : Int} (h : 0 ≤ d) (h2 : d < 8) (hk : -10 ≤ k) (hk2 : k < 60) (w : pj_W) : fM_minuteAt d k w = some (pj_min (w 60 0) d k) := by
  simp (disch := omega) only [fM_minuteAt, mq_pebbleRow, Option.bind_some, pj_wr_id, if_pos, Int.zero_add]
theorem mq_isFinder (f : Int) (w : pj_W) : fM_isFinder f w = some (if 0 ≤ f ∧ f < w 60 0 1 then 1 else 0) := by
  unfold fM_isFinder
  by_cases h : f < 0
  · rw [if_pos h, if_neg (by omega)]
  · by_cases h2 : w 60 0 1 ≤ f
    · rw [if_neg h, if_pos h2, if_neg (by omega)]
    · rw [if_neg h, if_neg h2, if_pos (by omega)]
theorem mq_isFind (d : Int) (w : pj_W) : fM_isFind d w = some (if 0 ≤ d ∧ d < w 60 0 2 then 1 else 0) := by
  unfold fM_isFind
  by_cases h : d < 0
  · rw [if_pos h, if_neg (by omega)]
  · by_cases h2 : w 60 0 2 ≤ d
    · rw [if_neg h, if_pos h2, if_neg (by omega)]
    · rw [if_neg h, if_neg h2, if_pos (by omega)]
theorem mq_isThere (d : Int) (w : pj_W) : fM_isThere d w = some (if pj_there (w 60 0) d then 1 else 0) := by
  unfold fM_isThere
  by_cases h : pj_there (w 60 0) d
  · rw [if_pos h, if_pos h]
  · rw [if_neg h, if_neg h]
theorem mq_isFrom {v a b : Int} (w : pj_W) : fM_isFrom v a b w = some (if a ≤ v ∧ v ≤ b then 1 else 0) := by
  unfold fM_isFrom pj_cmp
  by_cases h : a ≤ v
  · by_cases h2 : v ≤ b
    · rw [if_pos (⟨h, h2⟩ : a ≤ v ∧ v ≤ b), if_neg, if_neg]
      · split
        · omega
        · split <;> omega
      · split
        · omega
        · split <;> omega
    · rw [if_neg (by omega : ¬ (a ≤ v ∧ v ≤ b)), if_neg, if_pos]
      · rw [if_pos (by omega)]; decide
      · split
        · omega
        · split <;> omega
  · rw [if_neg (by omega : ¬ (a ≤ v ∧ v ≤ b)), if_pos]
    rw [if_neg (by omega), if_neg (by omega)]; decide
theorem mq_wrongFind (d : Int) (w : pj_W) : fM_wrongFind d w = some (if 0 ≤ d ∧ d < w 60 0 2 then (if pj_there (w 60 0) d then 0 else 7) else 1) := by
  unfold fM_wrongFind
  rw [mq_isFind, mq_isThere]
  by_cases h : 0 ≤ d ∧ d < w 60 0 2
  · by_cases h2 : pj_there (w 60 0) d
    · simp [h, h2]
    · simp [h, h2]
  · simp [h]
theorem mq_lastOn {d : Int} {w : pj_W} (h : 0 ≤ d) (h2 : d < 8) (hm : 0 ≤ pj_many (w 60 0) d) (hm2 : pj_many (w 60 0) d ≤ 60) : fM_lastOn d w = some (q_last (w 60 0) d) := by
  have hl : ∀ n : Nat, (n : Int) ≤ pj_many (w 60 0) d → ∀ s, fM_lastOn_10 d w (s, (n : Int) - 1) = some (pj_lst (w 60 0) d n s) := by
    intro n
    induction n with
    | zero =>
      intro _ s
      refine pj_Lp_end ?_
      unfold fM_lastOn_10b
      rw [if_pos (by simp)]
      rfl
    | succ n ih =>
      intro hn s
      have hn' : ((n + 1 : Nat) : Int) = n + 1 := by omega
      have hs : pj_wr ((n : Int) + -1) = (n : Int) - 1 := pj_wr_id (by omega) (by omega)
      unfold pj_lst
      by_cases he : pj_min (w 60 0) d n = pj_min (w 60 0) d (pj_many (w 60 0) d - 1)
      · rw [if_pos he, ← ih (by omega)]
        refine pj_Lp_st ?_
        unfold fM_lastOn_10b
        simp only [hn', Int.add_sub_cancel]
        rw [if_neg (by omega), mq_minuteAt h h2 (by omega) (by omega), mq_manyOn h h2, mq_whoAt h h2 (by omega) (by omega)]
        simp only [Option.bind_some]
        rw [pj_wr_id (by omega) (by omega), mq_minuteAt h h2 (by omega) (by omega)]
        simp only [Option.bind_some]
        rw [if_pos he, hs]
      · rw [if_neg he]
        refine pj_Lp_end ?_
        unfold fM_lastOn_10b
        simp only [hn', Int.add_sub_cancel]
        rw [if_neg (by omega), mq_minuteAt h h2 (by omega) (by omega), mq_manyOn h h2, mq_whoAt h h2 (by omega) (by omega)]
        simp only [Option.bind_some]
        rw [pj_wr_id (by omega) (by omega), mq_minuteAt h h2 (by omega) (by omega)]
        simp only [Option.bind_some]
        rw [if_neg he]
  unfold fM_lastOn q_last
  rw [mq_manyOn h h2, Option.bind_some, pj_wr_id (by omega) (by omega)]
  have := hl (pj_many (w 60 0) d).toNat (by omega) 0
  rwa [show ((pj_many (w 60 0) d).toNat : Int) = pj_many (w 60 0) d from Int.toNat_of_nonneg hm] at this
