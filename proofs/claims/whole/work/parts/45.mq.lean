/-! PEBBLES OF A FINDER, WHEN, WHO SEES -/
theorem mq_ownMany {f d : Int} {w : pj_W} (I : pj_IV (w 60 0)) (h : 0 ≤ d) (h2 : d < w 60 0 2) : fM_ownMany f d w = some (pj_tal (w 60 0) f d) := by
  have hA := I.1
  have hD := I.2.2.2.1 d h h2
  unfold fM_ownMany pj_tal
  refine pj_Lp_sum (fun k : Nat => if pj_who (w 60 0) d k = f then 1 else 0) (pj_many (w 60 0) d).toNat 1 (fun i hi => by split <;> omega) (by omega) (by omega) (by omega) (fun i hi a => ?_) ?_
  · show fM_ownMany_5b f d w a i = _
    unfold fM_ownMany_5b fM_ownMany_32
    rw [mq_manyOn h (by omega), Option.bind_some, if_neg (by omega), mq_whoAt h (by omega) (by omega) (by omega), Option.bind_some, pj_wri (by omega)]
  · show fM_ownMany_5b f d w _ _ = _
    unfold fM_ownMany_5b
    rw [mq_manyOn h (by omega), Option.bind_some, if_pos (by omega)]
theorem pj_tal_in {A : pj_Q} (I : pj_IV A) (f : Int) {d : Int} (h : 0 ≤ d) (h2 : d < A 2) : 0 ≤ pj_tal A f d ∧ pj_tal A f d ≤ pj_many A d ∧ pj_tal A f d ≤ 60 := by
  have hD := I.2.2.2.1 d h h2
  have := pj_sum_in (g := fun k : Nat => if pj_who A d k = f then 1 else 0) (n := (pj_many A d).toNat) (M := 1) (fun i hi => by split <;> omega)
  unfold pj_tal
  omega
theorem mq_strewnOf {f : Int} {w : pj_W} (I : pj_IV (w 60 0)) : fM_strewnOf f w = some (pj_strewn (w 60 0) f) := by
  have hA := I.1
  unfold fM_strewnOf pj_strewn
  refine pj_Lp_sum (fun d : Nat => pj_tal (w 60 0) f d) (w 60 0 2).toNat 60 (fun i hi => by have := pj_tal_in I f (d := (i : Int)) (by omega) (by omega); omega) (by omega) (by omega) (by omega) (fun i hi a => ?_) ?_
  · show fM_strewnOf_4b f w a i = _
    unfold fM_strewnOf_4b
    rw [if_neg (by omega), mq_ownMany I (by omega) (by omega), Option.bind_some, pj_wri (by omega)]
  · show fM_strewnOf_4b f w _ _ = _
    unfold fM_strewnOf_4b
    rw [if_pos (by omega)]
theorem mq_behindOthers {f d : Int} {w : pj_W} (I : pj_IV (w 60 0)) (h : 0 ≤ d) (h2 : d < w 60 0 2) : fM_behindOthers f d w = some (pj_bhd (w 60 0) f d) := by
  have hA := I.1
  have hD := I.2.2.2.1 d h h2
  unfold fM_behindOthers pj_bhd
  refine pj_Lp_fo (fun i => (pj_fo (fun k a => if pj_who (w 60 0) d k = f then a else max a (pj_min (w 60 0) d k + 1)) i 0, (i : Int))) (pj_many (w 60 0) d).toNat (fun i hi => ?_) ?_
  · show fM_behindOthers_5b f d w _ i = _
    have hK := I.2.2.2.2.1 d i h h2 (by omega) (by omega)
    unfold fM_behindOthers_5b fM_behindOthers_40
    rw [mq_manyOn h (by omega), Option.bind_some, if_neg (by omega), mq_whoAt h (by omega) (by omega) (by omega), Option.bind_some, mq_minuteAt h (by omega) (by omega) (by omega), Option.bind_some, pj_wri (by omega), pj_wr_id (by omega) (by omega)]
    by_cases c : pj_who (w 60 0) d i = f
    · rw [if_pos c]; show _ = some (Sum.inl (ite _ _ _, _)); rw [if_pos c]; rfl
    · rw [if_neg c]; show _ = some (Sum.inl (ite _ _ _, _)); rw [if_neg c]; rfl
  · show fM_behindOthers_5b f d w _ _ = _
    unfold fM_behindOthers_5b
    rw [mq_manyOn h (by omega), Option.bind_some, if_pos (by omega)]
theorem pj_bhd_in {A : pj_Q} (I : pj_IV A) (f : Int) {d : Int} (h : 0 ≤ d) (h2 : d < A 2) : 0 ≤ pj_bhd A f d ∧ pj_bhd A f d ≤ 241 := by
  have hA := I.1
  have hD := I.2.2.2.1 d h h2
  unfold pj_bhd
  refine pj_fo_inv (fun _ a => 0 ≤ a ∧ a ≤ 241) (by omega) (fun i hi a ha => ?_)
  have hK := I.2.2.2.2.1 d i h h2 (by omega) (by omega)
  split <;> omega
theorem pj_abs_in {a b : Int} (ha : 0 ≤ a) (ha2 : a < 40) (hb : 0 ≤ b) (hb2 : b < 40) : pj_wr (a - b) = a - b ∧ 0 ≤ pj_abs (a - b) ∧ pj_abs (a - b) < 40 := by
  refine ⟨pj_wr_id (by omega) (by omega), ?_⟩
  unfold pj_abs
  split <;> (try unfold pj_wr) <;> omega
theorem pj_walk_in {A : pj_Q} (I : pj_IV A) {f c : Int} (hf : 0 ≤ f) (hf2 : f < A 1) (hc : 0 ≤ c) (hc2 : c < 40) : 0 ≤ pj_walk A f c ∧ pj_walk A f c ≤ 360 := by
  have hA := I.1
  have hF := I.2.2.1 f hf hf2
  have h1 := pj_abs_in (a := A (10 + 5 * f)) (b := c) (by omega) (by omega) hc hc2
  have h2 : A (10 + 5 * f + 1) * pj_abs (A (10 + 5 * f) - c) ≤ 9 * 40 := Int.mul_le_mul (by omega) (by omega) h1.2.1 (by omega)
  have h3 : 0 ≤ A (10 + 5 * f + 1) * pj_abs (A (10 + 5 * f) - c) := Int.mul_nonneg (by omega) h1.2.1
  unfold pj_walk
  omega
theorem mq_stepsTo {f c : Int} {w : pj_W} (I : pj_IV (w 60 0)) (hf : 0 ≤ f) (hf2 : f < w 60 0 1) (hc : 0 ≤ c) (hc2 : c < 40) : fM_stepsTo f c w = some (pj_walk (w 60 0) f c) := by
  have hA := I.1
  have hF := I.2.2.1 f hf hf2
  have hW := pj_walk_in I hf hf2 hc hc2
  have h1 := pj_abs_in (a := w 60 0 (10 + 5 * f)) (b := c) (by omega) (by omega) hc hc2
  unfold fM_stepsTo
  rw [mq_finderRow (by omega) (by omega), Option.bind_some, pj_wr_id (by omega) (by omega), if_pos (by omega), Option.bind_some, if_pos (by omega), h1.1]
  unfold pj_walk at hW ⊢
  rw [pj_wr_id (by omega) (by omega)]
theorem pj_soon_in {A : pj_Q} (I : pj_IV A) {f d : Int} (hf : 0 ≤ f) (hf2 : f < A 1) (h : 0 ≤ d) (h2 : d < A 2) : -1 ≤ pj_soon A f d ∧ pj_soon A f d ≤ 240 := by
  have hA := I.1
  have hb := pj_bhd_in I f h h2
  unfold pj_soon
  split
  · split <;> omega
  · omega
theorem mq_soonestOf {f d : Int} {w : pj_W} (I : pj_IV (w 60 0)) (hf : 0 ≤ f) (hf2 : f < w 60 0 1) (h : 0 ≤ d) (h2 : d < w 60 0 2) : fM_soonestOf f d w = some (pj_soon (w 60 0) f d) := by
  have hA := I.1
  have hF := I.2.2.1 f hf hf2
  have hD := I.2.2.2.1 d h h2
  have hW := pj_walk_in I hf hf2 (c := w 60 0 (40 + 3 * d)) (by omega) (by omega)
  unfold fM_soonestOf pj_soon
  rw [mq_isThere, Option.bind_some]
  by_cases c : pj_there (w 60 0) d
  · rw [if_pos c, if_neg (by omega), mq_finderRow (by omega) (by omega), Option.bind_some, pj_wr_id (by omega) (by omega), if_pos (by omega)]
    by_cases c2 : w 60 0 (10 + 5 * f + 2) = 0
    · rw [if_pos c2, if_neg (fun x => x.2 c2)]
    · rw [if_neg c2, if_pos ⟨c, c2⟩, Option.bind_some, pj_wr_id (by omega) (by omega), if_pos (by omega), mq_findRow (by omega) (by omega) (by omega) (by omega), Option.bind_some, Int.zero_add, if_pos (by omega), mq_stepsTo I hf hf2 (by omega) (by omega), Option.bind_some, mq_behindOthers I h h2, Option.bind_some, pj_wr_id (by omega) (by omega)]
      by_cases c3 : max (w 60 0 (10 + 5 * f + 3) + pj_walk (w 60 0) f (w 60 0 (40 + 3 * d))) (pj_bhd (w 60 0) f d) ≤ w 60 0 3
      · rw [if_pos c3, if_pos c3]
      · rw [if_neg c3, if_neg c3]
  · rw [if_neg c, if_pos rfl, if_neg (fun x => c x.1)]
theorem mq_threatTo {d : Int} {w : pj_W} (I : pj_IV (w 60 0)) (h : 0 ≤ d) (h2 : d < w 60 0 2) : fM_threatTo d w = some (pj_thr (w 60 0) d) := by
  have hA := I.1
  unfold fM_threatTo pj_thr
  refine pj_Lp_un (fun f => pj_soon (w 60 0) f d ≠ -1) (w 60 0 1).toNat (by omega) (fun i hi a ha ha2 => ?_) ?_
  · show fM_threatTo_4b d w a i = _
    unfold fM_threatTo_4b fM_threatTo_32
    rw [if_neg (by omega), mq_soonestOf I (by omega) (by omega) h h2, Option.bind_some, pj_wri (by omega)]
    by_cases c : pj_soon (w 60 0) i d = -1
    · rw [if_pos c, if_neg (fun x => x c), pj_or0 ha ha2]
    · rw [if_neg c, if_pos c]
  · show fM_threatTo_4b d w _ _ = _
    unfold fM_threatTo_4b
    rw [if_pos (by omega)]
theorem mq_seenBy {f c : Int} {w : pj_W} (I : pj_IV (w 60 0)) (hf : 0 ≤ f) (hf2 : f < w 60 0 1) : fM_seenBy f c w = some (pj_sight (w 60 0) f c) := by
  have hA := I.1
  have hF := I.2.2.1 f hf hf2
  unfold fM_seenBy pj_sight
  refine pj_Lp_un (fun d => pj_there (w 60 0) d ∧ pj_abs (w 60 0 (40 + 3 * d) - w 60 0 (10 + 5 * f)) ≤ c) (w 60 0 2).toNat (by omega) (fun i hi a ha ha2 => ?_) ?_
  · show fM_seenBy_5b f c w a i = _
    have hD := I.2.2.2.1 i (by omega) (by omega)
    have h1 := pj_abs_in (a := w 60 0 (40 + 3 * i)) (b := w 60 0 (10 + 5 * f)) (by omega) (by omega) (by omega) (by omega)
    unfold fM_seenBy_5b fM_seenBy_61 fM_seenBy_62
    rw [if_neg (by omega), mq_isThere, Option.bind_some, pj_wri (by omega)]
    by_cases c1 : pj_there (w 60 0) i
    · rw [if_pos c1, if_neg (by omega), mq_findRow (by omega) (by omega) (by omega) (by omega), Option.bind_some, Int.zero_add, if_pos (by omega), mq_finderRow (by omega) (by omega), Option.bind_some, if_pos (by omega), h1.1]
      by_cases c2 : c < pj_abs (w 60 0 (40 + 3 * i) - w 60 0 (10 + 5 * f))
      · rw [if_pos c2, if_neg (by omega), pj_or0 ha ha2]
      · rw [if_neg c2, if_pos ⟨c1, by omega⟩]
    · rw [if_neg c1, if_pos rfl, if_neg (fun x => c1 x.1), pj_or0 ha ha2]
  · show fM_seenBy_5b f c w _ _ = _
    unfold fM_seenBy_5b
    rw [if_pos (by omega)]
theorem pj_lm_in {A : pj_Q} (I : pj_IV A) (c : Int) : pj_lm A c = -1 ∨ (c ≤ pj_lm A c ∧ 0 ≤ pj_lm A c ∧ pj_lm A c < A 0) := by
  unfold pj_lm
  refine pj_fo_inv (fun _ a => a = -1 ∨ (c ≤ a ∧ 0 ≤ a ∧ a < A 0)) (Or.inl rfl) (fun i hi a ha => ?_)
  have hD := I.2.2.2.1 i (by omega) (by omega)
  split
  · omega
  · exact ha
theorem mq_boyFrom {c r : Int} {w : pj_W} (I : pj_IV (w 60 0)) (hr : 0 ≤ r) (hr2 : r ≤ 40) : fM_boyFrom c r w = some (pj_nb (w 60 0) r c) := by
  have hA := I.1
  have hl := pj_lm_in I c
  unfold fM_boyFrom
  refine pj_Lp_fo (fun i => (pj_fo (fun d a => if pj_there (w 60 0) d ∧ c ≤ w 60 0 (40 + 3 * d) ∧ (a = -1 ∨ w 60 0 (40 + 3 * d) < a) then w 60 0 (40 + 3 * d) else a) i (-1), (i : Int))) (w 60 0 2).toNat (fun i hi => ?_) ?_
  · show fM_boyFrom_5b c r w _ i = some (Sum.inl (ite _ _ _, _))
    generalize pj_fo _ i (-1 : Int) = a
    unfold fM_boyFrom_5b fM_boyFrom_60 fM_boyFrom_72
    rw [if_neg (by omega), mq_isThere, Option.bind_some, pj_wri (by omega), mq_findRow (by omega) (by omega) (by omega) (by omega), Int.zero_add]
    dsimp only
    by_cases c1 : pj_there (w 60 0) i
    · rw [if_pos c1, if_neg (by omega), Option.bind_some, if_pos (by omega)]
      by_cases c2 : w 60 0 (40 + 3 * i) < c
      · rw [if_pos c2, if_neg (by omega)]; rfl
      · rw [if_neg c2]
        by_cases c3 : a = -1
        · rw [if_pos c3, Option.bind_some, if_pos (by omega), if_pos (by exact ⟨c1, by omega, Or.inl c3⟩)]; rfl
        · rw [if_neg c3, Option.bind_some, if_pos (by omega)]
          by_cases c4 : a ≤ w 60 0 (40 + 3 * i)
          · rw [if_pos c4, if_neg (by omega)]; rfl
          · rw [if_neg c4, Option.bind_some, if_pos (by omega), if_pos (by exact ⟨c1, by omega, Or.inr (by omega)⟩)]; rfl
    · rw [if_neg c1, if_pos rfl, if_neg (fun x => c1 x.1)]; rfl
  · show fM_boyFrom_5b c r w (pj_lm (w 60 0) c) _ = _
    unfold fM_boyFrom_5b pj_nb
    rw [if_pos (by omega)]
    by_cases c1 : pj_lm (w 60 0) c = -1
    · rw [if_pos c1, if_pos c1]
    · rw [if_neg c1, if_neg c1, pj_wr_id (by omega) (by omega), pj_wr_id (by omega) (by omega)]
theorem pj_nb_in {A : pj_Q} (I : pj_IV A) {r : Int} (hr : 0 ≤ r) (c : Int) : -1 ≤ pj_nb A r c ∧ pj_nb A r c ≤ 40 := by
  have hA := I.1
  have hl := pj_lm_in I c
  unfold pj_nb
  split <;> omega
theorem pj_boy_in {A : pj_Q} (I : pj_IV A) {r : Int} (hr : 0 ≤ r) (k : Nat) : -1 ≤ pj_boy A r k ∧ pj_boy A r k ≤ 40 := by
  cases k with
  | zero => exact pj_nb_in I hr 0
  | succ k =>
    unfold pj_boy
    split
    · omega
    · exact pj_nb_in I hr _
theorem pj_boy_none {A : pj_Q} {r : Int} {i : Nat} (h : pj_boy A r i = -1) (n : Nat) : pj_boy A r (i + n) = -1 := by
  induction n with
  | zero => exact h
  | succ n ih => show pj_boy A r (i + n + 1) = -1; unfold pj_boy; rw [if_pos ih]
theorem mq_boy {r : Int} {k : Nat} {w : pj_W} (I : pj_IV (w 60 0)) (hr : 0 ≤ r) (hr2 : r ≤ 40) (hk : k ≤ 10) : fM_boy r k w = some (pj_boy (w 60 0) r k) := by
  unfold fM_boy
  rw [mq_boyFrom I hr hr2, Option.bind_some]
  have key : ∀ m i : Nat, i + m = k → fM_boy_10 r k w (pj_boy (w 60 0) r i, (i : Int)) = some (pj_boy (w 60 0) r k) := by
    intro m
    induction m with
    | zero =>
      intro i hi
      subst hi
      refine pj_Lp_end ?_
      unfold fM_boy_10b
      rw [if_pos (by exact Int.le_refl _)]
      rfl
    | succ m ih =>
      intro i hi
      have hb := pj_boy_in I hr i
      by_cases c : pj_boy (w 60 0) r i = -1
      · refine pj_Lp_end ?_
        unfold fM_boy_10b
        dsimp only
        rw [if_neg (by omega), if_pos c, c, ← hi, pj_boy_none c]
      · rw [← ih (i + 1) (by omega)]
        refine pj_Lp_st ?_
        unfold fM_boy_10b
        dsimp only
        rw [if_neg (by omega), if_neg c, pj_wr_id (x := pj_boy (w 60 0) r i + r) (by omega) (by omega), pj_wr_id (by omega) (by omega), mq_boyFrom I hr hr2, Option.bind_some, pj_wri (by omega)]
        show _ = some (Sum.inl (pj_boy (w 60 0) r (i + 1), _))
        rw [show pj_boy (w 60 0) r (i + 1) = pj_nb (w 60 0) r (pj_boy (w 60 0) r i + r + 1) from by rw [pj_boy, if_neg c]]
        rfl
  exact key k 0 (by omega)
