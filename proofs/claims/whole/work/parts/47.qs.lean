/-! MORE ANSWERS -/
theorem pj_sum_in' {A : pj_Q} (I : pj_IV A) (f : Int) {n : Nat} (hn : n ≤ (A 2).toNat) : 0 ≤ pj_sum (fun d => pj_tal A f d) n ∧ pj_sum (fun d => pj_tal A f d) n ≤ 480 := by
  have hA := I.1
  have := pj_sum_in (g := fun d : Nat => pj_tal A f d) (n := n) (M := 60) (fun i hi => by have := pj_tal_in I f (d := (i : Int)) (by omega) (by omega); omega)
  omega
theorem mt_lies (f k : Int) {w : pj_W} (I : pj_IV (w 60 0)) (hk : -2147483648 ≤ k ∧ k < 2147483648) : fM_lies f k w = pj_aM (if pj_isF (w 60 0) f then pj_lies (w 60 0) f k else (-1, 1)) w := by
  have hA := I.1
  unfold fM_lies pj_lies
  rw [mq_isFinder, Option.bind_some]
  by_cases c : pj_isF (w 60 0) f
  · rw [if_pos c, if_pos c, if_neg (by omega)]
    by_cases c1 : 0 ≤ k
    · rw [if_pos c1]
      have hs : (k, (0 : Int)) = (k - pj_sum (fun d : Nat => pj_tal (w 60 0) f d) 0, ((0 : Nat) : Int)) := by
        show _ = (k - 0, _)
        rw [Int.sub_zero]; rfl
      unfold fM_lies_19
      rw [hs]
      refine (pj_Lp_ff (fun i : Nat => (k - pj_sum (fun d => pj_tal (w 60 0) f d) i, (i : Int))) (fun d => k < pj_sum (fun d => pj_tal (w 60 0) f d) (d + 1)) (w 60 0 2).toNat (r := fun d => ((d : Int), pj_set w 26 0 2 0)) (e := (-1, pj_set w 26 0 2 6)) (fun i hi hp => ?_) (fun i hi hp => ?_) ?_).trans ?_
      · show fM_lies_19b f k w _ i = _
        have h1 := pj_sum_in' I f (n := i) (by omega)
        have h2 := pj_tal_in I f (d := (i : Int)) (by omega) (by omega)
        have h3 : pj_sum (fun d => pj_tal (w 60 0) f d) (i + 1) = pj_sum (fun d => pj_tal (w 60 0) f d) i + pj_tal (w 60 0) f i := rfl
        unfold fM_lies_19b
        rw [if_neg (by omega), if_neg (by omega), mq_ownMany I (by omega) (by omega), Option.bind_some, if_pos (by dsimp only; omega), Option.bind_some, pj_wri (by omega)]
        dsimp only
        rw [pj_wr_id (by omega) (by omega), show k - pj_sum (fun d => pj_tal (w 60 0) f d) (i + 1) = k - pj_sum (fun d => pj_tal (w 60 0) f d) i - pj_tal (w 60 0) f i from by omega]
        rfl
      · show fM_lies_19b f k w _ i = _
        have h3 : pj_sum (fun d => pj_tal (w 60 0) f d) (i + 1) = pj_sum (fun d => pj_tal (w 60 0) f d) i + pj_tal (w 60 0) f i := rfl
        unfold fM_lies_19b
        rw [if_neg (by omega), if_neg (by omega), mq_ownMany I (by omega) (by omega), Option.bind_some, if_neg (by dsimp only; omega)]
        rfl
      · show fM_lies_19b f k w _ _ = _
        unfold fM_lies_19b
        rw [if_pos (by omega)]
        rfl
      · cases pj_ff (fun d => k < pj_sum (fun d => pj_tal (w 60 0) f d) (d + 1)) 0 (w 60 0 2).toNat <;> rfl
    · rw [if_neg c1]
      unfold fM_lies_19
      refine pj_Lp_end ?_
      unfold fM_lies_19b fM_lies_68
      dsimp only
      by_cases c2 : w 60 0 2 ≤ 0
      · rw [if_pos c2]; rfl
      · rw [if_neg c2, if_pos (by omega)]; rfl
  · rw [if_neg c, if_neg c]; rfl
theorem mt_rivals (a b : Int) {w : pj_W} (I : pj_IV (w 60 0)) : fM_rivals a b w = pj_aM (if pj_isF (w 60 0) a ∧ pj_isF (w 60 0) b ∧ a ≠ b then (pj_rivals (w 60 0) a b, 0) else (-1, 1)) w := by
  have hA := I.1
  unfold fM_rivals fM_rivals_21
  rw [mq_isFinder, mq_isFinder, Option.bind_some]
  by_cases c : pj_isF (w 60 0) a
  · rw [if_pos c, if_neg (by omega), Option.bind_some]
    by_cases c1 : pj_isF (w 60 0) b
    · rw [if_pos c1, if_neg (by omega)]
      by_cases c2 : a = b
      · rw [if_pos c2, if_neg (fun x => x.2.2 c2)]; rfl
      · rw [if_neg c2, if_pos ⟨c, c1, c2⟩]
        unfold pj_rivals
        refine pj_Lp_un (fun d => 0 < pj_tal (w 60 0) a d ∧ 0 < pj_tal (w 60 0) b d) (w 60 0 2).toNat (by omega) (fun i hi s hs hs2 => ?_) ?_
        · show fM_rivals_32b a b w s i = _
          unfold fM_rivals_32b fM_rivals_71 fM_rivals_72
          rw [if_neg (by omega), mq_ownMany I (by omega) (by omega), mq_ownMany I (by omega) (by omega), Option.bind_some, pj_wri (by omega), pj_or0 hs hs2]
          by_cases c3 : pj_tal (w 60 0) a i ≤ 0
          · rw [if_pos c3, if_neg (by omega)]
          · rw [if_neg c3, Option.bind_some]
            by_cases c4 : pj_tal (w 60 0) b i ≤ 0
            · rw [if_pos c4, if_neg (by omega)]
            · rw [if_neg c4, if_pos (by omega)]
        · show fM_rivals_32b a b w _ _ = _
          unfold fM_rivals_32b
          rw [if_pos (by omega)]
          rfl
    · rw [if_neg c1, if_pos rfl, if_neg (fun x => c1 x.2.1)]; rfl
  · rw [if_neg c, if_pos rfl, if_neg (fun x => c x.1)]; rfl
theorem pj_rich_in {A : pj_Q} (n : Nat) : -1 ≤ pj_fo (fun d a => if pj_there A d ∧ (a = -1 ∨ A (40 + 3 * a + 1) < A (40 + 3 * d + 1)) then (d : Int) else a) n (-1) ∧ pj_fo (fun d a => if pj_there A d ∧ (a = -1 ∨ A (40 + 3 * a + 1) < A (40 + 3 * d + 1)) then (d : Int) else a) n (-1) < n := by
  refine pj_fo_inv (fun (i : Nat) (a : Int) => -1 ≤ a ∧ a < i) (by omega) (fun i hi a ha => ?_)
  split <;> omega
theorem mt_richest {w : pj_W} (I : pj_IV (w 60 0)) : fM_richest w = pj_aM (qs_or (pj_richest (w 60 0))) w := by
  have hA := I.1
  unfold fM_richest pj_richest
  refine pj_Lp_fo (fun i => (pj_fo (fun d a => if pj_there (w 60 0) d ∧ (a = -1 ∨ w 60 0 (40 + 3 * a + 1) < w 60 0 (40 + 3 * d + 1)) then (d : Int) else a) i (-1), (i : Int))) (w 60 0 2).toNat (fun i hi => ?_) ?_
  · show fM_richest_4b w _ i = some (Sum.inl (ite _ _ _, _))
    have hr := pj_rich_in (A := w 60 0) i
    generalize pj_fo _ i (-1 : Int) = a at hr ⊢
    unfold fM_richest_4b fM_richest_54 fM_richest_56
    dsimp only
    rw [if_neg (by omega), mq_isThere, Option.bind_some, pj_wri (by omega)]
    by_cases c1 : pj_there (w 60 0) i
    · rw [if_pos c1, if_neg (by omega)]
      by_cases c2 : a = -1
      · rw [if_pos c2, if_pos (by exact ⟨c1, Or.inl c2⟩)]; rfl
      · rw [if_neg c2, mq_findRow (by omega) (by omega) (by omega) (by omega), Option.bind_some, Int.zero_add, pj_wr_id (by omega) (by omega), if_pos (by omega), mq_findRow (by omega) (by omega) (by omega) (by omega), Option.bind_some, Int.zero_add, pj_wr_id (by omega) (by omega), if_pos (by omega)]
        by_cases c3 : w 60 0 (40 + 3 * (i : Int) + 1) ≤ w 60 0 (40 + 3 * a + 1)
        · rw [if_pos c3, if_neg (by omega)]; rfl
        · rw [if_neg c3, if_pos (by exact ⟨c1, Or.inr (by omega)⟩)]; rfl
    · rw [if_neg c1, if_pos rfl, if_neg (fun x => c1 x.1)]; rfl
  · show fM_richest_4b w _ _ = _
    unfold fM_richest_4b
    rw [if_pos (by omega), mt_or]
    rfl
theorem mq_leftOn {d : Int} {w : pj_W} (I : pj_IV (w 60 0)) (h : 0 ≤ d) (h2 : d < w 60 0 2) (hm : 0 < pj_many (w 60 0) d) : fM_leftOn d w = some (w 60 0 3 - pj_min (w 60 0) d (pj_many (w 60 0) d - 1)) := by
  have hA := I.1
  have hD := I.2.2.2.1 d h h2
  have hK := I.2.2.2.2.1 d (pj_many (w 60 0) d - 1) h h2 (by omega) (by omega)
  unfold fM_leftOn
  rw [mq_manyOn h (by omega), Option.bind_some, pj_wr_id (by omega) (by omega), mq_minuteAt h (by omega) (by omega) (by omega), Option.bind_some, pj_wr_id (by omega) (by omega)]
def qs_wl (A : pj_Q) (d : Int) : Int := if pj_isD A d then (if pj_there A d then (if pj_many A d = 0 then 6 else 0) else 7) else 1
theorem mq_wrongLast (d : Int) {w : pj_W} (I : pj_IV (w 60 0)) : fM_wrongLast d w = some (qs_wl (w 60 0) d) := by
  have hA := I.1
  unfold fM_wrongLast qs_wl
  rw [mq_wrongFind, Option.bind_some]
  by_cases c : pj_isD (w 60 0) d
  · rw [if_pos c, if_pos c]
    by_cases c1 : pj_there (w 60 0) d
    · rw [if_pos c1, if_pos c1, if_pos (by omega), mq_manyOn c.1 (by omega), Option.bind_some]
      by_cases c2 : pj_many (w 60 0) d = 0
      · rw [if_pos c2, if_pos c2]
      · rw [if_neg c2, if_neg c2]
    · rw [if_neg c1, if_neg c1]; rfl
  · rw [if_neg c, if_neg c]; rfl
theorem mt_left (d : Int) {w : pj_W} (I : pj_IV (w 60 0)) : fM_left d w = pj_aM (if qs_wl (w 60 0) d = 0 then (w 60 0 3 - pj_min (w 60 0) d (pj_many (w 60 0) d - 1), 0) else (-1, qs_wl (w 60 0) d)) w := by
  unfold fM_left
  rw [mq_wrongLast d I, Option.bind_some]
  have h0 : 0 ≤ qs_wl (w 60 0) d := by unfold qs_wl; split <;> (try split) <;> (try split) <;> omega
  by_cases c : qs_wl (w 60 0) d = 0
  · rw [if_pos (by omega), if_pos c]
    have hc : pj_isD (w 60 0) d ∧ pj_many (w 60 0) d ≠ 0 := by
      unfold qs_wl at c
      by_cases c1 : pj_isD (w 60 0) d
      · rw [if_pos c1] at c
        refine ⟨c1, fun x => ?_⟩
        rw [if_pos x] at c
        split at c <;> omega
      · rw [if_neg c1] at c; omega
    have hD := I.2.2.2.1 d hc.1.1 hc.1.2
    rw [mq_leftOn I hc.1.1 hc.1.2 (by omega)]; rfl
  · rw [if_neg (by omega), if_neg c]; rfl
theorem mt_tideIn (k : Int) {w : pj_W} (I : pj_IV (w 60 0)) : fM_tideIn k w = pj_aM (qs_upto 0 99 k (max 1 (w 60 0 3 - k * w 60 0 4), 0)) w := by
  have hA := I.1
  unfold fM_tideIn qs_upto
  rw [mq_isFrom, Option.bind_some]
  by_cases c : 0 ≤ k ∧ k ≤ 99
  · rw [if_pos c, if_pos c, if_neg (by omega)]
    have h1 : k * w 60 0 4 ≤ 99 * 60 := Int.mul_le_mul (by omega) (by omega) (by omega) (by omega)
    have h2 : 0 ≤ k * w 60 0 4 := Int.mul_nonneg (by omega) (by omega)
    rw [pj_wr_id (x := k * w 60 0 4) (by omega) (by omega), pj_wr_id (by omega) (by omega)]; rfl
  · rw [if_neg c, if_neg c]; rfl
theorem mt_latest {w : pj_W} (I : pj_IV (w 60 0)) : fM_latest w = pj_aM (qs_or (pj_latest (w 60 0))) w := by
  have hA := I.1
  unfold fM_latest pj_latest
  refine pj_Lp_fo (fun i => (pj_fo (fun d a => if 0 < pj_many (w 60 0) d then max a (pj_min (w 60 0) d (pj_many (w 60 0) d - 1)) else a) i (-1), (i : Int))) (w 60 0 2).toNat (fun i hi => ?_) ?_
  · show fM_latest_4b w _ i = some (Sum.inl (ite _ _ _, _))
    have hD := I.2.2.2.1 i (by omega) (by omega)
    generalize pj_fo _ i (-1 : Int) = a
    unfold fM_latest_4b fM_latest_39
    dsimp only
    rw [if_neg (by omega), mq_manyOn (by omega) (by omega), Option.bind_some, pj_wri (by omega)]
    by_cases c1 : pj_many (w 60 0) i ≤ 0
    · rw [if_pos c1, if_neg (by omega)]; rfl
    · rw [if_neg c1, Option.bind_some, pj_wr_id (by omega) (by omega), mq_minuteAt (by omega) (by omega) (by omega) (by omega), Option.bind_some, if_pos (by omega)]; rfl
  · show fM_latest_4b w _ _ = _
    unfold fM_latest_4b
    rw [if_pos (by omega), mt_or]
    rfl
