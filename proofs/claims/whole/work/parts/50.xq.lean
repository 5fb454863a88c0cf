/-! THE CLASS'S BEACHES, over the numbers they stand for -/
def pj_RB (b : Int) (w : pj_W) (A : pj_Q) : Prop :=
  (w 19 b 2 = A 0 ∧ w 19 b 3 = A 3 ∧ w 19 b 4 = A 4 ∧ w 19 b 5 = A 5 ∧ w 19 b 6 = A 6 ∧ w 19 b 7 = A 1 ∧ w 19 b 8 = A 2) ∧
  (∀ f : Int, pj_isF A f → w 22 (6 * b + f) 1 = A (10 + 5 * f) ∧ w 22 (6 * b + f) 2 = A (10 + 5 * f + 1) ∧ w 22 (6 * b + f) 3 = A (10 + 5 * f + 2) ∧ w 22 (6 * b + f) 4 = A (10 + 5 * f + 3) ∧ w 22 (6 * b + f) 5 = A (10 + 5 * f + 4)) ∧
  (∀ d : Int, pj_isD A d → w 23 (8 * b + d) 3 = A (40 + 3 * d) ∧ w 23 (8 * b + d) 4 = A (40 + 3 * d + 1) ∧ w 23 (8 * b + d) 5 = (if pj_there A d then 1 else 0) ∧ w 23 (8 * b + d) 6 = pj_many A d) ∧
  (∀ d k : Int, pj_isD A d → 0 ≤ k → k < pj_many A d → w 45 (8 * b + d) k = pj_who A d k ∧ w 46 (8 * b + d) k = pj_min A d k)
theorem pj_RB.th {b : Int} {w : pj_W} {A : pj_Q} (R : pj_RB b w A) {d : Int} (h : pj_isD A d) : (w 23 (8 * b + d) 5 = 0 ↔ ¬ pj_there A d) := by
  rw [(R.2.2.1 d h).2.2.1]
  split <;> rename_i h1 <;> simp [h1]
theorem pj_Lp_cnt {ρ : Type} {body : Int × Int → Option ((Int × Int) ⊕ ρ)} (p : Nat → Prop) [DecidablePred p] (n : Nat) {r : ρ} (hn : n ≤ 2000)
    (h : ∀ i : Nat, i < n → ∀ a : Int, body (a, (i : Int)) = some (.inl (if p i then pj_wr (a + 1) else a, (i : Int) + 1))) (he : body (pj_sum (fun i => if p i then 1 else 0) n, (n : Int)) = some (.inr r)) : pj_Lp body (0, 0) = some r := by
  refine pj_Lp_fo (fun i => (pj_sum (fun i => if p i then 1 else 0) i, (i : Int))) n (fun i hi => ?_) he
  have h1 := pj_sum_in (g := fun i => if p i then 1 else 0) (n := i) (M := 1) (fun j hj => by split <;> omega)
  show body (pj_sum (fun i => if p i then 1 else 0) i, (i : Int)) = some (.inl (pj_sum (fun i => if p i then 1 else 0) i + (if p i then 1 else 0), _))
  rw [h i hi]
  by_cases c : p i
  · rw [if_pos c, if_pos c, pj_wr_id (by omega) (by omega)]; rfl
  · rw [if_neg c, if_neg c, Int.add_zero]; rfl
section
variable {b : Int} {w : pj_W} {A : pj_Q}
theorem xq_findAt (R : pj_RB b w A) (I : pj_IV A) (d : Int) : fB_findAt b d w = some (if pj_isD A d then 8 * b + d else -1) := by
  have hA := I.1
  have h8 : w 19 b 8 = A 2 := R.1.2.2.2.2.2.2
  unfold fB_findAt fB_findAt_21
  rw [h8]
  by_cases h : d < 0
  · rw [if_pos h, if_neg (by omega)]
  · by_cases h2 : A 2 ≤ d
    · rw [if_neg h, if_pos h2, if_neg (by omega)]
    · rw [if_neg h, if_neg h2, if_pos (by omega), if_pos (by omega)]
theorem xq_finderAt (R : pj_RB b w A) (I : pj_IV A) (f : Int) : fB_finderAt b f w = some (if pj_isF A f then 6 * b + f else -1) := by
  have hA := I.1
  have h7 : w 19 b 7 = A 1 := R.1.2.2.2.2.2.1
  unfold fB_finderAt fB_finderAt_21
  rw [h7]
  by_cases h : f < 0
  · rw [if_pos h, if_neg (by omega)]
  · by_cases h2 : A 1 ≤ f
    · rw [if_neg h, if_pos h2, if_neg (by omega)]
    · rw [if_neg h, if_neg h2, if_pos (by omega), if_pos (by omega)]
theorem xq_lastSet (R : pj_RB b w A) (I : pj_IV A) {d : Int} (h : pj_isD A d) : fN_lastSet (8 * b + d) w = some (q_last A d) := by
  have hD := I.2.2.2.1 d h.1 h.2
  have h6 : w 23 (8 * b + d) 6 = pj_many A d := (R.2.2.1 d h).2.2.2
  have hl : ∀ n : Nat, (n : Int) ≤ pj_many A d → ∀ s, fN_lastSet_9 (8 * b + d) w (s, (n : Int) - 1) = some (pj_lst A d n s) := by
    intro n
    induction n with
    | zero =>
      intro _ s
      refine pj_Lp_end ?_
      unfold fN_lastSet_9b
      rw [if_pos (by simp)]
      rfl
    | succ n ih =>
      intro hn s
      have hn' : ((n + 1 : Nat) : Int) = n + 1 := by omega
      have hs : pj_wr ((n : Int) + -1) = (n : Int) - 1 := pj_wr_id (by omega) (by omega)
      have h1 := R.2.2.2 d n h (by omega) (by omega)
      have h2 := R.2.2.2 d (pj_many A d - 1) h (by omega) (by omega)
      unfold pj_lst
      by_cases he : pj_min A d n = pj_min A d (pj_many A d - 1)
      · rw [if_pos he, ← ih (by omega)]
        refine pj_Lp_st ?_
        unfold fN_lastSet_9b
        simp only [hn', Int.add_sub_cancel]
        rw [if_neg (by omega), if_pos (by omega), h6, pj_wr_id (by omega) (by omega), if_pos (by omega), h1.1, h1.2, h2.2, if_pos he, hs]
      · rw [if_neg he]
        refine pj_Lp_end ?_
        unfold fN_lastSet_9b
        simp only [hn', Int.add_sub_cancel]
        rw [if_neg (by omega), if_pos (by omega), h6, pj_wr_id (by omega) (by omega), if_pos (by omega), h1.1, h1.2, h2.2, if_neg he]
  unfold fN_lastSet q_last
  rw [h6, pj_wr_id (by omega) (by omega)]
  have := hl (pj_many A d).toNat (by omega) 0
  rwa [show ((pj_many A d).toNat : Int) = pj_many A d from Int.toNat_of_nonneg (by omega)] at this
theorem xq_lohi_d : ∀ s : Fin 64, pj_LpN (fun t : Int => fB_firstOf_2b s.val (fun _ _ _ => 0) t) 7 0 = some (pj_lo s.val) ∧ pj_LpN (fun t : Int => fB_lastOf_2b s.val (fun _ _ _ => 0) t) 7 5 = some (pj_hi s.val) := by decide +kernel
theorem xq_firstOf {s : Int} (h : 0 ≤ s) (h2 : s < 64) (w : pj_W) : fB_firstOf s w = some (pj_lo s) := by
  have := (xq_lohi_d ⟨s.toNat, by omega⟩).1
  simp only [Int.toNat_of_nonneg h] at this
  exact pj_Lp_of (n := 7) this
theorem xq_lastOf {s : Int} (h : 0 ≤ s) (h2 : s < 64) (w : pj_W) : fB_lastOf s w = some (pj_hi s) := by
  have := (xq_lohi_d ⟨s.toNat, by omega⟩).2
  simp only [Int.toNat_of_nonneg h] at this
  exact pj_Lp_of (n := 7) this
theorem xq_heirs (R : pj_RB b w A) (I : pj_IV A) (hb : 0 ≤ b) {d : Int} (h : pj_isD A d) : fB_heirs b (8 * b + d) w = some (pj_own A d) := by
  have hA := I.1
  have hl := pj_last_in I h.1 h.2
  have h5 : w 19 b 5 = A 5 := R.1.2.2.2.1
  unfold fB_heirs pj_own
  rw [if_pos (by omega), xq_lastSet R I h, Option.bind_some, xq_bitCount hl.1 (by omega), Option.bind_some, h5]
  by_cases c1 : 2 ≤ pj_pc (q_last A d)
  · rw [if_pos c1]
    by_cases c2 : A 5 = 0
    · rw [if_pos c2, if_neg (by omega), if_pos c2]
    · rw [if_neg c2, xq_firstOf hl.1 hl.2, xq_lastOf hl.1 hl.2]
      by_cases c3 : A 5 = 1
      · rw [if_pos c3, if_neg (by omega), if_neg c2, if_pos c3]; rfl
      · rw [if_neg c3]
        by_cases c4 : A 5 = 2
        · rw [if_pos c4, if_neg (by omega), if_neg c2, if_neg c3]; rfl
        · rw [if_neg c4, if_pos (by omega)]
  · rw [if_neg c1, if_pos (by omega)]
theorem pj_notThere (I : pj_IV A) {d : Int} (h : pj_isD A d) (c : ¬ pj_there A d) : pj_many A d = 0 := by
  have hA := I.1
  rcases I.2.1 with h1 | h1
  · exfalso
    apply c
    have hp : (2 : Int) ^ (A 2).toNat - 1 = ((2 ^ (A 2).toNat - 1 : Nat) : Int) := by
      have := Nat.two_pow_pos (A 2).toNat
      rw [Int.ofNat_sub (by omega), Int.natCast_pow]; rfl
    have h256 : 2 ^ (A 2).toNat ≤ 2 ^ 8 := Nat.pow_le_pow_right (by decide) (by omega)
    have := pj_bit_n (s := 2 ^ (A 2).toNat - 1) (i := d.toNat) (by omega) (by omega)
    show pj_and (pj_shr (A 7) d) 1 = 1
    rw [Int.toNat_of_nonneg h.1] at this
    rw [h1, hp, this, Nat.testBit_two_pow_sub_one, if_pos (by rw [decide_eq_true_eq]; omega)]
  · exact h1.2 d h.1 h.2
theorem pj_last_0 {d : Int} (h : pj_many A d = 0) : q_last A d = 0 := by unfold q_last; rw [h]; rfl
theorem pj_own_0 {d : Int} (h : pj_many A d = 0) : pj_own A d = 0 := by
  unfold pj_own; rw [pj_last_0 h, if_pos (Or.inl (by decide))]
theorem xq_shareOf (R : pj_RB b w A) (I : pj_IV A) (hb : 0 ≤ b) {f d : Int} (hf : 0 ≤ f) (hf2 : f < 6) (h : pj_isD A d) : fB_shareOf b f (8 * b + d) w = some (pj_share A f d) := by
  have ho := pj_own_in I h.1 h.2
  have hD := I.2.2.2.1 d h.1 h.2
  have hp := pj_pc_in ho.1 (by omega : pj_own A d < 256)
  have h4 : w 23 (8 * b + d) 4 = A (40 + 3 * d + 1) := (R.2.2.1 d h).2.1
  unfold fB_shareOf pj_share
  rw [xq_heirs R I hb h, Option.bind_some, xq_bitCount ho.1 (by omega), Option.bind_some, h4]
  have hth : pj_and (pj_shr (pj_own A d) f) 1 = 1 → pj_there A d := fun x => by
    by_cases c : pj_there A d
    · exact c
    · exfalso
      rw [pj_own_0 (pj_notThere I h c)] at x
      exact absurd (pj_bit_pc (s := 0) (by omega) (by omega) hf (by omega : f < 8) x) (by decide)
  by_cases c2 : pj_and (pj_shr (pj_own A d) f) 1 = 1
  · have h1 := pj_bit_pc ho.1 (by omega) hf (by omega : f < 8) c2
    rw [if_neg (by omega), if_pos c2, if_pos (by omega), if_pos (by omega), if_pos ⟨hth c2, c2⟩, pj_div_id (by omega) (by omega) h1]
  · by_cases c3 : pj_pc (pj_own A d) ≤ 0
    · rw [if_pos c3, if_neg (fun x => c2 x.2)]
    · rw [if_neg c3, if_neg c2, if_neg (fun x => c2 x.2)]
theorem xq_leadOf (R : pj_RB b w A) (I : pj_IV A) (hb : 0 ≤ b) {f : Int} (hf : 0 ≤ f) (hf2 : f < 6) : fB_leadOf b f w = some (pj_lead A f) := by
  have hA := I.1
  have h8 : w 19 b 8 = A 2 := R.1.2.2.2.2.2.2
  unfold fB_leadOf pj_lead
  refine pj_Lp_sum (fun d => pj_share A f d) (A 2).toNat 999 (fun i hi => pj_share_in I hf hf2 (by omega) (by omega)) (by omega) (by omega) (by omega) (fun i hi a => ?_) ?_
  · show fB_leadOf_4b b f w a i = _
    unfold fB_leadOf_4b
    rw [h8, if_neg (by omega), if_pos (by omega), xq_shareOf R I hb hf hf2 ⟨by omega, by omega⟩, Option.bind_some, pj_wri (by omega)]
  · show fB_leadOf_4b b f w _ _ = _
    unfold fB_leadOf_4b
    rw [h8, if_pos (by omega)]
theorem xq_findersAhead (R : pj_RB b w A) (I : pj_IV A) (hb : 0 ≤ b) {f : Int} (hf : 0 ≤ f) (hf2 : f < 6) : fB_findersAhead b f w = some (pj_ahead A f) := by
  have hA := I.1
  have h7 : w 19 b 7 = A 1 := R.1.2.2.2.2.2.1
  unfold fB_findersAhead pj_ahead
  rw [xq_leadOf R I hb hf hf2, Option.bind_some]
  refine pj_Lp_cnt (fun g => pj_lead A g > pj_lead A f ∨ pj_lead A g = pj_lead A f ∧ (g : Int) < f) (A 1).toNat (by omega) (fun i hi a => ?_) ?_
  · show fB_findersAhead_11b b f (pj_lead A f) w a i = _
    unfold fB_findersAhead_11b fB_findersAhead_46 fB_findersAhead_49
    rw [h7, if_neg (by omega), xq_leadOf R I hb (by omega) (by omega), Option.bind_some, pj_wri (by omega)]
    by_cases c1 : pj_lead A f < pj_lead A i
    · rw [if_pos c1, if_pos (Or.inl c1)]
    · rw [if_neg c1]
      by_cases c2 : pj_lead A i = pj_lead A f
      · rw [if_pos c2]
        by_cases c3 : f ≤ i
        · rw [if_pos c3, if_neg (by omega)]
        · rw [if_neg c3, if_pos (by omega)]
      · rw [if_neg c2, if_neg (by omega)]
  · show fB_findersAhead_11b b f (pj_lead A f) w _ _ = _
    unfold fB_findersAhead_11b
    rw [h7, if_pos (by omega)]
theorem xq_ranking (R : pj_RB b w A) (I : pj_IV A) (hb : 0 ≤ b) (k : Int) : fB_ranking b k w = some (pj_rank A k) := by
  have hA := I.1
  have h7 : w 19 b 7 = A 1 := R.1.2.2.2.2.2.1
  unfold fB_ranking pj_rank
  refine (pj_Lp_ff (fun i : Nat => (i : Int)) (fun f => pj_ahead A f = k) (A 1).toNat (r := fun i => (i : Int)) (e := -1) (fun i hi hp => ?_) (fun i hi hp => ?_) ?_).trans ?_
  · show fB_ranking_2b b k w i = _
    unfold fB_ranking_2b
    rw [h7, if_neg (by omega), xq_findersAhead R I hb (by omega) (by omega), Option.bind_some, if_neg hp, pj_wri (by omega)]; rfl
  · show fB_ranking_2b b k w i = _
    unfold fB_ranking_2b
    rw [h7, if_neg (by omega), xq_findersAhead R I hb (by omega) (by omega), Option.bind_some, if_pos hp]
  · show fB_ranking_2b b k w _ = _
    unfold fB_ranking_2b
    rw [h7, if_pos (by omega)]
  · rfl
theorem xq_tallyOf (R : pj_RB b w A) (I : pj_IV A) (f : Int) {d : Int} (h : pj_isD A d) : fN_tallyOf (8 * b + d) f w = some (pj_tal A f d) := by
  have hD := I.2.2.2.1 d h.1 h.2
  have h6 : w 23 (8 * b + d) 6 = pj_many A d := (R.2.2.1 d h).2.2.2
  unfold fN_tallyOf pj_tal
  refine pj_Lp_cnt (fun k : Nat => pj_who A d k = f) (pj_many A d).toNat (by omega) (fun i hi a => ?_) ?_
  · show fN_tallyOf_4b (8 * b + d) f w a i = _
    have hK := R.2.2.2 d i h (by omega) (by omega)
    unfold fN_tallyOf_4b fN_tallyOf_25
    rw [h6, if_neg (by omega), if_pos (by omega), hK.1, pj_wri (by omega)]
  · show fN_tallyOf_4b (8 * b + d) f w _ _ = _
    unfold fN_tallyOf_4b
    rw [h6, if_pos (by omega)]
theorem xq_strewnBy (R : pj_RB b w A) (I : pj_IV A) (f : Int) : fB_strewnBy b f w = some (pj_strewn A f) := by
  have hA := I.1
  have h8 : w 19 b 8 = A 2 := R.1.2.2.2.2.2.2
  unfold fB_strewnBy pj_strewn
  refine pj_Lp_sum (fun d : Nat => pj_tal A f d) (A 2).toNat 60 (fun i hi => by have := pj_tal_in I f (d := (i : Int)) (by omega) (by omega); omega) (by omega) (by omega) (by omega) (fun i hi a => ?_) ?_
  · show fB_strewnBy_4b b f w a i = _
    unfold fB_strewnBy_4b
    rw [h8, if_neg (by omega), if_pos (by omega), xq_tallyOf R I f ⟨by omega, by omega⟩, Option.bind_some, pj_wri (by omega)]
  · show fB_strewnBy_4b b f w _ _ = _
    unfold fB_strewnBy_4b
    rw [h8, if_pos (by omega)]
theorem pj_bhd_rec {d f : Int} (n : Nat) : pj_fo (fun k a => if pj_who A d k = f then a else max a (pj_min A d k + 1)) (n + 1) 0 = if pj_who A d n = f then pj_fo (fun k a => if pj_who A d k = f then a else max a (pj_min A d k + 1)) n 0 else max (pj_fo (fun k a => if pj_who A d k = f then a else max a (pj_min A d k + 1)) n 0) (pj_min A d n + 1) := rfl
theorem pj_bhd_le (I : pj_IV A) {d f : Int} (h : pj_isD A d) (n : Nat) (hn : (n : Int) < pj_many A d) : pj_fo (fun k a => if pj_who A d k = f then a else max a (pj_min A d k + 1)) n 0 ≤ pj_min A d n + 1 := by
  refine pj_fo_inv (fun (i : Nat) (a : Int) => a ≤ pj_min A d n + 1) ?_ (fun i hi a ha => ?_)
  · have := I.2.2.2.2.1 d n h.1 h.2 (by omega) hn; omega
  · have := I.2.2.2.2.2.1 d i n h.1 h.2 (by omega) (by omega) hn
    split <;> omega
theorem xq_behindOthers (R : pj_RB b w A) (I : pj_IV A) (f : Int) {d : Int} (h : pj_isD A d) : fN_behindOthers (8 * b + d) f w = some (pj_bhd A f d) := by
  have hA := I.1
  have hD := I.2.2.2.1 d h.1 h.2
  have h6 : w 23 (8 * b + d) 6 = pj_many A d := (R.2.2.1 d h).2.2.2
  have hl : ∀ n : Nat, (n : Int) ≤ pj_many A d → fN_behindOthers_7 (8 * b + d) f w ((n : Int) - 1) = some (pj_fo (fun k a => if pj_who A d k = f then a else max a (pj_min A d k + 1)) n 0) := by
    intro n
    induction n with
    | zero =>
      intro _
      refine pj_Lp_end ?_
      unfold fN_behindOthers_7b
      rw [if_pos (by simp)]
      rfl
    | succ n ih =>
      intro hn
      have hn' : ((n + 1 : Nat) : Int) - 1 = n := by omega
      have hK := R.2.2.2 d n h (by omega) (by omega)
      have hK2 := I.2.2.2.2.1 d n h.1 h.2 (by omega) (by omega)
      rw [pj_bhd_rec, hn']
      by_cases c : pj_who A d n = f
      · rw [if_pos c, ← ih (by omega)]
        refine pj_Lp_st ?_
        unfold fN_behindOthers_7b
        rw [if_neg (by omega), if_pos (by omega), hK.1, if_pos c, pj_wr_id (by omega) (by omega)]; rfl
      · rw [if_neg c]
        refine pj_Lp_end ?_
        have hle := pj_bhd_le I (f := f) h n (by omega)
        unfold fN_behindOthers_7b
        rw [if_neg (by omega), if_pos (by omega), hK.1, hK.2, if_neg c, pj_wr_id (by omega) (by omega)]
        congr 2
        omega
  unfold fN_behindOthers pj_bhd
  rw [h6, pj_wr_id (by omega) (by omega)]
  have := hl (pj_many A d).toNat (by omega)
  rwa [show ((pj_many A d).toNat : Int) = pj_many A d from Int.toNat_of_nonneg (by omega)] at this
theorem pj_abs_sub (a c : Int) (h : -1000 < a - c ∧ a - c < 1000) : pj_abs (a - c) = pj_abs (c - a) := by
  unfold pj_abs pj_wr
  split <;> split <;> omega
theorem xq_minutesTo (R : pj_RB b w A) (I : pj_IV A) {f c : Int} (hf : pj_isF A f) (hc : 0 ≤ c) (hc2 : c < 40) : fF_minutesTo (6 * b + f) c w = some (pj_walk A f c) := by
  have hA := I.1
  have hF := I.2.2.1 f hf.1 hf.2
  have hR := R.2.1 f hf
  have hW := pj_walk_in I hf.1 hf.2 hc hc2
  have h1 := pj_abs_in (a := c) (b := A (10 + 5 * f)) (by omega) (by omega) (by omega) (by omega)
  unfold fF_minutesTo
  rw [hR.1, hR.2.1, h1.1, pj_abs_sub _ _ (by omega)]
  unfold pj_walk at hW ⊢
  rw [pj_wr_id (by omega) (by omega)]
theorem xq_soonestOf (R : pj_RB b w A) (I : pj_IV A) (hb : 0 ≤ b) {f d : Int} (hf : pj_isF A f) (h : pj_isD A d) : fB_soonestOf b f (8 * b + d) w = some (pj_soon A f d) := by
  have hA := I.1
  have hF := I.2.2.1 f hf.1 hf.2
  have hD := I.2.2.2.1 d h.1 h.2
  have hRF := R.2.1 f hf
  have hRD := R.2.2.1 d h
  have h3 : w 19 b 3 = A 3 := R.1.2.1
  have hW := pj_walk_in I hf.1 hf.2 (c := A (40 + 3 * d)) (by omega) (by omega)
  unfold fB_soonestOf pj_soon
  rw [xq_finderAt R I, if_pos hf, Option.bind_some, if_neg (by have := hf.1; omega), if_pos (by have := h.1; omega)]
  by_cases c : pj_there A d
  · rw [if_neg (by rw [R.th h]; exact fun x => x c), hRF.2.2.1]
    by_cases c2 : A (10 + 5 * f + 2) = 0
    · rw [if_pos c2, if_neg (fun x => x.2 c2)]
    · rw [if_neg c2, if_pos ⟨c, c2⟩, hRD.1, xq_minutesTo R I hf (by omega) (by omega), Option.bind_some, xq_behindOthers R I f h, Option.bind_some, hRF.2.2.2.1, h3, pj_wr_id (by omega) (by omega)]
      by_cases c3 : max (A (10 + 5 * f + 3) + pj_walk A f (A (40 + 3 * d))) (pj_bhd A f d) ≤ A 3
      · rw [if_neg (by omega), if_pos c3]
      · rw [if_pos (by omega), if_neg c3]
  · rw [if_pos ((R.th h).mpr c), if_neg (fun x => c x.1)]
theorem xq_threatTo (R : pj_RB b w A) (I : pj_IV A) (hb : 0 ≤ b) {d : Int} (h : pj_isD A d) : fB_threatTo b (8 * b + d) w = some (pj_thr A d) := by
  have hA := I.1
  have h7 : w 19 b 7 = A 1 := R.1.2.2.2.2.2.1
  unfold fB_threatTo pj_thr
  refine pj_Lp_un (fun f => pj_soon A f d ≠ -1) (A 1).toNat (by omega) (fun i hi a ha ha2 => ?_) ?_
  · show fB_threatTo_4b b (8 * b + d) w a i = _
    unfold fB_threatTo_4b fB_threatTo_28
    rw [h7, if_neg (by omega), xq_soonestOf R I hb ⟨by omega, by omega⟩ h, Option.bind_some, pj_wri (by omega)]
    by_cases c : pj_soon A i d = -1
    · rw [if_pos c, if_neg (fun x => x c)]
    · rw [if_neg c, if_pos c]
  · show fB_threatTo_4b b (8 * b + d) w _ _ = _
    unfold fB_threatTo_4b
    rw [h7, if_pos (by omega)]
theorem xq_sightOf (R : pj_RB b w A) (I : pj_IV A) (hb : 0 ≤ b) {f : Int} (hf : pj_isF A f) (r : Int) : fB_sightOf b (6 * b + f) r w = some (pj_sight A f r) := by
  have hA := I.1
  have hF := I.2.2.1 f hf.1 hf.2
  have hRF := R.2.1 f hf
  have h8 : w 19 b 8 = A 2 := R.1.2.2.2.2.2.2
  unfold fB_sightOf pj_sight
  refine pj_Lp_un (fun d => pj_there A d ∧ pj_abs (A (40 + 3 * d) - A (10 + 5 * f)) ≤ r) (A 2).toNat (by omega) (fun i hi a ha ha2 => ?_) ?_
  · show fB_sightOf_5b b (6 * b + f) r w a i = _
    have hi' : pj_isD A (i : Int) := ⟨by omega, by omega⟩
    have hD := I.2.2.2.1 i (by omega) (by omega)
    have hRD := R.2.2.1 i hi'
    have h1 := pj_abs_in (a := A (40 + 3 * i)) (b := A (10 + 5 * f)) (by omega) (by omega) (by omega) (by omega)
    unfold fB_sightOf_5b fB_sightOf_56
    rw [h8, if_neg (by omega), if_pos (by omega), pj_wri (by omega)]
    by_cases c1 : pj_there A i
    · rw [if_neg (by rw [R.th hi']; exact fun x => x c1), if_pos (by have := hf.1; omega), hRD.1, hRF.1, h1.1]
      by_cases c2 : r < pj_abs (A (40 + 3 * i) - A (10 + 5 * f))
      · rw [if_pos c2, if_neg (by omega)]
      · rw [if_neg c2, if_pos ⟨c1, by omega⟩]
    · rw [if_pos ((R.th hi').mpr c1), if_neg (fun x => c1 x.1)]
  · show fB_sightOf_5b b (6 * b + f) r w _ _ = _
    unfold fB_sightOf_5b
    rw [h8, if_pos (by omega)]
end
