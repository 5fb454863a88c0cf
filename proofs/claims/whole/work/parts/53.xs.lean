/-! THE CLASS'S ANSWERS, further -/
theorem pj_pair_d : ∀ s : Fin 64, ∀ a b : Fin 6, (pj_and (s.val : Int) (pj_or (pj_shl 1 (a.val : Int)) (pj_shl 1 (b.val : Int))) = pj_or (pj_shl 1 (a.val : Int)) (pj_shl 1 (b.val : Int)) ↔ s.val.testBit a.val = true ∧ s.val.testBit b.val = true) := by decide +kernel
theorem pj_sum_pos {p : Nat → Prop} [DecidablePred p] {n : Nat} : 0 < pj_sum (fun i => if p i then 1 else 0) n ↔ ∃ i, i < n ∧ p i := by
  constructor
  · intro h
    by_cases c : ∃ i, i < n ∧ p i
    · exact c
    · rw [pj_sum_0 (fun i hi => if_neg fun x => c ⟨i, hi, x⟩)] at h; omega
  · rintro ⟨i, hi, hp⟩
    have h1 := pj_sum_lt (g := fun _ => 0) (h := fun i => if p i then 1 else 0) (n := n) (i := i) (fun j hj => by split <;> omega) hi (by rw [if_pos hp]; omega)
    rw [pj_sum_0 (fun i hi => rfl)] at h1
    exact h1
section
variable {w : pj_W} {A : pj_Q}
theorem xs_rivals (R : pj_RB (w 10 0 10) w A) (I : pj_IV A) (hb : 0 ≤ w 10 0 10) (a b : Int) : fX_rivals a b w = pj_aX (if pj_isF A a ∧ pj_isF A b ∧ a ≠ b then (pj_rivals A a b, 0) else (-1, 1)) w := by
  have hA := I.1
  have h8 : w 19 (w 10 0 10) 8 = A 2 := R.1.2.2.2.2.2.2
  unfold fX_rivals fX_rivals_27
  rw [if_pos hb, xq_finderAt R I, xq_finderAt R I, Option.bind_some]
  by_cases c : pj_isF A a
  · rw [if_pos c, if_neg (by have := c.1; omega), Option.bind_some]
    by_cases c1 : pj_isF A b
    · rw [if_pos c1, if_neg (by have := c1.1; omega)]
      by_cases c2 : a = b
      · rw [if_pos c2, if_neg (fun x => x.2.2 c2)]; rfl
      · rw [if_neg c2, if_pos ⟨c, c1, c2⟩]
        refine pj_Lp_un (fun d => 0 < pj_tal A a d ∧ 0 < pj_tal A b d) (A 2).toNat (by omega) (fun i hi s hs hs2 => ?_) ?_
        · show fX_rivals_47b (pj_or (pj_shl 1 a) (pj_shl 1 b)) w s i = _
          have hi' : pj_isD A (i : Int) := ⟨by omega, by omega⟩
          have hD := I.2.2.2.1 i hi'.1 hi'.2
          obtain ⟨t, e1, e2, e3⟩ := pj_all_n I hi'.1 hi'.2 (n := (pj_many A i).toNat) (by omega)
          have hp := pj_pair_d ⟨t, e2⟩ ⟨a.toNat, by have := c.2; omega⟩ ⟨b.toNat, by have := c1.2; omega⟩
          simp only [Int.toNat_of_nonneg c.1, Int.toNat_of_nonneg c1.1] at hp
          have ta : t.testBit a.toNat = true ↔ 0 < pj_tal A a i := by
            rw [e3, Int.toNat_of_nonneg c.1]; exact pj_sum_pos.symm
          have tb : t.testBit b.toNat = true ↔ 0 < pj_tal A b i := by
            rw [e3, Int.toNat_of_nonneg c1.1]; exact pj_sum_pos.symm
          unfold fX_rivals_47b fX_rivals_87
          rw [if_pos hb, h8, if_neg (by omega), if_pos (by omega), xq_ownerSet R I hi', Option.bind_some, pj_wri (by omega)]
          unfold pj_all
          rw [e1]
          by_cases c3 : pj_and (t : Int) (pj_or (pj_shl 1 a) (pj_shl 1 b)) = pj_or (pj_shl 1 a) (pj_shl 1 b)
          · rw [if_pos c3, if_pos ⟨ta.mp (hp.mp c3).1, tb.mp (hp.mp c3).2⟩]
          · rw [if_neg c3, if_neg (fun x => c3 (hp.mpr ⟨ta.mpr x.1, tb.mpr x.2⟩))]
        · show fX_rivals_47b _ w _ _ = _
          unfold fX_rivals_47b
          rw [if_pos hb, h8, if_pos (by omega)]; rfl
    · rw [if_neg c1, if_pos (by omega), if_neg (fun x => c1 x.2.1)]; rfl
  · rw [if_neg c, if_pos (by omega), if_neg (fun x => c x.1)]; rfl
theorem xs_richest (R : pj_RB (w 10 0 10) w A) (I : pj_IV A) (hb : 0 ≤ w 10 0 10) : fX_richest w = pj_aX (qs_or (pj_richest A)) w := by
  have hA := I.1
  have h8 : w 19 (w 10 0 10) 8 = A 2 := R.1.2.2.2.2.2.2
  unfold fX_richest pj_richest
  let F : Nat → Int := fun i => pj_fo (fun d a => if pj_there A d ∧ (a = -1 ∨ A (40 + 3 * a + 1) < A (40 + 3 * d + 1)) then (d : Int) else a) i (-1)
  refine pj_Lp_fo (fun i => (F i, (if F i = -1 then -1 else A (40 + 3 * F i + 1)), (i : Int))) (A 2).toNat (fun i hi => ?_) ?_
  · have hr := pj_rich_in (A := A) i
    have hs : F (i + 1) = if pj_there A i ∧ (F i = -1 ∨ A (40 + 3 * F i + 1) < A (40 + 3 * (i : Int) + 1)) then (i : Int) else F i := rfl
    have hi' : pj_isD A (i : Int) := ⟨by omega, by omega⟩
    have hD := I.2.2.2.1 i hi'.1 hi'.2
    have hRD := R.2.2.1 i hi'
    change -1 ≤ F i ∧ F i < i at hr
    show fX_richest_6b w (F i) (if F i = -1 then -1 else A (40 + 3 * F i + 1)) i = some (Sum.inl (F (i + 1), (if F (i + 1) = -1 then -1 else A (40 + 3 * F (i + 1) + 1)), _))
    rw [hs]
    generalize F i = a at hr ⊢
    unfold fX_richest_6b fX_richest_53
    rw [if_pos hb, h8, if_neg (by omega), if_pos (by omega), hRD.2.1, pj_wri (by omega)]
    by_cases c1 : pj_there A i
    · rw [if_neg (by rw [R.th hi']; exact fun x => x c1)]
      by_cases c2 : a = -1
      · subst c2
        rw [if_pos rfl, if_neg (by omega), if_pos (by exact ⟨c1, Or.inl rfl⟩), if_neg (by omega)]; rfl
      · have hDa := I.2.2.2.1 a (by omega) (by omega)
        rw [if_neg c2]
        by_cases c3 : A (40 + 3 * (i : Int) + 1) ≤ A (40 + 3 * a + 1)
        · rw [if_pos c3, if_neg (by omega), if_neg c2]; rfl
        · rw [if_neg c3, if_pos (by exact ⟨c1, Or.inr (by omega)⟩), if_neg (by omega)]; rfl
    · rw [if_pos ((R.th hi').mpr c1), if_neg (show ¬ (pj_there A i ∧ (a = -1 ∨ A (40 + 3 * a + 1) < A (40 + 3 * (i : Int) + 1))) from fun x => c1 x.1)]; rfl
  · show fX_richest_6b w (F (A 2).toNat) _ (((A 2).toNat : Nat) : Int) = _
    unfold fX_richest_6b
    rw [if_pos hb, h8, if_pos (by omega)]
    unfold qs_or
    by_cases c : F (A 2).toNat = -1
    · rw [if_pos c]; show _ = some (Sum.inr ((ite _ _ _ : Int × Int).1, pj_set w 10 0 15 (ite _ _ _ : Int × Int).2)); rw [if_pos c]; rfl
    · rw [if_neg c]; show _ = some (Sum.inr ((ite _ _ _ : Int × Int).1, pj_set w 10 0 15 (ite _ _ _ : Int × Int).2)); rw [if_neg c]; rfl
theorem xs_left (R : pj_RB (w 10 0 10) w A) (I : pj_IV A) (hb : 0 ≤ w 10 0 10) (d : Int) : fX_left d w = pj_aX (if qs_wl A d = 0 then (A 3 - pj_min A d (pj_many A d - 1), 0) else (-1, qs_wl A d)) w := by
  have hA := I.1
  have h3 : w 19 (w 10 0 10) 3 = A 3 := R.1.2.1
  unfold fX_left qs_wl
  rw [if_pos hb, xq_findAt R I, Option.bind_some]
  by_cases c : pj_isD A d
  · have h6 : w 23 (8 * (w 10 0 10) + d) 6 = pj_many A d := (R.2.2.1 d c).2.2.2
    have hD := I.2.2.2.1 d c.1 c.2
    rw [if_pos c, if_pos c, if_neg (by have := c.1; omega)]
    by_cases c1 : pj_there A d
    · rw [if_neg (by rw [R.th c]; exact fun x => x c1), if_pos c1, h6]
      by_cases c2 : pj_many A d = 0
      · rw [if_pos c2, if_pos c2]; rfl
      · have hK := I.2.2.2.2.1 d (pj_many A d - 1) c.1 c.2 (by omega) (by omega)
        rw [if_neg c2, if_neg c2, xq_latestMinute R I c, Option.bind_some, if_pos (by omega), h3, pj_wr_id (by omega) (by omega)]; rfl
    · rw [if_pos ((R.th c).mpr c1), if_neg c1]; rfl
  · rw [if_neg c, if_neg c, if_pos (by omega)]; rfl
theorem xs_tideIn (R : pj_RB (w 10 0 10) w A) (I : pj_IV A) (hb : 0 ≤ w 10 0 10) (k : Int) : fX_tideIn k w = pj_aX (qs_upto 0 99 k (max 1 (A 3 - k * A 4), 0)) w := by
  have hA := I.1
  have h3 : w 19 (w 10 0 10) 3 = A 3 := R.1.2.1
  have h4 : w 19 (w 10 0 10) 4 = A 4 := R.1.2.2.1
  unfold fX_tideIn fX_tideIn_10 fB_tideAfter qs_upto
  by_cases c : k < 0
  · rw [if_pos c, if_neg (by omega)]; rfl
  · by_cases c1 : k ≤ 99
    · have h1 : k * A 4 ≤ 99 * 60 := Int.mul_le_mul (by omega) (by omega) (by omega) (by omega)
      have h2 : 0 ≤ k * A 4 := Int.mul_nonneg (by omega) (by omega)
      rw [if_neg c, if_pos c1, if_pos hb, if_pos (by omega), h3, h4, Int.mul_comm (A 4) k, pj_wr_id (x := k * A 4) (by omega) (by omega), pj_wr_id (by omega) (by omega)]; rfl
    · rw [if_neg c, if_neg c1, if_neg (by omega)]; rfl
theorem xs_latest (R : pj_RB (w 10 0 10) w A) (I : pj_IV A) (hb : 0 ≤ w 10 0 10) : fX_latest w = pj_aX (qs_or (pj_latest A)) w := by
  have hA := I.1
  have h8 : w 19 (w 10 0 10) 8 = A 2 := R.1.2.2.2.2.2.2
  have hge : ∀ n, -1 ≤ pj_fo (fun (d : Nat) (a : Int) => if 0 < pj_many A d then max a (pj_min A d (pj_many A d - 1)) else a) n (-1) := fun n => by
    refine pj_fo_inv (fun (_ : Nat) (a : Int) => -1 ≤ a) (by omega) (fun i hi a ha => ?_)
    split <;> omega
  unfold fX_latest pj_latest
  refine pj_Lp_fo (fun i => (pj_fo (fun (d : Nat) (a : Int) => if 0 < pj_many A d then max a (pj_min A d (pj_many A d - 1)) else a) i (-1), (i : Int))) (A 2).toNat (fun i hi => ?_) ?_
  · show fX_latest_4b w _ i = some (Sum.inl (ite _ _ _, _))
    have hg := hge i
    generalize pj_fo _ i (-1 : Int) = a at hg ⊢
    have hi' : pj_isD A (i : Int) := ⟨by omega, by omega⟩
    unfold fX_latest_4b
    dsimp only
    rw [if_pos hb, h8, if_neg (by omega), if_pos (by omega), xq_latestMinute R I hi', Option.bind_some, pj_wri (by omega)]
    by_cases c1 : 0 < pj_many A i
    · rw [if_pos c1, if_pos c1]; rfl
    · rw [if_neg c1, if_neg c1, Int.max_eq_left hg]; rfl
  · show fX_latest_4b w (pj_fo (fun (d : Nat) (a : Int) => if 0 < pj_many A d then max a (pj_min A d (pj_many A d - 1)) else a) (A 2).toNat (-1)) _ = _
    generalize pj_fo _ (A 2).toNat (-1 : Int) = a
    unfold fX_latest_4b qs_or
    rw [if_pos hb, h8, if_pos (by omega)]
    by_cases c : a = -1
    · rw [if_pos c, if_pos c]; rfl
    · rw [if_neg c, if_neg c]; rfl
theorem xs_behind (R : pj_RB (w 10 0 10) w A) (I : pj_IV A) (hb : 0 ≤ w 10 0 10) (f : Int) : fX_behind f w = pj_aX (qs_onF A f (pj_lead A (pj_rank A 0) - pj_lead A f)) w := by
  have hA := I.1
  unfold fX_behind fX_behind_25 qs_onF
  rw [if_pos hb, xq_ranking R I hb, Option.bind_some, xq_finderAt R I, Option.bind_some]
  by_cases c : pj_isF A f
  · have hr := pj_rank0 (A := A) (by have := c.1; have := c.2; omega)
    have h1 := pj_lead_in I (f := f) c.1 (by have := c.2; omega)
    have h2 := pj_lead_in I (f := pj_rank A 0) hr.1 (by have := hr.2; omega)
    rw [if_pos c, if_pos c, if_neg (by have := c.1; omega), if_neg (by have := hr.1; omega), xq_leadOf R I hb hr.1 (by have := hr.2; omega), Option.bind_some, xq_leadOf R I hb c.1 (by have := c.2; omega), Option.bind_some, pj_wr_id (by omega) (by omega)]; rfl
  · rw [if_neg c, if_neg c, if_pos (by omega)]; rfl
theorem xs_alone (R : pj_RB (w 10 0 10) w A) (I : pj_IV A) (hb : 0 ≤ w 10 0 10) : fX_alone w = pj_aX (pj_alone A, 0) w := by
  have hA := I.1
  have h8 : w 19 (w 10 0 10) 8 = A 2 := R.1.2.2.2.2.2.2
  unfold fX_alone
  refine pj_Lp_un (fun d => pj_pc (pj_all A d) = 1) (A 2).toNat (by omega) (fun i hi a ha ha2 => ?_) ?_
  · show fX_alone_4b w a i = _
    have hi' : pj_isD A (i : Int) := ⟨by omega, by omega⟩
    have hD := I.2.2.2.1 i hi'.1 hi'.2
    obtain ⟨t, e1, e2, _⟩ := pj_all_n I hi'.1 hi'.2 (n := (pj_many A i).toNat) (by omega)
    have e3 : pj_all A i = t := e1
    unfold fX_alone_4b fX_alone_40
    rw [if_pos hb, h8, if_neg (by omega), if_pos (by omega), pj_wri (by omega), xq_ownerSet R I hi', Option.bind_some, xq_bitCount (by omega) (by omega), Option.bind_some]
  · show fX_alone_4b w _ _ = _
    unfold fX_alone_4b
    rw [if_pos hb, h8, if_pos (by omega)]; rfl
theorem xs_part (R : pj_RB (w 10 0 10) w A) (I : pj_IV A) (hb : 0 ≤ w 10 0 10) (d k : Int) : fX_part d k w = pj_aX (if pj_isD A d then (if pj_there A d then pj_part A d k else (-1, 7)) else (-1, 1)) w := by
  have hA := I.1
  have h7 : w 19 (w 10 0 10) 7 = A 1 := R.1.2.2.2.2.2.1
  unfold fX_part pj_part
  rw [if_pos hb, xq_findAt R I, Option.bind_some]
  by_cases c : pj_isD A d
  · rw [if_pos c, if_pos c, if_neg (by have := c.1; omega)]
    by_cases c1 : pj_there A d
    · rw [if_neg (by rw [R.th c]; exact fun x => x c1), if_pos c1, xq_lastSet R I c, Option.bind_some]
      let S : Nat → Int := fun i => pj_sum (fun g => if pj_and (pj_shr (q_last A d) g) 1 = 1 then 1 else 0) i
      have hs1 : ∀ i : Nat, 0 ≤ S i ∧ S i ≤ i := fun i => by
        have := pj_sum_in (g := fun g : Nat => if pj_and (pj_shr (q_last A d) g) 1 = 1 then 1 else 0) (n := i) (M := 1) (fun i hi => by split <;> omega)
        show 0 ≤ pj_sum _ _ ∧ pj_sum _ _ ≤ _
        omega
      refine (pj_Lp_ff (fun i : Nat => (S i, (i : Int))) (fun f => pj_and (pj_shr (q_last A d) f) 1 = 1 ∧ pj_sum (fun g => if pj_and (pj_shr (q_last A d) g) 1 = 1 then 1 else 0) f = k) (A 1).toNat (r := fun f => (pj_share A f d, pj_set w 10 0 15 0)) (e := (-1, pj_set w 10 0 15 6)) (fun i hi hp => ?_) (fun i hi hp => ?_) ?_).trans ?_
      · show fX_part_45b k (8 * w 10 0 10 + d) (q_last A d) w (S i) i = some (Sum.inl (S i + (if pj_and (pj_shr (q_last A d) i) 1 = 1 then 1 else 0), _))
        have h1 := hs1 i
        change ¬ (_ ∧ S i = k) at hp
        unfold fX_part_45b fX_part_92
        rw [if_pos hb, h7, if_neg (by omega), pj_wri (by omega)]
        by_cases c2 : pj_and (pj_shr (q_last A d) i) 1 = 1
        · rw [if_pos c2, if_neg (fun x => hp ⟨c2, x⟩), if_pos c2, pj_wr_id (by omega) (by omega)]; rfl
        · rw [if_neg c2, if_neg c2, Int.add_zero]; rfl
      · show fX_part_45b k (8 * w 10 0 10 + d) (q_last A d) w (S i) i = _
        unfold fX_part_45b fX_part_92
        rw [if_pos hb, h7, if_neg (by omega), if_pos hp.1, if_pos hp.2, xq_shareOf R I hb (by omega) (by omega) c]; rfl
      · show fX_part_45b k (8 * w 10 0 10 + d) (q_last A d) w _ _ = _
        unfold fX_part_45b
        rw [if_pos hb, h7, if_pos (by omega)]; rfl
      · cases pj_ff (fun f => pj_and (pj_shr (q_last A d) f) 1 = 1 ∧ pj_sum (fun g => if pj_and (pj_shr (q_last A d) g) 1 = 1 then 1 else 0) f = k) 0 (A 1).toNat <;> rfl
    · rw [if_pos ((R.th c).mpr c1), if_neg c1]; rfl
  · rw [if_neg c, if_neg c, if_pos (by omega)]; rfl
theorem xs_crowd (R : pj_RB (w 10 0 10) w A) (I : pj_IV A) (hb : 0 ≤ w 10 0 10) (r : Int) : fX_crowd r w = pj_aX (qs_upto 1 40 r (pj_crowd A r, 0)) w := by
  have hA := I.1
  have h2 : w 19 (w 10 0 10) 2 = A 0 := R.1.1
  unfold fX_crowd fX_crowd_11 qs_upto
  by_cases c : r < 1
  · rw [if_pos c, if_neg (by omega)]; rfl
  · by_cases c1 : r ≤ 40
    · rw [if_neg c, if_pos c1, if_pos (by omega)]
      refine pj_Lp_fo (fun i => (pj_fo (fun c a => max a (pj_inC A c r)) i 0, (i : Int))) (A 0).toNat (fun i hi => ?_) ?_
      · show fX_crowd_21b r w _ i = _
        unfold fX_crowd_21b
        rw [if_pos hb, h2, if_neg (by omega), xq_findersIn R I i r (by omega) (by omega) (by omega) c1, Option.bind_some, pj_wri (by omega)]; rfl
      · show fX_crowd_21b r w _ _ = _
        unfold fX_crowd_21b
        rw [if_pos hb, h2, if_pos (by omega)]; rfl
    · rw [if_neg c, if_neg c1, if_neg (by omega)]; rfl
end
