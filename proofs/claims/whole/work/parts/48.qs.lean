/-! MORE ANSWERS -/
theorem pj_sum_0 {g : Nat → Int} {n : Nat} (h : ∀ i, i < n → g i = 0) : pj_sum g n = 0 := by
  have := pj_sum_in (g := g) (n := n) (M := 0) (fun i hi => by have := h i hi; omega)
  omega
theorem pj_best_ex (L : Nat → Int) (n : Nat) (hn : 0 < n) : ∃ f, f < n ∧ ∀ g, g < n → ¬ (L g > L f ∨ L g = L f ∧ g < f) := by
  induction n with
  | zero => omega
  | succ n ih =>
    by_cases h : n = 0
    · subst h; exact ⟨0, by omega, fun g hg => by have : g = 0 := by omega
                                                  subst this; omega⟩
    · obtain ⟨f, hf, hb⟩ := ih (by omega)
      by_cases c : L n > L f
      · refine ⟨n, by omega, fun g hg => ?_⟩
        by_cases e : g = n
        · subst e; omega
        · have := hb g (by omega); omega
      · refine ⟨f, by omega, fun g hg => ?_⟩
        by_cases e : g = n
        · subst e; omega
        · exact hb g (by omega)
theorem pj_rank_in {A : pj_Q} {k : Int} : pj_rank A k = -1 ∨ pj_isF A (pj_rank A k) := by
  unfold pj_rank
  cases h : pj_ff (fun f => pj_ahead A f = k) 0 (A 1).toNat with
  | none => exact Or.inl rfl
  | some i =>
    obtain ⟨_, h2, _⟩ := pj_ff_some h
    exact Or.inr ⟨by dsimp only; omega, by dsimp only; omega⟩
theorem pj_rank0 {A : pj_Q} (h : 0 < A 1) : pj_isF A (pj_rank A 0) := by
  rcases pj_rank_in (A := A) (k := 0) with h1 | h1
  · exfalso
    unfold pj_rank at h1
    cases h2 : pj_ff (fun f => pj_ahead A f = 0) 0 (A 1).toNat with
    | some i => rw [h2] at h1; dsimp only at h1; omega
    | none =>
      obtain ⟨f, hf, hb⟩ := pj_best_ex (fun f => pj_lead A f) (A 1).toNat (by omega)
      refine pj_ff_none h2 f (by omega) (by omega) ?_
      refine pj_sum_0 fun g hg => if_neg fun x => hb g hg ?_
      omega
  · exact h1
theorem mt_behind (f : Int) {w : pj_W} (I : pj_IV (w 60 0)) : fM_behind f w = pj_aM (qs_onF (w 60 0) f (pj_lead (w 60 0) (pj_rank (w 60 0) 0) - pj_lead (w 60 0) f)) w := by
  have hA := I.1
  unfold fM_behind qs_onF
  rw [mq_isFinder, Option.bind_some]
  by_cases c : pj_isF (w 60 0) f
  · have hr := pj_rank0 (A := w 60 0) (by omega)
    have h1 := pj_lead_in I (f := f) (by omega) (by omega)
    have h2 := pj_lead_in I (f := pj_rank (w 60 0) 0) (by omega) (by omega)
    rw [if_pos c, if_pos c, if_neg (by omega), mq_atRank I, Option.bind_some, mq_leadOf I (by omega) (by omega), Option.bind_some, mq_leadOf I (by omega) (by omega), Option.bind_some, pj_wr_id (by omega) (by omega)]; rfl
  · rw [if_neg c, if_neg c]; rfl
theorem pj_all_n {A : pj_Q} (I : pj_IV A) {d : Int} (h : 0 ≤ d) (h2 : d < A 2) {n : Nat} (hn : (n : Int) ≤ pj_many A d) : ∃ s : Nat, pj_fo (fun k a => pj_or a (pj_shl 1 (pj_who A d k))) n 0 = s ∧ s < 64 ∧ ∀ f : Nat, s.testBit f = true ↔ ∃ k : Nat, k < n ∧ pj_who A d k = f := by
  have hA := I.1
  induction n with
  | zero => exact ⟨0, rfl, by decide, fun f => ⟨fun x => by simp at x, fun ⟨k, hk, _⟩ => by omega⟩⟩
  | succ n ih =>
    obtain ⟨s, e1, e2, e3⟩ := ih (by omega)
    have hK := I.2.2.2.2.1 d n h h2 (by omega) (by omega)
    have h3 := pj_or_lt (a := s) (i := (pj_who A d n).toNat) (n := 6) (by omega) e2 (by omega)
    rw [Int.toNat_of_nonneg hK.1] at h3
    refine ⟨_, ?_, h3.2, fun f => ?_⟩
    · show pj_or (pj_fo _ n 0) _ = _
      rw [e1, h3.1]
    · rw [Nat.testBit_or, Nat.testBit_two_pow, Bool.or_eq_true, e3, decide_eq_true_eq]
      constructor
      · rintro (⟨k, a, b⟩ | h5)
        · exact ⟨k, by omega, b⟩
        · exact ⟨n, by omega, by omega⟩
      · rintro ⟨k, a, b⟩
        by_cases e : k = n
        · subst e; exact Or.inr (by omega)
        · exact Or.inl ⟨k, by omega, b⟩
theorem mt_alone {w : pj_W} (I : pj_IV (w 60 0)) : fM_alone w = pj_aM (pj_alone (w 60 0), 0) w := by
  have hA := I.1
  have hin : ∀ (d : Nat) (a : Int), (d : Int) < w 60 0 2 → 0 ≤ a → a < 256 → fM_alone_19 a d w (0, 0) = some (.inl (if pj_pc (pj_all (w 60 0) d) = 1 then pj_or a (pj_shl 1 d) else a, (d : Int) + 1)) := by
    intro d a hd ha ha2
    have hD := I.2.2.2.1 d (by omega) hd
    obtain ⟨s, hs, hs2, _⟩ := pj_all_n I (d := (d : Int)) (by omega) hd (n := (pj_many (w 60 0) d).toNat) (by omega)
    unfold fM_alone_19 pj_all
    refine pj_Lp_fo (fun i => (pj_fo (fun k a => pj_or a (pj_shl 1 (pj_who (w 60 0) d k))) i 0, (i : Int))) (pj_many (w 60 0) d).toNat (fun i hi => ?_) ?_
    · show fM_alone_19b a d w _ i = some (Sum.inl (pj_or _ _, _))
      unfold fM_alone_19b
      rw [mq_manyOn (by omega) (by omega), Option.bind_some, if_neg (by omega), mq_whoAt (by omega) (by omega) (by omega) (by omega), Option.bind_some, pj_wri (by omega)]
      rfl
    · show fM_alone_19b a d w _ _ = _
      unfold fM_alone_19b fM_alone_63
      rw [mq_manyOn (by omega) (by omega), Option.bind_some, if_pos (by omega), hs, mq_bits (by omega) (by omega), Option.bind_some, pj_wri (by omega)]
      by_cases c : pj_pc s = 1
      · rw [if_pos c, if_pos c]; rfl
      · rw [if_neg c, if_neg c, pj_or0 ha ha2]; rfl
  unfold fM_alone pj_alone
  refine pj_Lp_un (fun d => pj_pc (pj_all (w 60 0) d) = 1) (w 60 0 2).toNat (by omega) (fun i hi a ha ha2 => ?_) ?_
  · show fM_alone_4b w a i = _
    unfold fM_alone_4b
    rw [if_neg (by omega), hin i a (by omega) ha ha2]
  · show fM_alone_4b w _ _ = _
    unfold fM_alone_4b
    rw [if_pos (by omega)]
    rfl
theorem mt_part (d k : Int) {w : pj_W} (I : pj_IV (w 60 0)) (hk : -2147483648 ≤ k ∧ k < 2147483648) : fM_part d k w = pj_aM (if pj_isD (w 60 0) d then (if pj_there (w 60 0) d then pj_part (w 60 0) d k else (-1, 7)) else (-1, 1)) w := by
  have hA := I.1
  unfold fM_part pj_part
  rw [mq_wrongFind, Option.bind_some]
  by_cases c : pj_isD (w 60 0) d
  · rw [if_pos c, if_pos c]
    by_cases c1 : pj_there (w 60 0) d
    · have hD := I.2.2.2.1 d c.1 c.2
      have hl := pj_last_in I c.1 c.2
      rw [if_pos c1, if_pos c1, if_pos (by omega)]
      have hs1 : ∀ i : Nat, 0 ≤ pj_sum (fun g => if pj_and (pj_shr (q_last (w 60 0) d) g) 1 = 1 then 1 else 0) i ∧ pj_sum (fun g => if pj_and (pj_shr (q_last (w 60 0) d) g) 1 = 1 then 1 else 0) i ≤ i := fun i => by
        have := pj_sum_in (g := fun g : Nat => if pj_and (pj_shr (q_last (w 60 0) d) g) 1 = 1 then 1 else 0) (n := i) (M := 1) (fun i hi => by split <;> omega)
        omega
      by_cases hk0 : 0 ≤ k
      · have hs : (k, (0 : Int)) = (k - pj_sum (fun g : Nat => if pj_and (pj_shr (q_last (w 60 0) d) g) 1 = 1 then 1 else 0) 0, ((0 : Nat) : Int)) := by
          show _ = (k - 0, _)
          rw [Int.sub_zero]; rfl
        unfold fM_part_22
        rw [hs]
        refine (pj_Lp_ff (fun i : Nat => (k - pj_sum (fun g : Nat => if pj_and (pj_shr (q_last (w 60 0) d) g) 1 = 1 then 1 else 0) i, (i : Int))) (fun f => pj_and (pj_shr (q_last (w 60 0) d) f) 1 = 1 ∧ pj_sum (fun g => if pj_and (pj_shr (q_last (w 60 0) d) g) 1 = 1 then 1 else 0) f = k) (w 60 0 1).toNat (r := fun f => (pj_share (w 60 0) f d, pj_set w 26 0 2 0)) (e := (-1, pj_set w 26 0 2 6)) (fun i hi hp => ?_) (fun i hi hp => ?_) ?_).trans ?_
        · show fM_part_22b d w _ i = _
          have h1 := hs1 i
          have h3 : pj_sum (fun g : Nat => if pj_and (pj_shr (q_last (w 60 0) d) g) 1 = 1 then 1 else 0) (i + 1) = pj_sum (fun g : Nat => if pj_and (pj_shr (q_last (w 60 0) d) g) 1 = 1 then 1 else 0) i + (if pj_and (pj_shr (q_last (w 60 0) d) i) 1 = 1 then 1 else 0) := rfl
          unfold fM_part_22b fM_part_69
          rw [if_neg (by omega), mq_lastOn c.1 (by omega) (by omega) (by omega), Option.bind_some, pj_wri (by omega), h3]
          rcases pj_bit01 hl.1 (by omega : q_last (w 60 0) d < 256) (by omega : 0 ≤ (i : Int)) (by omega) with hb | hb
          · rw [if_pos hb, if_neg (by omega), Int.add_zero]; rfl
          · rw [if_neg (by omega), if_neg (by have : pj_sum (fun g : Nat => if pj_and (pj_shr (q_last (w 60 0) d) g) 1 = 1 then 1 else 0) i ≠ k := fun x => hp ⟨hb, x⟩
                                              dsimp only; omega), if_pos hb, pj_wr_id (by dsimp only; omega) (by dsimp only; omega)]
            rw [← Int.sub_sub]; rfl
        · show fM_part_22b d w _ i = _
          unfold fM_part_22b
          rw [if_neg (by omega), mq_lastOn c.1 (by omega) (by omega) (by omega), Option.bind_some, if_neg (by omega), if_pos (by dsimp only; omega), mq_shareOf I (by omega) (by omega) c.1 c.2]; rfl
        · show fM_part_22b d w _ _ = _
          unfold fM_part_22b
          rw [if_pos (by omega)]
          rfl
        · cases pj_ff (fun f => pj_and (pj_shr (q_last (w 60 0) d) f) 1 = 1 ∧ pj_sum (fun g => if pj_and (pj_shr (q_last (w 60 0) d) g) 1 = 1 then 1 else 0) f = k) 0 (w 60 0 1).toNat <;> rfl
      · have hn : pj_ff (fun f => pj_and (pj_shr (q_last (w 60 0) d) f) 1 = 1 ∧ pj_sum (fun g => if pj_and (pj_shr (q_last (w 60 0) d) g) 1 = 1 then 1 else 0) f = k) 0 (w 60 0 1).toNat = none := by
          cases hq : pj_ff (fun f => pj_and (pj_shr (q_last (w 60 0) d) f) 1 = 1 ∧ pj_sum (fun g => if pj_and (pj_shr (q_last (w 60 0) d) g) 1 = 1 then 1 else 0) f = k) 0 (w 60 0 1).toNat with
          | none => rfl
          | some i =>
            obtain ⟨_, _, h3, _⟩ := pj_ff_some hq
            have := hs1 i
            omega
        rw [hn]
        have hw : ∀ m : Nat, m ≤ 6 → -2147483648 ≤ k - m ∨ k - m + 4294967296 > 6 := fun m hm => by omega
        have key : ∀ m i : Nat, ∀ x : Int, x ≠ 0 → (m : Int) + i = w 60 0 1 → (x < 0 ∨ x > m) → -2147483648 ≤ x → x < 2147483648 → fM_part_22 d w (x, (i : Int)) = some (-1, pj_set w 26 0 2 6) := by
          intro m
          induction m with
          | zero =>
            intro i x _ h2 _ _ _
            refine pj_Lp_end ?_
            unfold fM_part_22b
            dsimp only
            rw [if_pos (by omega)]; rfl
          | succ m ih =>
            intro i x h0 h2 h3 h4 h5
            unfold fM_part_22 at ih ⊢
            rcases pj_bit01 hl.1 (by omega : q_last (w 60 0) d < 256) (by omega : 0 ≤ (i : Int)) (by omega) with hb | hb
            · refine (pj_Lp_st (s' := (x, ((i + 1 : Nat) : Int))) ?_).trans (ih (i + 1) x h0 (by omega) (by omega) h4 h5)
              unfold fM_part_22b fM_part_69
              dsimp only
              rw [if_neg (by omega), mq_lastOn c.1 (by omega) (by omega) (by omega), Option.bind_some, pj_wri (by omega), if_pos hb]; rfl
            · refine (pj_Lp_st (s' := (pj_wr (x + -1), ((i + 1 : Nat) : Int))) ?_).trans (ih (i + 1) _ ?_ (by omega) ?_ (pj_wr_in _).1 (pj_wr_in _).2)
              · unfold fM_part_22b fM_part_69
                dsimp only
                rw [if_neg (by omega), mq_lastOn c.1 (by omega) (by omega) (by omega), Option.bind_some, pj_wri (by omega), if_neg (by omega), if_neg h0]; rfl
              · unfold pj_wr; omega
              · unfold pj_wr; omega
        exact key (w 60 0 1).toNat 0 k (by omega) (by omega) (by omega) hk.1 hk.2
    · rw [if_neg c1, if_neg c1]; rfl
  · rw [if_neg c, if_neg c]; rfl
theorem pj_inC_in {A : pj_Q} (I : pj_IV A) (c r : Int) : 0 ≤ pj_inC A c r ∧ pj_inC A c r ≤ 6 := by
  have hA := I.1
  have := pj_sum_in (g := fun f : Nat => if c ≤ A (10 + 5 * f) ∧ A (10 + 5 * f) < c + r then 1 else 0) (n := (A 1).toNat) (M := 1) (fun i hi => by split <;> omega)
  unfold pj_inC
  omega
theorem mt_crowd (r : Int) {w : pj_W} (I : pj_IV (w 60 0)) : fM_crowd r w = pj_aM (qs_upto 1 40 r (pj_crowd (w 60 0) r, 0)) w := by
  have hA := I.1
  unfold fM_crowd qs_upto
  rw [mq_isFrom, Option.bind_some]
  by_cases c : 1 ≤ r ∧ r ≤ 40
  · rw [if_pos c, if_pos c, if_neg (by omega)]
    have hin : ∀ (k : Nat) (a : Int), (k : Int) < w 60 0 0 → fM_crowd_38 r a k w (0, 0) = some (.inl (max a (pj_inC (w 60 0) k r), (k : Int) + 1)) := by
      intro k a hk
      unfold fM_crowd_38 pj_inC
      refine pj_Lp_sum (fun f => if (k : Int) ≤ w 60 0 (10 + 5 * f) ∧ w 60 0 (10 + 5 * f) < k + r then 1 else 0) (w 60 0 1).toNat 1 (fun i hi => by split <;> omega) (by omega) (by omega) (by omega) (fun i hi s => ?_) ?_
      · show fM_crowd_38b r a k w s i = _
        have hF := I.2.2.1 i (by omega) (by omega)
        unfold fM_crowd_38b fM_crowd_85 fM_crowd_86
        rw [if_neg (by omega), mq_finderRow (by omega) (by omega), Option.bind_some, if_pos (by omega), pj_wri (by omega)]
        by_cases c1 : w 60 0 (10 + 5 * (i : Int)) < k
        · rw [if_pos c1, if_neg (by omega)]
        · rw [if_neg c1, Option.bind_some, if_pos (by omega), pj_wr_id (x := (k : Int) + r) (by omega) (by omega)]
          by_cases c2 : (k : Int) + r ≤ w 60 0 (10 + 5 * (i : Int))
          · rw [if_pos c2, if_neg (by omega)]
          · rw [if_neg c2, if_pos (by omega)]
      · show fM_crowd_38b r a k w _ _ = _
        unfold fM_crowd_38b
        rw [if_pos (by omega), pj_wri (by omega)]
    unfold fM_crowd_22 pj_crowd
    refine pj_Lp_fo (fun i => (pj_fo (fun c a => max a (pj_inC (w 60 0) c r)) i 0, (i : Int))) (w 60 0 0).toNat (fun i hi => ?_) ?_
    · show fM_crowd_22b r w _ i = _
      unfold fM_crowd_22b
      rw [if_neg (by omega), hin i _ (by omega)]
      rfl
    · show fM_crowd_22b r w _ _ = _
      unfold fM_crowd_22b
      rw [if_pos (by omega)]
      rfl
  · rw [if_neg c, if_neg c]; rfl
