/-! LOOPS OF ONE KIND -/
theorem pj_Lp_sum {ρ : Type} {body : Int × Int → Option ((Int × Int) ⊕ ρ)} (g : Nat → Int) (n : Nat) (M : Int) {r : ρ} (hg : ∀ i, i < n → 0 ≤ g i ∧ g i ≤ M) (hM : M ≤ 1000000) (hM0 : 0 ≤ M) (hn : n ≤ 2000)
    (h : ∀ i : Nat, i < n → ∀ a : Int, body (a, (i : Int)) = some (.inl (pj_wr (a + g i), (i : Int) + 1))) (he : body (pj_sum g n, (n : Int)) = some (.inr r)) : pj_Lp body (0, 0) = some r := by
  refine pj_Lp_fo (fun i => (pj_sum g i, (i : Int))) n (fun i hi => ?_) he
  show body (pj_sum g i, (i : Int)) = _
  rw [h i hi, pj_wr_sum hg hi hM hM0 hn]
  rfl
theorem pj_Lp_un {ρ : Type} {body : Int × Int → Option ((Int × Int) ⊕ ρ)} (p : Nat → Prop) [DecidablePred p] (n : Nat) {r : ρ} (hn : n ≤ 8)
    (h : ∀ i : Nat, i < n → ∀ a : Int, 0 ≤ a → a < 256 → body (a, (i : Int)) = some (.inl (if p i then pj_or a (pj_shl 1 i) else a, (i : Int) + 1))) (he : body (pj_un p n, (n : Int)) = some (.inr r)) : pj_Lp body (0, 0) = some r := by
  refine pj_Lp_fo (fun i => (pj_un p i, (i : Int))) n (fun i hi => ?_) he
  show body (pj_un p i, (i : Int)) = _
  have := pj_un_in p (n := i) (by omega)
  rw [h i hi _ this.1 this.2.2]
  rfl
theorem pj_wri {i : Nat} (h : i < 10000) : pj_wr ((i : Int) + 1) = (i : Int) + 1 := pj_wr_id (by omega) (by omega)
theorem pj_or0 {a : Int} (h : 0 ≤ a) (h2 : a < 256) : pj_or a 0 = a := pj_or_zero (by omega) (by omega)
/-! OWNERS, SHARES, LEADS, RANKS -/
theorem mq_own_lp {s : Int} (w : pj_W) (hn : 0 ≤ w 60 0 1) (hn2 : w 60 0 1 ≤ 6) (hs : 0 ≤ s) (hs2 : s < 2 ^ (w 60 0 1).toNat) (hp : 2 ≤ pj_pc s) (hu : w 60 0 5 = 1 ∨ w 60 0 5 = 2) : fM_ownersOf_42 s w (-1, 0) = some (if w 60 0 5 = 1 then pj_lo s else pj_hi s) := by
  have h64 := pj_64 (m := (w 60 0 1).toNat) (by omega)
  have h64' : (2 : Int) ^ (w 60 0 1).toNat ≤ 64 := by rw [← pj_pow_cast]; omega
  have hs3 : s.toNat < 2 ^ (w 60 0 1).toNat := by rw [← pj_pow_cast] at hs2; omega
  have hd := mq_own_d ⟨(w 60 0 1).toNat, by omega⟩ ⟨s.toNat, by omega⟩ hs3 (by show 2 ≤ pj_pc (s.toNat : Int); rw [Int.toNat_of_nonneg hs]; exact hp) ⟨(w 60 0 5 - 1).toNat, by omega⟩
  have e1 : ((w 60 0 1).toNat : Int) = w 60 0 1 := Int.toNat_of_nonneg hn
  have e2 : (s.toNat : Int) = s := Int.toNat_of_nonneg hs
  have e3 : ((w 60 0 5 - 1).toNat : Int) + 1 = w 60 0 5 := by omega
  simp only [e1, e2, e3] at hd
  have hb : (fun t : (Int × Int) => fM_ownersOf_42b s (fun k _ j => if k = 60 then (if j = 1 then w 60 0 1 else if j = 5 then w 60 0 5 else 0) else 0) t.1 t.2) = (fun t : (Int × Int) => fM_ownersOf_42b s w t.1 t.2) := by
    funext t
    unfold fM_ownersOf_42b fM_ownersOf_78 fM_ownersOf_81
    simp
  rw [hb] at hd
  refine (pj_Lp_of hd).trans ?_
  congr 1
  rcases hu with hu | hu
  · simp [hu]
  · simp [hu]
theorem mq_ownersOf {d : Int} {w : pj_W} (I : pj_IV (w 60 0)) (h : 0 ≤ d) (h2 : d < w 60 0 2) : fM_ownersOf d w = some (pj_own (w 60 0) d) := by
  obtain ⟨s, hs, hs2⟩ := pj_last_n I h h2
  have h64 := pj_64 (m := (w 60 0 1).toNat) (by have := I.1; omega)
  have hD := I.2.2.2.1 d h h2
  have hA := I.1
  unfold fM_ownersOf pj_own
  rw [mq_lastOn h (by omega) (by omega) (by omega), Option.bind_some, mq_bits (by omega) (by omega), Option.bind_some]
  by_cases c1 : pj_pc (q_last (w 60 0) d) < 2
  · rw [if_pos c1, if_pos (Or.inl c1)]
  · rw [if_neg c1]
    by_cases c2 : w 60 0 5 = 3
    · rw [if_pos c2, if_pos (Or.inr c2)]
    · rw [if_neg c2, if_neg (by omega : ¬ (pj_pc (q_last (w 60 0) d) < 2 ∨ w 60 0 5 = 3))]
      by_cases c3 : w 60 0 5 = 0
      · rw [if_pos c3, if_pos c3]
      · rw [if_neg c3, if_neg c3]
        exact mq_own_lp w (by omega) (by omega) (by omega) (by rw [hs, ← pj_pow_cast]; omega) (by omega) (by omega)
theorem pj_own_in {A : pj_Q} (I : pj_IV A) {d : Int} (h : 0 ≤ d) (h2 : d < A 2) : 0 ≤ pj_own A d ∧ pj_own A d < 64 := by
  obtain ⟨s, hs, hs2⟩ := pj_last_n I h h2
  have hA := I.1
  have h64 := pj_64 (m := (A 1).toNat) (by omega)
  have := pj_lohi_d ⟨(A 1).toNat, by omega⟩ ⟨s, by omega⟩ hs2
  simp only [← pj_pow_cast] at this
  unfold pj_own
  rw [hs]
  split
  · omega
  · split
    · omega
    · split <;> omega
theorem pj_bit01 {s f : Int} (hs : 0 ≤ s) (hs2 : s < 256) (hf : 0 ≤ f) (hf2 : f < 8) : pj_and (pj_shr s f) 1 = 0 ∨ pj_and (pj_shr s f) 1 = 1 := by
  have := pj_bit_n (s := s.toNat) (i := f.toNat) (by omega) (by omega)
  rw [Int.toNat_of_nonneg hs, Int.toNat_of_nonneg hf] at this
  rw [this]
  split
  · exact Or.inr rfl
  · exact Or.inl rfl
theorem pj_bit_pc {s f : Int} (hs : 0 ≤ s) (hs2 : s < 256) (hf : 0 ≤ f) (hf2 : f < 8) (hb : pj_and (pj_shr s f) 1 = 1) : 1 ≤ pj_pc s := by
  have h1 := pj_pc_in hs hs2
  by_cases e : s = 0
  · subst e
    have := pj_bit_n (s := 0) (i := f.toNat) (by omega) (by omega)
    rw [Int.toNat_of_nonneg hf] at this
    rw [show ((0 : Nat) : Int) = 0 from rfl] at this
    rw [this] at hb
    simp at hb
  · have := h1.2.2
    omega
theorem pj_div_id {a b : Int} (ha : 0 ≤ a) (ha2 : a < 2147483648) (hb : 1 ≤ b) : pj_div a b = a / b := by
  unfold pj_div
  rw [Int.tdiv_eq_ediv_of_nonneg ha]
  have h1 : 0 ≤ a / b := Int.ediv_nonneg ha (by omega)
  have h2 : a / b ≤ a := Int.ediv_le_self b ha
  exact pj_wr_id (by omega) (by omega)
theorem mq_shareOf {f d : Int} {w : pj_W} (I : pj_IV (w 60 0)) (hf : 0 ≤ f) (hf2 : f < 6) (h : 0 ≤ d) (h2 : d < w 60 0 2) : fM_shareOf f d w = some (pj_share (w 60 0) f d) := by
  have ho := pj_own_in I h h2
  have hD := I.2.2.2.1 d h h2
  have hA := I.1
  have h17 : ∀ s : Int, 0 ≤ s → s < 64 → fM_shareOf_17 f d s w = some (if pj_and (pj_shr s f) 1 = 1 then w 60 0 (40 + 3 * d + 1) / pj_pc s else 0) := by
    intro s hs hs2
    unfold fM_shareOf_17
    rcases pj_bit01 hs (by omega : s < 256) hf (by omega) with hb | hb
    · rw [if_pos hb, if_neg (by omega)]
    · have hp := pj_bit_pc hs (by omega : s < 256) hf (by omega) hb
      rw [if_neg (by omega), if_pos hb, mq_findRow (by omega) (by omega) (by omega) (by omega), Option.bind_some, pj_wr_id (by omega) (by omega), if_pos (by omega), mq_bits hs (by omega), Option.bind_some, if_pos (by omega), Int.zero_add]
      rw [pj_div_id (by omega) (by omega) hp]
  unfold fM_shareOf pj_share
  rw [mq_isThere, Option.bind_some]
  by_cases c : pj_there (w 60 0) d
  · rw [if_pos c, if_neg (by omega), mq_ownersOf I h h2, Option.bind_some, h17 _ ho.1 ho.2]
    by_cases c2 : pj_and (pj_shr (pj_own (w 60 0) d) f) 1 = 1
    · rw [if_pos c2, if_pos ⟨c, c2⟩]
    · rw [if_neg c2, if_neg (fun x => c2 x.2)]
  · rw [if_neg c, if_pos rfl, if_neg (fun x => c x.1), h17 0 (by omega) (by omega)]
    rcases pj_bit01 (s := 0) (by omega) (by omega) hf (by omega : f < 8) with hb | hb
    · rw [if_neg (by omega)]
    · exact absurd (pj_bit_pc (s := 0) (by omega) (by omega) hf (by omega : f < 8) hb) (by decide)
theorem pj_share_in {A : pj_Q} (I : pj_IV A) {f d : Int} (hf : 0 ≤ f) (hf2 : f < 6) (h : 0 ≤ d) (h2 : d < A 2) : 0 ≤ pj_share A f d ∧ pj_share A f d ≤ 999 := by
  have ho := pj_own_in I h h2
  have hD := I.2.2.2.1 d h h2
  unfold pj_share
  split
  · rename_i hc
    have hp := pj_bit_pc ho.1 (by omega) hf (by omega) hc.2
    have h1 : 0 ≤ A (40 + 3 * d + 1) / pj_pc (pj_own A d) := Int.ediv_nonneg (by omega) (by omega)
    have h2 : A (40 + 3 * d + 1) / pj_pc (pj_own A d) ≤ A (40 + 3 * d + 1) := Int.ediv_le_self _ (by omega)
    omega
  · omega
theorem mq_leadOf {f : Int} {w : pj_W} (I : pj_IV (w 60 0)) (hf : 0 ≤ f) (hf2 : f < 6) : fM_leadOf f w = some (pj_lead (w 60 0) f) := by
  have hA := I.1
  unfold fM_leadOf pj_lead
  refine pj_Lp_sum (fun d => pj_share (w 60 0) f d) (w 60 0 2).toNat 999 (fun i hi => pj_share_in I hf hf2 (by omega) (by omega)) (by omega) (by omega) (by omega) (fun i hi a => ?_) ?_
  · show fM_leadOf_4b f w a i = _
    unfold fM_leadOf_4b
    rw [if_neg (by omega), mq_shareOf I hf hf2 (by omega) (by omega), Option.bind_some, pj_wri (by omega)]
  · show fM_leadOf_4b f w _ _ = _
    unfold fM_leadOf_4b
    rw [if_pos (by omega)]
theorem pj_lead_in {A : pj_Q} (I : pj_IV A) {f : Int} (hf : 0 ≤ f) (hf2 : f < 6) : 0 ≤ pj_lead A f ∧ pj_lead A f ≤ 8000 := by
  have hA := I.1
  have := pj_sum_in (g := fun d : Nat => pj_share A f d) (n := (A 2).toNat) (M := 999) (fun i hi => pj_share_in I hf hf2 (by omega) (by omega))
  unfold pj_lead
  omega
theorem mq_atRank {k : Int} {w : pj_W} (I : pj_IV (w 60 0)) : fM_atRank k w = some (pj_rank (w 60 0) k) := by
  have hA := I.1
  have hin : ∀ f : Nat, (f : Int) < w 60 0 1 → fM_atRank_17 k f w (0, 0) = some (if pj_ahead (w 60 0) f = k then .inr (f : Int) else .inl ((f : Int) + 1)) := by
    intro f hf
    unfold fM_atRank_17
    refine pj_Lp_sum (fun g => if pj_lead (w 60 0) g > pj_lead (w 60 0) f ∨ pj_lead (w 60 0) g = pj_lead (w 60 0) f ∧ (g : Int) < f then 1 else 0) (w 60 0 1).toNat 1 (fun i hi => by split <;> omega) (by omega) (by omega) (by omega) (fun i hi a => ?_) ?_
    · show fM_atRank_17b k f w a i = _
      unfold fM_atRank_17b
      rw [if_neg (by omega), mq_leadOf I (by omega) (by omega), Option.bind_some, mq_leadOf I (by omega) (by omega), Option.bind_some]
      unfold fM_atRank_63 fM_atRank_67 fM_atRank_68
      by_cases c1 : pj_lead (w 60 0) f < pj_lead (w 60 0) i
      · rw [if_pos c1, if_pos (Or.inl c1), pj_wri (by omega)]
      · rw [if_neg c1]
        simp only [Option.bind_some]
        by_cases c2 : pj_lead (w 60 0) i = pj_lead (w 60 0) f
        · rw [if_pos c2]
          by_cases c3 : (f : Int) ≤ i
          · rw [if_pos c3, if_neg (by omega), pj_wri (by omega)]
          · rw [if_neg c3, if_pos (by omega), pj_wri (by omega)]
        · rw [if_neg c2, if_neg (by omega), pj_wri (by omega)]
    · show fM_atRank_17b k f w _ _ = _
      unfold fM_atRank_17b
      rw [if_pos (by omega), pj_wri (by omega)]
      show (if pj_ahead (w 60 0) f = k then _ else _) = _
      split <;> rfl
  unfold fM_atRank pj_rank
  refine (pj_Lp_ff (fun i : Nat => (i : Int)) (fun f => pj_ahead (w 60 0) f = k) (w 60 0 1).toNat (r := fun i => (i : Int)) (e := -1) (fun i hi hp => ?_) (fun i hi hp => ?_) ?_).trans ?_
  · show fM_atRank_2b k w i = _
    unfold fM_atRank_2b
    rw [if_neg (by omega), hin i (by omega), if_neg hp]
    rfl
  · show fM_atRank_2b k w i = _
    unfold fM_atRank_2b
    rw [if_neg (by omega), hin i (by omega), if_pos hp]
  · show fM_atRank_2b k w _ = _
    unfold fM_atRank_2b
    rw [if_pos (by omega)]
  · rfl
