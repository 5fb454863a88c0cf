/-! FRACTIONS, ODDS -/
def pj_onO (k : Nat) (i s : Int) : Prop := (k = 10 ∧ i = 0 ∧ (s = 15 ∨ s = 16 ∨ s = 17)) ∨ (k = 26 ∧ i = 0 ∧ (s = 2 ∨ s = 3 ∨ s = 4))
/-- both answer alike; status and fraction stay alike -/
def pj_oB (w : pj_W) (fx fm : pj_W → Option (Int × pj_W)) : Prop := ∃ a w1 w2, fx w = some (a, w1) ∧ fm w1 = some (a, w2) ∧ (w2 10 0 15 = w2 26 0 2 ∧ w2 10 0 16 = w2 26 0 3 ∧ w2 10 0 17 = w2 26 0 4) ∧ ∀ k i s, ¬ pj_onO k i s → w2 k i s = w k i s
theorem pj_oB.no {w : pj_W} (T : w 10 0 16 = w 26 0 3 ∧ w 10 0 17 = w 26 0 4) {fx fm : pj_W → Option (Int × pj_W)} {a y : Int} (hx : fx w = some (a, pj_set w 10 0 15 y)) (hm : ∀ u : pj_W, (∀ k i s, ¬ (k = 10 ∧ i = 0 ∧ s = 15) → u k i s = w k i s) → fm u = some (a, pj_set u 26 0 2 y)) : pj_oB w fx fm := by
  refine ⟨a, _, _, hx, hm _ (fun k i s h => pj_sne h), ⟨?_, ?_, ?_⟩, fun k i s hn => ?_⟩
  · rw [pj_sne (by omega), pj_set_at, pj_set_at]
  · rw [pj_sne (by omega), pj_sne (by omega), pj_sne (by omega), pj_sne (by omega)]; exact T.1
  · rw [pj_sne (by omega), pj_sne (by omega), pj_sne (by omega), pj_sne (by omega)]; exact T.2
  · unfold pj_onO at hn
    rw [pj_sne (by omega), pj_sne (by omega)]
theorem pj_tmod {x y : Int} (hx : 0 ≤ x) (hy : 0 < y) : 0 ≤ Int.tmod x y ∧ Int.tmod x y < y := by
  rw [Int.tmod_eq_emod_of_nonneg hx]
  exact ⟨Int.emod_nonneg x (by omega), Int.emod_lt_of_pos x hy⟩
theorem pj_tmod2 {y r : Int} (hr : 0 < r) (hry : r < y) : 2 * Int.tmod y r < y := by
  rw [Int.tmod_eq_emod_of_nonneg (by omega)]
  have h1 := Int.emod_lt_of_pos y hr
  have h2 := Int.emod_nonneg y (show r ≠ 0 by omega)
  have h3 := Int.emod_add_mul_ediv y r
  have h4 : 1 ≤ y / r := Int.le_ediv_of_mul_le hr (by omega)
  have h5 : r * 1 ≤ r * (y / r) := Int.mul_le_mul_of_nonneg_left h4 (by omega)
  omega
def pj_frM (X Y g : Int) (w : pj_W) : Option (Int × pj_W) := some (1, pj_set (pj_set (pj_set w 26 0 3 (pj_divl X g)) 26 0 4 (pj_divl Y g)) 26 0 2 0)
theorem pj_eu_end {x : Int} (hx : 1 ≤ x) {i : Int} (w : pj_W) : fX_commonDivisor_9 w (x, 0, i) = some x := by
  refine pj_Lp_end ?_
  unfold fX_commonDivisor_9b
  dsimp only
  by_cases c : 200 ≤ i
  · rw [if_pos c]
  · rw [if_neg c, if_pos (pj_cmp_eq.mpr rfl)]
theorem pj_eu_endM {x : Int} (hx : 1 ≤ x) (X Y : Int) (w : pj_W) : fM_tellsBy_6 X Y w (x, 0) = pj_frM X Y x w := by
  refine pj_Lp_end ?_
  unfold fM_tellsBy_6b
  dsimp only
  rw [if_pos (pj_cmp_eq.mpr rfl), if_pos (by omega), m_is0, Option.bind_some, if_pos (Or.inr rfl)]
theorem pj_eu_st {x y : Int} (hy : 0 < y) {i : Int} (h0 : 0 ≤ i) (hi : i < 200) (w : pj_W) : fX_commonDivisor_9 w (x, y, i) = fX_commonDivisor_9 w (y, Int.tmod x y, i + 1) := by
  refine pj_Lp_st ?_
  unfold fX_commonDivisor_9b
  dsimp only
  rw [if_neg (by omega), if_neg (fun h => by have := pj_cmp_eq.mp h; omega), if_pos (by omega), pj_wr_id (by omega) (by omega)]
theorem pj_eu_stM {x y : Int} (hy : 0 < y) (X Y : Int) (w : pj_W) : fM_tellsBy_6 X Y w (x, y) = fM_tellsBy_6 X Y w (y, Int.tmod x y) := by
  refine pj_Lp_st ?_
  unfold fM_tellsBy_6b
  dsimp only
  rw [if_neg (fun h => by have := pj_cmp_eq.mp h; omega), if_pos (by omega)]
theorem pj_euclid (k : Nat) : ∀ x y : Int, 0 ≤ x → 0 < y → y < 2 ^ k → ∃ g, 1 ≤ g ∧ (∀ (i : Int) (w : pj_W), 0 ≤ i → i + 2 * k + 1 ≤ 200 → fX_commonDivisor_9 w (x, y, i) = some g) ∧ ∀ X Y w, fM_tellsBy_6 X Y w (x, y) = pj_frM X Y g w := by
  induction k with
  | zero => intro x y hx hy h; have : (2 : Int) ^ 0 = 1 := rfl; omega
  | succ k ih =>
    intro x y hx hy hk
    have h1 := pj_tmod hx hy
    by_cases c : Int.tmod x y = 0
    · refine ⟨y, by omega, fun i w h0 hi => ?_, fun X Y w => ?_⟩
      · rw [pj_eu_st hy h0 (by omega), c, pj_eu_end (by omega)]
      · rw [pj_eu_stM hy, c, pj_eu_endM (by omega)]
    · have hr : 0 < Int.tmod x y := by omega
      have h2 := pj_tmod (x := y) (by omega) hr
      have h3 := pj_tmod2 hr h1.2
      by_cases c2 : Int.tmod y (Int.tmod x y) = 0
      · refine ⟨Int.tmod x y, by omega, fun i w h0 hi => ?_, fun X Y w => ?_⟩
        · rw [pj_eu_st hy h0 (by omega), pj_eu_st hr (by omega) (by omega), c2, pj_eu_end (by omega)]
        · rw [pj_eu_stM hy, pj_eu_stM hr, c2, pj_eu_endM (by omega)]
      · have hp : (2 : Int) ^ (k + 1) = 2 ^ k * 2 := Int.pow_succ 2 k
        obtain ⟨g, hg, gx, gm⟩ := ih (Int.tmod x y) (Int.tmod y (Int.tmod x y)) (by omega) (by omega) (by omega)
        refine ⟨g, hg, fun i w h0 hi => ?_, fun X Y w => ?_⟩
        · rw [pj_eu_st hy h0 (by omega), pj_eu_st hr (by omega) (by omega)]
          exact gx (i + 1 + 1) w (by omega) (by omega)
        · rw [pj_eu_stM hy, pj_eu_stM hr]
          exact gm X Y w
/-- a fraction is told alike -/
theorem pj_frac {X Y : Int} (hX : 0 ≤ X) (hY : 0 < Y) (hY2 : Y < 2 ^ 60) : ∃ g, 1 ≤ g ∧ (∀ w, fX_tellFraction X Y w = some (pj_set (pj_set w 10 0 16 (pj_divl X g)) 10 0 17 (pj_divl Y g))) ∧ ∀ w, fM_tellsBy X Y w = pj_frM X Y g w := by
  obtain ⟨g, hg, gx, gm⟩ := pj_euclid 60 X Y hX hY hY2
  refine ⟨g, hg, fun w => ?_, fun w => gm X Y w⟩
  have h := gx 0 w (by omega) (by omega)
  unfold fX_tellFraction fX_commonDivisor
  rw [h, Option.bind_some, if_neg (fun x => by have := pj_cmp_le.mp x; omega), if_pos (by omega)]
theorem pj_16 : ∀ i : Fin 13, (16 : Int) ^ i.val ≤ 281474976710656 ∧ 1 ≤ (16 : Int) ^ i.val := by decide
theorem pj_pow_in {a c : Int} (ha : 0 ≤ a) (ha2 : a ≤ 999) (hc : 0 ≤ c) (hc2 : c ≤ 16) (i : Nat) : 0 ≤ a * c ^ i ∧ a * c ^ i ≤ 999 * 16 ^ i := by
  induction i with
  | zero => rw [Int.pow_zero, Int.pow_zero]; omega
  | succ i ih =>
    rw [Int.pow_succ, Int.pow_succ, ← Int.mul_assoc, ← Int.mul_assoc]
    refine ⟨Int.mul_nonneg ih.1 hc, ?_⟩
    have h1 : a * c ^ i * c ≤ a * c ^ i * 16 := Int.mul_le_mul_of_nonneg_left hc2 ih.1
    omega
theorem tb_odds {w : pj_W} (T : w 10 0 16 = w 26 0 3 ∧ w 10 0 17 = w 26 0 4) (R : pj_RB (w 10 0 10) w (w 60 0)) (I : pj_IV (w 60 0)) (hb : 0 ≤ w 10 0 10) (d s z : Int) : pj_oB w (fX_odds d s z) (fM_odds d s z) := by
  have hA := I.1
  by_cases h : pj_isD (w 60 0) d ∧ 0 ≤ s ∧ s ≤ 16 ∧ 0 ≤ z ∧ z ≤ 1
  case neg =>
    refine pj_oB.no T (a := 0) (y := 1) ?_ (fun u hu => ?_)
    · unfold fX_odds fX_odds_34
      rw [if_pos hb, xq_findAt R I, Option.bind_some]
      simp only [x_deny, Option.bind_some, true_or, if_true]
      by_cases c : pj_isD (w 60 0) d
      · have := c.1
        rw [if_pos c, if_neg (by omega)]
        by_cases c1 : s < 0
        · rw [if_pos c1]
        · by_cases c2 : 16 < s
          · rw [if_neg c1, if_pos c2]
          · by_cases c3 : z < 0
            · rw [if_neg c1, if_neg c2, if_pos c3]
            · rw [if_neg c1, if_neg c2, if_neg c3, if_neg (fun x => h ⟨c, by omega, by omega, by omega, x⟩)]
      · rw [if_neg c, if_pos (by decide)]
    · have hu6 : u 60 0 = w 60 0 := funext fun s => hu 60 0 s (by omega)
      unfold fM_odds fM_odds_29
      rw [mq_isFind, Option.bind_some, mq_isFrom, Option.bind_some, hu6]
      simp only [m_is (show (1 : Int) ≠ 0 by decide), Option.bind_some, true_or, if_true]
      by_cases c : pj_isD (w 60 0) d
      · rw [if_pos c, if_neg (by decide)]
        by_cases c1 : 0 ≤ s ∧ s ≤ 16
        · rw [if_pos c1, if_neg (by decide)]
          by_cases c3 : z < 0
          · rw [if_pos c3]
          · rw [if_neg c3, if_neg (fun x => h ⟨c, c1.1, c1.2, by omega, x⟩)]
        · rw [if_neg c1, if_pos rfl]
      · rw [if_neg c, if_pos rfl]
  obtain ⟨hd, h0, h1, h2, h3⟩ := h
  have d0 := hd.1
  have d1 := hd.2
  have hD := I.2.2.2.1 d d0 d1
  have hRD := R.2.2.1 d hd
  have hx : ∀ r, (if pj_there (w 60 0) d then (if pj_many (w 60 0) d = 0 then some (0, pj_set w 10 0 15 6) else if w 60 0 3 - pj_min (w 60 0) d (pj_many (w 60 0) d - 1) ≤ 12 then fX_odds_113 s (w 60 0 3 - pj_min (w 60 0) d (pj_many (w 60 0) d - 1)) (if z = 0 then 1 else w 60 0 (40 + 3 * d + 1)) w else some (0, pj_set w 10 0 15 7)) else some (0, pj_set w 10 0 15 7)) = r → fX_odds d s z w = r := fun r hr => by
    rw [← hr]
    unfold fX_odds
    rw [if_pos hb, xq_findAt R I, Option.bind_some, if_pos hd, if_neg (by omega), if_neg (by omega), if_neg (by omega), if_neg (by omega), if_pos h3]
    simp only [x_deny, Option.bind_some, true_or, if_true]
    by_cases ct : pj_there (w 60 0) d
    · rw [if_neg (fun x => (R.th hd).mp x ct), if_pos ct, hRD.2.2.2]
      by_cases c0 : pj_many (w 60 0) d = 0
      · rw [if_pos c0, if_pos c0]
      · have hK := I.2.2.2.2.1 d (pj_many (w 60 0) d - 1) d0 d1 (by omega) (by omega)
        rw [if_neg c0, if_neg c0, xq_latestMinute R I hd, Option.bind_some, if_pos (show 0 < pj_many (w 60 0) d by omega), R.1.2.1, pj_wr_id (x := w 60 0 3 - pj_min (w 60 0) d (pj_many (w 60 0) d - 1)) (by omega) (by omega), hRD.2.1]
    · rw [if_pos ((R.th hd).mpr ct), if_neg ct]
  have hm : ∀ u : pj_W, (∀ k i s, ¬ (k = 10 ∧ i = 0 ∧ (s = 15 ∨ s = 16 ∨ s = 17)) → u k i s = w k i s) → ∀ r, (if pj_there (w 60 0) d then (if pj_many (w 60 0) d = 0 then some (0, pj_set u 26 0 2 6) else if w 60 0 3 - pj_min (w 60 0) d (pj_many (w 60 0) d - 1) ≤ 12 then fM_odds_92 d s (if z = 0 then 1 else w 60 0 (40 + 3 * d + 1)) u else some (0, pj_set u 26 0 2 7)) else some (0, pj_set u 26 0 2 7)) = r → fM_odds d s z u = r := fun u hu r hr => by
    have hu6 : u 60 0 = w 60 0 := funext fun s => hu 60 0 s (by omega)
    have Iu : pj_IV (u 60 0) := by rw [hu6]; exact I
    rw [← hr]
    unfold fM_odds
    rw [mq_isFind, Option.bind_some, mq_isFrom, Option.bind_some, mq_wrongLast d Iu, Option.bind_some, hu6, if_pos hd, if_neg (by decide), if_pos (show 0 ≤ s ∧ s ≤ 16 from ⟨h0, h1⟩), if_neg (by decide), if_neg (by omega), if_pos h3]
    unfold qs_wl
    rw [if_pos hd]
    by_cases ct : pj_there (w 60 0) d
    · rw [if_pos ct, if_pos ct]
      by_cases c0 : pj_many (w 60 0) d = 0
      · rw [if_pos c0, if_pos c0, if_neg (by decide), m_is (by decide), Option.bind_some, if_pos (Or.inl rfl)]
      · rw [if_neg c0, if_neg c0, if_pos (by decide), mq_leftOn Iu d0 (by rw [hu6]; exact d1) (by rw [hu6]; omega), Option.bind_some, hu6]
        by_cases c1 : w 60 0 3 - pj_min (w 60 0) d (pj_many (w 60 0) d - 1) ≤ 12
        · rw [if_pos c1, if_pos c1]
          by_cases cz : z = 0
          · rw [if_pos cz, if_pos cz]
          · rw [if_neg cz, if_neg cz, mq_findRow (by omega) (by omega) (by omega) (by omega), Option.bind_some, Int.zero_add, pj_wr_id (x := 40 + 3 * d + 1) (by omega) (by omega), if_pos (by omega)]
        · rw [if_neg c1, if_neg c1, m_is (by decide), Option.bind_some, if_pos (Or.inl rfl)]
    · rw [if_neg ct, if_neg ct, if_neg (by decide), m_is (by decide), Option.bind_some, if_pos (Or.inl rfl)]
  have hsub : ∀ u : pj_W, (∀ k i s, ¬ (k = 10 ∧ i = 0 ∧ s = 15) → u k i s = w k i s) → ∀ k i s, ¬ (k = 10 ∧ i = 0 ∧ (s = 15 ∨ s = 16 ∨ s = 17)) → u k i s = w k i s := fun u hu k i s hn => hu k i s (by omega)
  by_cases ct : pj_there (w 60 0) d
  case neg => exact pj_oB.no T (a := 0) (y := 7) (hx _ (if_neg ct)) (fun u hu => hm u (hsub u hu) _ (if_neg ct))
  by_cases c0 : pj_many (w 60 0) d = 0
  case pos => exact pj_oB.no T (a := 0) (y := 6) (hx _ (by rw [if_pos ct, if_pos c0])) (fun u hu => hm u (hsub u hu) _ (by rw [if_pos ct, if_pos c0]))
  by_cases c1 : w 60 0 3 - pj_min (w 60 0) d (pj_many (w 60 0) d - 1) ≤ 12
  case neg => exact pj_oB.no T (a := 0) (y := 7) (hx _ (by rw [if_pos ct, if_neg c0, if_neg c1])) (fun u hu => hm u (hsub u hu) _ (by rw [if_pos ct, if_neg c0, if_neg c1]))
  have hK := I.2.2.2.2.1 d (pj_many (w 60 0) d - 1) d0 d1 (by omega) (by omega)
  have hv0 : 0 ≤ (if z = 0 then 1 else w 60 0 (40 + 3 * d + 1)) ∧ (if z = 0 then 1 else w 60 0 (40 + 3 * d + 1)) ≤ 999 := by
    split <;> omega
  have hleft : ∀ u : pj_W, (∀ k i s, ¬ (k = 10 ∧ i = 0 ∧ (s = 15 ∨ s = 16 ∨ s = 17)) → u k i s = w k i s) → fM_leftOn d u = some (w 60 0 3 - pj_min (w 60 0) d (pj_many (w 60 0) d - 1)) := fun u hu => by
    have hu6 : u 60 0 = w 60 0 := funext fun s => hu 60 0 s (by omega)
    rw [mq_leftOn (by rw [hu6]; exact I) d0 (by rw [hu6]; exact d1) (by rw [hu6]; omega), hu6]
  have hx1 := fun r hr => hx r (by rw [if_pos ct, if_neg c0, if_pos c1]; exact hr)
  have hm1 := fun u hu r hr => hm u hu r (by rw [if_pos ct, if_neg c0, if_pos c1]; exact hr)
  generalize (if z = 0 then 1 else w 60 0 (40 + 3 * d + 1)) = a at hx1 hm1 hv0
  obtain ⟨m, hmm⟩ : ∃ m : Nat, w 60 0 3 - pj_min (w 60 0) d (pj_many (w 60 0) d - 1) = m := ⟨(w 60 0 3 - pj_min (w 60 0) d (pj_many (w 60 0) d - 1)).toNat, by omega⟩
  rw [hmm] at hx1 hleft c1
  have hp := fun i : Nat => pj_pow_in (a := a) (c := 16 - s) hv0.1 hv0.2 (by omega) (by omega) i
  have h16 : ∀ i : Nat, i ≤ 12 → (16 : Int) ^ i ≤ 281474976710656 ∧ 1 ≤ (16 : Int) ^ i := fun i hi => pj_16 ⟨i, by omega⟩
  have wr1 : pj_wr (16 - s) = 16 - s := pj_wr_id (by omega) (by omega)
  have wl1 : pj_wl (16 - s) = 16 - s := pj_wl_id (by omega) (by omega)
  have hstep : ∀ i : Nat, i < m → pj_wl (a * (16 - s) ^ i * (16 - s)) = a * (16 - s) ^ (i + 1) ∧ pj_wl ((16 : Int) ^ i * 16) = 16 ^ (i + 1) := fun i hi => by
    have e1 := hp (i + 1)
    have e2 := h16 (i + 1) (by omega)
    rw [← Int.pow_succ, Int.mul_assoc, ← Int.pow_succ]
    generalize a * (16 - s) ^ (i + 1) = q at e1 ⊢
    generalize (16 : Int) ^ (i + 1) = q' at e1 e2 ⊢
    exact ⟨pj_wl_id (by omega) (by omega), pj_wl_id (by omega) (by omega)⟩
  have hY := h16 m (by omega)
  have h60 : (2 : Int) ^ 60 = 1152921504606846976 := by decide
  obtain ⟨g, hg, gx, gm⟩ := pj_frac (X := a * (16 - s) ^ m) (Y := 16 ^ m) (hp m).1 (by omega) (by rw [h60]; omega)
  refine ⟨1, pj_set (pj_set (pj_set w 10 0 16 (pj_divl (a * (16 - s) ^ m) g)) 10 0 17 (pj_divl (16 ^ m) g)) 10 0 15 0, pj_set (pj_set (pj_set (pj_set (pj_set (pj_set w 10 0 16 (pj_divl (a * (16 - s) ^ m) g)) 10 0 17 (pj_divl (16 ^ m) g)) 10 0 15 0) 26 0 3 (pj_divl (a * (16 - s) ^ m) g)) 26 0 4 (pj_divl (16 ^ m) g)) 26 0 2 0, hx1 _ ?_, hm1 _ (fun k i s hn => ?_) _ ?_, ⟨?_, ?_, ?_⟩, fun k i s hn => ?_⟩
  · unfold fX_odds_113
    have hl := pj_Lp_fo (body := fun t : (Int × Int × Int) => fX_odds_121b s m w t.1 t.2.1 t.2.2) (r := ((1 : Int), pj_set (pj_set (pj_set w 10 0 16 (pj_divl (a * (16 - s) ^ m) g)) 10 0 17 (pj_divl (16 ^ m) g)) 10 0 15 0)) (fun i => (a * (16 - s) ^ i, (16 : Int) ^ i, (i : Int))) m (fun i hi => ?_) ?_
    · rw [Int.pow_zero, Int.pow_zero, Int.mul_one] at hl
      exact hl
    · show fX_odds_121b s m w (a * (16 - s) ^ i) (16 ^ i) i = some (Sum.inl (a * (16 - s) ^ (i + 1), (16 : Int) ^ (i + 1), ((i + 1 : Nat) : Int)))
      unfold fX_odds_121b
      rw [if_neg (by omega), wr1, (hstep i hi).1, (hstep i hi).2, pj_wri (by omega)]; rfl
    · show fX_odds_121b s m w (a * (16 - s) ^ m) (16 ^ m) m = _
      unfold fX_odds_121b
      rw [if_pos (Int.le_refl _), gx, Option.bind_some, x_grant, Option.bind_some, if_pos (Or.inr rfl)]
  · rw [pj_sne (by omega), pj_sne (by omega), pj_sne (by omega)]
  · have hu : ∀ k i q, ¬ (k = 10 ∧ i = 0 ∧ (q = 15 ∨ q = 16 ∨ q = 17)) → pj_set (pj_set (pj_set w 10 0 16 (pj_divl (a * (16 - s) ^ m) g)) 10 0 17 (pj_divl (16 ^ m) g)) 10 0 15 0 k i q = w k i q := fun k i q hn => by rw [pj_sne (by omega), pj_sne (by omega), pj_sne (by omega)]
    generalize pj_set (pj_set (pj_set w 10 0 16 (pj_divl (a * (16 - s) ^ m) g)) 10 0 17 (pj_divl (16 ^ m) g)) 10 0 15 0 = u at hu ⊢
    have hl9 := hleft u hu
    unfold fM_odds_92
    have hl := pj_Lp_fo (body := fun t : (Int × Int × Int) => fM_odds_100b d s u t.1 t.2.1 t.2.2) (r := ((1 : Int), pj_set (pj_set (pj_set u 26 0 3 (pj_divl (a * (16 - s) ^ m) g)) 26 0 4 (pj_divl (16 ^ m) g)) 26 0 2 0)) (fun i => (a * (16 - s) ^ i, (16 : Int) ^ i, (i : Int))) m (fun i hi => ?_) ?_
    · rw [Int.pow_zero, Int.pow_zero, Int.mul_one] at hl
      exact hl
    · show fM_odds_100b d s u (a * (16 - s) ^ i) (16 ^ i) i = some (Sum.inl (a * (16 - s) ^ (i + 1), (16 : Int) ^ (i + 1), ((i + 1 : Nat) : Int)))
      unfold fM_odds_100b
      rw [hl9, Option.bind_some, if_neg (by omega), wl1, (hstep i hi).1, (hstep i hi).2, pj_wri (by omega)]; rfl
    · show fM_odds_100b d s u (a * (16 - s) ^ m) (16 ^ m) m = _
      unfold fM_odds_100b
      rw [hl9, Option.bind_some, if_pos (Int.le_refl _), gm]
      unfold pj_frM
      rw [Option.bind_some, if_pos (Or.inr rfl)]
  · rw [pj_set_at, pj_sne (by omega), pj_sne (by omega), pj_sne (by omega), pj_set_at]
  · rw [pj_sne (by omega), pj_sne (by omega), pj_sne (by omega), pj_sne (by omega), pj_sne (by omega), pj_set_at, pj_sne (by omega), pj_sne (by omega), pj_set_at]
  · rw [pj_sne (by omega), pj_sne (by omega), pj_sne (by omega), pj_sne (by omega), pj_set_at, pj_sne (by omega), pj_set_at]
  · unfold pj_onO at hn
    rw [pj_sne (by omega), pj_sne (by omega), pj_sne (by omega), pj_sne (by omega), pj_sne (by omega), pj_sne (by omega)]
