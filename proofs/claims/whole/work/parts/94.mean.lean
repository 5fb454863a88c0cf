/-! THE MEAN OF LIVES -/
theorem pj_RB.cb {b c : Int} {w w' : pj_W} {A : pj_Q} (RB : pj_RB c w A) (hcb : pj_cb b c w w' (A 1) (A 2)) : pj_RB b w' A := by
  obtain ⟨c1, c2, c3, c4, _⟩ := hcb
  refine ⟨?_, fun f hf => ?_, fun x hx => ?_, fun x k hx hk hk2 => ?_⟩
  · rw [c1 2 (by omega) (by omega), c1 3 (by omega) (by omega), c1 4 (by omega) (by omega), c1 5 (by omega) (by omega), c1 6 (by omega) (by omega), c1 7 (by omega) (by omega), c1 8 (by omega) (by omega)]
    exact RB.1
  · rw [c2 f 1 hf.1 hf.2 (by omega) (by omega), c2 f 2 hf.1 hf.2 (by omega) (by omega), c2 f 3 hf.1 hf.2 (by omega) (by omega), c2 f 4 hf.1 hf.2 (by omega) (by omega), c2 f 5 hf.1 hf.2 (by omega) (by omega)]
    exact RB.2.1 f hf
  · rw [c3 x 3 hx.1 hx.2 (by omega) (by omega), c3 x 4 hx.1 hx.2 (by omega) (by omega), c3 x 5 hx.1 hx.2 (by omega) (by omega), c3 x 6 hx.1 hx.2 (by omega) (by omega)]
    exact RB.2.2.1 x hx
  · have h6 := (RB.2.2.1 x hx).2.2.2
    have := c4 x k hx.1 hx.2 hk (by rw [h6]; exact hk2)
    rw [this.1, this.2]
    exact RB.2.2.2 x k hx hk hk2
/-- the model's numbers with a copy behind -/
def lf_wk (A : pj_Q) (n : Int) : pj_Q := fun x => if 7000 ≤ x ∧ x < 7000 + n then A (x - 7000) else A x
theorem lf_wk_lo {A : pj_Q} {n x : Int} (h : x < 7000) : lf_wk A n x = A x := if_neg (by omega)
theorem lf_wk_IV {A : pj_Q} (I : pj_IV A) (n : Int) : pj_IV (lf_wk A n) := I.ex (fun x _ h1 _ _ => lf_wk_lo (by omega))
theorem lf_wk_IK {A : pj_Q} (I : pj_IV A) (K : pj_IK A) (n : Int) : pj_IK (lf_wk A n) := K.exA I (fun x _ h1 _ => lf_wk_lo (by omega))
theorem lf_wk_rows {A : pj_Q} {W F S T P : Int → Int} (r : lf_rows A W F S T P) (n : Int) : lf_rows (lf_wk A n) W F S T P := by
  have e9 : lf_wk A n 9 = A 9 := lf_wk_lo (by omega)
  refine ⟨by rw [e9]; exact r.1, fun k h0 h1 => ?_⟩
  rw [e9] at h1 ⊢
  have := r.1
  rw [lf_wk_lo (by omega), lf_wk_lo (by omega), lf_wk_lo (by omega), lf_wk_lo (by omega), lf_wk_lo (by omega)]
  exact (r.2 k h0 h1).exA (lf_wk_lo (by omega)) (lf_wk_lo (by omega)) (lf_wk_lo (by omega))
def mv (b2 N : Int) (w v : pj_W) (L : pj_Q) : Prop := (∀ k i s, ¬ pj_in b2 k i → ¬ (k = 18 ∧ i = 0 ∧ 2 ≤ s ∧ s ≤ 4) → k ≠ 42 → k ≠ 43 → v k i s = w k i s) ∧ ∀ i, 0 ≤ i → i < 60 → v 43 0 i = L i + 1 ∨ -N ≤ v 43 0 i ∧ v 43 0 i ≤ 0 ∧ L i = 0
def mu (A : pj_Q) (u0 u : pj_W) (L : pj_Q) : Prop := u 60 0 = lf_wk A 1030 ∧ u 72 0 = L ∧ ∀ k i s, ¬ (k = 60 ∧ i = 0) → ¬ (k = 72 ∧ i = 0) → ¬ (k = 73 ∧ i = 0) → ¬ (k = 26 ∧ i = 0 ∧ (s = 31 ∨ s = 32)) → u k i s = u0 k i s
section
variable {n n' : Int} {w : pj_W}
theorem mean_step (R : pj_REL n w) (h0 : 0 ≤ n) {f seed many : Int} (hf : pj_isF (w 60 0) f) (h9 : w 60 0 9 ≠ -1) (hs : 0 ≤ seed) (hm : 1 ≤ many) (hm20 : many ≤ 20) (hs2 : seed ≤ 10000 - many) (u0 : pj_W) :
    ∀ m i : Nat, (i : Int) + m = many → ∀ (acc N : Int) (v u : pj_W) (L : pj_Q), 0 ≤ acc → acc ≤ 800000 * i → 0 ≤ N → N + 54002 * m < 1900000000 → (∀ j, 0 ≤ j → j < 60 → 0 ≤ L j ∧ L j ≤ 98) → mv (w 10 0 11) N w v L → mu (w 60 0) u0 u L →
      ∃ (acc' : Int) (v' u' : pj_W) (L' : pj_Q), fX_mean_66 f seed many (acc, (i : Int), v) = fX_mean_66 f seed many (acc', many, v') ∧ fM_mean_108 f seed many (acc, (i : Int), u) = fM_mean_108 f seed many (acc', many, u') ∧ 0 ≤ acc' ∧ acc' ≤ 16000000 ∧ (∀ j, 0 ≤ j → j < 60 → 0 ≤ L' j ∧ L' j ≤ 98) ∧ mv (w 10 0 11) (N + 54002 * m) w v' L' ∧ mu (w 60 0) u0 u' L' := by
  have hC := R.1
  obtain ⟨I, K, RB, RN, RD⟩ := R.2.1
  have hA := I.1
  obtain ⟨g9, g7, gr, g5⟩ := RD.rows h9
  intro m
  induction m with
  | zero =>
    intro i hi acc N v u L a0 a1 hN hN2 hL hv hu
    have : (i : Int) = many := by omega
    rw [this]
    exact ⟨acc, v, u, L, rfl, rfl, a0, by omega, hL, by rw [show N + 54002 * ((0 : Nat) : Int) = N by omega]; exact hv, hu⟩
  | succ m ih =>
    intro i hi acc N v u L a0 a1 hN hN2 hL hv hu
    have hb : w 10 0 10 = 0 ∨ w 10 0 10 = 1 := by rcases hC.1 with c | c <;> omega
    have hdd : w 10 0 12 = 0 ∨ w 10 0 12 = 1 := by rcases hC.2 with c | c <;> omega
    have hb2 : 0 ≤ w 10 0 11 ∧ w 10 0 11 ≠ w 10 0 10 := by rcases hC.1 with c | c <;> omega
    have v10 : ∀ s, v 10 0 s = w 10 0 s := fun s => hv.1 10 0 s (by unfold pj_in; omega) (by omega) (by decide) (by decide)
    have RBv : pj_RB (w 10 0 10) v (w 60 0) := RB.ex I (fun k j s hk => by
      unfold pj_in at hk
      exact hv.1 k j s (by unfold pj_in; omega) (by omega) (by omega) (by omega))
    obtain ⟨v1, e1, cb⟩ := x_copyB (b := w 10 0 11) (c := w 10 0 10) (w := v) hb2.1 (by omega) hb2.2 RBv.1.2.2.2.2.2.1 RBv.1.2.2.2.2.2.2 (by omega) (by omega) (by omega) (by omega) (fun x x0 x1 => by
      have hD := I.2.2.2.1 x x0 x1
      have hR := RBv.2.2.1 x ⟨x0, x1⟩
      refine ⟨?_, by rw [hR.2.2.2]; omega, by rw [hR.2.2.2]; omega⟩
      rw [hR.2.2.1]
      split
      · exact Or.inr rfl
      · exact Or.inl rfl)
    have RB1 : pj_RB (w 10 0 11) v1 (w 60 0) := RBv.cb cb
    have o1 : ∀ k j s, ¬ pj_in (w 10 0 11) k j → v1 k j s = v k j s := cb.2.2.2.2
    have od : ∀ k s, k = 24 ∨ k = 47 ∨ k = 48 ∨ k = 49 ∨ k = 50 ∨ k = 51 → v1 k (w 10 0 12) s = w k (w 10 0 12) s := fun k s hk => (o1 k _ s (by unfold pj_in; omega)).trans (hv.1 k _ s (by unfold pj_in; omega) (by omega) (by omega) (by omega))
    have q47 : v1 47 (w 10 0 12) = w 47 (w 10 0 12) := funext fun s => od 47 s (by omega)
    have q48 : v1 48 (w 10 0 12) = w 48 (w 10 0 12) := funext fun s => od 48 s (by omega)
    have q49 : v1 49 (w 10 0 12) = w 49 (w 10 0 12) := funext fun s => od 49 s (by omega)
    have q50 : v1 50 (w 10 0 12) = w 50 (w 10 0 12) := funext fun s => od 50 s (by omega)
    have q51 : v1 51 (w 10 0 12) = w 51 (w 10 0 12) := funext fun s => od 51 s (by omega)
    have Iw := lf_wk_IV I 1030
    have Kw := lf_wk_IK I K 1030
    have wk9 : lf_wk (w 60 0) 1030 9 = w 60 0 9 := lf_wk_lo (by omega)
    have RBw : pj_RB (w 10 0 11) v1 (lf_wk (w 60 0) 1030) := RB1.exA I (fun x x0 x1 _ => lf_wk_lo (by omega))
    have hsd : 0 ≤ seed + i ∧ seed + i < 65536 := by omega
    obtain ⟨C0, c2, hC0, b1, b2, b3⟩ := m_lives (w := u) (A := lf_wk (w 60 0) 1030) (L := L) Iw Kw (by rw [wk9]; exact g9) (lf_wk_rows gr 1030) hL (seed := seed + i) hsd.1 hsd.2 hu.1 hu.2.1
    obtain ⟨c1, v2, x1, x2, x3⟩ := x_lives (C0 := C0) (dd := w 10 0 12) RBw Iw Kw hb2.1 (by omega) (by rw [wk9]; exact g9) (by rw [wk9, od 24 7 (by omega)]; exact g7) (by rw [q47, q48, q49, q50, q51]; exact lf_wk_rows gr 1030) hL (fun j j0 j1 => by rw [o1 43 0 j (by unfold pj_in; omega)]; exact hv.2 j j0 j1) hN (by omega) (seed := seed + i) hsd.1 hsd.2 (fun j j0 j1 => by rw [hC0]; exact if_pos ⟨j0, j1⟩)
    rw [x1] at b1
    cases b1
    obtain ⟨I', K', kd', hD', hCr, hL', hk', hs', hr'⟩ := b2
    obtain ⟨r1, r2, r3, r4, r5, r6⟩ := x3
    generalize c2.2.1 = s' at x2 b3 hs'
    generalize c2.2.2.1 = A' at I' K' kd' hr' r1 b3 hk'
    generalize c2.2.2.2.1 = D' at hD' r2 b3
    generalize c2.2.2.2.2.1 = C' at hCr r3 b3
    generalize c2.2.2.2.2.2 = L' at hL' r4 b3
    have hA' := I'.1
    have e1' : A' 1 = w 60 0 1 := (kd' 1 (by omega)).trans (lf_wk_lo (by omega))
    have hf' : pj_isF A' f := by unfold pj_isF at hf ⊢; rw [e1']; exact hf
    have f0 := hf'.1
    have f1 := hf'.2
    have hkp := K' f hf'
    have hday : A' 6 ≤ 99 := by omega
    have v2_10 : ∀ s, v2 10 0 s = w 10 0 s := fun s => (r6 10 0 s (by unfold pj_in; omega) (by omega) (by decide) (by decide)).trans ((o1 10 0 s (by unfold pj_in; omega)).trans (v10 s))
    have wrs : pj_wr (seed + i) = seed + i := pj_wr_id (by omega) (by omega)
    have wla : pj_wl (acc + A' (10 + 5 * f + 4)) = acc + A' (10 + 5 * f + 4) := pj_wl_id (by omega) (by omega)
    have hkept : fB_keptBy (w 10 0 11) f v2 = some (A' (10 + 5 * f + 4)) := by
      unfold fB_keptBy
      rw [xq_finderAt r1 I', if_pos hf', Option.bind_some, if_neg (by omega), (r1.2.1 f hf').2.2.2.2]
    have hxs : fX_mean_66 f seed many (acc, (i : Int), v) = fX_mean_66 f seed many (acc + A' (10 + 5 * f + 4), ((i + 1 : Nat) : Int), v2) := by
      refine pj_Lp_st ?_
      dsimp only
      unfold fX_mean_66b
      have p1 : v1 10 0 11 = w 10 0 11 := (o1 10 0 11 (by unfold pj_in; omega)).trans (v10 11)
      have p2 : v1 10 0 12 = w 10 0 12 := (o1 10 0 12 (by unfold pj_in; omega)).trans (v10 12)
      rw [if_neg (by omega), v10 11, v10 10, if_pos hb2.1, e1, Option.bind_some, p1, p2, wrs, x2, Option.bind_some]
      dsimp only
      rw [if_pos (show 0 ≤ v2 10 0 11 by rw [v2_10]; exact hb2.1), v2_10 11, hkept, Option.bind_some, wla, pj_wri (by omega)]; rfl
    have hback : ∀ m2 j : Nat, j + m2 = 1030 → ∀ (z : pj_W) (y : Int), z 60 0 = (fun x => if 0 ≤ x ∧ x < (j : Int) then w 60 0 x else A' x) → fM_mean_142 f seed many y i ((j : Int), z) = some (Sum.inl (y, (i : Int) + 1, pj_put z (lf_wk (w 60 0) 1030))) := by
      intro m2
      induction m2 with
      | zero =>
        intro j hj z y hz
        refine pj_Lp_end ?_
        dsimp only
        unfold fM_mean_142b
        rw [if_pos (by omega), pj_wri (by omega)]
        have : pj_put z (lf_wk (w 60 0) 1030) = z := by
          have e : z 60 0 = lf_wk (w 60 0) 1030 := by
            rw [hz]
            funext x
            by_cases cx : 0 ≤ x ∧ x < (j : Int)
            · rw [if_pos cx, lf_wk_lo (by omega)]
            · rw [if_neg cx]; exact kd' x (by omega)
          rw [← e, pj_put_self]
        rw [this]
      | succ m2 ih2 =>
        intro j hj z y hz
        have hval : z 60 0 (7000 + (j : Int)) = w 60 0 j := by
          rw [hz]
          dsimp only
          rw [if_neg (by omega), kd' _ (by omega)]
          unfold lf_wk
          rw [if_pos (by omega)]
          congr 1; omega
        have := ih2 (j + 1) (by omega) (pj_set z 60 0 j (w 60 0 j)) y (by
          rw [pj_put_of, pj_put_at, hz]
          funext x
          unfold q_up
          dsimp only
          by_cases cx : x = (j : Int)
          · rw [if_pos cx, if_pos (by omega), cx]
          · rw [if_neg cx]
            by_cases cx2 : 0 ≤ x ∧ x < (j : Int)
            · rw [if_pos cx2, if_pos (by omega)]
            · rw [if_neg cx2, if_neg (by omega)])
        rw [pj_put_of, pj_put_put] at this
        rw [← this]
        refine pj_Lp_st ?_
        dsimp only
        unfold fM_mean_142b
        rw [if_neg (by omega), pj_wr_id (x := 7000 + (j : Int)) (by omega) (by omega), if_pos (by omega), if_pos (by omega), hval, pj_put_of, pj_wri (by omega)]; rfl
    have hms : fM_mean_108 f seed many (acc, (i : Int), u) = fM_mean_108 f seed many (acc + A' (10 + 5 * f + 4), ((i + 1 : Nat) : Int), pj_put (mw u s' A' D' C' L') (lf_wk (w 60 0) 1030)) := by
      refine pj_Lp_st ?_
      dsimp only
      unfold fM_mean_108b
      rw [if_neg (by omega), wrs, b3, Option.bind_some, mq_finderRow (by omega) (by omega), Option.bind_some, pj_wr_id (x := 10 + 5 * f + 4) (by omega) (by omega), if_pos (by omega), mw_60, wla]
      refine (hback 1030 0 rfl _ _ ?_).trans rfl
      rw [mw_60]
      funext x
      rw [if_neg (by omega)]
    rw [mw_put] at hms
    have hmo : ∀ k j s, ¬ (k = 60 ∧ j = 0) → ¬ (k = 72 ∧ j = 0) → ¬ (k = 73 ∧ j = 0) → ¬ (k = 26 ∧ j = 0 ∧ (s = 31 ∨ s = 32)) → mw u s' (lf_wk (w 60 0) 1030) D' C' L' k j s = u0 k j s := fun k j s a1 a2 a3 a4 => by
      unfold mw
      rw [if_neg a1, if_neg a3, if_neg a2, if_neg (by omega), if_neg (by omega)]
      exact hu.2.2 k j s a1 a2 a3 a4
    obtain ⟨acc', v', u', L2, y1, y2, y3, y4, y5, y6, y7⟩ := ih (i + 1) (by omega) (acc + A' (10 + 5 * f + 4)) (N + 54002) v2 (mw u s' (lf_wk (w 60 0) 1030) D' C' L') L' (by omega) (by omega) (by omega) (by omega) hL' ⟨fun k j s a1 a2 a3 a4 => (r6 k j s a1 a2 a3 a4).trans ((o1 k j s a1).trans (hv.1 k j s a1 a2 a3 a4)), r4⟩ ⟨mw_60, funext fun x => mw_72 x, hmo⟩
    refine ⟨acc', v', u', L2, hxs.trans y1, hms.trans y2, y3, y4, y5, ?_, y7⟩
    rw [show N + 54002 * ((m + 1 : Nat) : Int) = N + 54002 + 54002 * (m : Int) by omega]
    exact y6
end
