/-! days(n), on both sides -/
def dt_G (A : pj_Q) (d : Int) (u v : pj_W) : Prop := (u 24 d 5 = 1 ∧ u 24 d 6 = v 26 0 24 ∧ u 24 d 7 = v 60 0 5609 ∧ 0 ≤ v 60 0 5609 ∧ v 60 0 5609 ≤ 60) ∧ ∀ k : Int, 0 ≤ k → k < v 60 0 5609 → pj_row A (v 60 0 5609) (u 47 d) k (u 48 d k) (u 49 d k) (u 50 d k) (u 51 d k) (v 60 0 (6630 + 6 * k)) (v 60 0 (6630 + 6 * k + 1)) (v 60 0 (6630 + 6 * k + 2)) (v 60 0 (6630 + 6 * k + 4)) (v 60 0 (6630 + 6 * k + 5))
theorem dt_B.fin {A : pj_Q} {b d : Int} {u v : pj_W} (D : dt_B A b d u v) (h : v 26 0 23 = 0) : dt_G A d (pj_set u 24 d 5 1) v := by
  obtain ⟨_, ⟨⟨n1, n2, n3⟩, ⟨n4, n5, n6⟩, n7, n8, n9⟩, _, R⟩ := D
  have e : ∀ k : Nat, k ≠ 24 → pj_set u 24 d 5 1 k = u k := fun k hk => funext fun i => funext fun s => pj_sne (by omega)
  refine ⟨⟨pj_set_at, (pj_sne (by omega)).trans n4, (pj_sne (by omega)).trans n7, n8, by omega⟩, fun k k0 k1 => ?_⟩
  rw [e 47 (by decide), e 48 (by decide), e 49 (by decide), e 50 (by decide), e 51 (by decide)]
  rcases R k k0 k1 with r | ⟨i, i0, i1, _⟩
  · exact r
  · omega
theorem dt_clear {b d : Int} (hd : 0 ≤ d) (u0 : pj_W) : ∃ u1, fDT_takeDays b d u0 = fDT_takeDays_27 (1, 0, u1) ∧ (u1 14 0 3 = b ∧ u1 14 0 4 = d ∧ u1 14 0 2 = 0) ∧ (u1 24 d 6 = 0 ∧ u1 24 d 7 = 0) ∧ ∀ k i s, ¬ (k = 14 ∧ i = 0) → ¬ (k = 24 ∧ i = d) → u1 k i s = u0 k i s := by
  refine ⟨pj_set (pj_set (pj_set (pj_set (pj_set (pj_set u0 14 0 3 b) 14 0 4 d) 24 d 5 0) 24 d 6 0) 24 d 7 0) 14 0 2 0, ?_, ⟨?_, ?_, pj_set_at⟩, ⟨?_, ?_⟩, fun k i s g1 g2 => ?_⟩
  · unfold fDT_takeDays fD_clear
    rw [pj_set_at, if_pos hd, Option.bind_some]
  · rw [pj_sne (by omega), pj_sne (by omega), pj_sne (by omega), pj_sne (by omega), pj_sne (by omega), pj_set_at]
  · rw [pj_sne (by omega), pj_sne (by omega), pj_sne (by omega), pj_sne (by omega), pj_set_at]
  · rw [pj_sne (by omega), pj_sne (by omega), pj_set_at]
  · rw [pj_sne (by omega), pj_set_at]
  · rw [pj_sne (by omega), pj_sne (by omega), pj_sne (by omega), pj_sne (by omega), pj_sne (by omega), pj_sne (by omega)]
def dt_wx (d : Int) (w u' : pj_W) : Prop := ∀ k i s, ¬ (k = 12 ∧ i = 0 ∧ 5 ≤ s ∧ s ≤ 11) → k ≠ 31 → k ≠ 32 → k ≠ 33 → ¬ (k = 14 ∧ i = 0) → k ≠ 35 → ¬ ((k = 24 ∨ k = 47 ∨ k = 48 ∨ k = 49 ∨ k = 50 ∨ k = 51) ∧ i = d) → u' k i s = w k i s
def dt_wv (v v' : pj_W) : Prop := ∀ k i s, ¬ (k = 26 ∧ i = 0 ∧ 10 ≤ s ∧ s ≤ 24) → k ≠ 66 → ¬ (k = 60 ∧ i = 0 ∧ 5600 ≤ s) → k ≠ 67 → v' k i s = v k i s
theorem dt_run {w : pj_W} {x b d dc : Int} (hE : pj_RE w) (X : pj_RX b dc 0 w (w 60 0)) (hb : w 10 0 10 = b) (b0 : 0 ≤ b) (hd : w 10 0 13 = d) (d0 : 0 ≤ d) (h0 : 0 ≤ x) (h1 : x ≤ w 12 0 5) (h3 : x ≤ 300) (v : pj_W) (hv10 : v 26 0 10 = w 26 0 10) (hv65 : ∀ s, v 65 0 s = w 65 0 s) (hv60 : ∀ s, v 60 0 s = w 60 0 s) (hv61 : ∀ s, v 61 0 s = w 61 0 s) :
    ∃ a u' v', (fR_begin x w).bind (fun p4 => fDT_takeDays (p4 10 0 10) (p4 10 0 13) p4) = some (a, u') ∧ fM_days x v = fM_days_77 v' ∧
    (a = 1 ∧ dt_G (w 60 0) d u' v' ∧ (u' 12 0 6 = 0 ∧ v' 26 0 18 = 0 ∧ u' 12 0 7 = -1 ∧ v' 26 0 17 = -1) ∨ a = 0 ∧ tk_F u' v') ∧ u' 12 0 5 = 0 ∧ v' 26 0 10 = 0 ∧ dt_wx d w u' ∧ dt_wv v v' := by
  obtain ⟨E1, E2, E3, E4, E5, E6, E7⟩ := hE
  have hB : ∀ p, 0 ≤ p → p < x → w 30 0 p = (fun p => if 0 ≤ p ∧ p < x then w 30 0 p else 0) p := fun p p0 p1 => (if_pos ⟨p0, p1⟩).symm
  have hBr : ∀ p, -128 ≤ (fun p => if 0 ≤ p ∧ p < x then w 30 0 p else 0) p ∧ (fun p => if 0 ≤ p ∧ p < x then w 30 0 p else 0) p < 128 := fun p => by
    dsimp only
    split
    · rename_i hp
      exact (E6 p hp.1 (by omega)).2
    · exact ⟨by decide, by decide⟩
  have hBm : ∀ p, 0 ≤ p → p < x → v 65 0 p = (fun p => if 0 ≤ p ∧ p < x then w 30 0 p else 0) p := fun p p0 p1 => by
    rw [hv65, ← (E6 p p0 (by omega)).1]; exact hB p p0 p1
  revert hB hBr hBm
  generalize (fun p => if 0 ≤ p ∧ p < x then w 30 0 p else 0) = B
  intro hB hBr hBm
  obtain ⟨u0, E, N, a1, a2, a3, a4, a5, a6, a7, a8⟩ := x_begin E7 h0 h1 (by omega) hB
  obtain ⟨v1, b1, b2, b3, b4, b5, b6, b7⟩ := m_begins (y := 300) h0 (by omega) h3 (by omega) hBr hBm
  have e10 : u0 10 0 10 = b := (a8 10 0 10 (by decide) (by decide) (by decide) (by omega)).trans hb
  have e13 : u0 10 0 13 = d := (a8 10 0 13 (by decide) (by decide) (by decide) (by omega)).trans hd
  obtain ⟨u1, d1, ⟨d2, d3, d4⟩, ⟨d5, d6⟩, d7⟩ := dt_clear (b := b) d0 u0
  have f3 : ∀ k i s, ¬ (k = 26 ∧ i = 0 ∧ (s = 23 ∨ s = 24)) → ¬ (k = 60 ∧ i = 0 ∧ s = 5609) → pj_set (pj_set (pj_set v1 60 0 5609 0) 26 0 23 0) 26 0 24 0 k i s = v1 k i s := fun k i s g g' => by rw [pj_sne (by omega), pj_sne (by omega), pj_sne (by omega)]
  have hM : fM_days x v = fM_days_38 (1, pj_set (pj_set (pj_set v1 60 0 5609 0) 26 0 23 0) 26 0 24 0) := by
    unfold fM_days
    rw [b1, Option.bind_some, if_neg (show ¬ (1 : Int) = 0 by decide)]
  have g9 : pj_set (pj_set (pj_set v1 60 0 5609 0) 26 0 23 0) 26 0 24 0 60 0 5609 = 0 := by rw [pj_sne (by omega), pj_sne (by omega), pj_set_at]
  have g23 : pj_set (pj_set (pj_set v1 60 0 5609 0) 26 0 23 0) 26 0 24 0 26 0 23 = 0 := by rw [pj_sne (by omega), pj_set_at]
  have g24 : pj_set (pj_set (pj_set v1 60 0 5609 0) 26 0 23 0) 26 0 24 0 26 0 24 = 0 := pj_set_at
  revert hM f3 g9 g23 g24
  generalize pj_set (pj_set (pj_set v1 60 0 5609 0) 26 0 23 0) 26 0 24 0 = v3
  intro f3 hM g9 g23 g24
  have J : tk_J B x E N u1 v3 0 := by
    refine ⟨a2.ex (d7 12 0 10 (by omega) (by omega)) (fun s => d7 31 0 s (by omega) (by omega)) (fun s => d7 32 0 s (by omega) (by omega)) (fun s => d7 33 0 s (by omega) (by omega)), ⟨(f3 26 0 11 (by omega) (by omega)).trans b2.1, b2.2.1, b2.2.2.1, b2.2.2.2.1, fun p p0 p1 => (f3 66 0 p (by omega) (by omega)).trans (b2.2.2.2.2 p p0 p1)⟩, ⟨Int.le_refl 0, by have := a2.2.1; omega, (d7 12 0 11 (by omega) (by omega)).trans a7⟩, ?_, (d7 12 0 6 (by omega) (by omega)).trans a4, (f3 26 0 18 (by omega) (by omega)).trans b6, (d7 12 0 7 (by omega) (by omega)).trans a5, (f3 26 0 17 (by omega) (by omega)).trans b5⟩
    rw [a2.2.2.2.2.2.1]
    unfold tk_mt at b3 ⊢
    rw [f3 26 0 12 (by omega) (by omega), f3 26 0 13 (by omega) (by omega), f3 26 0 14 (by omega) (by omega), f3 26 0 15 (by omega) (by omega)]
    exact b3
  have hu : ∀ k i s, ¬ (k = 12 ∧ i = 0 ∧ 5 ≤ s ∧ s ≤ 11) → k ≠ 31 → k ≠ 32 → k ≠ 33 → ¬ (k = 14 ∧ i = 0) → ¬ (k = 24 ∧ i = d) → u1 k i s = w k i s := fun k i s z1 z2 z3 z4 z5 z6 => (d7 k i s z5 z6).trans (a8 k i s z2 z3 z4 z1)
  have hv : ∀ k i s, ¬ (k = 26 ∧ i = 0 ∧ 10 ≤ s ∧ s ≤ 24) → k ≠ 66 → ¬ (k = 60 ∧ i = 0 ∧ s = 5609) → v3 k i s = v k i s := fun k i s z1 z2 z3 => (f3 k i s (by omega) z3).trans (b7 k i s (by omega) z2)
  have D : dt_B (w 60 0) b d u1 v3 := by
    obtain ⟨I, K, RB, RN, _⟩ := X
    obtain ⟨⟨i0, i1, i2, i3, i4, i5, _⟩, _⟩ := I
    obtain ⟨r0, r3, r4, r5, r6, r1, r2⟩ := RB.1
    refine ⟨⟨⟨⟨?_, i2, i3, ?_, i4, i5⟩, fun f f0 f1 => ?_, fun y y0 y1 => ?_⟩, ⟨d2, d3, b0, d0⟩, ?_, ?_, ?_, ?_, i0, i1⟩, ⟨⟨d4.trans g23.symm, by omega, by omega⟩, ⟨d5.trans g24.symm, by omega, by omega⟩, d6.trans g9.symm, by omega, by omega⟩, fun i i0 i1 => by omega, fun k k0 k1 => by omega⟩
    · rw [hu 19 b 7 (by omega) (by decide) (by decide) (by decide) (by omega) (by omega)]; exact r1
    · rw [hu 19 b 8 (by omega) (by decide) (by decide) (by decide) (by omega) (by omega)]; exact r2
    · rw [hu 22 _ 0 (by omega) (by decide) (by decide) (by decide) (by omega) (by omega), hv 61 0 _ (by omega) (by decide) (by omega), hv61]; exact RN.1 f ⟨f0, f1⟩
    · rw [hu 23 _ 2 (by omega) (by decide) (by decide) (by decide) (by omega) (by omega), hv 61 0 _ (by omega) (by decide) (by omega), hv61]; exact RN.2 y ⟨y0, y1⟩
    · rw [hu 19 b 2 (by omega) (by decide) (by decide) (by decide) (by omega) (by omega)]; exact r0
    · rw [hv 60 0 0 (by omega) (by decide) (by omega), hv60]
    · rw [hv 60 0 1 (by omega) (by decide) (by omega), hv60]
    · rw [hv 60 0 2 (by omega) (by decide) (by omega), hv60]
  rw [a1, Option.bind_some, e10, e13, d1, hM]
  have endx : ∀ u', dt_fx d u1 u' → u' 12 0 5 = 0 ∧ dt_wx d w u' := fun u' hx => by
    refine ⟨?_, fun k i s z1 z2 z3 z4 z5 z6 z7 => ?_⟩
    · rw [hx 12 0 5 (by omega) (by omega) (by omega) (by omega), d7 12 0 5 (by omega) (by omega)]; exact a3
    · rw [hx k i s (by omega) (by omega) z6 z7]
      exact hu k i s z1 z2 z3 z4 z5 (by omega)
  have endv : ∀ v', dt_fv v3 v' → v' 26 0 10 = 0 ∧ dt_wv v v' := fun v' hv' => by
    refine ⟨?_, fun k i s z1 z2 z3 z4 => ?_⟩
    · rw [hv' 26 0 10 (by omega) (by omega) (by omega), f3 26 0 10 (by omega) (by omega)]; exact b4
    · rw [hv' k i s (by omega) z3 z4]
      exact hv k i s z1 z2 (by omega)
  rcases dt_loop d0 h3 N.toNat u1 v3 0 0 (by omega) J D (Int.le_refl 0) (Int.le_refl 0) with ⟨u2, v4, q1, q2, q3, q4, q5, q6, q7⟩ | ⟨u2, v4, q1, q2, q3, q6, q7⟩
  · obtain ⟨r1, r2⟩ := endx _ (q6.set (s := 5) (z := 1))
    obtain ⟨r3, r4⟩ := endv v4 q7
    refine ⟨1, pj_set u2 24 d 5 1, v4, q1, q2, Or.inl ⟨rfl, q3.fin q4, ?_⟩, r1, r3, r2, r4⟩
    rw [pj_sne (by omega), pj_sne (by omega)]; exact q5
  · obtain ⟨r1, r2⟩ := endx u2 q6
    obtain ⟨r3, r4⟩ := endv v4 q7
    exact ⟨0, u2, v4, q1, q2, Or.inr ⟨rfl, q3⟩, r1, r3, r2, r4⟩
theorem m_takeD {v : pj_W} : ∃ v', fM_days_103 (1030, v) = fM_days_132 v' ∧ (∀ s, 1030 ≤ s → s < 1395 → v' 60 0 s = v 60 0 (5600 + s)) ∧ ∀ k i s, ¬ (k = 60 ∧ i = 0 ∧ 1030 ≤ s ∧ s < 1395) → v' k i s = v k i s := by
  have key : ∀ m : Nat, ∀ (q : Int) (w : pj_W), 1395 - q ≤ m → 1030 ≤ q → q ≤ 1395 → (∀ s, 1030 ≤ s → s < q → w 60 0 s = v 60 0 (5600 + s)) → (∀ k i s, ¬ (k = 60 ∧ i = 0 ∧ 1030 ≤ s ∧ s < 1395) → w k i s = v k i s) → ∃ v', fM_days_103 (q, w) = fM_days_103 (1395, v') ∧ (∀ s, 1030 ≤ s → s < 1395 → v' 60 0 s = v 60 0 (5600 + s)) ∧ ∀ k i s, ¬ (k = 60 ∧ i = 0 ∧ 1030 ≤ s ∧ s < 1395) → v' k i s = v k i s := by
    intro m
    induction m with
    | zero =>
      intro q w hm q0 q1 hw hf
      have e : q = 1395 := by omega
      subst e
      exact ⟨w, rfl, hw, hf⟩
    | succ m ih =>
      intro q w hm q0 q1 hw hf
      by_cases c : q = 1395
      · subst c
        exact ⟨w, rfl, hw, hf⟩
      · obtain ⟨v', a1, a2⟩ := ih (q + 1) (pj_set w 60 0 q (w 60 0 (5600 + q))) (by omega) (by omega) (by omega) (fun s s0 s1 => by
          by_cases cp : s = q
          · rw [cp, pj_set_at]; exact hf 60 0 _ (by omega)
          · rw [pj_sne (by omega)]; exact hw s s0 (by omega)) (fun k i s hk => by rw [pj_sne (by omega)]; exact hf k i s hk)
        refine ⟨v', ?_, a2⟩
        rw [← a1]
        unfold fM_days_103
        refine pj_Lp_st ?_
        show fM_days_103b q w = _
        unfold fM_days_103b
        rw [if_neg (by omega), pj_wr_id (x := 5600 + q) (by omega) (by omega), if_pos (by omega), if_pos (by omega), pj_wr_id (by omega) (by omega)]
  obtain ⟨v', a1, a2, a3⟩ := key 365 1030 v (by omega) (by omega) (by omega) (fun s s0 s1 => by omega) (fun _ _ _ _ => rfl)
  refine ⟨v', ?_, a2, a3⟩
  rw [a1]
  unfold fM_days_103
  refine pj_Lp_map ?_
  show fM_days_103b 1395 v' = _
  unfold fM_days_103b
  rw [if_pos (by decide)]
theorem dt_mdone {v : pj_W} (h18 : v 26 0 18 = 0) : ∃ w2, fM_days_77 v = some (v 26 0 24, w2) ∧ (w2 26 0 2 = 0 ∧ w2 26 0 16 = 0) ∧ w2 60 0 9 = v 60 0 5609 ∧ (∀ s, 1030 ≤ s → s < 1395 → w2 60 0 s = v 60 0 (5600 + s)) ∧ ∀ k i s, ¬ (k = 26 ∧ i = 0 ∧ (s = 2 ∨ s = 16)) → ¬ (k = 60 ∧ i = 0 ∧ (s = 9 ∨ 1030 ≤ s ∧ s < 1395)) → w2 k i s = v k i s := by
  obtain ⟨v1, a1, a2, a3⟩ := m_takeD (v := pj_set v 60 0 9 (v 60 0 5609))
  have a3' : ∀ k i s, ¬ (k = 60 ∧ i = 0 ∧ (s = 9 ∨ 1030 ≤ s ∧ s < 1395)) → v1 k i s = v k i s := fun k i s z => (a3 k i s (by omega)).trans (pj_sne (by omega))
  have f : ∀ k i s, ¬ (k = 26 ∧ i = 0 ∧ (s = 2 ∨ s = 16)) → pj_set (pj_set v1 26 0 16 0) 26 0 2 0 k i s = v1 k i s := fun k i s h => by rw [pj_sne (by omega), pj_sne (by omega)]
  refine ⟨pj_set (pj_set v1 26 0 16 0) 26 0 2 0, ?_, ⟨pj_set_at, by rw [pj_sne (by omega), pj_set_at]⟩, ?_, fun s s0 s1 => ?_, fun k i s g1 g2 => ?_⟩
  · unfold fM_days_77
    rw [if_pos h18, a1]
    unfold fM_days_132 fM_taken fM_gives
    rw [a3' 26 0 18 (by omega), a3' 26 0 24 (by omega), h18, pj_sne (by omega), a3' 26 0 18 (by omega), h18, if_pos (Int.le_refl 0)]
    rfl
  · rw [f 60 0 9 (by omega), a3 60 0 9 (by omega), pj_set_at]
  · rw [f 60 0 s (by omega), a2 s s0 s1, pj_sne (by omega)]
  · rw [f k i s g1, a3' k i s g2]
theorem dt_mfail {v : pj_W} (h18 : 1 ≤ v 26 0 18) : fM_days_77 v = some (-1, pj_set (pj_set v 26 0 16 (v 26 0 18)) 26 0 2 9) := by
  unfold fM_days_77 fM_days_132 fM_taken fM_refuse
  rw [if_neg (by omega), pj_sne (by omega), if_neg (by omega)]
  rfl
theorem dt_xdone {w u' : pj_W} {x c d : Int} (h0 : 0 ≤ x) (h1 : x ≤ w 12 0 5) (h3 : x ≤ 300) (hx : (fR_begin x w).bind (fun p4 => fDT_takeDays (p4 10 0 10) (p4 10 0 13) p4) = some (1, u')) (e12 : u' 10 0 12 = c) (e13 : u' 10 0 13 = d) (hd : 0 ≤ d) :
    ∃ w1, fX_days x w = some (u' 24 d 6, w1) ∧ (w1 10 0 12 = d ∧ w1 10 0 13 = c ∧ w1 10 0 15 = 0) ∧ ∀ k i s, ¬ (k = 10 ∧ i = 0 ∧ (s = 12 ∨ s = 13 ∨ s = 15)) → w1 k i s = u' k i s := by
  refine ⟨pj_set (pj_set (pj_set u' 10 0 12 d) 10 0 13 c) 10 0 15 0, ?_, ⟨?_, ?_, ?_⟩, fun k i s g1 => ?_⟩
  · have q12 : pj_set (pj_set u' 10 0 12 d) 10 0 13 c 10 0 12 = d := by rw [pj_sne (by omega), pj_set_at]
    have q6 : pj_set (pj_set u' 10 0 12 d) 10 0 13 c 24 d 6 = u' 24 d 6 := by rw [pj_sne (by omega), pj_sne (by omega)]
    unfold fX_days
    rw [if_neg (show ¬ x < 0 by omega), if_neg (show ¬ w 12 0 5 < x by omega), if_pos h3, ← Option.bind_assoc, hx, Option.bind_some, if_neg (show ¬ (1 : Int) = 0 by decide)]
    show (if 0 ≤ (pj_set (pj_set u' 10 0 12 (u' 10 0 13)) 10 0 13 (u' 10 0 12) 10 0 12) then ((fX_answer (pj_set (pj_set u' 10 0 12 (u' 10 0 13)) 10 0 13 (u' 10 0 12) 24 (pj_set (pj_set u' 10 0 12 (u' 10 0 13)) 10 0 13 (u' 10 0 12) 10 0 12) 6) (pj_set (pj_set u' 10 0 12 (u' 10 0 13)) 10 0 13 (u' 10 0 12))).bind _) else none) = _
    rw [e12, e13, q12, if_pos hd, q6]
    rfl
  · rw [pj_sne (by omega), pj_sne (by omega), pj_set_at]
  · rw [pj_sne (by omega), pj_set_at]
  · rw [pj_set_at]
  · rw [pj_sne (by omega), pj_sne (by omega), pj_sne (by omega)]
/-- the days of a text are there -/
theorem dt_RX {b dc d : Int} {u v w w0 : pj_W} (X : pj_RX b dc 0 w0 (w0 60 0)) (G : dt_G (w0 60 0) d u v) (hA : ∀ x, 0 ≤ x → x < 1024 → x ≠ 9 → w 60 0 x = w0 60 0 x) (h9 : w 60 0 9 = v 60 0 5609) (hT : ∀ s, 1030 ≤ s → s < 1395 → w 60 0 s = v 60 0 (5600 + s)) (hI : ∀ k i s, pj_in b k i → w k i s = w0 k i s) (hN : ∀ s, 0 ≤ s → s < 14 → w 61 0 s = w0 61 0 s) (hD : ∀ k s, k = 24 ∨ k = 47 ∨ k = 48 ∨ k = 49 ∨ k = 50 ∨ k = 51 → w k d s = u k d s) : pj_RX b d 0 w (w 60 0) := by
  obtain ⟨I, K, RB, RN, _⟩ := X
  obtain ⟨⟨g1, g2, g3, g4, g5⟩, R⟩ := G
  refine ⟨I.ex (fun x x0 x1 x2 _ => hA x x0 x1 x2), K.exA I hA, (RB.ex I hI).exA I hA, (RN.ex I (fun i i0 i1 => hI 22 i 0 (Or.inr (Or.inl ⟨rfl, i0, i1⟩))) (fun i i0 i1 => hI 23 i 2 (Or.inr (Or.inr ⟨Or.inl rfl, i0, i1⟩))) (fun s s0 s1 => hN s s0 (by omega))).exA (hA 1 (by decide) (by decide) (by decide)) (hA 2 (by decide) (by decide) (by decide)), ?_, Or.inr ⟨?_, ?_, fun k k0 k1 => ?_⟩⟩
  · rw [hD 24 7 (by omega)]; omega
  · rw [hD 24 5 (by omega)]; exact g1
  · rw [hD 24 7 (by omega), h9]; exact g3.symm
  · rw [h9] at k1 ⊢
    have e47 : w 47 d = u 47 d := funext fun s => hD 47 s (by omega)
    rw [e47, hD 48 k (by omega), hD 49 k (by omega), hD 50 k (by omega), hD 51 k (by omega), hT _ (by omega) (by omega), hT _ (by omega) (by omega), hT _ (by omega) (by omega), hT _ (by omega) (by omega), hT _ (by omega) (by omega), show 5600 + (1030 + 6 * k) = 6630 + 6 * k by omega, show 5600 + (1030 + 6 * k + 1) = 6630 + 6 * k + 1 by omega, show 5600 + (1030 + 6 * k + 2) = 6630 + 6 * k + 2 by omega, show 5600 + (1030 + 6 * k + 4) = 6630 + 6 * k + 4 by omega, show 5600 + (1030 + 6 * k + 5) = 6630 + 6 * k + 5 by omega]
    exact (R k k0 k1).exA (hA 0 (by decide) (by decide) (by decide)) (hA 1 (by decide) (by decide) (by decide)) (hA 2 (by decide) (by decide) (by decide))
