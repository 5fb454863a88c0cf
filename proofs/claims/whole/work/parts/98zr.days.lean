/-! days(n), the call -/
theorem dt_run2 {w : pj_W} {x b d dc : Int} (hE : pj_RE w) (X : pj_RX b dc 0 w (w 60 0)) (hb : w 10 0 10 = b) (b0 : 0 ≤ b) (hd : w 10 0 13 = d) (d0 : 0 ≤ d) (h0 : 0 ≤ x) (h1 : x ≤ w 12 0 5) (h3 : x ≤ 300) :
    ∃ a u', (fR_begin x w).bind (fun p4 => fDT_takeDays (p4 10 0 10) (p4 10 0 13) p4) = some (a, u') ∧ u' 12 0 5 = 0 ∧ dt_wx d w u' ∧ (a = 1 ∨ a = 0) ∧
    ∀ v : pj_W, v 26 0 10 = w 26 0 10 → (∀ s, v 65 0 s = w 65 0 s) → (∀ s, v 60 0 s = w 60 0 s) → (∀ s, v 61 0 s = w 61 0 s) → ∃ v', fM_days x v = fM_days_77 v' ∧
    (a = 1 ∧ dt_G (w 60 0) d u' v' ∧ (u' 12 0 6 = 0 ∧ v' 26 0 18 = 0 ∧ u' 12 0 7 = -1 ∧ v' 26 0 17 = -1) ∨ a = 0 ∧ tk_F u' v') ∧ v' 26 0 10 = 0 ∧ dt_wv v v' := by
  obtain ⟨a, u', v', e1, e2, e3, e4, e5, e6, e7⟩ := dt_run hE X hb b0 hd d0 h0 h1 h3 w rfl (fun _ => rfl) (fun _ => rfl) (fun _ => rfl)
  refine ⟨a, u', e1, e4, e6, ?_, fun v hv1 hv2 hv3 hv4 => ?_⟩
  · rcases e3 with e3 | e3
    · exact Or.inl e3.1
    · exact Or.inr e3.1
  · obtain ⟨a2, u2, v2, g1, g2, g3, g4, g5, g6, g7⟩ := dt_run hE X hb b0 hd d0 h0 h1 h3 v hv1 hv2 hv3 hv4
    have ei := Option.some.inj (e1.symm.trans g1)
    have ea : a = a2 := congrArg Prod.fst ei
    have eu : u' = u2 := congrArg Prod.snd ei
    subst ea eu
    exact ⟨v2, g2, g3, g5, g7⟩
section
variable {n n' : Int} {w : pj_W}
theorem cc_days (R : pj_REL n w) (hn : n ≤ n') (x : Int) : pj_cB n' w (fX_days x) (fM_days x) := by
  have hE := R.2.2.2.2.1
  have e10 := hE.1
  by_cases c : x < 0 ∨ w 12 0 5 < x ∨ 300 < x
  · refine pj_cB.s R hn (a := -1) (y := 1) ?_ ?_
    · unfold fX_days fX_days_22 fX_refuse
      by_cases c0 : x < 0
      · rw [if_pos c0]; rfl
      · by_cases c1 : w 12 0 5 < x
        · rw [if_neg c0, if_pos c1]; rfl
        · rw [if_neg c0, if_neg c1, if_neg (by omega)]; rfl
    · have hz : pj_set w 10 0 15 1 26 0 10 = w 12 0 5 := (pj_sne (by omega)).trans e10.symm
      have hbg : fM_begins x 300 (pj_set w 10 0 15 1) = some (0, pj_set w 10 0 15 1) := by
        unfold fM_begins
        by_cases c0 : x < 0
        · rw [if_pos c0]
        · rw [if_neg c0, hz]
          by_cases c1 : w 12 0 5 < x
          · rw [if_pos c1]
          · rw [if_neg c1, if_neg (by omega)]
      unfold fM_days
      rw [hbg, Option.bind_some, if_pos rfl]
      rfl
  have h0 : 0 ≤ x := by omega
  have h1 : x ≤ w 12 0 5 := by omega
  have h3 : x ≤ 300 := by omega
  have C := R.1
  have X := R.2.1
  obtain ⟨b, hb⟩ : ∃ b, w 10 0 10 = b := ⟨_, rfl⟩
  obtain ⟨dc, hdc⟩ : ∃ dc, w 10 0 12 = dc := ⟨_, rfl⟩
  obtain ⟨d, hd⟩ : ∃ d, w 10 0 13 = d := ⟨_, rfl⟩
  have hbc : (b = 0 ∨ b = 1) ∧ (dc = 0 ∧ d = 1 ∨ dc = 1 ∧ d = 0) := by
    unfold pj_RC at C
    rw [hb, hd, hdc] at C
    exact ⟨C.1.imp And.left And.left, C.2⟩
  rw [hb, hdc] at X
  obtain ⟨a, u', a1, a2, a3, a4, a5⟩ := dt_run2 hE X hb (by omega) hd (by omega) h0 h1 h3
  have x10 : ∀ s, u' 10 0 s = w 10 0 s := fun s => a3 10 0 s (by omega) (by decide) (by decide) (by decide) (by omega) (by decide) (by omega)
  rcases a4 with ea | ea
  · subst ea
    obtain ⟨w1, q1, ⟨q2, q3, q4⟩, q6⟩ := dt_xdone h0 h1 h3 a1 ((x10 12).trans hdc) ((x10 13).trans hd) (by omega)
    have f1 : ∀ k i s, ¬ (k = 12 ∧ i = 0 ∧ 5 ≤ s ∧ s ≤ 11) → k ≠ 31 → k ≠ 32 → k ≠ 33 → ¬ (k = 14 ∧ i = 0) → k ≠ 35 → ¬ ((k = 24 ∨ k = 47 ∨ k = 48 ∨ k = 49 ∨ k = 50 ∨ k = 51) ∧ i = d) → ¬ (k = 10 ∧ i = 0 ∧ (s = 12 ∨ s = 13 ∨ s = 15)) → w1 k i s = w k i s := fun k i s z1 z2 z3 z4 z5 z6 z7 z8 => (q6 k i s z8).trans (a3 k i s z1 z2 z3 z4 z5 z6 z7)
    have f1' : ∀ k i s, k = 26 ∨ k = 65 ∨ k = 60 ∨ k = 61 → w1 k i s = w k i s := fun k i s hk => f1 k i s (by omega) (by omega) (by omega) (by omega) (by omega) (by omega) (by omega) (by omega)
    obtain ⟨v', m1, m2, m3, m4⟩ := a5 w1 (f1' 26 0 10 (by omega)) (fun s => f1' 65 0 s (by omega)) (fun s => f1' 60 0 s (by omega)) (fun s => f1' 61 0 s (by omega))
    rcases m2 with ⟨_, G, F6, F18, F7, F17⟩ | ⟨bad, _⟩
    · obtain ⟨w2, r1, ⟨r2, r3⟩, r4, r5, r6⟩ := dt_mdone F18
      have f2 : ∀ k i s, ¬ (k = 26 ∧ i = 0 ∧ (s = 2 ∨ (10 ≤ s ∧ s ≤ 24))) → ¬ (k = 66 ∨ k = 67) → ¬ (k = 60 ∧ i = 0 ∧ (s = 9 ∨ (1030 ≤ s ∧ s < 1395) ∨ 5600 ≤ s)) → w2 k i s = w1 k i s := fun k i s z1 z2 z3 => (r6 k i s (by omega) (by omega)).trans (m4 k i s (by omega) (by omega) (by omega) (by omega))
      have g10 : ∀ s, s ≠ 12 → s ≠ 13 → s ≠ 15 → w2 10 0 s = w 10 0 s := fun s s1 s2 s3 => by rw [f2 10 0 s (by omega) (by omega) (by omega), q6 10 0 s (by omega), x10]
      have g12 : w2 10 0 12 = d := (f2 10 0 12 (by omega) (by omega) (by omega)).trans q2
      have g13 : w2 10 0 13 = dc := (f2 10 0 13 (by omega) (by omega) (by omega)).trans q3
      refine ⟨u' 24 d 6, w1, w2, q1, by rw [m1, r1, G.1.2.1], R.txt hn ?_ ?_ ?_ ⟨?_, ?_, ?_, ?_⟩ (fun k i s hk => ?_)⟩
      · unfold pj_RC at C ⊢
        rw [g12, g13, g10 10 (by decide) (by decide) (by decide), g10 11 (by decide) (by decide) (by decide)]
        exact ⟨C.1, by omega⟩
      · rw [g10 10 (by decide) (by decide) (by decide), g12, hb]
        refine dt_RX X G (fun y y0 y1 y9 => ?_) r4 r5 (fun k i s hk => ?_) (fun s s0 s1 => ?_) (fun k s hk => ?_)
        · rw [f2 60 0 y (by omega) (by omega) (by omega)]; exact f1' 60 0 y (by omega)
        · unfold pj_in at hk
          rw [f2 k i s (by omega) (by omega) (by omega)]
          exact f1 k i s (by omega) (by omega) (by omega) (by omega) (by omega) (by omega) (by omega) (by omega)
        · rw [f2 61 0 s (by omega) (by omega) (by omega)]; exact f1' 61 0 s (by omega)
        · rw [f2 k d s (by omega) (by omega) (by omega)]
          exact q6 k d s (by omega)
      · rw [f2 10 0 15 (by omega) (by omega) (by omega), q4, r2]
      · rw [f2 12 0 5 (by omega) (by omega) (by omega), q6 12 0 5 (by omega)]; exact a2
      · rw [r6 26 0 10 (by omega) (by omega)]; exact m3
      · rw [f2 12 0 6 (by omega) (by omega) (by omega), q6 12 0 6 (by omega), F6, r3]
      · rw [f2 12 0 7 (by omega) (by omega) (by omega), q6 12 0 7 (by omega), F7, r6 26 0 17 (by omega) (by omega), F17]
      · have hy := tx_ny hk
        rw [f2 k i s (tx_26 hy) (by have := tx_66 hy; omega) (by have := tx_60 hy; omega)]
        exact f1 k i s (by have := tx_12 hy; omega) (tx_31 hy).1 (tx_31 hy).2.1 (tx_31 hy).2.2 (by have := (tx_13 hy).2; omega) (tx_35 hy) (by have := tx_24 hy; omega) (by have := tx_10 hy; omega)
    · omega
  · subst ea
    have f1 : ∀ k i s, ¬ (k = 12 ∧ i = 0 ∧ 5 ≤ s ∧ s ≤ 11) → k ≠ 31 → k ≠ 32 → k ≠ 33 → ¬ (k = 14 ∧ i = 0) → k ≠ 35 → ¬ ((k = 24 ∨ k = 47 ∨ k = 48 ∨ k = 49 ∨ k = 50 ∨ k = 51) ∧ i = d) → ¬ (k = 10 ∧ i = 0 ∧ s = 15) → pj_set u' 10 0 15 9 k i s = w k i s := fun k i s z1 z2 z3 z4 z5 z6 z7 z8 => (pj_sne z8).trans (a3 k i s z1 z2 z3 z4 z5 z6 z7)
    have f1' : ∀ k i s, k = 26 ∨ k = 65 ∨ k = 60 ∨ k = 61 → pj_set u' 10 0 15 9 k i s = w k i s := fun k i s hk => f1 k i s (by omega) (by omega) (by omega) (by omega) (by omega) (by omega) (by omega) (by omega)
    have q1 : fX_days x w = some (-1, pj_set u' 10 0 15 9) := by
      unfold fX_days
      rw [if_neg (show ¬ x < 0 by omega), if_neg (show ¬ w 12 0 5 < x by omega), if_pos h3, ← Option.bind_assoc, a1, Option.bind_some, if_pos rfl]
      rfl
    obtain ⟨v', m1, m2, m3, m4⟩ := a5 (pj_set u' 10 0 15 9) (f1' 26 0 10 (by omega)) (fun s => f1' 65 0 s (by omega)) (fun s => f1' 60 0 s (by omega)) (fun s => f1' 61 0 s (by omega))
    rcases m2 with ⟨bad, _⟩ | ⟨_, F1, F2, F3⟩
    · omega
    · have r1 := dt_mfail (v := v') (by omega)
      have f2 : ∀ k i s, ¬ (k = 26 ∧ i = 0 ∧ (s = 2 ∨ (10 ≤ s ∧ s ≤ 24))) → ¬ (k = 66 ∨ k = 67) → ¬ (k = 60 ∧ i = 0 ∧ 5600 ≤ s) → pj_set (pj_set v' 26 0 16 (v' 26 0 18)) 26 0 2 9 k i s = pj_set u' 10 0 15 9 k i s := fun k i s z1 z2 z3 => by rw [pj_sne (by omega), pj_sne (by omega)]; exact m4 k i s (by omega) (by omega) z3 (by omega)
      have f : ∀ k i s, ¬ (k = 26 ∧ i = 0 ∧ (s = 2 ∨ (10 ≤ s ∧ s ≤ 24))) → ¬ (k = 66 ∨ k = 67) → ¬ (k = 60 ∧ i = 0 ∧ 5600 ≤ s) → ¬ (k = 12 ∧ i = 0 ∧ 5 ≤ s ∧ s ≤ 11) → k ≠ 31 → k ≠ 32 → k ≠ 33 → ¬ (k = 14 ∧ i = 0) → k ≠ 35 → ¬ ((k = 24 ∨ k = 47 ∨ k = 48 ∨ k = 49 ∨ k = 50 ∨ k = 51) ∧ i = d) → ¬ (k = 10 ∧ i = 0 ∧ s = 15) → pj_set (pj_set v' 26 0 16 (v' 26 0 18)) 26 0 2 9 k i s = w k i s := fun k i s z1 z2 z3 y1 y2 y3 y4 y5 y6 y7 y8 => (f2 k i s z1 z2 z3).trans (f1 k i s y1 y2 y3 y4 y5 y6 y7 y8)
      have f10 : ∀ s, s ≠ 15 → pj_set (pj_set v' 26 0 16 (v' 26 0 18)) 26 0 2 9 10 0 s = w 10 0 s := fun s hs => f 10 0 s (by omega) (by omega) (by omega) (by omega) (by decide) (by decide) (by decide) (by omega) (by decide) (by omega) (by omega)
      refine ⟨-1, pj_set u' 10 0 15 9, _, q1, by rw [m1, r1], R.txt hn ?_ ?_ ?_ ⟨?_, ?_, ?_, ?_⟩ (fun k i s hk => ?_)⟩
      · exact C.ex (fun s s0 s1 => f10 s (by omega))
      · rw [f10 10 (by decide), f10 12 (by decide), hb, hdc]
        refine (X.ex (fun k i s hk => ?_)).exA (fun x x0 x1 => ?_)
        · unfold pj_ix pj_in at hk
          exact f k i s (by omega) (by omega) (by omega) (by omega) (by omega) (by omega) (by omega) (by omega) (by omega) (by omega) (by omega)
        · exact f 60 0 x (by omega) (by omega) (by omega) (by omega) (by decide) (by decide) (by decide) (by omega) (by decide) (by omega) (by omega)
      · rw [f2 10 0 15 (by omega) (by omega) (by omega), pj_set_at, pj_set_at]
      · rw [f2 12 0 5 (by omega) (by omega) (by omega), pj_sne (by omega)]; exact a2
      · rw [pj_sne (by omega), pj_sne (by omega)]; exact m3
      · rw [f2 12 0 6 (by omega) (by omega) (by omega), pj_sne (by omega), pj_sne (by omega), pj_set_at]; exact F1
      · rw [f2 12 0 7 (by omega) (by omega) (by omega), pj_sne (by omega), pj_sne (by omega), pj_sne (by omega)]; exact F2
      · have hy := tx_ny hk
        exact f k i s (tx_26 hy) (by have := tx_66 hy; omega) (by have := tx_60 hy; omega) (by have := tx_12 hy; omega) (tx_31 hy).1 (tx_31 hy).2.1 (tx_31 hy).2.2 (by have := (tx_13 hy).2; omega) (tx_35 hy) (by have := tx_24 hy; omega) (by have := tx_10 hy; omega)
end
