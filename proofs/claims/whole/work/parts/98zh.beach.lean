/-! beach(n), on both sides -/
theorem bt_run2 {w : pj_W} {x : Int} (hE : pj_RE w) (hb : 0 ≤ w 10 0 11) (h0 : 0 ≤ x) (h1 : x ≤ w 12 0 5) : ∃ a u', (fR_begin x w).bind (fun p3 => fBT_takeBeach (p3 10 0 11) p3) = some (a, u') ∧ u' 12 0 5 = 0 ∧
    (∀ k i s, ¬ (k = 12 ∧ i = 0 ∧ 5 ≤ s ∧ s ≤ 11) → k ≠ 31 → k ≠ 32 → k ≠ 33 → ¬ (k = 13 ∧ i = 0 ∧ (s = 1 ∨ s = 2)) → ¬ pj_in (w 10 0 11) k i → u' k i s = w k i s) ∧ (a = 1 ∨ a = 0) ∧
    ∀ v : pj_W, v 26 0 10 = w 26 0 10 → (∀ s, v 65 0 s = w 65 0 s) → ∃ v', fM_beach x v = fM_beach_58 v' ∧
    (a = 1 ∧ bt_B (w 10 0 11) u' v' ∧ (u' 12 0 6 = 0 ∧ v' 26 0 18 = 0 ∧ u' 12 0 7 = -1 ∧ v' 26 0 17 = -1) ∨ a = 0 ∧ tk_F u' v') ∧ v' 26 0 10 = 0 ∧
    ∀ k i s, ¬ (k = 26 ∧ i = 0 ∧ 10 ≤ s ∧ s ≤ 21) → k ≠ 66 → ¬ (k = 60 ∧ i = 0 ∧ 5600 ≤ s) → ¬ (k = 61 ∧ i = 0 ∧ 56 ≤ s) → v' k i s = v k i s := by
  obtain ⟨a, u', v', e1, e2, e3, e4, e5, e6, e7⟩ := bt_run hE hb h0 h1 w rfl (fun _ => rfl)
  refine ⟨a, u', e1, e4, e6, ?_, fun v hv1 hv2 => ?_⟩
  · rcases e3 with e3 | e3
    · exact Or.inl e3.1
    · exact Or.inr e3.1
  · obtain ⟨a2, u2, v2, g1, g2, g3, g4, g5, g6, g7⟩ := bt_run hE hb h0 h1 v hv1 hv2
    have ei := Option.some.inj (e1.symm.trans g1)
    have ea : a = a2 := congrArg Prod.fst ei
    have eu : u' = u2 := congrArg Prod.snd ei
    subst ea eu
    exact ⟨v2, g2, g3, g5, g7⟩
theorem bt_xdone {w u' : pj_W} {x b c d : Int} (h0 : 0 ≤ x) (h1 : x ≤ w 12 0 5) (hx : (fR_begin x w).bind (fun p3 => fBT_takeBeach (p3 10 0 11) p3) = some (1, u')) (e10 : u' 10 0 10 = c) (e11 : u' 10 0 11 = b) (e12 : u' 10 0 12 = d) (hb : 0 ≤ b) (hd : 0 ≤ d) :
    ∃ w1, fX_beach x w = some (u' 19 b 8, w1) ∧ (w1 10 0 10 = b ∧ w1 10 0 11 = c ∧ w1 10 0 15 = 0) ∧ (w1 24 d 5 = 0 ∧ w1 24 d 7 = 0) ∧ ∀ k i s, ¬ (k = 10 ∧ i = 0 ∧ (s = 10 ∨ s = 11 ∨ s = 15)) → ¬ (k = 24 ∧ i = d) → w1 k i s = u' k i s := by
  refine ⟨pj_set (pj_set (pj_set (pj_set (pj_set (pj_set u' 10 0 10 b) 10 0 11 c) 24 d 5 0) 24 d 6 0) 24 d 7 0) 10 0 15 0, ?_, ⟨?_, ?_, ?_⟩, ⟨?_, ?_⟩, fun k i s g1 g2 => ?_⟩
  · have q12 : pj_set (pj_set u' 10 0 10 b) 10 0 11 c 10 0 12 = d := by rw [pj_sne (by omega), pj_sne (by omega)]; exact e12
    have q10 : pj_set (pj_set (pj_set (pj_set (pj_set u' 10 0 10 b) 10 0 11 c) 24 d 5 0) 24 d 6 0) 24 d 7 0 10 0 10 = b := by rw [pj_sne (by omega), pj_sne (by omega), pj_sne (by omega), pj_sne (by omega), pj_set_at]
    have q8 : pj_set (pj_set (pj_set (pj_set (pj_set u' 10 0 10 b) 10 0 11 c) 24 d 5 0) 24 d 6 0) 24 d 7 0 19 b 8 = u' 19 b 8 := by rw [pj_sne (by omega), pj_sne (by omega), pj_sne (by omega), pj_sne (by omega), pj_sne (by omega)]
    unfold fX_beach
    rw [if_neg (show ¬ x < 0 by omega), if_pos h1, ← Option.bind_assoc, hx, Option.bind_some, if_neg (show ¬ (1 : Int) = 0 by decide)]
    show (if 0 ≤ (pj_set (pj_set u' 10 0 10 (u' 10 0 11)) 10 0 11 (u' 10 0 10) 10 0 12) then ((fD_clear (pj_set (pj_set u' 10 0 10 (u' 10 0 11)) 10 0 11 (u' 10 0 10) 10 0 12) (pj_set (pj_set u' 10 0 10 (u' 10 0 11)) 10 0 11 (u' 10 0 10))).bind _) else none) = _
    rw [e10, e11, q12, if_pos hd]
    unfold fD_clear
    rw [Option.bind_some, q10, if_pos hb, q8]
    rfl
  · rw [pj_sne (by omega), pj_sne (by omega), pj_sne (by omega), pj_sne (by omega), pj_sne (by omega), pj_set_at]
  · rw [pj_sne (by omega), pj_sne (by omega), pj_sne (by omega), pj_sne (by omega), pj_set_at]
  · rw [pj_set_at]
  · rw [pj_sne (by omega), pj_sne (by omega), pj_sne (by omega), pj_set_at]
  · rw [pj_sne (by omega), pj_set_at]
  · rw [pj_sne (by omega), pj_sne (by omega), pj_sne (by omega), pj_sne (by omega), pj_sne (by omega), pj_sne (by omega)]
theorem bt_mdone {v : pj_W} (h18 : v 26 0 18 = 0) : ∃ w2, fM_beach_58 v = some (bt_A v 2, w2) ∧ (w2 26 0 2 = 0 ∧ w2 26 0 16 = 0) ∧ (∀ x, 0 ≤ x → x < 1400 → w2 60 0 x = bt_A v x) ∧ (∀ s, 0 ≤ s → s < 14 → w2 61 0 s = v 61 0 (56 + s)) ∧ ∀ k i s, ¬ (k = 26 ∧ i = 0 ∧ (s = 2 ∨ s = 16)) → ¬ (k = 60 ∧ i = 0 ∧ s < 1400) → ¬ (k = 61 ∧ i = 0 ∧ s < 14) → w2 k i s = v k i s := by
  obtain ⟨v1, a1, a2, a3⟩ := m_takeA (v := v)
  obtain ⟨v2, b1, b2, b3⟩ := m_takeN (v := v1) fM_beach_125 rfl
  have e18 : v2 26 0 18 = 0 := by rw [b3 26 0 18 (by omega), a3 26 0 18 (by omega)]; exact h18
  have e60 : ∀ x, 0 ≤ x → x < 1400 → v2 60 0 x = bt_A v x := fun x x0 x1 => (b3 60 0 x (by omega)).trans (a2 x x0 x1)
  have f : ∀ k i s, ¬ (k = 26 ∧ i = 0 ∧ (s = 2 ∨ s = 16)) → pj_set (pj_set v2 26 0 16 0) 26 0 2 0 k i s = v2 k i s := fun k i s h => by rw [pj_sne (by omega), pj_sne (by omega)]
  refine ⟨pj_set (pj_set v2 26 0 16 0) 26 0 2 0, ?_, ⟨pj_set_at, by rw [pj_sne (by omega), pj_set_at]⟩, fun x x0 x1 => (f 60 0 x (by omega)).trans (e60 x x0 x1), fun s s0 s1 => ?_, fun k i s g1 g2 g3 => ?_⟩
  · unfold fM_beach_58
    rw [if_pos h18, a1, b1]
    unfold fM_beach_125 fM_taken fM_gives
    rw [e18, e60 2 (by decide) (by decide), pj_sne (by omega), e18, if_pos (Int.le_refl 0)]
    rfl
  · rw [f 61 0 s (by omega), b2 s s0 s1]; exact a3 61 0 _ (by omega)
  · rw [f k i s g1, b3 k i s (by omega)]; exact a3 k i s (by omega)
theorem bt_mfail {v : pj_W} (h18 : 1 ≤ v 26 0 18) : fM_beach_58 v = some (-1, pj_set (pj_set v 26 0 16 (v 26 0 18)) 26 0 2 9) := by
  unfold fM_beach_58 fM_beach_125 fM_taken fM_refuse
  rw [if_neg (by omega), pj_sne (by omega), if_neg (by omega)]
  rfl
/-- the beach of a text is there -/
theorem bt_RX {b d : Int} {u v w : pj_W} (hb : 0 ≤ b) (R : bt_B b u v) (hA : ∀ x, 0 ≤ x → x < 1400 → w 60 0 x = bt_A v x) (hN : ∀ s, 0 ≤ s → s < 14 → w 61 0 s = v 61 0 (56 + s)) (hI : ∀ k i s, pj_in b k i → w k i s = u k i s) (h5 : w 24 d 5 = 0) (h7 : w 24 d 7 = 0) : pj_RX b d 0 w (w 60 0) := by
  obtain ⟨I, RB, ⟨⟨n1, n2, n3, n4, n5, n6⟩, nf, nd⟩, ⟨k1, k2, k3, k4⟩, kf, _, _⟩ := R
  have hA' : ∀ x, 0 ≤ x → x < 1024 → x ≠ 9 → w 60 0 x = bt_A v x := fun x x0 x1 _ => hA x x0 (by omega)
  have hK : pj_IK (bt_A v) := fun f hf => by
    rw [(kf f hf.1 hf.2).2, k1]
    exact ⟨by decide, by decide⟩
  refine ⟨I.ex (fun x x0 x1 _ _ => hA x x0 (by omega)), hK.exA I hA', (RB.ex I hI).exA I hA', ⟨fun f hf => ?_, fun x hx => ?_⟩, ⟨by omega, Or.inl ⟨h5, (hA 9 (by decide) (by decide)).trans k4⟩⟩⟩
  · rw [pj_isF, hA 1 (by decide) (by decide)] at hf
    have := hf.1
    have := hf.2
    rw [hI 22 _ 0 (by unfold pj_in; omega), Int.zero_add, hN f (by omega) (by omega)]
    exact nf f hf.1 hf.2
  · rw [pj_isD, hA 2 (by decide) (by decide)] at hx
    have := hx.1
    have := hx.2
    rw [hI 23 _ 2 (by unfold pj_in; omega), hN _ (by omega) (by omega), show 56 + (0 + 6 + x) = 56 + 6 + x by omega]
    exact nd x hx.1 hx.2
section
variable {n n' : Int} {w : pj_W}
theorem cc_beach (R : pj_REL n w) (hn : n ≤ n') (x : Int) : pj_cB n' w (fX_beach x) (fM_beach x) := by
  have hE := R.2.2.2.2.1
  have e10 := hE.1
  by_cases c : x < 0 ∨ w 12 0 5 < x
  · refine pj_cB.s R hn (a := -1) (y := 1) ?_ ?_
    · unfold fX_beach fX_beach_15 fX_refuse
      rcases c with c | c
      · rw [if_pos c]; rfl
      · by_cases c0 : x < 0
        · rw [if_pos c0]; rfl
        · rw [if_neg c0, if_neg (by omega)]; rfl
    · have hz : pj_set w 10 0 15 1 26 0 10 = w 12 0 5 := (pj_sne (by omega)).trans e10.symm
      have hbg : fM_begins x 900 (pj_set w 10 0 15 1) = some (0, pj_set w 10 0 15 1) := by
        unfold fM_begins
        by_cases c0 : x < 0
        · rw [if_pos c0]
        · rw [if_neg c0, hz, if_pos (by omega)]
      unfold fM_beach
      rw [hbg, Option.bind_some, if_pos rfl]
      rfl
  have h0 : 0 ≤ x := by omega
  have h1 : x ≤ w 12 0 5 := by omega
  have C := R.1
  obtain ⟨b, hb⟩ : ∃ b, w 10 0 11 = b := ⟨_, rfl⟩
  obtain ⟨cb, hcb⟩ : ∃ cb, w 10 0 10 = cb := ⟨_, rfl⟩
  obtain ⟨d, hd⟩ : ∃ d, w 10 0 12 = d := ⟨_, rfl⟩
  have hbc : (cb = 0 ∧ b = 1 ∨ cb = 1 ∧ b = 0) ∧ (d = 0 ∨ d = 1) := by
    unfold pj_RC at C
    rw [hb, hcb, hd] at C
    exact ⟨C.1, C.2.imp And.left And.left⟩
  obtain ⟨a, u', a1, a2, a3, a4, a5⟩ := bt_run2 hE (by omega) h0 h1
  rw [hb] at a3 a5
  have x10 : ∀ s, u' 10 0 s = w 10 0 s := fun s => a3 10 0 s (by omega) (by decide) (by decide) (by decide) (by omega) (by unfold pj_in; omega)
  rcases a4 with ea | ea
  · subst ea
    obtain ⟨w1, q1, ⟨q2, q3, q4⟩, q5, q6⟩ := bt_xdone h0 h1 a1 ((x10 10).trans hcb) ((x10 11).trans hb) ((x10 12).trans hd) (by omega) (by omega)
    have f1 : ∀ k i s, ¬ (k = 12 ∧ i = 0 ∧ 5 ≤ s ∧ s ≤ 11) → k ≠ 31 → k ≠ 32 → k ≠ 33 → ¬ (k = 13 ∧ i = 0 ∧ (s = 1 ∨ s = 2)) → ¬ pj_in b k i → ¬ (k = 10 ∧ i = 0 ∧ (s = 10 ∨ s = 11 ∨ s = 15)) → ¬ (k = 24 ∧ i = d) → w1 k i s = w k i s := fun k i s z1 z2 z3 z4 z5 z6 z7 z8 => (q6 k i s z7 z8).trans (a3 k i s z1 z2 z3 z4 z5 z6)
    obtain ⟨v', m1, m2, m3, m4⟩ := a5 w1 (f1 26 0 10 (by omega) (by decide) (by decide) (by decide) (by omega) (by unfold pj_in; omega) (by omega) (by omega)) (fun s => f1 65 0 s (by omega) (by decide) (by decide) (by decide) (by omega) (by unfold pj_in; omega) (by omega) (by omega))
    rcases m2 with ⟨_, B1, F6, F18, F7, F17⟩ | ⟨bad, _⟩
    · obtain ⟨w2, r1, ⟨r2, r3⟩, r4, r5, r6⟩ := bt_mdone F18
      have e8 : u' 19 b 8 = bt_A v' 2 := B1.2.1.1.2.2.2.2.2.2
      have f2 : ∀ k i s, ¬ (k = 26 ∧ i = 0 ∧ (s = 2 ∨ (10 ≤ s ∧ s ≤ 21))) → k ≠ 66 → ¬ (k = 60 ∧ i = 0 ∧ (s < 1400 ∨ 5600 ≤ s)) → ¬ (k = 61 ∧ i = 0 ∧ (s < 14 ∨ 56 ≤ s)) → w2 k i s = w1 k i s := fun k i s z1 z2 z3 z4 => (r6 k i s (by omega) (by omega) (by omega)).trans (m4 k i s (by omega) z2 (by omega) (by omega))
      have g10 : w2 10 0 10 = b := (f2 10 0 10 (by omega) (by omega) (by omega) (by omega)).trans q2
      have g11 : w2 10 0 11 = cb := (f2 10 0 11 (by omega) (by omega) (by omega) (by omega)).trans q3
      have g12 : w2 10 0 12 = d := by rw [f2 10 0 12 (by omega) (by omega) (by omega) (by omega), q6 10 0 12 (by omega) (by omega), x10]; exact hd
      have g13 : w2 10 0 13 = w 10 0 13 := by rw [f2 10 0 13 (by omega) (by omega) (by omega) (by omega), q6 10 0 13 (by omega) (by omega), x10]
      refine ⟨u' 19 b 8, w1, w2, q1, by rw [m1, r1, e8], R.txt hn ?_ ?_ ?_ ⟨?_, ?_, ?_, ?_⟩ (fun k i s hk => ?_)⟩
      · unfold pj_RC at C ⊢
        rw [g10, g11, g12, g13]
        rw [hd] at C
        exact ⟨by omega, C.2⟩
      · rw [g10, g12]
        refine bt_RX (by omega) B1 r4 r5 (fun k i s hk => ?_) ?_ ?_
        · unfold pj_in at hk
          rw [f2 k i s (by omega) (by omega) (by omega) (by omega)]
          exact q6 k i s (by omega) (by omega)
        · rw [f2 24 d 5 (by omega) (by omega) (by omega) (by omega)]; exact q5.1
        · rw [f2 24 d 7 (by omega) (by omega) (by omega) (by omega)]; exact q5.2
      · rw [f2 10 0 15 (by omega) (by omega) (by omega) (by omega), q4, r2]
      · rw [f2 12 0 5 (by omega) (by omega) (by omega) (by omega), q6 12 0 5 (by omega) (by omega)]; exact a2
      · rw [r6 26 0 10 (by omega) (by omega) (by omega)]; exact m3
      · rw [f2 12 0 6 (by omega) (by omega) (by omega) (by omega), q6 12 0 6 (by omega) (by omega), F6, r3]
      · rw [f2 12 0 7 (by omega) (by omega) (by omega) (by omega), q6 12 0 7 (by omega) (by omega), F7, r6 26 0 17 (by omega) (by omega) (by omega), F17]
      · have hy := tx_ny hk
        rw [f2 k i s (by have := tx_26 hy; omega) (tx_66 hy).1 (tx_60 hy) (tx_61 hy)]
        exact f1 k i s (by have := tx_12 hy; omega) (tx_31 hy).1 (tx_31 hy).2.1 (tx_31 hy).2.2 (by have := (tx_13 hy).1; omega) (tx_in hy (by omega)) (by have := tx_10 hy; omega) (by have := tx_24 hy; omega)
    · omega
  · subst ea
    have f1 : ∀ k i s, ¬ (k = 12 ∧ i = 0 ∧ 5 ≤ s ∧ s ≤ 11) → k ≠ 31 → k ≠ 32 → k ≠ 33 → ¬ (k = 13 ∧ i = 0 ∧ (s = 1 ∨ s = 2)) → ¬ pj_in b k i → ¬ (k = 10 ∧ i = 0 ∧ s = 15) → pj_set u' 10 0 15 9 k i s = w k i s := fun k i s z1 z2 z3 z4 z5 z6 z7 => (pj_sne z7).trans (a3 k i s z1 z2 z3 z4 z5 z6)
    have q1 : fX_beach x w = some (-1, pj_set u' 10 0 15 9) := by
      unfold fX_beach
      rw [if_neg (show ¬ x < 0 by omega), if_pos h1, ← Option.bind_assoc, a1, Option.bind_some, if_pos rfl]
      rfl
    obtain ⟨v', m1, m2, m3, m4⟩ := a5 (pj_set u' 10 0 15 9) (f1 26 0 10 (by omega) (by decide) (by decide) (by decide) (by omega) (by unfold pj_in; omega) (by omega)) (fun s => f1 65 0 s (by omega) (by decide) (by decide) (by decide) (by omega) (by unfold pj_in; omega) (by omega))
    rcases m2 with ⟨bad, _⟩ | ⟨_, F1, F2, F3⟩
    · omega
    · have r1 := bt_mfail (v := v') (by omega)
      have f2 : ∀ k i s, ¬ (k = 26 ∧ i = 0 ∧ (s = 2 ∨ (10 ≤ s ∧ s ≤ 21))) → k ≠ 66 → ¬ (k = 60 ∧ i = 0 ∧ 5600 ≤ s) → ¬ (k = 61 ∧ i = 0 ∧ 56 ≤ s) → pj_set (pj_set v' 26 0 16 (v' 26 0 18)) 26 0 2 9 k i s = pj_set u' 10 0 15 9 k i s := fun k i s z1 z2 z3 z4 => by rw [pj_sne (by omega), pj_sne (by omega)]; exact m4 k i s (by omega) z2 z3 z4
      have f : ∀ k i s, ¬ (k = 26 ∧ i = 0 ∧ (s = 2 ∨ (10 ≤ s ∧ s ≤ 21))) → k ≠ 66 → ¬ (k = 60 ∧ i = 0 ∧ 5600 ≤ s) → ¬ (k = 61 ∧ i = 0 ∧ 56 ≤ s) → ¬ (k = 12 ∧ i = 0 ∧ 5 ≤ s ∧ s ≤ 11) → k ≠ 31 → k ≠ 32 → k ≠ 33 → ¬ (k = 13 ∧ i = 0 ∧ (s = 1 ∨ s = 2)) → ¬ pj_in b k i → ¬ (k = 10 ∧ i = 0 ∧ s = 15) → pj_set (pj_set v' 26 0 16 (v' 26 0 18)) 26 0 2 9 k i s = w k i s := fun k i s z1 z2 z3 z4 y1 y2 y3 y4 y5 y6 y7 => (f2 k i s z1 z2 z3 z4).trans (f1 k i s y1 y2 y3 y4 y5 y6 y7)
      refine ⟨-1, pj_set u' 10 0 15 9, _, q1, by rw [m1, r1], R.txt hn ?_ ?_ ?_ ⟨?_, ?_, ?_, ?_⟩ (fun k i s hk => ?_)⟩
      · exact C.ex (fun s s0 s1 => f 10 0 s (by omega) (by decide) (by omega) (by omega) (by omega) (by decide) (by decide) (by decide) (by omega) (by unfold pj_in; omega) (by omega))
      · rw [f 10 0 10 (by omega) (by decide) (by omega) (by omega) (by omega) (by decide) (by decide) (by decide) (by omega) (by unfold pj_in; omega) (by omega), f 10 0 12 (by omega) (by decide) (by omega) (by omega) (by omega) (by decide) (by decide) (by decide) (by omega) (by unfold pj_in; omega) (by omega)]
        refine (R.2.1.ex (fun k i s hk => ?_)).exA (fun x x0 x1 => ?_)
        · rw [hcb, hd] at hk
          unfold pj_ix pj_in at hk
          exact f k i s (by omega) (by omega) (by omega) (by omega) (by omega) (by omega) (by omega) (by omega) (by omega) (by unfold pj_in; omega) (by omega)
        · exact f 60 0 x (by omega) (by decide) (by omega) (by omega) (by omega) (by decide) (by decide) (by decide) (by omega) (by unfold pj_in; omega) (by omega)
      · rw [f2 10 0 15 (by omega) (by decide) (by omega) (by omega), pj_set_at, pj_set_at]
      · rw [f2 12 0 5 (by omega) (by decide) (by omega) (by omega), pj_sne (by omega)]; exact a2
      · rw [pj_sne (by omega), pj_sne (by omega)]; exact m3
      · rw [f2 12 0 6 (by omega) (by decide) (by omega) (by omega), pj_sne (by omega), pj_sne (by omega), pj_set_at]; exact F1
      · rw [f2 12 0 7 (by omega) (by decide) (by omega) (by omega), pj_sne (by omega), pj_sne (by omega), pj_sne (by omega)]; exact F2
      · have hy := tx_ny hk
        exact f k i s (by have := tx_26 hy; omega) (tx_66 hy).1 (by have := tx_60 hy; omega) (by have := tx_61 hy; omega) (by have := tx_12 hy; omega) (tx_31 hy).1 (tx_31 hy).2.1 (tx_31 hy).2.2 (by have := (tx_13 hy).1; omega) (tx_in hy (by omega)) (by have := tx_10 hy; omega)
end
