/-! BACK TO A MARK -/
section
variable {n n' : Int} {w : pj_W}
theorem cc_back (R : pj_REL n w) (hn : n ≤ n') : pj_cB n' w fX_back fM_back := by
  have M := R.2.2.2.2.2.1
  have m37 := M.1
  have m0 := M.2.1
  have m3 := M.2.2.1
  have hC := R.1
  have hc1 : w 10 0 10 = 0 ∨ w 10 0 10 = 1 := by rcases hC.1 with c | c <;> omega
  have hc2 : w 10 0 12 = 0 ∨ w 10 0 12 = 1 := by rcases hC.2 with c | c <;> omega
  by_cases c : 0 < w 10 0 14
  case neg =>
    refine pj_cB.s R hn (a := -1) (y := 6) ?_ ?_
    · unfold fX_back; rw [if_neg c]; rfl
    · unfold fM_back; rw [if_pos (by rw [pj_sne (by omega)]; omega)]; rfl
  obtain ⟨m, hm⟩ : ∃ m, w 10 0 14 = m + 1 := ⟨w 10 0 14 - 1, by omega⟩
  have hX : pj_RX (2 + m) (2 + m) (14 * (m + 1)) (pj_set w 10 0 14 m) (pj_slot w (m + 1)) := (M.2.2.2 m (by omega) (by omega)).ex (fun k i s hk => pj_sne (by unfold pj_ix pj_in at hk; omega))
  obtain ⟨w1, w2, e1, e2, X, fr, fr1⟩ := pj_RX.copy (b := w 10 0 10) (d := w 10 0 12) hX (by omega) (by omega) (by omega) (by omega) (by omega)
  have f10 : ∀ s, w2 10 0 s = pj_set w 10 0 14 m 10 0 s := fun s => fr 10 0 s (by unfold pj_in; omega) (by omega)
  have g10 : ∀ s, w1 10 0 s = pj_set w 10 0 14 m 10 0 s := fun s => fr1 10 0 s (by unfold pj_in; omega)
  have hx : fX_back w = some (m, pj_set w2 10 0 15 0) := by
    unfold fX_back
    rw [if_pos c, hm, pj_wr_id (x := m + 1 - 1) (by omega) (by omega), show m + 1 - 1 = m by omega, pj_set_at, pj_sne (by omega), if_pos (by omega), if_pos (by omega), e1, Option.bind_some, g10 14, g10 12, pj_set_at, pj_sne (by omega), if_pos (by omega), if_pos (by omega), e2, Option.bind_some, f10 14, pj_set_at]; rfl
  have h37 : pj_set w2 10 0 15 0 26 0 37 = m + 1 := by
    rw [pj_sne (by omega), fr 26 0 37 (by unfold pj_in; omega) (by omega), pj_sne (by omega), ← m37, hm]
  have hmm : fM_back (pj_set w2 10 0 15 0) = some (m, pj_set (pj_set (pj_cpy (pj_cpy (pj_set w2 10 0 15 0) 60 0 (1400 * (m + 1)) 60 0 (1400 * 0) 1400) 61 0 (14 * (m + 1)) 61 0 (14 * 0) 14) 26 0 37 m) 26 0 2 0) := by
    unfold fM_back fM_gives
    rw [h37, if_neg (by omega), m_copies (by omega) (by omega) (by omega), Option.bind_some, Option.bind_some, pj_cne (by omega), pj_cne (by omega), h37, pj_wr_id (x := m + 1 - 1) (by omega) (by omega), show m + 1 - 1 = m by omega, pj_set_at]
  refine ⟨_, _, _, hx, hmm, ?_⟩
  have ho : ∀ k i s, ¬ (k = 60 ∧ i = 0 ∧ 0 ≤ s ∧ s < 1400) → ¬ (k = 61 ∧ i = 0 ∧ 0 ≤ s ∧ s < 14) → ¬ (k = 26 ∧ i = 0 ∧ (s = 2 ∨ s = 37)) → ¬ (k = 10 ∧ i = 0 ∧ (s = 14 ∨ s = 15)) → pj_set (pj_set (pj_cpy (pj_cpy (pj_set w2 10 0 15 0) 60 0 (1400 * (m + 1)) 60 0 (1400 * 0) 1400) 61 0 (14 * (m + 1)) 61 0 (14 * 0) 14) 26 0 37 m) 26 0 2 0 k i s = w2 k i s := fun k i s h1 h2 h3 h4 => by
    rw [pj_sne (by omega), pj_sne (by omega), pj_cne (by omega), pj_cne (by omega), pj_sne (by omega)]
  have v60 : ∀ x, 0 ≤ x → x < 1400 → pj_set (pj_set (pj_cpy (pj_cpy (pj_set w2 10 0 15 0) 60 0 (1400 * (m + 1)) 60 0 (1400 * 0) 1400) 61 0 (14 * (m + 1)) 61 0 (14 * 0) 14) 26 0 37 m) 26 0 2 0 60 0 x = pj_slot w (m + 1) x := fun x h0 h1 => by
    rw [pj_sne (by omega), pj_sne (by omega), pj_cne (by omega)]
    unfold pj_cpy pj_slot
    rw [if_pos (by omega), pj_sne (by omega), fr 60 0 _ (by unfold pj_in; omega) (by omega), pj_sne (by omega)]
    congr 1; omega
  have v61 : ∀ x, 0 ≤ x → x < 14 → pj_set (pj_set (pj_cpy (pj_cpy (pj_set w2 10 0 15 0) 60 0 (1400 * (m + 1)) 60 0 (1400 * 0) 1400) 61 0 (14 * (m + 1)) 61 0 (14 * 0) 14) 26 0 37 m) 26 0 2 0 61 0 (0 + x) = w2 61 0 (14 * (m + 1) + x) := fun x h0 h1 => by
    rw [pj_sne (by omega), pj_sne (by omega)]
    unfold pj_cpy
    rw [if_pos (by omega), if_neg (by omega), pj_sne (by omega)]
    congr 1; omega
  have v14 : pj_set (pj_set (pj_cpy (pj_cpy (pj_set w2 10 0 15 0) 60 0 (1400 * (m + 1)) 60 0 (1400 * 0) 1400) 61 0 (14 * (m + 1)) 61 0 (14 * 0) 14) 26 0 37 m) 26 0 2 0 10 0 14 = m ∧ pj_set (pj_set (pj_cpy (pj_cpy (pj_set w2 10 0 15 0) 60 0 (1400 * (m + 1)) 60 0 (1400 * 0) 1400) 61 0 (14 * (m + 1)) 61 0 (14 * 0) 14) 26 0 37 m) 26 0 2 0 26 0 37 = m ∧ pj_set (pj_set (pj_cpy (pj_cpy (pj_set w2 10 0 15 0) 60 0 (1400 * (m + 1)) 60 0 (1400 * 0) 1400) 61 0 (14 * (m + 1)) 61 0 (14 * 0) 14) 26 0 37 m) 26 0 2 0 10 0 15 = 0 ∧ pj_set (pj_set (pj_cpy (pj_cpy (pj_set w2 10 0 15 0) 60 0 (1400 * (m + 1)) 60 0 (1400 * 0) 1400) 61 0 (14 * (m + 1)) 61 0 (14 * 0) 14) 26 0 37 m) 26 0 2 0 26 0 2 = 0 := by
    refine ⟨?_, ?_, ?_, pj_set_at⟩
    · rw [pj_sne (by omega), pj_sne (by omega), pj_cne (by omega), pj_cne (by omega), pj_sne (by omega), f10 14, pj_set_at]
    · rw [pj_sne (by omega), pj_set_at]
    · rw [pj_sne (by omega), pj_sne (by omega), pj_cne (by omega), pj_cne (by omega), pj_set_at]
  generalize pj_set (pj_set (pj_cpy (pj_cpy (pj_set w2 10 0 15 0) 60 0 (1400 * (m + 1)) 60 0 (1400 * 0) 1400) 61 0 (14 * (m + 1)) 61 0 (14 * 0) 14) 26 0 37 m) 26 0 2 0 = W at ho v60 v61 v14
  have hw : ∀ k i s, ¬ (k = 60 ∧ i = 0 ∧ 0 ≤ s ∧ s < 1400) → ¬ (k = 61 ∧ i = 0 ∧ 0 ≤ s ∧ s < 14) → ¬ (k = 26 ∧ i = 0 ∧ (s = 2 ∨ s = 37)) → ¬ (k = 10 ∧ i = 0 ∧ (s = 14 ∨ s = 15)) → ¬ pj_in (w 10 0 10) k i → ¬ ((k = 24 ∨ k = 47 ∨ k = 48 ∨ k = 49 ∨ k = 50 ∨ k = 51) ∧ i = w 10 0 12) → W k i s = w k i s := fun k i s h1 h2 h3 h4 h5 h6 => (ho k i s h1 h2 h3 h4).trans ((fr k i s h5 h6).trans (pj_sne (by omega)))
  obtain ⟨r1, r2, r3, r4, r5, r6⟩ := R.rest hn (w' := W) (fun k i s h1 h2 h3 => hw k i s (by unfold pj_bk at h1; omega) (by unfold pj_bk at h1; omega) h3 (by omega) (by unfold pj_bk at h1; unfold pj_in; omega) (by unfold pj_bk at h1; omega))
  have S := R.2.2.1
  refine ⟨r1, ?_, ⟨?_, ?_, ?_⟩, r2, r3, ⟨by rw [v14.1, v14.2.1], by rw [v14.1]; omega, by rw [v14.1]; omega, fun j h0 h1 => ?_⟩, r4, r5, r6⟩
  · have e10 : W 10 0 10 = w 10 0 10 := hw 10 0 10 (by omega) (by omega) (by omega) (by omega) (by unfold pj_in; omega) (by omega)
    have e12 : W 10 0 12 = w 10 0 12 := hw 10 0 12 (by omega) (by omega) (by omega) (by omega) (by unfold pj_in; omega) (by omega)
    rw [e10, e12]
    have X2 : pj_RX (w 10 0 10) (w 10 0 12) 0 W (pj_slot w (m + 1)) := X.base (fun k i s hk => ho k i s (by unfold pj_in at hk; omega) (by unfold pj_in at hk; omega) (by unfold pj_in at hk; omega) (by unfold pj_in at hk; omega)) v61
    exact X2.exA (fun x h2 h3 => v60 x h2 h3)
  · rw [v14.2.2.1, v14.2.2.2]
  · rw [hw 10 0 16 (by omega) (by omega) (by omega) (by omega) (by unfold pj_in; omega) (by omega), hw 26 0 3 (by omega) (by omega) (by omega) (by omega) (by unfold pj_in; omega) (by omega)]; exact S.2.1
  · rw [hw 10 0 17 (by omega) (by omega) (by omega) (by omega) (by unfold pj_in; omega) (by omega), hw 26 0 4 (by omega) (by omega) (by omega) (by omega) (by unfold pj_in; omega) (by omega)]; exact S.2.2
  · rw [v14.1] at h1
    refine ((M.2.2.2 j h0 (by omega)).ex (w' := W) (fun k i s hk => hw k i s ?_ ?_ ?_ ?_ ?_ ?_)).exA (fun x h2 h3 => hw 60 0 _ (by omega) (by omega) (by omega) (by omega) (by unfold pj_in; omega) (by omega)) <;> unfold pj_ix pj_in at hk
    · omega
    · omega
    · omega
    · omega
    · unfold pj_in; omega
    · omega
end
