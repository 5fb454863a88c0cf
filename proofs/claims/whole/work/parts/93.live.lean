/-! TO LIVE: live, lived -/
theorem x_lives {b dd N : Int} {w : pj_W} {A L : pj_Q} (R : pj_RB b w A) (I : pj_IV A) (K : pj_IK A) (hb : 0 ≤ b) (hdd : 0 ≤ dd) (h9 : 0 ≤ A 9) (h7 : w 24 dd 7 = A 9) (hr : lf_rows A (w 47 dd) (w 48 dd) (w 49 dd) (w 50 dd) (w 51 dd)) (hL : ∀ i, 0 ≤ i → i < 60 → 0 ≤ L i ∧ L i ≤ 98)
    (h43 : ∀ i, 0 ≤ i → i < 60 → w 43 0 i = L i + 1 ∨ -N ≤ w 43 0 i ∧ w 43 0 i ≤ 0 ∧ L i = 0) (hN : 0 ≤ N) (hN2 : N < 1900000000) {seed : Int} (hs : 0 ≤ seed) (hs2 : seed < 65536) {C0 : pj_Q} (hC : ∀ i, 0 ≤ i → i < 5 → C0 i = 0) :
    ∃ (c' : pj_cf) (v' : pj_W), pj_Lp lf_fl (0, 0, A, seed, C0, L) = some c' ∧ fL_liveThrough b dd seed w = some (c'.2.1, v') ∧ rx b dd (N + 54002) w v' c'.2.2.1 c'.2.2.2.1 c'.2.2.2.2.1 c'.2.2.2.2.2 := by
  have hok : lf_ok A (w 47 dd) (w 48 dd) (w 49 dd) (w 50 dd) (w 51 dd) (0, 0, A, seed, C0, L) := ⟨I, K, fun _ _ => rfl, ⟨hs, hs2⟩, fun i i0 i1 => by dsimp only; rw [hC i i0 i1]; decide, hL, ⟨Int.le_refl _, h9⟩, ⟨Int.le_refl _, show (0 : Int) ≤ 300 by decide⟩, hr⟩
  have key : ∀ m n : Nat, n + m = 5 → ∀ u : pj_W, (∀ i, 0 ≤ i → i < (n : Int) → u 42 0 i = 0) → (∀ k i s, k ≠ 42 → u k i s = pj_set (pj_set (pj_set w 18 0 2 b) 18 0 3 dd) 18 0 4 seed k i s) → ∃ u', fL_liveThrough_18 ((n : Int), u) = (fL_liveThrough_47 (0, 0, 0, u')) ∧ (∀ i, 0 ≤ i → i < 5 → u' 42 0 i = 0) ∧ (∀ k i s, k ≠ 42 → u' k i s = pj_set (pj_set (pj_set w 18 0 2 b) 18 0 3 dd) 18 0 4 seed k i s) := by
    intro m
    induction m with
    | zero =>
      intro n hn u h1 h2
      refine ⟨u, ?_, fun i i0 i1 => h1 i i0 (by omega), h2⟩
      unfold fL_liveThrough_18
      rw [pj_Lp_eq]
      unfold fL_liveThrough_18b
      dsimp only
      rw [if_pos (by omega)]
      cases fL_liveThrough_47 (0, 0, 0, u) with
      | none => rfl
      | some r => rfl
    | succ m ih =>
      intro n hn u h1 h2
      obtain ⟨u', e, r⟩ := ih (n + 1) (by omega) (pj_set u 42 0 n 0) (fun i i0 i1 => by
        by_cases c : i = n
        · rw [c, pj_set_at]
        · rw [pj_sne (by omega)]; exact h1 i i0 (by omega)) (fun k i s hk => by rw [pj_sne (by omega)]; exact h2 k i s hk)
      refine ⟨u', ?_, r⟩
      rw [← e]
      refine pj_Lp_st ?_
      unfold fL_liveThrough_18b
      dsimp only
      rw [if_neg (by omega), if_pos (by omega), pj_wri (by omega)]; rfl
  obtain ⟨u, eu, u42, uo⟩ := key 5 0 rfl (pj_set (pj_set (pj_set w 18 0 2 b) 18 0 3 dd) 18 0 4 seed) (fun i i0 i1 => by omega) (fun _ _ _ _ => rfl)
  have uw : ∀ k i s, k ≠ 42 → k ≠ 18 → u k i s = w k i s := fun k i s h1 h2 => by rw [uo k i s h1, pj_sne (by omega), pj_sne (by omega), pj_sne (by omega)]
  have hrx : rx b dd N w u A seed C0 L := by
    refine ⟨R.ex I (fun k i s hk => uw k i s (by unfold pj_in at hk; omega) (by unfold pj_in at hk; omega)), ⟨?_, ?_, ?_⟩, fun i i0 i1 => ?_, fun i i0 i1 => ?_, ⟨fun i => uw 22 i 0 (by decide) (by decide), fun i => uw 23 i 2 (by decide) (by decide)⟩, fun k i s a1 a2 a3 a4 => ?_⟩
    · rw [uo 18 0 2 (by decide), pj_sne (by omega), pj_sne (by omega), pj_set_at]
    · rw [uo 18 0 3 (by decide), pj_sne (by omega), pj_set_at]
    · rw [uo 18 0 4 (by decide), pj_set_at]
    · rw [u42 i i0 i1, hC i i0 i1]
    · rw [uw 43 0 i (by decide) (by decide)]; exact h43 i i0 i1
    · rw [uo k i s a3, pj_sne (by omega), pj_sne (by omega), pj_sne (by omega)]
  obtain ⟨c', v', a1, a2, a3⟩ := x_life 54002 hb hdd 0 0 0 N A seed C0 L u hok (by have := lf_P_in hok; omega) hrx h7 (by omega) (by omega) hN (by omega)
  refine ⟨c', v', a1, ?_, a3⟩
  unfold fL_liveThrough
  exact eu.trans a2
theorem pj_RD.rows {d : Int} {w : pj_W} {A : pj_Q} (R : pj_RD d w A) (h : A 9 ≠ -1) : 0 ≤ A 9 ∧ w 24 d 7 = A 9 ∧ lf_rows A (w 47 d) (w 48 d) (w 49 d) (w 50 d) (w 51 d) ∧ w 24 d 5 = 1 := by
  rcases R.2 with r | r
  · exact absurd r.2 h
  · exact ⟨by rw [r.2.1]; exact R.1.1, r.2.1.symm, ⟨by rw [r.2.1]; exact R.1.2, r.2.2⟩, r.1⟩
section
variable {n n' : Int} {w : pj_W}
theorem cc_lived (R : pj_REL n w) (hn : n ≤ n') (k : Int) : pj_cB n' w (fX_lived k) (fM_lived k) := by
  have H := R.2.2.2.2.2.2.2.1
  by_cases c : 0 ≤ k ∧ k < 5
  case neg =>
    refine pj_cB.s R hn (a := -1) (y := 1) ?_ ?_
    · unfold fX_lived fX_lived_13
      by_cases c1 : k < 0
      · rw [if_pos c1]; rfl
      · rw [if_neg c1, if_neg (by omega)]; rfl
    · unfold fM_lived fM_lived_9
      by_cases c1 : k < 0
      · rw [if_pos c1]; rfl
      · rw [if_neg c1, if_neg (by omega)]; rfl
  by_cases c0 : w 10 0 9 = 0
  · refine pj_cB.s R hn (a := -1) (y := 6) ?_ ?_
    · unfold fX_lived
      rw [if_neg (by omega), if_pos (by omega), if_pos c0]; rfl
    · unfold fM_lived
      rw [if_neg (by omega), if_pos (by omega), if_pos (by rw [pj_sne (by omega), ← H.1]; exact c0)]; rfl
  · refine pj_cB.s R hn (a := w 44 0 k) (y := 0) ?_ ?_
    · unfold fX_lived
      rw [if_neg (by omega), if_pos (by omega), if_neg c0, if_pos c]; rfl
    · unfold fM_lived
      rw [if_neg (by omega), if_pos (by omega), if_neg (by rw [pj_sne (by omega), ← H.1]; exact c0), if_pos c, pj_sne (by omega), ← H.2.2 k c.1 c.2]; rfl
theorem cc_live (R : pj_REL n w) (h0 : 0 ≤ n) (hn : n + 54002 ≤ n') (hn2 : n' ≤ 1900000000) (seed : Int) : pj_cB n' w (fX_live seed) (fM_live seed) := by
  have hC := R.1
  have hb : w 10 0 10 = 0 ∨ w 10 0 10 = 1 := by rcases hC.1 with c | c <;> omega
  have hdd : w 10 0 12 = 0 ∨ w 10 0 12 = 1 := by rcases hC.2 with c | c <;> omega
  by_cases c : 0 ≤ seed ∧ seed ≤ 9999
  case neg =>
    refine pj_cB.s R (by omega) (a := -1) (y := 1) ?_ ?_
    · unfold fX_live fX_live_11
      by_cases c1 : seed < 0
      · rw [if_pos c1]; rfl
      · rw [if_neg c1, if_neg (by omega)]; rfl
    · unfold fM_live
      rw [mq_isFrom, Option.bind_some, if_neg c, if_pos rfl]; rfl
  obtain ⟨I, K, RB, RN, RD⟩ := R.2.1
  by_cases c9 : w 60 0 9 = -1
  · have h5 : w 24 (w 10 0 12) 5 = 0 := by
      rcases RD.2 with r | r
      · exact r.1
      · have := RD.1; omega
    refine pj_cB.s R (by omega) (a := -1) (y := 6) ?_ ?_
    · unfold fX_live
      rw [if_neg (by omega), if_pos c.2, if_pos (by omega), if_pos h5]; rfl
    · unfold fM_live
      rw [mq_isFrom, Option.bind_some, if_pos c, if_neg (by decide), if_pos (by rw [pj_sne (by omega)]; exact c9)]; rfl
  obtain ⟨g9, g7, gr, g5⟩ := RD.rows c9
  have L := R.2.2.2.2.2.2.2.2
  have hL : ∀ i, 0 ≤ i → i < 60 → 0 ≤ w 72 0 i ∧ w 72 0 i ≤ 98 := fun i i0 i1 => by rcases L i i0 i1 with h | h <;> omega
  have h43 : ∀ i, 0 ≤ i → i < 60 → w 43 0 i = w 72 0 i + 1 ∨ -n ≤ w 43 0 i ∧ w 43 0 i ≤ 0 ∧ w 72 0 i = 0 := fun i i0 i1 => by rcases L i i0 i1 with h | h; exact Or.inl h.1; exact Or.inr h
  obtain ⟨c1, v', a1, a2, a3⟩ := x_lives (C0 := fun i => if 0 ≤ i ∧ i < 5 then 0 else w 73 0 i) RB I K (by omega) (by omega) g9 g7 gr hL h43 h0 (by omega) (seed := seed) c.1 (by omega) (fun i i0 i1 => if_pos ⟨i0, i1⟩)
  have off := a3.2.2.2.2.2
  have hx : fX_live seed w = some (c1.2.1, pj_set (pj_set (pj_cpy v' 42 0 0 44 0 0 5) 10 0 9 1) 10 0 15 0) := by
    unfold fX_live
    rw [if_neg (by omega), if_pos c.2, if_pos (by omega), if_neg (by omega), a2, Option.bind_some, if_pos (by decide)]; rfl
  have wo : ∀ k i s, ¬ pj_in (w 10 0 10) k i → ¬ (k = 18 ∧ i = 0 ∧ 2 ≤ s ∧ s ≤ 4) → k ≠ 42 → k ≠ 43 → ¬ (k = 44 ∧ i = 0) → ¬ (k = 10 ∧ i = 0 ∧ (s = 9 ∨ s = 15)) → pj_set (pj_set (pj_cpy v' 42 0 0 44 0 0 5) 10 0 9 1) 10 0 15 0 k i s = w k i s := fun k i s h1 h2 h3 h4 h5 h6 => by
    rw [pj_sne (by omega), pj_sne (by omega), pj_cne (by omega)]
    exact off k i s h1 h2 h3 h4
  have wi : ∀ k i s, pj_in (w 10 0 10) k i ∨ k = 43 → pj_set (pj_set (pj_cpy v' 42 0 0 44 0 0 5) 10 0 9 1) 10 0 15 0 k i s = v' k i s := fun k i s h1 => by
    unfold pj_in at h1
    rw [pj_sne (by omega), pj_sne (by omega), pj_cne (by omega)]
  have w44 : ∀ s, 0 ≤ s → s < 5 → pj_set (pj_set (pj_cpy v' 42 0 0 44 0 0 5) 10 0 9 1) 10 0 15 0 44 0 s = c1.2.2.2.2.1 s := fun s s0 s1 => by
    rw [pj_sne (by omega), pj_sne (by omega), pj_cat s0 s1]
    exact a3.2.2.1 s s0 s1
  have w9 : pj_set (pj_set (pj_cpy v' 42 0 0 44 0 0 5) 10 0 9 1) 10 0 15 0 10 0 9 = 1 ∧ pj_set (pj_set (pj_cpy v' 42 0 0 44 0 0 5) 10 0 9 1) 10 0 15 0 10 0 15 = 0 := ⟨by rw [pj_sne (by omega), pj_set_at], pj_set_at⟩
  generalize pj_set (pj_set (pj_cpy v' 42 0 0 44 0 0 5) 10 0 9 1) 10 0 15 0 = W at hx wo wi w44 w9
  have hW60 : W 60 0 = w 60 0 := funext fun s => wo 60 0 s (by unfold pj_in; omega) (by omega) (by decide) (by decide) (by omega) (by omega)
  have hW72 : W 72 0 = w 72 0 := funext fun s => wo 72 0 s (by unfold pj_in; omega) (by omega) (by decide) (by decide) (by omega) (by omega)
  obtain ⟨C0, c2, hC0, b1, b2, b3⟩ := m_lives (w := W) (A := w 60 0) (L := w 72 0) I K g9 gr hL (seed := seed) c.1 (by omega) hW60 hW72
  have hC0' : C0 = fun i => if 0 ≤ i ∧ i < 5 then 0 else w 73 0 i := funext fun i => by
    rw [hC0 i, wo 73 0 i (by unfold pj_in; omega) (by omega) (by decide) (by decide) (by omega) (by omega)]
  rw [hC0', a1] at b1
  cases b1
  obtain ⟨I', K', kd', hD', hCr, hL', hk', hs', hr'⟩ := b2
  obtain ⟨r1, r2, r3, r4, r5, r6⟩ := a3
  generalize c1.2.1 = s' at hx b3 hs'
  generalize c1.2.2.1 = A' at I' K' kd' hr' r1 b3 hk'
  generalize c1.2.2.2.1 = D' at hD' r2 b3
  generalize c1.2.2.2.2.1 = C' at hCr w44 r3 b3
  generalize c1.2.2.2.2.2 = L' at hL' r4 b3
  have hlp : ∀ u : pj_W, (∀ s, u 73 0 s = C' s) → ∃ u', fM_live_43 (0, u) = some (u 26 0 32, u') ∧ (∀ s, 0 ≤ s → s < 5 → u' 74 0 s = C' s) ∧ u' 26 0 36 = 1 ∧ u' 26 0 2 = 0 ∧ ∀ k i s, ¬ (k = 74 ∧ i = 0) → ¬ (k = 26 ∧ i = 0 ∧ (s = 36 ∨ s = 2)) → u' k i s = u k i s := by
    intro u hu
    have key : ∀ m j : Nat, j + m = 5 → ∀ z : pj_W, (∀ s, 0 ≤ s → s < (j : Int) → z 74 0 s = C' s) → (∀ k i s, ¬ (k = 74 ∧ i = 0) → z k i s = u k i s) → ∃ u', fM_live_43 ((j : Int), z) = some (u 26 0 32, u') ∧ (∀ s, 0 ≤ s → s < 5 → u' 74 0 s = C' s) ∧ u' 26 0 36 = 1 ∧ u' 26 0 2 = 0 ∧ ∀ k i s, ¬ (k = 74 ∧ i = 0) → ¬ (k = 26 ∧ i = 0 ∧ (s = 36 ∨ s = 2)) → u' k i s = u k i s := by
      intro m
      induction m with
      | zero =>
        intro j hj z h1 h2
        refine ⟨pj_set (pj_set z 26 0 36 1) 26 0 2 0, ?_, fun s s0 s1 => ?_, by rw [pj_sne (by omega), pj_set_at], pj_set_at, fun k i s a b => ?_⟩
        · refine pj_Lp_end ?_
          unfold fM_live_43b fM_gives
          dsimp only
          rw [if_pos (by omega), Option.bind_some, pj_sne (by omega), h2 26 0 32 (by omega)]
        · rw [pj_sne (by omega), pj_sne (by omega)]; exact h1 s s0 (by omega)
        · rw [pj_sne (by omega), pj_sne (by omega)]; exact h2 k i s a
      | succ m ih =>
        intro j hj z h1 h2
        obtain ⟨u', e, r⟩ := ih (j + 1) (by omega) (pj_set z 74 0 j (z 73 0 j)) (fun s s0 s1 => by
          by_cases cs : s = j
          · rw [cs, pj_set_at, h2 73 0 j (by omega), hu]
          · rw [pj_sne (by omega)]; exact h1 s s0 (by omega)) (fun k i s hk => by rw [pj_sne (by omega)]; exact h2 k i s hk)
        refine ⟨u', ?_, r⟩
        rw [← e]
        refine pj_Lp_st ?_
        unfold fM_live_43b
        dsimp only
        rw [if_neg (by omega), if_pos (by omega), pj_wri (by omega)]; rfl
    exact key 5 0 rfl u (fun s s0 s1 => by omega) (fun _ _ _ _ => rfl)
  obtain ⟨u', e43, t74, t36, t2, to⟩ := hlp (mw W s' A' D' C' L') (fun s => mw_73 s)
  have hm : fM_live seed W = some (s', u') := by
    unfold fM_live
    rw [mq_isFrom, Option.bind_some, if_pos c, if_neg (by decide), if_neg (by rw [hW60]; exact c9), b3, Option.bind_some, e43, mw_s]
  have tw : ∀ k i s, ¬ (k = 74 ∧ i = 0) → ¬ (k = 26 ∧ i = 0 ∧ (s = 36 ∨ s = 2 ∨ s = 31 ∨ s = 32)) → ¬ (k = 60 ∧ i = 0) → ¬ (k = 73 ∧ i = 0) → ¬ (k = 72 ∧ i = 0) → u' k i s = W k i s := fun k i s x1 x2 x3 x4 x5 => by
    rw [to k i s x1 (by omega)]
    unfold mw
    rw [if_neg x3, if_neg x4, if_neg x5, if_neg (by omega), if_neg (by omega)]
  have t60 : u' 60 0 = A' := funext fun s => by rw [to 60 0 s (by omega) (by omega), mw_60]
  have t72 : ∀ s, u' 72 0 s = L' s := fun s => by rw [to 72 0 s (by omega) (by omega), mw_72]
  have all : ∀ k i s, ¬ pj_in (w 10 0 10) k i → k ≠ 18 → k ≠ 42 → k ≠ 43 → k ≠ 44 → k ≠ 74 → k ≠ 60 → k ≠ 73 → k ≠ 72 → ¬ (k = 10 ∧ i = 0 ∧ (s = 9 ∨ s = 15)) → ¬ (k = 26 ∧ i = 0 ∧ (s = 36 ∨ s = 2 ∨ s = 31 ∨ s = 32)) → u' k i s = w k i s := fun k i s x1 x2 x3 x4 x5 x6 x7 x8 x9 x10 x11 => (tw k i s (by omega) x11 (by omega) (by omega) (by omega)).trans (wo k i s x1 (by omega) x3 x4 (by omega) x10)
  have S := R.2.2.1
  have T := R.2.2.2.1
  have E := R.2.2.2.2.1
  have M := R.2.2.2.2.2.1
  have O := R.2.2.2.2.2.2.1
  refine ⟨s', W, u', hx, hm, ?_, ?_, ⟨?_, ?_, ?_⟩, ?_, ?_, ?_, ?_, ⟨?_, ?_, fun k k0 k1 => ?_⟩, fun k k0 k1 => ?_⟩
  · exact hC.ex (fun s x y => all 10 0 s (by unfold pj_in; omega) (by decide) (by decide) (by decide) (by decide) (by decide) (by decide) (by decide) (by decide) (by omega) (by omega))
  · rw [all 10 0 10 (by unfold pj_in; omega) (by decide) (by decide) (by decide) (by decide) (by decide) (by decide) (by decide) (by decide) (by omega) (by omega), all 10 0 12 (by unfold pj_in; omega) (by decide) (by decide) (by decide) (by decide) (by decide) (by decide) (by decide) (by decide) (by omega) (by omega), t60]
    refine ⟨I', K', ?_, ?_, ?_⟩
    · refine r1.ex I' (fun k i s hk => ?_)
      have hk' := hk
      unfold pj_in at hk'
      rw [tw k i s (by omega) (by omega) (by omega) (by omega) (by omega), wi k i s (Or.inl hk)]
    · have hA1 := kd' 1 (by omega)
      have hA2 := kd' 2 (by omega)
      refine (RN.exA hA1 hA2).ex I' (fun i i0 i1 => ?_) (fun i i0 i1 => ?_) (fun s s0 s1 => ?_)
      · rw [tw 22 i 0 (by omega) (by omega) (by omega) (by omega) (by omega), wi 22 i 0 (Or.inl (Or.inr (Or.inl ⟨rfl, i0, i1⟩))), r5.1]
      · rw [tw 23 i 2 (by omega) (by omega) (by omega) (by omega) (by omega), wi 23 i 2 (Or.inl (Or.inr (Or.inr ⟨Or.inl rfl, i0, i1⟩))), r5.2]
      · exact all 61 0 s (by unfold pj_in; omega) (by decide) (by decide) (by decide) (by decide) (by decide) (by decide) (by decide) (by decide) (by omega) (by omega)
    · refine (RD.exA (kd' 0 (by omega)) (kd' 1 (by omega)) (kd' 2 (by omega)) (kd' 9 (by omega)) (fun x x0 x1 => kd' x (by omega))).ex (fun k s hk => ?_)
      exact all k _ s (by unfold pj_in; omega) (by omega) (by omega) (by omega) (by omega) (by omega) (by omega) (by omega) (by omega) (by omega) (by omega)
  · rw [tw 10 0 15 (by omega) (by omega) (by omega) (by omega) (by omega), w9.2, t2]
  · rw [all 10 0 16 (by unfold pj_in; omega) (by decide) (by decide) (by decide) (by decide) (by decide) (by decide) (by decide) (by decide) (by omega) (by omega), all 26 0 3 (by unfold pj_in; omega) (by decide) (by decide) (by decide) (by decide) (by decide) (by decide) (by decide) (by decide) (by omega) (by omega)]; exact S.2.1
  · rw [all 10 0 17 (by unfold pj_in; omega) (by decide) (by decide) (by decide) (by decide) (by decide) (by decide) (by decide) (by decide) (by omega) (by omega), all 26 0 4 (by unfold pj_in; omega) (by decide) (by decide) (by decide) (by decide) (by decide) (by decide) (by decide) (by decide) (by omega) (by omega)]; exact S.2.2
  · exact T.ex (fun k i s hk => all k i s (by unfold pj_in; omega) (by omega) (by omega) (by omega) (by omega) (by omega) (by omega) (by omega) (by omega) (by omega) (by omega))
  · exact E.ex (fun s _ _ => all 12 0 s (by unfold pj_in; omega) (by decide) (by decide) (by decide) (by decide) (by decide) (by decide) (by decide) (by decide) (by omega) (by omega)) (fun s hs => all 26 0 s (by unfold pj_in; omega) (by decide) (by decide) (by decide) (by decide) (by decide) (by decide) (by decide) (by decide) (by omega) (by omega)) (fun s => all 30 0 s (by unfold pj_in; omega) (by decide) (by decide) (by decide) (by decide) (by decide) (by decide) (by decide) (by decide) (by omega) (by omega)) (fun s => all 65 0 s (by unfold pj_in; omega) (by decide) (by decide) (by decide) (by decide) (by decide) (by decide) (by decide) (by decide) (by omega) (by omega)) (fun s => all 34 0 s (by unfold pj_in; omega) (by decide) (by decide) (by decide) (by decide) (by decide) (by decide) (by decide) (by decide) (by omega) (by omega))
  · refine M.ex (all 10 0 14 (by unfold pj_in; omega) (by decide) (by decide) (by decide) (by decide) (by decide) (by decide) (by decide) (by decide) (by omega) (by omega)) (all 26 0 37 (by unfold pj_in; omega) (by decide) (by decide) (by decide) (by decide) (by decide) (by decide) (by decide) (by decide) (by omega) (by omega)) (fun m m0 m1 k i s hix => ?_) (fun m x m0 m1 x0 x1 => ?_)
    · unfold pj_ix pj_in at hix
      exact all k i s (by unfold pj_in; omega) (by omega) (by omega) (by omega) (by omega) (by omega) (by omega) (by omega) (by omega) (by omega) (by omega)
    · rw [t60]; exact kd' _ (by omega)
  · exact O.ex (all 17 0 6 (by unfold pj_in; omega) (by decide) (by decide) (by decide) (by decide) (by decide) (by decide) (by decide) (by decide) (by omega) (by omega)) (all 26 0 30 (by unfold pj_in; omega) (by decide) (by decide) (by decide) (by decide) (by decide) (by decide) (by decide) (by decide) (by omega) (by omega)) (fun s => all 41 0 s (by unfold pj_in; omega) (by decide) (by decide) (by decide) (by decide) (by decide) (by decide) (by decide) (by decide) (by omega) (by omega)) (fun s => all 71 0 s (by unfold pj_in; omega) (by decide) (by decide) (by decide) (by decide) (by decide) (by decide) (by decide) (by decide) (by omega) (by omega))
  · rw [tw 10 0 9 (by omega) (by omega) (by omega) (by omega) (by omega), w9.1, t36]
  · rw [tw 10 0 9 (by omega) (by omega) (by omega) (by omega) (by omega), w9.1]; exact Or.inr rfl
  · rw [t74 k k0 k1, tw 44 0 k (by omega) (by omega) (by omega) (by omega) (by omega), w44 k k0 k1]
  · have hl := hL' k k0 k1
    rw [t72, tw 43 0 k (by omega) (by omega) (by omega) (by omega) (by omega), wi 43 0 k (Or.inr rfl)]
    rcases r4 k k0 k1 with h | h
    · exact Or.inl ⟨h, hl⟩
    · exact Or.inr ⟨by omega, h.2⟩
end
