/-! THE MEAN OF LIVES: both answer alike -/
theorem m_mean_70 {f seed many : Int} {W : pj_W} {A : pj_Q} (hA : W 60 0 = A) : fM_mean_70 f seed many (0, W) = fM_mean_108 f seed many (0, 0, pj_put W (lf_wk A 1030)) := by
  have key : ∀ m j : Nat, j + m = 1030 → ∀ z : pj_W, z = pj_put W (lf_wk A j) → fM_mean_70 f seed many ((j : Int), z) = fM_mean_108 f seed many (0, 0, pj_put W (lf_wk A 1030)) := by
    intro m
    induction m with
    | zero =>
      intro j hj z hz
      have : j = 1030 := by omega
      subst this
      unfold fM_mean_70
      rw [pj_Lp_eq]
      dsimp only
      unfold fM_mean_70b
      rw [if_pos (by omega), hz]
      show Option.bind (Option.map Sum.inr (fM_mean_108 f seed many (0, 0, pj_put W (lf_wk A 1030)))) _ = _
      cases fM_mean_108 f seed many (0, 0, pj_put W (lf_wk A 1030)) with
      | none => rfl
      | some r => rfl
    | succ m ih =>
      intro j hj z hz
      have hv : z 60 0 j = A j := by rw [hz, pj_put_at]; exact lf_wk_lo (by omega)
      rw [← ih (j + 1) (by omega) (pj_set z 60 0 (7000 + j) (A j)) (by
        rw [hz, pj_put_set]
        congr 1
        funext x
        unfold q_up lf_wk
        by_cases c : x = 7000 + (j : Int)
        · rw [if_pos c, if_pos (by omega)]
          congr 1; omega
        · rw [if_neg c]
          by_cases c2 : 7000 ≤ x ∧ x < 7000 + (j : Int)
          · rw [if_pos c2, if_pos (by omega)]
          · rw [if_neg c2, if_neg (by omega)])]
      refine pj_Lp_st ?_
      dsimp only
      unfold fM_mean_70b
      rw [if_neg (by omega), if_pos (by omega), pj_wr_id (x := 7000 + (j : Int)) (by omega) (by omega), if_pos (by omega), hv, pj_wri (by omega)]; rfl
  refine key 1030 0 rfl W ?_
  have : lf_wk A ((0 : Nat) : Int) = A := funext fun x => if_neg (by omega)
  rw [this, ← hA, pj_put_self]
section
variable {n n' : Int} {w : pj_W}
theorem cc_mean (R : pj_REL n w) (h0 : 0 ≤ n) (hn : n + 1080040 ≤ n') (hn2 : n' ≤ 1800000000) (f seed many : Int) (hm9 : -2147483648 ≤ many) : pj_cB n' w (fX_mean f seed many) (fM_mean f seed many) := by
  have hC := R.1
  have X := R.2.1
  obtain ⟨I, K, RB, RN, RD⟩ := R.2.1
  have hA := I.1
  have S := R.2.2.1
  have hb : w 10 0 10 = 0 ∨ w 10 0 10 = 1 := by rcases hC.1 with c | c <;> omega
  have hdd : w 10 0 12 = 0 ∨ w 10 0 12 = 1 := by rcases hC.2 with c | c <;> omega
  have hb2 : 0 ≤ w 10 0 11 ∧ w 10 0 11 ≠ w 10 0 10 := by rcases hC.1 with c | c <;> omega
  by_cases c : pj_isF (w 60 0) f ∧ 0 ≤ seed ∧ 1 ≤ many ∧ many ≤ 20 ∧ seed ≤ 10000 - many
  case neg =>
    refine pj_cB.s R (by omega) (a := 0) (y := 1) ?_ ?_
    · unfold fX_mean fX_mean_37
      rw [if_pos (by omega), xq_finderAt RB I, Option.bind_some]
      simp only [x_deny, Option.bind_some, true_or, if_true]
      by_cases g0 : pj_isF (w 60 0) f
      · have := g0.1
        rw [if_pos g0, if_neg (by omega)]
        by_cases g1 : seed < 0
        · rw [if_pos g1]
        · rw [if_neg g1]
          by_cases g2 : many < 1
          · rw [if_pos g2]
          · rw [if_neg g2]
            by_cases g3 : 20 < many
            · rw [if_pos g3]
            · rw [if_neg g3, pj_wr_id (x := 9999 - many) (by omega) (by omega), pj_wr_id (by omega) (by omega), if_neg (by omega)]
      · rw [if_neg g0, if_pos (by decide)]
    · unfold fM_mean fM_mean_43
      rw [mq_isFinder, Option.bind_some, mq_isFrom, Option.bind_some, mq_isFrom, Option.bind_some]
      simp only [m_is (show (1 : Int) ≠ 0 by decide), Option.bind_some, true_or, if_true]
      have h1 : pj_set w 10 0 15 1 60 0 1 = w 60 0 1 := pj_sne (by omega)
      rw [h1]
      by_cases g0 : pj_isF (w 60 0) f
      · rw [if_pos g0, if_neg (by decide)]
        by_cases g1 : 0 ≤ seed ∧ seed ≤ 9999
        · rw [if_pos g1, if_neg (by decide)]
          by_cases g2 : 1 ≤ many ∧ many ≤ 20
          · rw [if_pos g2, if_neg (by decide), pj_wr_id (x := seed + many) (by omega) (by omega), pj_wr_id (by omega) (by omega), if_neg (by omega)]
          · rw [if_neg g2, if_pos rfl]
        · rw [if_neg g1, if_pos rfl]
      · rw [if_neg g0, if_pos rfl]
  obtain ⟨hf, hs, hm, hm20, hs2⟩ := c
  have f0 := hf.1
  by_cases c9 : w 60 0 9 = -1
  · have h5 : w 24 (w 10 0 12) 5 = 0 := by
      rcases RD.2 with r | r
      · exact r.1
      · have := RD.1; omega
    refine pj_cB.s R (by omega) (a := 0) (y := 6) ?_ ?_
    · unfold fX_mean
      rw [if_pos (by omega), xq_finderAt RB I, Option.bind_some, if_pos hf, if_neg (by omega), if_neg (by omega), if_neg (by omega), if_neg (by omega), pj_wr_id (x := 9999 - many) (by omega) (by omega), pj_wr_id (by omega) (by omega), if_pos (by omega), if_pos (by omega), if_pos h5, x_deny, Option.bind_some, if_pos (Or.inl rfl)]
    · have h1 : pj_set w 10 0 15 6 60 0 1 = w 60 0 1 := pj_sne (by omega)
      have h9 : pj_set w 10 0 15 6 60 0 9 = w 60 0 9 := pj_sne (by omega)
      unfold fM_mean
      rw [mq_isFinder, Option.bind_some, mq_isFrom, Option.bind_some, mq_isFrom, Option.bind_some, h1, if_pos hf, if_neg (by decide), if_pos (show 0 ≤ seed ∧ seed ≤ 9999 by omega), if_neg (by decide), if_pos (show 1 ≤ many ∧ many ≤ 20 from ⟨hm, hm20⟩), if_neg (by decide), pj_wr_id (x := seed + many) (by omega) (by omega), pj_wr_id (by omega) (by omega), if_pos (by omega), h9, if_pos c9, m_is (by decide), Option.bind_some, if_pos (Or.inl rfl)]
  have h5 := (RD.rows c9).2.2.2
  have L := R.2.2.2.2.2.2.2.2
  have hL : ∀ i, 0 ≤ i → i < 60 → 0 ≤ w 72 0 i ∧ w 72 0 i ≤ 98 := fun i i0 i1 => by rcases L i i0 i1 with h | h <;> omega
  have h43 : ∀ i, 0 ≤ i → i < 60 → w 43 0 i = w 72 0 i + 1 ∨ -n ≤ w 43 0 i ∧ w 43 0 i ≤ 0 ∧ w 72 0 i = 0 := fun i i0 i1 => by rcases L i i0 i1 with h | h; exact Or.inl h.1; exact Or.inr h
  have h60 : (2 : Int) ^ 60 = 1152921504606846976 := by decide
  have hY : many < 2 ^ 60 := by rw [h60]; omega
  have run : ∀ u0 u : pj_W, mu (w 60 0) u0 u (w 72 0) → ∃ (acc g : Int) (v' u' : pj_W) (L' : pj_Q), fX_mean f seed many w = some (1, pj_set (pj_set (pj_set v' 10 0 16 (pj_divl acc g)) 10 0 17 (pj_divl many g)) 10 0 15 0) ∧ fM_mean_108 f seed many (0, 0, u) = some (1, pj_set (pj_set (pj_set u' 26 0 3 (pj_divl acc g)) 26 0 4 (pj_divl many g)) 26 0 2 0) ∧ (∀ j, 0 ≤ j → j < 60 → 0 ≤ L' j ∧ L' j ≤ 98) ∧ mv (w 10 0 11) (n + 1080040) w v' L' ∧ mu (w 60 0) u0 u' L' := by
    intro u0 u hu
    obtain ⟨acc, v', u', L', e1, e2, a0, a1, l, hv, hu'⟩ := mean_step R h0 hf c9 hs hm hm20 hs2 u0 many.toNat 0 (by omega) 0 n w u (w 72 0) (by omega) (by omega) h0 (by omega) hL ⟨fun _ _ _ _ _ _ _ => rfl, h43⟩ hu
    obtain ⟨g, hg, gx, gm⟩ := pj_frac (X := acc) (Y := many) a0 (by omega) hY
    refine ⟨acc, g, v', u', L', ?_, ?_, l, ⟨hv.1, fun i i0 i1 => (hv.2 i i0 i1).imp id fun x => ⟨by omega, x.2⟩⟩, hu'⟩
    · unfold fX_mean
      rw [if_pos (by omega), xq_finderAt RB I, Option.bind_some, if_pos hf, if_neg (by omega), if_neg (by omega), if_neg (by omega), if_neg (by omega), pj_wr_id (x := 9999 - many) (by omega) (by omega), pj_wr_id (by omega) (by omega), if_pos (by omega), if_pos (by omega), if_neg (by omega)]
      refine Eq.trans e1 (pj_Lp_end ?_)
      dsimp only
      unfold fX_mean_66b
      rw [if_pos (Int.le_refl _), gx, Option.bind_some, x_grant, Option.bind_some, if_pos (Or.inr rfl)]
    · refine Eq.trans e2 (pj_Lp_end ?_)
      dsimp only
      unfold fM_mean_108b
      rw [if_pos (Int.le_refl _), gm]
      unfold pj_frM
      rw [Option.bind_some, if_pos (Or.inr rfl)]
  obtain ⟨accd, gd, vd, ud, Ld, hxd, _, _, hvd, _⟩ := run (pj_put w (lf_wk (w 60 0) 1030)) (pj_put w (lf_wk (w 60 0) 1030)) ⟨pj_put_at _ _, funext fun s => if_neg (by omega), fun _ _ _ _ _ _ _ => rfl⟩
  have Wo : ∀ k i s, ¬ pj_in (w 10 0 11) k i → ¬ (k = 18 ∧ i = 0 ∧ 2 ≤ s ∧ s ≤ 4) → k ≠ 42 → k ≠ 43 → ¬ (k = 10 ∧ i = 0 ∧ (s = 15 ∨ s = 16 ∨ s = 17)) → pj_set (pj_set (pj_set vd 10 0 16 (pj_divl accd gd)) 10 0 17 (pj_divl many gd)) 10 0 15 0 k i s = w k i s := fun k i s h1 h2 h3 h4 h5 => by
    rw [pj_sne (by omega), pj_sne (by omega), pj_sne (by omega)]
    exact hvd.1 k i s h1 h2 h3 h4
  generalize hW : pj_set (pj_set (pj_set vd 10 0 16 (pj_divl accd gd)) 10 0 17 (pj_divl many gd)) 10 0 15 0 = W at hxd Wo
  have W60 : W 60 0 = w 60 0 := funext fun s => Wo 60 0 s (by unfold pj_in; omega) (by omega) (by decide) (by decide) (by omega)
  have W72 : W 72 0 = w 72 0 := funext fun s => Wo 72 0 s (by unfold pj_in; omega) (by omega) (by decide) (by decide) (by omega)
  obtain ⟨acc, g, v', u', L', hx, hm8, hL', hv', hu'⟩ := run W (pj_put W (lf_wk (w 60 0) 1030)) ⟨pj_put_at _ _, by rw [← W72]; exact funext fun s => if_neg (by omega), fun k i s a1 a2 a3 a4 => if_neg a1⟩
  rw [hxd] at hx
  have eW : W = pj_set (pj_set (pj_set v' 10 0 16 (pj_divl acc g)) 10 0 17 (pj_divl many g)) 10 0 15 0 := congrArg Prod.snd (Option.some.inj hx)
  have hM : fM_mean f seed many W = some (1, pj_set (pj_set (pj_set u' 26 0 3 (pj_divl acc g)) 26 0 4 (pj_divl many g)) 26 0 2 0) := by
    unfold fM_mean
    rw [mq_isFinder, Option.bind_some, mq_isFrom, Option.bind_some, mq_isFrom, Option.bind_some, W60, if_pos hf, if_neg (by decide), if_pos (show 0 ≤ seed ∧ seed ≤ 9999 by omega), if_neg (by decide), if_pos (show 1 ≤ many ∧ many ≤ 20 from ⟨hm, hm20⟩), if_neg (by decide), pj_wr_id (x := seed + many) (by omega) (by omega), pj_wr_id (by omega) (by omega), if_pos (by omega), if_neg c9, m_mean_70 W60]
    exact hm8
  have tw : ∀ k i s, ¬ (k = 60 ∧ i = 0) → ¬ (k = 72 ∧ i = 0) → ¬ (k = 73 ∧ i = 0) → ¬ (k = 26 ∧ i = 0 ∧ (s = 31 ∨ s = 32 ∨ s = 2 ∨ s = 3 ∨ s = 4)) → pj_set (pj_set (pj_set u' 26 0 3 (pj_divl acc g)) 26 0 4 (pj_divl many g)) 26 0 2 0 k i s = W k i s := fun k i s h1 h2 h3 h4 => by
    rw [pj_sne (by omega), pj_sne (by omega), pj_sne (by omega)]
    exact hu'.2.2 k i s h1 h2 h3 (by omega)
  have t60 : pj_set (pj_set (pj_set u' 26 0 3 (pj_divl acc g)) 26 0 4 (pj_divl many g)) 26 0 2 0 60 0 = lf_wk (w 60 0) 1030 := by
    funext s
    rw [pj_sne (by omega), pj_sne (by omega), pj_sne (by omega), hu'.1]
  have t72 : ∀ s, pj_set (pj_set (pj_set u' 26 0 3 (pj_divl acc g)) 26 0 4 (pj_divl many g)) 26 0 2 0 72 0 s = L' s := fun s => by
    rw [pj_sne (by omega), pj_sne (by omega), pj_sne (by omega), hu'.2.1]
  have tS : pj_set (pj_set (pj_set u' 26 0 3 (pj_divl acc g)) 26 0 4 (pj_divl many g)) 26 0 2 0 26 0 2 = 0 ∧ pj_set (pj_set (pj_set u' 26 0 3 (pj_divl acc g)) 26 0 4 (pj_divl many g)) 26 0 2 0 26 0 3 = pj_divl acc g ∧ pj_set (pj_set (pj_set u' 26 0 3 (pj_divl acc g)) 26 0 4 (pj_divl many g)) 26 0 2 0 26 0 4 = pj_divl many g := by
    refine ⟨pj_set_at, ?_, ?_⟩
    · rw [pj_sne (by omega), pj_sne (by omega), pj_set_at]
    · rw [pj_sne (by omega), pj_set_at]
  have W43 : ∀ s, W 43 0 s = v' 43 0 s := fun s => by rw [eW, pj_sne (by omega), pj_sne (by omega), pj_sne (by omega)]
  have WS : W 10 0 15 = 0 ∧ W 10 0 16 = pj_divl acc g ∧ W 10 0 17 = pj_divl many g := by
    rw [eW]
    refine ⟨pj_set_at, ?_, ?_⟩
    · rw [pj_sne (by omega), pj_sne (by omega), pj_set_at]
    · rw [pj_sne (by omega), pj_set_at]
  refine ⟨1, W, _, hxd, hM, ?_⟩
  generalize pj_set (pj_set (pj_set u' 26 0 3 (pj_divl acc g)) 26 0 4 (pj_divl many g)) 26 0 2 0 = Z at tw t60 t72 tS
  have all : ∀ k i s, ¬ pj_in (w 10 0 11) k i → k ≠ 18 → k ≠ 42 → k ≠ 43 → k ≠ 60 → k ≠ 73 → k ≠ 72 → ¬ (k = 10 ∧ i = 0 ∧ (s = 15 ∨ s = 16 ∨ s = 17)) → ¬ (k = 26 ∧ i = 0 ∧ (s = 31 ∨ s = 32 ∨ s = 2 ∨ s = 3 ∨ s = 4)) → Z k i s = w k i s := fun k i s x1 x2 x3 x4 x5 x6 x7 x8 x9 => (tw k i s (by omega) (by omega) (by omega) x9).trans (Wo k i s x1 (by omega) x3 x4 x8)
  have T := R.2.2.2.1
  have E := R.2.2.2.2.1
  have M := R.2.2.2.2.2.1
  have O := R.2.2.2.2.2.2.1
  have H := R.2.2.2.2.2.2.2.1
  refine ⟨?_, ?_, ⟨?_, ?_, ?_⟩, ?_, ?_, ?_, ?_, ?_, fun k k0 k1 => ?_⟩
  · exact hC.ex (fun s x y => all 10 0 s (by unfold pj_in; omega) (by decide) (by decide) (by decide) (by decide) (by decide) (by decide) (by omega) (by omega))
  · rw [all 10 0 10 (by unfold pj_in; omega) (by decide) (by decide) (by decide) (by decide) (by decide) (by decide) (by omega) (by omega), all 10 0 12 (by unfold pj_in; omega) (by decide) (by decide) (by decide) (by decide) (by decide) (by decide) (by omega) (by omega), t60]
    refine (X.ex (w' := Z) (fun k i s hk => ?_)).exA (fun x x0 x1 => lf_wk_lo (by omega))
    unfold pj_ix pj_in at hk
    exact all k i s (by unfold pj_in; omega) (by omega) (by omega) (by omega) (by omega) (by omega) (by omega) (by omega) (by omega)
  · rw [tw 10 0 15 (by omega) (by omega) (by omega) (by omega), WS.1, tS.1]
  · rw [tw 10 0 16 (by omega) (by omega) (by omega) (by omega), WS.2.1, tS.2.1]
  · rw [tw 10 0 17 (by omega) (by omega) (by omega) (by omega), WS.2.2, tS.2.2]
  · exact T.ex (fun k i s hk => all k i s (by unfold pj_in; omega) (by omega) (by omega) (by omega) (by omega) (by omega) (by omega) (by omega) (by omega))
  · exact E.ex (fun s _ _ => all 12 0 s (by unfold pj_in; omega) (by decide) (by decide) (by decide) (by decide) (by decide) (by decide) (by omega) (by omega)) (fun s hs => all 26 0 s (by unfold pj_in; omega) (by decide) (by decide) (by decide) (by decide) (by decide) (by decide) (by omega) (by omega)) (fun s => all 30 0 s (by unfold pj_in; omega) (by decide) (by decide) (by decide) (by decide) (by decide) (by decide) (by omega) (by omega)) (fun s => all 65 0 s (by unfold pj_in; omega) (by decide) (by decide) (by decide) (by decide) (by decide) (by decide) (by omega) (by omega)) (fun s => all 34 0 s (by unfold pj_in; omega) (by decide) (by decide) (by decide) (by decide) (by decide) (by decide) (by omega) (by omega))
  · refine M.ex (all 10 0 14 (by unfold pj_in; omega) (by decide) (by decide) (by decide) (by decide) (by decide) (by decide) (by omega) (by omega)) (all 26 0 37 (by unfold pj_in; omega) (by decide) (by decide) (by decide) (by decide) (by decide) (by decide) (by omega) (by omega)) (fun m m0 m1 k i s hix => ?_) (fun m x m0 m1 x0 x1 => ?_)
    · unfold pj_ix pj_in at hix
      exact all k i s (by unfold pj_in; rcases hC.1 with cc | cc <;> omega) (by omega) (by omega) (by omega) (by omega) (by omega) (by omega) (by omega) (by omega)
    · rw [t60]; exact lf_wk_lo (by have := M.2.2.1; omega)
  · exact O.ex (all 17 0 6 (by unfold pj_in; omega) (by decide) (by decide) (by decide) (by decide) (by decide) (by decide) (by omega) (by omega)) (all 26 0 30 (by unfold pj_in; omega) (by decide) (by decide) (by decide) (by decide) (by decide) (by decide) (by omega) (by omega)) (fun s => all 41 0 s (by unfold pj_in; omega) (by decide) (by decide) (by decide) (by decide) (by decide) (by decide) (by omega) (by omega)) (fun s => all 71 0 s (by unfold pj_in; omega) (by decide) (by decide) (by decide) (by decide) (by decide) (by decide) (by omega) (by omega))
  · exact H.ex (all 10 0 9 (by unfold pj_in; omega) (by decide) (by decide) (by decide) (by decide) (by decide) (by decide) (by omega) (by omega)) (all 26 0 36 (by unfold pj_in; omega) (by decide) (by decide) (by decide) (by decide) (by decide) (by decide) (by omega) (by omega)) (fun s => all 44 0 s (by unfold pj_in; omega) (by decide) (by decide) (by decide) (by decide) (by decide) (by decide) (by omega) (by omega)) (fun s => all 74 0 s (by unfold pj_in; omega) (by decide) (by decide) (by decide) (by decide) (by decide) (by decide) (by omega) (by omega))
  · have hl := hL' k k0 k1
    rw [t72, tw 43 0 k (by omega) (by omega) (by omega) (by omega), W43]
    rcases hv'.2 k k0 k1 with h | h
    · exact Or.inl ⟨h, hl⟩
    · exact Or.inr ⟨by omega, h.2⟩
end
