/-! MARKS -/
theorem pj_RC.ex {w w' : pj_W} (R : pj_RC w) (h : ∀ s, 10 ≤ s → s ≤ 13 → w' 10 0 s = w 10 0 s) : pj_RC w' := by
  unfold pj_RC at R ⊢
  rw [h 10 (by decide) (by decide), h 11 (by decide) (by decide), h 12 (by decide) (by decide), h 13 (by decide) (by decide)]; exact R
theorem pj_RE.ex {w w' : pj_W} (E : pj_RE w) (h12 : ∀ s, 5 ≤ s → s ≤ 7 → w' 12 0 s = w 12 0 s) (h26 : ∀ s, s = 10 ∨ s = 16 ∨ s = 17 → w' 26 0 s = w 26 0 s) (h30 : ∀ s, w' 30 0 s = w 30 0 s) (h65 : ∀ s, w' 65 0 s = w 65 0 s) (h34 : ∀ s, w' 34 0 s = w 34 0 s) : pj_RE w' := by
  unfold pj_RE at E ⊢
  rw [h12 5 (by decide) (by decide), h12 6 (by decide) (by decide), h12 7 (by decide) (by decide), h26 10 (by decide), h26 16 (by decide), h26 17 (by decide)]
  refine ⟨E.1, E.2.1, E.2.2.1, E.2.2.2.1, E.2.2.2.2.1, fun i h0 h1 => ?_, fun i hi => (h34 i).trans (E.2.2.2.2.2.2 i hi)⟩
  rw [h30, h65]
  exact E.2.2.2.2.2.1 i h0 h1
theorem pj_RO.ex {w w' : pj_W} (O : pj_RO w) (h17 : w' 17 0 6 = w 17 0 6) (h26 : w' 26 0 30 = w 26 0 30) (h41 : ∀ s, w' 41 0 s = w 41 0 s) (h71 : ∀ s, w' 71 0 s = w 71 0 s) : pj_RO w' := by
  unfold pj_RO at O ⊢
  rw [h17, h26]
  refine ⟨O.1, O.2.1, O.2.2.1, fun k h0 h1 => ?_⟩
  rw [h41, h71]
  exact O.2.2.2 k h0 h1
theorem pj_RH.ex {w w' : pj_W} (H : pj_RH w) (h10 : w' 10 0 9 = w 10 0 9) (h26 : w' 26 0 36 = w 26 0 36) (h44 : ∀ s, w' 44 0 s = w 44 0 s) (h74 : ∀ s, w' 74 0 s = w 74 0 s) : pj_RH w' := by
  unfold pj_RH at H ⊢
  rw [h10, h26]
  refine ⟨H.1, H.2.1, fun k h0 h1 => ?_⟩
  rw [h44, h74]
  exact H.2.2 k h0 h1
/-- the kinds in which beaches and days stand -/
def pj_bk (k : Nat) : Prop := k = 19 ∨ k = 22 ∨ k = 23 ∨ k = 45 ∨ k = 46 ∨ k = 24 ∨ k = 47 ∨ k = 48 ∨ k = 49 ∨ k = 50 ∨ k = 51 ∨ k = 60 ∨ k = 61
/-- what marks leave -/
theorem pj_REL.rest {n n' : Int} {w w' : pj_W} (R : pj_REL n w) (hn : n ≤ n') (h : ∀ k i s, ¬ pj_bk k → ¬ (k = 10 ∧ i = 0 ∧ 14 ≤ s) → ¬ (k = 26 ∧ i = 0 ∧ (s = 2 ∨ s = 37)) → w' k i s = w k i s) : pj_RC w' ∧ pj_RT w' ∧ pj_RE w' ∧ pj_RO w' ∧ pj_RH w' ∧ pj_RL n' w' := by
  obtain ⟨C, _, _, T, E, _, O, H, L⟩ := R
  have hk : ∀ k i s, k ≠ 10 → k ≠ 26 → ¬ pj_bk k → w' k i s = w k i s := fun k i s a b c => h k i s c (by omega) (by omega)
  refine ⟨C.ex (fun s h0 h1 => h 10 0 s (by unfold pj_bk; omega) (by omega) (by omega)), T.ex (fun k i s a => hk k i s (by omega) (by omega) (by unfold pj_bk; omega)), E.ex (fun s _ _ => hk 12 0 s (by decide) (by decide) (by unfold pj_bk; omega)) (fun s a => h 26 0 s (by unfold pj_bk; omega) (by omega) (by omega)) (fun s => hk 30 0 s (by decide) (by decide) (by unfold pj_bk; omega)) (fun s => hk 65 0 s (by decide) (by decide) (by unfold pj_bk; omega)) (fun s => hk 34 0 s (by decide) (by decide) (by unfold pj_bk; omega)), O.ex (hk 17 0 6 (by decide) (by decide) (by unfold pj_bk; omega)) (h 26 0 30 (by unfold pj_bk; omega) (by omega) (by omega)) (fun s => hk 41 0 s (by decide) (by decide) (by unfold pj_bk; omega)) (fun s => hk 71 0 s (by decide) (by decide) (by unfold pj_bk; omega)), H.ex (h 10 0 9 (by unfold pj_bk; omega) (by omega) (by omega)) (h 26 0 36 (by unfold pj_bk; omega) (by omega) (by omega)) (fun s => hk 44 0 s (by decide) (by decide) (by unfold pj_bk; omega)) (fun s => hk 74 0 s (by decide) (by decide) (by unfold pj_bk; omega)), L.mono hn (fun s => hk 43 0 s (by decide) (by decide) (by unfold pj_bk; omega)) (fun s => hk 72 0 s (by decide) (by decide) (by unfold pj_bk; omega))⟩
theorem pj_RX.base {b d base base' : Int} {w w' : pj_W} {A : pj_Q} (R : pj_RX b d base w A) (h : ∀ k i s, pj_in b k i ∨ ((k = 24 ∨ k = 47 ∨ k = 48 ∨ k = 49 ∨ k = 50 ∨ k = 51) ∧ i = d) → w' k i s = w k i s) (h61 : ∀ s, 0 ≤ s → s < 14 → w' 61 0 (base' + s) = w 61 0 (base + s)) : pj_RX b d base' w' A := by
  obtain ⟨I, K, RB, RN, RD⟩ := R
  have hA := I.1
  refine ⟨I, K, RB.ex I (fun k i s hk => h k i s (Or.inl hk)), ⟨fun f hf => ?_, fun x hx => ?_⟩, RD.ex (fun k s hk => h k d s (Or.inr ⟨hk, rfl⟩))⟩
  · have := hf.1
    have := hf.2
    rw [h 22 _ 0 (Or.inl (Or.inr (Or.inl ⟨rfl, by omega, by omega⟩))), h61 f (by omega) (by omega)]; exact RN.1 f hf
  · have := hx.1
    have := hx.2
    rw [h 23 _ 2 (Or.inl (Or.inr (Or.inr ⟨Or.inl rfl, by omega, by omega⟩))), show base' + 6 + x = base' + (6 + x) by omega, h61 (6 + x) (by omega) (by omega), show base + (6 + x) = base + 6 + x by omega]; exact RN.2 x hx
theorem pj_cpy_up {u : pj_W} {k : Nat} {F G i : Int} (hi : 0 ≤ i) (h : ¬ (G ≤ F + i ∧ F + i < G + i)) : pj_set (pj_cpy u k 0 F k 0 G i) k 0 (G + i) (pj_cpy u k 0 F k 0 G i k 0 (F + i)) = pj_cpy u k 0 F k 0 G (i + 1) := by
  have hr : pj_cpy u k 0 F k 0 G i k 0 (F + i) = u k 0 (F + i) := by unfold pj_cpy; rw [if_neg (by omega)]
  rw [hr]
  funext k' j s
  unfold pj_set pj_cpy
  by_cases h1 : k' = k ∧ j = 0 ∧ s = G + i
  · rw [if_pos h1, if_pos ⟨h1.1, h1.2.1, by omega, by omega⟩]
    congr 1; omega
  · rw [if_neg h1]
    by_cases h2 : k' = k ∧ j = 0 ∧ G ≤ s ∧ s < G + i
    · rw [if_pos h2, if_pos ⟨h2.1, h2.2.1, h2.2.2.1, by omega⟩]
    · rw [if_neg h2, if_neg (fun x => by
        rcases Classical.em (s = G + i) with e | e
        · exact h1 ⟨x.1, x.2.1, e⟩
        · exact h2 ⟨x.1, x.2.1, x.2.2.1, by omega⟩)]
theorem m_copies {x y : Int} (hx : 0 ≤ x ∧ x ≤ 3) (hy : 0 ≤ y ∧ y ≤ 3) (hxy : x ≠ y) (u : pj_W) : fM_copies x y u = some (pj_cpy (pj_cpy u 60 0 (1400 * x) 60 0 (1400 * y) 1400) 61 0 (14 * x) 61 0 (14 * y) 14) := by
  have e1 : pj_wr (1400 * x) = 1400 * x := pj_wr_id (by omega) (by omega)
  have e2 : pj_wr (1400 * y) = 1400 * y := pj_wr_id (by omega) (by omega)
  have e3 : pj_wr (14 * x) = 14 * x := pj_wr_id (by omega) (by omega)
  have e4 : pj_wr (14 * y) = 14 * y := pj_wr_id (by omega) (by omega)
  have h41 : ∀ v : pj_W, fM_copies_41 x y (0, v) = some (pj_cpy v 61 0 (14 * x) 61 0 (14 * y) 14) := fun v => by
    have h := pj_Lp_fo (body := fun s : (Int × pj_W) => fM_copies_41b x y s.1 s.2) (r := pj_cpy v 61 0 (14 * x) 61 0 (14 * y) 14) (fun j => ((j : Int), pj_cpy v 61 0 (14 * x) 61 0 (14 * y) j)) 14 (fun j hj => ?_) ?_
    · have e0 : (((0 : Nat) : Int), pj_cpy v 61 0 (14 * x) 61 0 (14 * y) ((0 : Nat) : Int)) = ((0 : Int), v) := by rw [show ((0 : Nat) : Int) = 0 from rfl, pj_cpy_0]
      rw [e0] at h
      exact h
    · show fM_copies_41b x y j (pj_cpy v 61 0 (14 * x) 61 0 (14 * y) j) = some (Sum.inl (((j + 1 : Nat) : Int), pj_cpy v 61 0 (14 * x) 61 0 (14 * y) ((j + 1 : Nat) : Int)))
      unfold fM_copies_41b
      rw [if_neg (by omega), e3, e4, pj_wr_id (x := 14 * x + (j : Int)) (by omega) (by omega), pj_wr_id (x := 14 * y + (j : Int)) (by omega) (by omega), if_pos (by omega), if_pos (by omega), Option.bind_some, pj_cpy_up (by omega) (by omega), pj_wri (by omega)]; rfl
    · show fM_copies_41b x y ((14 : Nat) : Int) (pj_cpy v 61 0 (14 * x) 61 0 (14 * y) 14) = _
      unfold fM_copies_41b
      rw [if_pos (by omega)]
  have h := pj_Lp_fo (body := fun s : (Int × pj_W) => fM_copies_2b x y s.1 s.2) (r := pj_cpy (pj_cpy u 60 0 (1400 * x) 60 0 (1400 * y) 1400) 61 0 (14 * x) 61 0 (14 * y) 14) (fun j => ((j : Int), pj_cpy u 60 0 (1400 * x) 60 0 (1400 * y) j)) 1400 (fun j hj => ?_) ?_
  · have e0 : (((0 : Nat) : Int), pj_cpy u 60 0 (1400 * x) 60 0 (1400 * y) ((0 : Nat) : Int)) = ((0 : Int), u) := by rw [show ((0 : Nat) : Int) = 0 from rfl, pj_cpy_0]
    rw [e0] at h
    exact h
  · show fM_copies_2b x y j (pj_cpy u 60 0 (1400 * x) 60 0 (1400 * y) j) = some (Sum.inl (((j + 1 : Nat) : Int), pj_cpy u 60 0 (1400 * x) 60 0 (1400 * y) ((j + 1 : Nat) : Int)))
    unfold fM_copies_2b
    rw [if_neg (by omega), e1, e2, pj_wr_id (x := 1400 * x + (j : Int)) (by omega) (by omega), pj_wr_id (x := 1400 * y + (j : Int)) (by omega) (by omega), if_pos (by omega), if_pos (by omega), Option.bind_some, pj_cpy_up (by omega) (by omega), pj_wri (by omega)]; rfl
  · show fM_copies_2b x y ((1400 : Nat) : Int) (pj_cpy u 60 0 (1400 * x) 60 0 (1400 * y) 1400) = _
    unfold fM_copies_2b
    rw [if_pos (by omega), h41]; rfl
/-- an answer that leaves all but the status -/
theorem pj_cB.s {n n' : Int} {w : pj_W} (R : pj_REL n w) (hn : n ≤ n') {fx fm : pj_W → Option (Int × pj_W)} {a y : Int} (hx : fx w = some (a, pj_set w 10 0 15 y)) (hm : fm (pj_set w 10 0 15 y) = some (a, pj_set (pj_set w 10 0 15 y) 26 0 2 y)) : pj_cB n' w fx fm := by
  refine ⟨a, _, _, hx, hm, R.ex hn ?_ ⟨?_, ?_, ?_⟩ (fun k i s a1 a2 a3 a4 => ?_) (fun x a1 a2 => ?_)⟩
  · have e : pj_set (pj_set w 10 0 15 y) 26 0 2 y 60 0 = w 60 0 := funext fun s => by rw [pj_sne (by omega), pj_sne (by omega)]
    rw [e]
    refine R.2.1.ex (fun k i s hk => ?_)
    unfold pj_ix pj_in at hk
    rw [pj_sne (by omega), pj_sne (by omega)]
  · rw [pj_sne (by omega), pj_set_at, pj_set_at]
  · rw [pj_sne (by omega), pj_sne (by omega), pj_sne (by omega), pj_sne (by omega)]; exact R.2.2.1.2.1
  · rw [pj_sne (by omega), pj_sne (by omega), pj_sne (by omega), pj_sne (by omega)]; exact R.2.2.1.2.2
  · rw [pj_sne (by omega), pj_sne (by omega)]
  · rw [pj_sne (by omega), pj_sne (by omega)]
theorem pj_RX.copy {b c d e base : Int} {w : pj_W} {A : pj_Q} (R : pj_RX c e base w A) (hb : 0 ≤ b) (hc : 0 ≤ c) (he : 0 ≤ e) (hbc : b ≠ c) (hde : d ≠ e) : ∃ w1 w2, fB_copyFrom b c w = some w1 ∧ fD_copyFrom d e w1 = some w2 ∧ pj_RX b d base w2 A ∧ (∀ k i s, ¬ pj_in b k i → ¬ ((k = 24 ∨ k = 47 ∨ k = 48 ∨ k = 49 ∨ k = 50 ∨ k = 51) ∧ i = d) → w2 k i s = w k i s) ∧ ∀ k i s, ¬ pj_in b k i → w1 k i s = w k i s := by
  obtain ⟨I, K, RB, RN, RD⟩ := R
  have hA := I.1
  obtain ⟨w1, e1, cb⟩ := x_copyB (b := b) (c := c) (w := w) hb hc hbc RB.1.2.2.2.2.2.1 RB.1.2.2.2.2.2.2 (by omega) (by omega) (by omega) (by omega) (fun x h0 h1 => by
    have hD := I.2.2.2.1 x h0 h1
    have hR := RB.2.2.1 x ⟨h0, h1⟩
    refine ⟨?_, by rw [hR.2.2.2]; omega, by rw [hR.2.2.2]; omega⟩
    rw [hR.2.2.1]
    split
    · exact Or.inr rfl
    · exact Or.inl rfl)
  have f1 : ∀ k s, k = 24 ∨ k = 47 ∨ k = 48 ∨ k = 49 ∨ k = 50 ∨ k = 51 → w1 k e s = w k e s := fun k s hk => cb.2.2.2.2 k e s (by unfold pj_in; omega)
  obtain ⟨w2, e2, c5, cr, co⟩ := x_copyD (b := d) (c := e) (w := w1) he hde (by rw [f1 24 5 (by omega)]; rcases RD.2 with r | r; exact Or.inl r.1; exact Or.inr r.1) (by rw [f1 24 7 (by omega)]; exact RD.1.1) (by rw [f1 24 7 (by omega)]; exact RD.1.2)
  refine ⟨w1, w2, e1, e2, ?_, fun k i s h1 h2 => (co k i s h2).trans (cb.2.2.2.2 k i s h1), cb.2.2.2.2⟩
  have hfix : ∀ k i s, k ≠ 24 → k ≠ 47 → k ≠ 48 → k ≠ 49 → k ≠ 50 → k ≠ 51 → w2 k i s = w1 k i s := fun k i s a1 a2 a3 a4 a5 a6 => co k i s (by omega)
  refine pj_RX.cb ⟨I, K, RB, RN, RD⟩ ⟨fun s h0 h1 => ?_, fun f s h0 h1 h2 h3 => ?_, fun x s h0 h1 h2 h3 => ?_, fun x k h0 h1 h2 h3 => ?_⟩ (fun s => (hfix 61 0 s (by decide) (by decide) (by decide) (by decide) (by decide) (by decide)).trans (cb.2.2.2.2 61 0 s (by unfold pj_in; omega))) ⟨by rw [c5.1, f1 24 5 (by omega)], by rw [c5.2.2, f1 24 7 (by omega)]⟩ (fun k h0 h1 => ?_)
  · rw [hfix 19 b s (by decide) (by decide) (by decide) (by decide) (by decide) (by decide)]; exact cb.1 s h0 h1
  · rw [hfix 22 _ s (by decide) (by decide) (by decide) (by decide) (by decide) (by decide)]; exact cb.2.1 f s h0 h1 h2 h3
  · rw [hfix 23 _ s (by decide) (by decide) (by decide) (by decide) (by decide) (by decide)]; exact cb.2.2.1 x s h0 h1 h2 h3
  · rw [hfix 45 _ k (by decide) (by decide) (by decide) (by decide) (by decide) (by decide), hfix 46 _ k (by decide) (by decide) (by decide) (by decide) (by decide) (by decide)]; exact cb.2.2.2.1 x k h0 h1 h2 h3
  · have := cr k h0 (by rw [f1 24 7 (by omega)]; exact h1)
    rw [f1 47 k (by omega), f1 48 k (by omega), f1 49 k (by omega), f1 50 k (by omega), f1 51 k (by omega)] at this
    exact this
section
variable {n n' : Int} {w : pj_W}
theorem cc_mark (R : pj_REL n w) (hn : n ≤ n') : pj_cB n' w fX_mark fM_mark := by
  have M := R.2.2.2.2.2.1
  have m37 := M.1
  have m0 := M.2.1
  have m3 := M.2.2.1
  have hC := R.1
  have hc1 : w 10 0 10 = 0 ∨ w 10 0 10 = 1 := by rcases hC.1 with c | c <;> omega
  have hc2 : w 10 0 12 = 0 ∨ w 10 0 12 = 1 := by rcases hC.2 with c | c <;> omega
  by_cases c : w 10 0 14 < 3
  case neg =>
    refine pj_cB.s R hn (a := -1) (y := 4) ?_ ?_
    · unfold fX_mark; rw [if_neg c]; rfl
    · unfold fM_mark; rw [if_pos (by rw [pj_sne (by omega)]; omega)]; rfl
  obtain ⟨w1, w2, e1, e2, X, fr, fr1⟩ := pj_RX.copy (b := 2 + w 10 0 14) (d := 2 + w 10 0 14) R.2.1 (by omega) (by omega) (by omega) (by omega) (by omega)
  have f10 : ∀ s, w2 10 0 s = w 10 0 s := fun s => fr 10 0 s (by unfold pj_in; omega) (by omega)
  have g10 : ∀ s, w1 10 0 s = w 10 0 s := fun s => fr1 10 0 s (by unfold pj_in; omega)
  generalize hm : w 10 0 14 = m at *
  have hx : fX_mark w = some (m + 1, pj_set (pj_set w2 10 0 14 (m + 1)) 10 0 15 0) := by
    unfold fX_mark
    rw [hm, if_pos c, if_pos ⟨m0, c⟩, e1, Option.bind_some, g10 14, g10 12, hm, if_pos ⟨m0, c⟩, e2, Option.bind_some, f10 14, hm, pj_wr_id (x := m + 1) (by omega) (by omega), pj_set_at]; rfl
  have ho : ∀ k i s, ¬ (k = 60 ∧ i = 0 ∧ 1400 * (m + 1) ≤ s ∧ s < 1400 * (m + 1) + 1400) → ¬ (k = 61 ∧ i = 0 ∧ 14 * (m + 1) ≤ s ∧ s < 14 * (m + 1) + 14) → ¬ (k = 26 ∧ i = 0 ∧ (s = 2 ∨ s = 37)) → ¬ (k = 10 ∧ i = 0 ∧ (s = 14 ∨ s = 15)) → pj_set (pj_cpy (pj_cpy (pj_set (pj_set (pj_set w2 10 0 14 (m + 1)) 10 0 15 0) 26 0 37 (m + 1)) 60 0 (1400 * 0) 60 0 (1400 * (m + 1)) 1400) 61 0 (14 * 0) 61 0 (14 * (m + 1)) 14) 26 0 2 0 k i s = w2 k i s := fun k i s h1 h2 h3 h4 => by
    rw [pj_sne (by omega), pj_cne h2, pj_cne h1, pj_sne (by omega), pj_sne (by omega), pj_sne (by omega)]
  have hmm : fM_mark (pj_set (pj_set w2 10 0 14 (m + 1)) 10 0 15 0) = some (m + 1, pj_set (pj_cpy (pj_cpy (pj_set (pj_set (pj_set w2 10 0 14 (m + 1)) 10 0 15 0) 26 0 37 (m + 1)) 60 0 (1400 * 0) 60 0 (1400 * (m + 1)) 1400) 61 0 (14 * 0) 61 0 (14 * (m + 1)) 14) 26 0 2 0) := by
    have h37 : pj_set (pj_set w2 10 0 14 (m + 1)) 10 0 15 0 26 0 37 = m := by
      rw [pj_sne (by omega), pj_sne (by omega), fr 26 0 37 (by unfold pj_in; omega) (by omega), ← m37]
    unfold fM_mark fM_gives
    rw [h37, if_neg (by omega), pj_wr_id (x := m + 1) (by omega) (by omega), pj_set_at, m_copies (by omega) (by omega) (by omega), Option.bind_some, Option.bind_some, pj_cne (by omega), pj_cne (by omega), pj_set_at]
  refine ⟨_, _, _, hx, hmm, ?_⟩
  have v60 : ∀ x, 0 ≤ x → x < 1400 → pj_set (pj_cpy (pj_cpy (pj_set (pj_set (pj_set w2 10 0 14 (m + 1)) 10 0 15 0) 26 0 37 (m + 1)) 60 0 (1400 * 0) 60 0 (1400 * (m + 1)) 1400) 61 0 (14 * 0) 61 0 (14 * (m + 1)) 14) 26 0 2 0 60 0 (1400 * (m + 1) + x) = w 60 0 x := fun x h0 h1 => by
    rw [pj_sne (by omega), pj_cne (by omega)]
    unfold pj_cpy
    rw [if_pos (by omega), pj_sne (by omega), pj_sne (by omega), pj_sne (by omega), fr 60 0 _ (by unfold pj_in; omega) (by omega)]
    congr 1; omega
  have v61 : ∀ x, 0 ≤ x → x < 14 → pj_set (pj_cpy (pj_cpy (pj_set (pj_set (pj_set w2 10 0 14 (m + 1)) 10 0 15 0) 26 0 37 (m + 1)) 60 0 (1400 * 0) 60 0 (1400 * (m + 1)) 1400) 61 0 (14 * 0) 61 0 (14 * (m + 1)) 14) 26 0 2 0 61 0 (14 * (m + 1) + x) = w2 61 0 (0 + x) := fun x h0 h1 => by
    rw [pj_sne (by omega)]
    unfold pj_cpy
    rw [if_pos (by omega), if_neg (by omega), pj_sne (by omega), pj_sne (by omega), pj_sne (by omega)]
    congr 1; omega
  have v14 : pj_set (pj_cpy (pj_cpy (pj_set (pj_set (pj_set w2 10 0 14 (m + 1)) 10 0 15 0) 26 0 37 (m + 1)) 60 0 (1400 * 0) 60 0 (1400 * (m + 1)) 1400) 61 0 (14 * 0) 61 0 (14 * (m + 1)) 14) 26 0 2 0 10 0 14 = m + 1 ∧ pj_set (pj_cpy (pj_cpy (pj_set (pj_set (pj_set w2 10 0 14 (m + 1)) 10 0 15 0) 26 0 37 (m + 1)) 60 0 (1400 * 0) 60 0 (1400 * (m + 1)) 1400) 61 0 (14 * 0) 61 0 (14 * (m + 1)) 14) 26 0 2 0 26 0 37 = m + 1 ∧ pj_set (pj_cpy (pj_cpy (pj_set (pj_set (pj_set w2 10 0 14 (m + 1)) 10 0 15 0) 26 0 37 (m + 1)) 60 0 (1400 * 0) 60 0 (1400 * (m + 1)) 1400) 61 0 (14 * 0) 61 0 (14 * (m + 1)) 14) 26 0 2 0 10 0 15 = 0 ∧ pj_set (pj_cpy (pj_cpy (pj_set (pj_set (pj_set w2 10 0 14 (m + 1)) 10 0 15 0) 26 0 37 (m + 1)) 60 0 (1400 * 0) 60 0 (1400 * (m + 1)) 1400) 61 0 (14 * 0) 61 0 (14 * (m + 1)) 14) 26 0 2 0 26 0 2 = 0 := by
    refine ⟨?_, ?_, ?_, pj_set_at⟩
    · rw [pj_sne (by omega), pj_cne (by omega), pj_cne (by omega), pj_sne (by omega), pj_sne (by omega), pj_set_at]
    · rw [pj_sne (by omega), pj_cne (by omega), pj_cne (by omega), pj_set_at]
    · rw [pj_sne (by omega), pj_cne (by omega), pj_cne (by omega), pj_sne (by omega), pj_set_at]
  generalize pj_set (pj_cpy (pj_cpy (pj_set (pj_set (pj_set w2 10 0 14 (m + 1)) 10 0 15 0) 26 0 37 (m + 1)) 60 0 (1400 * 0) 60 0 (1400 * (m + 1)) 1400) 61 0 (14 * 0) 61 0 (14 * (m + 1)) 14) 26 0 2 0 = W at ho v60 v61 v14
  have hw : ∀ k i s, ¬ (k = 60 ∧ i = 0 ∧ 1400 * (m + 1) ≤ s ∧ s < 1400 * (m + 1) + 1400) → ¬ (k = 61 ∧ i = 0 ∧ 14 * (m + 1) ≤ s ∧ s < 14 * (m + 1) + 14) → ¬ (k = 26 ∧ i = 0 ∧ (s = 2 ∨ s = 37)) → ¬ (k = 10 ∧ i = 0 ∧ (s = 14 ∨ s = 15)) → ¬ pj_in (2 + m) k i → ¬ ((k = 24 ∨ k = 47 ∨ k = 48 ∨ k = 49 ∨ k = 50 ∨ k = 51) ∧ i = 2 + m) → W k i s = w k i s := fun k i s h1 h2 h3 h4 h5 h6 => (ho k i s h1 h2 h3 h4).trans (fr k i s h5 h6)
  obtain ⟨r1, r2, r3, r4, r5, r6⟩ := R.rest hn (w' := W) (fun k i s h1 h2 h3 => hw k i s (by unfold pj_bk at h1; omega) (by unfold pj_bk at h1; omega) h3 (by omega) (by unfold pj_bk at h1; unfold pj_in; omega) (by unfold pj_bk at h1; omega))
  have S := R.2.2.1
  refine ⟨r1, ?_, ⟨?_, ?_, ?_⟩, r2, r3, ⟨by rw [v14.1, v14.2.1], by rw [v14.1]; omega, by rw [v14.1]; omega, fun j h0 h1 => ?_⟩, r4, r5, r6⟩
  · have e10 : W 10 0 10 = w 10 0 10 := hw 10 0 10 (by omega) (by omega) (by omega) (by omega) (by unfold pj_in; omega) (by omega)
    have e12 : W 10 0 12 = w 10 0 12 := hw 10 0 12 (by omega) (by omega) (by omega) (by omega) (by unfold pj_in; omega) (by omega)
    rw [e10, e12]
    refine (R.2.1.ex (w' := W) (fun k i s hk => hw k i s ?_ ?_ ?_ ?_ ?_ ?_)).exA (fun x h0 h1 => hw 60 0 x (by omega) (by omega) (by omega) (by omega) (by unfold pj_in; omega) (by omega)) <;> unfold pj_ix pj_in at hk
    · omega
    · omega
    · omega
    · omega
    · unfold pj_in; omega
    · omega
  · rw [v14.2.2.1, v14.2.2.2]
  · rw [hw 10 0 16 (by omega) (by omega) (by omega) (by omega) (by unfold pj_in; omega) (by omega), hw 26 0 3 (by omega) (by omega) (by omega) (by omega) (by unfold pj_in; omega) (by omega)]; exact S.2.1
  · rw [hw 10 0 17 (by omega) (by omega) (by omega) (by omega) (by unfold pj_in; omega) (by omega), hw 26 0 4 (by omega) (by omega) (by omega) (by omega) (by unfold pj_in; omega) (by omega)]; exact S.2.2
  · rw [v14.1] at h1
    by_cases e : j = m
    · rw [e]
      have X2 : pj_RX (2 + m) (2 + m) (14 * (m + 1)) W (w 60 0) := X.base (fun k i s hk => ho k i s (by unfold pj_in at hk; omega) (by unfold pj_in at hk; omega) (by unfold pj_in at hk; omega) (by unfold pj_in at hk; omega)) v61
      exact X2.exA (fun x h2 h3 => v60 x h2 h3)
    · refine ((M.2.2.2 j h0 (by omega)).ex (w' := W) (fun k i s hk => hw k i s ?_ ?_ ?_ ?_ ?_ ?_)).exA (fun x h2 h3 => hw 60 0 _ (by omega) (by omega) (by omega) (by omega) (by unfold pj_in; omega) (by omega)) <;> unfold pj_ix pj_in at hk
      · omega
      · omega
      · omega
      · omega
      · unfold pj_in; omega
      · omega
end
