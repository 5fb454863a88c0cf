/-! A BEACH FROM A TEXT: the whole, on both sides -/
theorem bt_clear {b : Int} (hb : 0 ≤ b) (u0 : pj_W) : ∃ u1, fBT_takeBeach b u0 = ((fBT_takeHead u1).bind fun p4 => fBT_takeBeach_24 (p4.1, 0, p4.2)) ∧ (u1 13 0 1 = b ∧ u1 13 0 2 = 0) ∧ (u1 19 b 4 = 0 ∧ u1 19 b 5 = 1 ∧ u1 19 b 6 = 0 ∧ u1 19 b 7 = 0 ∧ u1 19 b 8 = 0) ∧ ∀ k i s, ¬ (k = 13 ∧ i = 0 ∧ (s = 1 ∨ s = 2)) → ¬ (k = 19 ∧ i = b) → u1 k i s = u0 k i s := by
  refine ⟨pj_set (pj_set (pj_set (pj_set (pj_set (pj_set (pj_set (pj_set (pj_set (pj_set u0 13 0 1 b) 19 b 2 2) 19 b 3 60) 19 b 4 0) 19 b 5 1) 19 b 6 0) 19 b 7 0) 19 b 8 0) 19 b 9 0) 13 0 2 0, ?_, ⟨?_, ?_⟩, ⟨?_, ?_, ?_, ?_, ?_⟩, fun k i s g1 g2 => ?_⟩
  · unfold fBT_takeBeach fB_clear
    rw [pj_set_at, if_pos hb, Option.bind_some, Option.bind_some]
  · rw [pj_sne (by omega), pj_sne (by omega), pj_sne (by omega), pj_sne (by omega), pj_sne (by omega), pj_sne (by omega), pj_sne (by omega), pj_sne (by omega), pj_sne (by omega), pj_set_at]
  · rw [pj_set_at]
  · rw [pj_sne (by omega), pj_sne (by omega), pj_sne (by omega), pj_sne (by omega), pj_sne (by omega), pj_sne (by omega), pj_set_at]
  · rw [pj_sne (by omega), pj_sne (by omega), pj_sne (by omega), pj_sne (by omega), pj_sne (by omega), pj_set_at]
  · rw [pj_sne (by omega), pj_sne (by omega), pj_sne (by omega), pj_sne (by omega), pj_set_at]
  · rw [pj_sne (by omega), pj_sne (by omega), pj_sne (by omega), pj_set_at]
  · rw [pj_sne (by omega), pj_sne (by omega), pj_set_at]
  · rw [pj_sne (by omega), pj_sne (by omega), pj_sne (by omega), pj_sne (by omega), pj_sne (by omega), pj_sne (by omega), pj_sne (by omega), pj_sne (by omega), pj_sne (by omega), pj_sne (by omega)]
theorem bt_run {w : pj_W} {x : Int} (hE : pj_RE w) (hb : 0 ≤ w 10 0 11) (h0 : 0 ≤ x) (h1 : x ≤ w 12 0 5) (v : pj_W) (hv10 : v 26 0 10 = w 26 0 10) (hv65 : ∀ s, v 65 0 s = w 65 0 s) :
    ∃ a u' v', (fR_begin x w).bind (fun p3 => fBT_takeBeach (p3 10 0 11) p3) = some (a, u') ∧ fM_beach x v = fM_beach_58 v' ∧
    (a = 1 ∧ bt_B (w 10 0 11) u' v' ∧ (u' 12 0 6 = 0 ∧ v' 26 0 18 = 0 ∧ u' 12 0 7 = -1 ∧ v' 26 0 17 = -1) ∨ a = 0 ∧ tk_F u' v') ∧ u' 12 0 5 = 0 ∧ v' 26 0 10 = 0 ∧
    (∀ k i s, ¬ (k = 12 ∧ i = 0 ∧ 5 ≤ s ∧ s ≤ 11) → k ≠ 31 → k ≠ 32 → k ≠ 33 → ¬ (k = 13 ∧ i = 0 ∧ (s = 1 ∨ s = 2)) → ¬ pj_in (w 10 0 11) k i → u' k i s = w k i s) ∧
    ∀ k i s, ¬ (k = 26 ∧ i = 0 ∧ 10 ≤ s ∧ s ≤ 21) → k ≠ 66 → ¬ (k = 60 ∧ i = 0 ∧ 5600 ≤ s) → ¬ (k = 61 ∧ i = 0 ∧ 56 ≤ s) → v' k i s = v k i s := by
  obtain ⟨E1, E2, E3, E4, E5, E6, E7⟩ := hE
  generalize hbe : w 10 0 11 = b at hb ⊢
  have hB : ∀ p, 0 ≤ p → p < x → w 30 0 p = (fun p => if 0 ≤ p ∧ p < x then w 30 0 p else 0) p := fun p p0 p1 => (if_pos ⟨p0, p1⟩).symm
  have hBr : ∀ p, -128 ≤ (fun p => if 0 ≤ p ∧ p < x then w 30 0 p else 0) p ∧ (fun p => if 0 ≤ p ∧ p < x then w 30 0 p else 0) p < 128 := fun p => by
    dsimp only
    split
    · rename_i hp
      exact (E6 p hp.1 (by omega)).2
    · exact ⟨by decide, by decide⟩
  have hBm : ∀ p, 0 ≤ p → p < x → v 65 0 p = (fun p => if 0 ≤ p ∧ p < x then w 30 0 p else 0) p := fun p p0 p1 => by
    rw [hv65, ← (E6 p p0 (by omega)).1]; exact hB p p0 p1
  revert hB hBr hBm
  generalize (fun p => if 0 ≤ p ∧ p < x then w 30 0 p else 0) = B
  intro hB hBr hBm
  obtain ⟨u0, E, N, a1, a2, a3, a4, a5, a6, a7, a8⟩ := x_begin E7 h0 h1 (by omega) hB
  obtain ⟨v1, b1, b2, b3, b4, b5, b6, b7⟩ := m_begins (y := 900) h0 (by omega) (by omega) (by omega) hBr hBm
  obtain ⟨v2, c1, c2, c3⟩ := m_plain (v := v1)
  have e11 : u0 10 0 11 = b := (a8 10 0 11 (by decide) (by decide) (by decide) (by omega)).trans hbe
  obtain ⟨u1, d1, ⟨d2, d3⟩, d4, d5⟩ := bt_clear hb u0
  have f3 : ∀ k i s, ¬ (k = 26 ∧ i = 0 ∧ (s = 20 ∨ s = 21)) → pj_set (pj_set v2 26 0 20 0) 26 0 21 0 k i s = v2 k i s := fun k i s g => by rw [pj_sne (by omega), pj_sne (by omega)]
  have hM : fM_beach x v = ((fM_first (pj_set (pj_set v2 26 0 20 0) 26 0 21 0)).bind fun p8 => fM_beach_39 (p8.1, p8.2)) := by
    unfold fM_beach
    rw [b1, Option.bind_some, if_neg (show ¬ (1 : Int) = 0 by decide), c1, Option.bind_some]
  have g20 : pj_set (pj_set v2 26 0 20 0) 26 0 21 0 26 0 20 = 0 := by rw [pj_sne (by omega), pj_set_at]
  have g21 : pj_set (pj_set v2 26 0 20 0) 26 0 21 0 26 0 21 = 0 := pj_set_at
  revert hM f3 g20 g21
  generalize pj_set (pj_set v2 26 0 20 0) 26 0 21 0 = v3
  intro f3 hM g20 g21
  have fv3 : ∀ k i s, ¬ (k = 26 ∧ i = 0 ∧ (s = 20 ∨ s = 21)) → ¬ (k = 60 ∧ i = 0 ∧ 5600 ≤ s ∧ s < 7000) → v3 k i s = v1 k i s := fun k i s g g' => (f3 k i s g).trans (c3 k i s g')
  have J : tk_J B x E N u1 v3 0 := by
    refine ⟨a2.ex (d5 12 0 10 (by omega) (by omega)) (fun s => d5 31 0 s (by omega) (by omega)) (fun s => d5 32 0 s (by omega) (by omega)) (fun s => d5 33 0 s (by omega) (by omega)), ⟨(fv3 26 0 11 (by omega) (by omega)).trans b2.1, b2.2.1, b2.2.2.1, b2.2.2.2.1, fun p p0 p1 => (fv3 66 0 p (by omega) (by omega)).trans (b2.2.2.2.2 p p0 p1)⟩, ⟨Int.le_refl 0, by have := a2.2.1; omega, (d5 12 0 11 (by omega) (by omega)).trans a7⟩, ?_, (d5 12 0 6 (by omega) (by omega)).trans a4, (fv3 26 0 18 (by omega) (by omega)).trans b6, (d5 12 0 7 (by omega) (by omega)).trans a5, (fv3 26 0 17 (by omega) (by omega)).trans b5⟩
    rw [a2.2.2.2.2.2.1]
    unfold tk_mt at b3 ⊢
    rw [fv3 26 0 12 (by omega) (by omega), fv3 26 0 13 (by omega) (by omega), fv3 26 0 14 (by omega) (by omega), fv3 26 0 15 (by omega) (by omega)]
    exact b3
  have hA : ∀ y, 0 ≤ y → y < 1400 → bt_A v3 y = if y = 5 then 1 else if y = 9 then -1 else 0 := fun y y0 y1 => (f3 60 0 (5600 + y) (by omega)).trans (c2 y y0 y1)
  have Z : bt_0 b u1 v3 := by
    refine ⟨d4, ⟨hA 1 (by decide) (by decide), hA 2 (by decide) (by decide), hA 4 (by decide) (by decide), hA 5 (by decide) (by decide), hA 6 (by decide) (by decide), hA 7 (by decide) (by decide), hA 8 (by decide) (by decide), hA 9 (by decide) (by decide)⟩, fun y y0 y1 => by rw [hA y (by omega) (by omega), if_neg (by omega), if_neg (by omega)], d2, ⟨d3.trans g20.symm, Or.inl d3⟩, g21.trans (hA 8 (by decide) (by decide)).symm⟩
  have endx : ∀ u', bt_fx b u1 u' → u' 12 0 5 = 0 ∧ ∀ k i s, ¬ (k = 12 ∧ i = 0 ∧ 5 ≤ s ∧ s ≤ 11) → k ≠ 31 → k ≠ 32 → k ≠ 33 → ¬ (k = 13 ∧ i = 0 ∧ (s = 1 ∨ s = 2)) → ¬ pj_in b k i → u' k i s = w k i s := fun u' hx => by
    refine ⟨?_, fun k i s g1 g2 g3 g4 g5 g6 => ?_⟩
    · rw [hx 12 0 5 (by omega) (by omega) (by unfold pj_in; omega), d5 12 0 5 (by omega) (by omega)]; exact a3
    · rw [hx k i s (by omega) g5 g6, d5 k i s g5 (by unfold pj_in at g6; omega)]
      exact a8 k i s g2 g3 g4 g1
  have endv : ∀ v', bt_fv v3 v' → v' 26 0 10 = 0 ∧ ∀ k i s, ¬ (k = 26 ∧ i = 0 ∧ 10 ≤ s ∧ s ≤ 21) → k ≠ 66 → ¬ (k = 60 ∧ i = 0 ∧ 5600 ≤ s) → ¬ (k = 61 ∧ i = 0 ∧ 56 ≤ s) → v' k i s = v k i s := fun v' hv => by
    refine ⟨?_, fun k i s g1 g2 g3 g4 => ?_⟩
    · rw [hv 26 0 10 (by omega) (by omega) (by omega), fv3 26 0 10 (by omega) (by omega)]; exact b4
    · rw [hv k i s (by omega) (by omega) (by omega), fv3 k i s (by omega) (by omega)]
      exact b7 k i s (by omega) g2
  rw [a1, Option.bind_some, e11, d1, hM]
  clear a1 e11 d1 hM d5 f3 fv3 a8 b7 c3 hB hBr hBm a2 b2 b3 c2 hA
  rcases bt_head J hb Z with ⟨u2, v4, k2, p1, p2, p3, J2, R2, x2, y2⟩ | ⟨u2, v4, p1, p2, F2, x2, y2⟩
  · rw [p1, p2, Option.bind_some, Option.bind_some]
    rcases bt_loop hb (N - k2).toNat u2 v4 k2 0 (by omega) J2 R2 (Int.le_refl 0) (by omega) with ⟨u3, v5, q1, q2, R3, F3, x3, y3⟩ | ⟨u3, v5, q1, q2, F3, x3, y3⟩
    · obtain ⟨r1, r2⟩ := endx u3 (x2.tr x3)
      obtain ⟨r3, r4⟩ := endv v5 (y2.tr y3)
      exact ⟨1, u3, v5, q1, q2, Or.inl ⟨rfl, R3, F3⟩, r1, r3, r2, r4⟩
    · obtain ⟨r1, r2⟩ := endx u3 (x2.tr x3)
      obtain ⟨r3, r4⟩ := endv v5 (y2.tr y3)
      exact ⟨0, u3, v5, q1, q2, Or.inr ⟨rfl, F3⟩, r1, r3, r2, r4⟩
  · rw [p1, p2, Option.bind_some, Option.bind_some]
    obtain ⟨r1, r2⟩ := endx u2 x2
    obtain ⟨r3, r4⟩ := endv v4 y2
    refine ⟨0, u2, v4, ?_, ?_, Or.inr ⟨rfl, F2⟩, r1, r3, r2, r4⟩
    · unfold fBT_takeBeach_24
      refine pj_Lp_end ?_
      show fBT_takeBeach_24b 0 0 u2 = _
      unfold fBT_takeBeach_24b
      rw [if_neg (show ¬ (900 : Int) ≤ 0 by decide), if_pos rfl, if_pos (Or.inl rfl)]
    · unfold fM_beach_39
      refine pj_Lp_map ?_
      show fM_beach_39b 0 v4 = _
      unfold fM_beach_39b
      rw [if_pos rfl]
/-- what a text's call must leave, but for the current beach and its days -/
def tx_k (k : Nat) : Prop := k = 17 ∨ k = 25 ∨ k = 34 ∨ k = 41 ∨ k = 43 ∨ k = 44 ∨ k = 52 ∨ k = 62 ∨ k = 63 ∨ k = 64 ∨ k = 71 ∨ k = 72 ∨ k = 74
def tx_m (k : Nat) (i s : Int) : Prop := (k = 10 ∧ i = 0 ∧ (s = 9 ∨ s = 14 ∨ s = 16 ∨ s = 17)) ∨ (k = 26 ∧ i = 0 ∧ (s = 3 ∨ s = 4 ∨ s = 30 ∨ s = 36 ∨ s = 37)) ∨ (k = 19 ∧ 2 ≤ i) ∨ (k = 22 ∧ 12 ≤ i) ∨ ((k = 23 ∨ k = 45 ∨ k = 46) ∧ 16 ≤ i) ∨ ((k = 24 ∨ k = 47 ∨ k = 48 ∨ k = 49 ∨ k = 50 ∨ k = 51) ∧ 2 ≤ i) ∨ (k = 61 ∧ i = 0 ∧ 14 ≤ s ∧ s < 56) ∨ (k = 60 ∧ i = 0 ∧ 1400 ≤ s ∧ s < 5600)
def tx_n (k : Nat) (i s : Int) : Prop := tx_k k ∨ tx_m k i s
/-- what it may change -/
def tx_y (k : Nat) (i s : Int) : Prop := (k = 10 ∧ i = 0 ∧ ((10 ≤ s ∧ s ≤ 13) ∨ s = 15)) ∨ (k = 12 ∧ i = 0) ∨ k = 13 ∨ k = 14 ∨ (k = 19 ∧ i < 2) ∨ (k = 22 ∧ i < 12) ∨ ((k = 23 ∨ k = 45 ∨ k = 46) ∧ i < 16) ∨ ((k = 24 ∨ k = 47 ∨ k = 48 ∨ k = 49 ∨ k = 50 ∨ k = 51) ∧ i < 2) ∨ (k = 26 ∧ i = 0 ∧ (s = 2 ∨ (10 ≤ s ∧ s ≤ 24))) ∨ (31 ≤ k ∧ k ≤ 33) ∨ k = 35 ∨ (k = 60 ∧ i = 0 ∧ (s < 1400 ∨ 5600 ≤ s)) ∨ (k = 61 ∧ i = 0 ∧ (s < 14 ∨ 56 ≤ s)) ∨ (66 ≤ k ∧ k ≤ 67)
theorem tx_ny {k : Nat} {i s : Int} (h : tx_n k i s) : ¬ tx_y k i s := by
  have hk : ∀ k : Nat, tx_k k → k ≠ 10 ∧ k ≠ 12 ∧ k ≠ 13 ∧ k ≠ 14 ∧ k ≠ 19 ∧ k ≠ 22 ∧ ¬ (k = 23 ∨ k = 45 ∨ k = 46) ∧ ¬ (k = 24 ∨ k = 47 ∨ k = 48 ∨ k = 49 ∨ k = 50 ∨ k = 51) ∧ k ≠ 26 ∧ ¬ (31 ≤ k ∧ k ≤ 33) ∧ k ≠ 35 ∧ k ≠ 60 ∧ k ≠ 61 ∧ ¬ (66 ≤ k ∧ k ≤ 67) := fun k h => by
    unfold tx_k at h
    rcases h with h | h | h | h | h | h | h | h | h | h | h | h | h <;> subst h <;> decide
  rcases h with h | h
  · obtain ⟨a1, a2, a3, a4, a5, a6, a7, a8, a9, b1, b2, b3, b4, b5⟩ := hk k h
    rintro (g | g | g | g | g | g | g | g | g | g | g | g | g | g)
    · exact a1 g.1
    · exact a2 g.1
    · exact a3 g
    · exact a4 g
    · exact a5 g.1
    · exact a6 g.1
    · exact a7 g.1
    · exact a8 g.1
    · exact a9 g.1
    · exact b1 g
    · exact b2 g
    · exact b3 g.1
    · exact b4 g.1
    · exact b5 g
  · unfold tx_m at h
    rintro (g | g | g | g | g | g | g | g | g | g | g | g | g | g) <;> omega
theorem pj_REL.txt {n n' : Int} {w w' : pj_W} (R : pj_REL n w) (hn : n ≤ n') (C : pj_RC w') (X : pj_RX (w' 10 0 10) (w' 10 0 12) 0 w' (w' 60 0)) (hS : w' 10 0 15 = w' 26 0 2) (hE : w' 12 0 5 = 0 ∧ w' 26 0 10 = 0 ∧ w' 12 0 6 = w' 26 0 16 ∧ w' 12 0 7 = w' 26 0 17) (h : ∀ k i s, tx_n k i s → w' k i s = w k i s) : pj_REL n' w' := by
  obtain ⟨_, _, S, T, E, M, O, H, L⟩ := R
  have g : ∀ k i s, tx_k k → w' k i s = w k i s := fun k i s hk => h k i s (Or.inl hk)
  have g10 : ∀ s, (s = 9 ∨ s = 14 ∨ s = 16 ∨ s = 17) → w' 10 0 s = w 10 0 s := fun s hs => h 10 0 s (Or.inr (Or.inl ⟨rfl, rfl, hs⟩))
  have g26 : ∀ s, (s = 3 ∨ s = 4 ∨ s = 30 ∨ s = 36 ∨ s = 37) → w' 26 0 s = w 26 0 s := fun s hs => h 26 0 s (Or.inr (Or.inr (Or.inl ⟨rfl, rfl, hs⟩)))
  refine ⟨C, X, ⟨hS, ?_, ?_⟩, T.ex (fun k i s hk => g k i s (by unfold tx_k; omega)), ⟨hE.1.trans hE.2.1.symm, by omega, by omega, hE.2.2.1, hE.2.2.2, fun i i0 i1 => by omega, fun i hi => (g 34 0 i (by unfold tx_k; decide)).trans (E.2.2.2.2.2.2 i hi)⟩, ?_, ?_, ?_, ?_⟩
  · rw [g10 16 (by decide), g26 3 (by decide)]; exact S.2.1
  · rw [g10 17 (by decide), g26 4 (by decide)]; exact S.2.2
  · refine M.ex (g10 14 (by decide)) (g26 37 (by decide)) (fun m m0 m1 k i s hk => h k i s (Or.inr ?_)) (fun m x m0 m1 x0 x1 => h 60 0 _ (Or.inr ?_))
    · have m3 := M.2.2.1
      unfold pj_ix pj_in at hk
      rcases hk with (hk | hk | hk) | hk | hk
      · exact Or.inr (Or.inr (Or.inl ⟨hk.1, by omega⟩))
      · exact Or.inr (Or.inr (Or.inr (Or.inl ⟨hk.1, by omega⟩)))
      · exact Or.inr (Or.inr (Or.inr (Or.inr (Or.inl ⟨hk.1, by omega⟩))))
      · exact Or.inr (Or.inr (Or.inr (Or.inr (Or.inr (Or.inl ⟨hk.1, by omega⟩)))))
      · exact Or.inr (Or.inr (Or.inr (Or.inr (Or.inr (Or.inr (Or.inl ⟨hk.1, hk.2.1, by omega, by omega⟩))))))
    · have m3 := M.2.2.1
      exact Or.inr (Or.inr (Or.inr (Or.inr (Or.inr (Or.inr (Or.inr ⟨rfl, rfl, by omega, by omega⟩))))))
  · exact O.ex (g 17 0 6 (by unfold tx_k; decide)) (g26 30 (by decide)) (fun s => g 41 0 s (by unfold tx_k; decide)) (fun s => g 71 0 s (by unfold tx_k; decide))
  · exact H.ex (g10 9 (by decide)) (g26 36 (by decide)) (fun s => g 44 0 s (by unfold tx_k; decide)) (fun s => g 74 0 s (by unfold tx_k; decide))
  · exact L.mono hn (fun s => g 43 0 s (by unfold tx_k; decide)) (fun s => g 72 0 s (by unfold tx_k; decide))
theorem tx_yn {k : Nat} {i s : Int} (h : ¬ tx_y k i s) : ¬ (k = 10 ∧ i = 0 ∧ ((10 ≤ s ∧ s ≤ 13) ∨ s = 15)) ∧ ¬ (k = 12 ∧ i = 0) ∧ ¬ k = 13 ∧ ¬ k = 14 ∧ ¬ (k = 19 ∧ i < 2) ∧ ¬ (k = 22 ∧ i < 12) ∧ ¬ ((k = 23 ∨ k = 45 ∨ k = 46) ∧ i < 16) ∧ ¬ ((k = 24 ∨ k = 47 ∨ k = 48 ∨ k = 49 ∨ k = 50 ∨ k = 51) ∧ i < 2) ∧ ¬ (k = 26 ∧ i = 0 ∧ (s = 2 ∨ (10 ≤ s ∧ s ≤ 24))) ∧ ¬ (31 ≤ k ∧ k ≤ 33) ∧ ¬ k = 35 ∧ ¬ (k = 60 ∧ i = 0 ∧ (s < 1400 ∨ 5600 ≤ s)) ∧ ¬ (k = 61 ∧ i = 0 ∧ (s < 14 ∨ 56 ≤ s)) ∧ ¬ (66 ≤ k ∧ k ≤ 67) := by
  unfold tx_y at h
  simp only [not_or] at h
  exact h
theorem tx_10 {k : Nat} {i s : Int} (h : ¬ tx_y k i s) : ¬ (k = 10 ∧ i = 0 ∧ ((10 ≤ s ∧ s ≤ 13) ∨ s = 15)) := (tx_yn h).1
theorem tx_12 {k : Nat} {i s : Int} (h : ¬ tx_y k i s) : ¬ (k = 12 ∧ i = 0) := (tx_yn h).2.1
theorem tx_13 {k : Nat} {i s : Int} (h : ¬ tx_y k i s) : ¬ k = 13 ∧ ¬ k = 14 := ⟨(tx_yn h).2.2.1, (tx_yn h).2.2.2.1⟩
theorem tx_in {k : Nat} {i s : Int} {b : Int} (h : ¬ tx_y k i s) (hb : b < 2) : ¬ pj_in b k i := by
  have h1 := (tx_yn h).2.2.2.2.1
  have h2 := (tx_yn h).2.2.2.2.2.1
  have h3 := (tx_yn h).2.2.2.2.2.2.1
  unfold pj_in
  omega
theorem tx_24 {k : Nat} {i s : Int} (h : ¬ tx_y k i s) : ¬ ((k = 24 ∨ k = 47 ∨ k = 48 ∨ k = 49 ∨ k = 50 ∨ k = 51) ∧ i < 2) := (tx_yn h).2.2.2.2.2.2.2.1
theorem tx_26 {k : Nat} {i s : Int} (h : ¬ tx_y k i s) : ¬ (k = 26 ∧ i = 0 ∧ (s = 2 ∨ (10 ≤ s ∧ s ≤ 24))) := (tx_yn h).2.2.2.2.2.2.2.2.1
theorem tx_31 {k : Nat} {i s : Int} (h : ¬ tx_y k i s) : k ≠ 31 ∧ k ≠ 32 ∧ k ≠ 33 := by
  have := (tx_yn h).2.2.2.2.2.2.2.2.2.1
  omega
theorem tx_35 {k : Nat} {i s : Int} (h : ¬ tx_y k i s) : k ≠ 35 := (tx_yn h).2.2.2.2.2.2.2.2.2.2.1
theorem tx_60 {k : Nat} {i s : Int} (h : ¬ tx_y k i s) : ¬ (k = 60 ∧ i = 0 ∧ (s < 1400 ∨ 5600 ≤ s)) := (tx_yn h).2.2.2.2.2.2.2.2.2.2.2.1
theorem tx_61 {k : Nat} {i s : Int} (h : ¬ tx_y k i s) : ¬ (k = 61 ∧ i = 0 ∧ (s < 14 ∨ 56 ≤ s)) := (tx_yn h).2.2.2.2.2.2.2.2.2.2.2.2.1
theorem tx_66 {k : Nat} {i s : Int} (h : ¬ tx_y k i s) : k ≠ 66 ∧ k ≠ 67 := by
  have := (tx_yn h).2.2.2.2.2.2.2.2.2.2.2.2.2
  omega
