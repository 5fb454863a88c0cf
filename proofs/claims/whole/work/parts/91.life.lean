/-! A LIFE, in the class: its steps -/
def rx (b dd N : Int) (v0 v : pj_W) (A : pj_Q) (D : Int) (C L : pj_Q) : Prop :=
  pj_RB b v A ∧ (v 18 0 2 = b ∧ v 18 0 3 = dd ∧ v 18 0 4 = D) ∧ (∀ i, 0 ≤ i → i < 5 → v 42 0 i = C i) ∧ (∀ i, 0 ≤ i → i < 60 → v 43 0 i = L i + 1 ∨ -N ≤ v 43 0 i ∧ v 43 0 i ≤ 0 ∧ L i = 0) ∧ pj_kn v0 v ∧
  ∀ k i s, ¬ pj_in b k i → ¬ (k = 18 ∧ i = 0 ∧ 2 ≤ s ∧ s ≤ 4) → k ≠ 42 → k ≠ 43 → v k i s = v0 k i s
section
variable {b dd N : Int} {v0 v : pj_W} {A : pj_Q} {D : Int} {C L : pj_Q}
theorem rx.mono {N' : Int} (h : rx b dd N v0 v A D C L) (hN : N ≤ N') : rx b dd N' v0 v A D C L :=
  ⟨h.1, h.2.1, h.2.2.1, fun i h0 h1 => (h.2.2.2.1 i h0 h1).imp id fun x => ⟨by omega, x.2⟩, h.2.2.2.2⟩
theorem rx.dB (h : rx b dd N v0 v A D C L) {w' : pj_W} {r : pj_R} (d : pj_dB b v w' r) (hn : pj_kn v0 w') : rx b dd N v0 w' r.2.2 D C L := by
  obtain ⟨R, h2, h3, h4, h5, h6⟩ := h
  have f : ∀ k i s, k = 18 ∨ k = 42 ∨ k = 43 → w' k i s = v k i s := fun k i s hk => d.2.1 k i s (by unfold pj_in; omega)
  refine ⟨d.1, ?_, fun i h0 h1 => ?_, fun i h0 h1 => ?_, hn, fun k i s a1 a2 a3 a4 => (d.2.1 k i s a1).trans (h6 k i s a1 a2 a3 a4)⟩
  · rw [f 18 0 2 (by omega), f 18 0 3 (by omega), f 18 0 4 (by omega)]; exact h2
  · rw [f 42 0 i (by omega)]; exact h3 i h0 h1
  · rw [f 43 0 i (by omega)]; exact h4 i h0 h1
theorem rx.c42 (h : rx b dd N v0 v A D C L) (I : pj_IV A) (j z : Int) : rx b dd N v0 (pj_set v 42 0 j z) A D (q_up C j z) L := by
  obtain ⟨R, h2, h3, h4, h5, h6⟩ := h
  refine ⟨R.ex I (fun k i s hk => pj_sne (by unfold pj_in at hk; omega)), ?_, fun i h0 h1 => ?_, fun i h0 h1 => ?_, h5.set _ (by omega) (by omega), fun k i s a1 a2 a3 a4 => (pj_sne (by omega)).trans (h6 k i s a1 a2 a3 a4)⟩
  · rw [pj_sne (by omega), pj_sne (by omega), pj_sne (by omega)]; exact h2
  · unfold pj_set q_up
    by_cases c : i = j
    · rw [if_pos ⟨rfl, rfl, c⟩, if_pos c]
    · rw [if_neg (fun x => c x.2.2), if_neg c]; exact h3 i h0 h1
  · rw [pj_sne (by omega)]; exact h4 i h0 h1
theorem rx.sD (h : rx b dd N v0 v A D C L) (I : pj_IV A) (z : Int) : rx b dd N v0 (pj_set v 18 0 4 z) A z C L := by
  obtain ⟨R, h2, h3, h4, h5, h6⟩ := h
  refine ⟨R.ex I (fun k i s hk => pj_sne (by unfold pj_in at hk; omega)), ?_, fun i h0 h1 => ?_, fun i h0 h1 => ?_, h5.set _ (by omega) (by omega), fun k i s a1 a2 a3 a4 => (pj_sne (by omega)).trans (h6 k i s a1 a2 a3 a4)⟩
  · rw [pj_sne (by omega), pj_sne (by omega), pj_set_at]; exact ⟨h2.1, h2.2.1, rfl⟩
  · rw [pj_sne (by omega)]; exact h3 i h0 h1
  · rw [pj_sne (by omega)]; exact h4 i h0 h1
theorem rx.s43 (h : rx b dd N v0 v A D C L) (I : pj_IV A) {j z l : Int} (hz : z = l + 1 ∨ -N ≤ z ∧ z ≤ 0 ∧ l = 0) : rx b dd N v0 (pj_set v 43 0 j z) A D C (q_up L j l) := by
  obtain ⟨R, h2, h3, h4, h5, h6⟩ := h
  refine ⟨R.ex I (fun k i s hk => pj_sne (by unfold pj_in at hk; omega)), ?_, fun i h0 h1 => ?_, fun i h0 h1 => ?_, h5.set _ (by omega) (by omega), fun k i s a1 a2 a3 a4 => (pj_sne (by omega)).trans (h6 k i s a1 a2 a3 a4)⟩
  · rw [pj_sne (by omega), pj_sne (by omega), pj_sne (by omega)]; exact h2
  · rw [pj_sne (by omega)]; exact h3 i h0 h1
  · unfold pj_set q_up
    by_cases c : i = j
    · rw [if_pos ⟨rfl, rfl, c⟩, if_pos c]; exact hz
    · rw [if_neg (fun x => c x.2.2), if_neg c]; exact h4 i h0 h1
theorem x_draw (h : rx b dd N v0 v A D C L) (I : pj_IV A) {n : Int} (hn : 0 < n) : ∃ v', fL_draw n v = some (lf_dr (lf_nx D) n, v') ∧ rx b dd N v0 v' A (lf_nx D) C L := by
  refine ⟨pj_set v 18 0 4 (lf_nx D), ?_, h.sD I _⟩
  unfold fL_draw
  rw [if_neg (by omega), if_pos (by omega), h.2.1.2.2, pj_set_at]; rfl
theorem x_tried (h : rx b dd N v0 v A D C L) (I : pj_IV A) {k y : Int} (hk : 0 ≤ k) (hk2 : k < 60) : ∃ v', fL_tried k y v = some (k + 1, v') ∧ rx b dd N v0 v' A D (lf_miss C y) L := by
  unfold fL_tried fL_tried_14 lf_miss
  rw [pj_wr_id (x := k + 1) (by omega) (by omega)]
  by_cases c : y = 0
  · rw [if_pos c, if_pos c]
    exact ⟨v, rfl, h⟩
  · rw [if_neg c, if_neg c, h.2.2.1 0 (by omega) (by omega)]
    exact ⟨_, rfl, h.c42 I 0 _⟩
theorem rx.h8 (h : rx b dd N v0 v A D C L) : v 19 b 8 = A 2 := h.1.1.2.2.2.2.2.2
theorem x_gull (h : rx b dd N v0 v A D C L) (I : pj_IV A) (hb : 0 ≤ b) (hD : 0 ≤ D) (hD2 : D < 65536) {k : Int} (hk : 0 ≤ k) (hk2 : k < 60) (n : Int) :
    ∃ v', fL_gullMayCarry k n v = some (k + 1, v') ∧ rx b dd N v0 v' (lf_gull A D C n).1 (lf_gull A D C n).2.1 (lf_gull A D C n).2.2 L := by
  have hA := I.1
  have d1 := lf_nx_in D hD hD2
  have d2 := lf_nx_in _ d1.1 d1.2
  have d3 := lf_nx_in _ d2.1 d2.2
  have wrk : pj_wr (k + 1) = k + 1 := pj_wr_id (by omega) (by omega)
  obtain ⟨v1, e1, r1⟩ := x_draw h I (n := 16) (by decide)
  unfold fL_gullMayCarry lf_gull
  rw [e1, Option.bind_some]
  dsimp only
  by_cases c1 : n ≤ lf_dr (lf_nx D) 16
  · rw [if_pos c1, if_pos c1]
    unfold fL_gullMayCarry_15 fL_gullMayCarry_93
    rw [if_pos rfl, wrk]
    exact ⟨v1, rfl, r1⟩
  · rw [if_neg c1, if_neg c1]
    unfold fL_gullMayCarry_15
    rw [if_neg (by decide), r1.2.1.1, if_pos hb, r1.h8]
    by_cases c2 : A 2 < 2
    · rw [if_pos c2, if_pos c2]
      unfold fL_gullMayCarry_93
      rw [wrk]
      exact ⟨v1, rfl, r1⟩
    · have f1 := lf_dr_in (n := A 2) d2.1 d2.2 (by omega)
      have f2 := lf_dr_in (n := A 2 - 1) d3.1 d3.2 (by omega)
      obtain ⟨v2, e2, r2⟩ := x_draw r1 I (n := A 2) (by omega)
      obtain ⟨v3, e3, r3⟩ := x_draw r2 I (n := A 2 - 1) (by omega)
      rw [if_neg c2, if_neg c2, e2, Option.bind_some]
      dsimp only
      rw [if_pos (show 0 ≤ v2 18 0 2 by rw [r2.2.1.1]; exact hb), r2.2.1.1, r2.h8, pj_wr_id (x := A 2 - 1) (by omega) (by omega), e3, Option.bind_some]
      dsimp only
      generalize lf_dr (lf_nx (lf_nx D)) (A 2) = f at f1 ⊢
      generalize lf_dr (lf_nx (lf_nx (lf_nx D))) (A 2 - 1) = t at f2 ⊢
      generalize lf_nx (lf_nx (lf_nx D)) = D3 at d3 r3 ⊢
      have ht : (if t < f then t else pj_wr (t + 1)) = lf_to f t := by
        unfold lf_to
        rw [pj_wr_id (x := t + 1) (by omega) (by omega)]
      rw [ht]
      obtain ⟨v4, e4, d4⟩ := xc_carry r3.1 I hb f (lf_to f t)
      have n4 : pj_kn v0 v4 := kn_carry r3.2.2.2.2.1 f (lf_to f t) _ e4
      have r4 := r3.dB d4 n4
      unfold fL_gullMayCarry_69 fL_gullMayCarry_93
      rw [r3.2.1.1, if_pos hb, e4, Option.bind_some, wrk]
      dsimp only
      by_cases c3 : (q_gull A f (lf_to f t)).1 = 0
      · rw [if_pos c3, if_pos c3, r4.2.2.1 1 (by omega) (by omega)]
        exact ⟨_, rfl, r4.c42 (q_gull_IV I _ _) 1 _⟩
      · rw [if_neg c3, if_neg c3]
        refine ⟨v4, rfl, ?_⟩
        have hr : (q_gull A f (lf_to f t)).2.2 = A := by
          unfold q_gull at c3 ⊢
          split
          · split
            · rename_i g1 g2; rw [if_pos g1, if_pos g2] at c3; exact absurd rfl c3
            · rfl
          · rfl
        rw [hr] at r4
        exact r4
theorem x_waved (h : rx b dd N v0 v A D C L) (I : pj_IV A) (hb : 0 ≤ b) {k n : Int} (hk : 0 ≤ k) (hk2 : k < 60) (hn : 0 ≤ n ∧ n ≤ 40) :
    ∃ v', fL_comeWave k n v = some (k + 1, v') ∧ rx b dd N v0 v' (q_wave A n).2.2 D (lf_inc C 2 (q_wave A n).2.1) L := by
  obtain ⟨v4, e4, d4⟩ := xc_washBelow h.1 I hb n
  have n4 : pj_kn v0 v4 := kn_washBelow h.2.2.2.2.1 n _ e4
  have r4 := h.dB d4 n4
  have hq : (q_wave A n).1 = 0 := by unfold q_wave; rw [if_pos hn]
  unfold fL_comeWave fL_comeWave_29
  rw [h.2.1.1, if_pos hb, e4, Option.bind_some]
  dsimp only
  rw [if_pos hq, if_pos (show 0 ≤ v4 18 0 2 by rw [r4.2.1.1]; exact hb), r4.2.1.1, d4.2.2 hq, r4.2.2.1 2 (by omega) (by omega), hq]
  obtain ⟨v5, e5, r5⟩ := x_tried (r4.c42 (q_wave_IV I n) 2 (pj_wr (C 2 + (q_wave A n).2.1))) (q_wave_IV I n) (k := k) (y := 0) hk hk2
  rw [e5]
  exact ⟨v5, rfl, r5⟩
theorem x_tided (h : rx b dd N v0 v A D C L) (I : pj_IV A) (K : pj_IK A) (hb : 0 ≤ b) {k : Int} (hk : 0 ≤ k) (hk2 : k < 60) :
    ∃ v', fL_comeTideAndDawn k v = some (k + 1, v') ∧ rx b dd N v0 v' (lf_deed A D C 1 0 0).1 (lf_deed A D C 1 0 0).2.1 (lf_deed A D C 1 0 0).2.2 L := by
  have hA := I.1
  obtain ⟨v4, e4, d4⟩ := xc_comeTide h.1 I K hb
  have n4 : pj_kn v0 v4 := kn_comeTide h.2.2.2.2.1 _ e4
  have r4 := h.dB d4 n4
  have hl : lf_deed A D C 1 0 0 = if A 6 = 99 ∨ A 7 = 0 then (A, D, lf_inc C 0 1) else (q_dawns (q_floods A), D, lf_inc C 3 1) := by
    unfold lf_deed
    simp only [Int.reduceEq, if_false, if_true]
  rw [hl]
  unfold fL_comeTideAndDawn fL_comeTideAndDawn_30
  rw [h.2.1.1, if_pos hb, e4, Option.bind_some]
  dsimp only
  by_cases c : A 6 = 99 ∨ A 7 = 0
  · rw [if_pos c]
    have hq : ∃ y, y ≠ 0 ∧ q_tide A = (y, 0, A) := by
      unfold q_tide
      by_cases c1 : A 6 = 99
      · exact ⟨4, by decide, by rw [if_pos c1]⟩
      · exact ⟨7, by decide, by rw [if_neg c1, if_pos (by omega)]⟩
    obtain ⟨y, hy, hq⟩ := hq
    rw [hq] at r4 ⊢
    dsimp only at r4 ⊢
    rw [if_neg hy]
    obtain ⟨v5, e5, r5⟩ := x_tried r4 I (k := k) (y := y) hk hk2
    unfold lf_miss at r5
    rw [if_neg hy] at r5
    rw [e5]
    exact ⟨v5, rfl, r5⟩
  · rw [if_neg c]
    have hq : q_tide A = (0, A 6 + 1, q_floods A) := by
      unfold q_tide
      rw [if_neg (by omega), if_neg (by omega)]
    have J : pj_IV (q_floods A) := q_tided_IV I (q_floods_is I) (by omega)
    have h7 : q_floods A 7 = 0 := (q_floods_is I).2.1.2.2.1
    rw [hq] at r4 ⊢
    dsimp only at r4 ⊢
    obtain ⟨v5, e5, d5⟩ := xc_comeDawn r4.1 J hb
    have n5 : pj_kn v0 v5 := kn_comeDawn r4.2.2.2.2.1 _ e5
    have r5 := r4.dB d5 n5
    have hq2 : q_dawn (q_floods A) = (0, q_floods A 2, q_dawns (q_floods A)) := by unfold q_dawn; rw [if_pos h7]
    rw [hq2] at r5 e5
    dsimp only at r5 e5
    rw [if_pos rfl, if_pos (show 0 ≤ v4 18 0 2 by rw [r4.2.1.1]; exact hb), r4.2.1.1, e5, Option.bind_some]
    dsimp only
    rw [r5.2.2.1 3 (by omega) (by omega)]
    obtain ⟨v6, e6, r6⟩ := x_tried (r5.c42 (q_dawns_IV J) 3 (pj_wr (C 3 + 1))) (q_dawns_IV J) (k := k) (y := 0) hk hk2
    rw [e6]
    exact ⟨v6, rfl, r6⟩
end
