/-! A LIFE, in the class: all moves -/
theorem lf_zk_no {k : Int} {A : pj_Q} (h : A (1030 + 6 * k) < 2400) : lf_zk k A = k + 1 := by unfold lf_zk; rw [if_neg (by omega)]
theorem lf_zL_no {k : Int} {A L : pj_Q} (h : A (1030 + 6 * k) ≠ 25) : lf_zL k A L = L := by unfold lf_zL; rw [if_neg h]
section
variable {b dd N : Int} {v0 v : pj_W} {A : pj_Q} {D : Int} {C L : pj_Q}
theorem x_test (h : rx b dd N v0 v A D C L) (hdd : 0 ≤ dd) {k : Int} (hk : 0 ≤ k) (hk2 : k < 60) (hP : -1 ≤ v0 51 dd k ∧ v0 51 dd k < 60) (y : Int) : fL_behindTest k y v = some (if y = 0 then v0 51 dd k + 1 else k + 1) := by
  have e51 : v 51 dd k = v0 51 dd k := h.2.2.2.2.2 51 dd k (by unfold pj_in; omega) (by omega) (by decide) (by decide)
  unfold fL_behindTest
  rw [h.2.1.2.1, e51, pj_wr_id (x := v0 51 dd k + 1) (by omega) (by omega), pj_wr_id (x := k + 1) (by omega) (by omega)]
  by_cases c : y = 0
  · rw [if_pos c, if_pos c, if_pos hdd, if_pos (by omega)]
  · rw [if_neg c, if_neg c]
theorem x_step (h : rx b dd N v0 v A D C L) (hb : 0 ≤ b) (hdd : 0 ≤ dd) (hN : 0 ≤ N) {A0 : pj_Q} {k s : Int} (ok : lf_ok A0 (v0 47 dd) (v0 48 dd) (v0 49 dd) (v0 50 dd) (v0 51 dd) (k, s, A, D, C, L)) (c1 : k < A 9) (c2 : A (1030 + 6 * k) ≠ 26) :
    (A (1030 + 6 * k) = 27 → fL_behindStep k v = some (v 24 dd 7, v)) ∧ (A (1030 + 6 * k) ≠ 27 → ∃ v', fL_behindStep k v = some (lf_zk k A, v') ∧ rx b dd N v0 v' (lf_zd k A D C).1 (lf_zd k A D C).2.1 (lf_zd k A D C).2.2 (lf_zL k A L)) := by
  obtain ⟨I, K, kd, hD, hC, hL, hk, hs, hr⟩ := ok
  dsimp only at I K kd hD hC hL hk hs hr
  have hA := I.1
  have h60 := hr.1
  have hrow := hr.2 k hk.1 c1
  have hrk := lf_row_k hrow
  have off : ∀ j s, j = 47 ∨ j = 48 ∨ j = 49 ∨ j = 50 ∨ j = 51 → v j dd s = v0 j dd s := fun j s hj => h.2.2.2.2.2 j dd s (by unfold pj_in; omega) (by omega) (by omega) (by omega)
  have wrk : pj_wr (k + 1) = k + 1 := pj_wr_id (by omega) (by omega)
  have hR := h.1
  have h2 := h.2.1.1
  have kn := h.2.2.2.2.1
  unfold fL_behindStep fL_behindStep_301
  rw [h.2.1.2.1, if_pos hdd, if_pos (by omega), off 47 k (by omega), off 48 k (by omega), off 49 k (by omega), off 50 k (by omega), if_pos hdd]
  unfold lf_zd
  have hzk := lf_zk_no (k := k) (A := A)
  have hzL := lf_zL_no (k := k) (A := A) (L := L)
  have hzt : ∀ y, 2400 ≤ A (1030 + 6 * k) → lf_hv A (A (1030 + 6 * k)) (A (1030 + 6 * k + 1)) (A (1030 + 6 * k + 2)) (A (1030 + 6 * k + 5)) = y → lf_zk k A = if y = 0 then v0 51 dd k + 1 else k + 1 := fun y g1 g2 => by
    unfold lf_zk
    rw [g2]
    have := hrk.2.2.2.2.2 g1
    by_cases c : y = 0
    · rw [if_pos c, if_pos ⟨g1, c⟩, this.1]
    · rw [if_neg c, if_neg (fun x => c x.2)]
  have hP60 : 2400 ≤ A (1030 + 6 * k) → -1 ≤ v0 51 dd k ∧ v0 51 dd k < 60 := fun g => by have := hrk.2.2.2.2.2 g; omega
  have hzLq : A (1030 + 6 * k) = 25 → lf_zL k A L = q_up L k (A (1030 + 6 * k + 1) - 1) := fun g => by unfold lf_zL; rw [if_pos g]
  generalize hc0 : A (1030 + 6 * k) = c0 at hrow hzk hzL hzt hP60 hzLq c2 ⊢
  generalize A (1030 + 6 * k + 1) = one at hrow hzt hzLq ⊢
  generalize A (1030 + 6 * k + 2) = two at hrow hzt ⊢
  generalize A (1030 + 6 * k + 4) = c4 at hrow ⊢
  generalize A (1030 + 6 * k + 5) = c5 at hrow hzt ⊢
  generalize v0 47 dd = W at hrow ⊢
  generalize v0 48 dd k = F at hrow ⊢
  generalize v0 49 dd k = S at hrow ⊢
  generalize v0 50 dd k = T at hrow ⊢
  unfold lf_deed
  rcases hrow with ⟨w0, rfl, rfl, rfl, v1, v2, v3⟩ | ⟨hh, rfl, rfl, v1, v2⟩ | ⟨w0, rfl, rfl, rfl, v1, v2, v3⟩ | ⟨w0, rfl, rfl, v1, v2⟩ | ⟨w0, rfl, rfl, v1, v2⟩ | ⟨w0, rfl⟩ | ⟨w0, rfl, rfl, v1, v2⟩ | ⟨w0, rfl⟩ | ⟨w0, rfl, _⟩ | ⟨w0, rfl, rfl, rfl, rfl, v1, v2⟩ | ⟨w0, rfl, rfl, rfl, v1, v2, _⟩ | ⟨w0, rfl, rfl, v1, _⟩
  · refine ⟨fun x => by omega, fun _ => ?_⟩
    rw [w0, hzk (by decide), hzL (by decide)]
    simp only [Int.reduceEq, if_false, if_true]
    rw [h2, if_pos hb]
    obtain ⟨v4, e4, d4⟩ := xc_walkTo hR I hb F S
    obtain ⟨v5, e5, r5⟩ := x_tried (h.dB d4 (kn_walkTo kn F S _ e4)) (q_go_IV I F S) (k := k) (y := (q_go A F S).1) hk.1 (by omega)
    rw [e4, Option.bind_some]
    dsimp only
    rw [e5]
    exact ⟨v5, rfl, r5⟩
  · refine ⟨fun x => by omega, fun _ => ?_⟩
    rcases hh with ⟨w0, rfl⟩ | ⟨w0, rfl⟩
    · rw [w0, hzk (by decide), hzL (by decide)]
      simp only [Int.reduceEq, if_false, if_true]
      rw [h2, if_pos hb]
      obtain ⟨v4, e4, d4⟩ := xc_layOn hR I hb F S
      obtain ⟨v5, e5, r5⟩ := x_tried (h.dB d4 (kn_layOn kn F S _ e4)) (q_set_IV I F S) (k := k) (y := (q_set A F S).1) hk.1 (by omega)
      rw [e4, Option.bind_some]
      dsimp only
      rw [e5]
      exact ⟨v5, rfl, r5⟩
    · rw [w0, hzk (by decide), hzL (by decide)]
      simp only [Int.reduceEq, if_false, if_true]
      rw [h2, if_pos hb]
      obtain ⟨v4, e4, d4⟩ := xc_takeUp hR I hb F S
      obtain ⟨v5, e5, r5⟩ := x_tried (h.dB d4 (kn_takeUp kn F S _ e4)) (q_lift_IV I F S) (k := k) (y := (q_lift A F S).1) hk.1 (by omega)
      rw [e4, Option.bind_some]
      dsimp only
      rw [e5]
      exact ⟨v5, rfl, r5⟩
  · refine ⟨fun x => by omega, fun _ => ?_⟩
    rw [w0, hzk (by decide), hzL (by decide)]
    simp only [Int.reduceEq, if_false, if_true]
    rw [h2, if_pos hb]
    obtain ⟨v4, e4, d4⟩ := xc_waitFor hR I hb F S
    obtain ⟨v5, e5, r5⟩ := x_tried (h.dB d4 (kn_waitFor kn F S _ e4)) (q_pass_IV I F S) (k := k) (y := (q_pass A F S).1) hk.1 (by omega)
    rw [e4, Option.bind_some]
    dsimp only
    rw [e5]
    exact ⟨v5, rfl, r5⟩
  · refine ⟨fun x => by omega, fun _ => ?_⟩
    rw [w0, hzk (by decide), hzL (by decide)]
    simp only [Int.reduceEq, if_false, if_true]
    obtain ⟨v5, e5, r5⟩ := x_gull h I hb hD.1 hD.2 (k := k) hk.1 (by omega) F
    rw [e5]
    exact ⟨v5, rfl, r5⟩
  · refine ⟨fun x => by omega, fun _ => ?_⟩
    rw [w0, hzk (by decide), hzL (by decide)]
    simp only [Int.reduceEq, if_false, if_true]
    obtain ⟨v5, e5, r5⟩ := x_waved h I hb (k := k) hk.1 (by omega) (n := F) ⟨v1, v2⟩
    rw [e5]
    exact ⟨v5, rfl, r5⟩
  · refine ⟨fun x => by omega, fun _ => ?_⟩
    rw [w0, hzk (by decide), hzL (by decide)]
    obtain ⟨v5, e5, r5⟩ := x_tided h I K hb (k := k) hk.1 (by omega)
    unfold lf_deed at r5
    simp only [Int.reduceEq, if_false, if_true] at r5 ⊢
    rw [e5]
    exact ⟨v5, rfl, r5⟩
  · refine ⟨fun x => by omega, fun _ => ?_⟩
    rw [w0, hzk (by decide), hzLq rfl]
    simp only [Int.reduceEq, if_false, if_true]
    unfold fL_beginLoop
    rw [if_pos (by omega), wrk]
    exact ⟨_, rfl, h.s43 I (Or.inl (by omega))⟩
  · refine ⟨fun _ => ?_, fun x => absurd rfl x⟩
    rw [w0]
    simp only [Int.reduceEq, if_false, if_true]
  · exact absurd rfl c2
  · refine ⟨fun x => by omega, fun _ => ?_⟩
    have hf := v1
    rw [w0, hzL (by decide)]
    simp only [Int.reduceEq, if_false, if_true]
    rw [h2, if_pos hb, xq_leadOf hR I hb hf.1 (by have := hf.2; omega), Option.bind_some]
    have hcm : fL_compares (pj_lead A F) T S v = some (lf_hv A 2428 F S T) := by
      unfold fL_compares lf_hv
      rw [if_neg (show ¬ ((2428 : Int) = 2429) by decide), if_neg (show ¬ ((2428 : Int) = 2415) by decide)]
      by_cases e1 : T = 60
      · rw [if_pos e1, if_pos e1]
        by_cases e2 : S ≤ pj_lead A F
        · rw [if_pos e2, if_neg (by omega)]
        · rw [if_neg e2, if_pos (by omega)]
      · rw [if_neg e1, if_neg e1]
        by_cases e3 : T = 62
        · rw [if_pos e3, if_pos e3]
          by_cases e2 : pj_lead A F ≤ S
          · rw [if_pos e2, if_neg (by omega)]
          · rw [if_neg e2, if_pos (by omega)]
        · rw [if_neg e3, if_neg e3]
          by_cases e2 : pj_lead A F = S
          · rw [if_pos e2, if_pos e2]
          · rw [if_neg e2, if_neg e2]
    rw [hcm, Option.bind_some, x_test h hdd hk.1 (by omega) (hP60 (by decide)), hzt _ (by decide) rfl]
    exact ⟨v, rfl, h⟩
  · refine ⟨fun x => by omega, fun _ => ?_⟩
    have hd := v2
    have := hd.1
    rw [w0, hzL (by decide)]
    simp only [Int.reduceEq, if_false, if_true]
    rw [h2, if_pos hb, xq_findAt hR I, if_pos hd, Option.bind_some]
    have hcm : fL_isLast F (8 * b + S) v = some (lf_hv A 2415 F S c5) := by
      unfold fL_isLast lf_hv
      rw [if_neg (show ¬ ((2415 : Int) = 2429) by decide), if_pos (show (2415 : Int) = 2415 from rfl), if_neg (by omega), xq_lastSet hR I hd, Option.bind_some]
      split <;> rfl
    rw [hcm, Option.bind_some, x_test h hdd hk.1 (by omega) (hP60 (by decide)), hzt _ (by decide) rfl]
    exact ⟨v, rfl, h⟩
  · refine ⟨fun x => by omega, fun _ => ?_⟩
    have hd := v1
    have := hd.1
    rw [w0, hzL (by decide)]
    simp only [Int.reduceEq, if_false, if_true]
    rw [h2, if_pos hb, xq_findAt hR I, if_pos hd, Option.bind_some]
    have hRD := hR.2.2.1 S hd
    have hcm : fL_isFree (8 * b + S) v = some (lf_hv A 2429 S two c5) := by
      unfold fL_isFree lf_hv
      rw [if_pos (show (2429 : Int) = 2429 from rfl), if_neg (by omega)]
      by_cases e1 : pj_there A S
      · rw [if_neg (fun x => (hR.th hd).mp x e1), hRD.2.2.2]
        by_cases e2 : pj_many A S = 0
        · rw [if_pos e2, if_pos ⟨e1, e2⟩]
        · rw [if_neg e2, if_neg (fun x => e2 x.2)]
      · rw [if_pos ((hR.th hd).mpr e1), if_neg (fun x => e1 x.1)]
    rw [hcm, Option.bind_some, x_test h hdd hk.1 (by omega) (hP60 (by decide)), hzt _ (by decide) rfl]
    exact ⟨v, rfl, h⟩
/-- an end that is come to -/
theorem x_end (h : rx b dd N v0 v A D C L) (hdd : 0 ≤ dd) (hN : 0 ≤ N) (hN2 : N < 2000000000) {A0 : pj_Q} {k s : Int} (ok : lf_ok A0 (v0 47 dd) (v0 48 dd) (v0 49 dd) (v0 50 dd) (v0 51 dd) (k, s, A, D, C, L)) (c1 : k < A 9) (c2 : A (1030 + 6 * k) = 26) :
    ∃ k' L' v', lf_flb k s A D C L = some (.inl (k', s, A, D, C, L')) ∧ fL_behindEnd k v = some (k', v') ∧ rx b dd (N + 1) v0 v' A D C L' := by
  obtain ⟨I, K, kd, hD, hC, hL, hk, hs, hr⟩ := ok
  dsimp only at I K kd hD hC hL hk hs hr
  have h60 := hr.1
  have hrk := lf_row_k (hr.2 k hk.1 c1)
  have he := hrk.2.2.2.1 c2
  have hrk2 := lf_row_k (hr.2 (v0 51 dd k) he.2.1 (by omega))
  have hLo := hL (v0 51 dd k) he.2.1 (by omega)
  have off : ∀ j s, j = 47 ∨ j = 48 ∨ j = 49 ∨ j = 50 ∨ j = 51 → v j dd s = v0 j dd s := fun j s hj => h.2.2.2.2.2 j dd s (by unfold pj_in; omega) (by omega) (by omega) (by omega)
  have h43 := h.2.2.2.1 (v0 51 dd k) he.2.1 (by omega)
  have wrk : pj_wr (k + 1) = k + 1 := pj_wr_id (by omega) (by omega)
  have hcl : fL_behindEnd k v = if v0 47 dd (v0 51 dd k) = 27 then (if v 43 0 (v0 51 dd k) - 1 ≤ 0 then some (k + 1, pj_set v 43 0 (v0 51 dd k) (v 43 0 (v0 51 dd k) - 1)) else some (v0 51 dd k + 1, pj_set v 43 0 (v0 51 dd k) (v 43 0 (v0 51 dd k) - 1))) else some (k + 1, v) := by
    unfold fL_behindEnd fL_behindEnd_33
    rw [h.2.1.2.1, if_pos hdd, if_pos (by omega), off 51 k (by omega), off 47 (v0 51 dd k) (by omega), if_neg (by omega), if_neg (by omega), if_pos (by omega), pj_set_at, wrk, pj_wr_id (x := v0 51 dd k + 1) (by omega) (by omega), pj_wr_id (x := v 43 0 (v0 51 dd k) - 1) (by omega) (by omega)]
  have hfl : lf_flb k s A D C L = if A (1030 + 6 * v0 51 dd k) = 25 ∧ 0 < L (v0 51 dd k) then some (.inl (v0 51 dd k + 1, s, A, D, C, q_up L (v0 51 dd k) (L (v0 51 dd k) - 1))) else some (.inl (k + 1, s, A, D, C, L)) := by
    unfold lf_flb
    rw [if_neg (by omega), if_pos c2, ← he.1]
  by_cases c3 : A (1030 + 6 * v0 51 dd k) = 25
  · have w27 := hrk2.2.1.mp c3
    rw [if_pos w27] at hcl
    by_cases c4 : 0 < L (v0 51 dd k)
    · rw [if_pos ⟨c3, c4⟩] at hfl
      rw [if_neg (by omega)] at hcl
      exact ⟨_, _, _, hfl, hcl, (h.mono (by omega)).s43 I (Or.inl (by omega))⟩
    · rw [if_neg (fun x => c4 x.2)] at hfl
      rw [if_pos (by omega)] at hcl
      refine ⟨_, _, _, hfl, hcl, ?_⟩
      have := (h.mono (N' := N + 1) (by omega)).s43 I (j := v0 51 dd k) (z := v 43 0 (v0 51 dd k) - 1) (l := L (v0 51 dd k)) (Or.inr (by omega))
      rw [q_up_self] at this
      exact this
  · have w27 : ¬ v0 47 dd (v0 51 dd k) = 27 := fun x => c3 (hrk2.2.1.mpr x)
    rw [if_neg w27] at hcl
    rw [if_neg (fun x => c3 x.1)] at hfl
    exact ⟨_, _, _, hfl, hcl, h.mono (by omega)⟩
theorem x_life (p : Nat) (hb : 0 ≤ b) (hdd : 0 ≤ dd) {A0 : pj_Q} : ∀ (k s mv N : Int) (A : pj_Q) (D : Int) (C L : pj_Q) (v : pj_W), lf_ok A0 (v0 47 dd) (v0 48 dd) (v0 49 dd) (v0 50 dd) (v0 51 dd) (k, s, A, D, C, L) → lf_P (k, s, A, D, C, L) < p → rx b dd N v0 v A D C L → v0 24 dd 7 = A 9 → 0 ≤ mv → mv + p + 2 ≤ 1000000 → 0 ≤ N → N + p < 2000000000 →
    ∃ (c' : pj_cf) (v' : pj_W), pj_Lp lf_fl (k, s, A, D, C, L) = some c' ∧ fL_liveThrough_47 (s, k, mv, v) = some (c'.2.1, v') ∧ rx b dd (N + p) v0 v' c'.2.2.1 c'.2.2.2.1 c'.2.2.2.2.1 c'.2.2.2.2.2 := by
  induction p with
  | zero =>
    intro k s mv N A D C L v h hp
    have := (lf_P_in h).1
    omega
  | succ p ih =>
    intro k s mv N A D C L v ok hp h h7 hm hm2 hN hN2
    have hk := ok.2.2.2.2.2.2.1
    have hs := ok.2.2.2.2.2.2.2.1
    have h60 := ok.2.2.2.2.2.2.2.2.1
    have I := ok.1
    have hrr := ok.2.2.2.2.2.2.2.2.2
    dsimp only at hk hs h60 I hrr
    have e7 : v 24 dd 7 = A 9 := (h.2.2.2.2.2 24 dd 7 (by unfold pj_in; omega) (by omega) (by decide) (by decide)).trans h7
    have e47 : v 47 dd k = v0 47 dd k := h.2.2.2.2.2 47 dd k (by unfold pj_in; omega) (by omega) (by decide) (by decide)
    have h3 := h.2.1.2.1
    have mvw : pj_wr (mv + 1) = mv + 1 := pj_wr_id (by omega) (by omega)
    have hend : ∀ (j s' mv' : Int) (u : pj_W), u 18 0 3 = dd → u 24 dd 7 = A 9 → A 9 ≤ j → 0 ≤ j → mv' < 1000000 → fL_liveThrough_47 (s', j, mv', u) = some (s', u) := fun j s' mv' u u3 u7 hj hj0 hmv => by
      refine pj_Lp_end ?_
      dsimp only
      unfold fL_liveThrough_47b
      rw [if_neg (by omega), if_neg (by omega), u3, if_pos hdd, if_pos (by omega)]
    by_cases c1 : A 9 ≤ k
    · refine ⟨(k, s, A, D, C, L), v, pj_Lp_end ?_, hend k s mv v h3 e7 c1 hk.1 (by omega), h.mono (by omega)⟩
      show lf_flb k s A D C L = _
      unfold lf_flb
      rw [if_pos c1]
    have hrk := lf_row_k (hrr k hk.1 (by omega))
    by_cases c2 : A (1030 + 6 * k) = 26
    · obtain ⟨k', L', v1, e, eE, r1⟩ := x_end h hdd hN (by omega) ok (by omega) c2
      obtain ⟨h', hP⟩ := lf_step ok e
      obtain ⟨c', v', a1, a2, a3⟩ := ih k' s (mv + 1) (N + 1) A D C L' v1 h' (by omega) r1 h7 (by omega) (by omega) (by omega) (by omega)
      refine ⟨c', v', (pj_Lp_st e).trans a1, ?_, a3.mono (by omega)⟩
      rw [← a2]
      refine pj_Lp_st ?_
      dsimp only
      unfold fL_liveThrough_47b fL_liveThrough_135
      rw [if_neg (by omega), if_neg (by omega), h3, if_pos hdd, e7, if_neg (by omega), if_pos (by omega), e47, if_pos (hrk.1.mp c2), eE, Option.bind_some, mvw]
    have w28 : ¬ v0 47 dd k = 28 := fun x => c2 (hrk.1.mpr x)
    by_cases c3 : s = 300
    · refine ⟨(k, s, A, D, q_up C 4 1, L), pj_set v 42 0 4 1, pj_Lp_end ?_, ?_, (h.c42 I 4 1).mono (by omega)⟩
      · show lf_flb k s A D C L = _
        unfold lf_flb
        rw [if_neg c1, if_neg c2, if_pos c3]
      · have g3 : pj_set v 42 0 4 1 18 0 3 = dd := by rw [pj_sne (by omega)]; exact h3
        have g7 : pj_set v 42 0 4 1 24 dd 7 = A 9 := by rw [pj_sne (by omega)]; exact e7
        rw [← hend (A 9) s (mv + 1) (pj_set v 42 0 4 1) g3 g7 (Int.le_refl _) (by omega) (by omega)]
        refine pj_Lp_st ?_
        dsimp only
        unfold fL_liveThrough_47b fL_liveThrough_135
        rw [if_neg (by omega), if_neg (by omega), g3, h3, if_pos hdd, e7, if_neg (by omega), if_pos (by omega), e47, if_neg w28, if_pos c3, if_pos hdd, g7, mvw]
    have hst := x_step h hb hdd hN ok (by omega) c2
    by_cases c4 : A (1030 + 6 * k) = 27
    · refine ⟨(k, s + 1, A, D, C, L), v, pj_Lp_end ?_, ?_, h.mono (by omega)⟩
      · show lf_flb k s A D C L = _
        unfold lf_flb
        rw [if_neg c1, if_neg c2, if_neg c3, if_pos c4]
      · rw [← hend (A 9) (s + 1) (mv + 1) v h3 e7 (Int.le_refl _) (by omega) (by omega)]
        refine pj_Lp_st ?_
        dsimp only
        unfold fL_liveThrough_47b fL_liveThrough_135
        rw [if_neg (by omega), if_neg (by omega), h3, if_pos hdd, e7, if_neg (by omega), if_pos (by omega), e47, if_neg w28, if_neg c3, hst.1 c4, Option.bind_some, mvw, e7, pj_wr_id (x := s + 1) (by omega) (by omega)]
    have e : lf_flb k s A D C L = some (Sum.inl (lf_zk k A, s + 1, (lf_zd k A D C).1, (lf_zd k A D C).2.1, (lf_zd k A D C).2.2, lf_zL k A L)) := by
      unfold lf_flb
      rw [if_neg c1, if_neg c2, if_neg c3, if_neg c4]
    obtain ⟨h', hP⟩ := lf_step ok e
    obtain ⟨v1, eS, r1⟩ := hst.2 c4
    have e9 : (lf_zd k A D C).1 9 = A 9 := (lf_deed_ok I ok.2.1 ok.2.2.2.1 ok.2.2.2.2.1 _ _ _).2.2.1 9 (by omega)
    obtain ⟨c', v', a1, a2, a3⟩ := ih _ (s + 1) (mv + 1) N _ _ _ _ v1 h' (by omega) r1 (by rw [e9]; exact h7) (by omega) (by omega) hN (by omega)
    refine ⟨c', v', (pj_Lp_st e).trans a1, ?_, a3.mono (by omega)⟩
    rw [← a2]
    refine pj_Lp_st ?_
    dsimp only
    unfold fL_liveThrough_47b fL_liveThrough_135
    rw [if_neg (by omega), if_neg (by omega), h3, if_pos hdd, e7, if_neg (by omega), if_pos (by omega), e47, if_neg w28, if_neg c3, eS, Option.bind_some, mvw, pj_wr_id (x := s + 1) (by omega) (by omega)]
end
