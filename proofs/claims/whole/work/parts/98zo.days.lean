/-! DAYS FROM A TEXT: an end; all steps, on both sides -/
theorem dx_end {u : pj_W} {d m p : Int} (h7 : u 24 d 7 = m) (m1 : m < 60) (p0 : 0 ≤ p) (p1 : p < m) : ∃ u', fD_appendEnd d p u = some u' ∧ u' 47 d m = 28 ∧ u' 51 d m = p ∧ u' 51 d p = m ∧ u' 24 d 7 = m + 1 ∧ ∀ k i s, ¬ ((k = 47 ∨ k = 48 ∨ k = 49 ∨ k = 50 ∨ k = 51) ∧ i = d ∧ s = m) → ¬ (k = 51 ∧ i = d ∧ s = p) → ¬ (k = 24 ∧ i = d ∧ s = 7) → u' k i s = u k i s := by
  obtain ⟨u1, a1, a2, a3⟩ := dx_app h7 (by omega) m1 28 0 0 0
  refine ⟨pj_set (pj_set u1 51 d m p) 51 d p m, ?_, ?_, ?_, pj_set_at, ?_, fun k i s z1 z2 z3 => ?_⟩
  · unfold fD_appendEnd
    rw [h7, if_neg (by omega), if_neg (by omega), if_pos p1, a1, Option.bind_some, if_pos (by omega), if_pos (by omega)]
  · rw [pj_sne (by omega), pj_sne (by omega)]; exact a2.1.1
  · rw [pj_sne (by omega), pj_set_at]
  · rw [pj_sne (by omega), pj_sne (by omega)]; exact a2.1.2.2.2.2.2
  · rw [pj_sne (by omega), pj_sne (by omega)]; exact a3 k i s z1 z3
section
variable {B : Int → Int} {n0 : Int} {E : Int → Int} {N : Int} {A : pj_Q} {b d : Int} {u v u' v' : pj_W} {k k' : Int} {fx fm : Option (Int × pj_W)}
theorem dt_endg (J : tk_J B n0 E N u v k) (D : dt_B A b d u v) {c e m r : Int} (h5 : u 31 0 k = 5) (h6 : u 33 0 k = (28 : Nat)) (w2 : fM_inWords v = some 26) (hm : v 60 0 5609 = m) (he : v 26 0 23 = e) (hc : v 26 0 24 = c) (e1 : 1 ≤ e) (hr : r = 6630 + 6 * m) :
    dt_res B n0 E N A b d u v k (dt_sg (fDT_takeEnd u)) (fM_dayStep v) := by
  have D' := D
  obtain ⟨⟨nF, ⟨a1, a2, a3, a4⟩, g1, g2, g3, g4, g5, g6⟩, ⟨⟨n1, n2, n3⟩, ⟨n4, n5, n6⟩, n7, n8, n9⟩, K, _⟩ := D
  rw [hm] at n7 n8 n9
  rw [he] at n1 n2 n3 n9
  rw [hc] at n4 n5 n6 n9
  obtain ⟨p, hp⟩ : ∃ p, u 35 0 (e - 1) = p := ⟨_, rfl⟩
  obtain ⟨k1, k2, k3, k4, k5, k6⟩ := K (e - 1) (by omega) (by omega)
  rw [hp] at k1 k2 k3
  rw [hm] at k3
  obtain ⟨v1, q1, q2, q3, q4, q5, q6⟩ := dm_row (y := 26) (op := 0) (s2 := 0) hm n8 (show m < 60 by omega) hr n5 n6 ⟨by decide, by decide⟩
  obtain ⟨u1, v2, t1, t2, J1, x1, y1⟩ := tk_word (J.ex (u' := u) (v' := v1) (fun _ _ _ _ => rfl) (fun k i s hk => q6 k i s (by omega) (by omega))) h5 h6
  have t1' : fR_takeWord 28 u = some (1, u1) := t1
  -- the class
  have hX : ∃ u2, fDT_takeEnd u = some (1, u2) ∧ u2 47 d m = 28 ∧ u2 51 d m = p ∧ u2 51 d p = m ∧ u2 24 d 7 = m + 1 ∧ u2 14 0 2 = e - 1 ∧ ∀ k i s, ¬ ((k = 47 ∨ k = 48 ∨ k = 49 ∨ k = 50 ∨ k = 51) ∧ i = d ∧ s = m) → ¬ (k = 51 ∧ i = d ∧ s = p) → ¬ (k = 24 ∧ i = d ∧ s = 7) → ¬ (k = 14 ∧ i = 0 ∧ s = 2) → u2 k i s = u1 k i s := by
    have c2 : u1 14 0 2 = e := (x1 14 0 2 (by omega)).trans n1
    have z2 : pj_set u1 14 0 2 (e - 1) 14 0 4 = d := by rw [pj_sne (by omega), x1 14 0 4 (by omega)]; exact a2
    have z3 : pj_set u1 14 0 2 (e - 1) 35 0 (e - 1) = p := by rw [pj_sne (by omega), x1 35 0 (e - 1) (by omega)]; exact hp
    obtain ⟨u2, r1, r2, r3, r4, r5, r6⟩ := dx_end (u := pj_set u1 14 0 2 (e - 1)) (d := d) (m := m) (p := p) (by rw [pj_sne (by omega), x1 24 d 7 (by omega)]; exact n7) (by omega) k2 k3
    refine ⟨u2, ?_, r2, r3, r4, r5, ?_, fun k i s y1 y2 y3 y4 => ?_⟩
    · unfold fDT_takeEnd
      rw [n1, if_neg (by omega), if_pos (by omega), t1', Option.bind_some]
      have ew : pj_set (1, u1).2 14 0 2 (pj_wr ((1, u1).2 14 0 2 - 1)) = pj_set u1 14 0 2 (e - 1) := by
        show pj_set u1 14 0 2 (pj_wr (u1 14 0 2 - 1)) = _
        rw [c2, pj_wr_id (x := e - 1) (by omega) (by omega)]
      refine (if_pos ?_).trans ?_
      · show 0 ≤ pj_set u1 14 0 2 (pj_wr (u1 14 0 2 - 1)) 14 0 2 ∧ pj_set u1 14 0 2 (pj_wr (u1 14 0 2 - 1)) 14 0 2 < 3
        rw [pj_set_at, c2, pj_wr_id (x := e - 1) (by omega) (by omega)]
        omega
      refine (if_pos ?_).trans ?_
      · show 0 ≤ pj_set u1 14 0 2 (pj_wr (u1 14 0 2 - 1)) 14 0 4
        rw [c2, pj_wr_id (x := e - 1) (by omega) (by omega), z2]; exact a4
      show (fD_appendEnd (pj_set u1 14 0 2 (pj_wr (u1 14 0 2 - 1)) 14 0 4) (pj_set u1 14 0 2 (pj_wr (u1 14 0 2 - 1)) 35 0 (pj_set u1 14 0 2 (pj_wr (u1 14 0 2 - 1)) 14 0 2)) (pj_set u1 14 0 2 (pj_wr (u1 14 0 2 - 1)))).bind _ = _
      rw [c2, pj_wr_id (x := e - 1) (by omega) (by omega), z2, pj_set_at, z3, r1, Option.bind_some]
    · rw [r6 14 0 2 (by omega) (by omega) (by omega), pj_set_at]
    · rw [r6 k i s y1 y2 y3, pj_sne y4]
  obtain ⟨u2, b1, b2, b3, b4, b5, b6, b7⟩ := hX
  -- the model
  have hM : fM_dayStep v = fM_dayStep_138 26 m r 0 c 0 v := by
    unfold fM_dayStep
    rw [w2, Option.bind_some, hm, pj_wr_id (x := 6 * m) (by omega) (by omega), pj_wr_id (x := 6630 + 6 * m) (by omega) (by omega), if_neg (by decide), if_neg (by decide), ← hr]
    unfold fM_dayStep_42 fM_dayStep_61 fM_dayStep_80 fM_dayStep_102 fM_dayStep_122
    rw [if_neg (by decide), if_neg (by decide), if_neg (by decide), if_pos rfl, he, if_neg (by omega), if_pos rfl, if_pos rfl, if_pos rfl, hc]
  have y2 : ∀ k i s, ¬ (k = 26 ∧ i = 0 ∧ ((12 ≤ s ∧ s ≤ 18) ∨ s = 24)) → ¬ (k = 60 ∧ i = 0 ∧ (s = 5609 ∨ r ≤ s ∧ s ≤ r + 5)) → v2 k i s = v k i s := fun k i s z1 z2 => (y1 k i s (by omega)).trans (q6 k i s (by omega) z2)
  have hV : ∃ v4, fM_dayStep v = fM_dayStep_284 v4 ∧ v4 26 0 23 = e - 1 ∧ v4 60 0 (r + 4) = p ∧ v4 60 0 (6630 + 6 * p + 4) = m ∧ ∀ k i s, ¬ (k = 26 ∧ i = 0 ∧ s = 23) → ¬ (k = 60 ∧ i = 0 ∧ (s = r + 4 ∨ s = 6630 + 6 * p + 4)) → v4 k i s = v2 k i s := by
    have c23 : v2 26 0 23 = e := (y2 26 0 23 (by omega) (by omega)).trans he
    have c67 : v2 67 0 (e - 1) = p := (y2 67 0 _ (by omega) (by omega)).trans k1
    have w67 : ∀ z, pj_set (pj_set v2 26 0 23 (e - 1)) 60 0 (r + 4) z 67 0 (e - 1) = p := fun z => by rw [pj_sne (by omega), pj_sne (by omega)]; exact c67
    have w67' : pj_set v2 26 0 23 (e - 1) 67 0 (e - 1) = p := by rw [pj_sne (by omega)]; exact c67
    have w23 : ∀ z, pj_set (pj_set v2 26 0 23 (e - 1)) 60 0 (r + 4) z 26 0 23 = e - 1 := fun z => by rw [pj_sne (by omega), pj_set_at]
    refine ⟨pj_set (pj_set (pj_set v2 26 0 23 (e - 1)) 60 0 (r + 4) p) 60 0 (6630 + 6 * p + 4) m, ?_, ?_, ?_, pj_set_at, fun k i s z1 z2 => ?_⟩
    · rw [hM, q1]
      have h18 : fM_dayOrder 26 r v2 = some (1, v2) := rfl
      unfold dm_tail
      rw [t2, Option.bind_some, h18, Option.bind_some, if_neg (show ¬ (1 : Int) = 0 by decide), if_pos rfl]
      show fM_dayStep_227 26 m r v2 = _
      unfold fM_dayStep_227
      rw [if_pos rfl, c23, pj_wr_id (x := e - 1) (by omega) (by omega), pj_set_at, if_pos (by omega), pj_wr_id (x := r + 4) (by omega) (by omega), if_pos (by omega), w67', Option.bind_some, w23, if_pos (by omega), w67, pj_wr_id (x := 6 * p) (by omega) (by omega), pj_wr_id (x := 6630 + 6 * p) (by omega) (by omega), pj_wr_id (x := 6630 + 6 * p + 4) (by omega) (by omega), if_pos (by omega)]
    · rw [pj_sne (by omega), w23]
    · rw [pj_sne (by omega), pj_set_at]
    · rw [pj_sne (by omega), pj_sne (by omega), pj_sne (by omega)]
  obtain ⟨v4, p1, p2, p3, p4, p5⟩ := hV
  have x2 : ∀ k i s, ¬ (k = 12 ∧ i = 0 ∧ (s = 6 ∨ s = 7 ∨ s = 11)) → ¬ ((k = 47 ∨ k = 48 ∨ k = 49 ∨ k = 50 ∨ k = 51) ∧ i = d ∧ s = m) → ¬ (k = 51 ∧ i = d ∧ s = p) → ¬ (k = 24 ∧ i = d ∧ s = 7) → ¬ (k = 14 ∧ i = 0 ∧ s = 2) → u2 k i s = u k i s := fun k i s z1 z2 z3 z4 z5 => (b7 k i s z2 z3 z4 z5).trans (x1 k i s z1)
  have fx2 : dt_fx d u u2 := fun k i s z1 z2 z3 z4 => x2 k i s z1 (by omega) (by omega) (by omega) (by omega)
  have y4 : ∀ k i s, ¬ (k = 26 ∧ i = 0 ∧ ((12 ≤ s ∧ s ≤ 18) ∨ s = 23 ∨ s = 24)) → ¬ (k = 60 ∧ i = 0 ∧ (s = 5609 ∨ (r ≤ s ∧ s ≤ r + 5) ∨ s = 6630 + 6 * p + 4)) → v4 k i s = v k i s := fun k i s z1 z2 => (p5 k i s (by omega) (by omega)).trans (y2 k i s (by omega) (by omega))
  have fv4 : dt_fv v v4 := fun k i s z1 z2 z3 => y4 k i s (by omega) (by omega)
  rw [b1, p1]
  refine dt_res.go (dt_fin (J1.ex (fun k i s hk => b7 k i s (by omega) (by omega) (by omega) (by omega)) (fun k i s hk => p5 k i s (by omega) (by omega))) ?_) (show k ≤ k + 1 by omega) fx2 fv4
  refine dt_less (m := m) (e := e) (c := c) (p := p) D' hm he hc e1 hp fx2 fv4 (x2 14 0 3 (by omega) (by omega) (by omega) (by omega) (by omega)) (x2 14 0 4 (by omega) (by omega) (by omega) (by omega) (by omega)) ⟨b6, p2⟩ ⟨?_, ?_⟩ ⟨b5, ?_⟩ (fun j => ⟨?_, ?_⟩) (fun kk j hk j0 j1 => ?_) (fun j j0 j1 j2 => ?_) b4 b3 b2 (fun s s0 s1 s2 => ?_) p4 ⟨?_, ?_⟩
  · rw [x2 24 d 6 (by omega) (by omega) (by omega) (by omega) (by omega)]; exact n4
  · rw [p5 26 0 24 (by omega) (by omega), y1 26 0 24 (by omega), q5]; omega
  · rw [p5 60 0 5609 (by omega) (by omega), y1 60 0 5609 (by omega)]; exact q4
  · exact x2 35 0 j (by omega) (by omega) (by omega) (by omega) (by omega)
  · exact y4 67 0 j (by omega) (by omega)
  · exact x2 kk d j (by omega) (by omega) (by omega) (by omega) (by omega)
  · exact x2 51 d j (by omega) (by omega) (by omega) (by omega) (by omega)
  · exact y4 60 0 s (by omega) (by omega)
  · rw [← hr, p5 60 0 r (by omega) (by omega), y1 60 0 r (by omega)]; exact q2
  · rw [← hr]; exact p3
/-- a step -/
theorem dt_step (J : tk_J B n0 E N u v k) (D : dt_B A b d u v) : dt_res B n0 E N A b d u v k (dt_cs u) (fM_dayStep v) := by
  obtain ⟨m, hm⟩ : ∃ m, v 60 0 5609 = m := ⟨_, rfl⟩
  obtain ⟨e, he⟩ : ∃ e, v 26 0 23 = e := ⟨_, rfl⟩
  obtain ⟨c, hc⟩ : ∃ c, v 26 0 24 = c := ⟨_, rfl⟩
  have D' := D
  obtain ⟨⟨nF, ⟨a1, a2, a3, a4⟩, _⟩, ⟨⟨n1, n2, n3⟩, ⟨n4, n5, n6⟩, n7, n8, n9⟩, _, _⟩ := D
  rw [hm] at n7 n8 n9
  rw [he] at n1 n2 n3 n9
  rw [hc] at n4 n5 n6 n9
  -- the class fails at a beginning
  have xf : ∀ (x i : Int), fR_wordHere u = some i → i ≠ 28 → fDT_beginStep u = ((fR_fail x u).bind fun p5 => (some (((-1), p5.2)))) → ∀ u', fR_fail x u = some (0, u') → dt_cs u = some (0, u') := fun x i hw hi hb u' hu => by
    unfold dt_cs
    rw [hw, Option.bind_some, if_neg hi, hb, hu, Option.bind_some, Option.bind_some]
    show dt_sg (fDT_takeStep (-1) u') = _
    rw [dx_tn, dt_sg0]
  have m74 : ∀ v', fM_fails 2 v = some (0, v') → fM_dayStep_74 v = some (0, v') := fun v' hv => by
    unfold fM_dayStep_74
    exact dw_0 hv
  have mbad : ∀ y, fM_inWords v = some y → ¬ (y = 1 ∨ (18 ≤ y ∧ y ≤ 27)) → fM_dayStep v = fM_dayStep_74 v := fun y hw hy => by
    unfold fM_dayStep
    rw [hw, Option.bind_some, if_neg (by omega), if_neg (by omega)]
    unfold fM_dayStep_42
    rw [if_neg (by omega)]
    by_cases c18 : y < 18
    · rw [if_pos c18]
    · rw [if_neg c18, if_pos (by omega)]
  rcases tk_here J with ⟨i, hi, w1, w2, h5, h6⟩ | ⟨w1, w2, h5⟩
  · by_cases c28 : i = 28
    · subst c28
      have hcs : dt_cs u = dt_sg (fDT_takeEnd u) := by
        unfold dt_cs
        rw [w1, Option.bind_some, if_pos (show ((28 : Nat) : Int) = 28 from rfl)]
      rw [hcs]
      by_cases c0 : e = 0
      · refine dt_badn J (x := 2) (by decide) (fun u' hu => ?_) (fun v' hv => ?_)
        · unfold fDT_takeEnd fDT_takeEnd_15
          rw [n1, if_pos (by omega), dw_0 hu, dt_sg0]
        · unfold fM_dayStep
          rw [w2, Option.bind_some, if_neg (show ¬ ((tk_kx 28 : Nat) : Int) = 24 by decide), if_neg (show ¬ ((tk_kx 28 : Nat) : Int) = 25 by decide)]
          unfold fM_dayStep_42 fM_dayStep_61
          rw [if_neg (show ¬ ((tk_kx 28 : Nat) : Int) = 1 by decide), if_neg (show ¬ ((tk_kx 28 : Nat) : Int) < 18 by decide), if_neg (show ¬ (27 : Int) < ((tk_kx 28 : Nat) : Int) by decide), if_pos (show ((tk_kx 28 : Nat) : Int) = 26 from rfl), he, if_pos c0]
          exact m74 v' hv
      · exact dt_endg J D' h5 h6 w2 hm he hc (by omega) rfl
    have hcs : dt_cs u = dt_sg ((fDT_beginStep u).bind fun p12 => fDT_takeStep p12.1 p12.2) := by
      unfold dt_cs
      rw [w1, Option.bind_some, if_neg (by omega)]
    have kx : ∀ j : Nat, j < 30 → i ≠ j → tk_kx i ≠ tk_kx j := fun j hj hne h => hne (congrArg Fin.val (tk_kx_i ⟨i, hi⟩ ⟨j, hj⟩ h))
    by_cases ca : i = 1 ∨ (18 ≤ i ∧ i ≤ 24) ∨ i = 27 ∨ i = 29
    · obtain ⟨op, hop⟩ : ∃ op : Int, (i = 24 ∨ i = 27) ∧ op = 1 ∨ ¬ (i = 24 ∨ i = 27) ∧ op = 0 := by
        by_cases h : i = 24 ∨ i = 27
        · exact ⟨1, Or.inl ⟨h, rfl⟩⟩
        · exact ⟨0, Or.inr ⟨h, rfl⟩⟩
      have hy : (((tk_kx i : Nat) : Int) = 1 ∨ (18 ≤ ((tk_kx i : Nat) : Int) ∧ ((tk_kx i : Nat) : Int) ≤ 25) ∨ ((tk_kx i : Nat) : Int) = 27) ∧ ((((tk_kx i : Nat) : Int) = 24 ∨ ((tk_kx i : Nat) : Int) = 25) ∧ op = 1 ∨ ¬ (((tk_kx i : Nat) : Int) = 24 ∨ ((tk_kx i : Nat) : Int) = 25) ∧ op = 0) := by
        have : i = 1 ∨ i = 18 ∨ i = 19 ∨ i = 20 ∨ i = 21 ∨ i = 22 ∨ i = 23 ∨ i = 24 ∨ i = 27 ∨ i = 29 := by omega
        rcases this with h | h | h | h | h | h | h | h | h | h <;> subst h <;> refine ⟨by decide, ?_⟩ <;> rcases hop with ⟨h1, h2⟩ | ⟨h1, h2⟩
        all_goals first | (exact absurd h1 (by decide)) | (exact Or.inl ⟨by decide, h2⟩) | (exact Or.inr ⟨by decide, h2⟩)
      have h48 := dx_48 (s0 := op) w1 (by rcases hop with ⟨h1, h2⟩ | ⟨h1, h2⟩ <;> omega)
      rw [hcs, dm_step (m := m) w2 hy.1 hy.2 hm n8 (by omega) rfl, he, hc]
      by_cases c30 : c = 30
      · rw [if_pos c30]
        refine dt_badn J (x := 6) (by decide) (fun u' hu => ?_) (fun v' hv => dw_0 hv)
        rw [← hcs]
        refine xf 6 i w1 (by omega) ?_ u' hu
        rw [h48]
        unfold fDT_beginStep_48
        rw [a2, if_pos a4, n4, if_neg (by omega)]
      rw [if_neg c30]
      by_cases c7 : op = 1 ∧ e = 3
      · rw [if_pos c7]
        refine dt_badn J (x := 7) (by decide) (fun u' hu => ?_) (fun v' hv => dw_0 hv)
        rw [← hcs]
        refine xf 7 i w1 (by omega) ?_ u' hu
        rw [h48]
        unfold fDT_beginStep_48
        rw [a2, if_pos a4, n4, if_pos (by omega), if_neg (by omega), n1, if_neg (by omega)]
      rw [if_neg c7]
      exact dt_good J D' ca w1 h5 h6 hm he hc (by omega) hop (fun h => by omega) rfl
    · have k28 := kx 28 (by decide) c28
      have hy : ¬ (tk_kx i = 1 ∨ (18 ≤ tk_kx i ∧ tk_kx i ≤ 27)) := by
        have q := kx 1 (by decide) (by omega)
        have q2 := kx 18 (by decide) (by omega)
        have q3 := kx 19 (by decide) (by omega)
        have q4 := kx 20 (by decide) (by omega)
        have q5 := kx 21 (by decide) (by omega)
        have q6 := kx 22 (by decide) (by omega)
        have q7 := kx 23 (by decide) (by omega)
        have q8 := kx 24 (by decide) (by omega)
        have q9 := kx 27 (by decide) (by omega)
        have r1 := kx 29 (by decide) (by omega)
        rw [show tk_kx 1 = 1 from rfl] at q
        rw [show tk_kx 18 = 18 from rfl] at q2
        rw [show tk_kx 19 = 19 from rfl] at q3
        rw [show tk_kx 20 = 20 from rfl] at q4
        rw [show tk_kx 21 = 21 from rfl] at q5
        rw [show tk_kx 22 = 22 from rfl] at q6
        rw [show tk_kx 23 = 23 from rfl] at q7
        rw [show tk_kx 24 = 24 from rfl] at q8
        rw [show tk_kx 27 = 25 from rfl] at q9
        rw [show tk_kx 28 = 26 from rfl] at k28
        rw [show tk_kx 29 = 27 from rfl] at r1
        omega
      refine dt_badn J (x := 2) (by decide) (fun u' hu => xf 2 i w1 (by omega) (dx_bad2 w1 (by omega)) u' hu) (fun v' hv => ?_)
      rw [mbad _ w2 (by omega)]
      exact m74 v' hv
  · refine dt_badn J (x := 2) (by decide) (fun u' hu => xf 2 (-1) w1 (by decide) (dx_bad2 w1 (by decide)) u' hu) (fun v' hv => ?_)
    rw [mbad _ w2 (by decide)]
    exact m74 v' hv
end
