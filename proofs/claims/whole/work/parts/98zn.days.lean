/-! DAYS FROM A TEXT: step by step, on both sides -/
theorem dx_48 {u : pj_W} {i s0 : Int} (hw : fR_wordHere u = some i) (hi : (i = 24 ∨ i = 27) ∧ s0 = 1 ∨ (i = 1 ∨ (18 ≤ i ∧ i ≤ 23) ∨ i = 29) ∧ s0 = 0) : fDT_beginStep u = fDT_beginStep_48 i s0 u := by
  unfold fDT_beginStep fDT_beginStep_20
  rw [hw, Option.bind_some]
  rcases hi with ⟨hi, hs⟩ | ⟨hi, hs⟩
  · subst hs
    have h25 : fDT_beginStep_25 i 1 u = fDT_beginStep_48 i 1 u := by
      unfold fDT_beginStep_25
      rw [if_neg (by decide)]
    rcases hi with hi | hi
    · rw [if_pos hi, h25]
    · rw [if_neg (by omega), if_pos hi, h25]
  · subst hs
    have hp : fDT_isPlain i u = some 1 := by
      unfold fDT_isPlain fDT_isPlain_12 fDT_isPlain_23
      rcases hi with hi | hi | hi
      · rw [if_pos (by omega), if_pos hi]
      · rw [if_neg (by omega), if_pos hi.2]
      · rw [if_neg (by omega), if_neg (by omega), if_neg (by omega), if_pos hi]
    rw [if_neg (by omega), if_neg (by omega)]
    unfold fDT_beginStep_25
    rw [if_pos rfl, hp, Option.bind_some, if_neg (by decide)]
theorem dx_bad2 {u : pj_W} {i : Int} (hw : fR_wordHere u = some i) (hi : ¬ (i = 24 ∨ i = 27 ∨ i = 1 ∨ (18 ≤ i ∧ i ≤ 23) ∨ i = 29)) : fDT_beginStep u = ((fR_fail 2 u).bind fun p5 => (some (((-1), p5.2)))) := by
  have hp : fDT_isPlain i u = some 0 := by
    unfold fDT_isPlain fDT_isPlain_12 fDT_isPlain_23
    by_cases c : i < 18
    · rw [if_pos c, if_neg (by omega), if_neg (by omega)]
    · rw [if_neg c, if_neg (by omega), if_neg (by omega), if_neg (by omega)]
  unfold fDT_beginStep
  rw [hw, Option.bind_some, if_neg (by omega), if_neg (by omega)]
  unfold fDT_beginStep_25
  rw [if_pos rfl, hp, Option.bind_some, if_pos rfl]
noncomputable def dt_sg (t : Option (Int × pj_W)) : Option (Int × pj_W) := t.bind fun p => if p.1 = 0 then some (0, p.2) else (fR_takeSign 59 p.2).bind fun q => some (if q.1 = 0 then 0 else 1, q.2)
noncomputable def dt_cs (u : pj_W) : Option (Int × pj_W) := (fR_wordHere u).bind fun p6 => dt_sg (if p6 = 28 then (fDT_takeEnd u) else ((fDT_beginStep u).bind fun p12 => (fDT_takeStep p12.1 p12.2)))
theorem dt_sg0 (u : pj_W) : dt_sg (some (0, u)) = some (0, u) := rfl
section
variable {B : Int → Int} {n0 : Int} {E : Int → Int} {N : Int} {A : pj_Q} {b d : Int} {u v u' v' : pj_W} {k k' : Int} {fx fm : Option (Int × pj_W)}
def dt_res (B : Int → Int) (n0 : Int) (E : Int → Int) (N : Int) (A : pj_Q) (b d : Int) (u v : pj_W) (k : Int) (fx fm : Option (Int × pj_W)) : Prop :=
  (∃ u' v' k', fx = some (1, u') ∧ fm = some (1, v') ∧ k < k' ∧ tk_J B n0 E N u' v' k' ∧ dt_B A b d u' v' ∧ dt_fx d u u' ∧ dt_fv v v') ∨
  (∃ u' v', fx = some (0, u') ∧ fm = some (0, v') ∧ tk_F u' v' ∧ dt_fx d u u' ∧ dt_fv v v')
theorem dt_res.go {u1 v1 : pj_W} {k1 : Int} (h : dt_res B n0 E N A b d u1 v1 k1 fx fm) (hk : k ≤ k1) (hx : dt_fx d u u1) (hv : dt_fv v v1) : dt_res B n0 E N A b d u v k fx fm := by
  rcases h with ⟨u', v', k', a1, a2, a3, a4, a5, a6, a7⟩ | ⟨u', v', a1, a2, a3, a6, a7⟩
  · exact Or.inl ⟨u', v', k', a1, a2, by omega, a4, a5, hx.tr a6, hv.tr a7⟩
  · exact Or.inr ⟨u', v', a1, a2, a3, hx.tr a6, hv.tr a7⟩
theorem dt_fin (J : tk_J B n0 E N u v k) (D : dt_B A b d u v) : dt_res B n0 E N A b d u v k (dt_sg (some (1, u))) (fM_dayStep_284 v) := by
  have e : dt_sg (some (1, u)) = (fR_takeSign 59 u).bind fun q => some (if q.1 = 0 then 0 else 1, q.2) := rfl
  rw [e]
  unfold fM_dayStep_284
  rcases tk_takeSign J 59 with ⟨u', v', a1, a2, J', x, y⟩ | ⟨u', v', a1, a2, F, x, y⟩
  · exact Or.inl ⟨u', v', k + 1, by rw [a1, Option.bind_some, if_neg (show ¬ (1 : Int) = 0 by decide)], dw_1 a2, by omega, J', D.ex x y, x.dt, y.dt⟩
  · exact Or.inr ⟨u', v', by rw [a1, Option.bind_some, if_pos rfl], dw_0 a2, F, x.dt, y.dt⟩
theorem dt_badn (J : tk_J B n0 E N u v k) {x : Int} (hx : 1 ≤ x) (hc : ∀ u', fR_fail x u = some (0, u') → fx = some (0, u')) (hm : ∀ v', fM_fails x v = some (0, v') → fm = some (0, v')) : dt_res B n0 E N A b d u v k fx fm := by
  obtain ⟨u', v', a1, a2, F, x', y'⟩ := tk_fail J hx
  exact Or.inr ⟨u', v', hc u' a1, hm v' a2, F, x'.dt, y'.dt⟩
/-- a step that may begin -/
theorem dt_good (J : tk_J B n0 E N u v k) (D : dt_B A b d u v) {i : Nat} {c e m op r : Int} (hi : i = 1 ∨ (18 ≤ i ∧ i ≤ 24) ∨ i = 27 ∨ i = 29) (w1 : fR_wordHere u = some (i : Int)) (h5 : u 31 0 k = 5) (h6 : u 33 0 k = i) (hm : v 60 0 5609 = m) (he : v 26 0 23 = e) (hc : v 26 0 24 = c) (c30 : c < 30) (hop : (i = 24 ∨ i = 27) ∧ op = 1 ∨ ¬ (i = 24 ∨ i = 27) ∧ op = 0) (e3 : op = 1 → e < 3) (hr : r = 6630 + 6 * m) :
    dt_res B n0 E N A b d u v k (dt_sg ((fDT_beginStep u).bind fun p12 => fDT_takeStep p12.1 p12.2)) (fM_dayStep_138 ((tk_kx i : Nat) : Int) m r op c 1 v) := by
  have D' := D
  obtain ⟨⟨nF, ⟨a1, a2, a3, a4⟩, g1, g2, g3, g4, g5, g6⟩, ⟨⟨n1, n2, n3⟩, ⟨n4, n5, n6⟩, n7, n8, n9⟩, _, _⟩ := D
  rw [hm] at n7 n8 n9
  rw [he] at n1 n2 n3 n9
  rw [hc] at n4 n5 n6 n9
  obtain ⟨v1, q1, q2, q3, q4, q5, q6⟩ := dm_row (y := ((tk_kx i : Nat) : Int)) (op := op) (s2 := 1) hm n8 (show m < 60 by omega) hr n5 n6 ⟨by decide, by decide⟩
  obtain ⟨u1, v2, t1, t2, J1, x1, y1⟩ := tk_word (J.ex (u' := u) (v' := v1) (fun _ _ _ _ => rfl) (fun k i s hk => q6 k i s (by omega) (by omega))) h5 h6
  -- the class's world behind the beginning
  have hB : ∃ u2, fDT_beginStep u = fDT_beginStep_148 i u2 ∧ u2 24 d 6 = c + 1 ∧ u2 14 0 2 = e + op ∧ (op = 1 → u2 35 0 e = m) ∧ ∀ k i s, ¬ (k = 24 ∧ i = d ∧ s = 6) → ¬ (k = 14 ∧ i = 0 ∧ s = 2) → ¬ (k = 35 ∧ i = 0 ∧ s = e) → u2 k i s = u1 k i s := by
    rcases hop with ⟨ho, h1⟩ | ⟨ho, h1⟩
    · refine ⟨_, dx_begin1 w1 (by omega) a2 a4 n4 n5 c30 n1 n2 (e3 h1) n7 t1 x1, ?_, ?_, fun _ => ?_, fun k i s z1 z2 z3 => ?_⟩
      · rw [pj_sne (by omega), pj_sne (by omega), pj_set_at]
      · rw [pj_set_at, h1]
      · rw [pj_sne (by omega), pj_set_at]
      · rw [pj_sne z2, pj_sne z3, pj_sne z1]
    · refine ⟨_, dx_begin0 w1 (by omega) a2 a4 n4 n5 c30 t1 x1, ?_, ?_, fun h => by omega, fun k i s z1 z2 z3 => ?_⟩
      · rw [pj_set_at]
      · rw [pj_sne (by omega), x1 14 0 2 (by omega), n1, h1, Int.add_zero]
      · rw [pj_sne z1]
  obtain ⟨u2, b1, b2, b3, b4, b5⟩ := hB
  have x2 : ∀ k i s, ¬ (k = 12 ∧ i = 0 ∧ (s = 6 ∨ s = 7 ∨ s = 11)) → ¬ (k = 24 ∧ i = d ∧ s = 6) → ¬ (k = 14 ∧ i = 0 ∧ s = 2) → ¬ (k = 35 ∧ i = 0 ∧ s = e) → u2 k i s = u k i s := fun k i s z1 z2 z3 z4 => (b5 k i s z2 z3 z4).trans (x1 k i s z1)
  have y2 : ∀ k i s, ¬ (k = 26 ∧ i = 0 ∧ ((12 ≤ s ∧ s ≤ 18) ∨ s = 24)) → ¬ (k = 60 ∧ i = 0 ∧ (s = 5609 ∨ r ≤ s ∧ s ≤ r + 5)) → v2 k i s = v k i s := fun k i s z1 z2 => (y1 k i s (by omega)).trans (q6 k i s (by omega) z2)
  have fx2 : dt_fx d u u2 := fun k i s z1 z2 z3 z4 => x2 k i s z1 (by omega) (by omega) (by omega)
  have fv2 : dt_fv v v2 := fun k i s z1 z2 z3 => y2 k i s (by omega) (by omega)
  have H2 := D'.1.ex fx2 fv2 (x2 14 0 3 (by omega) (by omega) (by omega) (by omega)) (x2 14 0 4 (by omega) (by omega) (by omega) (by omega))
  have S : dt_S B n0 E N A b d m r u2 v2 (k + 1) := ⟨J1.ex (fun k i s hk => b5 k i s (by omega) (by omega) (by omega)) (fun _ _ _ _ => rfl), H2.1, ⟨H2.2.1.1, H2.2.1.2.1, (x2 24 d 7 (by omega) (by omega) (by omega) (by omega)).trans n7, a3, a4, n8, by omega, hr⟩, H2.2.2⟩
  have hy2 : v2 60 0 r = ((tk_kx i : Nat) : Int) := (y1 60 0 r (by omega)).trans q2
  rw [b1, q1]
  unfold dm_tail
  rw [t2, Option.bind_some]
  rcases do_order S hi hy2 with ⟨x, a, b', c', u3, v3, k3, o1, o2, o3, J3, ap, y3, oQ⟩ | ⟨u3, v3, o1, o2, F3, x3, y3⟩
  · rw [o1, o2, Option.bind_some, if_neg (show ¬ (1 : Int) = 0 by decide)]
    have e23 : v3 26 0 23 = e := by rw [y3 26 0 23 (by omega) (by omega), y2 26 0 23 (by omega) (by omega)]; exact he
    have h227 : ∀ z : pj_W, fM_dayStep_227 ((tk_kx i : Nat) : Int) m r z = fM_dayStep_284 z := fun z => by
      have : tk_kx i ≠ 26 := fun h => by
        have h2 := congrArg Fin.val (tk_kx_i ⟨i, by omega⟩ ⟨28, by decide⟩ h)
        dsimp only at h2
        omega
      unfold fM_dayStep_227
      rw [if_neg (by omega)]
    -- the model's world behind the opening
    have hO : ∃ v4, (if op = 0 then (fM_dayStep_227 ((tk_kx i : Nat) : Int) m r v3) else (if 0 ≤ (v3 26 0 23) ∧ (v3 26 0 23) < 3 then (fM_dayStep_227 ((tk_kx i : Nat) : Int) m r (pj_set (pj_set v3 67 0 (v3 26 0 23) m) 26 0 23 (pj_wr (((pj_set v3 67 0 (v3 26 0 23) m) 26 0 23) + 1)))) else none)) = fM_dayStep_284 v4 ∧ v4 26 0 23 = e + op ∧ (op = 1 → v4 67 0 e = m) ∧ ∀ k i s, ¬ (k = 26 ∧ i = 0 ∧ s = 23) → ¬ (k = 67 ∧ i = 0 ∧ s = e) → v4 k i s = v3 k i s := by
      rcases hop with ⟨ho, h1⟩ | ⟨ho, h1⟩
      · have hz : pj_set v3 67 0 e m 26 0 23 = e := (pj_sne (by omega)).trans e23
        have e3' := e3 h1
        refine ⟨pj_set (pj_set v3 67 0 e m) 26 0 23 (e + 1), ?_, ?_, fun _ => ?_, fun k i s z1 z2 => ?_⟩
        · rw [if_neg (by omega), e23, if_pos ⟨n2, e3'⟩, hz, pj_wr_id (x := e + 1) (by omega) (by omega), h227]
        · rw [pj_set_at, h1]
        · rw [pj_sne (by omega), pj_set_at]
        · rw [pj_sne z1, pj_sne z2]
      · refine ⟨v3, ?_, by rw [e23, h1, Int.add_zero], fun h => by omega, fun _ _ _ _ _ => rfl⟩
        rw [if_pos h1, h227]
    obtain ⟨v4, p1, p2, p3, p4⟩ := hO
    have goal : dt_res B n0 E N A b d u3 v4 k3 (dt_sg (some (1, u3))) (fM_dayStep_284 v4) := by
      refine dt_fin (J3.ex (fun _ _ _ _ => rfl) (fun k i s hk => p4 k i s (by omega) (by omega))) ?_
      have fx3 : dt_fx d u u3 := fx2.tr ap.dt
      have fv4 : dt_fv v v4 := fun k i s z1 z2 z3 => by
        rw [p4 k i s (by omega) (by omega)]
        exact (fv2.tr (y3.dt (by omega))) k i s z1 z2 z3
      refine dt_more (i := i) (op := op) (m := m) (e := e) (c := c) D' hm he hc hop (by omega) (by omega) fx3 fv4 ?_ ?_ ⟨?_, p2⟩ ⟨?_, ?_⟩ ⟨ap.1.2.2.2.2.2, ?_⟩ (fun j j0 j1 => ⟨?_, ?_⟩) (fun h => ⟨?_, p3 h⟩) (fun kk j hk j0 j1 => ?_) (fun s s0 s1 => ?_) ?_
      · rw [ap.2 14 0 3 (by omega) (by omega) (by omega)]; exact x2 14 0 3 (by omega) (by omega) (by omega) (by omega)
      · rw [ap.2 14 0 4 (by omega) (by omega) (by omega)]; exact x2 14 0 4 (by omega) (by omega) (by omega) (by omega)
      · rw [ap.2 14 0 2 (by omega) (by omega) (by omega)]; exact b3
      · rw [ap.2 24 d 6 (by omega) (by omega) (by omega)]; exact b2
      · rw [p4 26 0 24 (by omega) (by omega), y3 26 0 24 (by omega) (by omega), y1 26 0 24 (by omega)]; exact q5
      · rw [p4 60 0 5609 (by omega) (by omega), y3 60 0 5609 (by omega) (by omega), y1 60 0 5609 (by omega)]; exact q4
      · rw [ap.2 35 0 j (by omega) (by omega) (by omega)]; exact x2 35 0 j (by omega) (by omega) (by omega) (by omega)
      · rw [p4 67 0 j (by omega) (by omega), y3 67 0 j (by omega) (by omega)]; exact y2 67 0 j (by omega) (by omega)
      · rw [ap.2 35 0 e (by omega) (by omega) (by omega)]; exact b4 h
      · rw [ap.2 kk d j (by omega) (by omega) (by omega)]; exact x2 kk d j (by omega) (by omega) (by omega) (by omega)
      · rw [p4 60 0 s (by omega) (by omega), y3 60 0 s (by omega) (by omega)]; exact y2 60 0 s (by omega) (by omega)
      · obtain ⟨z1, z2, z3, z4, _, _⟩ := ap.1
        rw [z1, z2, z3, z4, p4 60 0 _ (by omega) (by omega), p4 60 0 _ (by omega) (by omega), p4 60 0 _ (by omega) (by omega), p4 60 0 _ (by omega) (by omega), ← hr]
        exact oQ
    have goal2 : dt_res B n0 E N A b d u v k (dt_sg (some (1, u3))) (fM_dayStep_284 v4) := goal.go (by omega) (fx2.tr ap.dt) (fun k i s z1 z2 z3 => by
      rw [p4 k i s (by omega) (by omega)]
      exact (fv2.tr (y3.dt (by omega))) k i s z1 z2 z3)
    rw [← p1] at goal2
    exact goal2
  · rw [o1, o2, Option.bind_some, if_pos rfl, dt_sg0]
    exact Or.inr ⟨u3, v3, rfl, rfl, F3, fx2.tr x3.dt, fv2.tr (y3.dt (by omega))⟩
end
