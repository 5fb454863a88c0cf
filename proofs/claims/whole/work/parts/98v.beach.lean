/-! A BEACH FROM A TEXT: its head -/
theorem m_plain {v : pj_W} : ∃ v', fM_plain 5600 v = some v' ∧ (∀ x, 0 ≤ x → x < 1400 → v' 60 0 (5600 + x) = if x = 5 then 1 else if x = 9 then -1 else 0) ∧ ∀ k i s, ¬ (k = 60 ∧ i = 0 ∧ 5600 ≤ s ∧ s < 7000) → v' k i s = v k i s := by
  refine ⟨pj_set (pj_set (pj_zr v 60 0 5600 1400) 60 0 5605 1) 60 0 5609 (-1), ?_, fun x h0 h1 => ?_, fun k i s h => ?_⟩
  · have e0 : fM_plain 5600 v = pj_Lp (fun s : (Int × pj_W) => fM_plain_2b 5600 s.1 s.2) (((0 : Nat) : Int), pj_zr v 60 0 5600 ((0 : Nat) : Int)) := by
      unfold fM_plain fM_plain_2
      rw [show ((0 : Nat) : Int) = 0 from rfl, pj_zr_0]
    rw [e0]
    refine pj_Lp_fo (body := fun s : (Int × pj_W) => fM_plain_2b 5600 s.1 s.2) (fun i : Nat => ((i : Int), pj_zr v 60 0 5600 (i : Int))) 1400 (fun i hi => ?_) ?_
    · show fM_plain_2b 5600 (i : Int) (pj_zr v 60 0 5600 (i : Int)) = _
      unfold fM_plain_2b
      rw [if_neg (by omega), pj_wr_id (x := 5600 + (i : Int)) (by omega) (by omega), if_pos (by omega), pj_wr_id (by omega) (by omega), pj_zr_st v 60 0 5600 (by omega)]
      rfl
    · show fM_plain_2b 5600 ((1400 : Nat) : Int) (pj_zr v 60 0 5600 ((1400 : Nat) : Int)) = _
      unfold fM_plain_2b
      rw [if_pos (by decide), pj_wr_id (x := 5600 + 5) (by decide) (by decide), pj_wr_id (x := 5600 + 9) (by decide) (by decide), if_pos (by decide), if_pos (by decide)]
      rfl
  · by_cases c9 : x = 9
    · subst c9
      rw [if_neg (by decide), if_pos rfl]
      exact pj_set_at
    rw [pj_sne (by omega), if_neg c9]
    by_cases c5 : x = 5
    · subst c5
      rw [if_pos rfl]
      exact pj_set_at
    rw [pj_sne (by omega), if_neg c5, pj_zat (by omega) (by omega)]
  · rw [pj_sne (by omega), pj_sne (by omega), pj_zne (by omega)]
section
variable {B : Int → Int} {n : Int} {E : Int → Int} {N b : Int} {u v u' v' : pj_W} {k : Int}
theorem bt_set {z to x : Int} (h : to = 5600 + x) : bt_A (pj_set v 60 0 to z) = q_up (bt_A v) x z := by
  subst h
  funext y
  unfold bt_A q_up
  by_cases c : y = x
  · subst c; rw [pj_set_at, if_pos rfl]
  · rw [pj_sne (by omega), if_neg c]
/-- the plain beach -/
def bt_0 (b : Int) (u v : pj_W) : Prop := (u 19 b 4 = 0 ∧ u 19 b 5 = 1 ∧ u 19 b 6 = 0 ∧ u 19 b 7 = 0 ∧ u 19 b 8 = 0) ∧ (bt_A v 1 = 0 ∧ bt_A v 2 = 0 ∧ bt_A v 4 = 0 ∧ bt_A v 5 = 1 ∧ bt_A v 6 = 0 ∧ bt_A v 7 = 0 ∧ bt_A v 8 = 0 ∧ bt_A v 9 = -1) ∧ (∀ x : Int, 10 ≤ x → x < 64 → bt_A v x = 0) ∧ bt_C b u v
theorem bt_head93 (J : tk_J B n E N u v k) (h : bt_H b u v) : bt_res B n E N b u v k (fBT_takeHead_93 u) (fM_first_78 v) := by
  have hs := bt_semi (b := b) J (fun u' v' hx hv => (h.ex hx hv).toB)
  unfold fBT_takeHead_93 fM_first_78
  rcases hs with ⟨u', v', k', a1, a2, a3⟩ | ⟨u', v', a1, a2, a3⟩
  · exact Or.inl ⟨u', v', k', a1, by rw [a2, Option.bind_some, if_pos (Or.inr rfl)], a3⟩
  · exact Or.inr ⟨u', v', a1, by rw [a2, Option.bind_some, if_pos (Or.inl rfl)], a3⟩
theorem bt_res.go {fx fm : Option (Int × pj_W)} {u1 v1 : pj_W} {k1 : Int} (h : bt_res B n E N b u1 v1 k1 fx fm) (hk : k ≤ k1) (hx : bt_fx b u u1) (hv : bt_fv v v1) : bt_res B n E N b u v k fx fm := by
  rcases h with ⟨u', v', k', a1, a2, a3, a4, a5, a6, a7⟩ | ⟨u', v', a1, a2, a3, a6, a7⟩
  · exact Or.inl ⟨u', v', k', a1, a2, by omega, a4, a5, hx.tr a6, hv.tr a7⟩
  · exact Or.inr ⟨u', v', a1, a2, a3, hx.tr a6, hv.tr a7⟩
theorem bt_fx.set {s z : Int} : bt_fx b u (pj_set u 19 b s z) := fun k i x _ _ a => pj_sne (by unfold pj_in at a; omega)
theorem tk_vf.s {to z : Int} (h : tk_vf (pj_set v 60 0 to z) v') (h5 : 5600 ≤ to) : bt_fv v v' := (bt_fv.set h5).tr h.b
theorem bt_headM (J : tk_J B n E N u v k) (hb : 0 ≤ b) (h13 : u 13 0 1 = b) (h : bt_H b u v) (h4 : bt_A v 4 = 0) : bt_res B n E N b u v k ((fR_wordHere u).bind fun p10 => (if p10 = 2 then ((fR_takeNumberBehind 2 0 60 u).bind fun p13 => (if p13.1 = (-1) then (some ((0, p13.2))) else (if 0 ≤ (p13.2 13 0 1) then (fBT_takeHead_93 (pj_set p13.2 19 (p13.2 13 0 1) 4 p13.1)) else none))) else (fBT_takeHead_93 u)))
    ((fM_inWords v).bind fun p13 => (if p13 = 2 then ((fM_ahead v).bind fun p16 => ((fM_number 5604 0 60 p16).bind fun p18 => (if p18.1 = 0 then (some ((0, p18.2))) else (fM_first_78 p18.2)))) else (fM_first_78 v))) := by
  rcases tk_here J with ⟨i, hi, e1, e2, h5, h6⟩ | ⟨e1, e2, h5⟩
  · rw [e1, e2, Option.bind_some, Option.bind_some]
    by_cases c : i = 2
    · subst c
      obtain ⟨u1, v1, a1, a2, J1, x1, y1⟩ := tk_word J h5 h6
      rw [if_pos (show ((2 : Nat) : Int) = 2 from rfl), if_pos (show ((tk_kx 2 : Nat) : Int) = 2 from rfl), a2, Option.bind_some]
      unfold fR_takeNumberBehind
      have a1' : fR_takeWord 2 u = some (1, u1) := a1
      rw [a1', Option.bind_some, if_neg (show ¬ (1 : Int) = 0 by decide)]
      rcases tk_takeNumber J1 (to := 5604) (lo := 0) (hi := 60) (by decide) (by decide) with ⟨z, u2, v2, z1, z2, z3, b1, b2, J2, x2, y2⟩ | ⟨u2, v2, b1, b2, b3, b4, b5⟩
      · have e13 : u2 13 0 1 = b := by rw [x2 13 0 1 (by omega), x1 13 0 1 (by omega)]; exact h13
        rw [b1, b2, Option.bind_some, Option.bind_some, Option.bind_some, if_neg (show ¬ z = -1 by omega), if_neg (show ¬ (1 : Int) = 0 by decide)]
        show bt_res B n E N b u v k (if 0 ≤ u2 13 0 1 then fBT_takeHead_93 (pj_set u2 19 (u2 13 0 1) 4 z) else none) (fM_first_78 v2)
        rw [e13, if_pos hb]
        refine bt_res.go (bt_head93 (J2.ex (u' := pj_set u2 19 b 4 z) (v' := v2) (fun k i s hk => pj_sne (by omega)) (fun _ _ _ _ => rfl)) ?_) (by omega) ((x1.tr x2).b.tr bt_fx.set) (y1.b.tr (y2.s (by decide)))
        have hA := h.ex x1 y1
        have eA : bt_A v2 = q_up (bt_A v1) 4 z := (bt_A.ex y2).trans (bt_set rfl)
        obtain ⟨⟨g1, g2, g3, g4, g5, g6, g7, g8, g9⟩, ⟨g10, g11, g12, g13⟩, g14, gZ, g15, ⟨g16, g17⟩, g18⟩ := hA
        have ux : ∀ s, u2 19 b s = u1 19 b s := fun s => x2 19 b s (by omega)
        unfold bt_H bt_C
        rw [eA, pj_sne (by omega), pj_sne (by omega), pj_set_at, pj_sne (by omega), pj_sne (by omega), pj_sne (by omega), pj_sne (by omega), pj_sne (by omega), pj_sne (by omega), ux, ux, ux, ux, ux, ux, x2 13 0 1 (by omega), x2 13 0 2 (by omega), y2 26 0 20 (by omega), y2 26 0 21 (by omega), pj_sne (by omega), pj_sne (by omega)]
        exact ⟨⟨g1, g2, g3, g4, g5, g6, rfl, z1, z2⟩, ⟨g10, g11, g12, g13⟩, g14, fun x q0 q1 => (if_neg (by omega)).trans (gZ x q0 q1), g15, ⟨g16, g17⟩, g18⟩
      · rw [b1, b2, Option.bind_some, Option.bind_some, Option.bind_some, if_pos rfl, if_pos rfl]
        exact Or.inr ⟨u2, v2, rfl, rfl, b3, (x1.tr b4).b, (y1.tr b5).b⟩
    · have ck : ¬ (tk_kx i = 2) := fun e => c (congrArg Fin.val (tk_kx_i ⟨i, hi⟩ ⟨2, by decide⟩ e))
      rw [if_neg (by omega), if_neg (by omega)]
      exact bt_head93 J h
  · rw [e1, e2, Option.bind_some, Option.bind_some, if_neg (show ¬ (-1 : Int) = 2 by decide), if_neg (show ¬ (-1 : Int) = 2 by decide)]
    exact bt_head93 J h
theorem bt_head (J : tk_J B n E N u v k) (hb : 0 ≤ b) (Z : bt_0 b u v) : bt_res B n E N b u v k (fBT_takeHead u) (fM_first v) := by
  have h13 : u 13 0 1 = b := Z.2.2.2.1
  unfold fBT_takeHead fM_first
  rcases tk_behind J (i := 0) (by decide) (x := 0) (y := 0) rfl rfl (to := 5600) (lo := 2) (hi := 40) (by decide) (by decide) with ⟨z1, u1, w1, v1, l1, h1, p1, a1, a2, a3, a4, J1, x1, y1⟩ | ⟨u1, v1, a1, a2, a3, x1, y1⟩
  · rw [a1, Option.bind_some, if_neg (show ¬ z1 = -1 by omega), a2, Option.bind_some, if_neg (show ¬ (1 : Int) = 0 by decide), a4, Option.bind_some, if_neg (show ¬ (1 : Int) = 0 by decide)]
    rcases tk_behind J1 (i := 1) (by decide) (x := 1) (y := 1) rfl rfl (to := 5603) (lo := 1) (hi := 240) (by decide) (by decide) with ⟨z2, u2, w2, v2, l2, h2, p2, b1, b2, b3, b4, J2, x2, y2⟩ | ⟨u2, v2, b1, b2, b3, x2, y2⟩
    · have e13 : u2 13 0 1 = b := by rw [x2 13 0 1 (by omega), x1 13 0 1 (by omega)]; exact h13
      have e13' : ∀ i z, pj_set u2 19 i 2 z 13 0 1 = b := fun i z => (pj_sne (by omega)).trans e13
      rw [b1, Option.bind_some, if_neg (show ¬ z2 = -1 by omega), b2, Option.bind_some, Option.bind_some, if_neg (show ¬ (1 : Int) = 0 by decide), b4, Option.bind_some, if_neg (show ¬ (1 : Int) = 0 by decide), if_pos (show 0 ≤ (z2, u2).2 13 0 1 by show 0 ≤ u2 13 0 1; rw [e13]; exact hb), if_pos (show 0 ≤ pj_set (z2, u2).2 19 ((z2, u2).2 13 0 1) 2 (z1, u1).1 13 0 1 by show 0 ≤ pj_set u2 19 (u2 13 0 1) 2 z1 13 0 1; rw [e13']; exact hb)]
      have eA : bt_A v2 = q_up (q_up (bt_A v) 0 z1) 3 z2 := by
        rw [bt_A.ex y2, bt_set (to := 5603) (x := 3) rfl, bt_A.ex y1, bt_set (to := 5600) (x := 0) rfl]
      have eX : pj_set (pj_set u2 19 (u2 13 0 1) 2 z1) 19 (pj_set u2 19 (u2 13 0 1) 2 z1 13 0 1) 3 z2 = pj_set (pj_set u2 19 b 2 z1) 19 b 3 z2 := by rw [e13', e13]
      have hH : bt_H b (pj_set (pj_set u2 19 b 2 z1) 19 b 3 z2) v2 := by
        obtain ⟨⟨g1, g2, g3, g4, g5⟩, ⟨g6, g7, g8, g9, g10, g11, g12, g13⟩, gZ, g14, ⟨g15, g16⟩, g17⟩ := Z
        have ux : ∀ s, u2 19 b s = u 19 b s := fun s => (x2 19 b s (by omega)).trans (x1 19 b s (by omega))
        unfold bt_H bt_C
        rw [eA, pj_sne (by omega), pj_set_at, pj_set_at, pj_sne (by omega), pj_sne (by omega), pj_sne (by omega), pj_sne (by omega), pj_sne (by omega), pj_sne (by omega), pj_sne (by omega), pj_sne (by omega), pj_sne (by omega), pj_sne (by omega), ux, ux, ux, ux, ux]
        have q0 : q_up (q_up (bt_A v) 0 z1) 3 z2 0 = z1 := rfl
        have q3 : q_up (q_up (bt_A v) 0 z1) 3 z2 3 = z2 := rfl
        have qx : ∀ x, x ≠ 0 → x ≠ 3 → q_up (q_up (bt_A v) 0 z1) 3 z2 x = bt_A v x := fun x h1 h2 => by
          unfold q_up
          rw [if_neg h2, if_neg h1]
        rw [q0, q3, qx 4 (by decide) (by decide), qx 1 (by decide) (by decide), qx 2 (by decide) (by decide), qx 5 (by decide) (by decide), qx 6 (by decide) (by decide), qx 7 (by decide) (by decide), qx 8 (by decide) (by decide), qx 9 (by decide) (by decide)]
        have k20 : v2 26 0 20 = v 26 0 20 := by rw [y2 26 0 20 (by omega), pj_sne (by omega), y1 26 0 20 (by omega), pj_sne (by omega)]
        have k21 : v2 26 0 21 = v 26 0 21 := by rw [y2 26 0 21 (by omega), pj_sne (by omega), y1 26 0 21 (by omega), pj_sne (by omega)]
        have k13 : pj_set (pj_set u2 19 b 2 z1) 19 b 3 z2 13 0 2 = u 13 0 2 := by rw [pj_sne (by omega), pj_sne (by omega), x2 13 0 2 (by omega), x1 13 0 2 (by omega)]
        rw [k20, k21]
        rw [k13]
        exact ⟨⟨rfl, l1, h1, rfl, l2, h2, by omega, by omega, by omega⟩, ⟨g2, g3, g4, g5⟩, ⟨g6, g7, g9, g10, g11, g12, g13⟩, fun x q0 q1 => (qx x (by omega) (by omega)).trans (gZ x q0 q1), by rw [pj_sne (by omega)]; exact e13' _ _, ⟨g15, g16⟩, g17⟩
      have goal := bt_res.go (k := k) (bt_headM (J2.ex (u' := pj_set (pj_set u2 19 b 2 z1) 19 b 3 z2) (v' := v2) (fun k i s hk => by rw [pj_sne (by omega), pj_sne (by omega)]) (fun _ _ _ _ => rfl)) hb (by rw [pj_sne (by omega)]; exact e13' _ _) hH (by rw [eA]; exact Z.2.1.2.2.1)) (by omega) ((x1.tr x2).b.tr (bt_fx.set.tr bt_fx.set)) ((y1.s (by decide)).tr (y2.s (by decide)))
      rw [← eX] at goal
      exact goal
    · rw [b1, Option.bind_some, if_pos rfl]
      rcases b2 with b2 | ⟨w2, b2, _, b4⟩
      · rw [b2, Option.bind_some, if_pos rfl]
        exact Or.inr ⟨u2, v2, rfl, rfl, b3, (x1.tr x2).b, (y1.s (by decide)).tr y2.b⟩
      · rw [b2, Option.bind_some, if_neg (show ¬ (1 : Int) = 0 by decide), b4, Option.bind_some, if_pos rfl]
        exact Or.inr ⟨u2, v2, rfl, rfl, b3, (x1.tr x2).b, (y1.s (by decide)).tr y2.b⟩
  · rw [a1, Option.bind_some, if_pos rfl]
    rcases a2 with a2 | ⟨w2, a2, _, a4⟩
    · rw [a2, Option.bind_some, if_pos rfl]
      exact Or.inr ⟨u1, v1, rfl, rfl, a3, x1.b, y1.b⟩
    · rw [a2, Option.bind_some, if_neg (show ¬ (1 : Int) = 0 by decide), a4, Option.bind_some, if_pos rfl]
      exact Or.inr ⟨u1, v1, rfl, rfl, a3, x1.b, y1.b⟩
end
