/-! A BEACH FROM A TEXT: a finder -/
section
variable {B : Int → Int} {n : Int} {E : Int → Int} {N b : Int} {u v u' v' : pj_W} {k : Int}
theorem tk_atCell (J : tk_J B n E N u v k) {to c : Int} (t0 : 0 ≤ to) (t1 : to < 8400) (hc : v 60 0 5600 = c) (c2 : 2 ≤ c) (c40 : c ≤ 40) :
    (∃ z u2 v2, 0 ≤ z ∧ z < c ∧ fR_takeNumberBehind 4 0 (c - 1) u = some (z, u2) ∧ fM_atCell to v = some (1, v2) ∧ tk_J B n E N u2 v2 (k + 2) ∧ tk_xf u u2 ∧ tk_vf (pj_set v 60 0 to z) v2) ∨
    (∃ u2 v2, fR_takeNumberBehind 4 0 (c - 1) u = some (-1, u2) ∧ fM_atCell to v = some (0, v2) ∧ tk_F u2 v2 ∧ tk_xf u u2 ∧ tk_vf v v2) := by
  have hi1 : ∀ w1, tk_vf v w1 → pj_wr (w1 60 0 5600 - 1) = c - 1 := fun w1 hw => by rw [hw 60 0 5600 (by omega), hc, pj_wr_id (by omega) (by omega)]
  unfold fM_atCell
  rcases tk_behind J (i := 4) (by decide) (x := 4) (y := 7) rfl rfl (to := to) (lo := 0) (hi := c - 1) t0 t1 with ⟨z, u1, w1, v1, l1, h1, p1, a1, a2, a3, a4, J1, x1, y1⟩ | ⟨u1, v1, a1, a2, a3, x1, y1⟩
  · refine Or.inl ⟨z, u1, v1, l1, by omega, a1, ?_, J1, x1, y1⟩
    rw [a2, Option.bind_some, if_neg (show ¬ (1 : Int) = 0 by decide)]
    show ((fM_number to 0 (pj_wr (w1 60 0 5600 - 1)) w1).bind fun p4 => (if p4.1 = 0 then (some (0, p4.2)) else (some (1, p4.2)))) = _
    rw [hi1 w1 a3, a4, Option.bind_some, if_neg (show ¬ (1 : Int) = 0 by decide)]
  · refine Or.inr ⟨u1, v1, a1, ?_, a3, x1, y1⟩
    rcases a2 with a2 | ⟨w1, a2, a5, a4⟩
    · rw [a2, Option.bind_some, if_pos rfl]
    · rw [a2, Option.bind_some, if_neg (show ¬ (1 : Int) = 0 by decide)]
      show ((fM_number to 0 (pj_wr (w1 60 0 5600 - 1)) w1).bind fun p4 => (if p4.1 = 0 then (some (0, p4.2)) else (some (1, p4.2)))) = _
      rw [hi1 w1 a5, a4, Option.bind_some, if_pos rfl]
theorem bt_bad {fx fm : Option (Int × pj_W)} {u1 v1 : pj_W} (hx : fx = some (0, u1)) (hm : fm = some (0, v1)) (F : tk_F u1 v1) (a : bt_fx b u u1) (c : bt_fv v v1) : bt_res B n E N b u v k fx (fm.bind fun p4 => fM_beachPart_74 p4.1 p4.2) := by
  refine Or.inr ⟨u1, v1, hx, ?_, F, a, c⟩
  rw [hm, Option.bind_some]
  unfold fM_beachPart_74
  rw [if_pos rfl]
theorem bt_good {fx fm : Option (Int × pj_W)} {u1 v1 : pj_W} {k1 : Int} (hm : fm = some (1, v1)) (hx : fx = (fR_takeSign 59 u1).bind fun p1 => (if p1.1 = 0 ∨ p1.1 = 1 then (some ((p1.1, p1.2))) else none)) (J : tk_J B n E N u1 v1 k1) (R : bt_B b u1 v1) (hk : k ≤ k1) (a : bt_fx b u u1) (c : bt_fv v v1) : bt_res B n E N b u v k fx (fm.bind fun p4 => fM_beachPart_74 p4.1 p4.2) := by
  have h := bt_semi (b := b) J (fun u' v' h1 h2 => R.ex h1 h2)
  rw [← hx] at h
  refine bt_res.go ?_ hk a c
  rw [hm, Option.bind_some]
  unfold fM_beachPart_74
  rw [if_neg (show ¬ (1 : Int) = 0 by decide)]
  rcases h with ⟨u', v', k', a1, a2, a3⟩ | ⟨u', v', a1, a2, a3⟩
  · exact Or.inl ⟨u', v', k', a1, by rw [a2, Option.bind_some, if_neg (show ¬ (1 : Int) = 0 by decide)], a3⟩
  · exact Or.inr ⟨u', v', a1, by rw [a2, Option.bind_some, if_pos rfl], a3⟩
theorem tk_vf.cong {v v' : pj_W} (h : tk_vf v v') (K : Nat) (i s z : Int) : tk_vf (pj_set v K i s z) (pj_set v' K i s z) := fun k j x hx => by
  by_cases c : k = K ∧ j = i ∧ x = s
  · obtain ⟨c1, c2, c3⟩ := c
    subst c1 c2 c3
    rw [pj_set_at, pj_set_at]
  · rw [pj_sne c, pj_sne c]; exact h k j x hx
theorem tk_vf.bset {to z : Int} (h : tk_vf (pj_set v 61 0 to z) v') (h5 : 56 ≤ to) : bt_fv v v' := (bt_fv.nam h5).tr h.b
theorem bt_finder (J : tk_J B n E N u v k) (R : bt_B b u v) (hb : 0 ≤ b) (h5 : u 31 0 k = 5) (h3 : u 33 0 k = 3) : bt_res B n E N b u v k (fBT_takeFinderPart u) ((fM_aFinder v).bind fun p4 => fM_beachPart_74 p4.1 p4.2) := by
  have R' := R
  obtain ⟨I, RB, nF, X, H, Z, C⟩ := R'
  have I1 := I.1
  have h13 : u 13 0 1 = b := C.1
  obtain ⟨c, hc⟩ : ∃ c, bt_A v 1 = c := ⟨_, rfl⟩
  have hv1 : v 60 0 5601 = c := hc
  have hu7 : u 19 b 7 = c := RB.1.2.2.2.2.2.1.trans hc
  have hrow : pj_wr (5610 + pj_wr (5 * v 60 0 5601)) = 5610 + 5 * c := by
    rw [hv1, pj_wr_id (x := 5 * c) (by omega) (by omega), pj_wr_id (by omega) (by omega)]
  by_cases c6 : c < 6
  · obtain ⟨u1, a1, x1, h⟩ := tk_newOne J (i := 3) h5 h3 hb nF rfl rfl (m := 1) (most := 6) (sort := 0) (c := c) (by decide) (by decide) hv1 (by omega) (by omega) (by decide) (by omega)
    have a1' : fR_takeWord 3 u = some (1, u1) := a1
    have e13 : u1 13 0 1 = b := (x1 13 0 1 (by omega)).trans h13
    rcases h with ⟨L, u2, v2, L1, b1, b2, J2, x2, y2⟩ | ⟨u2, v2, b1, b2, F2, x2, y2⟩
    · rw [show (56 + 0 + c : Int) = 56 + c by omega] at y2
      have e13b : u2 13 0 1 = b := (x2 13 0 1 (by omega)).trans h13
      have e19 : u2 19 b 2 = bt_A v 0 := (x2 19 b 2 (by omega)).trans RB.1.1
      have hcell : v2 60 0 5600 = bt_A v 0 := (y2 60 0 5600 (by omega)).trans (pj_sne (by omega))
      have hL5 := pj_n5_b L.length L rfl L1.2.2
      have hcmp : ¬ pj_cmp (pj_n5 L) (-1) = 0 := fun e => by have := pj_cmp_eq.mp e; omega
      have hrow1 : pj_wr (5610 + 5 * c + 1) = 5610 + 5 * c + 1 := pj_wr_id (by omega) (by omega)
      have hrow2 : pj_wr (5610 + 5 * c + 2) = 5610 + 5 * c + 2 := pj_wr_id (by omega) (by omega)
      rcases tk_atCell J2 (to := 5610 + 5 * c) (by omega) (by omega) hcell (by omega) (by omega) with ⟨z1, u3, v3, l1, l2, d1, d2, J3, x3, y3⟩ | ⟨u3, v3, d1, d2, F3, x3, y3⟩
      · rcases tk_behind J3 (i := 5) (by decide) (x := 5) (y := 8) rfl rfl (to := 5610 + 5 * c + 1) (lo := 1) (hi := 9) (by omega) (by omega) with ⟨z2, u4, w4, v4, l3, l4, l5, e1, e2, e3, e4, J4, x4, y4⟩ | ⟨u4, v4, e1, e2, F4, x4, y4⟩
        · rcases tk_behind J4 (i := 6) (by decide) (x := 6) (y := 9) rfl rfl (to := 5610 + 5 * c + 2) (lo := 0) (hi := 20) (by omega) (by omega) with ⟨z3, u5, w5, v5, l6, l7, l8, g1, g2, g3, g4, J5, x5, y5⟩ | ⟨u5, v5, g1, g2, F5, x5, y5⟩
          · have xx : tk_xf u u5 := ((x2.tr x3).tr x4).tr x5
            have e13e : u5 13 0 1 = b := (xx 13 0 1 (by omega)).trans h13
            have e7e : u5 19 b 7 = c := (xx 19 b 7 (by omega)).trans hu7
            have yy : tk_vf (pj_set (pj_set (pj_set (pj_set v 61 0 (56 + c) (pj_n8 L)) 60 0 (5610 + 5 * c) z1) 60 0 (5610 + 5 * c + 1) z2) 60 0 (5610 + 5 * c + 2) z3) v5 := ((((y2.cong 60 0 (5610 + 5 * c) z1).tr y3).cong 60 0 (5610 + 5 * c + 1) z2).tr y4 |>.cong 60 0 (5610 + 5 * c + 2) z3).tr y5
            have e51 : v5 60 0 5601 = c := by rw [yy 60 0 5601 (by omega), pj_sne (by omega), pj_sne (by omega), pj_sne (by omega), pj_sne (by omega)]; exact hv1
            obtain ⟨u6, q1, q2, q3⟩ := x_addFinder (x1 := pj_n5 L) (x3 := z1) (x4 := z2) (x5 := z3) e7e (by omega) c6
            have fu : ∀ k i s, ¬ (k = 12 ∧ i = 0 ∧ (s = 6 ∨ s = 7 ∨ s = 11)) → ¬ (k = 22 ∧ i = 6 * b + c) → ¬ (k = 19 ∧ i = b ∧ s = 7) → u6 k i s = u k i s := fun k i s t1 t2 t3 => (q3 k i s t2 t3).trans (xx k i s t1)
            have fA : ∀ x, x ≠ 1 → x ≠ 10 + 5 * c → x ≠ 10 + 5 * c + 1 → x ≠ 10 + 5 * c + 2 → bt_A (pj_set v5 60 0 5601 (c + 1)) x = bt_A v x := fun x t1 t2 t3 t4 => by
              unfold bt_A
              rw [pj_sne (by omega), yy 60 0 _ (by omega), pj_sne (by omega), pj_sne (by omega), pj_sne (by omega), pj_sne (by omega)]
            have hv : bt_A (pj_set v5 60 0 5601 (c + 1)) 1 = c + 1 ∧ bt_A (pj_set v5 60 0 5601 (c + 1)) (10 + 5 * c) = z1 ∧ bt_A (pj_set v5 60 0 5601 (c + 1)) (10 + 5 * c + 1) = z2 ∧ bt_A (pj_set v5 60 0 5601 (c + 1)) (10 + 5 * c + 2) = z3 ∧ pj_set v5 60 0 5601 (c + 1) 61 0 (56 + c) = pj_n8 L := by
              unfold bt_A
              refine ⟨pj_set_at, ?_, ?_, ?_, ?_⟩
              · rw [pj_sne (by omega), yy 60 0 _ (by omega), pj_sne (by omega), pj_sne (by omega), show (5600 + (10 + 5 * c) : Int) = 5610 + 5 * c by omega, pj_set_at]
              · rw [pj_sne (by omega), yy 60 0 _ (by omega), pj_sne (by omega), show (5600 + (10 + 5 * c + 1) : Int) = 5610 + 5 * c + 1 by omega, pj_set_at]
              · rw [pj_sne (by omega), yy 60 0 _ (by omega), show (5600 + (10 + 5 * c + 2) : Int) = 5610 + 5 * c + 2 by omega, pj_set_at]
              · rw [pj_sne (by omega), yy 61 0 _ (by omega), pj_sne (by omega), pj_sne (by omega), pj_sne (by omega), pj_set_at]
            have R6 := bt_addF (u' := u6) (v' := pj_set v5 60 0 5601 (c + 1)) R hb hc c6 L1 ⟨l1, l2⟩ ⟨l3, l4⟩ ⟨l6, l7⟩ q2 fu hv fA (fun s hs => by rw [pj_sne (by omega), yy 61 0 s (by omega), pj_sne (by omega), pj_sne (by omega), pj_sne (by omega), pj_sne (by omega)]) (by rw [pj_sne (by omega), yy 26 0 20 (by omega), pj_sne (by omega), pj_sne (by omega), pj_sne (by omega), pj_sne (by omega)]) (by rw [pj_sne (by omega), yy 26 0 21 (by omega), pj_sne (by omega), pj_sne (by omega), pj_sne (by omega), pj_sne (by omega)])
            refine bt_good (u1 := u6) (v1 := pj_set v5 60 0 5601 (c + 1)) (k1 := k + 2 + 2 + 2 + 2) ?_ ?_ (J5.ex (fun k i s hk => q3 k i s (by omega) (by omega)) (fun k i s hk => pj_sne (by omega))) R6 (by omega) (fun k i s t1 t2 t3 => fu k i s t1 (by unfold pj_in at t3; omega) (by unfold pj_in at t3; omega)) (fun k i s t1 t2 t3 => by rw [pj_sne (by omega), yy k i s (by omega), pj_sne (by omega), pj_sne (by omega), pj_sne (by omega), pj_sne (by omega)])
            · unfold fM_aFinder
              rw [hrow, hrow1, hrow2, b2, Option.bind_some, if_neg (show ¬ (1 : Int) = 0 by decide), d2, Option.bind_some, if_neg (show ¬ (1 : Int) = 0 by decide), e2, Option.bind_some, if_neg (show ¬ (1 : Int) = 0 by decide), e4, Option.bind_some, if_neg (show ¬ (1 : Int) = 0 by decide), g2, Option.bind_some, if_neg (show ¬ (1 : Int) = 0 by decide), g4, Option.bind_some, if_neg (show ¬ (1 : Int) = 0 by decide)]
              show some ((1 : Int), pj_set v5 60 0 5601 (pj_wr (v5 60 0 5601 + 1))) = _
              rw [e51, pj_wr_id (by omega) (by omega)]
            · unfold fBT_takeFinderPart
              rw [h13, hu7, if_pos hb, if_pos c6, a1', Option.bind_some]
              show ((fR_takeNewName (u1 13 0 1) u1).bind _) = _
              rw [e13, b1, Option.bind_some, if_neg hcmp, if_pos (show 0 ≤ u2 13 0 1 by rw [e13b]; exact hb)]
              show ((fR_takeNumberBehind 4 0 (pj_wr (u2 19 (u2 13 0 1) 2 - 1)) u2).bind _) = _
              rw [e13b, e19, pj_wr_id (x := bt_A v 0 - 1) (by omega) (by omega), d1, Option.bind_some, if_neg (show ¬ z1 = -1 by omega), e1, Option.bind_some, if_neg (show ¬ z2 = -1 by omega), g1, Option.bind_some, if_neg (show ¬ z3 = -1 by omega), if_pos (show 0 ≤ u5 13 0 1 by rw [e13e]; exact hb)]
              show ((fB_addFinder (u5 13 0 1) (pj_n5 L) z1 z2 z3 u5).bind _) = _
              rw [e13e, q1, Option.bind_some]
          · refine bt_bad (u1 := u5) (v1 := v5) ?_ ?_ F5 (((x2.tr x3).tr x4).tr x5).b ((((y2.bset (by omega)).tr (y3.s (by omega))).tr (y4.s (by omega))).tr y5.b)
            · unfold fBT_takeFinderPart
              rw [h13, hu7, if_pos hb, if_pos c6, a1', Option.bind_some]
              show ((fR_takeNewName (u1 13 0 1) u1).bind _) = _
              rw [e13, b1, Option.bind_some, if_neg hcmp, if_pos (show 0 ≤ u2 13 0 1 by rw [e13b]; exact hb)]
              show ((fR_takeNumberBehind 4 0 (pj_wr (u2 19 (u2 13 0 1) 2 - 1)) u2).bind _) = _
              rw [e13b, e19, pj_wr_id (x := bt_A v 0 - 1) (by omega) (by omega), d1, Option.bind_some, if_neg (show ¬ z1 = -1 by omega), e1, Option.bind_some, if_neg (show ¬ z2 = -1 by omega), g1, Option.bind_some, if_pos rfl]
            · rcases g2 with g2 | ⟨w5, g2, _, g4⟩
              · unfold fM_aFinder
                rw [hrow, hrow1, hrow2, b2, Option.bind_some, if_neg (show ¬ (1 : Int) = 0 by decide), d2, Option.bind_some, if_neg (show ¬ (1 : Int) = 0 by decide), e2, Option.bind_some, if_neg (show ¬ (1 : Int) = 0 by decide), e4, Option.bind_some, if_neg (show ¬ (1 : Int) = 0 by decide), g2, Option.bind_some, if_pos rfl]
              · unfold fM_aFinder
                rw [hrow, hrow1, hrow2, b2, Option.bind_some, if_neg (show ¬ (1 : Int) = 0 by decide), d2, Option.bind_some, if_neg (show ¬ (1 : Int) = 0 by decide), e2, Option.bind_some, if_neg (show ¬ (1 : Int) = 0 by decide), e4, Option.bind_some, if_neg (show ¬ (1 : Int) = 0 by decide), g2, Option.bind_some, if_neg (show ¬ (1 : Int) = 0 by decide), g4, Option.bind_some, if_pos rfl]
        · refine bt_bad (u1 := u4) (v1 := v4) ?_ ?_ F4 ((x2.tr x3).tr x4).b (((y2.bset (by omega)).tr (y3.s (by omega))).tr y4.b)
          · unfold fBT_takeFinderPart
            rw [h13, hu7, if_pos hb, if_pos c6, a1', Option.bind_some]
            show ((fR_takeNewName (u1 13 0 1) u1).bind _) = _
            rw [e13, b1, Option.bind_some, if_neg hcmp, if_pos (show 0 ≤ u2 13 0 1 by rw [e13b]; exact hb)]
            show ((fR_takeNumberBehind 4 0 (pj_wr (u2 19 (u2 13 0 1) 2 - 1)) u2).bind _) = _
            rw [e13b, e19, pj_wr_id (x := bt_A v 0 - 1) (by omega) (by omega), d1, Option.bind_some, if_neg (show ¬ z1 = -1 by omega), e1, Option.bind_some, if_pos rfl]
          · rcases e2 with e2 | ⟨w4, e2, _, e4⟩
            · unfold fM_aFinder
              rw [hrow, hrow1, hrow2, b2, Option.bind_some, if_neg (show ¬ (1 : Int) = 0 by decide), d2, Option.bind_some, if_neg (show ¬ (1 : Int) = 0 by decide), e2, Option.bind_some, if_pos rfl]
            · unfold fM_aFinder
              rw [hrow, hrow1, hrow2, b2, Option.bind_some, if_neg (show ¬ (1 : Int) = 0 by decide), d2, Option.bind_some, if_neg (show ¬ (1 : Int) = 0 by decide), e2, Option.bind_some, if_neg (show ¬ (1 : Int) = 0 by decide), e4, Option.bind_some, if_pos rfl]
      · refine bt_bad (u1 := u3) (v1 := v3) ?_ ?_ F3 (x2.tr x3).b ((y2.bset (by omega)).tr y3.b)
        · unfold fBT_takeFinderPart
          rw [h13, hu7, if_pos hb, if_pos c6, a1', Option.bind_some]
          show ((fR_takeNewName (u1 13 0 1) u1).bind _) = _
          rw [e13, b1, Option.bind_some, if_neg hcmp, if_pos (show 0 ≤ u2 13 0 1 by rw [e13b]; exact hb)]
          show ((fR_takeNumberBehind 4 0 (pj_wr (u2 19 (u2 13 0 1) 2 - 1)) u2).bind _) = _
          rw [e13b, e19, pj_wr_id (x := bt_A v 0 - 1) (by omega) (by omega), d1, Option.bind_some, if_pos rfl]
        · unfold fM_aFinder
          rw [hrow, hrow1, hrow2, b2, Option.bind_some, if_neg (show ¬ (1 : Int) = 0 by decide), d2, Option.bind_some, if_pos rfl]
    · refine bt_bad (u1 := u2) (v1 := v2) ?_ ?_ F2 x2.b y2.b
      · unfold fBT_takeFinderPart
        rw [h13, hu7, if_pos hb, if_pos c6, a1', Option.bind_some]
        show ((fR_takeNewName (u1 13 0 1) u1).bind _) = _
        rw [e13, b1, Option.bind_some, if_pos (pj_cmp_eq.mpr rfl)]
      · unfold fM_aFinder
        rw [b2, Option.bind_some, if_pos rfl]
  · obtain ⟨u1, v1, a1, a2, F1, x1, y1⟩ := tk_fail J (x := 6) (by decide)
    refine bt_bad (u1 := u1) (v1 := v1) ?_ ?_ F1 x1.b y1.b
    · unfold fBT_takeFinderPart
      rw [h13, hu7, if_pos hb, if_neg c6, a1, Option.bind_some, if_pos (Or.inl rfl)]
    · unfold fM_aFinder fM_newOne
      rw [pj_wr_id (x := 5600 + 1) (by decide) (by decide), if_pos (show (0 : Int) ≤ 5600 + 1 ∧ (5600 + 1 : Int) < 8400 by decide), show (5600 + 1 : Int) = 5601 from rfl, hv1, if_pos (show c = 6 by omega), a2, Option.bind_some, if_pos (Or.inl rfl), Option.bind_some, if_pos rfl]
end
