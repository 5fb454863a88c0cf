/-! A BEACH FROM A TEXT: a pebble -/
section
variable {B : Int → Int} {n : Int} {E : Int → Int} {N b : Int} {u v u' v' : pj_W} {k : Int}
theorem bt_pebble (J : tk_J B n E N u v k) (R : bt_B b u v) (hb : 0 ≤ b) (h5 : u 31 0 k = 5) (h3 : u 33 0 k = 9) : bt_res B n E N b u v k (fBT_takePebblePart u) ((fM_aPebble v).bind fun p4 => fM_beachPart_74 p4.1 p4.2) := by
  have R' := R
  obtain ⟨I, RB, nF, X, H, Z, C⟩ := R'
  have I1 := I.1
  have h13 : u 13 0 1 = b := C.1
  have h21 : v 26 0 21 = bt_A v 8 := C.2.2
  have h80 : 0 ≤ bt_A v 8 := by
    rw [I.2.2.2.2.2.2.1.1]
    exact (pj_sum_in (g := fun i : Nat => pj_many (bt_A v) i) (n := (bt_A v 2).toNat) (M := 60) (fun i hi => (I.2.2.2.1 i (by omega) (by omega)).2.2.2.2)).1
  by_cases c8 : bt_A v 8 < 30
  · obtain ⟨u1, v1, a1, a2, J1, x1, y1⟩ := tk_word J (i := 9) h5 h3
    have a1' : fR_takeWord 9 u = some (1, u1) := a1
    have hPx : ∀ r, fR_takeWord 10 u1 = r → fBT_takePebblePart u = r.bind fun p7 => (if p7.1 = 0 then (fBT_takePebblePart_59 (-1) p7.2) else ((fR_takeFinder (p7.2 13 0 1) p7.2).bind fun p10 => (fBT_takePebblePart_59 p10.1 p10.2))) := fun r hr => by
      unfold fBT_takePebblePart
      rw [h13, if_pos hb, xq_lying RB I, Option.bind_some, if_pos c8, a1', Option.bind_some, ← hr]
    have hPm : ∀ r, fM_wantWord 11 v1 = r → fM_aPebble v = r.bind fun p7 => (if p7.1 = 0 then (some (0, p7.2)) else ((fM_oldOne 56 (p7.2 60 0 5601) 6995 p7.2).bind fun p10 => (if p10.1 = 0 then (some (0, p10.2)) else ((fM_wantWord 12 p10.2).bind fun p13 => (if p13.1 = 0 then (some (0, p13.2)) else ((fM_oldOne 62 (p13.2 60 0 5602) 6996 p13.2).bind fun p16 => (if p16.1 = 0 then (some (0, p16.2)) else ((fM_wantWord 7 p16.2).bind fun p19 => (if p19.1 = 0 then (some (0, p19.2)) else ((fM_number 6997 0 (p19.2 60 0 5603) p19.2).bind fun p22 => (if p22.1 = 0 then (some (0, p22.2)) else ((fM_comes 5600 (p22.2 60 0 6996) (p22.2 60 0 6995) (p22.2 60 0 6997) p22.2).bind fun p25 => (some (1, (pj_set p25 26 0 21 (pj_wr ((p25 26 0 21) + 1))))))))))))))))) := fun r hr => by
      unfold fM_aPebble
      rw [h21, if_neg (show ¬ bt_A v 8 = 30 by omega), a2, Option.bind_some, ← hr]
    rcases tk_takeWord J1 (i := 10) (by decide) (x := 10) (y := 11) rfl rfl with ⟨u2, v2, b1, b2, J2, x2, y2⟩ | ⟨u2, v2, b1, b2, F2, x2, y2⟩
    · have xx2 : tk_xf u u2 := x1.tr x2
      have yy2 : tk_vf v v2 := y1.tr y2
      have nF2 := nF.ex xx2 yy2
      have e13 : u2 13 0 1 = b := (xx2 13 0 1 (by omega)).trans h13
      have hF1 : v2 60 0 5601 = bt_A v 1 := yy2 60 0 5601 (by omega)
      rcases tk_takeFinder J2 (to := 6995) hb nF2 (by decide) (by decide) (by decide) (by decide) with ⟨z1, u3, v3, l1, l2, d1, d2, J3, x3, y3⟩ | ⟨u3, v3, d1, d2, F3, x3, y3⟩
      · have xx3 : tk_xf u u3 := xx2.tr x3
        have yy3 : bt_fv v v3 := yy2.b.tr (y3.s (by decide))
        have e13c : u3 13 0 1 = b := (xx3 13 0 1 (by omega)).trans h13
        have hno : ∀ w : pj_W, fB_findAt b (-1) w = some (-1) := fun w => by
          unfold fB_findAt fB_findAt_21
          rw [if_pos (by decide)]
        rcases tk_takeWord J3 (i := 11) (by decide) (x := 11) (y := 12) rfl rfl with ⟨u4, v4, g1, g2, J4, x4, y4⟩ | ⟨u4, v4, g1, g2, F4, x4, y4⟩
        · have xx4 : tk_xf u u4 := xx3.tr x4
          have yA : tk_vf (pj_set v 60 0 6995 z1) v4 := (yy2.cong 60 0 6995 z1).tr (y3.tr y4)
          have nF4 : tk_nF b u4 v4 56 (bt_A v 1) (bt_A v 2) := ⟨⟨(xx4 19 b 7 (by omega)).trans nF.1.1, nF.1.2.1, nF.1.2.2.1, (xx4 19 b 8 (by omega)).trans nF.1.2.2.2.1, nF.1.2.2.2.2.1, nF.1.2.2.2.2.2⟩, fun f f0 f1 => by rw [xx4 22 _ 0 (by omega), yA 61 0 _ (by omega), pj_sne (by omega)]; exact nF.2.1 f f0 f1, fun d d0 d1 => by rw [xx4 23 _ 2 (by omega), yA 61 0 _ (by omega), pj_sne (by omega)]; exact nF.2.2 d d0 d1⟩
          have hF2 : v4 60 0 5602 = bt_A v 2 := (yA 60 0 5602 (by omega)).trans (pj_sne (by omega))
          rcases tk_takeFind J4 (to := 6996) hb nF4 (by decide) (by decide) (by decide) (by decide) with ⟨z2, u5, v5, l3, l4, p1, p2, J5, x5, y5⟩ | ⟨u5, v5, p1, p2, F5, x5, y5⟩
          · have xx5 : tk_xf u u5 := xx4.tr x5
            have e13e : u5 13 0 1 = b := (xx5 13 0 1 (by omega)).trans h13
            have e193 : u5 19 b 3 = bt_A v 3 := (xx5 19 b 3 (by omega)).trans RB.1.2.1
            have e198 : u5 19 b 8 = bt_A v 2 := (xx5 19 b 8 (by omega)).trans RB.1.2.2.2.2.2.2
            have yB : tk_vf (pj_set (pj_set v 60 0 6995 z1) 60 0 6996 z2) v5 := (yA.cong 60 0 6996 z2).tr y5
            have hat : fB_findAt b z2 u5 = some (8 * b + z2) := by
              unfold fB_findAt
              rw [if_neg (show ¬ z2 < 0 by omega), e198, if_neg (show ¬ bt_A v 2 ≤ z2 by omega), if_pos (by omega)]
            have hi3 : ∀ w6, tk_vf v5 w6 → w6 60 0 5603 = bt_A v 3 := fun w6 hw => by
              rw [hw 60 0 5603 (by omega), yB 60 0 5603 (by omega), pj_sne (by omega), pj_sne (by omega)]
              rfl
            rcases tk_behind J5 (i := 4) (by decide) (x := 4) (y := 7) rfl rfl (to := 6997) (lo := 0) (hi := bt_A v 3) (by decide) (by decide) with ⟨z3, u6, w6, v6, l5, l6, l7, q1, q2, q3, q4, J6, x6, y6⟩ | ⟨u6, v6, q1, q2, F6, x6, y6⟩
            · have xx6 : tk_xf u u6 := xx5.tr x6
              have yC : tk_vf (pj_set (pj_set (pj_set v 60 0 6995 z1) 60 0 6996 z2) 60 0 6997 z3) v6 := (yB.cong 60 0 6997 z3).tr y6
              have R6 : bt_B b u6 v6 := R.ex2 xx6 (fun x t0 t1 => by unfold bt_A; rw [yC 60 0 _ (by omega), pj_sne (by omega), pj_sne (by omega), pj_sne (by omega)]) (fun s => by rw [yC 61 0 s (by omega), pj_sne (by omega), pj_sne (by omega), pj_sne (by omega)]) (by rw [yC 26 0 20 (by omega), pj_sne (by omega), pj_sne (by omega), pj_sne (by omega)]) (by rw [yC 26 0 21 (by omega), pj_sne (by omega), pj_sne (by omega), pj_sne (by omega)])
              have eA6 : ∀ x, 0 ≤ x → x < 1024 → bt_A v6 x = bt_A v x := fun x t0 t1 => by unfold bt_A; rw [yC 60 0 _ (by omega), pj_sne (by omega), pj_sne (by omega), pj_sne (by omega)]
              have k1 : v6 60 0 6995 = z1 := by rw [yC 60 0 6995 (by omega), pj_sne (by omega), pj_sne (by omega), pj_set_at]
              have k2 : v6 60 0 6996 = z2 := by rw [yC 60 0 6996 (by omega), pj_sne (by omega), pj_set_at]
              have k3 : v6 60 0 6997 = z3 := by rw [yC 60 0 6997 (by omega), pj_set_at]
              have k21 : v6 26 0 21 = bt_A v 8 := R6.2.2.2.2.2.2.2.2.trans (eA6 8 (by decide) (by decide))
              obtain ⟨u7, r1, r2, r3, r4⟩ := bt_ins R6 hb (d := z2) (who := z1) (m := z3) l3 (by rw [eA6 2 (by decide) (by decide)]; exact l4) l1 (by rw [eA6 1 (by decide) (by decide)]; exact l2) l7 (by rw [eA6 3 (by decide) (by decide)]; exact l6) (by rw [eA6 8 (by decide) (by decide)]; exact c8)
              have ex : ∀ k i s, k ≠ 60 → pj_put v6 (q_ins (v6 60 0) 5600 z2 z1 z3) k i s = v6 k i s := fun k i s h => by
                unfold pj_put
                rw [if_neg (by omega)]
              refine bt_good (u1 := u7) (v1 := pj_set (pj_put v6 (q_ins (v6 60 0) 5600 z2 z1 z3)) 26 0 21 (v6 26 0 21 + 1)) (k1 := k + 1 + 1 + 1 + 1 + 1 + 2) ?_ ?_ (J6.ex (fun k i s hk => r4 k i s (by unfold pj_in; omega)) (fun k i s hk => by rw [pj_sne (by omega), ex k i s (by omega)])) r3 (by omega) (fun k i s t1 t2 t3 => (r4 k i s t3).trans (xx6 k i s t1)) (fun k i s t1 t2 t3 => ?_)
              · rw [hPm _ b2, Option.bind_some, if_neg (show ¬ (1 : Int) = 0 by decide)]
                show ((fM_oldOne 56 (v2 60 0 5601) 6995 v2).bind _) = _
                rw [hF1, d2, Option.bind_some, if_neg (show ¬ (1 : Int) = 0 by decide), g2, Option.bind_some, if_neg (show ¬ (1 : Int) = 0 by decide)]
                show ((fM_oldOne 62 (v4 60 0 5602) 6996 v4).bind _) = _
                rw [hF2]
                have p2' : fM_oldOne 62 (bt_A v 2) 6996 v4 = some (1, v5) := p2
                rw [p2', Option.bind_some, if_neg (show ¬ (1 : Int) = 0 by decide), q2, Option.bind_some, if_neg (show ¬ (1 : Int) = 0 by decide)]
                show ((fM_number 6997 0 (w6 60 0 5603) w6).bind _) = _
                rw [hi3 w6 q3, q4, Option.bind_some, if_neg (show ¬ (1 : Int) = 0 by decide)]
                show ((fM_comes 5600 (v6 60 0 6996) (v6 60 0 6995) (v6 60 0 6997) v6).bind _) = _
                rw [k1, k2, k3, r2, Option.bind_some, ex 26 0 21 (by decide), k21, pj_wr_id (by omega) (by omega)]
              · rw [hPx _ b1, Option.bind_some, if_neg (show ¬ (1 : Int) = 0 by decide)]
                show ((fR_takeFinder (u2 13 0 1) u2).bind _) = _
                rw [e13, d1, Option.bind_some]
                show fBT_takePebblePart_59 z1 u3 = _
                unfold fBT_takePebblePart_59 fR_takeFindBehind
                rw [if_neg (show ¬ z1 = -1 by omega), e13c, g1, Option.bind_some, if_neg (show ¬ (1 : Int) = 0 by decide)]
                show ((((fR_takeFind b u4).bind _).bind _)) = _
                rw [p1, Option.bind_some, Option.bind_some, if_pos hb]
                show ((fB_findAt b z2 u5).bind _) = _
                rw [hat, Option.bind_some, if_neg (show ¬ 8 * b + z2 < 0 by omega), if_pos (show 0 ≤ u5 13 0 1 by rw [e13e]; exact hb)]
                show ((fR_takeNumberBehind 4 0 (u5 19 (u5 13 0 1) 3) u5).bind _) = _
                rw [e13e, e193, q1, Option.bind_some, if_neg (show ¬ z3 = -1 by omega)]
                show ((fN_insert (8 * b + z2) z1 z3 u6).bind _) = _
                rw [r1, Option.bind_some]
              · rw [pj_sne (by omega)]
                by_cases c60 : k = 60 ∧ i = 0
                · obtain ⟨ck, ci⟩ := c60
                  subst ck ci
                  rw [pj_put_at]
                  have hq : q_ins (v6 60 0) 5600 z2 z1 z3 s = v6 60 0 s := by
                    unfold q_ins q_put q_up q_sh
                    rw [if_neg (by omega), if_neg (by omega), if_neg (by omega), if_neg (by omega), if_neg (by omega)]
                  rw [hq, yC 60 0 s (by omega), pj_sne (by omega), pj_sne (by omega), pj_sne (by omega)]
                · unfold pj_put
                  rw [if_neg c60, yC k i s (by omega), pj_sne (by omega), pj_sne (by omega), pj_sne (by omega)]
            · refine bt_bad (u1 := u6) (v1 := v6) ?_ ?_ F6 (xx5.tr x6).b (((yy3.tr y4.b).tr (y5.s (by decide))).tr y6.b)
              · rw [hPx _ b1, Option.bind_some, if_neg (show ¬ (1 : Int) = 0 by decide)]
                show ((fR_takeFinder (u2 13 0 1) u2).bind _) = _
                rw [e13, d1, Option.bind_some]
                show fBT_takePebblePart_59 z1 u3 = _
                unfold fBT_takePebblePart_59 fR_takeFindBehind
                rw [if_neg (show ¬ z1 = -1 by omega), e13c, g1, Option.bind_some, if_neg (show ¬ (1 : Int) = 0 by decide)]
                show ((((fR_takeFind b u4).bind _).bind _)) = _
                rw [p1, Option.bind_some, Option.bind_some, if_pos hb]
                show ((fB_findAt b z2 u5).bind _) = _
                rw [hat, Option.bind_some, if_neg (show ¬ 8 * b + z2 < 0 by omega), if_pos (show 0 ≤ u5 13 0 1 by rw [e13e]; exact hb)]
                show ((fR_takeNumberBehind 4 0 (u5 19 (u5 13 0 1) 3) u5).bind _) = _
                rw [e13e, e193, q1, Option.bind_some, if_pos rfl]
              · rw [hPm _ b2, Option.bind_some, if_neg (show ¬ (1 : Int) = 0 by decide)]
                show ((fM_oldOne 56 (v2 60 0 5601) 6995 v2).bind _) = _
                rw [hF1, d2, Option.bind_some, if_neg (show ¬ (1 : Int) = 0 by decide), g2, Option.bind_some, if_neg (show ¬ (1 : Int) = 0 by decide)]
                show ((fM_oldOne 62 (v4 60 0 5602) 6996 v4).bind _) = _
                rw [hF2]
                have p2' : fM_oldOne 62 (bt_A v 2) 6996 v4 = some (1, v5) := p2
                rw [p2', Option.bind_some, if_neg (show ¬ (1 : Int) = 0 by decide)]
                rcases q2 with q2 | ⟨w6, q2, q3, q4⟩
                · rw [q2, Option.bind_some, if_pos rfl]
                · rw [q2, Option.bind_some, if_neg (show ¬ (1 : Int) = 0 by decide)]
                  show ((fM_number 6997 0 (w6 60 0 5603) w6).bind _) = _
                  rw [hi3 w6 q3, q4, Option.bind_some, if_pos rfl]
          · refine bt_bad (u1 := u5) (v1 := v5) ?_ ?_ F5 (xx4.tr x5).b ((yy3.tr y4.b).tr fun k i s t1 t2 t3 => y5 k i s (by omega) (by omega))
            · rw [hPx _ b1, Option.bind_some, if_neg (show ¬ (1 : Int) = 0 by decide)]
              show ((fR_takeFinder (u2 13 0 1) u2).bind _) = _
              rw [e13, d1, Option.bind_some]
              show fBT_takePebblePart_59 z1 u3 = _
              unfold fBT_takePebblePart_59 fR_takeFindBehind
              rw [if_neg (show ¬ z1 = -1 by omega), e13c, g1, Option.bind_some, if_neg (show ¬ (1 : Int) = 0 by decide)]
              show ((((fR_takeFind b u4).bind _).bind _)) = _
              rw [p1, Option.bind_some, Option.bind_some, if_pos hb]
              show ((fB_findAt b (-1) u5).bind _) = _
              rw [hno, Option.bind_some, if_pos (by decide)]
            · rw [hPm _ b2, Option.bind_some, if_neg (show ¬ (1 : Int) = 0 by decide)]
              show ((fM_oldOne 56 (v2 60 0 5601) 6995 v2).bind _) = _
              rw [hF1, d2, Option.bind_some, if_neg (show ¬ (1 : Int) = 0 by decide), g2, Option.bind_some, if_neg (show ¬ (1 : Int) = 0 by decide)]
              show ((fM_oldOne 62 (v4 60 0 5602) 6996 v4).bind _) = _
              rw [hF2]
              have p2' : fM_oldOne 62 (bt_A v 2) 6996 v4 = some (0, v5) := p2
              rw [p2', Option.bind_some, if_pos rfl]
        · refine bt_bad (u1 := u4) (v1 := v4) ?_ ?_ F4 (xx3.tr x4).b (yy3.tr y4.b)
          · rw [hPx _ b1, Option.bind_some, if_neg (show ¬ (1 : Int) = 0 by decide)]
            show ((fR_takeFinder (u2 13 0 1) u2).bind _) = _
            rw [e13, d1, Option.bind_some]
            show fBT_takePebblePart_59 z1 u3 = _
            unfold fBT_takePebblePart_59 fR_takeFindBehind
            rw [if_neg (show ¬ z1 = -1 by omega), e13c, g1, Option.bind_some, if_pos rfl, Option.bind_some, if_pos hb]
            show ((fB_findAt b (-1) u4).bind _) = _
            rw [hno, Option.bind_some, if_pos (by decide)]
          · rw [hPm _ b2, Option.bind_some, if_neg (show ¬ (1 : Int) = 0 by decide)]
            show ((fM_oldOne 56 (v2 60 0 5601) 6995 v2).bind _) = _
            rw [hF1, d2, Option.bind_some, if_neg (show ¬ (1 : Int) = 0 by decide), g2, Option.bind_some, if_pos rfl]
      · refine bt_bad (u1 := u3) (v1 := v3) ?_ ?_ F3 (xx2.tr x3).b (yy2.b.tr fun k i s t1 t2 t3 => y3 k i s (by omega) (by omega))
        · rw [hPx _ b1, Option.bind_some, if_neg (show ¬ (1 : Int) = 0 by decide)]
          show ((fR_takeFinder (u2 13 0 1) u2).bind _) = _
          rw [e13, d1, Option.bind_some]
          unfold fBT_takePebblePart_59
          rw [if_pos rfl]
        · rw [hPm _ b2, Option.bind_some, if_neg (show ¬ (1 : Int) = 0 by decide)]
          show ((fM_oldOne 56 (v2 60 0 5601) 6995 v2).bind _) = _
          rw [hF1, d2, Option.bind_some, if_pos rfl]
    · refine bt_bad (u1 := u2) (v1 := v2) ?_ ?_ F2 (x1.tr x2).b (y1.tr y2).b
      · rw [hPx _ b1, Option.bind_some, if_pos rfl]
        unfold fBT_takePebblePart_59
        rw [if_pos rfl]
      · rw [hPm _ b2, Option.bind_some, if_pos rfl]
  · obtain ⟨u1, v1, a1, a2, F1, x1, y1⟩ := tk_fail J (x := 6) (by decide)
    refine bt_bad (u1 := u1) (v1 := v1) ?_ ?_ F1 x1.b y1.b
    · unfold fBT_takePebblePart
      rw [h13, if_pos hb, xq_lying RB I, Option.bind_some, if_neg c8, a1, Option.bind_some, if_pos (Or.inl rfl)]
    · unfold fM_aPebble
      rw [h21, if_pos (show bt_A v 8 = 30 by have := X.2.2.1; omega), a2, Option.bind_some, if_pos (Or.inl rfl)]
end
