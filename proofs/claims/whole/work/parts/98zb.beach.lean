/-! A BEACH FROM A TEXT: a pebble -/
section
variable {B : Int → Int} {n : Int} {E : Int → Int} {N b : Int} {u v u' v' : pj_W} {k : Int}
theorem bt_pebble (J : tk_J B n E N u v k) (R : bt_B b u v) (hb : 0 ≤ b) (h5 : u 31 0 k = 5) (h3 : u 33 0 k = 9) : bt_res B n E N b u v k (fBT_takePebblePart u) ((fM_aPebble v).bind fun p4 => fM_beachPart_74 p4.1 p4.2) := by
  have R' := R
  obtain ⟨I, RB, nF, X, H, Z, C⟩ := R'
  have I1 := I.1
  have h13 : u 13 0 1 = b := C.1
  have h21 : v 26 0 21 = bt_A v 8 := C.2.2
  by_cases c8 : bt_A v 8 < 30
  · obtain ⟨u1, v1, a1, a2, J1, x1, y1⟩ := tk_word J (i := 9) h5 h3
    have a1' : fR_takeWord 9 u = some (1, u1) := a1
    have hPx : ∀ r, fR_takeWord 10 u1 = r → fBT_takePebblePart u = r.bind fun p7 => (if p7.1 = 0 then (fBT_takePebblePart_59 (-1) p7.2) else ((fR_takeFinder (p7.2 13 0 1) p7.2).bind fun p10 => (fBT_takePebblePart_59 p10.1 p10.2))) := fun r hr => by
      unfold fBT_takePebblePart
      rw [h13, if_pos hb, xq_lying RB I, Option.bind_some, if_pos c8, a1', Option.bind_some, ← hr]
    have hPm : ∀ r, fM_wantWord 11 v1 = r → fM_aPebble v = r.bind fun p7 => (if p7.1 = 0 then (some (0, p7.2)) else ((fM_oldOne 56 (p7.2 60 0 5601) 6995 p7.2).bind fun p10 => (if p10.1 = 0 then (some (0, p10.2)) else ((fM_wantWord 12 p10.2).bind fun p13 => (if p13.1 = 0 then (some (0, p13.2)) else ((fM_oldOne 62 (p13.2 60 0 5602) 6996 p13.2).bind fun p16 => (if p16.1 = 0 then (some (0, p16.2)) else ((fM_wantWord 7 p16.2).bind fun p19 => (if p19.1 = 0 then (some (0, p19.2)) else ((fM_number 6997 0 (p19.2 60 0 5603) p19.2).bind fun p22 => (if p22.1 = 0 then (some (0, p22.2)) else ((fM_comes 5600 (p22.2 60 0 6996) (p22.2 60 0 6995) (p22.2 60 0 6997) p22.2).bind fun p25 => (some (1, (pj_set p25 26 0 21 (pj_wr ((p25 26 0 21) + 1))))))))))))))))) := fun r hr => by
      unfold fM_aPebble
      rw [h21, if_neg (show ¬ bt_A v 8 = 30 by omega), a2, Option.bind_some, ← hr]
    rcases tk_takeWord J1 (i := 10) (by decide) (x := 10) (y := 11) rfl rfl with ⟨u2, v2, b1, b2, J2, x2, y2⟩ | ⟨u2, v2, b1, b2, F2, x2, y2⟩
    · have xx2 : tk_xf u u2 := x1.tr x2
      have yy2 : tk_vf v v2 := y1.tr y2
      have nF2 := nF.ex xx2 yy2
      have e13 : u2 13 0 1 = b := (xx2 13 0 1 (by omega)).trans h13
      have hF1 : v2 60 0 5601 = bt_A v 1 := yy2 60 0 5601 (by omega)
      rcases tk_takeFinder J2 (to := 6995) hb nF2 (by decide) (by decide) (by decide) (by decide) with ⟨z1, u3, v3, l1, l2, d1, d2, J3, x3, y3⟩ | ⟨u3, v3, d1, d2, F3, x3, y3⟩
      · sorry
      · refine bt_bad (u1 := u3) (v1 := v3) ?_ ?_ F3 (xx2.tr x3).b (yy2.b.tr fun k i s t1 t2 t3 => y3 k i s (by omega) (by omega))
        · rw [hPx _ b1, Option.bind_some, if_neg (show ¬ (1 : Int) = 0 by decide)]
          show ((fR_takeFinder (u2 13 0 1) u2).bind _) = _
          rw [e13, d1, Option.bind_some]
          unfold fBT_takePebblePart_59
          rw [if_pos rfl]
        · rw [hPm _ b2, Option.bind_some, if_neg (show ¬ (1 : Int) = 0 by decide)]
          show ((fM_oldOne 56 (v2 60 0 5601) 6995 v2).bind _) = _
          rw [hF1, d2, Option.bind_some, if_pos rfl]
    · refine bt_bad (u1 := u2) (v1 := v2) ?_ ?_ F2 (x1.tr x2).b (y1.tr y2).b
      · rw [hPx _ b1, Option.bind_some, if_pos rfl]
        unfold fBT_takePebblePart_59
        rw [if_pos rfl]
      · rw [hPm _ b2, Option.bind_some, if_pos rfl]
  · obtain ⟨u1, v1, a1, a2, F1, x1, y1⟩ := tk_fail J (x := 6) (by decide)
    refine bt_bad (u1 := u1) (v1 := v1) ?_ ?_ F1 x1.b y1.b
    · unfold fBT_takePebblePart
      rw [h13, if_pos hb, xq_lying RB I, Option.bind_some, if_neg c8, a1, Option.bind_some, if_pos (Or.inl rfl)]
    · unfold fM_aPebble
      rw [h21, if_pos (show bt_A v 8 = 30 by have := X.2.2.1; omega), a2, Option.bind_some, if_pos (Or.inl rfl)]
end
