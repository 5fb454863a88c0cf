/-! A BEACH FROM A TEXT: a find -/
section
variable {B : Int → Int} {n : Int} {E : Int → Int} {N b : Int} {u v u' v' : pj_W} {k : Int}
theorem bt_find (J : tk_J B n E N u v k) (R : bt_B b u v) (hb : 0 ≤ b) (h5 : u 31 0 k = 5) (h3 : u 33 0 k = 7) : bt_res B n E N b u v k (fBT_takeFindPart u) ((fM_aFind v).bind fun p4 => fM_beachPart_74 p4.1 p4.2) := by
  have R' := R
  obtain ⟨I, RB, nF, X, H, Z, C⟩ := R'
  have I1 := I.1
  have h13 : u 13 0 1 = b := C.1
  obtain ⟨c, hc⟩ : ∃ c, bt_A v 2 = c := ⟨_, rfl⟩
  have hv1 : v 60 0 5602 = c := hc
  have hu7 : u 19 b 8 = c := RB.1.2.2.2.2.2.2.trans hc
  have hrow : fM_findRow 5600 (v 60 0 5602) v = some (5640 + 3 * c) := by
    unfold fM_findRow
    rw [hv1, pj_wr_id (x := 3 * c) (by omega) (by omega), pj_wr_id (x := 5600 + 40) (by decide) (by decide), pj_wr_id (by omega) (by omega)]
    rfl
  have hrow1 : pj_wr (5640 + 3 * c + 1) = 5640 + 3 * c + 1 := pj_wr_id (by omega) (by omega)
  by_cases c6 : c < 8
  · obtain ⟨u1, a1, x1, h⟩ := tk_newOne J (i := 7) h5 h3 hb nF rfl rfl (m := 2) (most := 8) (sort := 6) (c := c) (by decide) (by decide) hv1 (by omega) (by omega) (by decide) (by omega)
    have a1' : fR_takeWord 7 u = some (1, u1) := a1
    have e13 : u1 13 0 1 = b := (x1 13 0 1 (by omega)).trans h13
    rcases h with ⟨L, u2, v2, L1, b1, b2, J2, x2, y2⟩ | ⟨u2, v2, b1, b2, F2, x2, y2⟩
    · rw [show (56 + 6 + c : Int) = 62 + c by omega] at y2
      have e13b : u2 13 0 1 = b := (x2 13 0 1 (by omega)).trans h13
      have e19 : u2 19 b 2 = bt_A v 0 := (x2 19 b 2 (by omega)).trans RB.1.1
      have hcell : v2 60 0 5600 = bt_A v 0 := (y2 60 0 5600 (by omega)).trans (pj_sne (by omega))
      have hL5 := pj_n5_b L.length L rfl L1.2.2
      have hcmp : ¬ pj_cmp (pj_n5 L) (-1) = 0 := fun e => by have := pj_cmp_eq.mp e; omega
      rcases tk_atCell J2 (to := 5640 + 3 * c) (by omega) (by omega) hcell (by omega) (by omega) with ⟨z1, u3, v3, l1, l2, d1, d2, J3, x3, y3⟩ | ⟨u3, v3, d1, d2, F3, x3, y3⟩
      · rcases tk_behind J3 (i := 8) (by decide) (x := 8) (y := 10) rfl rfl (to := 5640 + 3 * c + 1) (lo := 0) (hi := 999) (by omega) (by omega) with ⟨z2, u5, w4, v5, l3, l4, l5, e1, e2, e3, e4, J5, x4, y4⟩ | ⟨u4, v4, e1, e2, F4, x4, y4⟩
        · have xx : tk_xf u u5 := (x2.tr x3).tr x4
          have e13e : u5 13 0 1 = b := (xx 13 0 1 (by omega)).trans h13
          have e7e : u5 19 b 8 = c := (xx 19 b 8 (by omega)).trans hu7
          have yy : tk_vf (pj_set (pj_set (pj_set v 61 0 (62 + c) (pj_n8 L)) 60 0 (5640 + 3 * c) z1) 60 0 (5640 + 3 * c + 1) z2) v5 := (((y2.cong 60 0 (5640 + 3 * c) z1).tr y3).cong 60 0 (5640 + 3 * c + 1) z2).tr y4
          have e51 : v5 60 0 5602 = c := by rw [yy 60 0 5602 (by omega), pj_sne (by omega), pj_sne (by omega), pj_sne (by omega)]; exact hv1
          have e57 : v5 60 0 5607 = 2 ^ c.toNat - 1 := by
            rw [yy 60 0 5607 (by omega), pj_sne (by omega), pj_sne (by omega), pj_sne (by omega), ← hc]
            exact X.2.1
          obtain ⟨u6, q1, q2, q3⟩ := x_addFind (x1 := pj_n5 L) (x3 := z1) (x4 := z2) e7e (by omega) c6
          have fu : ∀ k i s, ¬ (k = 12 ∧ i = 0 ∧ (s = 6 ∨ s = 7 ∨ s = 11)) → ¬ (k = 23 ∧ i = 8 * b + c) → ¬ (k = 19 ∧ i = b ∧ s = 8) → u6 k i s = u k i s := fun k i s t1 t2 t3 => (q3 k i s t2 t3).trans (xx k i s t1)
          have fA : ∀ x, x ≠ 2 → x ≠ 7 → x ≠ 40 + 3 * c → x ≠ 40 + 3 * c + 1 → bt_A (pj_set (pj_set v5 60 0 5607 (2 ^ (c + 1).toNat - 1)) 60 0 5602 (c + 1)) x = bt_A v x := fun x t1 t2 t3 t4 => by
            unfold bt_A
            rw [pj_sne (by omega), pj_sne (by omega), yy 60 0 _ (by omega), pj_sne (by omega), pj_sne (by omega), pj_sne (by omega)]
          have hv : bt_A (pj_set (pj_set v5 60 0 5607 (2 ^ (c + 1).toNat - 1)) 60 0 5602 (c + 1)) 2 = c + 1 ∧ bt_A (pj_set (pj_set v5 60 0 5607 (2 ^ (c + 1).toNat - 1)) 60 0 5602 (c + 1)) (40 + 3 * c) = z1 ∧ bt_A (pj_set (pj_set v5 60 0 5607 (2 ^ (c + 1).toNat - 1)) 60 0 5602 (c + 1)) (40 + 3 * c + 1) = z2 ∧ bt_A (pj_set (pj_set v5 60 0 5607 (2 ^ (c + 1).toNat - 1)) 60 0 5602 (c + 1)) 7 = 2 ^ (c + 1).toNat - 1 ∧ pj_set (pj_set v5 60 0 5607 (2 ^ (c + 1).toNat - 1)) 60 0 5602 (c + 1) 61 0 (62 + c) = pj_n8 L := by
            unfold bt_A
            refine ⟨pj_set_at, ?_, ?_, ?_, ?_⟩
            · rw [pj_sne (by omega), pj_sne (by omega), yy 60 0 _ (by omega), pj_sne (by omega), show (5600 + (40 + 3 * c) : Int) = 5640 + 3 * c by omega, pj_set_at]
            · rw [pj_sne (by omega), pj_sne (by omega), yy 60 0 _ (by omega), show (5600 + (40 + 3 * c + 1) : Int) = 5640 + 3 * c + 1 by omega, pj_set_at]
            · rw [pj_sne (by omega), show (5600 + 7 : Int) = 5607 from rfl, pj_set_at]
            · rw [pj_sne (by omega), pj_sne (by omega), yy 61 0 _ (by omega), pj_sne (by omega), pj_sne (by omega), pj_set_at]
          have R6 := bt_addD (u' := u6) (v' := pj_set (pj_set v5 60 0 5607 (2 ^ (c + 1).toNat - 1)) 60 0 5602 (c + 1)) R hb hc c6 L1 ⟨l1, l2⟩ ⟨l3, l4⟩ q2 fu hv fA (fun s hs => by rw [pj_sne (by omega), pj_sne (by omega), yy 61 0 s (by omega), pj_sne (by omega), pj_sne (by omega), pj_sne (by omega)]) (by rw [pj_sne (by omega), pj_sne (by omega), yy 26 0 20 (by omega), pj_sne (by omega), pj_sne (by omega), pj_sne (by omega)]) (by rw [pj_sne (by omega), pj_sne (by omega), yy 26 0 21 (by omega), pj_sne (by omega), pj_sne (by omega), pj_sne (by omega)])
          refine bt_good (u1 := u6) (v1 := pj_set (pj_set v5 60 0 5607 (2 ^ (c + 1).toNat - 1)) 60 0 5602 (c + 1)) (k1 := k + 2 + 2 + 2) ?_ ?_ (J5.ex (fun k i s hk => q3 k i s (by omega) (by omega)) (fun k i s hk => by rw [pj_sne (by omega), pj_sne (by omega)])) R6 (by omega) (fun k i s t1 t2 t3 => fu k i s t1 (by unfold pj_in at t3; omega) (by unfold pj_in at t3; omega)) (fun k i s t1 t2 t3 => by rw [pj_sne (by omega), pj_sne (by omega), yy k i s (by omega), pj_sne (by omega), pj_sne (by omega), pj_sne (by omega)])
          · unfold fM_aFind
            rw [hrow, Option.bind_some, hrow1, b2, Option.bind_some, if_neg (show ¬ (1 : Int) = 0 by decide), d2, Option.bind_some, if_neg (show ¬ (1 : Int) = 0 by decide), e2, Option.bind_some, if_neg (show ¬ (1 : Int) = 0 by decide), e4, Option.bind_some, if_neg (show ¬ (1 : Int) = 0 by decide)]
            show some ((1 : Int), pj_set (pj_set v5 60 0 5607 (pj_or (v5 60 0 5607) (pj_shl 1 (v5 60 0 5602)))) 60 0 5602 (pj_wr (pj_set v5 60 0 5607 (pj_or (v5 60 0 5607) (pj_shl 1 (v5 60 0 5602))) 60 0 5602 + 1))) = _
            have eo := tk_or_d ⟨c.toNat, by omega⟩
            dsimp only at eo
            rw [show ((c.toNat : Nat) : Int) = c by omega] at eo
            rw [pj_sne (w := v5) (by omega), e51, e57, eo, show (c + 1).toNat = c.toNat + 1 by omega, pj_wr_id (by omega) (by omega)]
          · unfold fBT_takeFindPart
            rw [h13, hu7, if_pos hb, if_pos c6, a1', Option.bind_some]
            show ((fR_takeNewName (u1 13 0 1) u1).bind _) = _
            rw [e13, b1, Option.bind_some, if_neg hcmp, if_pos (show 0 ≤ u2 13 0 1 by rw [e13b]; exact hb)]
            show ((fR_takeNumberBehind 4 0 (pj_wr (u2 19 (u2 13 0 1) 2 - 1)) u2).bind _) = _
            rw [e13b, e19, pj_wr_id (x := bt_A v 0 - 1) (by omega) (by omega), d1, Option.bind_some, if_neg (show ¬ z1 = -1 by omega), e1, Option.bind_some, if_neg (show ¬ z2 = -1 by omega), if_pos (show 0 ≤ u5 13 0 1 by rw [e13e]; exact hb)]
            show ((fB_addFind (u5 13 0 1) (pj_n5 L) z1 z2 u5).bind _) = _
            rw [e13e, q1, Option.bind_some]
        · refine bt_bad (u1 := u4) (v1 := v4) ?_ ?_ F4 ((x2.tr x3).tr x4).b (((y2.bset (by omega)).tr (y3.s (by omega))).tr y4.b)
          · unfold fBT_takeFindPart
            rw [h13, hu7, if_pos hb, if_pos c6, a1', Option.bind_some]
            show ((fR_takeNewName (u1 13 0 1) u1).bind _) = _
            rw [e13, b1, Option.bind_some, if_neg hcmp, if_pos (show 0 ≤ u2 13 0 1 by rw [e13b]; exact hb)]
            show ((fR_takeNumberBehind 4 0 (pj_wr (u2 19 (u2 13 0 1) 2 - 1)) u2).bind _) = _
            rw [e13b, e19, pj_wr_id (x := bt_A v 0 - 1) (by omega) (by omega), d1, Option.bind_some, if_neg (show ¬ z1 = -1 by omega), e1, Option.bind_some, if_pos rfl]
          · rcases e2 with e2 | ⟨w4, e2, _, e4⟩
            · unfold fM_aFind
              rw [hrow, Option.bind_some, hrow1, b2, Option.bind_some, if_neg (show ¬ (1 : Int) = 0 by decide), d2, Option.bind_some, if_neg (show ¬ (1 : Int) = 0 by decide), e2, Option.bind_some, if_pos rfl]
            · unfold fM_aFind
              rw [hrow, Option.bind_some, hrow1, b2, Option.bind_some, if_neg (show ¬ (1 : Int) = 0 by decide), d2, Option.bind_some, if_neg (show ¬ (1 : Int) = 0 by decide), e2, Option.bind_some, if_neg (show ¬ (1 : Int) = 0 by decide), e4, Option.bind_some, if_pos rfl]
      · refine bt_bad (u1 := u3) (v1 := v3) ?_ ?_ F3 (x2.tr x3).b ((y2.bset (by omega)).tr y3.b)
        · unfold fBT_takeFindPart
          rw [h13, hu7, if_pos hb, if_pos c6, a1', Option.bind_some]
          show ((fR_takeNewName (u1 13 0 1) u1).bind _) = _
          rw [e13, b1, Option.bind_some, if_neg hcmp, if_pos (show 0 ≤ u2 13 0 1 by rw [e13b]; exact hb)]
          show ((fR_takeNumberBehind 4 0 (pj_wr (u2 19 (u2 13 0 1) 2 - 1)) u2).bind _) = _
          rw [e13b, e19, pj_wr_id (x := bt_A v 0 - 1) (by omega) (by omega), d1, Option.bind_some, if_pos rfl]
        · unfold fM_aFind
          rw [hrow, Option.bind_some, hrow1, b2, Option.bind_some, if_neg (show ¬ (1 : Int) = 0 by decide), d2, Option.bind_some, if_pos rfl]
    · refine bt_bad (u1 := u2) (v1 := v2) ?_ ?_ F2 x2.b y2.b
      · unfold fBT_takeFindPart
        rw [h13, hu7, if_pos hb, if_pos c6, a1', Option.bind_some]
        show ((fR_takeNewName (u1 13 0 1) u1).bind _) = _
        rw [e13, b1, Option.bind_some, if_pos (pj_cmp_eq.mpr rfl)]
      · unfold fM_aFind
        rw [hrow, Option.bind_some, b2, Option.bind_some, if_pos rfl]
  · obtain ⟨u1, v1, a1, a2, F1, x1, y1⟩ := tk_fail J (x := 6) (by decide)
    refine bt_bad (u1 := u1) (v1 := v1) ?_ ?_ F1 x1.b y1.b
    · unfold fBT_takeFindPart
      rw [h13, hu7, if_pos hb, if_neg c6, a1, Option.bind_some, if_pos (Or.inl rfl)]
    · unfold fM_aFind fM_newOne
      rw [hrow, Option.bind_some, pj_wr_id (x := 5600 + 2) (by decide) (by decide), if_pos (show (0 : Int) ≤ 5600 + 2 ∧ (5600 + 2 : Int) < 8400 by decide), show (5600 + 2 : Int) = 5602 from rfl, hv1, if_pos (show c = 8 by omega), a2, Option.bind_some, if_pos (Or.inl rfl), Option.bind_some, if_pos rfl]
end
