/-! DAYS FROM A TEXT: what a step says, on both sides -/
section
variable {B : Int → Int} {n0 : Int} {E : Int → Int} {N : Int} {A : pj_Q} {b d m r : Int} {u v u' v' : pj_W} {k k' : Int}
theorem dt_S.hJ (S : dt_S B n0 E N A b d m r u v k) : tk_J B n0 E N u v k := S.1
theorem dt_S.hr (S : dt_S B n0 E N A b d m r u v k) : 6630 ≤ r ∧ r ≤ 6984 := by
  obtain ⟨_, _, ⟨a1, a2, a3, a4, a5, a6, a7, a8⟩, _⟩ := S
  omega
theorem dt_S.hb (S : dt_S B n0 E N A b d m r u v k) : u 14 0 3 = b ∧ 0 ≤ b := ⟨S.2.2.1.1, S.2.2.1.2.2.2.1⟩
theorem do_num (S : dt_S B n0 E N A b d m r u v k) {x lo hi : Int} : (∃ z u' v', lo ≤ z ∧ z ≤ hi ∧ fDT_takeOnlyNumber x lo hi u = some (1, u') ∧ fM_number (pj_wr (r + 1)) lo hi v = some (1, v') ∧ tk_J B n0 E N u' v' (k + 1) ∧ dt_app d m u u' x z 0 0 ∧ dv_f r v v' ∧ v' 60 0 r = v 60 0 r ∧ v' 60 0 (r + 1) = z) ∨ dt_bad r u v (fDT_takeOnlyNumber x lo hi u) (fM_number (pj_wr (r + 1)) lo hi v) := by
  have hr := S.hr
  rw [pj_wr_id (x := r + 1) (by omega) (by omega)]
  unfold fDT_takeOnlyNumber
  rcases dt_num S (to := r + 1) (lo := lo) (hi := hi) (by omega) (by omega) with ⟨z, u2, v2, z0, z1, z2, e1, e2, S2, x2, y2⟩ | ⟨u2, v2, e1, e2, F2, x2, y2⟩
  · obtain ⟨u3, g1, g2, g3⟩ := dt_add S2 x z 0 0
    refine Or.inl ⟨z, u3, v2, z0, z1, ?_, e2, g3, g2.pre x2, dv_f.s y2 (by omega) (by omega), ?_, ?_⟩
    · rw [e1, Option.bind_some, if_neg (show ¬ z = -1 by omega), g1, Option.bind_some, if_neg (show ¬ (1 : Int) = 0 by decide)]
    · rw [y2 60 0 r (by omega), pj_sne (by omega)]
    · rw [y2 60 0 (r + 1) (by omega), pj_set_at]
  · exact Or.inr ⟨u2, v2, by rw [e1, Option.bind_some, if_pos rfl], e2, F2, x2, y2⟩
theorem do_wait (S : dt_S B n0 E N A b d m r u v k) (hy : v 60 0 r = 20) : dt_O B n0 E N (dt_pl A) d m r u v k (fDT_takeWait u) (fM_dayOrder 20 r v) := by
  have hr := S.hr
  have em : fM_dayOrder 20 r v = ((fM_finderTo (pj_wr (r + 1)) v).bind fun p13 => (if p13.1 = 0 then (some ((0, p13.2))) else ((fM_number (pj_wr (r + 2)) 1 240 p13.2).bind fun p16 => (if p16.1 = 0 then (some ((0, p16.2))) else (some ((1, p16.2))))))) := rfl
  rw [em, pj_wr_id (x := r + 1) (by omega) (by omega), pj_wr_id (x := r + 2) (by omega) (by omega)]
  unfold fDT_takeWait
  rcases dt_finder S (to := r + 1) (by omega) (by omega) with ⟨z, u2, v2, hz, e1, e2, S2, x2, y2⟩ | ⟨u2, v2, e1, e2, F2, x2, y2⟩
  · rw [e1, e2, Option.bind_some, Option.bind_some, if_neg (show ¬ z = -1 by have := hz.1; omega), if_neg (show ¬ (1 : Int) = 0 by decide)]
    rcases dt_num S2 (to := r + 2) (lo := 1) (hi := 240) (by omega) (by omega) with ⟨t, u3, v3, t0, t1, t2, g1, g2, S3, x3, y3⟩ | ⟨u3, v3, g1, g2, F3, x3, y3⟩
    · obtain ⟨u4, h1, h2, h3⟩ := dt_add S3 20 z t 0
      refine Or.inl ⟨20, z, t, 0, u4, v3, k + 1 + 1, ?_, ?_, by omega, h3, h2.pre (x2.tr x3), (dv_f.s y2 (by omega) (by omega)).tr (dv_f.s y3 (by omega) (by omega)), ?_⟩
      · rw [g1, Option.bind_some, if_neg (show ¬ t = -1 by omega), h1, Option.bind_some, if_neg (show ¬ (1 : Int) = 0 by decide)]
      · rw [g2, Option.bind_some, if_neg (show ¬ (1 : Int) = 0 by decide)]
      · rw [y3 60 0 r (by omega), y3 60 0 (r + 1) (by omega), y3 60 0 (r + 2) (by omega), pj_sne (by omega), pj_sne (by omega), pj_set_at, y2 60 0 r (by omega), y2 60 0 (r + 1) (by omega), pj_sne (by omega), pj_set_at, hy]
        exact Or.inr (Or.inr (Or.inl ⟨rfl, rfl, rfl, rfl, hz, t0, t1⟩))
    · exact Or.inr ⟨u3, v3, by rw [g1, Option.bind_some, if_pos rfl], by rw [g2, Option.bind_some, if_pos rfl], F3, x2.tr x3, (dv_f.s y2 (by omega) (by omega)).tr y3⟩
  · exact Or.inr ⟨u2, v2, by rw [e1, Option.bind_some, if_pos rfl], by rw [e2, Option.bind_some, if_pos rfl], F2, x2, y2⟩
theorem do_go (S : dt_S B n0 E N A b d m r u v k) (hy : v 60 0 r = 18) : dt_O B n0 E N (dt_pl A) d m r u v k (fDT_takeGo u) (fM_dayOrder 18 r v) := by
  have hr := S.hr
  have em : fM_dayOrder 18 r v = ((fM_finderTo (pj_wr (r + 1)) v).bind fun p2 => (if p2.1 = 0 then (some ((0, p2.2))) else ((fM_wantWord 17 p2.2).bind fun p5 => (if p5.1 = 0 then (some ((0, p5.2))) else ((fM_number (pj_wr (r + 2)) 0 (pj_wr ((p5.2 60 0 0) - 1)) p5.2).bind fun p8 => (if p8.1 = 0 then (some ((0, p8.2))) else (some ((1, p8.2))))))))) := rfl
  rw [em, pj_wr_id (x := r + 1) (by omega) (by omega), pj_wr_id (x := r + 2) (by omega) (by omega)]
  unfold fDT_takeGo
  rcases dt_finder S (to := r + 1) (by omega) (by omega) with ⟨z, u2, v2, hz, e1, e2, S2, x2, y2⟩ | ⟨u2, v2, e1, e2, F2, x2, y2⟩
  · obtain ⟨sb, b0⟩ := S2.hb
    obtain ⟨c1, c2, _, _, c5, c6⟩ := S2.2.2.2
    rw [e1, e2, Option.bind_some, Option.bind_some, if_neg (show ¬ z = -1 by have := hz.1; omega), if_neg (show ¬ (1 : Int) = 0 by decide)]
    dsimp only
    rw [if_pos (show 0 ≤ u2 14 0 3 by rw [sb]; exact b0), sb, c1, pj_wr_id (x := A 0 - 1) (by omega) (by omega)]
    rcases tk_behind S2.hJ (i := 17) (by decide) (x := 17) (y := 17) rfl rfl (to := r + 2) (lo := 0) (hi := A 0 - 1) (by omega) (by omega) with ⟨t, u3, w3, v3, t0, t1, t2, g1, g2, g3, g4, J3, x3, y3⟩ | ⟨u3, v3, g1, g2, F3, x3, y3⟩
    · have S3 := S2.ex J3 x3 (dv_f.s y3 (by omega) (by omega))
      obtain ⟨u4, h1, h2, h3⟩ := dt_add S3 18 z t 0
      refine Or.inl ⟨18, z, t, 0, u4, v3, k + 1 + 2, ?_, ?_, by omega, h3, h2.pre (x2.tr x3), (dv_f.s y2 (by omega) (by omega)).tr (dv_f.s y3 (by omega) (by omega)), ?_⟩
      · rw [g1, Option.bind_some, if_neg (show ¬ t = -1 by omega), h1, Option.bind_some, if_neg (show ¬ (1 : Int) = 0 by decide)]
      · rw [g2, Option.bind_some, if_neg (show ¬ (1 : Int) = 0 by decide)]
        dsimp only
        rw [g3 60 0 0 (by omega), c2, pj_wr_id (x := A 0 - 1) (by omega) (by omega), g4, Option.bind_some, if_neg (show ¬ (1 : Int) = 0 by decide)]
      · rw [y3 60 0 r (by omega), y3 60 0 (r + 1) (by omega), y3 60 0 (r + 2) (by omega), pj_sne (by omega), pj_sne (by omega), pj_set_at, y2 60 0 r (by omega), y2 60 0 (r + 1) (by omega), pj_sne (by omega), pj_set_at, hy]
        exact Or.inl ⟨rfl, rfl, rfl, rfl, hz, t0, by omega⟩
    · refine Or.inr ⟨u3, v3, by rw [g1, Option.bind_some, if_pos rfl], ?_, F3, x2.tr x3, (dv_f.s y2 (by omega) (by omega)).tr y3.d⟩
      rcases g2 with g2 | ⟨w3, g2, g3, g4⟩
      · rw [g2, Option.bind_some, if_pos rfl]
      · rw [g2, Option.bind_some, if_neg (show ¬ (1 : Int) = 0 by decide)]
        dsimp only
        rw [g3 60 0 0 (by omega), c2, pj_wr_id (x := A 0 - 1) (by omega) (by omega), g4, Option.bind_some, if_pos rfl]
  · exact Or.inr ⟨u2, v2, by rw [e1, Option.bind_some, if_pos rfl], by rw [e2, Option.bind_some, if_pos rfl], F2, x2, y2⟩
/-- of a finder, on a find -/
theorem do_on (S : dt_S B n0 E N A b d m r u v k) (x : Int) :
    (∃ z t u' v' k', pj_isF A z ∧ pj_isD A t ∧ fDT_takeOnFind x u = some (1, u') ∧ fM_dayOrder_94 r v = some (1, v') ∧ k ≤ k' ∧ tk_J B n0 E N u' v' k' ∧ dt_app d m u u' x z t 0 ∧ dv_f r v v' ∧ v' 60 0 r = v 60 0 r ∧ v' 60 0 (r + 1) = z ∧ v' 60 0 (r + 2) = t) ∨ dt_bad r u v (fDT_takeOnFind x u) (fM_dayOrder_94 r v) := by
  have hr := S.hr
  unfold fDT_takeOnFind fM_dayOrder_94
  rw [pj_wr_id (x := r + 1) (by omega) (by omega), pj_wr_id (x := r + 2) (by omega) (by omega)]
  rcases dt_finder S (to := r + 1) (by omega) (by omega) with ⟨z, u2, v2, hz, e1, e2, S2, x2, y2⟩ | ⟨u2, v2, e1, e2, F2, x2, y2⟩
  · rw [e1, e2, Option.bind_some, Option.bind_some, if_neg (show ¬ z = -1 by have := hz.1; omega), if_neg (show ¬ (1 : Int) = 0 by decide)]
    dsimp only
    unfold fR_takeFindBehind
    rcases tk_takeWord S2.hJ (i := 11) (by decide) (x := 11) (y := 12) rfl rfl with ⟨u3, v3, g1, g2, J3, x3, y3⟩ | ⟨u3, v3, g1, g2, F3, x3, y3⟩
    · have S3 := S2.ex J3 x3 y3.d
      have e14 : u2 14 0 3 = u3 14 0 3 := S2.hb.1.trans S3.hb.1.symm
      rw [g1, g2, Option.bind_some, Option.bind_some, if_neg (show ¬ (1 : Int) = 0 by decide), if_neg (show ¬ (1 : Int) = 0 by decide)]
      dsimp only
      rw [e14]
      rcases dt_find S3 (to := r + 2) (by omega) (by omega) with ⟨t, u4, v4, ht, h1, h2, S4, x4, y4⟩ | ⟨u4, v4, h1, h2, F4, x4, y4⟩
      · obtain ⟨u5, p1, p2, p3⟩ := dt_add S4 x z t 0
        refine Or.inl ⟨z, t, u5, v4, k + 1 + 1 + 1, hz, ht, ?_, ?_, by omega, p3, p2.pre ((x2.tr x3).tr x4), ((dv_f.s y2 (by omega) (by omega)).tr y3.d).tr (dv_f.s y4 (by omega) (by omega)), ?_, ?_, ?_⟩
        · rw [h1, Option.bind_some, Option.bind_some, if_neg (show ¬ t = -1 by have := ht.1; omega), p1, Option.bind_some, if_neg (show ¬ (1 : Int) = 0 by decide)]
        · rw [h2, Option.bind_some, if_neg (show ¬ (1 : Int) = 0 by decide)]
        · rw [y4 60 0 r (by omega), pj_sne (by omega), y3 60 0 r (by omega), y2 60 0 r (by omega), pj_sne (by omega)]
        · rw [y4 60 0 (r + 1) (by omega), pj_sne (by omega), y3 60 0 (r + 1) (by omega), y2 60 0 (r + 1) (by omega), pj_set_at]
        · rw [y4 60 0 (r + 2) (by omega), pj_set_at]
      · exact Or.inr ⟨u4, v4, by rw [h1, Option.bind_some, Option.bind_some, if_pos rfl], by rw [h2, Option.bind_some, if_pos rfl], F4, (x2.tr x3).tr x4, ((dv_f.s y2 (by omega) (by omega)).tr y3.d).tr y4⟩
    · exact Or.inr ⟨u3, v3, by rw [g1, Option.bind_some, if_pos rfl, Option.bind_some, if_pos rfl], by rw [g2, Option.bind_some, if_pos rfl], F3, x2.tr x3, (dv_f.s y2 (by omega) (by omega)).tr y3.d⟩
  · exact Or.inr ⟨u2, v2, by rw [e1, Option.bind_some, if_pos rfl], by rw [e2, Option.bind_some, if_pos rfl], F2, x2, y2⟩
theorem do_free (S : dt_S B n0 E N A b d m r u v k) (hy : v 60 0 r = 2429) : dt_O B n0 E N (dt_wh A) d m r u v k (fDT_takeFree u) ((fM_findTo (pj_wr (r + 1)) v).bind fun p5 => (if p5.1 = 0 ∨ p5.1 = 1 then (some ((p5.1, p5.2))) else none)) := by
  have hr := S.hr
  rw [pj_wr_id (x := r + 1) (by omega) (by omega)]
  unfold fDT_takeFree
  rcases dt_find S (to := r + 1) (by omega) (by omega) with ⟨t, u2, v2, ht, e1, e2, S2, x2, y2⟩ | ⟨u2, v2, e1, e2, F2, x2, y2⟩
  · obtain ⟨u3, h1, h2, h3⟩ := dt_add S2 26 0 t 0
    refine Or.inl ⟨26, 0, t, 0, u3, v2, k + 1, ?_, dw_1 e2, by omega, h3, h2.pre x2, dv_f.s y2 (by omega) (by omega), ?_⟩
    · rw [e1, Option.bind_some, if_neg (show ¬ t = -1 by have := ht.1; omega), h1, Option.bind_some, if_neg (show ¬ (1 : Int) = 0 by decide)]
    · rw [y2 60 0 r (by omega), y2 60 0 (r + 1) (by omega), pj_set_at, pj_sne (by omega), hy]
      exact Or.inr (Or.inr ⟨rfl, rfl, rfl, ht⟩)
  · exact Or.inr ⟨u2, v2, by rw [e1, Option.bind_some, if_pos rfl], dw_0 e2, F2, x2, y2⟩
theorem m_isSign {c y : Int} {v : pj_W} (h12 : v 26 0 12 = 4) (h15 : v 26 0 15 = c) : fM_isSign y v = some (if c = y then 1 else 0) := by
  unfold fM_isSign
  rw [if_pos h12, h15]
  by_cases e : c = y
  · rw [if_pos e, if_pos e]
  · rw [if_neg e, if_neg e]
theorem m_isSign0 {y : Int} {v : pj_W} (h12 : v 26 0 12 ≠ 4) : fM_isSign y v = some 0 := by
  unfold fM_isSign
  rw [if_neg h12]
theorem do_leads (S : dt_S B n0 E N A b d m r u v k) (hy : v 60 0 r = 2428) : dt_O B n0 E N (dt_wh A) d m r u v k (fDT_takeLeads u) ((fM_finderTo (pj_wr (r + 1)) v).bind fun p8 => (if p8.1 = 0 then (some ((0, p8.2))) else ((fM_isSign 60 p8.2).bind fun p18 => (if p18 = 0 then ((fM_isSign 62 p8.2).bind fun p21 => (if p21 = 0 then ((fM_isSign 61 p8.2).bind fun p24 => (if p24 = 0 then ((fM_fails 2 p8.2).bind fun p27 => (if p27.1 = 0 ∨ p27.1 = 1 then (some ((p27.1, p27.2))) else none)) else (fM_test_138 r p8.2))) else (fM_test_138 r p8.2))) else (fM_test_138 r p8.2))))) := by
  have hr := S.hr
  rw [pj_wr_id (x := r + 1) (by omega) (by omega)]
  unfold fDT_takeLeads
  rcases dt_finder S (to := r + 1) (by omega) (by omega) with ⟨z, u2, v2, hz, e1, e2, S2, x2, y2⟩ | ⟨u2, v2, e1, e2, F2, x2, y2⟩
  · rw [e1, e2, Option.bind_some, Option.bind_some, if_neg (show ¬ z = -1 by have := hz.1; omega), if_neg (show ¬ (1 : Int) = 0 by decide)]
    dsimp only
    have hJb := S2.hJ.b
    have ha := S2.hJ.a
    have bad : ∀ fx, (∀ u3 : pj_W, fR_fail 2 u2 = some (0, u3) → fx = some (0, u3)) → dt_O B n0 E N (dt_wh A) d m r u v k fx ((fM_fails 2 v2).bind fun p27 => (if p27.1 = 0 ∨ p27.1 = 1 then (some ((p27.1, p27.2))) else none)) := fun fx hfx => by
      obtain ⟨u3, v3, g1, g2, F3, x3, y3⟩ := tk_fail S2.hJ (x := 2) (by decide)
      exact Or.inr ⟨u3, v3, hfx u3 g1, dw_0 g2, F3, x2.tr x3, (dv_f.s y2 (by omega) (by omega)).tr y3.d⟩
    unfold fR_takeCompares
    rw [ha, if_pos (show 0 ≤ k + 1 ∧ k + 1 < 901 by omega)]
    rcases tk_sign S2.hJ with ⟨c, s1, s2, s3, s4, s5⟩ | ⟨s1, s3⟩
    · rw [if_pos s1, s2]
      by_cases c59 : c = 59
      · rw [if_pos (pj_cmp_eq.mpr c59), m_isSign s3 s4, m_isSign s3 s4, m_isSign s3 s4, if_neg (show ¬ c = 60 by omega), if_neg (show ¬ c = 62 by omega), if_neg (show ¬ c = 61 by omega), Option.bind_some, if_pos rfl, Option.bind_some, if_pos rfl, Option.bind_some, if_pos rfl]
        refine bad _ (fun u3 h3 => ?_)
        unfold fR_takeCompares_29
        rw [h3, Option.bind_some, Option.bind_some, if_pos rfl]
      · have hs : c = 60 ∨ c = 62 ∨ c = 61 := by unfold tk_sg at s5; omega
        have em : ((fM_isSign 60 v2).bind fun p18 => (if p18 = 0 then ((fM_isSign 62 v2).bind fun p21 => (if p21 = 0 then ((fM_isSign 61 v2).bind fun p24 => (if p24 = 0 then ((fM_fails 2 v2).bind fun p27 => (if p27.1 = 0 ∨ p27.1 = 1 then (some ((p27.1, p27.2))) else none)) else (fM_test_138 r v2))) else (fM_test_138 r v2))) else (fM_test_138 r v2))) = fM_test_138 r v2 := by
          rw [m_isSign s3 s4, m_isSign s3 s4, m_isSign s3 s4, Option.bind_some, Option.bind_some, Option.bind_some]
          rcases hs with hs | hs | hs
          · subst hs; rfl
          · subst hs; rfl
          · subst hs; rfl
        rw [em, if_neg (fun h => c59 (pj_cmp_eq.mp h))]
        have cb : 60 ≤ c ∧ c ≤ 62 := by omega
        obtain ⟨u3, v3, g1, g2, J3, x3, y3⟩ := (S2.hJ.ex (u' := u2) (v' := pj_set v2 60 0 (r + 5) c) (fun _ _ _ _ => rfl) (fun k i s hk => pj_sne (by omega))).adv (by omega)
        have S3 := S2.ex J3 x3 (dv_f.s y3 (by omega) (by omega))
        unfold fM_test_138
        rw [g1, Option.bind_some, Option.bind_some, pj_wr_id (x := c) (by omega) (by omega), pj_wr_id (x := r + 5) (by omega) (by omega), pj_wr_id (x := r + 2) (by omega) (by omega), if_pos (show 0 ≤ r + 5 ∧ r + 5 < 8400 by omega), s4, g2, Option.bind_some, if_neg (show ¬ c = -1 by omega)]
        rcases dt_num S3 (to := r + 2) (lo := 0) (hi := 9999) (by omega) (by omega) with ⟨t, u4, v4, t0, t1, t2, h1, h2, S4, x4, y4⟩ | ⟨u4, v4, h1, h2, F4, x4, y4⟩
        · obtain ⟨u5, p1, p2, p3⟩ := dt_add S4 25 z t c
          refine Or.inl ⟨25, z, t, c, u5, v4, k + 1 + 1 + 1, ?_, dw_1 h2, by omega, p3, p2.pre ((x2.tr x3).tr x4), ((dv_f.s y2 (by omega) (by omega)).tr (dv_f.s y3 (by omega) (by omega))).tr (dv_f.s y4 (by omega) (by omega)), ?_⟩
          · rw [h1, Option.bind_some, if_neg (show ¬ t = -1 by omega), p1, Option.bind_some, if_neg (show ¬ (1 : Int) = 0 by decide)]
          · rw [y4 60 0 r (by omega), y4 60 0 (r + 1) (by omega), y4 60 0 (r + 2) (by omega), y4 60 0 (r + 5) (by omega), pj_sne (by omega), pj_sne (by omega), pj_set_at, pj_sne (by omega), y3 60 0 r (by omega), y3 60 0 (r + 1) (by omega), y3 60 0 (r + 5) (by omega), pj_sne (by omega), pj_sne (by omega), pj_set_at, y2 60 0 r (by omega), y2 60 0 (r + 1) (by omega), pj_sne (by omega), pj_set_at, hy]
            exact Or.inl ⟨rfl, rfl, rfl, rfl, rfl, hz⟩
        · exact Or.inr ⟨u4, v4, by rw [h1, Option.bind_some, if_pos rfl], dw_0 h2, F4, (x2.tr x3).tr x4, ((dv_f.s y2 (by omega) (by omega)).tr (dv_f.s y3 (by omega) (by omega))).tr y4⟩
    · rw [if_neg s1, m_isSign0 s3, m_isSign0 s3, m_isSign0 s3, Option.bind_some, if_pos rfl, Option.bind_some, if_pos rfl, Option.bind_some, if_pos rfl]
      refine bad _ (fun u3 h3 => ?_)
      unfold fR_takeCompares_29
      rw [h3, Option.bind_some, Option.bind_some, if_pos rfl]
  · exact Or.inr ⟨u2, v2, by rw [e1, Option.bind_some, if_pos rfl], by rw [e2, Option.bind_some, if_pos rfl], F2, x2, y2⟩
end
