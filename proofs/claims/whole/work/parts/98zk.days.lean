/-! DAYS FROM A TEXT: every step's words, on both sides -/
theorem dx_t1 (u : pj_W) : fDT_takeStep 1 u = fDT_takeStep_205 1 u := rfl
theorem dx_t29 (u : pj_W) : fDT_takeStep 29 u = fDT_takeStep_205 29 u := rfl
theorem dx_t15 (u : pj_W) : fDT_takeStep 15 u = ((fDT_takeOnFind 15 u).bind fun p => (if p.1 = 0 ∨ p.1 = 1 then (some ((p.1, p.2))) else none)) := rfl
theorem dx_t18 (u : pj_W) : fDT_takeStep 18 u = ((fDT_takeGo u).bind fun p => (if p.1 = 0 ∨ p.1 = 1 then (some ((p.1, p.2))) else none)) := rfl
theorem dx_t19 (u : pj_W) : fDT_takeStep 19 u = ((fDT_takeOnFind 19 u).bind fun p => (if p.1 = 0 ∨ p.1 = 1 then (some ((p.1, p.2))) else none)) := rfl
theorem dx_t20 (u : pj_W) : fDT_takeStep 20 u = ((fDT_takeWait u).bind fun p => (if p.1 = 0 ∨ p.1 = 1 then (some ((p.1, p.2))) else none)) := rfl
theorem dx_t21 (u : pj_W) : fDT_takeStep 21 u = ((fDT_takeOnFind 21 u).bind fun p => (if p.1 = 0 ∨ p.1 = 1 then (some ((p.1, p.2))) else none)) := rfl
theorem dx_t22 (u : pj_W) : fDT_takeStep 22 u = ((fDT_takeOnlyNumber 22 0 16 u).bind fun p => (if p.1 = 0 ∨ p.1 = 1 then (some ((p.1, p.2))) else none)) := rfl
theorem dx_t23 (u : pj_W) : fDT_takeStep 23 u = ((fDT_takeOnlyNumber 23 0 40 u).bind fun p => (if p.1 = 0 ∨ p.1 = 1 then (some ((p.1, p.2))) else none)) := rfl
theorem dx_t25 (u : pj_W) : fDT_takeStep 25 u = ((fDT_takeLeads u).bind fun p => (if p.1 = 0 ∨ p.1 = 1 then (some ((p.1, p.2))) else none)) := rfl
theorem dx_t26 (u : pj_W) : fDT_takeStep 26 u = ((fDT_takeFree u).bind fun p => (if p.1 = 0 ∨ p.1 = 1 then (some ((p.1, p.2))) else none)) := rfl
theorem dx_t27 (u : pj_W) : fDT_takeStep 27 u = ((fDT_takeOnlyNumber 27 1 99 u).bind fun p => (if p.1 = 0 ∨ p.1 = 1 then (some ((p.1, p.2))) else none)) := rfl
theorem dx_tn (u : pj_W) : fDT_takeStep (-1) u = some (0, u) := rfl
section
variable {B : Int → Int} {n0 : Int} {E : Int → Int} {N : Int} {A : pj_Q} {b d m r : Int} {u v u' v' : pj_W} {k k' : Int} {Q Q' : Int → Int → Int → Int → Int → Int → Int → Int → Prop} {fx fm : Option (Int × pj_W)}
theorem dt_O.lift {u2 v2 : pj_W} {k2 : Int} (h : dt_O B n0 E N Q d m r u2 v2 k2 fx fm) (hx : tk_xf u u2) (hv : dv_f r v v2) (hk : k ≤ k2) : dt_O B n0 E N Q d m r u v k fx fm := by
  rcases h with ⟨x, a, b, c, u', v', k', h1, h2, h3, h4, h5, h6, h7⟩ | ⟨u', v', h1, h2, h3, h4, h5⟩
  · exact Or.inl ⟨x, a, b, c, u', v', k', h1, h2, by omega, h4, h5.pre hx, hv.tr h6, h7⟩
  · exact Or.inr ⟨u', v', h1, h2, h3, hx.tr h4, hv.tr h5⟩
theorem dt_O.wx (h : dt_O B n0 E N Q d m r u v k fx fm) : dt_O B n0 E N Q d m r u v k (fx.bind fun p => (if p.1 = 0 ∨ p.1 = 1 then (some ((p.1, p.2))) else none)) fm := by
  rcases h with ⟨x, a, b, c, u', v', k', h1, h2, h3⟩ | ⟨u', v', h1, h2, h3⟩
  · exact Or.inl ⟨x, a, b, c, u', v', k', dw_1 h1, h2, h3⟩
  · exact Or.inr ⟨u', v', dw_0 h1, h2, h3⟩
theorem dt_O.wm (h : dt_O B n0 E N Q d m r u v k fx fm) : dt_O B n0 E N Q d m r u v k fx (fm.bind fun p => (if p.1 = 0 ∨ p.1 = 1 then (some ((p.1, p.2))) else none)) := by
  rcases h with ⟨x, a, b, c, u', v', k', h1, h2, h3⟩ | ⟨u', v', h1, h2, h3⟩
  · exact Or.inl ⟨x, a, b, c, u', v', k', h1, dw_1 h2, h3⟩
  · exact Or.inr ⟨u', v', h1, dw_0 h2, h3⟩
theorem dt_O.mono (h : dt_O B n0 E N Q d m r u v k fx fm) (hq : ∀ x a b c c0 c1 c2 c5, Q x a b c c0 c1 c2 c5 → Q' x a b c c0 c1 c2 c5) : dt_O B n0 E N Q' d m r u v k fx fm := by
  rcases h with ⟨x, a, b, c, u', v', k', h1, h2, h3, h4, h5, h6, h7⟩ | h
  · exact Or.inl ⟨x, a, b, c, u', v', k', h1, h2, h3, h4, h5, h6, hq _ _ _ _ _ _ _ _ h7⟩
  · exact Or.inr h
theorem do_when (S : dt_S B n0 E N A b d m r u v k) : dt_O B n0 E N (dt_wh A) d m r u v k ((fDT_beginStep_148 24 u).bind fun p12 => fDT_takeStep p12.1 p12.2) (fM_dayOrder 24 r v) := by
  have hr := S.hr
  have ex : ((fDT_beginStep_148 24 u).bind fun p12 => fDT_takeStep p12.1 p12.2) = ((fDT_beginTest u).bind fun p12 => fDT_takeStep p12.1 p12.2) := by
    unfold fDT_beginStep_148
    rw [if_pos rfl]
    cases fDT_beginTest u <;> rfl
  have em : fM_dayOrder 24 r v = ((fM_test r v).bind fun p => (if p.1 = 0 ∨ p.1 = 1 then (some ((p.1, p.2))) else none)) := rfl
  rw [ex, em]
  have bad : fDT_beginTest u = ((fR_fail 2 u).bind fun p6 => (some (((-1), p6.2)))) → fM_test r v = ((fM_fails 2 v).bind fun p6 => (if p6.1 = 0 ∨ p6.1 = 1 then (some ((p6.1, p6.2))) else none)) → dt_O B n0 E N (dt_wh A) d m r u v k ((fDT_beginTest u).bind fun p12 => fDT_takeStep p12.1 p12.2) ((fM_test r v).bind fun p => (if p.1 = 0 ∨ p.1 = 1 then (some ((p.1, p.2))) else none)) := fun h1 h2 => by
    obtain ⟨u3, v3, g1, g2, F3, x3, y3⟩ := tk_fail S.hJ (x := 2) (by decide)
    refine Or.inr ⟨u3, v3, ?_, ?_, F3, x3, y3.d⟩
    · rw [h1, g1, Option.bind_some, Option.bind_some]
      exact dx_tn u3
    · rw [h2]
      exact dw_0 (dw_0 g2)
  -- the test's word is taken
  have goon : ∀ (i : Nat) (z : Int), u 31 0 k = 5 → u 33 0 k = i → ∃ u2 v2, fR_takeWord i u = some (1, u2) ∧ fM_ahead (pj_set v 60 0 r z) = some v2 ∧ dt_S B n0 E N A b d m r u2 v2 (k + 1) ∧ tk_xf u u2 ∧ dv_f r v v2 ∧ v2 60 0 r = z := fun i z h5 h6 => by
    obtain ⟨u2, v2, a1, a2, a3, a4, a5⟩ := tk_word (S.hJ.ex (u' := u) (v' := pj_set v 60 0 r z) (fun _ _ _ _ => rfl) (fun k i s hk => pj_sne (by omega))) h5 h6
    exact ⟨u2, v2, a1, a2, S.ex a3 a4 (dv_f.s a5 (by omega) (by omega)), a4, dv_f.s a5 (by omega) (by omega), (a5 60 0 r (by omega)).trans pj_set_at⟩
  rcases tk_here S.hJ with ⟨i, hi, w1, w2, h5, h6⟩ | ⟨w1, w2, h5⟩
  · by_cases c25 : i = 25
    · subst c25
      obtain ⟨u2, v2, a1, a2, S2, x2, y2, hy⟩ := goon 25 2428 h5 h6
      have e1 : fDT_beginTest u = some (25, u2) := by
        unfold fDT_beginTest fDT_beginTest_37
        have a1' : fR_takeWord 25 u = some (1, u2) := a1
        rw [w1, Option.bind_some, if_pos (show ((25 : Nat) : Int) = 25 from rfl), show ((25 : Nat) : Int) = 25 from rfl, a1', Option.bind_some]
      have e2 : fM_test r v = ((fM_finderTo (pj_wr (r + 1)) v2).bind fun p8 => (if p8.1 = 0 then (some ((0, p8.2))) else ((fM_isSign 60 p8.2).bind fun p18 => (if p18 = 0 then ((fM_isSign 62 p8.2).bind fun p21 => (if p21 = 0 then ((fM_isSign 61 p8.2).bind fun p24 => (if p24 = 0 then ((fM_fails 2 p8.2).bind fun p27 => (if p27.1 = 0 ∨ p27.1 = 1 then (some ((p27.1, p27.2))) else none)) else (fM_test_138 r p8.2))) else (fM_test_138 r p8.2))) else (fM_test_138 r p8.2))))) := by
        unfold fM_test
        rw [w2, Option.bind_some, if_pos (show ((tk_kx 25 : Nat) : Int) = 28 from rfl), show ((tk_kx 25 : Nat) : Int) = 28 from rfl]
        unfold fM_test_31
        rw [if_pos (by omega), show pj_wr (2400 + 28) = 2428 from pj_wr_id (by decide) (by decide), a2, Option.bind_some]
        rfl
      rw [e1, e2, Option.bind_some]
      dsimp only
      rw [dx_t25]
      exact ((do_leads S2 hy).lift x2 y2 (by omega)).wx.wm
    by_cases c15 : i = 15
    · subst c15
      obtain ⟨u2, v2, a1, a2, S2, x2, y2, hy⟩ := goon 15 2415 h5 h6
      have e1 : fDT_beginTest u = some (15, u2) := by
        unfold fDT_beginTest fDT_beginTest_37
        have a1' : fR_takeWord 15 u = some (1, u2) := a1
        rw [w1, Option.bind_some, if_neg (show ¬ ((15 : Nat) : Int) = 25 by decide), if_pos (show ((15 : Nat) : Int) = 15 from rfl), show ((15 : Nat) : Int) = 15 from rfl, a1', Option.bind_some]
      have e2 : fM_test r v = fM_dayOrder_94 r v2 := by
        unfold fM_test
        rw [w2, Option.bind_some, if_neg (show ¬ ((tk_kx 15 : Nat) : Int) = 28 by decide), if_pos (show ((tk_kx 15 : Nat) : Int) = 15 from rfl), show ((tk_kx 15 : Nat) : Int) = 15 from rfl]
        unfold fM_test_31
        rw [if_pos (by omega), show pj_wr (2400 + 15) = 2415 from pj_wr_id (by decide) (by decide), a2, Option.bind_some]
        rfl
      rw [e1, e2, Option.bind_some]
      dsimp only
      rw [dx_t15]
      have h : dt_O B n0 E N (dt_wh A) d m r u2 v2 (k + 1) (fDT_takeOnFind 15 u2) (fM_dayOrder_94 r v2) := by
        rcases do_on S2 15 with ⟨z, t, u3, v3, k3, hz, ht, g1, g2, g3, g4, g5, g6, g7, g8, g9⟩ | h
        · refine Or.inl ⟨15, z, t, 0, u3, v3, k3, g1, g2, g3, g4, g5, g6, ?_⟩
          rw [g7, g8, g9, hy]
          exact Or.inr (Or.inl ⟨rfl, rfl, rfl, rfl, hz, ht⟩)
        · exact Or.inr h
      exact (h.lift x2 y2 (by omega)).wx.wm
    by_cases c26 : i = 26
    · subst c26
      obtain ⟨u2, v2, a1, a2, S2, x2, y2, hy⟩ := goon 26 2429 h5 h6
      have e1 : fDT_beginTest u = some (26, u2) := by
        unfold fDT_beginTest fDT_beginTest_37
        have a1' : fR_takeWord 26 u = some (1, u2) := a1
        rw [w1, Option.bind_some, if_neg (show ¬ ((26 : Nat) : Int) = 25 by decide), if_neg (show ¬ ((26 : Nat) : Int) = 15 by decide), if_pos (show ((26 : Nat) : Int) = 26 from rfl), show ((26 : Nat) : Int) = 26 from rfl, a1', Option.bind_some]
      have e2 : fM_test r v = ((fM_findTo (pj_wr (r + 1)) v2).bind fun p5 => (if p5.1 = 0 ∨ p5.1 = 1 then (some ((p5.1, p5.2))) else none)) := by
        unfold fM_test
        rw [w2, Option.bind_some, if_neg (show ¬ ((tk_kx 26 : Nat) : Int) = 28 by decide), if_neg (show ¬ ((tk_kx 26 : Nat) : Int) = 15 by decide), if_pos (show ((tk_kx 26 : Nat) : Int) = 29 from rfl), show ((tk_kx 26 : Nat) : Int) = 29 from rfl]
        unfold fM_test_31
        rw [if_pos (by omega), show pj_wr (2400 + 29) = 2429 from pj_wr_id (by decide) (by decide), a2, Option.bind_some]
        rfl
      rw [e1, e2, Option.bind_some]
      dsimp only
      rw [dx_t26]
      exact ((do_free S2 hy).lift x2 y2 (by omega)).wx.wm
    have ck : ∀ j : Nat, j < 30 → i ≠ j → tk_kx i ≠ tk_kx j := fun j hj hne e => hne (congrArg Fin.val (tk_kx_i ⟨i, hi⟩ ⟨j, hj⟩ e))
    have k25 := ck 25 (by decide) c25
    have k15 := ck 15 (by decide) c15
    have k26 := ck 26 (by decide) c26
    rw [show tk_kx 25 = 28 from rfl] at k25
    rw [show tk_kx 15 = 15 from rfl] at k15
    rw [show tk_kx 26 = 29 from rfl] at k26
    refine bad ?_ ?_
    · unfold fDT_beginTest
      rw [w1, Option.bind_some, if_neg (by omega), if_neg (by omega), if_neg (by omega)]
    · unfold fM_test
      rw [w2, Option.bind_some, if_neg (by omega), if_neg (by omega), if_neg (by omega)]
  · refine bad ?_ ?_
    · unfold fDT_beginTest
      rw [w1, Option.bind_some, if_neg (by decide), if_neg (by decide), if_neg (by decide)]
    · unfold fM_test
      rw [w2, Option.bind_some, if_neg (by decide), if_neg (by decide), if_neg (by decide)]
def dt_Q (A : pj_Q) (i : Nat) (x a b c c0 c1 c2 c5 : Int) : Prop := (i ≠ 24 ∧ i ≠ 27 ∧ dt_pl A x a b c c0 c1 c2 c5) ∨ (i = 27 ∧ dt_lo A x a b c c0 c1 c2 c5) ∨ (i = 24 ∧ dt_wh A x a b c c0 c1 c2 c5)
theorem do_order (S : dt_S B n0 E N A b d m r u v k) {i : Nat} (hi : i = 1 ∨ (18 ≤ i ∧ i ≤ 24) ∨ i = 27 ∨ i = 29) (hy : v 60 0 r = ((tk_kx i : Nat) : Int)) : dt_O B n0 E N (dt_Q A i) d m r u v k ((fDT_beginStep_148 i u).bind fun p12 => fDT_takeStep p12.1 p12.2) (fM_dayOrder ((tk_kx i : Nat) : Int) r v) := by
  have hr := S.hr
  have pl : ∀ {fx fm : Option (Int × pj_W)}, i ≠ 24 → i ≠ 27 → dt_O B n0 E N (dt_pl A) d m r u v k fx fm → dt_O B n0 E N (dt_Q A i) d m r u v k fx fm := fun h1 h2 h => h.mono (fun x a b c c0 c1 c2 c5 hq => Or.inl ⟨h1, h2, hq⟩)
  have on : ∀ x : Int, (x = 19 ∨ x = 21) → v 60 0 r = x → dt_O B n0 E N (dt_pl A) d m r u v k (fDT_takeOnFind x u) (fM_dayOrder_94 r v) := fun x hx hyx => by
    rcases do_on S x with ⟨z, t, u3, v3, k3, hz, ht, g1, g2, g3, g4, g5, g6, g7, g8, g9⟩ | h
    · refine Or.inl ⟨x, z, t, 0, u3, v3, k3, g1, g2, g3, g4, g5, g6, ?_⟩
      rw [g7, g8, g9, hyx]
      exact Or.inr (Or.inl ⟨by omega, rfl, rfl, hz, ht⟩)
    · exact Or.inr h
  have single : ∀ x : Int, (x = 1 ∧ v 60 0 r = 1 ∨ x = 29 ∧ v 60 0 r = 27) → dt_O B n0 E N (dt_pl A) d m r u v k (fDT_takeStep_205 x u) (some (1, v)) := fun x hx => by
    obtain ⟨u3, h1, h2, h3⟩ := dt_add S x 0 0 0
    refine Or.inl ⟨x, 0, 0, 0, u3, v, k, ?_, rfl, by omega, h3, h2, fun _ _ _ _ _ => rfl, ?_⟩
    · unfold fDT_takeStep_205
      exact dw_1 h1
    · rcases hx with ⟨e1, e2⟩ | ⟨e1, e2⟩
      · exact Or.inr (Or.inr (Or.inr (Or.inr (Or.inr (Or.inl ⟨e1, e2⟩)))))
      · exact Or.inr (Or.inr (Or.inr (Or.inr (Or.inr (Or.inr ⟨e1, e2⟩)))))
  by_cases c1 : i = 1
  · subst c1
    exact pl (by decide) (by decide) (single 1 (Or.inl ⟨rfl, hy⟩))
  by_cases c29 : i = 29
  · subst c29
    exact pl (by decide) (by decide) (single 29 (Or.inr ⟨rfl, hy⟩))
  by_cases c18 : i = 18
  · subst c18
    exact pl (by decide) (by decide) (do_go S hy).wx
  by_cases c19 : i = 19
  · subst c19
    exact pl (by decide) (by decide) (on 19 (Or.inl rfl) hy).wx
  by_cases c20 : i = 20
  · subst c20
    exact pl (by decide) (by decide) (do_wait S hy).wx
  by_cases c21 : i = 21
  · subst c21
    exact pl (by decide) (by decide) (on 21 (Or.inr rfl) hy).wx
  by_cases c22 : i = 22
  · subst c22
    refine pl (by decide) (by decide) ?_
    have h : dt_O B n0 E N (dt_pl A) d m r u v k (fDT_takeOnlyNumber 22 0 16 u) (fM_number (pj_wr (r + 1)) 0 16 v) := by
      rcases do_num S (x := 22) (lo := 0) (hi := 16) with ⟨z, u3, v3, z0, z1, g1, g2, g3, g4, g5, g6, g7⟩ | h
      · refine Or.inl ⟨22, z, 0, 0, u3, v3, k + 1, g1, g2, by omega, g3, g4, g5, ?_⟩
        rw [g6, g7, hy]
        exact Or.inr (Or.inr (Or.inr (Or.inl ⟨rfl, rfl, rfl, z0, z1⟩)))
      · exact Or.inr h
    exact h.wx.wm
  by_cases c23 : i = 23
  · subst c23
    refine pl (by decide) (by decide) ?_
    have h : dt_O B n0 E N (dt_pl A) d m r u v k (fDT_takeOnlyNumber 23 0 40 u) (fM_number (pj_wr (r + 1)) 0 40 v) := by
      rcases do_num S (x := 23) (lo := 0) (hi := 40) with ⟨z, u3, v3, z0, z1, g1, g2, g3, g4, g5, g6, g7⟩ | h
      · refine Or.inl ⟨23, z, 0, 0, u3, v3, k + 1, g1, g2, by omega, g3, g4, g5, ?_⟩
        rw [g6, g7, hy]
        exact Or.inr (Or.inr (Or.inr (Or.inr (Or.inl ⟨rfl, rfl, rfl, z0, z1⟩))))
      · exact Or.inr h
    exact h.wx.wm
  by_cases c24 : i = 24
  · subst c24
    exact (do_when S).mono (fun x a b c c0 c1 c2 c5 hq => Or.inr (Or.inr ⟨rfl, hq⟩))
  have c27 : i = 27 := by omega
  subst c27
  have h : dt_O B n0 E N (dt_lo A) d m r u v k (fDT_takeOnlyNumber 27 1 99 u) (fM_number (pj_wr (r + 1)) 1 99 v) := by
    rcases do_num S (x := 27) (lo := 1) (hi := 99) with ⟨z, u3, v3, z0, z1, g1, g2, g3, g4, g5, g6, g7⟩ | h
    · refine Or.inl ⟨27, z, 0, 0, u3, v3, k + 1, g1, g2, by omega, g3, g4, g5, ?_⟩
      rw [g6, g7, hy]
      exact ⟨rfl, rfl, rfl, z0, z1⟩
    · exact Or.inr h
  exact h.wx.wm.mono (fun x a b c c0 c1 c2 c5 hq => Or.inr (Or.inl ⟨rfl, hq⟩))
end
