/-! printed by wip/whole/gen.py: each method as a function of numbers and worlds, and its contract -/
section
variable {l : Launch} {g : pj_G} {n0 : Nat} {o : Option pj_V × pj_W} {ph : Bool}
noncomputable def fX_odds_121b (x2 : Int) (x5 : Int) (w : pj_W) (x6 : Int) (x8 : Int) (x10 : Int) : Option ((Int × Int × Int) ⊕ (Int × pj_W)) :=
  if x5 ≤ x10 then ((fX_tellFraction x6 x8 w).bind fun p2 => ((fX_grant p2).bind fun p4 => (if p4.1 = 0 ∨ p4.1 = 1 then (some (Sum.inr ((p4.1, p4.2)))) else none))) else (some (Sum.inl ((pj_wl (x6 * (pj_wr (16 - x2)))), (pj_wl (x8 * 16)), (pj_wr (x10 + 1)))))
noncomputable def fX_odds_121 (x2 : Int) (x5 : Int) (w : pj_W) (s : (Int × Int × Int)) : Option (Int × pj_W) := pj_Lp (fun s : (Int × Int × Int) => fX_odds_121b x2 x5 w s.1 s.2.1 s.2.2) s
noncomputable def fX_odds_113 (x2 : Int) (x5 : Int) (s0 : Int) (w : pj_W) : Option (Int × pj_W) :=
  fX_odds_121 x2 x5 w (s0, 1, 0)
noncomputable def fX_odds_34  (w : pj_W) : Option (Int × pj_W) :=
  (fX_deny 1 w).bind fun p1 => (if p1.1 = 0 ∨ p1.1 = 1 then (some ((p1.1, p1.2))) else none)
noncomputable def fX_odds (x1 : Int) (x2 : Int) (x3 : Int) (w : pj_W) : Option (Int × pj_W) :=
  if 0 ≤ (w 10 0 10) then ((fB_findAt (w 10 0 10) x1 w).bind fun p2 => (if p2 < 0 then (fX_odds_34 w) else (if x2 < 0 then (fX_odds_34 w) else (if 16 < x2 then (fX_odds_34 w) else (if x3 < 0 then (fX_odds_34 w) else (if x3 ≤ 1 then (if (w 23 p2 5) = 0 then ((fX_deny 7 w).bind fun p10 => (if p10.1 = 0 ∨ p10.1 = 1 then (some ((p10.1, p10.2))) else none)) else (if (w 23 p2 6) = 0 then ((fX_deny 6 w).bind fun p14 => (if p14.1 = 0 ∨ p14.1 = 1 then (some ((p14.1, p14.2))) else none)) else ((fN_latestMinute p2 w).bind fun p17 => (if (pj_wr ((w 19 (w 10 0 10) 3) - p17)) ≤ 12 then (fX_odds_113 x2 (pj_wr ((w 19 (w 10 0 10) 3) - p17)) (if x3 = 0 then 1 else (w 23 p2 4)) w) else ((fX_deny 7 w).bind fun p21 => (if p21.1 = 0 ∨ p21.1 = 1 then (some ((p21.1, p21.2))) else none)))))) else (fX_odds_34 w))))))) else none
theorem tX_odds_121b {Go : pj_C → Prop} (hM : pj_M l yX11_odds cX11_odds 11 (some .boolean) 2 56 true g n0 o Go) (x2 : Int) (x5 : Int) (w : pj_W) (x6 : Int) (x8 : Int) (x10 : Int)  (R : (Int × Int × Int) ⊕ (Int × pj_W) → Prop) (h0 : ∀ r, R (Sum.inr (r)) → ((some (0, r.1) : Option pj_V), r.2) = o) (hk121 : ∀ s, R (Sum.inl s) → Go (121, [(10, 0), (9, 0), (0, x2), (9, 0), (9, 0), (0, x5), (1, s.1), (9, 0), (1, s.2.1), (9, 0), (0, s.2.2)], [], w)) : pj_TG R (fX_odds_121b x2 x5 w x6 x8 x10) (Go (121, [(10, 0), (9, 0), (0, x2), (9, 0), (9, 0), (0, x5), (1, x6), (9, 0), (1, x8), (9, 0), (0, x10)], [], w)) := by
  unfold fX_odds_121b
  refine pj_map (fun k => pj_iload hM (pc := 121) dX11_odds_121 rfl (pj_iload hM (pc := 123) dX11_odds_123 rfl k)) ?_
  refine pj_tif (fun h1 => ?_) (fun h1 => ?_)
  · refine pj_tbind (fun p2 h3 => ?_)
    refine pj_tbind (fun p4 h5 => ?_)
    refine pj_tgd (fun h6 => ?_)
    exact pj_tret (fun hr => pj_ic_ge_t hM (pc := 125) dX11_odds_125 rfl h1 (pj_aload_n hM (pc := 152) dX11_odds_152 rfl rfl (pj_lload hM (pc := 153) dX11_odds_153 rfl (pj_lload hM (pc := 155) dX11_odds_155 rfl (pj_cVv hM (pc := 157) (cX_tellFraction x6 x8 w p2 h3) dX11_odds_157 mf_X11_tellFraction mv_X11_tellFraction ml_X11_350 kc_10 rfl rfl (by decide) rfl rfl (pj_aload_n hM (pc := 160) dX11_odds_160 rfl rfl (pj_cV hM (pc := 161) (cX_grant p2 p4 h5) dX11_odds_161 mf_X11_grant mv_X11_grant ml_X11_122 kc_10 rfl rfl (by decide) rfl rfl (pj_ret hM (pc := 164) dX11_odds_164 ⟨_, rfl, h6⟩ (h0 ((p4.1, p4.2)) hr) rfl))))))))
  exact pj_tret (fun hr => pj_ic_ge_f hM (pc := 125) 152 dX11_odds_125 rfl h1 (pj_lload hM (pc := 128) dX11_odds_128 rfl (pj_bipush hM (pc := 130) dX11_odds_130 (by decide) (pj_iload_n hM (pc := 132) dX11_odds_132 rfl (pj_isub hM (pc := 133) dX11_odds_133 (pj_i2l hM (pc := 134) dX11_odds_134 (pj_lmul hM (pc := 135) dX11_odds_135 (pj_lstore hM (pc := 136) dX11_odds_136 (by decide) (lls' := [(10, 0), (9, 0), (0, x2), (9, 0), (9, 0), (0, x5), (1, (pj_wl (x6 * (pj_wr (16 - x2))))), (9, 0), (1, x8), (9, 0), (0, x10)]) rfl (pj_lload hM (pc := 138) dX11_odds_138 rfl (pj_ldc2 hM (pc := 140) (z := 16) dX11_odds_140 kn_X11_348 rfl (by decide) (pj_lmul hM (pc := 143) dX11_odds_143 (pj_lstore hM (pc := 144) dX11_odds_144 (by decide) (lls' := [(10, 0), (9, 0), (0, x2), (9, 0), (9, 0), (0, x5), (1, (pj_wl (x6 * (pj_wr (16 - x2))))), (9, 0), (1, (pj_wl (x8 * 16))), (9, 0), (0, x10)]) rfl (pj_iinc hM (pc := 146) dX11_odds_146 rfl (by decide) (lls' := [(10, 0), (9, 0), (0, x2), (9, 0), (9, 0), (0, x5), (1, (pj_wl (x6 * (pj_wr (16 - x2))))), (9, 0), (1, (pj_wl (x8 * 16))), (9, 0), (0, (pj_wr (x10 + 1)))]) rfl (pj_goto hM (pc := 149) dX11_odds_149 rfl (pj_kill hM [true, false, true, false, false, true, true, false, true, false, true] (lls' := [(10, 0), (9, 0), (0, x2), (9, 0), (9, 0), (0, x5), (1, (pj_wl (x6 * (pj_wr (16 - x2))))), (9, 0), (1, (pj_wl (x8 * 16))), (9, 0), (0, (pj_wr (x10 + 1)))]) rfl ((hk121 _ hr)))))))))))))))))
theorem tX_odds_121 {Go : pj_C → Prop} (hM : pj_M l yX11_odds cX11_odds 11 (some .boolean) 2 56 true g n0 o Go) (x2 : Int) (x5 : Int) (w : pj_W)  (R : Int × pj_W → Prop) (h0 : ∀ r, R (r) → ((some (0, r.1) : Option pj_V), r.2) = o) (s : (Int × Int × Int)) : pj_TG R (fX_odds_121 x2 x5 w s) (Go (121, [(10, 0), (9, 0), (0, x2), (9, 0), (9, 0), (0, x5), (1, s.1), (9, 0), (1, s.2.1), (9, 0), (0, s.2.2)], [], w)) := by
  unfold fX_odds_121
  exact pj_tLp (G := fun s : (Int × Int × Int) => Go (121, [(10, 0), (9, 0), (0, x2), (9, 0), (9, 0), (0, x5), (1, s.1), (9, 0), (1, s.2.1), (9, 0), (0, s.2.2)], [], w)) (fun s => tX_odds_121b hM x2 x5 w s.1 s.2.1 s.2.2  _ (fun r h => h0 r h)  (fun s h => h)) s
theorem tX_odds_113 {Go : pj_C → Prop} (hM : pj_M l yX11_odds cX11_odds 11 (some .boolean) 2 56 true g n0 o Go) (x2 : Int) (x5 : Int) (s0 : Int) (w : pj_W)  (R : Int × pj_W → Prop) (h0 : ∀ r, R (r) → ((some (0, r.1) : Option pj_V), r.2) = o) : pj_TG R (fX_odds_113 x2 x5 s0 w) (Go (113, [(10, 0), (9, 0), (0, x2), (9, 0), (9, 0), (0, x5), (9, 0), (9, 0), (9, 0), (9, 0), (9, 0)], [(1, s0)], w)) := by
  unfold fX_odds_113
  refine pj_map (fun k => pj_lstore hM (pc := 113) dX11_odds_113 (by decide) (lls' := [(10, 0), (9, 0), (0, x2), (9, 0), (9, 0), (0, x5), (1, s0), (9, 0), (9, 0), (9, 0), (9, 0)]) rfl (pj_lconst hM (pc := 115) (z := 1) dX11_odds_115 rfl (by decide) (pj_lstore hM (pc := 116) dX11_odds_116 (by decide) (lls' := [(10, 0), (9, 0), (0, x2), (9, 0), (9, 0), (0, x5), (1, s0), (9, 0), (1, 1), (9, 0), (9, 0)]) rfl (pj_iconst hM (pc := 118) dX11_odds_118 (by decide) (pj_istore hM (pc := 119) dX11_odds_119 (by decide) (lls' := [(10, 0), (9, 0), (0, x2), (9, 0), (9, 0), (0, x5), (1, s0), (9, 0), (1, 1), (9, 0), (0, 0)]) rfl (pj_kill hM [true, false, true, false, false, true, true, false, true, false, true] (lls' := [(10, 0), (9, 0), (0, x2), (9, 0), (9, 0), (0, x5), (1, s0), (9, 0), (1, 1), (9, 0), (0, 0)]) rfl k)))))) ?_
  exact tX_odds_121 hM x2 x5 w _ h0 _
theorem tX_odds_34 {Go : pj_C → Prop} (hM : pj_M l yX11_odds cX11_odds 11 (some .boolean) 2 56 true g n0 o Go)  (w : pj_W)  (R : Int × pj_W → Prop) (h0 : ∀ r, R (r) → ((some (0, r.1) : Option pj_V), r.2) = o) : pj_TG R (fX_odds_34  w) (Go (34, [(10, 0), (9, 0), (9, 0), (9, 0), (9, 0), (9, 0), (9, 0), (9, 0), (9, 0), (9, 0), (9, 0)], [], w)) := by
  unfold fX_odds_34
  refine pj_tbind (fun p1 h2 => ?_)
  refine pj_tgd (fun h3 => ?_)
  exact pj_tret (fun hr => pj_aload_n hM (pc := 34) dX11_odds_34 rfl rfl (pj_iconst hM (pc := 35) dX11_odds_35 (by decide) (pj_cV hM (pc := 36) (cX_deny 1 w p1 h2) dX11_odds_36 mf_X11_deny mv_X11_deny ml_X11_114 kc_10 rfl rfl (by decide) rfl rfl (pj_ret hM (pc := 39) dX11_odds_39 ⟨_, rfl, h3⟩ (h0 ((p1.1, p1.2)) hr) rfl))))
theorem tX_odds {Go : pj_C → Prop} (hM : pj_M l yX11_odds cX11_odds 11 (some .boolean) 2 56 true g n0 o Go) (x1 : Int) (x2 : Int) (x3 : Int) (w : pj_W)  (R : Int × pj_W → Prop) (h0 : ∀ r, R (r) → ((some (0, r.1) : Option pj_V), r.2) = o) : pj_TG R (fX_odds x1 x2 x3 w) (Go (0, [(10, 0), (0, x1), (0, x2), (0, x3), (9, 0), (9, 0), (9, 0), (9, 0), (9, 0), (9, 0), (9, 0)], [], w)) := by
  unfold fX_odds
  refine pj_tgd (fun h1 => ?_)
  refine pj_tbind (fun p2 h3 => ?_)
  refine pj_map (fun k => pj_aload_n hM (pc := 0) dX11_odds_0 rfl rfl (pj_gf hM (pc := 1) (t := 19) dX11_odds_1 fl_X11_69 (by decide) rfl 10 rfl (pj_iload_n hM (pc := 4) dX11_odds_4 rfl (pj_cV hM (pc := 5) (cB_findAt (w 10 0 10) x1 h1 w p2 h3) dX11_odds_5 mf_X0_findAt mv_X0_findAt ml_X11_237 kc_19 rfl rfl h1 rfl rfl (pj_astore hM (pc := 8) dX11_odds_8 (by decide) (by decide) (lls' := [(10, 0), (0, x1), (0, x2), (0, x3), (23, p2), (9, 0), (9, 0), (9, 0), (9, 0), (9, 0), (9, 0)]) rfl (pj_aload hM (pc := 10) dX11_odds_10 rfl rfl k)))))) ?_
  refine pj_tif (fun h4 => ?_) (fun h4 => ?_)
  · refine pj_map (fun k => pj_null_t hM (pc := 12) dX11_odds_12 rfl (by decide) h4 (pj_kill hM [true, false, false, false, false, false, false, false, false, false, false] (lls' := [(10, 0), (9, 0), (9, 0), (9, 0), (9, 0), (9, 0), (9, 0), (9, 0), (9, 0), (9, 0), (9, 0)]) rfl k)) ?_
    exact tX_odds_34 hM w _ h0
  refine pj_map (fun k => pj_null_f hM (pc := 12) 34 dX11_odds_12 rfl (by decide) h4 (pj_iload_n hM (pc := 15) dX11_odds_15 rfl k)) ?_
  refine pj_tif (fun h5 => ?_) (fun h5 => ?_)
  · refine pj_map (fun k => pj_if_lt_t hM (pc := 16) dX11_odds_16 rfl h5 (pj_kill hM [true, false, false, false, false, false, false, false, false, false, false] (lls' := [(10, 0), (9, 0), (9, 0), (9, 0), (9, 0), (9, 0), (9, 0), (9, 0), (9, 0), (9, 0), (9, 0)]) rfl k)) ?_
    exact tX_odds_34 hM w _ h0
  refine pj_map (fun k => pj_if_lt_f hM (pc := 16) 34 dX11_odds_16 rfl h5 (pj_iload_n hM (pc := 19) dX11_odds_19 rfl (pj_bipush hM (pc := 20) dX11_odds_20 (by decide) k))) ?_
  refine pj_tif (fun h6 => ?_) (fun h6 => ?_)
  · refine pj_map (fun k => pj_ic_gt_t hM (pc := 22) dX11_odds_22 rfl h6 (pj_kill hM [true, false, false, false, false, false, false, false, false, false, false] (lls' := [(10, 0), (9, 0), (9, 0), (9, 0), (9, 0), (9, 0), (9, 0), (9, 0), (9, 0), (9, 0), (9, 0)]) rfl k)) ?_
    exact tX_odds_34 hM w _ h0
  refine pj_map (fun k => pj_ic_gt_f hM (pc := 22) 34 dX11_odds_22 rfl h6 (pj_iload_n hM (pc := 25) dX11_odds_25 rfl k)) ?_
  refine pj_tif (fun h7 => ?_) (fun h7 => ?_)
  · refine pj_map (fun k => pj_if_lt_t hM (pc := 26) dX11_odds_26 rfl h7 (pj_kill hM [true, false, false, false, false, false, false, false, false, false, false] (lls' := [(10, 0), (9, 0), (9, 0), (9, 0), (9, 0), (9, 0), (9, 0), (9, 0), (9, 0), (9, 0), (9, 0)]) rfl k)) ?_
    exact tX_odds_34 hM w _ h0
  refine pj_map (fun k => pj_if_lt_f hM (pc := 26) 34 dX11_odds_26 rfl h7 (pj_iload_n hM (pc := 29) dX11_odds_29 rfl (pj_iconst hM (pc := 30) dX11_odds_30 (by decide) k))) ?_
  refine pj_tif (fun h8 => ?_) (fun h8 => ?_)
  · refine pj_map (fun k => pj_ic_le_t hM (pc := 31) dX11_odds_31 rfl h8 (pj_aload hM (pc := 40) dX11_odds_40 rfl rfl (pj_gf hM (pc := 42) (t := 0) dX11_odds_42 fl_X11_287 (Int.not_lt.mp h4) rfl 5 rfl k))) ?_
    refine pj_tif (fun h9 => ?_) (fun h9 => ?_)
    · refine pj_tbind (fun p10 h11 => ?_)
      refine pj_tgd (fun h12 => ?_)
      exact pj_tret (fun hr => pj_if_ne_f hM (pc := 45) 55 dX11_odds_45 rfl (fun q => q h9) (pj_aload_n hM (pc := 48) dX11_odds_48 rfl rfl (pj_bipush hM (pc := 49) dX11_odds_49 (by decide) (pj_cV hM (pc := 51) (cX_deny 7 w p10 h11) dX11_odds_51 mf_X11_deny mv_X11_deny ml_X11_114 kc_10 rfl rfl (by decide) rfl rfl (pj_ret hM (pc := 54) dX11_odds_54 ⟨_, rfl, h12⟩ (h0 ((p10.1, p10.2)) hr) rfl)))))
    refine pj_map (fun k => pj_if_ne_t hM (pc := 45) dX11_odds_45 rfl h9 (pj_aload hM (pc := 55) dX11_odds_55 rfl rfl (pj_gf hM (pc := 57) (t := 0) dX11_odds_57 fl_X11_247 (Int.not_lt.mp h4) rfl 6 rfl k))) ?_
    refine pj_tif (fun h13 => ?_) (fun h13 => ?_)
    · refine pj_tbind (fun p14 h15 => ?_)
      refine pj_tgd (fun h16 => ?_)
      exact pj_tret (fun hr => pj_if_ne_f hM (pc := 60) 70 dX11_odds_60 rfl (fun q => q h13) (pj_aload_n hM (pc := 63) dX11_odds_63 rfl rfl (pj_bipush hM (pc := 64) dX11_odds_64 (by decide) (pj_cV hM (pc := 66) (cX_deny 6 w p14 h15) dX11_odds_66 mf_X11_deny mv_X11_deny ml_X11_114 kc_10 rfl rfl (by decide) rfl rfl (pj_ret hM (pc := 69) dX11_odds_69 ⟨_, rfl, h16⟩ (h0 ((p14.1, p14.2)) hr) rfl)))))
    refine pj_tbind (fun p17 h18 => ?_)
    refine pj_map (fun k => pj_if_ne_t hM (pc := 60) dX11_odds_60 rfl h13 (pj_aload_n hM (pc := 70) dX11_odds_70 rfl rfl (pj_gf hM (pc := 71) (t := 19) dX11_odds_71 fl_X11_69 (by decide) rfl 10 rfl (pj_gf hM (pc := 74) (t := 0) dX11_odds_74 fl_X11_197 h1 rfl 3 rfl (pj_aload hM (pc := 77) dX11_odds_77 rfl rfl (pj_cV hM (pc := 79) (cN_latestMinute p2 (Int.not_lt.mp h4) w p17 h18) dX11_odds_79 mf_X4_latestMinute mv_X4_latestMinute ml_X11_345 kc_23 rfl rfl (Int.not_lt.mp h4) rfl rfl (pj_isub hM (pc := 82) dX11_odds_82 (pj_istore hM (pc := 83) dX11_odds_83 (by decide) (lls' := [(10, 0), (0, x1), (0, x2), (0, x3), (23, p2), (0, (pj_wr ((w 19 (w 10 0 10) 3) - p17))), (9, 0), (9, 0), (9, 0), (9, 0), (9, 0)]) rfl (pj_iload hM (pc := 85) dX11_odds_85 rfl (pj_bipush hM (pc := 87) dX11_odds_87 (by decide) k)))))))))) ?_
    refine pj_tif (fun h19 => ?_) (fun h19 => ?_)
    · refine pj_map (fun k => pj_ic_le_t hM (pc := 89) dX11_odds_89 rfl h19 (pj_iload_n hM (pc := 99) dX11_odds_99 rfl k)) ?_
      refine pj_tJ (fun v : Int => fX_odds_113 x2 (pj_wr ((w 19 (w 10 0 10) 3) - p17)) v w) (fun h20 => ?_) (fun h20 => ?_)
      · refine pj_map (fun k => pj_if_ne_f hM (pc := 100) 107 dX11_odds_100 rfl (fun q => q h20) (pj_lconst hM (pc := 103) (z := 1) dX11_odds_103 rfl (by decide) (pj_goto hM (pc := 104) dX11_odds_104 rfl (pj_kill hM [true, false, true, false, false, true, false, false, false, false, false] (lls' := [(10, 0), (9, 0), (0, x2), (9, 0), (9, 0), (0, (pj_wr ((w 19 (w 10 0 10) 3) - p17))), (9, 0), (9, 0), (9, 0), (9, 0), (9, 0)]) rfl k)))) ?_
        exact tX_odds_113 hM x2 (pj_wr ((w 19 (w 10 0 10) 3) - p17)) 1 w _ h0
      refine pj_map (fun k => pj_if_ne_t hM (pc := 100) dX11_odds_100 rfl h20 (pj_aload hM (pc := 107) dX11_odds_107 rfl rfl (pj_gf hM (pc := 109) (t := 0) dX11_odds_109 fl_X11_244 (Int.not_lt.mp h4) rfl 4 rfl (pj_i2l hM (pc := 112) dX11_odds_112 (pj_kill hM [true, false, true, false, false, true, false, false, false, false, false] (lls' := [(10, 0), (9, 0), (0, x2), (9, 0), (9, 0), (0, (pj_wr ((w 19 (w 10 0 10) 3) - p17))), (9, 0), (9, 0), (9, 0), (9, 0), (9, 0)]) rfl k))))) ?_
      exact tX_odds_113 hM x2 (pj_wr ((w 19 (w 10 0 10) 3) - p17)) (w 23 p2 4) w _ h0
    refine pj_tbind (fun p21 h22 => ?_)
    refine pj_tgd (fun h23 => ?_)
    exact pj_tret (fun hr => pj_ic_le_f hM (pc := 89) 99 dX11_odds_89 rfl h19 (pj_aload_n hM (pc := 92) dX11_odds_92 rfl rfl (pj_bipush hM (pc := 93) dX11_odds_93 (by decide) (pj_cV hM (pc := 95) (cX_deny 7 w p21 h22) dX11_odds_95 mf_X11_deny mv_X11_deny ml_X11_114 kc_10 rfl rfl (by decide) rfl rfl (pj_ret hM (pc := 98) dX11_odds_98 ⟨_, rfl, h23⟩ (h0 ((p21.1, p21.2)) hr) rfl)))))
  refine pj_map (fun k => pj_ic_le_f hM (pc := 31) 40 dX11_odds_31 rfl h8 (pj_kill hM [true, false, false, false, false, false, false, false, false, false, false] (lls' := [(10, 0), (9, 0), (9, 0), (9, 0), (9, 0), (9, 0), (9, 0), (9, 0), (9, 0), (9, 0), (9, 0)]) rfl k)) ?_
  exact tX_odds_34 hM w _ h0
theorem cX_odds (x1 : Int) (x2 : Int) (x3 : Int)  (w : pj_W) (r : Int × pj_W) (h : fX_odds x1 x2 x3 w = some r) : pj_Cn l yX11_odds cX11_odds 11 (some .boolean) 2 56 true g [(10, 0), (0, x1), (0, x2), (0, x3)] w ((some (0, r.1) : Option pj_V), r.2) :=
  pj_Cn_of rfl (Nat.le_of_ble_eq_true rfl) (lls := [(10, 0), (0, x1), (0, x2), (0, x3), (9, 0), (9, 0), (9, 0), (9, 0), (9, 0), (9, 0), (9, 0)]) rfl (fun Go hM => tX_odds hM x1 x2 x3 w (fun x => ((some (0, x.1) : Option pj_V), x.2) = ((some (0, r.1) : Option pj_V), r.2)) (fun r h => h) r h rfl)
noncomputable def fX_open_50 (x1 : Int) (x2 : Int) (w : pj_W) : Option ((Int × Int) ⊕ (Int × pj_W)) :=
  some (Sum.inl (x1, (pj_wr (x2 + 1))))
noncomputable def fX_open_4b  (w : pj_W) (x1 : Int) (x2 : Int) : Option ((Int × Int) ⊕ (Int × pj_W)) :=
  if 0 ≤ (w 10 0 10) then (if (w 19 (w 10 0 10) 8) ≤ x2 then ((fX_answer x1 w).bind fun p3 => (some (Sum.inr ((p3.1, p3.2))))) else (if 0 ≤ x2 ∧ x2 < 8 then (if (w 23 (8 * (w 10 0 10) + x2) 5) = 0 then (fX_open_50 x1 x2 w) else ((fB_heirs (w 10 0 10) (8 * (w 10 0 10) + x2) w).bind fun p7 => (fX_open_50 (if p7 = 0 then (pj_wr (x1 + (w 23 (8 * (w 10 0 10) + x2) 4))) else x1) x2 w))) else none)) else none
noncomputable def fX_open_4  (w : pj_W) (s : (Int × Int)) : Option (Int × pj_W) := pj_Lp (fun s : (Int × Int) => fX_open_4b  w s.1 s.2) s
noncomputable def fX_open  (w : pj_W) : Option (Int × pj_W) :=
  fX_open_4 w (0, 0)
theorem tX_open_50 {Go : pj_C → Prop} (hM : pj_M l yX11_open cX11_open 4 (some .int) 2 44 true g n0 o Go) (x1 : Int) (x2 : Int) (w : pj_W)  (R : (Int × Int) ⊕ (Int × pj_W) → Prop) (h0 : ∀ r, R (Sum.inr (r)) → ((some (0, r.1) : Option pj_V), r.2) = o) (hk4 : ∀ s, R (Sum.inl s) → Go (4, [(10, 0), (0, s.1), (0, s.2), (9, 0)], [], w)) : pj_TG R (fX_open_50 x1 x2 w) (Go (50, [(10, 0), (0, x1), (0, x2), (9, 0)], [], w)) := by
  unfold fX_open_50
  exact pj_tret (fun hr => pj_iinc hM (pc := 50) dX11_open_50 rfl (by decide) (lls' := [(10, 0), (0, x1), (0, (pj_wr (x2 + 1))), (9, 0)]) rfl (pj_goto hM (pc := 53) dX11_open_53 rfl (pj_kill hM [true, true, true, false] (lls' := [(10, 0), (0, x1), (0, (pj_wr (x2 + 1))), (9, 0)]) rfl ((hk4 _ hr)))))
theorem tX_open_4b {Go : pj_C → Prop} (hM : pj_M l yX11_open cX11_open 4 (some .int) 2 44 true g n0 o Go)  (w : pj_W) (x1 : Int) (x2 : Int)  (R : (Int × Int) ⊕ (Int × pj_W) → Prop) (h0 : ∀ r, R (Sum.inr (r)) → ((some (0, r.1) : Option pj_V), r.2) = o) (hk4 : ∀ s, R (Sum.inl s) → Go (4, [(10, 0), (0, s.1), (0, s.2), (9, 0)], [], w)) : pj_TG R (fX_open_4b  w x1 x2) (Go (4, [(10, 0), (0, x1), (0, x2), (9, 0)], [], w)) := by
  unfold fX_open_4b
  refine pj_tgd (fun h1 => ?_)
  refine pj_map (fun k => pj_iload_n hM (pc := 4) dX11_open_4 rfl (pj_aload_n hM (pc := 5) dX11_open_5 rfl rfl (pj_gf hM (pc := 6) (t := 19) dX11_open_6 fl_X11_69 (by decide) rfl 10 rfl (pj_gf hM (pc := 9) (t := 0) dX11_open_9 fl_X11_175 h1 rfl 8 rfl k)))) ?_
  refine pj_tif (fun h2 => ?_) (fun h2 => ?_)
  · refine pj_tbind (fun p3 h4 => ?_)
    exact pj_tret (fun hr => pj_ic_ge_t hM (pc := 12) dX11_open_12 rfl h2 (pj_aload_n hM (pc := 56) dX11_open_56 rfl rfl (pj_iload_n hM (pc := 57) dX11_open_57 rfl (pj_cV hM (pc := 58) (cX_answer x1 w p3 h4) dX11_open_58 mf_X11_answer mv_X11_answer ml_X11_96 kc_10 rfl rfl (by decide) rfl rfl (pj_ret hM (pc := 61) dX11_open_61 ⟨_, rfl⟩ (h0 ((p3.1, p3.2)) hr) rfl)))))
  refine pj_tgd (fun h5 => ?_)
  refine pj_map (fun k => pj_ic_ge_f hM (pc := 12) 56 dX11_open_12 rfl h2 (pj_aload_n hM (pc := 15) dX11_open_15 rfl rfl (pj_gf hM (pc := 16) (t := 19) dX11_open_16 fl_X11_69 (by decide) rfl 10 rfl (pj_getF hM (pc := 19) (t := 21) dX11_open_19 fl_X11_303 h1 rfl rfl (pj_iload_n hM (pc := 22) dX11_open_22 rfl (pj_aald hM (pc := 23) (fun s : Int => 8 * (w 10 0 10) + s) dX11_open_23 (by decide) rfl (fun _ => rfl) ⟨_, rfl⟩ (by decide) h1 h5 (fun _ => rfl) (by show (0 : Int) ≤ (8 * (w 10 0 10) + x2); omega) (pj_astore_n hM (pc := 24) dX11_open_24 (by decide) (by decide) (lls' := [(10, 0), (0, x1), (0, x2), (23, (8 * (w 10 0 10) + x2))]) rfl (pj_aload_n hM (pc := 25) dX11_open_25 rfl rfl (pj_gf hM (pc := 26) (t := 0) dX11_open_26 fl_X11_287 (by show (0 : Int) ≤ (8 * (w 10 0 10) + x2); omega) rfl 5 rfl k))))))))) ?_
  refine pj_tif (fun h6 => ?_) (fun h6 => ?_)
  · refine pj_map (fun k => pj_if_eq_t hM (pc := 29) dX11_open_29 rfl h6 (pj_kill hM [true, true, true, false] (lls' := [(10, 0), (0, x1), (0, x2), (9, 0)]) rfl k)) ?_
    exact tX_open_50 hM x1 x2 w _ h0 hk4
  refine pj_tbind (fun p7 h8 => ?_)
  refine pj_map (fun k => pj_if_eq_f hM (pc := 29) 50 dX11_open_29 rfl h6 (pj_aload_n hM (pc := 32) dX11_open_32 rfl rfl (pj_gf hM (pc := 33) (t := 19) dX11_open_33 fl_X11_69 (by decide) rfl 10 rfl (pj_aload_n hM (pc := 36) dX11_open_36 rfl rfl (pj_cV hM (pc := 37) (cB_heirs (w 10 0 10) (8 * (w 10 0 10) + x2) h1 w p7 h8) dX11_open_37 mf_X0_heirs mv_X0_heirs ml_X11_293 kc_19 rfl rfl h1 rfl rfl k))))) ?_
  refine pj_tJ (fun v : Int => fX_open_50 v x2 w) (fun h9 => ?_) (fun h9 => ?_)
  · refine pj_map (fun k => pj_if_ne_f hM (pc := 40) 50 dX11_open_40 rfl (fun q => q h9) (pj_iload_n hM (pc := 43) dX11_open_43 rfl (pj_aload_n hM (pc := 44) dX11_open_44 rfl rfl (pj_gf hM (pc := 45) (t := 0) dX11_open_45 fl_X11_244 (by show (0 : Int) ≤ (8 * (w 10 0 10) + x2); omega) rfl 4 rfl (pj_iadd hM (pc := 48) dX11_open_48 (pj_istore_n hM (pc := 49) dX11_open_49 (by decide) (lls' := [(10, 0), (0, (pj_wr (x1 + (w 23 (8 * (w 10 0 10) + x2) 4)))), (0, x2), (23, (8 * (w 10 0 10) + x2))]) rfl (pj_kill hM [true, true, true, false] (lls' := [(10, 0), (0, (pj_wr (x1 + (w 23 (8 * (w 10 0 10) + x2) 4)))), (0, x2), (9, 0)]) rfl k))))))) ?_
    exact tX_open_50 hM (pj_wr (x1 + (w 23 (8 * (w 10 0 10) + x2) 4))) x2 w _ h0 hk4
  refine pj_map (fun k => pj_if_ne_t hM (pc := 40) dX11_open_40 rfl h9 (pj_kill hM [true, true, true, false] (lls' := [(10, 0), (0, x1), (0, x2), (9, 0)]) rfl k)) ?_
  exact tX_open_50 hM x1 x2 w _ h0 hk4
theorem tX_open_4 {Go : pj_C → Prop} (hM : pj_M l yX11_open cX11_open 4 (some .int) 2 44 true g n0 o Go)  (w : pj_W)  (R : Int × pj_W → Prop) (h0 : ∀ r, R (r) → ((some (0, r.1) : Option pj_V), r.2) = o) (s : (Int × Int)) : pj_TG R (fX_open_4  w s) (Go (4, [(10, 0), (0, s.1), (0, s.2), (9, 0)], [], w)) := by
  unfold fX_open_4
  exact pj_tLp (G := fun s : (Int × Int) => Go (4, [(10, 0), (0, s.1), (0, s.2), (9, 0)], [], w)) (fun s => tX_open_4b hM  w s.1 s.2  _ (fun r h => h0 r h)  (fun s h => h)) s
theorem tX_open {Go : pj_C → Prop} (hM : pj_M l yX11_open cX11_open 4 (some .int) 2 44 true g n0 o Go)  (w : pj_W)  (R : Int × pj_W → Prop) (h0 : ∀ r, R (r) → ((some (0, r.1) : Option pj_V), r.2) = o) : pj_TG R (fX_open  w) (Go (0, [(10, 0), (9, 0), (9, 0), (9, 0)], [], w)) := by
  unfold fX_open
  refine pj_map (fun k => pj_iconst hM (pc := 0) dX11_open_0 (by decide) (pj_istore_n hM (pc := 1) dX11_open_1 (by decide) (lls' := [(10, 0), (0, 0), (9, 0), (9, 0)]) rfl (pj_iconst hM (pc := 2) dX11_open_2 (by decide) (pj_istore_n hM (pc := 3) dX11_open_3 (by decide) (lls' := [(10, 0), (0, 0), (0, 0), (9, 0)]) rfl (pj_kill hM [true, true, true, false] (lls' := [(10, 0), (0, 0), (0, 0), (9, 0)]) rfl k))))) ?_
  exact tX_open_4 hM w _ h0 _
theorem cX_open   (w : pj_W) (r : Int × pj_W) (h : fX_open  w = some r) : pj_Cn l yX11_open cX11_open 4 (some .int) 2 44 true g [(10, 0)] w ((some (0, r.1) : Option pj_V), r.2) :=
  pj_Cn_of rfl (Nat.le_of_ble_eq_true rfl) (lls := [(10, 0), (9, 0), (9, 0), (9, 0)]) rfl (fun Go hM => tX_open hM w (fun x => ((some (0, x.1) : Option pj_V), x.2) = ((some (0, r.1) : Option pj_V), r.2)) (fun r h => h) r h rfl)
noncomputable def fX_part_92 (x2 : Int) (x3 : Int) (x4 : Int) (x5 : Int) (x6 : Int) (w : pj_W) : Option ((Int × Int) ⊕ (Int × pj_W)) :=
  some (Sum.inl (x5, (pj_wr (x6 + 1))))
noncomputable def fX_part_45b (x2 : Int) (x3 : Int) (x4 : Int) (w : pj_W) (x5 : Int) (x6 : Int) : Option ((Int × Int) ⊕ (Int × pj_W)) :=
  if 0 ≤ (w 10 0 10) then (if (w 19 (w 10 0 10) 7) ≤ x6 then ((fX_refuse 6 w).bind fun p3 => (some (Sum.inr ((p3.1, p3.2))))) else (if (pj_and (pj_shr x4 x6) 1) = 1 then (if x5 = x2 then ((fB_shareOf (w 10 0 10) x6 x3 w).bind fun p7 => ((fX_answer p7 w).bind fun p9 => (some (Sum.inr ((p9.1, p9.2)))))) else (fX_part_92 x2 x3 x4 (pj_wr (x5 + 1)) x6 w)) else (fX_part_92 x2 x3 x4 x5 x6 w))) else none
noncomputable def fX_part_45 (x2 : Int) (x3 : Int) (x4 : Int) (w : pj_W) (s : (Int × Int)) : Option (Int × pj_W) := pj_Lp (fun s : (Int × Int) => fX_part_45b x2 x3 x4 w s.1 s.2) s
noncomputable def fX_part (x1 : Int) (x2 : Int) (w : pj_W) : Option (Int × pj_W) :=
  if 0 ≤ (w 10 0 10) then ((fB_findAt (w 10 0 10) x1 w).bind fun p2 => (if p2 < 0 then ((fX_refuse 1 w).bind fun p5 => (some ((p5.1, p5.2)))) else (if (w 23 p2 5) = 0 then ((fX_refuse 7 w).bind fun p8 => (some ((p8.1, p8.2)))) else ((fN_lastSet p2 w).bind fun p10 => (fX_part_45 x2 p2 p10 w (0, 0)))))) else none
theorem tX_part_92 {Go : pj_C → Prop} (hM : pj_M l yX11_part cX11_part 7 (some .int) 3 68 true g n0 o Go) (x2 : Int) (x3 : Int) (x4 : Int) (x5 : Int) (x6 : Int) (w : pj_W) (hn3 : 0 ≤ x3) (R : (Int × Int) ⊕ (Int × pj_W) → Prop) (h0 : ∀ r, R (Sum.inr (r)) → ((some (0, r.1) : Option pj_V), r.2) = o) (hk45 : ∀ s, R (Sum.inl s) → Go (45, [(10, 0), (9, 0), (0, x2), (23, x3), (0, x4), (0, s.1), (0, s.2)], [], w)) : pj_TG R (fX_part_92 x2 x3 x4 x5 x6 w) (Go (92, [(10, 0), (9, 0), (0, x2), (23, x3), (0, x4), (0, x5), (0, x6)], [], w)) := by
  unfold fX_part_92
  exact pj_tret (fun hr => pj_iinc hM (pc := 92) dX11_part_92 rfl (by decide) (lls' := [(10, 0), (9, 0), (0, x2), (23, x3), (0, x4), (0, x5), (0, (pj_wr (x6 + 1)))]) rfl (pj_goto hM (pc := 95) dX11_part_95 rfl (pj_kill hM [true, false, true, true, true, true, true] (lls' := [(10, 0), (9, 0), (0, x2), (23, x3), (0, x4), (0, x5), (0, (pj_wr (x6 + 1)))]) rfl ((hk45 _ hr)))))
theorem tX_part_45b {Go : pj_C → Prop} (hM : pj_M l yX11_part cX11_part 7 (some .int) 3 68 true g n0 o Go) (x2 : Int) (x3 : Int) (x4 : Int) (w : pj_W) (x5 : Int) (x6 : Int) (hn3 : 0 ≤ x3) (R : (Int × Int) ⊕ (Int × pj_W) → Prop) (h0 : ∀ r, R (Sum.inr (r)) → ((some (0, r.1) : Option pj_V), r.2) = o) (hk45 : ∀ s, R (Sum.inl s) → Go (45, [(10, 0), (9, 0), (0, x2), (23, x3), (0, x4), (0, s.1), (0, s.2)], [], w)) : pj_TG R (fX_part_45b x2 x3 x4 w x5 x6) (Go (45, [(10, 0), (9, 0), (0, x2), (23, x3), (0, x4), (0, x5), (0, x6)], [], w)) := by
  unfold fX_part_45b
  refine pj_tgd (fun h1 => ?_)
  refine pj_map (fun k => pj_iload hM (pc := 45) dX11_part_45 rfl (pj_aload_n hM (pc := 47) dX11_part_47 rfl rfl (pj_gf hM (pc := 48) (t := 19) dX11_part_48 fl_X11_69 (by decide) rfl 10 rfl (pj_gf hM (pc := 51) (t := 0) dX11_part_51 fl_X11_194 h1 rfl 7 rfl k)))) ?_
  refine pj_tif (fun h2 => ?_) (fun h2 => ?_)
  · refine pj_tbind (fun p3 h4 => ?_)
    exact pj_tret (fun hr => pj_ic_ge_t hM (pc := 54) dX11_part_54 rfl h2 (pj_aload_n hM (pc := 98) dX11_part_98 rfl rfl (pj_bipush hM (pc := 99) dX11_part_99 (by decide) (pj_cV hM (pc := 101) (cX_refuse 6 w p3 h4) dX11_part_101 mf_X11_refuse mv_X11_refuse ml_X11_100 kc_10 rfl rfl (by decide) rfl rfl (pj_ret hM (pc := 104) dX11_part_104 ⟨_, rfl⟩ (h0 ((p3.1, p3.2)) hr) rfl)))))
  refine pj_map (fun k => pj_ic_ge_f hM (pc := 54) 98 dX11_part_54 rfl h2 (pj_iload hM (pc := 57) dX11_part_57 rfl (pj_iload hM (pc := 59) dX11_part_59 rfl (pj_ishr hM (pc := 61) dX11_part_61 (pj_iconst hM (pc := 62) dX11_part_62 (by decide) (pj_iand hM (pc := 63) dX11_part_63 (pj_iconst hM (pc := 64) dX11_part_64 (by decide) k))))))) ?_
  refine pj_tif (fun h5 => ?_) (fun h5 => ?_)
  · refine pj_map (fun k => pj_ic_ne_f hM (pc := 65) 92 dX11_part_65 rfl (fun q => q h5) (pj_iload hM (pc := 68) dX11_part_68 rfl (pj_iload_n hM (pc := 70) dX11_part_70 rfl k))) ?_
    refine pj_tif (fun h6 => ?_) (fun h6 => ?_)
    · refine pj_tbind (fun p7 h8 => ?_)
      refine pj_tbind (fun p9 h10 => ?_)
      exact pj_tret (fun hr => pj_ic_ne_f hM (pc := 71) 89 dX11_part_71 rfl (fun q => q h6) (pj_aload_n hM (pc := 74) dX11_part_74 rfl rfl (pj_aload_n hM (pc := 75) dX11_part_75 rfl rfl (pj_gf hM (pc := 76) (t := 19) dX11_part_76 fl_X11_69 (by decide) rfl 10 rfl (pj_iload hM (pc := 79) dX11_part_79 rfl (pj_aload_n hM (pc := 81) dX11_part_81 rfl rfl (pj_cV hM (pc := 82) (cB_shareOf (w 10 0 10) x6 x3 h1 w p7 h8) dX11_part_82 mf_X0_shareOf mv_X0_shareOf ml_X11_368 kc_19 rfl rfl h1 rfl rfl (pj_cV hM (pc := 85) (cX_answer p7 w p9 h10) dX11_part_85 mf_X11_answer mv_X11_answer ml_X11_96 kc_10 rfl rfl (by decide) rfl rfl (pj_ret hM (pc := 88) dX11_part_88 ⟨_, rfl⟩ (h0 ((p9.1, p9.2)) hr) rfl)))))))))
    refine pj_map (fun k => pj_ic_ne_t hM (pc := 71) dX11_part_71 rfl h6 (pj_iinc hM (pc := 89) dX11_part_89 rfl (by decide) (lls' := [(10, 0), (9, 0), (0, x2), (23, x3), (0, x4), (0, (pj_wr (x5 + 1))), (0, x6)]) rfl (pj_kill hM [true, false, true, true, true, true, true] (lls' := [(10, 0), (9, 0), (0, x2), (23, x3), (0, x4), (0, (pj_wr (x5 + 1))), (0, x6)]) rfl k))) ?_
    exact tX_part_92 hM x2 x3 x4 (pj_wr (x5 + 1)) x6 w hn3 _ h0 hk45
  refine pj_map (fun k => pj_ic_ne_t hM (pc := 65) dX11_part_65 rfl h5 (pj_kill hM [true, false, true, true, true, true, true] (lls' := [(10, 0), (9, 0), (0, x2), (23, x3), (0, x4), (0, x5), (0, x6)]) rfl k)) ?_
  exact tX_part_92 hM x2 x3 x4 x5 x6 w hn3 _ h0 hk45
theorem tX_part_45 {Go : pj_C → Prop} (hM : pj_M l yX11_part cX11_part 7 (some .int) 3 68 true g n0 o Go) (x2 : Int) (x3 : Int) (x4 : Int) (w : pj_W) (hn3 : 0 ≤ x3) (R : Int × pj_W → Prop) (h0 : ∀ r, R (r) → ((some (0, r.1) : Option pj_V), r.2) = o) (s : (Int × Int)) : pj_TG R (fX_part_45 x2 x3 x4 w s) (Go (45, [(10, 0), (9, 0), (0, x2), (23, x3), (0, x4), (0, s.1), (0, s.2)], [], w)) := by
  unfold fX_part_45
  exact pj_tLp (G := fun s : (Int × Int) => Go (45, [(10, 0), (9, 0), (0, x2), (23, x3), (0, x4), (0, s.1), (0, s.2)], [], w)) (fun s => tX_part_45b hM x2 x3 x4 w s.1 s.2 hn3 _ (fun r h => h0 r h)  (fun s h => h)) s
theorem tX_part {Go : pj_C → Prop} (hM : pj_M l yX11_part cX11_part 7 (some .int) 3 68 true g n0 o Go) (x1 : Int) (x2 : Int) (w : pj_W)  (R : Int × pj_W → Prop) (h0 : ∀ r, R (r) → ((some (0, r.1) : Option pj_V), r.2) = o) : pj_TG R (fX_part x1 x2 w) (Go (0, [(10, 0), (0, x1), (0, x2), (9, 0), (9, 0), (9, 0), (9, 0)], [], w)) := by
  unfold fX_part
  refine pj_tgd (fun h1 => ?_)
  refine pj_tbind (fun p2 h3 => ?_)
  refine pj_map (fun k => pj_aload_n hM (pc := 0) dX11_part_0 rfl rfl (pj_gf hM (pc := 1) (t := 19) dX11_part_1 fl_X11_69 (by decide) rfl 10 rfl (pj_iload_n hM (pc := 4) dX11_part_4 rfl (pj_cV hM (pc := 5) (cB_findAt (w 10 0 10) x1 h1 w p2 h3) dX11_part_5 mf_X0_findAt mv_X0_findAt ml_X11_237 kc_19 rfl rfl h1 rfl rfl (pj_astore_n hM (pc := 8) dX11_part_8 (by decide) (by decide) (lls' := [(10, 0), (0, x1), (0, x2), (23, p2), (9, 0), (9, 0), (9, 0)]) rfl (pj_aload_n hM (pc := 9) dX11_part_9 rfl rfl k)))))) ?_
  refine pj_tif (fun h4 => ?_) (fun h4 => ?_)
  · refine pj_tbind (fun p5 h6 => ?_)
    exact pj_tret (fun hr => pj_nonnull_f hM (pc := 10) 19 dX11_part_10 rfl (by decide) h4 (pj_aload_n hM (pc := 13) dX11_part_13 rfl rfl (pj_iconst hM (pc := 14) dX11_part_14 (by decide) (pj_cV hM (pc := 15) (cX_refuse 1 w p5 h6) dX11_part_15 mf_X11_refuse mv_X11_refuse ml_X11_100 kc_10 rfl rfl (by decide) rfl rfl (pj_ret hM (pc := 18) dX11_part_18 ⟨_, rfl⟩ (h0 ((p5.1, p5.2)) hr) rfl)))))
  refine pj_map (fun k => pj_nonnull_t hM (pc := 10) dX11_part_10 rfl (by decide) h4 (pj_aload_n hM (pc := 19) dX11_part_19 rfl rfl (pj_gf hM (pc := 20) (t := 0) dX11_part_20 fl_X11_287 (Int.not_lt.mp h4) rfl 5 rfl k))) ?_
  refine pj_tif (fun h7 => ?_) (fun h7 => ?_)
  · refine pj_tbind (fun p8 h9 => ?_)
    exact pj_tret (fun hr => pj_if_ne_f hM (pc := 23) 33 dX11_part_23 rfl (fun q => q h7) (pj_aload_n hM (pc := 26) dX11_part_26 rfl rfl (pj_bipush hM (pc := 27) dX11_part_27 (by decide) (pj_cV hM (pc := 29) (cX_refuse 7 w p8 h9) dX11_part_29 mf_X11_refuse mv_X11_refuse ml_X11_100 kc_10 rfl rfl (by decide) rfl rfl (pj_ret hM (pc := 32) dX11_part_32 ⟨_, rfl⟩ (h0 ((p8.1, p8.2)) hr) rfl)))))
  refine pj_tbind (fun p10 h11 => ?_)
  refine pj_map (fun k => pj_if_ne_t hM (pc := 23) dX11_part_23 rfl h7 (pj_aload_n hM (pc := 33) dX11_part_33 rfl rfl (pj_cV hM (pc := 34) (cN_lastSet p2 (Int.not_lt.mp h4) w p10 h11) dX11_part_34 mf_X4_lastSet mv_X4_lastSet ml_X11_290 kc_23 rfl rfl (Int.not_lt.mp h4) rfl rfl (pj_istore hM (pc := 37) dX11_part_37 (by decide) (lls' := [(10, 0), (0, x1), (0, x2), (23, p2), (0, p10), (9, 0), (9, 0)]) rfl (pj_iconst hM (pc := 39) dX11_part_39 (by decide) (pj_istore hM (pc := 40) dX11_part_40 (by decide) (lls' := [(10, 0), (0, x1), (0, x2), (23, p2), (0, p10), (0, 0), (9, 0)]) rfl (pj_iconst hM (pc := 42) dX11_part_42 (by decide) (pj_istore hM (pc := 43) dX11_part_43 (by decide) (lls' := [(10, 0), (0, x1), (0, x2), (23, p2), (0, p10), (0, 0), (0, 0)]) rfl (pj_kill hM [true, false, true, true, true, true, true] (lls' := [(10, 0), (9, 0), (0, x2), (23, p2), (0, p10), (0, 0), (0, 0)]) rfl k))))))))) ?_
  exact tX_part_45 hM x2 p2 p10 w (Int.not_lt.mp h4) _ h0 _
theorem cX_part (x1 : Int) (x2 : Int)  (w : pj_W) (r : Int × pj_W) (h : fX_part x1 x2 w = some r) : pj_Cn l yX11_part cX11_part 7 (some .int) 3 68 true g [(10, 0), (0, x1), (0, x2)] w ((some (0, r.1) : Option pj_V), r.2) :=
  pj_Cn_of rfl (Nat.le_of_ble_eq_true rfl) (lls := [(10, 0), (0, x1), (0, x2), (9, 0), (9, 0), (9, 0), (9, 0)]) rfl (fun Go hM => tX_part hM x1 x2 w (fun x => ((some (0, x.1) : Option pj_V), x.2) = ((some (0, r.1) : Option pj_V), r.2)) (fun r h => h) r h rfl)
noncomputable def fX_pass (x1 : Int) (x2 : Int) (w : pj_W) : Option (Int × pj_W) :=
  if 0 ≤ (w 10 0 10) then ((fB_waitFor (w 10 0 10) x1 x2 w).bind fun p2 => ((fX_settle p2.1 p2.2).bind fun p4 => (some ((p4.1, p4.2))))) else none
theorem tX_pass {Go : pj_C → Prop} (hM : pj_M l yX11_pass cX11_pass 3 (some .int) 3 66 true g n0 o Go) (x1 : Int) (x2 : Int) (w : pj_W)  (R : Int × pj_W → Prop) (h0 : ∀ r, R (r) → ((some (0, r.1) : Option pj_V), r.2) = o) : pj_TG R (fX_pass x1 x2 w) (Go (0, [(10, 0), (0, x1), (0, x2)], [], w)) := by
  unfold fX_pass
  refine pj_tgd (fun h1 => ?_)
  refine pj_tbind (fun p2 h3 => ?_)
  refine pj_tbind (fun p4 h5 => ?_)
  exact pj_tret (fun hr => pj_aload_n hM (pc := 0) dX11_pass_0 rfl rfl (pj_aload_n hM (pc := 1) dX11_pass_1 rfl rfl (pj_gf hM (pc := 2) (t := 19) dX11_pass_2 fl_X11_69 (by decide) rfl 10 rfl (pj_iload_n hM (pc := 5) dX11_pass_5 rfl (pj_iload_n hM (pc := 6) dX11_pass_6 rfl (pj_cV hM (pc := 7) (cB_waitFor (w 10 0 10) x1 x2 h1 w p2 h3) dX11_pass_7 mf_X0_waitFor mv_X0_waitFor ml_X11_266 kc_19 rfl rfl h1 rfl rfl (pj_cV hM (pc := 10) (cX_settle p2.1 p2.2 p4 h5) dX11_pass_10 mf_X11_settle mv_X11_settle ml_X11_263 kc_10 rfl rfl (by decide) rfl rfl (pj_ret hM (pc := 13) dX11_pass_13 ⟨_, rfl⟩ (h0 ((p4.1, p4.2)) hr) rfl))))))))
theorem cX_pass (x1 : Int) (x2 : Int)  (w : pj_W) (r : Int × pj_W) (h : fX_pass x1 x2 w = some r) : pj_Cn l yX11_pass cX11_pass 3 (some .int) 3 66 true g [(10, 0), (0, x1), (0, x2)] w ((some (0, r.1) : Option pj_V), r.2) :=
  pj_Cn_of rfl (Nat.le_of_ble_eq_true rfl) (lls := [(10, 0), (0, x1), (0, x2)]) rfl (fun Go hM => tX_pass hM x1 x2 w (fun x => ((some (0, x.1) : Option pj_V), x.2) = ((some (0, r.1) : Option pj_V), r.2)) (fun r h => h) r h rfl)
noncomputable def fX_pebble_24  (w : pj_W) : Option (Int × pj_W) :=
  (fX_refuse 1 w).bind fun p1 => (some ((p1.1, p1.2)))
noncomputable def fX_pebble_68 (s1 : Int) (w : pj_W) : Option (Int × pj_W) :=
  (fX_answer s1 w).bind fun p1 => (some ((p1.1, p1.2)))
noncomputable def fX_pebble (x1 : Int) (x2 : Int) (x3 : Int) (w : pj_W) : Option (Int × pj_W) :=
  if 0 ≤ (w 10 0 10) then ((fB_findAt (w 10 0 10) x1 w).bind fun p2 => (if p2 < 0 then (fX_pebble_24 w) else (if x3 < 0 then (fX_pebble_24 w) else (if x3 ≤ 1 then ((fN_has p2 x2 w).bind fun p7 => (if p7 = 0 then ((fX_refuse 6 w).bind fun p10 => (some ((p10.1, p10.2)))) else (if x3 = 0 then (if 0 ≤ x2 ∧ x2 < 60 then (fX_pebble_68 (w 45 p2 x2) w) else none) else (if 0 ≤ x2 ∧ x2 < 60 then (fX_pebble_68 (w 46 p2 x2) w) else none)))) else (fX_pebble_24 w))))) else none
theorem tX_pebble_24 {Go : pj_C → Prop} (hM : pj_M l yX11_pebble cX11_pebble 5 (some .int) 1 21 true g n0 o Go)  (w : pj_W)  (R : Int × pj_W → Prop) (h0 : ∀ r, R (r) → ((some (0, r.1) : Option pj_V), r.2) = o) : pj_TG R (fX_pebble_24  w) (Go (24, [(10, 0), (9, 0), (9, 0), (9, 0), (9, 0)], [], w)) := by
  unfold fX_pebble_24
  refine pj_tbind (fun p1 h2 => ?_)
  exact pj_tret (fun hr => pj_aload_n hM (pc := 24) dX11_pebble_24 rfl rfl (pj_iconst hM (pc := 25) dX11_pebble_25 (by decide) (pj_cV hM (pc := 26) (cX_refuse 1 w p1 h2) dX11_pebble_26 mf_X11_refuse mv_X11_refuse ml_X11_100 kc_10 rfl rfl (by decide) rfl rfl (pj_ret hM (pc := 29) dX11_pebble_29 ⟨_, rfl⟩ (h0 ((p1.1, p1.2)) hr) rfl))))
theorem tX_pebble_68 {Go : pj_C → Prop} (hM : pj_M l yX11_pebble cX11_pebble 5 (some .int) 1 21 true g n0 o Go) (s1 : Int) (w : pj_W)  (R : Int × pj_W → Prop) (h0 : ∀ r, R (r) → ((some (0, r.1) : Option pj_V), r.2) = o) : pj_TG R (fX_pebble_68 s1 w) (Go (68, [(10, 0), (9, 0), (9, 0), (9, 0), (9, 0)], [(0, s1), (10, 0)], w)) := by
  unfold fX_pebble_68
  refine pj_tbind (fun p1 h2 => ?_)
  exact pj_tret (fun hr => pj_cV hM (pc := 68) (cX_answer s1 w p1 h2) dX11_pebble_68 mf_X11_answer mv_X11_answer ml_X11_96 kc_10 rfl rfl (by decide) rfl rfl (pj_ret hM (pc := 71) dX11_pebble_71 ⟨_, rfl⟩ (h0 ((p1.1, p1.2)) hr) rfl))
theorem tX_pebble {Go : pj_C → Prop} (hM : pj_M l yX11_pebble cX11_pebble 5 (some .int) 1 21 true g n0 o Go) (x1 : Int) (x2 : Int) (x3 : Int) (w : pj_W)  (R : Int × pj_W → Prop) (h0 : ∀ r, R (r) → ((some (0, r.1) : Option pj_V), r.2) = o) : pj_TG R (fX_pebble x1 x2 x3 w) (Go (0, [(10, 0), (0, x1), (0, x2), (0, x3), (9, 0)], [], w)) := by
  unfold fX_pebble
  refine pj_tgd (fun h1 => ?_)
  refine pj_tbind (fun p2 h3 => ?_)
  refine pj_map (fun k => pj_aload_n hM (pc := 0) dX11_pebble_0 rfl rfl (pj_gf hM (pc := 1) (t := 19) dX11_pebble_1 fl_X11_69 (by decide) rfl 10 rfl (pj_iload_n hM (pc := 4) dX11_pebble_4 rfl (pj_cV hM (pc := 5) (cB_findAt (w 10 0 10) x1 h1 w p2 h3) dX11_pebble_5 mf_X0_findAt mv_X0_findAt ml_X11_237 kc_19 rfl rfl h1 rfl rfl (pj_astore hM (pc := 8) dX11_pebble_8 (by decide) (by decide) (lls' := [(10, 0), (0, x1), (0, x2), (0, x3), (23, p2)]) rfl (pj_aload hM (pc := 10) dX11_pebble_10 rfl rfl k)))))) ?_
  refine pj_tif (fun h4 => ?_) (fun h4 => ?_)
  · refine pj_map (fun k => pj_null_t hM (pc := 12) dX11_pebble_12 rfl (by decide) h4 (pj_kill hM [true, false, false, false, false] (lls' := [(10, 0), (9, 0), (9, 0), (9, 0), (9, 0)]) rfl k)) ?_
    exact tX_pebble_24 hM w _ h0
  refine pj_map (fun k => pj_null_f hM (pc := 12) 24 dX11_pebble_12 rfl (by decide) h4 (pj_iload_n hM (pc := 15) dX11_pebble_15 rfl k)) ?_
  refine pj_tif (fun h5 => ?_) (fun h5 => ?_)
  · refine pj_map (fun k => pj_if_lt_t hM (pc := 16) dX11_pebble_16 rfl h5 (pj_kill hM [true, false, false, false, false] (lls' := [(10, 0), (9, 0), (9, 0), (9, 0), (9, 0)]) rfl k)) ?_
    exact tX_pebble_24 hM w _ h0
  refine pj_map (fun k => pj_if_lt_f hM (pc := 16) 24 dX11_pebble_16 rfl h5 (pj_iload_n hM (pc := 19) dX11_pebble_19 rfl (pj_iconst hM (pc := 20) dX11_pebble_20 (by decide) k))) ?_
  refine pj_tif (fun h6 => ?_) (fun h6 => ?_)
  · refine pj_tbind (fun p7 h8 => ?_)
    refine pj_map (fun k => pj_ic_le_t hM (pc := 21) dX11_pebble_21 rfl h6 (pj_aload hM (pc := 30) dX11_pebble_30 rfl rfl (pj_iload_n hM (pc := 32) dX11_pebble_32 rfl (pj_cV hM (pc := 33) (cN_has p2 x2 (Int.not_lt.mp h4) w p7 h8) dX11_pebble_33 mf_X4_has mv_X4_has ml_X11_250 kc_23 rfl rfl (Int.not_lt.mp h4) rfl rfl k)))) ?_
    refine pj_tif (fun h9 => ?_) (fun h9 => ?_)
    · refine pj_tbind (fun p10 h11 => ?_)
      exact pj_tret (fun hr => pj_if_ne_f hM (pc := 36) 46 dX11_pebble_36 rfl (fun q => q h9) (pj_aload_n hM (pc := 39) dX11_pebble_39 rfl rfl (pj_bipush hM (pc := 40) dX11_pebble_40 (by decide) (pj_cV hM (pc := 42) (cX_refuse 6 w p10 h11) dX11_pebble_42 mf_X11_refuse mv_X11_refuse ml_X11_100 kc_10 rfl rfl (by decide) rfl rfl (pj_ret hM (pc := 45) dX11_pebble_45 ⟨_, rfl⟩ (h0 ((p10.1, p10.2)) hr) rfl)))))
    refine pj_map (fun k => pj_if_ne_t hM (pc := 36) dX11_pebble_36 rfl h9 (pj_aload_n hM (pc := 46) dX11_pebble_46 rfl rfl (pj_iload_n hM (pc := 47) dX11_pebble_47 rfl k))) ?_
    refine pj_tif (fun h12 => ?_) (fun h12 => ?_)
    · refine pj_tgd (fun h13 => ?_)
      refine pj_map (fun k => pj_if_ne_f hM (pc := 48) 61 dX11_pebble_48 rfl (fun q => q h12) (pj_aload hM (pc := 51) dX11_pebble_51 rfl rfl (pj_getF hM (pc := 53) (t := 45) dX11_pebble_53 fl_X11_253 (Int.not_lt.mp h4) rfl rfl (pj_iload_n hM (pc := 56) dX11_pebble_56 rfl (pj_ial hM (pc := 57) dX11_pebble_57 ki_45 (Int.not_lt.mp h4) h13 (pj_goto hM (pc := 58) dX11_pebble_58 rfl (pj_kill hM [true, false, false, false, false] (lls' := [(10, 0), (9, 0), (9, 0), (9, 0), (9, 0)]) rfl k))))))) ?_
      exact tX_pebble_68 hM (w 45 p2 x2) w _ h0
    refine pj_tgd (fun h14 => ?_)
    refine pj_map (fun k => pj_if_ne_t hM (pc := 48) dX11_pebble_48 rfl h12 (pj_aload hM (pc := 61) dX11_pebble_61 rfl rfl (pj_getF hM (pc := 63) (t := 46) dX11_pebble_63 fl_X11_256 (Int.not_lt.mp h4) rfl rfl (pj_iload_n hM (pc := 66) dX11_pebble_66 rfl (pj_ial hM (pc := 67) dX11_pebble_67 ki_46 (Int.not_lt.mp h4) h14 (pj_kill hM [true, false, false, false, false] (lls' := [(10, 0), (9, 0), (9, 0), (9, 0), (9, 0)]) rfl k)))))) ?_
    exact tX_pebble_68 hM (w 46 p2 x2) w _ h0
  refine pj_map (fun k => pj_ic_le_f hM (pc := 21) 30 dX11_pebble_21 rfl h6 (pj_kill hM [true, false, false, false, false] (lls' := [(10, 0), (9, 0), (9, 0), (9, 0), (9, 0)]) rfl k)) ?_
  exact tX_pebble_24 hM w _ h0
theorem cX_pebble (x1 : Int) (x2 : Int) (x3 : Int)  (w : pj_W) (r : Int × pj_W) (h : fX_pebble x1 x2 x3 w = some r) : pj_Cn l yX11_pebble cX11_pebble 5 (some .int) 1 21 true g [(10, 0), (0, x1), (0, x2), (0, x3)] w ((some (0, r.1) : Option pj_V), r.2) :=
  pj_Cn_of rfl (Nat.le_of_ble_eq_true rfl) (lls := [(10, 0), (0, x1), (0, x2), (0, x3), (9, 0)]) rfl (fun Go hM => tX_pebble hM x1 x2 x3 w (fun x => ((some (0, x.1) : Option pj_V), x.2) = ((some (0, r.1) : Option pj_V), r.2)) (fun r h => h) r h rfl)
noncomputable def fX_pour_60  (w : pj_W) : Option (Int × pj_W) :=
  (fX_deny 2 w).bind fun p1 => (if p1.1 = 0 ∨ p1.1 = 1 then (some ((p1.1, p1.2))) else none)
noncomputable def fX_pour_109  (w : pj_W) : Option (Int × pj_W) :=
  (fX_deny 3 w).bind fun p1 => (if p1.1 = 0 ∨ p1.1 = 1 then (some ((p1.1, p1.2))) else none)
noncomputable def fX_pour_38  (w : pj_W) : Option (Int × pj_W) :=
  (fX_deny 1 w).bind fun p1 => (if p1.1 = 0 ∨ p1.1 = 1 then (some ((p1.1, p1.2))) else none)
noncomputable def fX_pour (x1 : Int) (x2 : Int) (x3 : Int) (x4 : Int) (x5 : Int) (w : pj_W) : Option (Int × pj_W) :=
  (fX_trayAt x1 w).bind fun p1 => ((fX_trayAt x3 w).bind fun p3 => (if p1 < 0 then (fX_pour_38 w) else (if p3 < 0 then (fX_pour_38 w) else (if x2 < 0 then (fX_pour_38 w) else (if x4 < 0 then (fX_pour_38 w) else (if 0 ≤ x5 then (if (w 25 p1 1) = 0 then (if (w 25 p3 1) = 0 then (if (w 25 p1 2) = (w 25 p3 2) then ((fT_holds p1 x2 x5 w).bind fun p13 => (if p13 = 0 then (fX_pour_109 w) else ((fT_holds p3 x4 x5 w).bind fun p16 => (if p16 = 0 then (fX_pour_109 w) else (if ((0 : Int) ≤ x2 ∧ (0 : Int) ≤ x4 ∧ (0 : Int) ≤ x5) ∧ (x2 : Int) + x5 ≤ 60 ∧ (x4 : Int) + x5 ≤ 60 then ((fX_grant (pj_cpy w 52 p1 x2 52 p3 x4 x5)).bind fun p20 => (if p20.1 = 0 ∨ p20.1 = 1 then (some ((p20.1, p20.2))) else none)) else none))))) else ((fX_deny 8 w).bind fun p23 => (if p23.1 = 0 ∨ p23.1 = 1 then (some ((p23.1, p23.2))) else none))) else (fX_pour_60 w)) else (fX_pour_60 w)) else (fX_pour_38 w)))))))
theorem tX_pour_60 {Go : pj_C → Prop} (hM : pj_M l yX11_pour cX11_pour 8 (some .boolean) 1 26 true g n0 o Go)  (w : pj_W)  (R : Int × pj_W → Prop) (h0 : ∀ r, R (r) → ((some (0, r.1) : Option pj_V), r.2) = o) : pj_TG R (fX_pour_60  w) (Go (60, [(10, 0), (9, 0), (9, 0), (9, 0), (9, 0), (9, 0), (9, 0), (9, 0)], [], w)) := by
  unfold fX_pour_60
  refine pj_tbind (fun p1 h2 => ?_)
  refine pj_tgd (fun h3 => ?_)
  exact pj_tret (fun hr => pj_aload_n hM (pc := 60) dX11_pour_60 rfl rfl (pj_iconst hM (pc := 61) dX11_pour_61 (by decide) (pj_cV hM (pc := 62) (cX_deny 2 w p1 h2) dX11_pour_62 mf_X11_deny mv_X11_deny ml_X11_114 kc_10 rfl rfl (by decide) rfl rfl (pj_ret hM (pc := 65) dX11_pour_65 ⟨_, rfl, h3⟩ (h0 ((p1.1, p1.2)) hr) rfl))))
theorem tX_pour_109 {Go : pj_C → Prop} (hM : pj_M l yX11_pour cX11_pour 8 (some .boolean) 1 26 true g n0 o Go)  (w : pj_W)  (R : Int × pj_W → Prop) (h0 : ∀ r, R (r) → ((some (0, r.1) : Option pj_V), r.2) = o) : pj_TG R (fX_pour_109  w) (Go (109, [(10, 0), (9, 0), (9, 0), (9, 0), (9, 0), (9, 0), (9, 0), (9, 0)], [], w)) := by
  unfold fX_pour_109
  refine pj_tbind (fun p1 h2 => ?_)
  refine pj_tgd (fun h3 => ?_)
  exact pj_tret (fun hr => pj_aload_n hM (pc := 109) dX11_pour_109 rfl rfl (pj_iconst hM (pc := 110) dX11_pour_110 (by decide) (pj_cV hM (pc := 111) (cX_deny 3 w p1 h2) dX11_pour_111 mf_X11_deny mv_X11_deny ml_X11_114 kc_10 rfl rfl (by decide) rfl rfl (pj_ret hM (pc := 114) dX11_pour_114 ⟨_, rfl, h3⟩ (h0 ((p1.1, p1.2)) hr) rfl))))
theorem tX_pour_38 {Go : pj_C → Prop} (hM : pj_M l yX11_pour cX11_pour 8 (some .boolean) 1 26 true g n0 o Go)  (w : pj_W)  (R : Int × pj_W → Prop) (h0 : ∀ r, R (r) → ((some (0, r.1) : Option pj_V), r.2) = o) : pj_TG R (fX_pour_38  w) (Go (38, [(10, 0), (9, 0), (9, 0), (9, 0), (9, 0), (9, 0), (9, 0), (9, 0)], [], w)) := by
  unfold fX_pour_38
  refine pj_tbind (fun p1 h2 => ?_)
  refine pj_tgd (fun h3 => ?_)
  exact pj_tret (fun hr => pj_aload_n hM (pc := 38) dX11_pour_38 rfl rfl (pj_iconst hM (pc := 39) dX11_pour_39 (by decide) (pj_cV hM (pc := 40) (cX_deny 1 w p1 h2) dX11_pour_40 mf_X11_deny mv_X11_deny ml_X11_114 kc_10 rfl rfl (by decide) rfl rfl (pj_ret hM (pc := 43) dX11_pour_43 ⟨_, rfl, h3⟩ (h0 ((p1.1, p1.2)) hr) rfl))))
theorem tX_pour {Go : pj_C → Prop} (hM : pj_M l yX11_pour cX11_pour 8 (some .boolean) 1 26 true g n0 o Go) (x1 : Int) (x2 : Int) (x3 : Int) (x4 : Int) (x5 : Int) (w : pj_W)  (R : Int × pj_W → Prop) (h0 : ∀ r, R (r) → ((some (0, r.1) : Option pj_V), r.2) = o) : pj_TG R (fX_pour x1 x2 x3 x4 x5 w) (Go (0, [(10, 0), (0, x1), (0, x2), (0, x3), (0, x4), (0, x5), (9, 0), (9, 0)], [], w)) := by
  unfold fX_pour
  refine pj_tbind (fun p1 h2 => ?_)
  refine pj_tbind (fun p3 h4 => ?_)
  refine pj_map (fun k => pj_aload_n hM (pc := 0) dX11_pour_0 rfl rfl (pj_iload_n hM (pc := 1) dX11_pour_1 rfl (pj_cV hM (pc := 2) (cX_trayAt x1 w p1 h2) dX11_pour_2 mf_X11_trayAt mv_X11_trayAt ml_X11_110 kc_10 rfl rfl (by decide) rfl rfl (pj_astore hM (pc := 5) dX11_pour_5 (by decide) (by decide) (lls' := [(10, 0), (0, x1), (0, x2), (0, x3), (0, x4), (0, x5), (25, p1), (9, 0)]) rfl (pj_aload_n hM (pc := 7) dX11_pour_7 rfl rfl (pj_iload_n hM (pc := 8) dX11_pour_8 rfl (pj_cV hM (pc := 9) (cX_trayAt x3 w p3 h4) dX11_pour_9 mf_X11_trayAt mv_X11_trayAt ml_X11_110 kc_10 rfl rfl (by decide) rfl rfl (pj_astore hM (pc := 12) dX11_pour_12 (by decide) (by decide) (lls' := [(10, 0), (0, x1), (0, x2), (0, x3), (0, x4), (0, x5), (25, p1), (25, p3)]) rfl (pj_aload hM (pc := 14) dX11_pour_14 rfl rfl k))))))))) ?_
  refine pj_tif (fun h5 => ?_) (fun h5 => ?_)
  · refine pj_map (fun k => pj_null_t hM (pc := 16) dX11_pour_16 rfl (by decide) h5 (pj_kill hM [true, false, false, false, false, false, false, false] (lls' := [(10, 0), (9, 0), (9, 0), (9, 0), (9, 0), (9, 0), (9, 0), (9, 0)]) rfl k)) ?_
    exact tX_pour_38 hM w _ h0
  refine pj_map (fun k => pj_null_f hM (pc := 16) 38 dX11_pour_16 rfl (by decide) h5 (pj_aload hM (pc := 19) dX11_pour_19 rfl rfl k)) ?_
  refine pj_tif (fun h6 => ?_) (fun h6 => ?_)
  · refine pj_map (fun k => pj_null_t hM (pc := 21) dX11_pour_21 rfl (by decide) h6 (pj_kill hM [true, false, false, false, false, false, false, false] (lls' := [(10, 0), (9, 0), (9, 0), (9, 0), (9, 0), (9, 0), (9, 0), (9, 0)]) rfl k)) ?_
    exact tX_pour_38 hM w _ h0
  refine pj_map (fun k => pj_null_f hM (pc := 21) 38 dX11_pour_21 rfl (by decide) h6 (pj_iload_n hM (pc := 24) dX11_pour_24 rfl k)) ?_
  refine pj_tif (fun h7 => ?_) (fun h7 => ?_)
  · refine pj_map (fun k => pj_if_lt_t hM (pc := 25) dX11_pour_25 rfl h7 (pj_kill hM [true, false, false, false, false, false, false, false] (lls' := [(10, 0), (9, 0), (9, 0), (9, 0), (9, 0), (9, 0), (9, 0), (9, 0)]) rfl k)) ?_
    exact tX_pour_38 hM w _ h0
  refine pj_map (fun k => pj_if_lt_f hM (pc := 25) 38 dX11_pour_25 rfl h7 (pj_iload hM (pc := 28) dX11_pour_28 rfl k)) ?_
  refine pj_tif (fun h8 => ?_) (fun h8 => ?_)
  · refine pj_map (fun k => pj_if_lt_t hM (pc := 30) dX11_pour_30 rfl h8 (pj_kill hM [true, false, false, false, false, false, false, false] (lls' := [(10, 0), (9, 0), (9, 0), (9, 0), (9, 0), (9, 0), (9, 0), (9, 0)]) rfl k)) ?_
    exact tX_pour_38 hM w _ h0
  refine pj_map (fun k => pj_if_lt_f hM (pc := 30) 38 dX11_pour_30 rfl h8 (pj_iload hM (pc := 33) dX11_pour_33 rfl k)) ?_
  refine pj_tif (fun h9 => ?_) (fun h9 => ?_)
  · refine pj_map (fun k => pj_if_ge_t hM (pc := 35) dX11_pour_35 rfl h9 (pj_aload hM (pc := 44) dX11_pour_44 rfl rfl (pj_gf hM (pc := 46) (t := 0) dX11_pour_46 fl_X11_126 (Int.not_lt.mp h5) rfl 1 rfl k))) ?_
    refine pj_tif (fun h10 => ?_) (fun h10 => ?_)
    · refine pj_map (fun k => pj_if_ne_f hM (pc := 49) 60 dX11_pour_49 rfl (fun q => q h10) (pj_aload hM (pc := 52) dX11_pour_52 rfl rfl (pj_gf hM (pc := 54) (t := 0) dX11_pour_54 fl_X11_126 (Int.not_lt.mp h6) rfl 1 rfl k))) ?_
      refine pj_tif (fun h11 => ?_) (fun h11 => ?_)
      · refine pj_map (fun k => pj_if_eq_t hM (pc := 57) dX11_pour_57 rfl h11 (pj_aload hM (pc := 66) dX11_pour_66 rfl rfl (pj_gf hM (pc := 68) (t := 0) dX11_pour_68 fl_X11_142 (Int.not_lt.mp h5) rfl 2 rfl (pj_aload hM (pc := 71) dX11_pour_71 rfl rfl (pj_gf hM (pc := 73) (t := 0) dX11_pour_73 fl_X11_142 (Int.not_lt.mp h6) rfl 2 rfl k))))) ?_
        refine pj_tif (fun h12 => ?_) (fun h12 => ?_)
        · refine pj_tbind (fun p13 h14 => ?_)
          refine pj_map (fun k => pj_ic_eq_t hM (pc := 76) dX11_pour_76 rfl h12 (pj_aload hM (pc := 86) dX11_pour_86 rfl rfl (pj_iload_n hM (pc := 88) dX11_pour_88 rfl (pj_iload hM (pc := 89) dX11_pour_89 rfl (pj_cV hM (pc := 91) (cT_holds p1 x2 x5 (Int.not_lt.mp h5) w p13 h14) dX11_pour_91 mf_X9_holds mv_X9_holds ml_X11_130 kc_25 rfl rfl (Int.not_lt.mp h5) rfl rfl k))))) ?_
          refine pj_tif (fun h15 => ?_) (fun h15 => ?_)
          · refine pj_map (fun k => pj_if_eq_t hM (pc := 94) dX11_pour_94 rfl h15 (pj_kill hM [true, false, false, false, false, false, false, false] (lls' := [(10, 0), (9, 0), (9, 0), (9, 0), (9, 0), (9, 0), (9, 0), (9, 0)]) rfl k)) ?_
            exact tX_pour_109 hM w _ h0
          refine pj_tbind (fun p16 h17 => ?_)
          refine pj_map (fun k => pj_if_eq_f hM (pc := 94) 109 dX11_pour_94 rfl h15 (pj_aload hM (pc := 97) dX11_pour_97 rfl rfl (pj_iload hM (pc := 99) dX11_pour_99 rfl (pj_iload hM (pc := 101) dX11_pour_101 rfl (pj_cV hM (pc := 103) (cT_holds p3 x4 x5 (Int.not_lt.mp h6) w p16 h17) dX11_pour_103 mf_X9_holds mv_X9_holds ml_X11_130 kc_25 rfl rfl (Int.not_lt.mp h6) rfl rfl k))))) ?_
          refine pj_tif (fun h18 => ?_) (fun h18 => ?_)
          · refine pj_map (fun k => pj_if_ne_f hM (pc := 106) 115 dX11_pour_106 rfl (fun q => q h18) (pj_kill hM [true, false, false, false, false, false, false, false] (lls' := [(10, 0), (9, 0), (9, 0), (9, 0), (9, 0), (9, 0), (9, 0), (9, 0)]) rfl k)) ?_
            exact tX_pour_109 hM w _ h0
          refine pj_tgd (fun h19 => ?_)
          refine pj_tbind (fun p20 h21 => ?_)
          refine pj_tgd (fun h22 => ?_)
          exact pj_tret (fun hr => pj_if_ne_t hM (pc := 106) dX11_pour_106 rfl h18 (pj_aload hM (pc := 115) dX11_pour_115 rfl rfl (pj_getF hM (pc := 117) (t := 52) dX11_pour_117 fl_X11_145 (Int.not_lt.mp h5) rfl rfl (pj_iload_n hM (pc := 120) dX11_pour_120 rfl (pj_aload hM (pc := 121) dX11_pour_121 rfl rfl (pj_getF hM (pc := 123) (t := 52) dX11_pour_123 fl_X11_145 (Int.not_lt.mp h6) rfl rfl (pj_iload hM (pc := 126) dX11_pour_126 rfl (pj_iload hM (pc := 128) dX11_pour_128 rfl (pj_cpl hM (pc := 130) dX11_pour_130 ml_X11_149 mo_A kl_52 kl_52 (Int.not_lt.mp h5) (Int.not_lt.mp h6) h19 rfl (pj_aload_n hM (pc := 133) dX11_pour_133 rfl rfl (pj_cV hM (pc := 134) (cX_grant (pj_cpy w 52 p1 x2 52 p3 x4 x5) p20 h21) dX11_pour_134 mf_X11_grant mv_X11_grant ml_X11_122 kc_10 rfl rfl (by decide) rfl rfl (pj_ret hM (pc := 137) dX11_pour_137 ⟨_, rfl, h22⟩ (h0 ((p20.1, p20.2)) hr) rfl))))))))))))
        refine pj_tbind (fun p23 h24 => ?_)
        refine pj_tgd (fun h25 => ?_)
        exact pj_tret (fun hr => pj_ic_eq_f hM (pc := 76) 86 dX11_pour_76 rfl h12 (pj_aload_n hM (pc := 79) dX11_pour_79 rfl rfl (pj_bipush hM (pc := 80) dX11_pour_80 (by decide) (pj_cV hM (pc := 82) (cX_deny 8 w p23 h24) dX11_pour_82 mf_X11_deny mv_X11_deny ml_X11_114 kc_10 rfl rfl (by decide) rfl rfl (pj_ret hM (pc := 85) dX11_pour_85 ⟨_, rfl, h25⟩ (h0 ((p23.1, p23.2)) hr) rfl)))))
      refine pj_map (fun k => pj_if_eq_f hM (pc := 57) 66 dX11_pour_57 rfl h11 (pj_kill hM [true, false, false, false, false, false, false, false] (lls' := [(10, 0), (9, 0), (9, 0), (9, 0), (9, 0), (9, 0), (9, 0), (9, 0)]) rfl k)) ?_
      exact tX_pour_60 hM w _ h0
    refine pj_map (fun k => pj_if_ne_t hM (pc := 49) dX11_pour_49 rfl h10 (pj_kill hM [true, false, false, false, false, false, false, false] (lls' := [(10, 0), (9, 0), (9, 0), (9, 0), (9, 0), (9, 0), (9, 0), (9, 0)]) rfl k)) ?_
    exact tX_pour_60 hM w _ h0
  refine pj_map (fun k => pj_if_ge_f hM (pc := 35) 44 dX11_pour_35 rfl h9 (pj_kill hM [true, false, false, false, false, false, false, false] (lls' := [(10, 0), (9, 0), (9, 0), (9, 0), (9, 0), (9, 0), (9, 0), (9, 0)]) rfl k)) ?_
  exact tX_pour_38 hM w _ h0
theorem cX_pour (x1 : Int) (x2 : Int) (x3 : Int) (x4 : Int) (x5 : Int)  (w : pj_W) (r : Int × pj_W) (h : fX_pour x1 x2 x3 x4 x5 w = some r) : pj_Cn l yX11_pour cX11_pour 8 (some .boolean) 1 26 true g [(10, 0), (0, x1), (0, x2), (0, x3), (0, x4), (0, x5)] w ((some (0, r.1) : Option pj_V), r.2) :=
  pj_Cn_of rfl (Nat.le_of_ble_eq_true rfl) (lls := [(10, 0), (0, x1), (0, x2), (0, x3), (0, x4), (0, x5), (9, 0), (9, 0)]) rfl (fun Go hM => tX_pour hM x1 x2 x3 x4 x5 w (fun x => ((some (0, x.1) : Option pj_V), x.2) = ((some (0, r.1) : Option pj_V), r.2)) (fun r h => h) r h rfl)
noncomputable def fX_ranked (x1 : Int) (w : pj_W) : Option (Int × pj_W) :=
  if 0 ≤ (w 10 0 10) then ((fB_ranking (w 10 0 10) x1 w).bind fun p2 => (if p2 = (-1) then ((fX_refuse 6 w).bind fun p5 => (some ((p5.1, p5.2)))) else ((fX_answer p2 w).bind fun p7 => (some ((p7.1, p7.2)))))) else none
theorem tX_ranked {Go : pj_C → Prop} (hM : pj_M l yX11_ranked cX11_ranked 3 (some .int) 6 138 true g n0 o Go) (x1 : Int) (w : pj_W)  (R : Int × pj_W → Prop) (h0 : ∀ r, R (r) → ((some (0, r.1) : Option pj_V), r.2) = o) : pj_TG R (fX_ranked x1 w) (Go (0, [(10, 0), (0, x1), (9, 0)], [], w)) := by
  unfold fX_ranked
  refine pj_tgd (fun h1 => ?_)
  refine pj_tbind (fun p2 h3 => ?_)
  refine pj_map (fun k => pj_aload_n hM (pc := 0) dX11_ranked_0 rfl rfl (pj_gf hM (pc := 1) (t := 19) dX11_ranked_1 fl_X11_69 (by decide) rfl 10 rfl (pj_iload_n hM (pc := 4) dX11_ranked_4 rfl (pj_cV hM (pc := 5) (cB_ranking (w 10 0 10) x1 h1 w p2 h3) dX11_ranked_5 mf_X0_ranking mv_X0_ranking ml_X11_300 kc_19 rfl rfl h1 rfl rfl (pj_istore_n hM (pc := 8) dX11_ranked_8 (by decide) (lls' := [(10, 0), (0, x1), (0, p2)]) rfl (pj_iload_n hM (pc := 9) dX11_ranked_9 rfl (pj_iconst hM (pc := 10) dX11_ranked_10 (by decide) k))))))) ?_
  refine pj_tif (fun h4 => ?_) (fun h4 => ?_)
  · refine pj_tbind (fun p5 h6 => ?_)
    exact pj_tret (fun hr => pj_ic_ne_f hM (pc := 11) 23 dX11_ranked_11 rfl (fun q => q h4) (pj_aload_n hM (pc := 14) dX11_ranked_14 rfl rfl (pj_bipush hM (pc := 15) dX11_ranked_15 (by decide) (pj_cV hM (pc := 17) (cX_refuse 6 w p5 h6) dX11_ranked_17 mf_X11_refuse mv_X11_refuse ml_X11_100 kc_10 rfl rfl (by decide) rfl rfl (pj_goto hM (pc := 20) dX11_ranked_20 rfl (pj_ret hM (pc := 28) dX11_ranked_28 ⟨_, rfl⟩ (h0 ((p5.1, p5.2)) hr) rfl))))))
  refine pj_tbind (fun p7 h8 => ?_)
  exact pj_tret (fun hr => pj_ic_ne_t hM (pc := 11) dX11_ranked_11 rfl h4 (pj_aload_n hM (pc := 23) dX11_ranked_23 rfl rfl (pj_iload_n hM (pc := 24) dX11_ranked_24 rfl (pj_cV hM (pc := 25) (cX_answer p2 w p7 h8) dX11_ranked_25 mf_X11_answer mv_X11_answer ml_X11_96 kc_10 rfl rfl (by decide) rfl rfl (pj_ret hM (pc := 28) dX11_ranked_28 ⟨_, rfl⟩ (h0 ((p7.1, p7.2)) hr) rfl)))))
theorem cX_ranked (x1 : Int)  (w : pj_W) (r : Int × pj_W) (h : fX_ranked x1 w = some r) : pj_Cn l yX11_ranked cX11_ranked 3 (some .int) 6 138 true g [(10, 0), (0, x1)] w ((some (0, r.1) : Option pj_V), r.2) :=
  pj_Cn_of rfl (Nat.le_of_ble_eq_true rfl) (lls := [(10, 0), (0, x1), (9, 0)]) rfl (fun Go hM => tX_ranked hM x1 w (fun x => ((some (0, x.1) : Option pj_V), x.2) = ((some (0, r.1) : Option pj_V), r.2)) (fun r h => h) r h rfl)
noncomputable def fX_read (x1 : Int) (x2 : Int) (w : pj_W) : Option (Int × pj_W) :=
  (fX_trayAt x1 w).bind fun p1 => (if p1 < 0 then ((fX_refuse 1 w).bind fun p4 => (some ((p4.1, p4.2)))) else (if (w 25 p1 1) = 0 then ((fT_holds p1 x2 1 w).bind fun p7 => (if p7 = 0 then ((fX_refuse 3 w).bind fun p10 => (some ((p10.1, p10.2)))) else ((fT_numberAt p1 x2 (pj_set w 10 0 15 0)).bind fun p12 => (some ((p12, (pj_set w 10 0 15 0))))))) else ((fX_refuse 2 w).bind fun p14 => (some ((p14.1, p14.2))))))
theorem tX_read {Go : pj_C → Prop} (hM : pj_M l yX11_read cX11_read 4 (some .long) 2 43 true g n0 o Go) (x1 : Int) (x2 : Int) (w : pj_W)  (R : Int × pj_W → Prop) (h0 : ∀ r, R (r) → ((some (1, r.1) : Option pj_V), r.2) = o) : pj_TG R (fX_read x1 x2 w) (Go (0, [(10, 0), (0, x1), (0, x2), (9, 0)], [], w)) := by
  unfold fX_read
  refine pj_tbind (fun p1 h2 => ?_)
  refine pj_map (fun k => pj_aload_n hM (pc := 0) dX11_read_0 rfl rfl (pj_iload_n hM (pc := 1) dX11_read_1 rfl (pj_cV hM (pc := 2) (cX_trayAt x1 w p1 h2) dX11_read_2 mf_X11_trayAt mv_X11_trayAt ml_X11_110 kc_10 rfl rfl (by decide) rfl rfl (pj_astore_n hM (pc := 5) dX11_read_5 (by decide) (by decide) (lls' := [(10, 0), (0, x1), (0, x2), (25, p1)]) rfl (pj_aload_n hM (pc := 6) dX11_read_6 rfl rfl k))))) ?_
  refine pj_tif (fun h3 => ?_) (fun h3 => ?_)
  · refine pj_tbind (fun p4 h5 => ?_)
    exact pj_tret (fun hr => pj_nonnull_f hM (pc := 7) 17 dX11_read_7 rfl (by decide) h3 (pj_aload_n hM (pc := 10) dX11_read_10 rfl rfl (pj_iconst hM (pc := 11) dX11_read_11 (by decide) (pj_cV hM (pc := 12) (cX_refuse 1 w p4 h5) dX11_read_12 mf_X11_refuse mv_X11_refuse ml_X11_100 kc_10 rfl rfl (by decide) rfl rfl (pj_i2l hM (pc := 15) dX11_read_15 (pj_ret hM (pc := 16) dX11_read_16 ⟨_, rfl⟩ (h0 ((p4.1, p4.2)) hr) rfl))))))
  refine pj_map (fun k => pj_nonnull_t hM (pc := 7) dX11_read_7 rfl (by decide) h3 (pj_aload_n hM (pc := 17) dX11_read_17 rfl rfl (pj_gf hM (pc := 18) (t := 0) dX11_read_18 fl_X11_126 (Int.not_lt.mp h3) rfl 1 rfl k))) ?_
  refine pj_tif (fun h6 => ?_) (fun h6 => ?_)
  · refine pj_tbind (fun p7 h8 => ?_)
    refine pj_map (fun k => pj_if_eq_t hM (pc := 21) dX11_read_21 rfl h6 (pj_aload_n hM (pc := 31) dX11_read_31 rfl rfl (pj_iload_n hM (pc := 32) dX11_read_32 rfl (pj_iconst hM (pc := 33) dX11_read_33 (by decide) (pj_cV hM (pc := 34) (cT_holds p1 x2 1 (Int.not_lt.mp h3) w p7 h8) dX11_read_34 mf_X9_holds mv_X9_holds ml_X11_130 kc_25 rfl rfl (Int.not_lt.mp h3) rfl rfl k))))) ?_
    refine pj_tif (fun h9 => ?_) (fun h9 => ?_)
    · refine pj_tbind (fun p10 h11 => ?_)
      exact pj_tret (fun hr => pj_if_ne_f hM (pc := 37) 47 dX11_read_37 rfl (fun q => q h9) (pj_aload_n hM (pc := 40) dX11_read_40 rfl rfl (pj_iconst hM (pc := 41) dX11_read_41 (by decide) (pj_cV hM (pc := 42) (cX_refuse 3 w p10 h11) dX11_read_42 mf_X11_refuse mv_X11_refuse ml_X11_100 kc_10 rfl rfl (by decide) rfl rfl (pj_i2l hM (pc := 45) dX11_read_45 (pj_ret hM (pc := 46) dX11_read_46 ⟨_, rfl⟩ (h0 ((p10.1, p10.2)) hr) rfl))))))
    refine pj_tbind (fun p12 h13 => ?_)
    exact pj_tret (fun hr => pj_if_ne_t hM (pc := 37) dX11_read_37 rfl h9 (pj_aload_n hM (pc := 47) dX11_read_47 rfl rfl (pj_iconst hM (pc := 48) dX11_read_48 (by decide) (pj_pf hM (pc := 49) dX11_read_49 fl_X11_89 (by decide) rfl (fun h => absurd h (by decide)) (by decide) (fun _ => rfl) 15 rfl (pj_aload_n hM (pc := 52) dX11_read_52 rfl rfl (pj_iload_n hM (pc := 53) dX11_read_53 rfl (pj_cV hM (pc := 54) (cT_numberAt p1 x2 (Int.not_lt.mp h3) (pj_set w 10 0 15 0) p12 h13) dX11_read_54 mf_X9_numberAt mv_X9_numberAt ml_X11_138 kc_25 rfl rfl (Int.not_lt.mp h3) rfl rfl (pj_ret hM (pc := 57) dX11_read_57 ⟨_, rfl⟩ (h0 ((p12, (pj_set w 10 0 15 0))) hr) rfl))))))))
  refine pj_tbind (fun p14 h15 => ?_)
  exact pj_tret (fun hr => pj_if_eq_f hM (pc := 21) 31 dX11_read_21 rfl h6 (pj_aload_n hM (pc := 24) dX11_read_24 rfl rfl (pj_iconst hM (pc := 25) dX11_read_25 (by decide) (pj_cV hM (pc := 26) (cX_refuse 2 w p14 h15) dX11_read_26 mf_X11_refuse mv_X11_refuse ml_X11_100 kc_10 rfl rfl (by decide) rfl rfl (pj_i2l hM (pc := 29) dX11_read_29 (pj_ret hM (pc := 30) dX11_read_30 ⟨_, rfl⟩ (h0 ((p14.1, p14.2)) hr) rfl))))))
theorem cX_read (x1 : Int) (x2 : Int)  (w : pj_W) (r : Int × pj_W) (h : fX_read x1 x2 w = some r) : pj_Cn l yX11_read cX11_read 4 (some .long) 2 43 true g [(10, 0), (0, x1), (0, x2)] w ((some (1, r.1) : Option pj_V), r.2) :=
  pj_Cn_of rfl (Nat.le_of_ble_eq_true rfl) (lls := [(10, 0), (0, x1), (0, x2), (9, 0)]) rfl (fun Go hM => tX_read hM x1 x2 w (fun x => ((some (1, x.1) : Option pj_V), x.2) = ((some (1, r.1) : Option pj_V), r.2)) (fun r h => h) r h rfl)
noncomputable def fX_richest_53 (x1 : Int) (x2 : Int) (x3 : Int) (w : pj_W) : Option ((Int × Int × Int) ⊕ (Int × pj_W)) :=
  some (Sum.inl (x1, x2, (pj_wr (x3 + 1))))
noncomputable def fX_richest_6b  (w : pj_W) (x1 : Int) (x2 : Int) (x3 : Int) : Option ((Int × Int × Int) ⊕ (Int × pj_W)) :=
  if 0 ≤ (w 10 0 10) then (if (w 19 (w 10 0 10) 8) ≤ x3 then (if x1 = (-1) then ((fX_refuse 6 w).bind fun p4 => (some (Sum.inr ((p4.1, p4.2))))) else ((fX_answer x1 w).bind fun p6 => (some (Sum.inr ((p6.1, p6.2)))))) else (if 0 ≤ x3 ∧ x3 < 8 then (if (w 23 (8 * (w 10 0 10) + x3) 5) = 0 then (fX_richest_53 x1 x2 x3 w) else (if (w 23 (8 * (w 10 0 10) + x3) 4) ≤ x2 then (fX_richest_53 x1 x2 x3 w) else (fX_richest_53 x3 (w 23 (8 * (w 10 0 10) + x3) 4) x3 w))) else none)) else none
noncomputable def fX_richest_6  (w : pj_W) (s : (Int × Int × Int)) : Option (Int × pj_W) := pj_Lp (fun s : (Int × Int × Int) => fX_richest_6b  w s.1 s.2.1 s.2.2) s
noncomputable def fX_richest  (w : pj_W) : Option (Int × pj_W) :=
  fX_richest_6 w ((-1), (-1), 0)
theorem tX_richest_53 {Go : pj_C → Prop} (hM : pj_M l yX11_richest cX11_richest 5 (some .int) 1 21 true g n0 o Go) (x1 : Int) (x2 : Int) (x3 : Int) (w : pj_W)  (R : (Int × Int × Int) ⊕ (Int × pj_W) → Prop) (h0 : ∀ r, R (Sum.inr (r)) → ((some (0, r.1) : Option pj_V), r.2) = o) (hk6 : ∀ s, R (Sum.inl s) → Go (6, [(10, 0), (0, s.1), (0, s.2.1), (0, s.2.2), (9, 0)], [], w)) : pj_TG R (fX_richest_53 x1 x2 x3 w) (Go (53, [(10, 0), (0, x1), (0, x2), (0, x3), (9, 0)], [], w)) := by
  unfold fX_richest_53
  exact pj_tret (fun hr => pj_iinc hM (pc := 53) dX11_richest_53 rfl (by decide) (lls' := [(10, 0), (0, x1), (0, x2), (0, (pj_wr (x3 + 1))), (9, 0)]) rfl (pj_goto hM (pc := 56) dX11_richest_56 rfl (pj_kill hM [true, true, true, true, false] (lls' := [(10, 0), (0, x1), (0, x2), (0, (pj_wr (x3 + 1))), (9, 0)]) rfl ((hk6 _ hr)))))
theorem tX_richest_6b {Go : pj_C → Prop} (hM : pj_M l yX11_richest cX11_richest 5 (some .int) 1 21 true g n0 o Go)  (w : pj_W) (x1 : Int) (x2 : Int) (x3 : Int)  (R : (Int × Int × Int) ⊕ (Int × pj_W) → Prop) (h0 : ∀ r, R (Sum.inr (r)) → ((some (0, r.1) : Option pj_V), r.2) = o) (hk6 : ∀ s, R (Sum.inl s) → Go (6, [(10, 0), (0, s.1), (0, s.2.1), (0, s.2.2), (9, 0)], [], w)) : pj_TG R (fX_richest_6b  w x1 x2 x3) (Go (6, [(10, 0), (0, x1), (0, x2), (0, x3), (9, 0)], [], w)) := by
  unfold fX_richest_6b
  refine pj_tgd (fun h1 => ?_)
  refine pj_map (fun k => pj_iload_n hM (pc := 6) dX11_richest_6 rfl (pj_aload_n hM (pc := 7) dX11_richest_7 rfl rfl (pj_gf hM (pc := 8) (t := 19) dX11_richest_8 fl_X11_69 (by decide) rfl 10 rfl (pj_gf hM (pc := 11) (t := 0) dX11_richest_11 fl_X11_175 h1 rfl 8 rfl k)))) ?_
  refine pj_tif (fun h2 => ?_) (fun h2 => ?_)
  · refine pj_map (fun k => pj_ic_ge_t hM (pc := 14) dX11_richest_14 rfl h2 (pj_iload_n hM (pc := 59) dX11_richest_59 rfl (pj_iconst hM (pc := 60) dX11_richest_60 (by decide) k))) ?_
    refine pj_tif (fun h3 => ?_) (fun h3 => ?_)
    · refine pj_tbind (fun p4 h5 => ?_)
      exact pj_tret (fun hr => pj_ic_ne_f hM (pc := 61) 73 dX11_richest_61 rfl (fun q => q h3) (pj_aload_n hM (pc := 64) dX11_richest_64 rfl rfl (pj_bipush hM (pc := 65) dX11_richest_65 (by decide) (pj_cV hM (pc := 67) (cX_refuse 6 w p4 h5) dX11_richest_67 mf_X11_refuse mv_X11_refuse ml_X11_100 kc_10 rfl rfl (by decide) rfl rfl (pj_goto hM (pc := 70) dX11_richest_70 rfl (pj_ret hM (pc := 78) dX11_richest_78 ⟨_, rfl⟩ (h0 ((p4.1, p4.2)) hr) rfl))))))
    refine pj_tbind (fun p6 h7 => ?_)
    exact pj_tret (fun hr => pj_ic_ne_t hM (pc := 61) dX11_richest_61 rfl h3 (pj_aload_n hM (pc := 73) dX11_richest_73 rfl rfl (pj_iload_n hM (pc := 74) dX11_richest_74 rfl (pj_cV hM (pc := 75) (cX_answer x1 w p6 h7) dX11_richest_75 mf_X11_answer mv_X11_answer ml_X11_96 kc_10 rfl rfl (by decide) rfl rfl (pj_ret hM (pc := 78) dX11_richest_78 ⟨_, rfl⟩ (h0 ((p6.1, p6.2)) hr) rfl)))))
  refine pj_tgd (fun h8 => ?_)
  refine pj_map (fun k => pj_ic_ge_f hM (pc := 14) 59 dX11_richest_14 rfl h2 (pj_aload_n hM (pc := 17) dX11_richest_17 rfl rfl (pj_gf hM (pc := 18) (t := 19) dX11_richest_18 fl_X11_69 (by decide) rfl 10 rfl (pj_getF hM (pc := 21) (t := 21) dX11_richest_21 fl_X11_303 h1 rfl rfl (pj_iload_n hM (pc := 24) dX11_richest_24 rfl (pj_aald hM (pc := 25) (fun s : Int => 8 * (w 10 0 10) + s) dX11_richest_25 (by decide) rfl (fun _ => rfl) ⟨_, rfl⟩ (by decide) h1 h8 (fun _ => rfl) (by show (0 : Int) ≤ (8 * (w 10 0 10) + x3); omega) (pj_astore hM (pc := 26) dX11_richest_26 (by decide) (by decide) (lls' := [(10, 0), (0, x1), (0, x2), (0, x3), (23, (8 * (w 10 0 10) + x3))]) rfl (pj_aload hM (pc := 28) dX11_richest_28 rfl rfl (pj_gf hM (pc := 30) (t := 0) dX11_richest_30 fl_X11_287 (by show (0 : Int) ≤ (8 * (w 10 0 10) + x3); omega) rfl 5 rfl k))))))))) ?_
  refine pj_tif (fun h9 => ?_) (fun h9 => ?_)
  · refine pj_map (fun k => pj_if_eq_t hM (pc := 33) dX11_richest_33 rfl h9 (pj_kill hM [true, true, true, true, false] (lls' := [(10, 0), (0, x1), (0, x2), (0, x3), (9, 0)]) rfl k)) ?_
    exact tX_richest_53 hM x1 x2 x3 w _ h0 hk6
  refine pj_map (fun k => pj_if_eq_f hM (pc := 33) 53 dX11_richest_33 rfl h9 (pj_aload hM (pc := 36) dX11_richest_36 rfl rfl (pj_gf hM (pc := 38) (t := 0) dX11_richest_38 fl_X11_244 (by show (0 : Int) ≤ (8 * (w 10 0 10) + x3); omega) rfl 4 rfl (pj_iload_n hM (pc := 41) dX11_richest_41 rfl k)))) ?_
  refine pj_tif (fun h10 => ?_) (fun h10 => ?_)
  · refine pj_map (fun k => pj_ic_le_t hM (pc := 42) dX11_richest_42 rfl h10 (pj_kill hM [true, true, true, true, false] (lls' := [(10, 0), (0, x1), (0, x2), (0, x3), (9, 0)]) rfl k)) ?_
    exact tX_richest_53 hM x1 x2 x3 w _ h0 hk6
  refine pj_map (fun k => pj_ic_le_f hM (pc := 42) 53 dX11_richest_42 rfl h10 (pj_aload hM (pc := 45) dX11_richest_45 rfl rfl (pj_gf hM (pc := 47) (t := 0) dX11_richest_47 fl_X11_244 (by show (0 : Int) ≤ (8 * (w 10 0 10) + x3); omega) rfl 4 rfl (pj_istore_n hM (pc := 50) dX11_richest_50 (by decide) (lls' := [(10, 0), (0, x1), (0, (w 23 (8 * (w 10 0 10) + x3) 4)), (0, x3), (23, (8 * (w 10 0 10) + x3))]) rfl (pj_iload_n hM (pc := 51) dX11_richest_51 rfl (pj_istore_n hM (pc := 52) dX11_richest_52 (by decide) (lls' := [(10, 0), (0, x3), (0, (w 23 (8 * (w 10 0 10) + x3) 4)), (0, x3), (23, (8 * (w 10 0 10) + x3))]) rfl (pj_kill hM [true, true, true, true, false] (lls' := [(10, 0), (0, x3), (0, (w 23 (8 * (w 10 0 10) + x3) 4)), (0, x3), (9, 0)]) rfl k))))))) ?_
  exact tX_richest_53 hM x3 (w 23 (8 * (w 10 0 10) + x3) 4) x3 w _ h0 hk6
theorem tX_richest_6 {Go : pj_C → Prop} (hM : pj_M l yX11_richest cX11_richest 5 (some .int) 1 21 true g n0 o Go)  (w : pj_W)  (R : Int × pj_W → Prop) (h0 : ∀ r, R (r) → ((some (0, r.1) : Option pj_V), r.2) = o) (s : (Int × Int × Int)) : pj_TG R (fX_richest_6  w s) (Go (6, [(10, 0), (0, s.1), (0, s.2.1), (0, s.2.2), (9, 0)], [], w)) := by
  unfold fX_richest_6
  exact pj_tLp (G := fun s : (Int × Int × Int) => Go (6, [(10, 0), (0, s.1), (0, s.2.1), (0, s.2.2), (9, 0)], [], w)) (fun s => tX_richest_6b hM  w s.1 s.2.1 s.2.2  _ (fun r h => h0 r h)  (fun s h => h)) s
theorem tX_richest {Go : pj_C → Prop} (hM : pj_M l yX11_richest cX11_richest 5 (some .int) 1 21 true g n0 o Go)  (w : pj_W)  (R : Int × pj_W → Prop) (h0 : ∀ r, R (r) → ((some (0, r.1) : Option pj_V), r.2) = o) : pj_TG R (fX_richest  w) (Go (0, [(10, 0), (9, 0), (9, 0), (9, 0), (9, 0)], [], w)) := by
  unfold fX_richest
  refine pj_map (fun k => pj_iconst hM (pc := 0) dX11_richest_0 (by decide) (pj_istore_n hM (pc := 1) dX11_richest_1 (by decide) (lls' := [(10, 0), (0, (-1)), (9, 0), (9, 0), (9, 0)]) rfl (pj_iconst hM (pc := 2) dX11_richest_2 (by decide) (pj_istore_n hM (pc := 3) dX11_richest_3 (by decide) (lls' := [(10, 0), (0, (-1)), (0, (-1)), (9, 0), (9, 0)]) rfl (pj_iconst hM (pc := 4) dX11_richest_4 (by decide) (pj_istore_n hM (pc := 5) dX11_richest_5 (by decide) (lls' := [(10, 0), (0, (-1)), (0, (-1)), (0, 0), (9, 0)]) rfl (pj_kill hM [true, true, true, true, false] (lls' := [(10, 0), (0, (-1)), (0, (-1)), (0, 0), (9, 0)]) rfl k))))))) ?_
  exact tX_richest_6 hM w _ h0 _
theorem cX_richest   (w : pj_W) (r : Int × pj_W) (h : fX_richest  w = some r) : pj_Cn l yX11_richest cX11_richest 5 (some .int) 1 21 true g [(10, 0)] w ((some (0, r.1) : Option pj_V), r.2) :=
  pj_Cn_of rfl (Nat.le_of_ble_eq_true rfl) (lls := [(10, 0), (9, 0), (9, 0), (9, 0), (9, 0)]) rfl (fun Go hM => tX_richest hM w (fun x => ((some (0, x.1) : Option pj_V), x.2) = ((some (0, r.1) : Option pj_V), r.2)) (fun r h => h) r h rfl)
noncomputable def fX_rivals_27  (w : pj_W) : Option (Int × pj_W) :=
  (fX_refuse 1 w).bind fun p1 => (some ((p1.1, p1.2)))
noncomputable def fX_rivals_87 (x3 : Int) (x4 : Int) (x5 : Int) (w : pj_W) : Option ((Int × Int) ⊕ (Int × pj_W)) :=
  some (Sum.inl (x4, (pj_wr (x5 + 1))))
noncomputable def fX_rivals_47b (x3 : Int) (w : pj_W) (x4 : Int) (x5 : Int) : Option ((Int × Int) ⊕ (Int × pj_W)) :=
  if 0 ≤ (w 10 0 10) then (if (w 19 (w 10 0 10) 8) ≤ x5 then ((fX_answer x4 w).bind fun p3 => (some (Sum.inr ((p3.1, p3.2))))) else (if 0 ≤ x5 ∧ x5 < 8 then ((fN_ownerSet (8 * (w 10 0 10) + x5) w).bind fun p6 => (fX_rivals_87 x3 (if (pj_and p6 x3) = x3 then (pj_or x4 (pj_shl 1 x5)) else x4) x5 w)) else none)) else none
noncomputable def fX_rivals_47 (x3 : Int) (w : pj_W) (s : (Int × Int)) : Option (Int × pj_W) := pj_Lp (fun s : (Int × Int) => fX_rivals_47b x3 w s.1 s.2) s
noncomputable def fX_rivals (x1 : Int) (x2 : Int) (w : pj_W) : Option (Int × pj_W) :=
  if 0 ≤ (w 10 0 10) then ((fB_finderAt (w 10 0 10) x1 w).bind fun p2 => (if p2 < 0 then (fX_rivals_27 w) else ((fB_finderAt (w 10 0 10) x2 w).bind fun p5 => (if p5 < 0 then (fX_rivals_27 w) else (if x1 = x2 then (fX_rivals_27 w) else (fX_rivals_47 (pj_or (pj_shl 1 x1) (pj_shl 1 x2)) w (0, 0))))))) else none
theorem tX_rivals_27 {Go : pj_C → Prop} (hM : pj_M l yX11_rivals cX11_rivals 6 (some .int) 1 22 true g n0 o Go)  (w : pj_W)  (R : Int × pj_W → Prop) (h0 : ∀ r, R (r) → ((some (0, r.1) : Option pj_V), r.2) = o) : pj_TG R (fX_rivals_27  w) (Go (27, [(10, 0), (9, 0), (9, 0), (9, 0), (9, 0), (9, 0)], [], w)) := by
  unfold fX_rivals_27
  refine pj_tbind (fun p1 h2 => ?_)
  exact pj_tret (fun hr => pj_aload_n hM (pc := 27) dX11_rivals_27 rfl rfl (pj_iconst hM (pc := 28) dX11_rivals_28 (by decide) (pj_cV hM (pc := 29) (cX_refuse 1 w p1 h2) dX11_rivals_29 mf_X11_refuse mv_X11_refuse ml_X11_100 kc_10 rfl rfl (by decide) rfl rfl (pj_ret hM (pc := 32) dX11_rivals_32 ⟨_, rfl⟩ (h0 ((p1.1, p1.2)) hr) rfl))))
theorem tX_rivals_87 {Go : pj_C → Prop} (hM : pj_M l yX11_rivals cX11_rivals 6 (some .int) 1 22 true g n0 o Go) (x3 : Int) (x4 : Int) (x5 : Int) (w : pj_W)  (R : (Int × Int) ⊕ (Int × pj_W) → Prop) (h0 : ∀ r, R (Sum.inr (r)) → ((some (0, r.1) : Option pj_V), r.2) = o) (hk47 : ∀ s, R (Sum.inl s) → Go (47, [(10, 0), (9, 0), (9, 0), (0, x3), (0, s.1), (0, s.2)], [], w)) : pj_TG R (fX_rivals_87 x3 x4 x5 w) (Go (87, [(10, 0), (9, 0), (9, 0), (0, x3), (0, x4), (0, x5)], [], w)) := by
  unfold fX_rivals_87
  exact pj_tret (fun hr => pj_iinc hM (pc := 87) dX11_rivals_87 rfl (by decide) (lls' := [(10, 0), (9, 0), (9, 0), (0, x3), (0, x4), (0, (pj_wr (x5 + 1)))]) rfl (pj_goto hM (pc := 90) dX11_rivals_90 rfl (pj_kill hM [true, false, false, true, true, true] (lls' := [(10, 0), (9, 0), (9, 0), (0, x3), (0, x4), (0, (pj_wr (x5 + 1)))]) rfl ((hk47 _ hr)))))
theorem tX_rivals_47b {Go : pj_C → Prop} (hM : pj_M l yX11_rivals cX11_rivals 6 (some .int) 1 22 true g n0 o Go) (x3 : Int) (w : pj_W) (x4 : Int) (x5 : Int)  (R : (Int × Int) ⊕ (Int × pj_W) → Prop) (h0 : ∀ r, R (Sum.inr (r)) → ((some (0, r.1) : Option pj_V), r.2) = o) (hk47 : ∀ s, R (Sum.inl s) → Go (47, [(10, 0), (9, 0), (9, 0), (0, x3), (0, s.1), (0, s.2)], [], w)) : pj_TG R (fX_rivals_47b x3 w x4 x5) (Go (47, [(10, 0), (9, 0), (9, 0), (0, x3), (0, x4), (0, x5)], [], w)) := by
  unfold fX_rivals_47b
  refine pj_tgd (fun h1 => ?_)
  refine pj_map (fun k => pj_iload hM (pc := 47) dX11_rivals_47 rfl (pj_aload_n hM (pc := 49) dX11_rivals_49 rfl rfl (pj_gf hM (pc := 50) (t := 19) dX11_rivals_50 fl_X11_69 (by decide) rfl 10 rfl (pj_gf hM (pc := 53) (t := 0) dX11_rivals_53 fl_X11_175 h1 rfl 8 rfl k)))) ?_
  refine pj_tif (fun h2 => ?_) (fun h2 => ?_)
  · refine pj_tbind (fun p3 h4 => ?_)
    exact pj_tret (fun hr => pj_ic_ge_t hM (pc := 56) dX11_rivals_56 rfl h2 (pj_aload_n hM (pc := 93) dX11_rivals_93 rfl rfl (pj_iload hM (pc := 94) dX11_rivals_94 rfl (pj_cV hM (pc := 96) (cX_answer x4 w p3 h4) dX11_rivals_96 mf_X11_answer mv_X11_answer ml_X11_96 kc_10 rfl rfl (by decide) rfl rfl (pj_ret hM (pc := 99) dX11_rivals_99 ⟨_, rfl⟩ (h0 ((p3.1, p3.2)) hr) rfl)))))
  refine pj_tgd (fun h5 => ?_)
  refine pj_tbind (fun p6 h7 => ?_)
  refine pj_map (fun k => pj_ic_ge_f hM (pc := 56) 93 dX11_rivals_56 rfl h2 (pj_aload_n hM (pc := 59) dX11_rivals_59 rfl rfl (pj_gf hM (pc := 60) (t := 19) dX11_rivals_60 fl_X11_69 (by decide) rfl 10 rfl (pj_getF hM (pc := 63) (t := 21) dX11_rivals_63 fl_X11_303 h1 rfl rfl (pj_iload hM (pc := 66) dX11_rivals_66 rfl (pj_aald hM (pc := 68) (fun s : Int => 8 * (w 10 0 10) + s) dX11_rivals_68 (by decide) rfl (fun _ => rfl) ⟨_, rfl⟩ (by decide) h1 h5 (fun _ => rfl) (by show (0 : Int) ≤ (8 * (w 10 0 10) + x5); omega) (pj_cV hM (pc := 69) (cN_ownerSet (8 * (w 10 0 10) + x5) (by show (0 : Int) ≤ (8 * (w 10 0 10) + x5); omega) w p6 h7) dX11_rivals_69 mf_X4_ownerSet mv_X4_ownerSet ml_X11_371 kc_23 rfl rfl (by show (0 : Int) ≤ (8 * (w 10 0 10) + x5); omega) rfl rfl (pj_iload_n hM (pc := 72) dX11_rivals_72 rfl (pj_iand hM (pc := 73) dX11_rivals_73 (pj_iload_n hM (pc := 74) dX11_rivals_74 rfl k)))))))))) ?_
  refine pj_tJ (fun v : Int => fX_rivals_87 x3 v x5 w) (fun h8 => ?_) (fun h8 => ?_)
  · refine pj_map (fun k => pj_ic_ne_f hM (pc := 75) 87 dX11_rivals_75 rfl (fun q => q h8) (pj_iload hM (pc := 78) dX11_rivals_78 rfl (pj_iconst hM (pc := 80) dX11_rivals_80 (by decide) (pj_iload hM (pc := 81) dX11_rivals_81 rfl (pj_ishl hM (pc := 83) dX11_rivals_83 (pj_ior hM (pc := 84) dX11_rivals_84 (pj_istore hM (pc := 85) dX11_rivals_85 (by decide) (lls' := [(10, 0), (9, 0), (9, 0), (0, x3), (0, (pj_or x4 (pj_shl 1 x5))), (0, x5)]) rfl (pj_kill hM [true, false, false, true, true, true] (lls' := [(10, 0), (9, 0), (9, 0), (0, x3), (0, (pj_or x4 (pj_shl 1 x5))), (0, x5)]) rfl k)))))))) ?_
    exact tX_rivals_87 hM x3 (pj_or x4 (pj_shl 1 x5)) x5 w _ h0 hk47
  refine pj_map (fun k => pj_ic_ne_t hM (pc := 75) dX11_rivals_75 rfl h8 (pj_kill hM [true, false, false, true, true, true] (lls' := [(10, 0), (9, 0), (9, 0), (0, x3), (0, x4), (0, x5)]) rfl k)) ?_
  exact tX_rivals_87 hM x3 x4 x5 w _ h0 hk47
theorem tX_rivals_47 {Go : pj_C → Prop} (hM : pj_M l yX11_rivals cX11_rivals 6 (some .int) 1 22 true g n0 o Go) (x3 : Int) (w : pj_W)  (R : Int × pj_W → Prop) (h0 : ∀ r, R (r) → ((some (0, r.1) : Option pj_V), r.2) = o) (s : (Int × Int)) : pj_TG R (fX_rivals_47 x3 w s) (Go (47, [(10, 0), (9, 0), (9, 0), (0, x3), (0, s.1), (0, s.2)], [], w)) := by
  unfold fX_rivals_47
  exact pj_tLp (G := fun s : (Int × Int) => Go (47, [(10, 0), (9, 0), (9, 0), (0, x3), (0, s.1), (0, s.2)], [], w)) (fun s => tX_rivals_47b hM x3 w s.1 s.2  _ (fun r h => h0 r h)  (fun s h => h)) s
theorem tX_rivals {Go : pj_C → Prop} (hM : pj_M l yX11_rivals cX11_rivals 6 (some .int) 1 22 true g n0 o Go) (x1 : Int) (x2 : Int) (w : pj_W)  (R : Int × pj_W → Prop) (h0 : ∀ r, R (r) → ((some (0, r.1) : Option pj_V), r.2) = o) : pj_TG R (fX_rivals x1 x2 w) (Go (0, [(10, 0), (0, x1), (0, x2), (9, 0), (9, 0), (9, 0)], [], w)) := by
  unfold fX_rivals
  refine pj_tgd (fun h1 => ?_)
  refine pj_tbind (fun p2 h3 => ?_)
  refine pj_map (fun k => pj_aload_n hM (pc := 0) dX11_rivals_0 rfl rfl (pj_gf hM (pc := 1) (t := 19) dX11_rivals_1 fl_X11_69 (by decide) rfl 10 rfl (pj_iload_n hM (pc := 4) dX11_rivals_4 rfl (pj_cV hM (pc := 5) (cB_finderAt (w 10 0 10) x1 h1 w p2 h3) dX11_rivals_5 mf_X0_finderAt mv_X0_finderAt ml_X11_216 kc_19 rfl rfl h1 rfl rfl k)))) ?_
  refine pj_tif (fun h4 => ?_) (fun h4 => ?_)
  · refine pj_map (fun k => pj_null_t hM (pc := 8) dX11_rivals_8 rfl (by decide) h4 (pj_kill hM [true, false, false, false, false, false] (lls' := [(10, 0), (9, 0), (9, 0), (9, 0), (9, 0), (9, 0)]) rfl k)) ?_
    exact tX_rivals_27 hM w _ h0
  refine pj_tbind (fun p5 h6 => ?_)
  refine pj_map (fun k => pj_null_f hM (pc := 8) 27 dX11_rivals_8 rfl (by decide) h4 (pj_aload_n hM (pc := 11) dX11_rivals_11 rfl rfl (pj_gf hM (pc := 12) (t := 19) dX11_rivals_12 fl_X11_69 (by decide) rfl 10 rfl (pj_iload_n hM (pc := 15) dX11_rivals_15 rfl (pj_cV hM (pc := 16) (cB_finderAt (w 10 0 10) x2 h1 w p5 h6) dX11_rivals_16 mf_X0_finderAt mv_X0_finderAt ml_X11_216 kc_19 rfl rfl h1 rfl rfl k))))) ?_
  refine pj_tif (fun h7 => ?_) (fun h7 => ?_)
  · refine pj_map (fun k => pj_null_t hM (pc := 19) dX11_rivals_19 rfl (by decide) h7 (pj_kill hM [true, false, false, false, false, false] (lls' := [(10, 0), (9, 0), (9, 0), (9, 0), (9, 0), (9, 0)]) rfl k)) ?_
    exact tX_rivals_27 hM w _ h0
  refine pj_map (fun k => pj_null_f hM (pc := 19) 27 dX11_rivals_19 rfl (by decide) h7 (pj_iload_n hM (pc := 22) dX11_rivals_22 rfl (pj_iload_n hM (pc := 23) dX11_rivals_23 rfl k))) ?_
  refine pj_tif (fun h8 => ?_) (fun h8 => ?_)
  · refine pj_map (fun k => pj_ic_ne_f hM (pc := 24) 33 dX11_rivals_24 rfl (fun q => q h8) (pj_kill hM [true, false, false, false, false, false] (lls' := [(10, 0), (9, 0), (9, 0), (9, 0), (9, 0), (9, 0)]) rfl k)) ?_
    exact tX_rivals_27 hM w _ h0
  refine pj_map (fun k => pj_ic_ne_t hM (pc := 24) dX11_rivals_24 rfl h8 (pj_iconst hM (pc := 33) dX11_rivals_33 (by decide) (pj_iload_n hM (pc := 34) dX11_rivals_34 rfl (pj_ishl hM (pc := 35) dX11_rivals_35 (pj_iconst hM (pc := 36) dX11_rivals_36 (by decide) (pj_iload_n hM (pc := 37) dX11_rivals_37 rfl (pj_ishl hM (pc := 38) dX11_rivals_38 (pj_ior hM (pc := 39) dX11_rivals_39 (pj_istore_n hM (pc := 40) dX11_rivals_40 (by decide) (lls' := [(10, 0), (0, x1), (0, x2), (0, (pj_or (pj_shl 1 x1) (pj_shl 1 x2))), (9, 0), (9, 0)]) rfl (pj_iconst hM (pc := 41) dX11_rivals_41 (by decide) (pj_istore hM (pc := 42) dX11_rivals_42 (by decide) (lls' := [(10, 0), (0, x1), (0, x2), (0, (pj_or (pj_shl 1 x1) (pj_shl 1 x2))), (0, 0), (9, 0)]) rfl (pj_iconst hM (pc := 44) dX11_rivals_44 (by decide) (pj_istore hM (pc := 45) dX11_rivals_45 (by decide) (lls' := [(10, 0), (0, x1), (0, x2), (0, (pj_or (pj_shl 1 x1) (pj_shl 1 x2))), (0, 0), (0, 0)]) rfl (pj_kill hM [true, false, false, true, true, true] (lls' := [(10, 0), (9, 0), (9, 0), (0, (pj_or (pj_shl 1 x1) (pj_shl 1 x2))), (0, 0), (0, 0)]) rfl k)))))))))))))) ?_
  exact tX_rivals_47 hM (pj_or (pj_shl 1 x1) (pj_shl 1 x2)) w _ h0 _
theorem cX_rivals (x1 : Int) (x2 : Int)  (w : pj_W) (r : Int × pj_W) (h : fX_rivals x1 x2 w = some r) : pj_Cn l yX11_rivals cX11_rivals 6 (some .int) 1 22 true g [(10, 0), (0, x1), (0, x2)] w ((some (0, r.1) : Option pj_V), r.2) :=
  pj_Cn_of rfl (Nat.le_of_ble_eq_true rfl) (lls := [(10, 0), (0, x1), (0, x2), (9, 0), (9, 0), (9, 0)]) rfl (fun Go hM => tX_rivals hM x1 x2 w (fun x => ((some (0, x.1) : Option pj_V), x.2) = ((some (0, r.1) : Option pj_V), r.2)) (fun r h => h) r h rfl)
noncomputable def fB_threatTo_28 (i0 : Int) (x1 : Int) (x2 : Int) (x3 : Int) (w : pj_W) : Option ((Int × Int) ⊕ (Int)) :=
  some (Sum.inl (x2, (pj_wr (x3 + 1))))
noncomputable def fB_threatTo_4b (i0 : Int) (x1 : Int) (w : pj_W) (x2 : Int) (x3 : Int) : Option ((Int × Int) ⊕ (Int)) :=
  if (w 19 i0 7) ≤ x3 then (some (Sum.inr (x2))) else ((fB_soonestOf i0 x3 x1 w).bind fun p2 => (fB_threatTo_28 i0 x1 (if p2 = (-1) then x2 else (pj_or x2 (pj_shl 1 x3))) x3 w))
noncomputable def fB_threatTo_4 (i0 : Int) (x1 : Int) (w : pj_W) (s : (Int × Int)) : Option (Int) := pj_Lp (fun s : (Int × Int) => fB_threatTo_4b i0 x1 w s.1 s.2) s
noncomputable def fB_threatTo (i0 : Int) (x1 : Int) (w : pj_W) : Option (Int) :=
  fB_threatTo_4 i0 x1 w (0, 0)
theorem tB_threatTo_28 {Go : pj_C → Prop} (hM : pj_M l yX0_threatTo cX0_threatTo 4 (some .int) 3 66 true g n0 o Go) (i0 : Int) (x1 : Int) (x2 : Int) (x3 : Int) (w : pj_W) (hn0 : 0 ≤ i0) (R : (Int × Int) ⊕ (Int) → Prop) (h0 : ∀ r, R (Sum.inr (r)) → ((some (0, r) : Option pj_V), w) = o) (hk4 : ∀ s, R (Sum.inl s) → Go (4, [(19, i0), (23, x1), (0, s.1), (0, s.2)], [], w)) : pj_TG R (fB_threatTo_28 i0 x1 x2 x3 w) (Go (28, [(19, i0), (23, x1), (0, x2), (0, x3)], [], w)) := by
  unfold fB_threatTo_28
  exact pj_tret (fun hr => pj_iinc hM (pc := 28) dX0_threatTo_28 rfl (by decide) (lls' := [(19, i0), (23, x1), (0, x2), (0, (pj_wr (x3 + 1)))]) rfl (pj_goto hM (pc := 31) dX0_threatTo_31 rfl (pj_kill hM [true, true, true, true] (lls' := [(19, i0), (23, x1), (0, x2), (0, (pj_wr (x3 + 1)))]) rfl ((hk4 _ hr)))))
theorem tB_threatTo_4b {Go : pj_C → Prop} (hM : pj_M l yX0_threatTo cX0_threatTo 4 (some .int) 3 66 true g n0 o Go) (i0 : Int) (x1 : Int) (w : pj_W) (x2 : Int) (x3 : Int) (hn0 : 0 ≤ i0) (R : (Int × Int) ⊕ (Int) → Prop) (h0 : ∀ r, R (Sum.inr (r)) → ((some (0, r) : Option pj_V), w) = o) (hk4 : ∀ s, R (Sum.inl s) → Go (4, [(19, i0), (23, x1), (0, s.1), (0, s.2)], [], w)) : pj_TG R (fB_threatTo_4b i0 x1 w x2 x3) (Go (4, [(19, i0), (23, x1), (0, x2), (0, x3)], [], w)) := by
  unfold fB_threatTo_4b
  refine pj_map (fun k => pj_iload_n hM (pc := 4) dX0_threatTo_4 rfl (pj_aload_n hM (pc := 5) dX0_threatTo_5 rfl rfl (pj_gf hM (pc := 6) (t := 0) dX0_threatTo_6 fl_X0_44 hn0 rfl 7 rfl k))) ?_
  refine pj_tif (fun h1 => ?_) (fun h1 => ?_)
  · exact pj_tret (fun hr => pj_ic_ge_t hM (pc := 9) dX0_threatTo_9 rfl h1 (pj_iload_n hM (pc := 34) dX0_threatTo_34 rfl (pj_ret hM (pc := 35) dX0_threatTo_35 ⟨_, rfl⟩ (h0 (x2) hr) rfl)))
  refine pj_tbind (fun p2 h3 => ?_)
  refine pj_map (fun k => pj_ic_ge_f hM (pc := 9) 34 dX0_threatTo_9 rfl h1 (pj_aload_n hM (pc := 12) dX0_threatTo_12 rfl rfl (pj_iload_n hM (pc := 13) dX0_threatTo_13 rfl (pj_aload_n hM (pc := 14) dX0_threatTo_14 rfl rfl (pj_cV hM (pc := 15) (cB_soonestOf i0 x3 x1 hn0 w p2 h3) dX0_threatTo_15 mf_X0_soonestOf mv_X0_soonestOf ml_X0_188 kc_19 rfl rfl hn0 rfl rfl (pj_iconst hM (pc := 18) dX0_threatTo_18 (by decide) k)))))) ?_
  refine pj_tJ (fun v : Int => fB_threatTo_28 i0 x1 v x3 w) (fun h4 => ?_) (fun h4 => ?_)
  · refine pj_map (fun k => pj_ic_eq_t hM (pc := 19) dX0_threatTo_19 rfl h4 (pj_kill hM [true, true, true, true] (lls' := [(19, i0), (23, x1), (0, x2), (0, x3)]) rfl k)) ?_
    exact tB_threatTo_28 hM i0 x1 x2 x3 w hn0 _ h0 hk4
  refine pj_map (fun k => pj_ic_eq_f hM (pc := 19) 28 dX0_threatTo_19 rfl h4 (pj_iload_n hM (pc := 22) dX0_threatTo_22 rfl (pj_iconst hM (pc := 23) dX0_threatTo_23 (by decide) (pj_iload_n hM (pc := 24) dX0_threatTo_24 rfl (pj_ishl hM (pc := 25) dX0_threatTo_25 (pj_ior hM (pc := 26) dX0_threatTo_26 (pj_istore_n hM (pc := 27) dX0_threatTo_27 (by decide) (lls' := [(19, i0), (23, x1), (0, (pj_or x2 (pj_shl 1 x3))), (0, x3)]) rfl (pj_kill hM [true, true, true, true] (lls' := [(19, i0), (23, x1), (0, (pj_or x2 (pj_shl 1 x3))), (0, x3)]) rfl k)))))))) ?_
  exact tB_threatTo_28 hM i0 x1 (pj_or x2 (pj_shl 1 x3)) x3 w hn0 _ h0 hk4
theorem tB_threatTo_4 {Go : pj_C → Prop} (hM : pj_M l yX0_threatTo cX0_threatTo 4 (some .int) 3 66 true g n0 o Go) (i0 : Int) (x1 : Int) (w : pj_W) (hn0 : 0 ≤ i0) (R : Int → Prop) (h0 : ∀ r, R (r) → ((some (0, r) : Option pj_V), w) = o) (s : (Int × Int)) : pj_TG R (fB_threatTo_4 i0 x1 w s) (Go (4, [(19, i0), (23, x1), (0, s.1), (0, s.2)], [], w)) := by
  unfold fB_threatTo_4
  exact pj_tLp (G := fun s : (Int × Int) => Go (4, [(19, i0), (23, x1), (0, s.1), (0, s.2)], [], w)) (fun s => tB_threatTo_4b hM i0 x1 w s.1 s.2 hn0 _ (fun r h => h0 r h)  (fun s h => h)) s
theorem tB_threatTo {Go : pj_C → Prop} (hM : pj_M l yX0_threatTo cX0_threatTo 4 (some .int) 3 66 true g n0 o Go) (i0 : Int) (x1 : Int) (w : pj_W) (hn0 : 0 ≤ i0) (R : Int → Prop) (h0 : ∀ r, R (r) → ((some (0, r) : Option pj_V), w) = o) : pj_TG R (fB_threatTo i0 x1 w) (Go (0, [(19, i0), (23, x1), (9, 0), (9, 0)], [], w)) := by
  unfold fB_threatTo
  refine pj_map (fun k => pj_iconst hM (pc := 0) dX0_threatTo_0 (by decide) (pj_istore_n hM (pc := 1) dX0_threatTo_1 (by decide) (lls' := [(19, i0), (23, x1), (0, 0), (9, 0)]) rfl (pj_iconst hM (pc := 2) dX0_threatTo_2 (by decide) (pj_istore_n hM (pc := 3) dX0_threatTo_3 (by decide) (lls' := [(19, i0), (23, x1), (0, 0), (0, 0)]) rfl (pj_kill hM [true, true, true, true] (lls' := [(19, i0), (23, x1), (0, 0), (0, 0)]) rfl k))))) ?_
  exact tB_threatTo_4 hM i0 x1 w hn0 _ h0 _
theorem cB_threatTo (i0 : Int) (x1 : Int) (hn0 : 0 ≤ i0) (w : pj_W) (r : Int) (h : fB_threatTo i0 x1 w = some r) : pj_Cn l yX0_threatTo cX0_threatTo 4 (some .int) 3 66 true g [(19, i0), (23, x1)] w ((some (0, r) : Option pj_V), w) :=
  pj_Cn_of rfl (Nat.le_of_ble_eq_true rfl) (lls := [(19, i0), (23, x1), (9, 0), (9, 0)]) rfl (fun Go hM => tB_threatTo hM i0 x1 w hn0 (fun x => ((some (0, x) : Option pj_V), w) = ((some (0, r) : Option pj_V), w)) (fun r h => h) r h rfl)
noncomputable def fX_safe_82 (x2 : Int) (x3 : Int) (x4 : Int) (w : pj_W) : Option ((Int × Int) ⊕ (Int × pj_W)) :=
  some (Sum.inl (x3, (pj_wr (x4 + 1))))
noncomputable def fX_safe_26b (x2 : Int) (w : pj_W) (x3 : Int) (x4 : Int) : Option ((Int × Int) ⊕ (Int × pj_W)) :=
  if 0 ≤ (w 10 0 10) then (if (w 19 (w 10 0 10) 8) ≤ x4 then ((fX_answer x3 w).bind fun p3 => (some (Sum.inr ((p3.1, p3.2))))) else (if 0 ≤ x4 ∧ x4 < 8 then ((fN_lastSet (8 * (w 10 0 10) + x4) w).bind fun p6 => (if p6 = x2 then ((fB_threatTo (w 10 0 10) (8 * (w 10 0 10) + x4) w).bind fun p9 => (fX_safe_82 x2 (if (pj_and p9 (pj_xor x2 (-1))) = 0 then (pj_or x3 (pj_shl 1 x4)) else x3) x4 w)) else (fX_safe_82 x2 x3 x4 w))) else none)) else none
noncomputable def fX_safe_26 (x2 : Int) (w : pj_W) (s : (Int × Int)) : Option (Int × pj_W) := pj_Lp (fun s : (Int × Int) => fX_safe_26b x2 w s.1 s.2) s
noncomputable def fX_safe (x1 : Int) (w : pj_W) : Option (Int × pj_W) :=
  if 0 ≤ (w 10 0 10) then ((fB_finderAt (w 10 0 10) x1 w).bind fun p2 => (if p2 < 0 then ((fX_refuse 1 w).bind fun p5 => (some ((p5.1, p5.2)))) else (fX_safe_26 (pj_shl 1 x1) w (0, 0)))) else none
theorem tX_safe_82 {Go : pj_C → Prop} (hM : pj_M l yX11_safe cX11_safe 6 (some .int) 4 89 true g n0 o Go) (x2 : Int) (x3 : Int) (x4 : Int) (w : pj_W)  (R : (Int × Int) ⊕ (Int × pj_W) → Prop) (h0 : ∀ r, R (Sum.inr (r)) → ((some (0, r.1) : Option pj_V), r.2) = o) (hk26 : ∀ s, R (Sum.inl s) → Go (26, [(10, 0), (9, 0), (0, x2), (0, s.1), (0, s.2), (9, 0)], [], w)) : pj_TG R (fX_safe_82 x2 x3 x4 w) (Go (82, [(10, 0), (9, 0), (0, x2), (0, x3), (0, x4), (9, 0)], [], w)) := by
  unfold fX_safe_82
  exact pj_tret (fun hr => pj_iinc hM (pc := 82) dX11_safe_82 rfl (by decide) (lls' := [(10, 0), (9, 0), (0, x2), (0, x3), (0, (pj_wr (x4 + 1))), (9, 0)]) rfl (pj_goto hM (pc := 85) dX11_safe_85 rfl (pj_kill hM [true, false, true, true, true, false] (lls' := [(10, 0), (9, 0), (0, x2), (0, x3), (0, (pj_wr (x4 + 1))), (9, 0)]) rfl ((hk26 _ hr)))))
theorem tX_safe_26b {Go : pj_C → Prop} (hM : pj_M l yX11_safe cX11_safe 6 (some .int) 4 89 true g n0 o Go) (x2 : Int) (w : pj_W) (x3 : Int) (x4 : Int)  (R : (Int × Int) ⊕ (Int × pj_W) → Prop) (h0 : ∀ r, R (Sum.inr (r)) → ((some (0, r.1) : Option pj_V), r.2) = o) (hk26 : ∀ s, R (Sum.inl s) → Go (26, [(10, 0), (9, 0), (0, x2), (0, s.1), (0, s.2), (9, 0)], [], w)) : pj_TG R (fX_safe_26b x2 w x3 x4) (Go (26, [(10, 0), (9, 0), (0, x2), (0, x3), (0, x4), (9, 0)], [], w)) := by
  unfold fX_safe_26b
  refine pj_tgd (fun h1 => ?_)
  refine pj_map (fun k => pj_iload hM (pc := 26) dX11_safe_26 rfl (pj_aload_n hM (pc := 28) dX11_safe_28 rfl rfl (pj_gf hM (pc := 29) (t := 19) dX11_safe_29 fl_X11_69 (by decide) rfl 10 rfl (pj_gf hM (pc := 32) (t := 0) dX11_safe_32 fl_X11_175 h1 rfl 8 rfl k)))) ?_
  refine pj_tif (fun h2 => ?_) (fun h2 => ?_)
  · refine pj_tbind (fun p3 h4 => ?_)
    exact pj_tret (fun hr => pj_ic_ge_t hM (pc := 35) dX11_safe_35 rfl h2 (pj_aload_n hM (pc := 88) dX11_safe_88 rfl rfl (pj_iload_n hM (pc := 89) dX11_safe_89 rfl (pj_cV hM (pc := 90) (cX_answer x3 w p3 h4) dX11_safe_90 mf_X11_answer mv_X11_answer ml_X11_96 kc_10 rfl rfl (by decide) rfl rfl (pj_ret hM (pc := 93) dX11_safe_93 ⟨_, rfl⟩ (h0 ((p3.1, p3.2)) hr) rfl)))))
  refine pj_tgd (fun h5 => ?_)
  refine pj_tbind (fun p6 h7 => ?_)
  refine pj_map (fun k => pj_ic_ge_f hM (pc := 35) 88 dX11_safe_35 rfl h2 (pj_aload_n hM (pc := 38) dX11_safe_38 rfl rfl (pj_gf hM (pc := 39) (t := 19) dX11_safe_39 fl_X11_69 (by decide) rfl 10 rfl (pj_getF hM (pc := 42) (t := 21) dX11_safe_42 fl_X11_303 h1 rfl rfl (pj_iload hM (pc := 45) dX11_safe_45 rfl (pj_aald hM (pc := 47) (fun s : Int => 8 * (w 10 0 10) + s) dX11_safe_47 (by decide) rfl (fun _ => rfl) ⟨_, rfl⟩ (by decide) h1 h5 (fun _ => rfl) (by show (0 : Int) ≤ (8 * (w 10 0 10) + x4); omega) (pj_astore hM (pc := 48) dX11_safe_48 (by decide) (by decide) (lls' := [(10, 0), (9, 0), (0, x2), (0, x3), (0, x4), (23, (8 * (w 10 0 10) + x4))]) rfl (pj_aload hM (pc := 50) dX11_safe_50 rfl rfl (pj_cV hM (pc := 52) (cN_lastSet (8 * (w 10 0 10) + x4) (by show (0 : Int) ≤ (8 * (w 10 0 10) + x4); omega) w p6 h7) dX11_safe_52 mf_X4_lastSet mv_X4_lastSet ml_X11_290 kc_23 rfl rfl (by show (0 : Int) ≤ (8 * (w 10 0 10) + x4); omega) rfl rfl (pj_iload_n hM (pc := 55) dX11_safe_55 rfl k)))))))))) ?_
  refine pj_tif (fun h8 => ?_) (fun h8 => ?_)
  · refine pj_tbind (fun p9 h10 => ?_)
    refine pj_map (fun k => pj_ic_ne_f hM (pc := 56) 82 dX11_safe_56 rfl (fun q => q h8) (pj_aload_n hM (pc := 59) dX11_safe_59 rfl rfl (pj_gf hM (pc := 60) (t := 19) dX11_safe_60 fl_X11_69 (by decide) rfl 10 rfl (pj_aload hM (pc := 63) dX11_safe_63 rfl rfl (pj_cV hM (pc := 65) (cB_threatTo (w 10 0 10) (8 * (w 10 0 10) + x4) h1 w p9 h10) dX11_safe_65 mf_X0_threatTo mv_X0_threatTo ml_X11_319 kc_19 rfl rfl h1 rfl rfl (pj_iload_n hM (pc := 68) dX11_safe_68 rfl (pj_iconst hM (pc := 69) dX11_safe_69 (by decide) (pj_ixor hM (pc := 70) dX11_safe_70 (pj_iand hM (pc := 71) dX11_safe_71 k))))))))) ?_
    refine pj_tJ (fun v : Int => fX_safe_82 x2 v x4 w) (fun h11 => ?_) (fun h11 => ?_)
    · refine pj_map (fun k => pj_if_ne_f hM (pc := 72) 82 dX11_safe_72 rfl (fun q => q h11) (pj_iload_n hM (pc := 75) dX11_safe_75 rfl (pj_iconst hM (pc := 76) dX11_safe_76 (by decide) (pj_iload hM (pc := 77) dX11_safe_77 rfl (pj_ishl hM (pc := 79) dX11_safe_79 (pj_ior hM (pc := 80) dX11_safe_80 (pj_istore_n hM (pc := 81) dX11_safe_81 (by decide) (lls' := [(10, 0), (9, 0), (0, x2), (0, (pj_or x3 (pj_shl 1 x4))), (0, x4), (23, (8 * (w 10 0 10) + x4))]) rfl (pj_kill hM [true, false, true, true, true, false] (lls' := [(10, 0), (9, 0), (0, x2), (0, (pj_or x3 (pj_shl 1 x4))), (0, x4), (9, 0)]) rfl k)))))))) ?_
      exact tX_safe_82 hM x2 (pj_or x3 (pj_shl 1 x4)) x4 w _ h0 hk26
    refine pj_map (fun k => pj_if_ne_t hM (pc := 72) dX11_safe_72 rfl h11 (pj_kill hM [true, false, true, true, true, false] (lls' := [(10, 0), (9, 0), (0, x2), (0, x3), (0, x4), (9, 0)]) rfl k)) ?_
    exact tX_safe_82 hM x2 x3 x4 w _ h0 hk26
  refine pj_map (fun k => pj_ic_ne_t hM (pc := 56) dX11_safe_56 rfl h8 (pj_kill hM [true, false, true, true, true, false] (lls' := [(10, 0), (9, 0), (0, x2), (0, x3), (0, x4), (9, 0)]) rfl k)) ?_
  exact tX_safe_82 hM x2 x3 x4 w _ h0 hk26
theorem tX_safe_26 {Go : pj_C → Prop} (hM : pj_M l yX11_safe cX11_safe 6 (some .int) 4 89 true g n0 o Go) (x2 : Int) (w : pj_W)  (R : Int × pj_W → Prop) (h0 : ∀ r, R (r) → ((some (0, r.1) : Option pj_V), r.2) = o) (s : (Int × Int)) : pj_TG R (fX_safe_26 x2 w s) (Go (26, [(10, 0), (9, 0), (0, x2), (0, s.1), (0, s.2), (9, 0)], [], w)) := by
  unfold fX_safe_26
  exact pj_tLp (G := fun s : (Int × Int) => Go (26, [(10, 0), (9, 0), (0, x2), (0, s.1), (0, s.2), (9, 0)], [], w)) (fun s => tX_safe_26b hM x2 w s.1 s.2  _ (fun r h => h0 r h)  (fun s h => h)) s
theorem tX_safe {Go : pj_C → Prop} (hM : pj_M l yX11_safe cX11_safe 6 (some .int) 4 89 true g n0 o Go) (x1 : Int) (w : pj_W)  (R : Int × pj_W → Prop) (h0 : ∀ r, R (r) → ((some (0, r.1) : Option pj_V), r.2) = o) : pj_TG R (fX_safe x1 w) (Go (0, [(10, 0), (0, x1), (9, 0), (9, 0), (9, 0), (9, 0)], [], w)) := by
  unfold fX_safe
  refine pj_tgd (fun h1 => ?_)
  refine pj_tbind (fun p2 h3 => ?_)
  refine pj_map (fun k => pj_aload_n hM (pc := 0) dX11_safe_0 rfl rfl (pj_gf hM (pc := 1) (t := 19) dX11_safe_1 fl_X11_69 (by decide) rfl 10 rfl (pj_iload_n hM (pc := 4) dX11_safe_4 rfl (pj_cV hM (pc := 5) (cB_finderAt (w 10 0 10) x1 h1 w p2 h3) dX11_safe_5 mf_X0_finderAt mv_X0_finderAt ml_X11_216 kc_19 rfl rfl h1 rfl rfl k)))) ?_
  refine pj_tif (fun h4 => ?_) (fun h4 => ?_)
  · refine pj_tbind (fun p5 h6 => ?_)
    exact pj_tret (fun hr => pj_nonnull_f hM (pc := 8) 17 dX11_safe_8 rfl (by decide) h4 (pj_aload_n hM (pc := 11) dX11_safe_11 rfl rfl (pj_iconst hM (pc := 12) dX11_safe_12 (by decide) (pj_cV hM (pc := 13) (cX_refuse 1 w p5 h6) dX11_safe_13 mf_X11_refuse mv_X11_refuse ml_X11_100 kc_10 rfl rfl (by decide) rfl rfl (pj_ret hM (pc := 16) dX11_safe_16 ⟨_, rfl⟩ (h0 ((p5.1, p5.2)) hr) rfl)))))
  refine pj_map (fun k => pj_nonnull_t hM (pc := 8) dX11_safe_8 rfl (by decide) h4 (pj_iconst hM (pc := 17) dX11_safe_17 (by decide) (pj_iload_n hM (pc := 18) dX11_safe_18 rfl (pj_ishl hM (pc := 19) dX11_safe_19 (pj_istore_n hM (pc := 20) dX11_safe_20 (by decide) (lls' := [(10, 0), (0, x1), (0, (pj_shl 1 x1)), (9, 0), (9, 0), (9, 0)]) rfl (pj_iconst hM (pc := 21) dX11_safe_21 (by decide) (pj_istore_n hM (pc := 22) dX11_safe_22 (by decide) (lls' := [(10, 0), (0, x1), (0, (pj_shl 1 x1)), (0, 0), (9, 0), (9, 0)]) rfl (pj_iconst hM (pc := 23) dX11_safe_23 (by decide) (pj_istore hM (pc := 24) dX11_safe_24 (by decide) (lls' := [(10, 0), (0, x1), (0, (pj_shl 1 x1)), (0, 0), (0, 0), (9, 0)]) rfl (pj_kill hM [true, false, true, true, true, false] (lls' := [(10, 0), (9, 0), (0, (pj_shl 1 x1)), (0, 0), (0, 0), (9, 0)]) rfl k)))))))))) ?_
  exact tX_safe_26 hM (pj_shl 1 x1) w _ h0 _
theorem cX_safe (x1 : Int)  (w : pj_W) (r : Int × pj_W) (h : fX_safe x1 w = some r) : pj_Cn l yX11_safe cX11_safe 6 (some .int) 4 89 true g [(10, 0), (0, x1)] w ((some (0, r.1) : Option pj_V), r.2) :=
  pj_Cn_of rfl (Nat.le_of_ble_eq_true rfl) (lls := [(10, 0), (0, x1), (9, 0), (9, 0), (9, 0), (9, 0)]) rfl (fun Go hM => tX_safe hM x1 w (fun x => ((some (0, x.1) : Option pj_V), x.2) = ((some (0, r.1) : Option pj_V), r.2)) (fun r h => h) r h rfl)
noncomputable def fX_seen_23  (w : pj_W) : Option (Int × pj_W) :=
  (fX_refuse 1 w).bind fun p1 => (some ((p1.1, p1.2)))
noncomputable def fX_seen (x1 : Int) (x2 : Int) (w : pj_W) : Option (Int × pj_W) :=
  if 0 ≤ (w 10 0 10) then ((fB_finderAt (w 10 0 10) x1 w).bind fun p2 => (if p2 < 0 then (fX_seen_23 w) else (if x2 < 0 then (fX_seen_23 w) else (if x2 ≤ 40 then ((fB_sightOf (w 10 0 10) p2 x2 w).bind fun p7 => ((fX_answer p7 w).bind fun p9 => (some ((p9.1, p9.2))))) else (fX_seen_23 w))))) else none
theorem tX_seen_23 {Go : pj_C → Prop} (hM : pj_M l yX11_seen cX11_seen 4 (some .int) 2 45 true g n0 o Go)  (w : pj_W)  (R : Int × pj_W → Prop) (h0 : ∀ r, R (r) → ((some (0, r.1) : Option pj_V), r.2) = o) : pj_TG R (fX_seen_23  w) (Go (23, [(10, 0), (9, 0), (9, 0), (9, 0)], [], w)) := by
  unfold fX_seen_23
  refine pj_tbind (fun p1 h2 => ?_)
  exact pj_tret (fun hr => pj_aload_n hM (pc := 23) dX11_seen_23 rfl rfl (pj_iconst hM (pc := 24) dX11_seen_24 (by decide) (pj_cV hM (pc := 25) (cX_refuse 1 w p1 h2) dX11_seen_25 mf_X11_refuse mv_X11_refuse ml_X11_100 kc_10 rfl rfl (by decide) rfl rfl (pj_ret hM (pc := 28) dX11_seen_28 ⟨_, rfl⟩ (h0 ((p1.1, p1.2)) hr) rfl))))
theorem tX_seen {Go : pj_C → Prop} (hM : pj_M l yX11_seen cX11_seen 4 (some .int) 2 45 true g n0 o Go) (x1 : Int) (x2 : Int) (w : pj_W)  (R : Int × pj_W → Prop) (h0 : ∀ r, R (r) → ((some (0, r.1) : Option pj_V), r.2) = o) : pj_TG R (fX_seen x1 x2 w) (Go (0, [(10, 0), (0, x1), (0, x2), (9, 0)], [], w)) := by
  unfold fX_seen
  refine pj_tgd (fun h1 => ?_)
  refine pj_tbind (fun p2 h3 => ?_)
  refine pj_map (fun k => pj_aload_n hM (pc := 0) dX11_seen_0 rfl rfl (pj_gf hM (pc := 1) (t := 19) dX11_seen_1 fl_X11_69 (by decide) rfl 10 rfl (pj_iload_n hM (pc := 4) dX11_seen_4 rfl (pj_cV hM (pc := 5) (cB_finderAt (w 10 0 10) x1 h1 w p2 h3) dX11_seen_5 mf_X0_finderAt mv_X0_finderAt ml_X11_216 kc_19 rfl rfl h1 rfl rfl (pj_astore_n hM (pc := 8) dX11_seen_8 (by decide) (by decide) (lls' := [(10, 0), (0, x1), (0, x2), (22, p2)]) rfl (pj_aload_n hM (pc := 9) dX11_seen_9 rfl rfl k)))))) ?_
  refine pj_tif (fun h4 => ?_) (fun h4 => ?_)
  · refine pj_map (fun k => pj_null_t hM (pc := 10) dX11_seen_10 rfl (by decide) h4 (pj_kill hM [true, false, false, false] (lls' := [(10, 0), (9, 0), (9, 0), (9, 0)]) rfl k)) ?_
    exact tX_seen_23 hM w _ h0
  refine pj_map (fun k => pj_null_f hM (pc := 10) 23 dX11_seen_10 rfl (by decide) h4 (pj_iload_n hM (pc := 13) dX11_seen_13 rfl k)) ?_
  refine pj_tif (fun h5 => ?_) (fun h5 => ?_)
  · refine pj_map (fun k => pj_if_lt_t hM (pc := 14) dX11_seen_14 rfl h5 (pj_kill hM [true, false, false, false] (lls' := [(10, 0), (9, 0), (9, 0), (9, 0)]) rfl k)) ?_
    exact tX_seen_23 hM w _ h0
  refine pj_map (fun k => pj_if_lt_f hM (pc := 14) 23 dX11_seen_14 rfl h5 (pj_iload_n hM (pc := 17) dX11_seen_17 rfl (pj_bipush hM (pc := 18) dX11_seen_18 (by decide) k))) ?_
  refine pj_tif (fun h6 => ?_) (fun h6 => ?_)
  · refine pj_tbind (fun p7 h8 => ?_)
    refine pj_tbind (fun p9 h10 => ?_)
    exact pj_tret (fun hr => pj_ic_le_t hM (pc := 20) dX11_seen_20 rfl h6 (pj_aload_n hM (pc := 29) dX11_seen_29 rfl rfl (pj_aload_n hM (pc := 30) dX11_seen_30 rfl rfl (pj_gf hM (pc := 31) (t := 19) dX11_seen_31 fl_X11_69 (by decide) rfl 10 rfl (pj_aload_n hM (pc := 34) dX11_seen_34 rfl rfl (pj_iload_n hM (pc := 35) dX11_seen_35 rfl (pj_cV hM (pc := 36) (cB_sightOf (w 10 0 10) p2 x2 h1 w p7 h8) dX11_seen_36 mf_X0_sightOf mv_X0_sightOf ml_X11_338 kc_19 rfl rfl h1 rfl rfl (pj_cV hM (pc := 39) (cX_answer p7 w p9 h10) dX11_seen_39 mf_X11_answer mv_X11_answer ml_X11_96 kc_10 rfl rfl (by decide) rfl rfl (pj_ret hM (pc := 42) dX11_seen_42 ⟨_, rfl⟩ (h0 ((p9.1, p9.2)) hr) rfl)))))))))
  refine pj_map (fun k => pj_ic_le_f hM (pc := 20) 29 dX11_seen_20 rfl h6 (pj_kill hM [true, false, false, false] (lls' := [(10, 0), (9, 0), (9, 0), (9, 0)]) rfl k)) ?_
  exact tX_seen_23 hM w _ h0
theorem cX_seen (x1 : Int) (x2 : Int)  (w : pj_W) (r : Int × pj_W) (h : fX_seen x1 x2 w = some r) : pj_Cn l yX11_seen cX11_seen 4 (some .int) 2 45 true g [(10, 0), (0, x1), (0, x2)] w ((some (0, r.1) : Option pj_V), r.2) :=
  pj_Cn_of rfl (Nat.le_of_ble_eq_true rfl) (lls := [(10, 0), (0, x1), (0, x2), (9, 0)]) rfl (fun Go hM => tX_seen hM x1 x2 w (fun x => ((some (0, x.1) : Option pj_V), x.2) = ((some (0, r.1) : Option pj_V), r.2)) (fun r h => h) r h rfl)
noncomputable def fX_set (x1 : Int) (x2 : Int) (w : pj_W) : Option (Int × pj_W) :=
  if 0 ≤ (w 10 0 10) then ((fB_layOn (w 10 0 10) x1 x2 w).bind fun p2 => ((fX_settle p2.1 p2.2).bind fun p4 => (some ((p4.1, p4.2))))) else none
theorem tX_set {Go : pj_C → Prop} (hM : pj_M l yX11_set cX11_set 3 (some .int) 2 47 true g n0 o Go) (x1 : Int) (x2 : Int) (w : pj_W)  (R : Int × pj_W → Prop) (h0 : ∀ r, R (r) → ((some (0, r.1) : Option pj_V), r.2) = o) : pj_TG R (fX_set x1 x2 w) (Go (0, [(10, 0), (0, x1), (0, x2)], [], w)) := by
  unfold fX_set
  refine pj_tgd (fun h1 => ?_)
  refine pj_tbind (fun p2 h3 => ?_)
  refine pj_tbind (fun p4 h5 => ?_)
  exact pj_tret (fun hr => pj_aload_n hM (pc := 0) dX11_set_0 rfl rfl (pj_aload_n hM (pc := 1) dX11_set_1 rfl rfl (pj_gf hM (pc := 2) (t := 19) dX11_set_2 fl_X11_69 (by decide) rfl 10 rfl (pj_iload_n hM (pc := 5) dX11_set_5 rfl (pj_iload_n hM (pc := 6) dX11_set_6 rfl (pj_cV hM (pc := 7) (cB_layOn (w 10 0 10) x1 x2 h1 w p2 h3) dX11_set_7 mf_X0_layOn mv_X0_layOn ml_X11_269 kc_19 rfl rfl h1 rfl rfl (pj_cV hM (pc := 10) (cX_settle p2.1 p2.2 p4 h5) dX11_set_10 mf_X11_settle mv_X11_settle ml_X11_263 kc_10 rfl rfl (by decide) rfl rfl (pj_ret hM (pc := 13) dX11_set_13 ⟨_, rfl⟩ (h0 ((p4.1, p4.2)) hr) rfl))))))))
theorem cX_set (x1 : Int) (x2 : Int)  (w : pj_W) (r : Int × pj_W) (h : fX_set x1 x2 w = some r) : pj_Cn l yX11_set cX11_set 3 (some .int) 2 47 true g [(10, 0), (0, x1), (0, x2)] w ((some (0, r.1) : Option pj_V), r.2) :=
  pj_Cn_of rfl (Nat.le_of_ble_eq_true rfl) (lls := [(10, 0), (0, x1), (0, x2)]) rfl (fun Go hM => tX_set hM x1 x2 w (fun x => ((some (0, x.1) : Option pj_V), x.2) = ((some (0, r.1) : Option pj_V), r.2)) (fun r h => h) r h rfl)
noncomputable def fX_soonest_24  (w : pj_W) : Option (Int × pj_W) :=
  (fX_refuse 1 w).bind fun p1 => (some ((p1.1, p1.2)))
noncomputable def fX_soonest (x1 : Int) (x2 : Int) (w : pj_W) : Option (Int × pj_W) :=
  if 0 ≤ (w 10 0 10) then ((fB_findAt (w 10 0 10) x2 w).bind fun p2 => ((fB_finderAt (w 10 0 10) x1 w).bind fun p4 => (if p4 < 0 then (fX_soonest_24 w) else (if p2 < 0 then (fX_soonest_24 w) else ((fB_soonestOf (w 10 0 10) x1 p2 w).bind fun p8 => (if p8 = (-1) then ((fX_refuse 7 w).bind fun p11 => (some ((p11.1, p11.2)))) else ((fX_answer p8 w).bind fun p13 => (some ((p13.1, p13.2)))))))))) else none
theorem tX_soonest_24 {Go : pj_C → Prop} (hM : pj_M l yX11_soonest cX11_soonest 5 (some .int) 3 66 true g n0 o Go)  (w : pj_W)  (R : Int × pj_W → Prop) (h0 : ∀ r, R (r) → ((some (0, r.1) : Option pj_V), r.2) = o) : pj_TG R (fX_soonest_24  w) (Go (24, [(10, 0), (9, 0), (9, 0), (9, 0), (9, 0)], [], w)) := by
  unfold fX_soonest_24
  refine pj_tbind (fun p1 h2 => ?_)
  exact pj_tret (fun hr => pj_aload_n hM (pc := 24) dX11_soonest_24 rfl rfl (pj_iconst hM (pc := 25) dX11_soonest_25 (by decide) (pj_cV hM (pc := 26) (cX_refuse 1 w p1 h2) dX11_soonest_26 mf_X11_refuse mv_X11_refuse ml_X11_100 kc_10 rfl rfl (by decide) rfl rfl (pj_ret hM (pc := 29) dX11_soonest_29 ⟨_, rfl⟩ (h0 ((p1.1, p1.2)) hr) rfl))))
theorem tX_soonest {Go : pj_C → Prop} (hM : pj_M l yX11_soonest cX11_soonest 5 (some .int) 3 66 true g n0 o Go) (x1 : Int) (x2 : Int) (w : pj_W)  (R : Int × pj_W → Prop) (h0 : ∀ r, R (r) → ((some (0, r.1) : Option pj_V), r.2) = o) : pj_TG R (fX_soonest x1 x2 w) (Go (0, [(10, 0), (0, x1), (0, x2), (9, 0), (9, 0)], [], w)) := by
  unfold fX_soonest
  refine pj_tgd (fun h1 => ?_)
  refine pj_tbind (fun p2 h3 => ?_)
  refine pj_tbind (fun p4 h5 => ?_)
  refine pj_map (fun k => pj_aload_n hM (pc := 0) dX11_soonest_0 rfl rfl (pj_gf hM (pc := 1) (t := 19) dX11_soonest_1 fl_X11_69 (by decide) rfl 10 rfl (pj_iload_n hM (pc := 4) dX11_soonest_4 rfl (pj_cV hM (pc := 5) (cB_findAt (w 10 0 10) x2 h1 w p2 h3) dX11_soonest_5 mf_X0_findAt mv_X0_findAt ml_X11_237 kc_19 rfl rfl h1 rfl rfl (pj_astore_n hM (pc := 8) dX11_soonest_8 (by decide) (by decide) (lls' := [(10, 0), (0, x1), (0, x2), (23, p2), (9, 0)]) rfl (pj_aload_n hM (pc := 9) dX11_soonest_9 rfl rfl (pj_gf hM (pc := 10) (t := 19) dX11_soonest_10 fl_X11_69 (by decide) rfl 10 rfl (pj_iload_n hM (pc := 13) dX11_soonest_13 rfl (pj_cV hM (pc := 14) (cB_finderAt (w 10 0 10) x1 h1 w p4 h5) dX11_soonest_14 mf_X0_finderAt mv_X0_finderAt ml_X11_216 kc_19 rfl rfl h1 rfl rfl k))))))))) ?_
  refine pj_tif (fun h6 => ?_) (fun h6 => ?_)
  · refine pj_map (fun k => pj_null_t hM (pc := 17) dX11_soonest_17 rfl (by decide) h6 (pj_kill hM [true, false, false, false, false] (lls' := [(10, 0), (9, 0), (9, 0), (9, 0), (9, 0)]) rfl k)) ?_
    exact tX_soonest_24 hM w _ h0
  refine pj_map (fun k => pj_null_f hM (pc := 17) 24 dX11_soonest_17 rfl (by decide) h6 (pj_aload_n hM (pc := 20) dX11_soonest_20 rfl rfl k)) ?_
  refine pj_tif (fun h7 => ?_) (fun h7 => ?_)
  · refine pj_map (fun k => pj_nonnull_f hM (pc := 21) 30 dX11_soonest_21 rfl (by decide) h7 (pj_kill hM [true, false, false, false, false] (lls' := [(10, 0), (9, 0), (9, 0), (9, 0), (9, 0)]) rfl k)) ?_
    exact tX_soonest_24 hM w _ h0
  refine pj_tbind (fun p8 h9 => ?_)
  refine pj_map (fun k => pj_nonnull_t hM (pc := 21) dX11_soonest_21 rfl (by decide) h7 (pj_aload_n hM (pc := 30) dX11_soonest_30 rfl rfl (pj_gf hM (pc := 31) (t := 19) dX11_soonest_31 fl_X11_69 (by decide) rfl 10 rfl (pj_iload_n hM (pc := 34) dX11_soonest_34 rfl (pj_aload_n hM (pc := 35) dX11_soonest_35 rfl rfl (pj_cV hM (pc := 36) (cB_soonestOf (w 10 0 10) x1 p2 h1 w p8 h9) dX11_soonest_36 mf_X0_soonestOf mv_X0_soonestOf ml_X11_315 kc_19 rfl rfl h1 rfl rfl (pj_istore hM (pc := 39) dX11_soonest_39 (by decide) (lls' := [(10, 0), (0, x1), (0, x2), (23, p2), (0, p8)]) rfl (pj_iload hM (pc := 41) dX11_soonest_41 rfl (pj_iconst hM (pc := 43) dX11_soonest_43 (by decide) k))))))))) ?_
  refine pj_tif (fun h10 => ?_) (fun h10 => ?_)
  · refine pj_tbind (fun p11 h12 => ?_)
    exact pj_tret (fun hr => pj_ic_ne_f hM (pc := 44) 56 dX11_soonest_44 rfl (fun q => q h10) (pj_aload_n hM (pc := 47) dX11_soonest_47 rfl rfl (pj_bipush hM (pc := 48) dX11_soonest_48 (by decide) (pj_cV hM (pc := 50) (cX_refuse 7 w p11 h12) dX11_soonest_50 mf_X11_refuse mv_X11_refuse ml_X11_100 kc_10 rfl rfl (by decide) rfl rfl (pj_goto hM (pc := 53) dX11_soonest_53 rfl (pj_ret hM (pc := 62) dX11_soonest_62 ⟨_, rfl⟩ (h0 ((p11.1, p11.2)) hr) rfl))))))
  refine pj_tbind (fun p13 h14 => ?_)
  exact pj_tret (fun hr => pj_ic_ne_t hM (pc := 44) dX11_soonest_44 rfl h10 (pj_aload_n hM (pc := 56) dX11_soonest_56 rfl rfl (pj_iload hM (pc := 57) dX11_soonest_57 rfl (pj_cV hM (pc := 59) (cX_answer p8 w p13 h14) dX11_soonest_59 mf_X11_answer mv_X11_answer ml_X11_96 kc_10 rfl rfl (by decide) rfl rfl (pj_ret hM (pc := 62) dX11_soonest_62 ⟨_, rfl⟩ (h0 ((p13.1, p13.2)) hr) rfl)))))
theorem cX_soonest (x1 : Int) (x2 : Int)  (w : pj_W) (r : Int × pj_W) (h : fX_soonest x1 x2 w = some r) : pj_Cn l yX11_soonest cX11_soonest 5 (some .int) 3 66 true g [(10, 0), (0, x1), (0, x2)] w ((some (0, r.1) : Option pj_V), r.2) :=
  pj_Cn_of rfl (Nat.le_of_ble_eq_true rfl) (lls := [(10, 0), (0, x1), (0, x2), (9, 0), (9, 0)]) rfl (fun Go hM => tX_soonest hM x1 x2 w (fun x => ((some (0, x.1) : Option pj_V), x.2) = ((some (0, r.1) : Option pj_V), r.2)) (fun r h => h) r h rfl)
noncomputable def fX_status  (w : pj_W) : Option (Int) :=
  some ((w 10 0 15))
theorem tX_status {Go : pj_C → Prop} (hM : pj_M l yX11_status cX11_status 1 (some .int) 0 0 ph g n0 o Go)  (w : pj_W)  (R : Int → Prop) (h0 : ∀ r, R (r) → ((some (0, r) : Option pj_V), w) = o) : pj_TG R (fX_status  w) (Go (0, [(10, 0)], [], w)) := by
  unfold fX_status
  exact pj_tret (fun hr => pj_aload_n hM (pc := 0) dX11_status_0 rfl rfl (pj_gf hM (pc := 1) (t := 0) dX11_status_1 fl_X11_89 (by decide) rfl 15 rfl (pj_ret hM (pc := 4) dX11_status_4 ⟨_, rfl⟩ (h0 ((w 10 0 15)) hr) rfl)))
theorem cX_status   (w : pj_W) (r : Int) (h : fX_status  w = some r) : pj_Cn l yX11_status cX11_status 1 (some .int) 0 0 ph g [(10, 0)] w ((some (0, r) : Option pj_V), w) :=
  pj_Cn_of rfl (Nat.le_of_ble_eq_true rfl) (lls := [(10, 0)]) rfl (fun Go hM => tX_status hM w (fun x => ((some (0, x) : Option pj_V), w) = ((some (0, r) : Option pj_V), w)) (fun r h => h) r h rfl)
noncomputable def fX_strewn (x1 : Int) (w : pj_W) : Option (Int × pj_W) :=
  if 0 ≤ (w 10 0 10) then ((fB_finderAt (w 10 0 10) x1 w).bind fun p2 => (if p2 < 0 then ((fX_refuse 1 w).bind fun p5 => (some ((p5.1, p5.2)))) else ((fB_strewnBy (w 10 0 10) x1 w).bind fun p7 => ((fX_answer p7 w).bind fun p9 => (some ((p9.1, p9.2))))))) else none
theorem tX_strewn {Go : pj_C → Prop} (hM : pj_M l yX11_strewn cX11_strewn 2 (some .int) 2 46 true g n0 o Go) (x1 : Int) (w : pj_W)  (R : Int × pj_W → Prop) (h0 : ∀ r, R (r) → ((some (0, r.1) : Option pj_V), r.2) = o) : pj_TG R (fX_strewn x1 w) (Go (0, [(10, 0), (0, x1)], [], w)) := by
  unfold fX_strewn
  refine pj_tgd (fun h1 => ?_)
  refine pj_tbind (fun p2 h3 => ?_)
  refine pj_map (fun k => pj_aload_n hM (pc := 0) dX11_strewn_0 rfl rfl (pj_gf hM (pc := 1) (t := 19) dX11_strewn_1 fl_X11_69 (by decide) rfl 10 rfl (pj_iload_n hM (pc := 4) dX11_strewn_4 rfl (pj_cV hM (pc := 5) (cB_finderAt (w 10 0 10) x1 h1 w p2 h3) dX11_strewn_5 mf_X0_finderAt mv_X0_finderAt ml_X11_216 kc_19 rfl rfl h1 rfl rfl k)))) ?_
  refine pj_tif (fun h4 => ?_) (fun h4 => ?_)
  · refine pj_tbind (fun p5 h6 => ?_)
    exact pj_tret (fun hr => pj_nonnull_f hM (pc := 8) 19 dX11_strewn_8 rfl (by decide) h4 (pj_aload_n hM (pc := 11) dX11_strewn_11 rfl rfl (pj_iconst hM (pc := 12) dX11_strewn_12 (by decide) (pj_cV hM (pc := 13) (cX_refuse 1 w p5 h6) dX11_strewn_13 mf_X11_refuse mv_X11_refuse ml_X11_100 kc_10 rfl rfl (by decide) rfl rfl (pj_goto hM (pc := 16) dX11_strewn_16 rfl (pj_ret hM (pc := 31) dX11_strewn_31 ⟨_, rfl⟩ (h0 ((p5.1, p5.2)) hr) rfl))))))
  refine pj_tbind (fun p7 h8 => ?_)
  refine pj_tbind (fun p9 h10 => ?_)
  exact pj_tret (fun hr => pj_nonnull_t hM (pc := 8) dX11_strewn_8 rfl (by decide) h4 (pj_aload_n hM (pc := 19) dX11_strewn_19 rfl rfl (pj_aload_n hM (pc := 20) dX11_strewn_20 rfl rfl (pj_gf hM (pc := 21) (t := 19) dX11_strewn_21 fl_X11_69 (by decide) rfl 10 rfl (pj_iload_n hM (pc := 24) dX11_strewn_24 rfl (pj_cV hM (pc := 25) (cB_strewnBy (w 10 0 10) x1 h1 w p7 h8) dX11_strewn_25 mf_X0_strewnBy mv_X0_strewnBy ml_X11_312 kc_19 rfl rfl h1 rfl rfl (pj_cV hM (pc := 28) (cX_answer p7 w p9 h10) dX11_strewn_28 mf_X11_answer mv_X11_answer ml_X11_96 kc_10 rfl rfl (by decide) rfl rfl (pj_ret hM (pc := 31) dX11_strewn_31 ⟨_, rfl⟩ (h0 ((p9.1, p9.2)) hr) rfl))))))))
theorem cX_strewn (x1 : Int)  (w : pj_W) (r : Int × pj_W) (h : fX_strewn x1 w = some r) : pj_Cn l yX11_strewn cX11_strewn 2 (some .int) 2 46 true g [(10, 0), (0, x1)] w ((some (0, r.1) : Option pj_V), r.2) :=
  pj_Cn_of rfl (Nat.le_of_ble_eq_true rfl) (lls := [(10, 0), (0, x1)]) rfl (fun Go hM => tX_strewn hM x1 w (fun x => ((some (0, x.1) : Option pj_V), x.2) = ((some (0, r.1) : Option pj_V), r.2)) (fun r h => h) r h rfl)
noncomputable def fX_tally_24  (w : pj_W) : Option (Int × pj_W) :=
  (fX_refuse 1 w).bind fun p1 => (some ((p1.1, p1.2)))
noncomputable def fX_tally (x1 : Int) (x2 : Int) (w : pj_W) : Option (Int × pj_W) :=
  if 0 ≤ (w 10 0 10) then ((fB_findAt (w 10 0 10) x1 w).bind fun p2 => (if p2 < 0 then (fX_tally_24 w) else ((fB_finderAt (w 10 0 10) x2 w).bind fun p5 => (if p5 < 0 then (fX_tally_24 w) else ((fN_tallyOf p2 x2 w).bind fun p8 => ((fX_answer p8 w).bind fun p10 => (some ((p10.1, p10.2))))))))) else none
theorem tX_tally_24 {Go : pj_C → Prop} (hM : pj_M l yX11_tally cX11_tally 4 (some .int) 1 23 true g n0 o Go)  (w : pj_W)  (R : Int × pj_W → Prop) (h0 : ∀ r, R (r) → ((some (0, r.1) : Option pj_V), r.2) = o) : pj_TG R (fX_tally_24  w) (Go (24, [(10, 0), (9, 0), (9, 0), (9, 0)], [], w)) := by
  unfold fX_tally_24
  refine pj_tbind (fun p1 h2 => ?_)
  exact pj_tret (fun hr => pj_aload_n hM (pc := 24) dX11_tally_24 rfl rfl (pj_iconst hM (pc := 25) dX11_tally_25 (by decide) (pj_cV hM (pc := 26) (cX_refuse 1 w p1 h2) dX11_tally_26 mf_X11_refuse mv_X11_refuse ml_X11_100 kc_10 rfl rfl (by decide) rfl rfl (pj_ret hM (pc := 29) dX11_tally_29 ⟨_, rfl⟩ (h0 ((p1.1, p1.2)) hr) rfl))))
theorem tX_tally {Go : pj_C → Prop} (hM : pj_M l yX11_tally cX11_tally 4 (some .int) 1 23 true g n0 o Go) (x1 : Int) (x2 : Int) (w : pj_W)  (R : Int × pj_W → Prop) (h0 : ∀ r, R (r) → ((some (0, r.1) : Option pj_V), r.2) = o) : pj_TG R (fX_tally x1 x2 w) (Go (0, [(10, 0), (0, x1), (0, x2), (9, 0)], [], w)) := by
  unfold fX_tally
  refine pj_tgd (fun h1 => ?_)
  refine pj_tbind (fun p2 h3 => ?_)
  refine pj_map (fun k => pj_aload_n hM (pc := 0) dX11_tally_0 rfl rfl (pj_gf hM (pc := 1) (t := 19) dX11_tally_1 fl_X11_69 (by decide) rfl 10 rfl (pj_iload_n hM (pc := 4) dX11_tally_4 rfl (pj_cV hM (pc := 5) (cB_findAt (w 10 0 10) x1 h1 w p2 h3) dX11_tally_5 mf_X0_findAt mv_X0_findAt ml_X11_237 kc_19 rfl rfl h1 rfl rfl (pj_astore_n hM (pc := 8) dX11_tally_8 (by decide) (by decide) (lls' := [(10, 0), (0, x1), (0, x2), (23, p2)]) rfl (pj_aload_n hM (pc := 9) dX11_tally_9 rfl rfl k)))))) ?_
  refine pj_tif (fun h4 => ?_) (fun h4 => ?_)
  · refine pj_map (fun k => pj_null_t hM (pc := 10) dX11_tally_10 rfl (by decide) h4 (pj_kill hM [true, false, false, false] (lls' := [(10, 0), (9, 0), (9, 0), (9, 0)]) rfl k)) ?_
    exact tX_tally_24 hM w _ h0
  refine pj_tbind (fun p5 h6 => ?_)
  refine pj_map (fun k => pj_null_f hM (pc := 10) 24 dX11_tally_10 rfl (by decide) h4 (pj_aload_n hM (pc := 13) dX11_tally_13 rfl rfl (pj_gf hM (pc := 14) (t := 19) dX11_tally_14 fl_X11_69 (by decide) rfl 10 rfl (pj_iload_n hM (pc := 17) dX11_tally_17 rfl (pj_cV hM (pc := 18) (cB_finderAt (w 10 0 10) x2 h1 w p5 h6) dX11_tally_18 mf_X0_finderAt mv_X0_finderAt ml_X11_216 kc_19 rfl rfl h1 rfl rfl k))))) ?_
  refine pj_tif (fun h7 => ?_) (fun h7 => ?_)
  · refine pj_map (fun k => pj_nonnull_f hM (pc := 21) 30 dX11_tally_21 rfl (by decide) h7 (pj_kill hM [true, false, false, false] (lls' := [(10, 0), (9, 0), (9, 0), (9, 0)]) rfl k)) ?_
    exact tX_tally_24 hM w _ h0
  refine pj_tbind (fun p8 h9 => ?_)
  refine pj_tbind (fun p10 h11 => ?_)
  exact pj_tret (fun hr => pj_nonnull_t hM (pc := 21) dX11_tally_21 rfl (by decide) h7 (pj_aload_n hM (pc := 30) dX11_tally_30 rfl rfl (pj_aload_n hM (pc := 31) dX11_tally_31 rfl rfl (pj_iload_n hM (pc := 32) dX11_tally_32 rfl (pj_cV hM (pc := 33) (cN_tallyOf p2 x2 (Int.not_lt.mp h4) w p8 h9) dX11_tally_33 mf_X4_tallyOf mv_X4_tallyOf ml_X11_377 kc_23 rfl rfl (Int.not_lt.mp h4) rfl rfl (pj_cV hM (pc := 36) (cX_answer p8 w p10 h11) dX11_tally_36 mf_X11_answer mv_X11_answer ml_X11_96 kc_10 rfl rfl (by decide) rfl rfl (pj_ret hM (pc := 39) dX11_tally_39 ⟨_, rfl⟩ (h0 ((p10.1, p10.2)) hr) rfl)))))))
theorem cX_tally (x1 : Int) (x2 : Int)  (w : pj_W) (r : Int × pj_W) (h : fX_tally x1 x2 w = some r) : pj_Cn l yX11_tally cX11_tally 4 (some .int) 1 23 true g [(10, 0), (0, x1), (0, x2)] w ((some (0, r.1) : Option pj_V), r.2) :=
  pj_Cn_of rfl (Nat.le_of_ble_eq_true rfl) (lls := [(10, 0), (0, x1), (0, x2), (9, 0)]) rfl (fun Go hM => tX_tally hM x1 x2 w (fun x => ((some (0, x.1) : Option pj_V), x.2) = ((some (0, r.1) : Option pj_V), r.2)) (fun r h => h) r h rfl)
noncomputable def fX_threat (x1 : Int) (w : pj_W) : Option (Int × pj_W) :=
  if 0 ≤ (w 10 0 10) then ((fB_findAt (w 10 0 10) x1 w).bind fun p2 => (if p2 < 0 then ((fX_refuse 1 w).bind fun p5 => (some ((p5.1, p5.2)))) else (if (w 23 p2 5) = 0 then ((fX_refuse 7 w).bind fun p8 => (some ((p8.1, p8.2)))) else ((fB_threatTo (w 10 0 10) p2 w).bind fun p10 => ((fX_answer p10 w).bind fun p12 => (some ((p12.1, p12.2)))))))) else none
theorem tX_threat {Go : pj_C → Prop} (hM : pj_M l yX11_threat cX11_threat 3 (some .int) 4 89 true g n0 o Go) (x1 : Int) (w : pj_W)  (R : Int × pj_W → Prop) (h0 : ∀ r, R (r) → ((some (0, r.1) : Option pj_V), r.2) = o) : pj_TG R (fX_threat x1 w) (Go (0, [(10, 0), (0, x1), (9, 0)], [], w)) := by
  unfold fX_threat
  refine pj_tgd (fun h1 => ?_)
  refine pj_tbind (fun p2 h3 => ?_)
  refine pj_map (fun k => pj_aload_n hM (pc := 0) dX11_threat_0 rfl rfl (pj_gf hM (pc := 1) (t := 19) dX11_threat_1 fl_X11_69 (by decide) rfl 10 rfl (pj_iload_n hM (pc := 4) dX11_threat_4 rfl (pj_cV hM (pc := 5) (cB_findAt (w 10 0 10) x1 h1 w p2 h3) dX11_threat_5 mf_X0_findAt mv_X0_findAt ml_X11_237 kc_19 rfl rfl h1 rfl rfl (pj_astore_n hM (pc := 8) dX11_threat_8 (by decide) (by decide) (lls' := [(10, 0), (0, x1), (23, p2)]) rfl (pj_aload_n hM (pc := 9) dX11_threat_9 rfl rfl k)))))) ?_
  refine pj_tif (fun h4 => ?_) (fun h4 => ?_)
  · refine pj_tbind (fun p5 h6 => ?_)
    exact pj_tret (fun hr => pj_nonnull_f hM (pc := 10) 19 dX11_threat_10 rfl (by decide) h4 (pj_aload_n hM (pc := 13) dX11_threat_13 rfl rfl (pj_iconst hM (pc := 14) dX11_threat_14 (by decide) (pj_cV hM (pc := 15) (cX_refuse 1 w p5 h6) dX11_threat_15 mf_X11_refuse mv_X11_refuse ml_X11_100 kc_10 rfl rfl (by decide) rfl rfl (pj_ret hM (pc := 18) dX11_threat_18 ⟨_, rfl⟩ (h0 ((p5.1, p5.2)) hr) rfl)))))
  refine pj_map (fun k => pj_nonnull_t hM (pc := 10) dX11_threat_10 rfl (by decide) h4 (pj_aload_n hM (pc := 19) dX11_threat_19 rfl rfl (pj_gf hM (pc := 20) (t := 0) dX11_threat_20 fl_X11_287 (Int.not_lt.mp h4) rfl 5 rfl k))) ?_
  refine pj_tif (fun h7 => ?_) (fun h7 => ?_)
  · refine pj_tbind (fun p8 h9 => ?_)
    exact pj_tret (fun hr => pj_if_eq_t hM (pc := 23) dX11_threat_23 rfl h7 (pj_aload_n hM (pc := 41) dX11_threat_41 rfl rfl (pj_bipush hM (pc := 42) dX11_threat_42 (by decide) (pj_cV hM (pc := 44) (cX_refuse 7 w p8 h9) dX11_threat_44 mf_X11_refuse mv_X11_refuse ml_X11_100 kc_10 rfl rfl (by decide) rfl rfl (pj_ret hM (pc := 47) dX11_threat_47 ⟨_, rfl⟩ (h0 ((p8.1, p8.2)) hr) rfl)))))
  refine pj_tbind (fun p10 h11 => ?_)
  refine pj_tbind (fun p12 h13 => ?_)
  exact pj_tret (fun hr => pj_if_eq_f hM (pc := 23) 41 dX11_threat_23 rfl h7 (pj_aload_n hM (pc := 26) dX11_threat_26 rfl rfl (pj_aload_n hM (pc := 27) dX11_threat_27 rfl rfl (pj_gf hM (pc := 28) (t := 19) dX11_threat_28 fl_X11_69 (by decide) rfl 10 rfl (pj_aload_n hM (pc := 31) dX11_threat_31 rfl rfl (pj_cV hM (pc := 32) (cB_threatTo (w 10 0 10) p2 h1 w p10 h11) dX11_threat_32 mf_X0_threatTo mv_X0_threatTo ml_X11_319 kc_19 rfl rfl h1 rfl rfl (pj_cV hM (pc := 35) (cX_answer p10 w p12 h13) dX11_threat_35 mf_X11_answer mv_X11_answer ml_X11_96 kc_10 rfl rfl (by decide) rfl rfl (pj_goto hM (pc := 38) dX11_threat_38 rfl (pj_ret hM (pc := 47) dX11_threat_47 ⟨_, rfl⟩ (h0 ((p12.1, p12.2)) hr) rfl)))))))))
theorem cX_threat (x1 : Int)  (w : pj_W) (r : Int × pj_W) (h : fX_threat x1 w = some r) : pj_Cn l yX11_threat cX11_threat 3 (some .int) 4 89 true g [(10, 0), (0, x1)] w ((some (0, r.1) : Option pj_V), r.2) :=
  pj_Cn_of rfl (Nat.le_of_ble_eq_true rfl) (lls := [(10, 0), (0, x1), (9, 0)]) rfl (fun Go hM => tX_threat hM x1 w (fun x => ((some (0, x.1) : Option pj_V), x.2) = ((some (0, r.1) : Option pj_V), r.2)) (fun r h => h) r h rfl)
noncomputable def fX_tide  (w : pj_W) : Option (Int × pj_W) :=
  if 0 ≤ (w 10 0 10) then ((fB_comeTide (w 10 0 10) w).bind fun p2 => ((fX_settle p2.1 p2.2).bind fun p4 => (some ((p4.1, p4.2))))) else none
theorem tX_tide {Go : pj_C → Prop} (hM : pj_M l yX11_tide cX11_tide 1 (some .int) 3 67 true g n0 o Go)  (w : pj_W)  (R : Int × pj_W → Prop) (h0 : ∀ r, R (r) → ((some (0, r.1) : Option pj_V), r.2) = o) : pj_TG R (fX_tide  w) (Go (0, [(10, 0)], [], w)) := by
  unfold fX_tide
  refine pj_tgd (fun h1 => ?_)
  refine pj_tbind (fun p2 h3 => ?_)
  refine pj_tbind (fun p4 h5 => ?_)
  exact pj_tret (fun hr => pj_aload_n hM (pc := 0) dX11_tide_0 rfl rfl (pj_aload_n hM (pc := 1) dX11_tide_1 rfl rfl (pj_gf hM (pc := 2) (t := 19) dX11_tide_2 fl_X11_69 (by decide) rfl 10 rfl (pj_cV hM (pc := 5) (cB_comeTide (w 10 0 10) h1 w p2 h3) dX11_tide_5 mf_X0_comeTide mv_X0_comeTide ml_X11_281 kc_19 rfl rfl h1 rfl rfl (pj_cV hM (pc := 8) (cX_settle p2.1 p2.2 p4 h5) dX11_tide_8 mf_X11_settle mv_X11_settle ml_X11_263 kc_10 rfl rfl (by decide) rfl rfl (pj_ret hM (pc := 11) dX11_tide_11 ⟨_, rfl⟩ (h0 ((p4.1, p4.2)) hr) rfl))))))
theorem cX_tide   (w : pj_W) (r : Int × pj_W) (h : fX_tide  w = some r) : pj_Cn l yX11_tide cX11_tide 1 (some .int) 3 67 true g [(10, 0)] w ((some (0, r.1) : Option pj_V), r.2) :=
  pj_Cn_of rfl (Nat.le_of_ble_eq_true rfl) (lls := [(10, 0)]) rfl (fun Go hM => tX_tide hM w (fun x => ((some (0, x.1) : Option pj_V), x.2) = ((some (0, r.1) : Option pj_V), r.2)) (fun r h => h) r h rfl)
noncomputable def fX_tideIn_10  (w : pj_W) : Option (Int × pj_W) :=
  (fX_refuse 1 w).bind fun p1 => (some ((p1.1, p1.2)))
noncomputable def fX_tideIn (x1 : Int) (w : pj_W) : Option (Int × pj_W) :=
  if x1 < 0 then (fX_tideIn_10 w) else (if x1 ≤ 99 then (if 0 ≤ (w 10 0 10) then ((fB_tideAfter (w 10 0 10) x1 w).bind fun p4 => ((fX_answer p4 w).bind fun p6 => (some ((p6.1, p6.2))))) else none) else (fX_tideIn_10 w))
theorem tX_tideIn_10 {Go : pj_C → Prop} (hM : pj_M l yX11_tideIn cX11_tideIn 2 (some .int) 2 42 ph g n0 o Go)  (w : pj_W)  (R : Int × pj_W → Prop) (h0 : ∀ r, R (r) → ((some (0, r.1) : Option pj_V), r.2) = o) : pj_TG R (fX_tideIn_10  w) (Go (10, [(10, 0), (9, 0)], [], w)) := by
  unfold fX_tideIn_10
  refine pj_tbind (fun p1 h2 => ?_)
  exact pj_tret (fun hr => pj_aload_n hM (pc := 10) dX11_tideIn_10 rfl rfl (pj_iconst hM (pc := 11) dX11_tideIn_11 (by decide) (pj_cV hM (pc := 12) (cX_refuse 1 w p1 h2) dX11_tideIn_12 mf_X11_refuse mv_X11_refuse ml_X11_100 kc_10 rfl rfl (by decide) rfl rfl (pj_goto hM (pc := 15) dX11_tideIn_15 rfl (pj_ret hM (pc := 30) dX11_tideIn_30 ⟨_, rfl⟩ (h0 ((p1.1, p1.2)) hr) rfl)))))
theorem tX_tideIn {Go : pj_C → Prop} (hM : pj_M l yX11_tideIn cX11_tideIn 2 (some .int) 2 42 ph g n0 o Go) (x1 : Int) (w : pj_W)  (R : Int × pj_W → Prop) (h0 : ∀ r, R (r) → ((some (0, r.1) : Option pj_V), r.2) = o) : pj_TG R (fX_tideIn x1 w) (Go (0, [(10, 0), (0, x1)], [], w)) := by
  unfold fX_tideIn
  refine pj_map (fun k => pj_iload_n hM (pc := 0) dX11_tideIn_0 rfl k) ?_
  refine pj_tif (fun h1 => ?_) (fun h1 => ?_)
  · refine pj_map (fun k => pj_if_lt_t hM (pc := 1) dX11_tideIn_1 rfl h1 (pj_kill hM [true, false] (lls' := [(10, 0), (9, 0)]) rfl k)) ?_
    exact tX_tideIn_10 hM w _ h0
  refine pj_map (fun k => pj_if_lt_f hM (pc := 1) 10 dX11_tideIn_1 rfl h1 (pj_iload_n hM (pc := 4) dX11_tideIn_4 rfl (pj_bipush hM (pc := 5) dX11_tideIn_5 (by decide) k))) ?_
  refine pj_tif (fun h2 => ?_) (fun h2 => ?_)
  · refine pj_tgd (fun h3 => ?_)
    refine pj_tbind (fun p4 h5 => ?_)
    refine pj_tbind (fun p6 h7 => ?_)
    exact pj_tret (fun hr => pj_ic_le_t hM (pc := 7) dX11_tideIn_7 rfl h2 (pj_aload_n hM (pc := 18) dX11_tideIn_18 rfl rfl (pj_aload_n hM (pc := 19) dX11_tideIn_19 rfl rfl (pj_gf hM (pc := 20) (t := 19) dX11_tideIn_20 fl_X11_69 (by decide) rfl 10 rfl (pj_iload_n hM (pc := 23) dX11_tideIn_23 rfl (pj_cV hM (pc := 24) (cB_tideAfter (w 10 0 10) x1 h3 w p4 h5) dX11_tideIn_24 mf_X0_tideAfter mv_X0_tideAfter ml_X11_374 kc_19 rfl rfl h3 rfl rfl (pj_cV hM (pc := 27) (cX_answer p4 w p6 h7) dX11_tideIn_27 mf_X11_answer mv_X11_answer ml_X11_96 kc_10 rfl rfl (by decide) rfl rfl (pj_ret hM (pc := 30) dX11_tideIn_30 ⟨_, rfl⟩ (h0 ((p6.1, p6.2)) hr) rfl))))))))
  refine pj_map (fun k => pj_ic_le_f hM (pc := 7) 18 dX11_tideIn_7 rfl h2 (pj_kill hM [true, false] (lls' := [(10, 0), (9, 0)]) rfl k)) ?_
  exact tX_tideIn_10 hM w _ h0
theorem cX_tideIn (x1 : Int)  (w : pj_W) (r : Int × pj_W) (h : fX_tideIn x1 w = some r) : pj_Cn l yX11_tideIn cX11_tideIn 2 (some .int) 2 42 ph g [(10, 0), (0, x1)] w ((some (0, r.1) : Option pj_V), r.2) :=
  pj_Cn_of rfl (Nat.le_of_ble_eq_true rfl) (lls := [(10, 0), (0, x1)]) rfl (fun Go hM => tX_tideIn hM x1 w (fun x => ((some (0, x.1) : Option pj_V), x.2) = ((some (0, r.1) : Option pj_V), r.2)) (fun r h => h) r h rfl)
noncomputable def fX_time (x1 : Int) (w : pj_W) : Option (Int × pj_W) :=
  if 0 ≤ (w 10 0 10) then ((fB_finderAt (w 10 0 10) x1 w).bind fun p2 => (if p2 < 0 then ((fX_refuse 1 w).bind fun p5 => (some ((p5.1, p5.2)))) else ((fX_answer (pj_wr ((w 19 (w 10 0 10) 3) - (w 22 p2 4))) w).bind fun p7 => (some ((p7.1, p7.2)))))) else none
theorem tX_time {Go : pj_C → Prop} (hM : pj_M l yX11_time cX11_time 3 (some .int) 1 21 true g n0 o Go) (x1 : Int) (w : pj_W)  (R : Int × pj_W → Prop) (h0 : ∀ r, R (r) → ((some (0, r.1) : Option pj_V), r.2) = o) : pj_TG R (fX_time x1 w) (Go (0, [(10, 0), (0, x1), (9, 0)], [], w)) := by
  unfold fX_time
  refine pj_tgd (fun h1 => ?_)
  refine pj_tbind (fun p2 h3 => ?_)
  refine pj_map (fun k => pj_aload_n hM (pc := 0) dX11_time_0 rfl rfl (pj_gf hM (pc := 1) (t := 19) dX11_time_1 fl_X11_69 (by decide) rfl 10 rfl (pj_iload_n hM (pc := 4) dX11_time_4 rfl (pj_cV hM (pc := 5) (cB_finderAt (w 10 0 10) x1 h1 w p2 h3) dX11_time_5 mf_X0_finderAt mv_X0_finderAt ml_X11_216 kc_19 rfl rfl h1 rfl rfl (pj_astore_n hM (pc := 8) dX11_time_8 (by decide) (by decide) (lls' := [(10, 0), (0, x1), (22, p2)]) rfl (pj_aload_n hM (pc := 9) dX11_time_9 rfl rfl k)))))) ?_
  refine pj_tif (fun h4 => ?_) (fun h4 => ?_)
  · refine pj_tbind (fun p5 h6 => ?_)
    exact pj_tret (fun hr => pj_nonnull_f hM (pc := 10) 21 dX11_time_10 rfl (by decide) h4 (pj_aload_n hM (pc := 13) dX11_time_13 rfl rfl (pj_iconst hM (pc := 14) dX11_time_14 (by decide) (pj_cV hM (pc := 15) (cX_refuse 1 w p5 h6) dX11_time_15 mf_X11_refuse mv_X11_refuse ml_X11_100 kc_10 rfl rfl (by decide) rfl rfl (pj_goto hM (pc := 18) dX11_time_18 rfl (pj_ret hM (pc := 37) dX11_time_37 ⟨_, rfl⟩ (h0 ((p5.1, p5.2)) hr) rfl))))))
  refine pj_tbind (fun p7 h8 => ?_)
  exact pj_tret (fun hr => pj_nonnull_t hM (pc := 10) dX11_time_10 rfl (by decide) h4 (pj_aload_n hM (pc := 21) dX11_time_21 rfl rfl (pj_aload_n hM (pc := 22) dX11_time_22 rfl rfl (pj_gf hM (pc := 23) (t := 19) dX11_time_23 fl_X11_69 (by decide) rfl 10 rfl (pj_gf hM (pc := 26) (t := 0) dX11_time_26 fl_X11_197 h1 rfl 3 rfl (pj_aload_n hM (pc := 29) dX11_time_29 rfl rfl (pj_gf hM (pc := 30) (t := 0) dX11_time_30 fl_X11_231 (Int.not_lt.mp h4) rfl 4 rfl (pj_isub hM (pc := 33) dX11_time_33 (pj_cV hM (pc := 34) (cX_answer (pj_wr ((w 19 (w 10 0 10) 3) - (w 22 p2 4))) w p7 h8) dX11_time_34 mf_X11_answer mv_X11_answer ml_X11_96 kc_10 rfl rfl (by decide) rfl rfl (pj_ret hM (pc := 37) dX11_time_37 ⟨_, rfl⟩ (h0 ((p7.1, p7.2)) hr) rfl))))))))))
theorem cX_time (x1 : Int)  (w : pj_W) (r : Int × pj_W) (h : fX_time x1 w = some r) : pj_Cn l yX11_time cX11_time 3 (some .int) 1 21 true g [(10, 0), (0, x1)] w ((some (0, r.1) : Option pj_V), r.2) :=
  pj_Cn_of rfl (Nat.le_of_ble_eq_true rfl) (lls := [(10, 0), (0, x1), (9, 0)]) rfl (fun Go hM => tX_time hM x1 w (fun x => ((some (0, x.1) : Option pj_V), x.2) = ((some (0, r.1) : Option pj_V), r.2)) (fun r h => h) r h rfl)
noncomputable def fX_told (x1 : Int) (w : pj_W) : Option (Int × pj_W) :=
  if x1 = 0 then (if 0 ≤ (w 10 0 10) then ((fX_answer (w 19 (w 10 0 10) 2) w).bind fun p3 => (some ((p3.1, p3.2)))) else none) else if x1 = 1 then (if 0 ≤ (w 10 0 10) then ((fX_answer (w 19 (w 10 0 10) 7) w).bind fun p7 => (some ((p7.1, p7.2)))) else none) else if x1 = 2 then (if 0 ≤ (w 10 0 10) then ((fX_answer (w 19 (w 10 0 10) 8) w).bind fun p11 => (some ((p11.1, p11.2)))) else none) else if x1 = 3 then (if 0 ≤ (w 10 0 10) then ((fX_answer (w 19 (w 10 0 10) 3) w).bind fun p15 => (some ((p15.1, p15.2)))) else none) else if x1 = 4 then (if 0 ≤ (w 10 0 10) then ((fX_answer (w 19 (w 10 0 10) 4) w).bind fun p19 => (some ((p19.1, p19.2)))) else none) else if x1 = 5 then (if 0 ≤ (w 10 0 10) then ((fX_answer (w 19 (w 10 0 10) 5) w).bind fun p23 => (some ((p23.1, p23.2)))) else none) else if x1 = 6 then (if 0 ≤ (w 10 0 10) then ((fX_answer (w 19 (w 10 0 10) 6) w).bind fun p27 => (some ((p27.1, p27.2)))) else none) else if x1 = 7 then (if 0 ≤ (w 10 0 10) then ((fB_thereSet (w 10 0 10) w).bind fun p31 => ((fX_answer p31 w).bind fun p33 => (some ((p33.1, p33.2))))) else none) else if x1 = 8 then (if 0 ≤ (w 10 0 10) then ((fB_lying (w 10 0 10) w).bind fun p37 => ((fX_answer p37 w).bind fun p39 => (some ((p39.1, p39.2))))) else none) else ((fX_refuse 1 w).bind fun p41 => (some ((p41.1, p41.2))))
theorem tX_told {Go : pj_C → Prop} (hM : pj_M l yX11_told cX11_told 2 (some .int) 1 22 true g n0 o Go) (x1 : Int) (w : pj_W)  (R : Int × pj_W → Prop) (h0 : ∀ r, R (r) → ((some (0, r.1) : Option pj_V), r.2) = o) : pj_TG R (fX_told x1 w) (Go (0, [(10, 0), (0, x1)], [], w)) := by
  unfold fX_told
  refine pj_map (fun k => pj_iload_n hM (pc := 0) dX11_told_0 rfl k) ?_
  refine pj_tif (fun h1 => ?_) (fun h1 => ?_)
  · refine pj_tgd (fun h2 => ?_)
    refine pj_tbind (fun p3 h4 => ?_)
    exact pj_tret (fun hr => pj_table hM (pc := 1) (tgt := 52) dX11_told_1 (by decide) (by rw [h1]; decide) (pj_aload_n hM (pc := 52) dX11_told_52 rfl rfl (pj_aload_n hM (pc := 53) dX11_told_53 rfl rfl (pj_gf hM (pc := 54) (t := 19) dX11_told_54 fl_X11_69 (by decide) rfl 10 rfl (pj_gf hM (pc := 57) (t := 0) dX11_told_57 fl_X11_191 h2 rfl 2 rfl (pj_cV hM (pc := 60) (cX_answer (w 19 (w 10 0 10) 2) w p3 h4) dX11_told_60 mf_X11_answer mv_X11_answer ml_X11_96 kc_10 rfl rfl (by decide) rfl rfl (pj_ret hM (pc := 63) dX11_told_63 ⟨_, rfl⟩ (h0 ((p3.1, p3.2)) hr) rfl)))))))
  refine pj_tif (fun h5 => ?_) (fun h5 => ?_)
  · refine pj_tgd (fun h6 => ?_)
    refine pj_tbind (fun p7 h8 => ?_)
    exact pj_tret (fun hr => pj_table hM (pc := 1) (tgt := 64) dX11_told_1 (by decide) (by rw [h5]; decide) (pj_aload_n hM (pc := 64) dX11_told_64 rfl rfl (pj_aload_n hM (pc := 65) dX11_told_65 rfl rfl (pj_gf hM (pc := 66) (t := 19) dX11_told_66 fl_X11_69 (by decide) rfl 10 rfl (pj_gf hM (pc := 69) (t := 0) dX11_told_69 fl_X11_194 h6 rfl 7 rfl (pj_cV hM (pc := 72) (cX_answer (w 19 (w 10 0 10) 7) w p7 h8) dX11_told_72 mf_X11_answer mv_X11_answer ml_X11_96 kc_10 rfl rfl (by decide) rfl rfl (pj_ret hM (pc := 75) dX11_told_75 ⟨_, rfl⟩ (h0 ((p7.1, p7.2)) hr) rfl)))))))
  refine pj_tif (fun h9 => ?_) (fun h9 => ?_)
  · refine pj_tgd (fun h10 => ?_)
    refine pj_tbind (fun p11 h12 => ?_)
    exact pj_tret (fun hr => pj_table hM (pc := 1) (tgt := 76) dX11_told_1 (by decide) (by rw [h9]; decide) (pj_aload_n hM (pc := 76) dX11_told_76 rfl rfl (pj_aload_n hM (pc := 77) dX11_told_77 rfl rfl (pj_gf hM (pc := 78) (t := 19) dX11_told_78 fl_X11_69 (by decide) rfl 10 rfl (pj_gf hM (pc := 81) (t := 0) dX11_told_81 fl_X11_175 h10 rfl 8 rfl (pj_cV hM (pc := 84) (cX_answer (w 19 (w 10 0 10) 8) w p11 h12) dX11_told_84 mf_X11_answer mv_X11_answer ml_X11_96 kc_10 rfl rfl (by decide) rfl rfl (pj_ret hM (pc := 87) dX11_told_87 ⟨_, rfl⟩ (h0 ((p11.1, p11.2)) hr) rfl)))))))
  refine pj_tif (fun h13 => ?_) (fun h13 => ?_)
  · refine pj_tgd (fun h14 => ?_)
    refine pj_tbind (fun p15 h16 => ?_)
    exact pj_tret (fun hr => pj_table hM (pc := 1) (tgt := 88) dX11_told_1 (by decide) (by rw [h13]; decide) (pj_aload_n hM (pc := 88) dX11_told_88 rfl rfl (pj_aload_n hM (pc := 89) dX11_told_89 rfl rfl (pj_gf hM (pc := 90) (t := 19) dX11_told_90 fl_X11_69 (by decide) rfl 10 rfl (pj_gf hM (pc := 93) (t := 0) dX11_told_93 fl_X11_197 h14 rfl 3 rfl (pj_cV hM (pc := 96) (cX_answer (w 19 (w 10 0 10) 3) w p15 h16) dX11_told_96 mf_X11_answer mv_X11_answer ml_X11_96 kc_10 rfl rfl (by decide) rfl rfl (pj_ret hM (pc := 99) dX11_told_99 ⟨_, rfl⟩ (h0 ((p15.1, p15.2)) hr) rfl)))))))
  refine pj_tif (fun h17 => ?_) (fun h17 => ?_)
  · refine pj_tgd (fun h18 => ?_)
    refine pj_tbind (fun p19 h20 => ?_)
    exact pj_tret (fun hr => pj_table hM (pc := 1) (tgt := 100) dX11_told_1 (by decide) (by rw [h17]; decide) (pj_aload_n hM (pc := 100) dX11_told_100 rfl rfl (pj_aload_n hM (pc := 101) dX11_told_101 rfl rfl (pj_gf hM (pc := 102) (t := 19) dX11_told_102 fl_X11_69 (by decide) rfl 10 rfl (pj_gf hM (pc := 105) (t := 0) dX11_told_105 fl_X11_200 h18 rfl 4 rfl (pj_cV hM (pc := 108) (cX_answer (w 19 (w 10 0 10) 4) w p19 h20) dX11_told_108 mf_X11_answer mv_X11_answer ml_X11_96 kc_10 rfl rfl (by decide) rfl rfl (pj_ret hM (pc := 111) dX11_told_111 ⟨_, rfl⟩ (h0 ((p19.1, p19.2)) hr) rfl)))))))
  refine pj_tif (fun h21 => ?_) (fun h21 => ?_)
  · refine pj_tgd (fun h22 => ?_)
    refine pj_tbind (fun p23 h24 => ?_)
    exact pj_tret (fun hr => pj_table hM (pc := 1) (tgt := 112) dX11_told_1 (by decide) (by rw [h21]; decide) (pj_aload_n hM (pc := 112) dX11_told_112 rfl rfl (pj_aload_n hM (pc := 113) dX11_told_113 rfl rfl (pj_gf hM (pc := 114) (t := 19) dX11_told_114 fl_X11_69 (by decide) rfl 10 rfl (pj_gf hM (pc := 117) (t := 0) dX11_told_117 fl_X11_203 h22 rfl 5 rfl (pj_cV hM (pc := 120) (cX_answer (w 19 (w 10 0 10) 5) w p23 h24) dX11_told_120 mf_X11_answer mv_X11_answer ml_X11_96 kc_10 rfl rfl (by decide) rfl rfl (pj_ret hM (pc := 123) dX11_told_123 ⟨_, rfl⟩ (h0 ((p23.1, p23.2)) hr) rfl)))))))
  refine pj_tif (fun h25 => ?_) (fun h25 => ?_)
  · refine pj_tgd (fun h26 => ?_)
    refine pj_tbind (fun p27 h28 => ?_)
    exact pj_tret (fun hr => pj_table hM (pc := 1) (tgt := 124) dX11_told_1 (by decide) (by rw [h25]; decide) (pj_aload_n hM (pc := 124) dX11_told_124 rfl rfl (pj_aload_n hM (pc := 125) dX11_told_125 rfl rfl (pj_gf hM (pc := 126) (t := 19) dX11_told_126 fl_X11_69 (by decide) rfl 10 rfl (pj_gf hM (pc := 129) (t := 0) dX11_told_129 fl_X11_206 h26 rfl 6 rfl (pj_cV hM (pc := 132) (cX_answer (w 19 (w 10 0 10) 6) w p27 h28) dX11_told_132 mf_X11_answer mv_X11_answer ml_X11_96 kc_10 rfl rfl (by decide) rfl rfl (pj_ret hM (pc := 135) dX11_told_135 ⟨_, rfl⟩ (h0 ((p27.1, p27.2)) hr) rfl)))))))
  refine pj_tif (fun h29 => ?_) (fun h29 => ?_)
  · refine pj_tgd (fun h30 => ?_)
    refine pj_tbind (fun p31 h32 => ?_)
    refine pj_tbind (fun p33 h34 => ?_)
    exact pj_tret (fun hr => pj_table hM (pc := 1) (tgt := 136) dX11_told_1 (by decide) (by rw [h29]; decide) (pj_aload_n hM (pc := 136) dX11_told_136 rfl rfl (pj_aload_n hM (pc := 137) dX11_told_137 rfl rfl (pj_gf hM (pc := 138) (t := 19) dX11_told_138 fl_X11_69 (by decide) rfl 10 rfl (pj_cV hM (pc := 141) (cB_thereSet (w 10 0 10) h30 w p31 h32) dX11_told_141 mf_X0_thereSet mv_X0_thereSet ml_X11_209 kc_19 rfl rfl h30 rfl rfl (pj_cV hM (pc := 144) (cX_answer p31 w p33 h34) dX11_told_144 mf_X11_answer mv_X11_answer ml_X11_96 kc_10 rfl rfl (by decide) rfl rfl (pj_ret hM (pc := 147) dX11_told_147 ⟨_, rfl⟩ (h0 ((p33.1, p33.2)) hr) rfl)))))))
  refine pj_tif (fun h35 => ?_) (fun h35 => ?_)
  · refine pj_tgd (fun h36 => ?_)
    refine pj_tbind (fun p37 h38 => ?_)
    refine pj_tbind (fun p39 h40 => ?_)
    exact pj_tret (fun hr => pj_table hM (pc := 1) (tgt := 148) dX11_told_1 (by decide) (by rw [h35]; decide) (pj_aload_n hM (pc := 148) dX11_told_148 rfl rfl (pj_aload_n hM (pc := 149) dX11_told_149 rfl rfl (pj_gf hM (pc := 150) (t := 19) dX11_told_150 fl_X11_69 (by decide) rfl 10 rfl (pj_cV hM (pc := 153) (cB_lying (w 10 0 10) h36 w p37 h38) dX11_told_153 mf_X0_lying mv_X0_lying ml_X11_213 kc_19 rfl rfl h36 rfl rfl (pj_cV hM (pc := 156) (cX_answer p37 w p39 h40) dX11_told_156 mf_X11_answer mv_X11_answer ml_X11_96 kc_10 rfl rfl (by decide) rfl rfl (pj_ret hM (pc := 159) dX11_told_159 ⟨_, rfl⟩ (h0 ((p39.1, p39.2)) hr) rfl)))))))
  refine pj_tbind (fun p41 h42 => ?_)
  exact pj_tret (fun hr => pj_table hM (pc := 1) (tgt := 160) dX11_told_1 (by decide) (by have e9 : x1 < 0 ∨ 8 < x1 := (by omega); unfold pj_tab; rw [if_pos e9]; decide) (pj_aload_n hM (pc := 160) dX11_told_160 rfl rfl (pj_iconst hM (pc := 161) dX11_told_161 (by decide) (pj_cV hM (pc := 162) (cX_refuse 1 w p41 h42) dX11_told_162 mf_X11_refuse mv_X11_refuse ml_X11_100 kc_10 rfl rfl (by decide) rfl rfl (pj_ret hM (pc := 165) dX11_told_165 ⟨_, rfl⟩ (h0 ((p41.1, p41.2)) hr) rfl)))))
theorem cX_told (x1 : Int)  (w : pj_W) (r : Int × pj_W) (h : fX_told x1 w = some r) : pj_Cn l yX11_told cX11_told 2 (some .int) 1 22 true g [(10, 0), (0, x1)] w ((some (0, r.1) : Option pj_V), r.2) :=
  pj_Cn_of rfl (Nat.le_of_ble_eq_true rfl) (lls := [(10, 0), (0, x1)]) rfl (fun Go hM => tX_told hM x1 w (fun x => ((some (0, x.1) : Option pj_V), x.2) = ((some (0, r.1) : Option pj_V), r.2)) (fun r h => h) r h rfl)
noncomputable def fX_top  (w : pj_W) : Option (Int) :=
  some ((w 10 0 16))
theorem tX_top {Go : pj_C → Prop} (hM : pj_M l yX11_top cX11_top 1 (some .long) 0 0 ph g n0 o Go)  (w : pj_W)  (R : Int → Prop) (h0 : ∀ r, R (r) → ((some (1, r) : Option pj_V), w) = o) : pj_TG R (fX_top  w) (Go (0, [(10, 0)], [], w)) := by
  unfold fX_top
  exact pj_tret (fun hr => pj_aload_n hM (pc := 0) dX11_top_0 rfl rfl (pj_gf hM (pc := 1) (t := 1) dX11_top_1 fl_X11_103 (by decide) rfl 16 rfl (pj_ret hM (pc := 4) dX11_top_4 ⟨_, rfl⟩ (h0 ((w 10 0 16)) hr) rfl)))
theorem cX_top   (w : pj_W) (r : Int) (h : fX_top  w = some r) : pj_Cn l yX11_top cX11_top 1 (some .long) 0 0 ph g [(10, 0)] w ((some (1, r) : Option pj_V), w) :=
  pj_Cn_of rfl (Nat.le_of_ble_eq_true rfl) (lls := [(10, 0)]) rfl (fun Go hM => tX_top hM w (fun x => ((some (1, x) : Option pj_V), w) = ((some (1, r) : Option pj_V), w)) (fun r h => h) r h rfl)
noncomputable def fT_lay_17b (i0 : Int) (x3 : Int) (w : pj_W) : Option ((Int × pj_W) ⊕ (pj_W)) :=
  if 60 ≤ x3 then (some (Sum.inr (w))) else (if 0 ≤ x3 ∧ x3 < 60 then (some (Sum.inl ((pj_wr (x3 + 1)), (pj_set w 52 i0 x3 0)))) else none)
noncomputable def fT_lay_17 (i0 : Int) (s : (Int × pj_W)) : Option (pj_W) := pj_Lp (fun s : (Int × pj_W) => fT_lay_17b i0 s.1 s.2) s
noncomputable def fT_lay (i0 : Int) (x1 : Int) (x2 : Int) (w : pj_W) : Option (pj_W) :=
  fT_lay_17 i0 (0, (pj_set (pj_set (pj_set w 25 i0 1 0) 25 i0 2 x1) 25 i0 3 x2))
theorem tT_lay_17b {Go : pj_C → Prop} (hM : pj_M l yX9_lay cX9_lay 4 none 0 0 true g n0 o Go) (i0 : Int) (x3 : Int) (w : pj_W) (hn0 : 0 ≤ i0) (R : (Int × pj_W) ⊕ (pj_W) → Prop) (h0 : ∀ r, R (Sum.inr (r)) → ((none : Option pj_V), r) = o) (hk17 : ∀ s, R (Sum.inl s) → Go (17, [(25, i0), (9, 0), (9, 0), (0, s.1)], [], s.2)) : pj_TG R (fT_lay_17b i0 x3 w) (Go (17, [(25, i0), (9, 0), (9, 0), (0, x3)], [], w)) := by
  unfold fT_lay_17b
  refine pj_map (fun k => pj_iload_n hM (pc := 17) dX9_lay_17 rfl (pj_bipush hM (pc := 18) dX9_lay_18 (by decide) k)) ?_
  refine pj_tif (fun h1 => ?_) (fun h1 => ?_)
  · exact pj_tret (fun hr => pj_ic_ge_t hM (pc := 20) dX9_lay_20 rfl h1 (pj_ret hM (pc := 36) dX9_lay_36 rfl (h0 (w) hr) rfl))
  refine pj_tgd (fun h2 => ?_)
  exact pj_tret (fun hr => pj_ic_ge_f hM (pc := 20) 36 dX9_lay_20 rfl h1 (pj_aload_n hM (pc := 23) dX9_lay_23 rfl rfl (pj_getF hM (pc := 24) (t := 52) dX9_lay_24 fl_X9_9 hn0 rfl rfl (pj_iload_n hM (pc := 27) dX9_lay_27 rfl (pj_lconst hM (pc := 28) (z := 0) dX9_lay_28 rfl (by decide) (pj_las hM (pc := 29) dX9_lay_29 kl_52 hn0 h2 (pj_iinc hM (pc := 30) dX9_lay_30 rfl (by decide) (lls' := [(25, i0), (9, 0), (9, 0), (0, (pj_wr (x3 + 1)))]) rfl (pj_goto hM (pc := 33) dX9_lay_33 rfl (pj_kill hM [true, false, false, true] (lls' := [(25, i0), (9, 0), (9, 0), (0, (pj_wr (x3 + 1)))]) rfl ((hk17 _ hr)))))))))))
theorem tT_lay_17 {Go : pj_C → Prop} (hM : pj_M l yX9_lay cX9_lay 4 none 0 0 true g n0 o Go) (i0 : Int) (hn0 : 0 ≤ i0) (R : pj_W → Prop) (h0 : ∀ r, R (r) → ((none : Option pj_V), r) = o) (s : (Int × pj_W)) : pj_TG R (fT_lay_17 i0 s) (Go (17, [(25, i0), (9, 0), (9, 0), (0, s.1)], [], s.2)) := by
  unfold fT_lay_17
  exact pj_tLp (G := fun s : (Int × pj_W) => Go (17, [(25, i0), (9, 0), (9, 0), (0, s.1)], [], s.2)) (fun s => tT_lay_17b hM i0 s.1 s.2 hn0 _ (fun r h => h0 r h)  (fun s h => h)) s
theorem tT_lay {Go : pj_C → Prop} (hM : pj_M l yX9_lay cX9_lay 4 none 0 0 true g n0 o Go) (i0 : Int) (x1 : Int) (x2 : Int) (w : pj_W) (hn0 : 0 ≤ i0) (R : pj_W → Prop) (h0 : ∀ r, R (r) → ((none : Option pj_V), r) = o) : pj_TG R (fT_lay i0 x1 x2 w) (Go (0, [(25, i0), (0, x1), (0, x2), (9, 0)], [], w)) := by
  unfold fT_lay
  refine pj_map (fun k => pj_aload_n hM (pc := 0) dX9_lay_0 rfl rfl (pj_iconst hM (pc := 1) dX9_lay_1 (by decide) (pj_pf hM (pc := 2) dX9_lay_2 fl_X9_13 hn0 rfl (fun _ => Or.inl rfl) (by decide) (fun _ => rfl) 1 rfl (pj_aload_n hM (pc := 5) dX9_lay_5 rfl rfl (pj_iload_n hM (pc := 6) dX9_lay_6 rfl (pj_pf hM (pc := 7) dX9_lay_7 fl_X9_17 hn0 rfl (fun h => absurd h (by decide)) (by decide) (fun _ => rfl) 2 rfl (pj_aload_n hM (pc := 10) dX9_lay_10 rfl rfl (pj_iload_n hM (pc := 11) dX9_lay_11 rfl (pj_pf hM (pc := 12) dX9_lay_12 fl_X9_21 hn0 rfl (fun h => absurd h (by decide)) (by decide) (fun _ => rfl) 3 rfl (pj_iconst hM (pc := 15) dX9_lay_15 (by decide) (pj_istore_n hM (pc := 16) dX9_lay_16 (by decide) (lls' := [(25, i0), (0, x1), (0, x2), (0, 0)]) rfl (pj_kill hM [true, false, false, true] (lls' := [(25, i0), (9, 0), (9, 0), (0, 0)]) rfl k)))))))))))) ?_
  exact tT_lay_17 hM i0 hn0 _ h0 _
theorem cT_lay (i0 : Int) (x1 : Int) (x2 : Int) (hn0 : 0 ≤ i0) (w : pj_W) (r : pj_W) (h : fT_lay i0 x1 x2 w = some r) : pj_Cn l yX9_lay cX9_lay 4 none 0 0 true g [(25, i0), (0, x1), (0, x2)] w ((none : Option pj_V), r) :=
  pj_Cn_of rfl (Nat.le_of_ble_eq_true rfl) (lls := [(25, i0), (0, x1), (0, x2), (9, 0)]) rfl (fun Go hM => tT_lay hM i0 x1 x2 w hn0 (fun x => ((none : Option pj_V), x) = ((none : Option pj_V), r)) (fun r h => h) r h rfl)
noncomputable def fX_tray_31  (w : pj_W) : Option (Int × pj_W) :=
  (fX_deny 1 w).bind fun p1 => (if p1.1 = 0 ∨ p1.1 = 1 then (some ((p1.1, p1.2))) else none)
noncomputable def fX_tray (x1 : Int) (x2 : Int) (x3 : Int) (w : pj_W) : Option (Int × pj_W) :=
  (fX_trayAt x1 w).bind fun p1 => (if p1 < 0 then (fX_tray_31 w) else (if x2 < 0 then (fX_tray_31 w) else (if 3 < x2 then (fX_tray_31 w) else (if x3 < 0 then (fX_tray_31 w) else (if x3 ≤ 60 then ((fT_lay p1 x2 x3 w).bind fun p8 => ((fX_grant p8).bind fun p10 => (if p10.1 = 0 ∨ p10.1 = 1 then (some ((p10.1, p10.2))) else none))) else (fX_tray_31 w))))))
theorem tX_tray_31 {Go : pj_C → Prop} (hM : pj_M l yX11_tray cX11_tray 5 (some .boolean) 1 23 true g n0 o Go)  (w : pj_W)  (R : Int × pj_W → Prop) (h0 : ∀ r, R (r) → ((some (0, r.1) : Option pj_V), r.2) = o) : pj_TG R (fX_tray_31  w) (Go (31, [(10, 0), (9, 0), (9, 0), (9, 0), (9, 0)], [], w)) := by
  unfold fX_tray_31
  refine pj_tbind (fun p1 h2 => ?_)
  refine pj_tgd (fun h3 => ?_)
  exact pj_tret (fun hr => pj_aload_n hM (pc := 31) dX11_tray_31 rfl rfl (pj_iconst hM (pc := 32) dX11_tray_32 (by decide) (pj_cV hM (pc := 33) (cX_deny 1 w p1 h2) dX11_tray_33 mf_X11_deny mv_X11_deny ml_X11_114 kc_10 rfl rfl (by decide) rfl rfl (pj_ret hM (pc := 36) dX11_tray_36 ⟨_, rfl, h3⟩ (h0 ((p1.1, p1.2)) hr) rfl))))
theorem tX_tray {Go : pj_C → Prop} (hM : pj_M l yX11_tray cX11_tray 5 (some .boolean) 1 23 true g n0 o Go) (x1 : Int) (x2 : Int) (x3 : Int) (w : pj_W)  (R : Int × pj_W → Prop) (h0 : ∀ r, R (r) → ((some (0, r.1) : Option pj_V), r.2) = o) : pj_TG R (fX_tray x1 x2 x3 w) (Go (0, [(10, 0), (0, x1), (0, x2), (0, x3), (9, 0)], [], w)) := by
  unfold fX_tray
  refine pj_tbind (fun p1 h2 => ?_)
  refine pj_map (fun k => pj_aload_n hM (pc := 0) dX11_tray_0 rfl rfl (pj_iload_n hM (pc := 1) dX11_tray_1 rfl (pj_cV hM (pc := 2) (cX_trayAt x1 w p1 h2) dX11_tray_2 mf_X11_trayAt mv_X11_trayAt ml_X11_110 kc_10 rfl rfl (by decide) rfl rfl (pj_astore hM (pc := 5) dX11_tray_5 (by decide) (by decide) (lls' := [(10, 0), (0, x1), (0, x2), (0, x3), (25, p1)]) rfl (pj_aload hM (pc := 7) dX11_tray_7 rfl rfl k))))) ?_
  refine pj_tif (fun h3 => ?_) (fun h3 => ?_)
  · refine pj_map (fun k => pj_null_t hM (pc := 9) dX11_tray_9 rfl (by decide) h3 (pj_kill hM [true, false, false, false, false] (lls' := [(10, 0), (9, 0), (9, 0), (9, 0), (9, 0)]) rfl k)) ?_
    exact tX_tray_31 hM w _ h0
  refine pj_map (fun k => pj_null_f hM (pc := 9) 31 dX11_tray_9 rfl (by decide) h3 (pj_iload_n hM (pc := 12) dX11_tray_12 rfl k)) ?_
  refine pj_tif (fun h4 => ?_) (fun h4 => ?_)
  · refine pj_map (fun k => pj_if_lt_t hM (pc := 13) dX11_tray_13 rfl h4 (pj_kill hM [true, false, false, false, false] (lls' := [(10, 0), (9, 0), (9, 0), (9, 0), (9, 0)]) rfl k)) ?_
    exact tX_tray_31 hM w _ h0
  refine pj_map (fun k => pj_if_lt_f hM (pc := 13) 31 dX11_tray_13 rfl h4 (pj_iload_n hM (pc := 16) dX11_tray_16 rfl (pj_iconst hM (pc := 17) dX11_tray_17 (by decide) k))) ?_
  refine pj_tif (fun h5 => ?_) (fun h5 => ?_)
  · refine pj_map (fun k => pj_ic_gt_t hM (pc := 18) dX11_tray_18 rfl h5 (pj_kill hM [true, false, false, false, false] (lls' := [(10, 0), (9, 0), (9, 0), (9, 0), (9, 0)]) rfl k)) ?_
    exact tX_tray_31 hM w _ h0
  refine pj_map (fun k => pj_ic_gt_f hM (pc := 18) 31 dX11_tray_18 rfl h5 (pj_iload_n hM (pc := 21) dX11_tray_21 rfl k)) ?_
  refine pj_tif (fun h6 => ?_) (fun h6 => ?_)
  · refine pj_map (fun k => pj_if_lt_t hM (pc := 22) dX11_tray_22 rfl h6 (pj_kill hM [true, false, false, false, false] (lls' := [(10, 0), (9, 0), (9, 0), (9, 0), (9, 0)]) rfl k)) ?_
    exact tX_tray_31 hM w _ h0
  refine pj_map (fun k => pj_if_lt_f hM (pc := 22) 31 dX11_tray_22 rfl h6 (pj_iload_n hM (pc := 25) dX11_tray_25 rfl (pj_bipush hM (pc := 26) dX11_tray_26 (by decide) k))) ?_
  refine pj_tif (fun h7 => ?_) (fun h7 => ?_)
  · refine pj_tbind (fun p8 h9 => ?_)
    refine pj_tbind (fun p10 h11 => ?_)
    refine pj_tgd (fun h12 => ?_)
    exact pj_tret (fun hr => pj_ic_le_t hM (pc := 28) dX11_tray_28 rfl h7 (pj_aload hM (pc := 37) dX11_tray_37 rfl rfl (pj_iload_n hM (pc := 39) dX11_tray_39 rfl (pj_iload_n hM (pc := 40) dX11_tray_40 rfl (pj_cVv hM (pc := 41) (cT_lay p1 x2 x3 (Int.not_lt.mp h3) w p8 h9) dX11_tray_41 mf_X9_lay mv_X9_lay ml_X11_118 kc_25 rfl rfl (Int.not_lt.mp h3) rfl rfl (pj_aload_n hM (pc := 44) dX11_tray_44 rfl rfl (pj_cV hM (pc := 45) (cX_grant p8 p10 h11) dX11_tray_45 mf_X11_grant mv_X11_grant ml_X11_122 kc_10 rfl rfl (by decide) rfl rfl (pj_ret hM (pc := 48) dX11_tray_48 ⟨_, rfl, h12⟩ (h0 ((p10.1, p10.2)) hr) rfl))))))))
  refine pj_map (fun k => pj_ic_le_f hM (pc := 28) 37 dX11_tray_28 rfl h7 (pj_kill hM [true, false, false, false, false] (lls' := [(10, 0), (9, 0), (9, 0), (9, 0), (9, 0)]) rfl k)) ?_
  exact tX_tray_31 hM w _ h0
theorem cX_tray (x1 : Int) (x2 : Int) (x3 : Int)  (w : pj_W) (r : Int × pj_W) (h : fX_tray x1 x2 x3 w = some r) : pj_Cn l yX11_tray cX11_tray 5 (some .boolean) 1 23 true g [(10, 0), (0, x1), (0, x2), (0, x3)] w ((some (0, r.1) : Option pj_V), r.2) :=
  pj_Cn_of rfl (Nat.le_of_ble_eq_true rfl) (lls := [(10, 0), (0, x1), (0, x2), (0, x3), (9, 0)]) rfl (fun Go hM => tX_tray hM x1 x2 x3 w (fun x => ((some (0, x.1) : Option pj_V), x.2) = ((some (0, r.1) : Option pj_V), r.2)) (fun r h => h) r h rfl)
noncomputable def fX_walk_28  (w : pj_W) : Option (Int × pj_W) :=
  (fX_refuse 1 w).bind fun p1 => (some ((p1.1, p1.2)))
noncomputable def fX_walk (x1 : Int) (x2 : Int) (w : pj_W) : Option (Int × pj_W) :=
  if 0 ≤ (w 10 0 10) then ((fB_finderAt (w 10 0 10) x1 w).bind fun p2 => ((fB_findAt (w 10 0 10) x2 w).bind fun p4 => (if p2 < 0 then (fX_walk_28 w) else (if p4 < 0 then (fX_walk_28 w) else ((fF_minutesTo p2 (w 23 p4 3) w).bind fun p8 => ((fX_answer p8 w).bind fun p10 => (some ((p10.1, p10.2))))))))) else none
theorem tX_walk_28 {Go : pj_C → Prop} (hM : pj_M l yX11_walk cX11_walk 5 (some .int) 2 42 true g n0 o Go)  (w : pj_W)  (R : Int × pj_W → Prop) (h0 : ∀ r, R (r) → ((some (0, r.1) : Option pj_V), r.2) = o) : pj_TG R (fX_walk_28  w) (Go (28, [(10, 0), (9, 0), (9, 0), (9, 0), (9, 0)], [], w)) := by
  unfold fX_walk_28
  refine pj_tbind (fun p1 h2 => ?_)
  exact pj_tret (fun hr => pj_aload_n hM (pc := 28) dX11_walk_28 rfl rfl (pj_iconst hM (pc := 29) dX11_walk_29 (by decide) (pj_cV hM (pc := 30) (cX_refuse 1 w p1 h2) dX11_walk_30 mf_X11_refuse mv_X11_refuse ml_X11_100 kc_10 rfl rfl (by decide) rfl rfl (pj_goto hM (pc := 33) dX11_walk_33 rfl (pj_ret hM (pc := 49) dX11_walk_49 ⟨_, rfl⟩ (h0 ((p1.1, p1.2)) hr) rfl)))))
theorem tX_walk {Go : pj_C → Prop} (hM : pj_M l yX11_walk cX11_walk 5 (some .int) 2 42 true g n0 o Go) (x1 : Int) (x2 : Int) (w : pj_W)  (R : Int × pj_W → Prop) (h0 : ∀ r, R (r) → ((some (0, r.1) : Option pj_V), r.2) = o) : pj_TG R (fX_walk x1 x2 w) (Go (0, [(10, 0), (0, x1), (0, x2), (9, 0), (9, 0)], [], w)) := by
  unfold fX_walk
  refine pj_tgd (fun h1 => ?_)
  refine pj_tbind (fun p2 h3 => ?_)
  refine pj_tbind (fun p4 h5 => ?_)
  refine pj_map (fun k => pj_aload_n hM (pc := 0) dX11_walk_0 rfl rfl (pj_gf hM (pc := 1) (t := 19) dX11_walk_1 fl_X11_69 (by decide) rfl 10 rfl (pj_iload_n hM (pc := 4) dX11_walk_4 rfl (pj_cV hM (pc := 5) (cB_finderAt (w 10 0 10) x1 h1 w p2 h3) dX11_walk_5 mf_X0_finderAt mv_X0_finderAt ml_X11_216 kc_19 rfl rfl h1 rfl rfl (pj_astore_n hM (pc := 8) dX11_walk_8 (by decide) (by decide) (lls' := [(10, 0), (0, x1), (0, x2), (22, p2), (9, 0)]) rfl (pj_aload_n hM (pc := 9) dX11_walk_9 rfl rfl (pj_gf hM (pc := 10) (t := 19) dX11_walk_10 fl_X11_69 (by decide) rfl 10 rfl (pj_iload_n hM (pc := 13) dX11_walk_13 rfl (pj_cV hM (pc := 14) (cB_findAt (w 10 0 10) x2 h1 w p4 h5) dX11_walk_14 mf_X0_findAt mv_X0_findAt ml_X11_237 kc_19 rfl rfl h1 rfl rfl (pj_astore hM (pc := 17) dX11_walk_17 (by decide) (by decide) (lls' := [(10, 0), (0, x1), (0, x2), (22, p2), (23, p4)]) rfl (pj_aload_n hM (pc := 19) dX11_walk_19 rfl rfl k))))))))))) ?_
  refine pj_tif (fun h6 => ?_) (fun h6 => ?_)
  · refine pj_map (fun k => pj_null_t hM (pc := 20) dX11_walk_20 rfl (by decide) h6 (pj_kill hM [true, false, false, false, false] (lls' := [(10, 0), (9, 0), (9, 0), (9, 0), (9, 0)]) rfl k)) ?_
    exact tX_walk_28 hM w _ h0
  refine pj_map (fun k => pj_null_f hM (pc := 20) 28 dX11_walk_20 rfl (by decide) h6 (pj_aload hM (pc := 23) dX11_walk_23 rfl rfl k)) ?_
  refine pj_tif (fun h7 => ?_) (fun h7 => ?_)
  · refine pj_map (fun k => pj_nonnull_f hM (pc := 25) 36 dX11_walk_25 rfl (by decide) h7 (pj_kill hM [true, false, false, false, false] (lls' := [(10, 0), (9, 0), (9, 0), (9, 0), (9, 0)]) rfl k)) ?_
    exact tX_walk_28 hM w _ h0
  refine pj_tbind (fun p8 h9 => ?_)
  refine pj_tbind (fun p10 h11 => ?_)
  exact pj_tret (fun hr => pj_nonnull_t hM (pc := 25) dX11_walk_25 rfl (by decide) h7 (pj_aload_n hM (pc := 36) dX11_walk_36 rfl rfl (pj_aload_n hM (pc := 37) dX11_walk_37 rfl rfl (pj_aload hM (pc := 38) dX11_walk_38 rfl rfl (pj_gf hM (pc := 40) (t := 0) dX11_walk_40 fl_X11_241 (Int.not_lt.mp h7) rfl 3 rfl (pj_cV hM (pc := 43) (cF_minutesTo p2 (w 23 p4 3) (Int.not_lt.mp h6) w p8 h9) dX11_walk_43 mf_X5_minutesTo mv_X5_minutesTo ml_X11_365 kc_22 rfl rfl (Int.not_lt.mp h6) rfl rfl (pj_cV hM (pc := 46) (cX_answer p8 w p10 h11) dX11_walk_46 mf_X11_answer mv_X11_answer ml_X11_96 kc_10 rfl rfl (by decide) rfl rfl (pj_ret hM (pc := 49) dX11_walk_49 ⟨_, rfl⟩ (h0 ((p10.1, p10.2)) hr) rfl))))))))
theorem cX_walk (x1 : Int) (x2 : Int)  (w : pj_W) (r : Int × pj_W) (h : fX_walk x1 x2 w = some r) : pj_Cn l yX11_walk cX11_walk 5 (some .int) 2 42 true g [(10, 0), (0, x1), (0, x2)] w ((some (0, r.1) : Option pj_V), r.2) :=
  pj_Cn_of rfl (Nat.le_of_ble_eq_true rfl) (lls := [(10, 0), (0, x1), (0, x2), (9, 0), (9, 0)]) rfl (fun Go hM => tX_walk hM x1 x2 w (fun x => ((some (0, x.1) : Option pj_V), x.2) = ((some (0, r.1) : Option pj_V), r.2)) (fun r h => h) r h rfl)
noncomputable def fX_wave (x1 : Int) (w : pj_W) : Option (Int × pj_W) :=
  if 0 ≤ (w 10 0 10) then ((fB_washBelow (w 10 0 10) x1 w).bind fun p2 => ((fX_settle p2.1 p2.2).bind fun p4 => (some ((p4.1, p4.2))))) else none
theorem tX_wave {Go : pj_C → Prop} (hM : pj_M l yX11_wave cX11_wave 2 (some .int) 2 44 true g n0 o Go) (x1 : Int) (w : pj_W)  (R : Int × pj_W → Prop) (h0 : ∀ r, R (r) → ((some (0, r.1) : Option pj_V), r.2) = o) : pj_TG R (fX_wave x1 w) (Go (0, [(10, 0), (0, x1)], [], w)) := by
  unfold fX_wave
  refine pj_tgd (fun h1 => ?_)
  refine pj_tbind (fun p2 h3 => ?_)
  refine pj_tbind (fun p4 h5 => ?_)
  exact pj_tret (fun hr => pj_aload_n hM (pc := 0) dX11_wave_0 rfl rfl (pj_aload_n hM (pc := 1) dX11_wave_1 rfl rfl (pj_gf hM (pc := 2) (t := 19) dX11_wave_2 fl_X11_69 (by decide) rfl 10 rfl (pj_iload_n hM (pc := 5) dX11_wave_5 rfl (pj_cV hM (pc := 6) (cB_washBelow (w 10 0 10) x1 h1 w p2 h3) dX11_wave_6 mf_X0_washBelow mv_X0_washBelow ml_X11_278 kc_19 rfl rfl h1 rfl rfl (pj_cV hM (pc := 9) (cX_settle p2.1 p2.2 p4 h5) dX11_wave_9 mf_X11_settle mv_X11_settle ml_X11_263 kc_10 rfl rfl (by decide) rfl rfl (pj_ret hM (pc := 12) dX11_wave_12 ⟨_, rfl⟩ (h0 ((p4.1, p4.2)) hr) rfl)))))))
theorem cX_wave (x1 : Int)  (w : pj_W) (r : Int × pj_W) (h : fX_wave x1 w = some r) : pj_Cn l yX11_wave cX11_wave 2 (some .int) 2 44 true g [(10, 0), (0, x1)] w ((some (0, r.1) : Option pj_V), r.2) :=
  pj_Cn_of rfl (Nat.le_of_ble_eq_true rfl) (lls := [(10, 0), (0, x1)]) rfl (fun Go hM => tX_wave hM x1 w (fun x => ((some (0, x.1) : Option pj_V), x.2) = ((some (0, r.1) : Option pj_V), r.2)) (fun r h => h) r h rfl)
noncomputable def fX_whose (x1 : Int) (w : pj_W) : Option (Int × pj_W) :=
  if 0 ≤ (w 10 0 10) then ((fB_findAt (w 10 0 10) x1 w).bind fun p2 => (if p2 < 0 then ((fX_refuse 1 w).bind fun p5 => (some ((p5.1, p5.2)))) else (if (w 23 p2 5) = 0 then ((fX_refuse 7 w).bind fun p8 => (some ((p8.1, p8.2)))) else ((fB_heirs (w 10 0 10) p2 w).bind fun p10 => ((fX_answer p10 w).bind fun p12 => (some ((p12.1, p12.2)))))))) else none
theorem tX_whose {Go : pj_C → Prop} (hM : pj_M l yX11_whose cX11_whose 3 (some .int) 2 44 true g n0 o Go) (x1 : Int) (w : pj_W)  (R : Int × pj_W → Prop) (h0 : ∀ r, R (r) → ((some (0, r.1) : Option pj_V), r.2) = o) : pj_TG R (fX_whose x1 w) (Go (0, [(10, 0), (0, x1), (9, 0)], [], w)) := by
  unfold fX_whose
  refine pj_tgd (fun h1 => ?_)
  refine pj_tbind (fun p2 h3 => ?_)
  refine pj_map (fun k => pj_aload_n hM (pc := 0) dX11_whose_0 rfl rfl (pj_gf hM (pc := 1) (t := 19) dX11_whose_1 fl_X11_69 (by decide) rfl 10 rfl (pj_iload_n hM (pc := 4) dX11_whose_4 rfl (pj_cV hM (pc := 5) (cB_findAt (w 10 0 10) x1 h1 w p2 h3) dX11_whose_5 mf_X0_findAt mv_X0_findAt ml_X11_237 kc_19 rfl rfl h1 rfl rfl (pj_astore_n hM (pc := 8) dX11_whose_8 (by decide) (by decide) (lls' := [(10, 0), (0, x1), (23, p2)]) rfl (pj_aload_n hM (pc := 9) dX11_whose_9 rfl rfl k)))))) ?_
  refine pj_tif (fun h4 => ?_) (fun h4 => ?_)
  · refine pj_tbind (fun p5 h6 => ?_)
    exact pj_tret (fun hr => pj_nonnull_f hM (pc := 10) 19 dX11_whose_10 rfl (by decide) h4 (pj_aload_n hM (pc := 13) dX11_whose_13 rfl rfl (pj_iconst hM (pc := 14) dX11_whose_14 (by decide) (pj_cV hM (pc := 15) (cX_refuse 1 w p5 h6) dX11_whose_15 mf_X11_refuse mv_X11_refuse ml_X11_100 kc_10 rfl rfl (by decide) rfl rfl (pj_ret hM (pc := 18) dX11_whose_18 ⟨_, rfl⟩ (h0 ((p5.1, p5.2)) hr) rfl)))))
  refine pj_map (fun k => pj_nonnull_t hM (pc := 10) dX11_whose_10 rfl (by decide) h4 (pj_aload_n hM (pc := 19) dX11_whose_19 rfl rfl (pj_gf hM (pc := 20) (t := 0) dX11_whose_20 fl_X11_287 (Int.not_lt.mp h4) rfl 5 rfl k))) ?_
  refine pj_tif (fun h7 => ?_) (fun h7 => ?_)
  · refine pj_tbind (fun p8 h9 => ?_)
    exact pj_tret (fun hr => pj_if_eq_t hM (pc := 23) dX11_whose_23 rfl h7 (pj_aload_n hM (pc := 41) dX11_whose_41 rfl rfl (pj_bipush hM (pc := 42) dX11_whose_42 (by decide) (pj_cV hM (pc := 44) (cX_refuse 7 w p8 h9) dX11_whose_44 mf_X11_refuse mv_X11_refuse ml_X11_100 kc_10 rfl rfl (by decide) rfl rfl (pj_ret hM (pc := 47) dX11_whose_47 ⟨_, rfl⟩ (h0 ((p8.1, p8.2)) hr) rfl)))))
  refine pj_tbind (fun p10 h11 => ?_)
  refine pj_tbind (fun p12 h13 => ?_)
  exact pj_tret (fun hr => pj_if_eq_f hM (pc := 23) 41 dX11_whose_23 rfl h7 (pj_aload_n hM (pc := 26) dX11_whose_26 rfl rfl (pj_aload_n hM (pc := 27) dX11_whose_27 rfl rfl (pj_gf hM (pc := 28) (t := 19) dX11_whose_28 fl_X11_69 (by decide) rfl 10 rfl (pj_aload_n hM (pc := 31) dX11_whose_31 rfl rfl (pj_cV hM (pc := 32) (cB_heirs (w 10 0 10) p2 h1 w p10 h11) dX11_whose_32 mf_X0_heirs mv_X0_heirs ml_X11_293 kc_19 rfl rfl h1 rfl rfl (pj_cV hM (pc := 35) (cX_answer p10 w p12 h13) dX11_whose_35 mf_X11_answer mv_X11_answer ml_X11_96 kc_10 rfl rfl (by decide) rfl rfl (pj_goto hM (pc := 38) dX11_whose_38 rfl (pj_ret hM (pc := 47) dX11_whose_47 ⟨_, rfl⟩ (h0 ((p12.1, p12.2)) hr) rfl)))))))))
theorem cX_whose (x1 : Int)  (w : pj_W) (r : Int × pj_W) (h : fX_whose x1 w = some r) : pj_Cn l yX11_whose cX11_whose 3 (some .int) 2 44 true g [(10, 0), (0, x1)] w ((some (0, r.1) : Option pj_V), r.2) :=
  pj_Cn_of rfl (Nat.le_of_ble_eq_true rfl) (lls := [(10, 0), (0, x1), (9, 0)]) rfl (fun Go hM => tX_whose hM x1 w (fun x => ((some (0, x.1) : Option pj_V), x.2) = ((some (0, r.1) : Option pj_V), r.2)) (fun r h => h) r h rfl)
noncomputable def fT_cut (i0 : Int) (x1 : Int) (w : pj_W) : Option (Int) :=
  if (w 25 i0 2) = 0 then (some ((pj_w8 (pj_wr x1)))) else if (w 25 i0 2) = 1 then (some ((pj_w16 (pj_wr x1)))) else if (w 25 i0 2) = 2 then (some ((pj_wr x1))) else (some (x1))
theorem tT_cut {Go : pj_C → Prop} (hM : pj_M l yX9_cut cX9_cut 3 (some .long) 0 0 ph g n0 o Go) (i0 : Int) (x1 : Int) (w : pj_W) (hn0 : 0 ≤ i0) (R : Int → Prop) (h0 : ∀ r, R (r) → ((some (1, r) : Option pj_V), w) = o) : pj_TG R (fT_cut i0 x1 w) (Go (0, [(25, i0), (1, x1), (9, 0)], [], w)) := by
  unfold fT_cut
  refine pj_map (fun k => pj_aload_n hM (pc := 0) dX9_cut_0 rfl rfl (pj_gf hM (pc := 1) (t := 0) dX9_cut_1 fl_X9_17 hn0 rfl 2 rfl k)) ?_
  refine pj_tif (fun h1 => ?_) (fun h1 => ?_)
  · exact pj_tret (fun hr => pj_table hM (pc := 4) (tgt := 32) dX9_cut_4 (by decide) (by rw [h1]; decide) (pj_lload_n hM (pc := 32) dX9_cut_32 rfl (pj_l2i hM (pc := 33) dX9_cut_33 (pj_i2b hM (pc := 34) dX9_cut_34 (pj_i2l hM (pc := 35) dX9_cut_35 (pj_ret hM (pc := 36) dX9_cut_36 ⟨_, rfl⟩ (h0 ((pj_w8 (pj_wr x1))) hr) rfl))))))
  refine pj_tif (fun h2 => ?_) (fun h2 => ?_)
  · exact pj_tret (fun hr => pj_table hM (pc := 4) (tgt := 37) dX9_cut_4 (by decide) (by rw [h2]; decide) (pj_lload_n hM (pc := 37) dX9_cut_37 rfl (pj_l2i hM (pc := 38) dX9_cut_38 (pj_i2s hM (pc := 39) dX9_cut_39 (pj_i2l hM (pc := 40) dX9_cut_40 (pj_ret hM (pc := 41) dX9_cut_41 ⟨_, rfl⟩ (h0 ((pj_w16 (pj_wr x1))) hr) rfl))))))
  refine pj_tif (fun h3 => ?_) (fun h3 => ?_)
  · exact pj_tret (fun hr => pj_table hM (pc := 4) (tgt := 42) dX9_cut_4 (by decide) (by rw [h3]; decide) (pj_lload_n hM (pc := 42) dX9_cut_42 rfl (pj_l2i hM (pc := 43) dX9_cut_43 (pj_i2l hM (pc := 44) dX9_cut_44 (pj_ret hM (pc := 45) dX9_cut_45 ⟨_, rfl⟩ (h0 ((pj_wr x1)) hr) rfl)))))
  exact pj_tret (fun hr => pj_table hM (pc := 4) (tgt := 46) dX9_cut_4 (by decide) (by have e9 : (w 25 i0 2) < 0 ∨ 2 < (w 25 i0 2) := (by omega); unfold pj_tab; rw [if_pos e9]; decide) (pj_lload_n hM (pc := 46) dX9_cut_46 rfl (pj_ret hM (pc := 47) dX9_cut_47 ⟨_, rfl⟩ (h0 (x1) hr) rfl)))
theorem cT_cut (i0 : Int) (x1 : Int) (hn0 : 0 ≤ i0) (w : pj_W) (r : Int) (h : fT_cut i0 x1 w = some r) : pj_Cn l yX9_cut cX9_cut 3 (some .long) 0 0 ph g [(25, i0), (1, x1)] w ((some (1, r) : Option pj_V), w) :=
  pj_Cn_of rfl (Nat.le_of_ble_eq_true rfl) (lls := [(25, i0), (1, x1), (9, 0)]) rfl (fun Go hM => tT_cut hM i0 x1 w hn0 (fun x => ((some (1, x) : Option pj_V), w) = ((some (1, r) : Option pj_V), w)) (fun r h => h) r h rfl)
noncomputable def fT_put (i0 : Int) (x1 : Int) (x2 : Int) (w : pj_W) : Option (pj_W) :=
  (fT_holds i0 x1 1 w).bind fun p1 => (if p1 = 0 then (some (w)) else ((fT_cut i0 x2 w).bind fun p4 => (if 0 ≤ x1 ∧ x1 < 60 then (some ((pj_set w 52 i0 x1 p4))) else none)))
theorem tT_put {Go : pj_C → Prop} (hM : pj_M l yX9_put cX9_put 4 none 1 22 true g n0 o Go) (i0 : Int) (x1 : Int) (x2 : Int) (w : pj_W) (hn0 : 0 ≤ i0) (R : pj_W → Prop) (h0 : ∀ r, R (r) → ((none : Option pj_V), r) = o) : pj_TG R (fT_put i0 x1 x2 w) (Go (0, [(25, i0), (0, x1), (1, x2), (9, 0)], [], w)) := by
  unfold fT_put
  refine pj_tbind (fun p1 h2 => ?_)
  refine pj_map (fun k => pj_aload_n hM (pc := 0) dX9_put_0 rfl rfl (pj_iload_n hM (pc := 1) dX9_put_1 rfl (pj_iconst hM (pc := 2) dX9_put_2 (by decide) (pj_cV hM (pc := 3) (cT_holds i0 x1 1 hn0 w p1 h2) dX9_put_3 mf_X9_holds mv_X9_holds ml_X9_24 kc_25 rfl rfl hn0 rfl rfl k)))) ?_
  refine pj_tif (fun h3 => ?_) (fun h3 => ?_)
  · exact pj_tret (fun hr => pj_if_eq_t hM (pc := 6) dX9_put_6 rfl h3 (pj_ret hM (pc := 20) dX9_put_20 rfl (h0 (w) hr) rfl))
  refine pj_tbind (fun p4 h5 => ?_)
  refine pj_tgd (fun h6 => ?_)
  exact pj_tret (fun hr => pj_if_eq_f hM (pc := 6) 20 dX9_put_6 rfl h3 (pj_aload_n hM (pc := 9) dX9_put_9 rfl rfl (pj_getF hM (pc := 10) (t := 52) dX9_put_10 fl_X9_9 hn0 rfl rfl (pj_iload_n hM (pc := 13) dX9_put_13 rfl (pj_aload_n hM (pc := 14) dX9_put_14 rfl rfl (pj_lload_n hM (pc := 15) dX9_put_15 rfl (pj_cV hM (pc := 16) (cT_cut i0 x2 hn0 w p4 h5) dX9_put_16 mf_X9_cut mv_X9_cut ml_X9_28 kc_25 rfl rfl hn0 rfl rfl (pj_las hM (pc := 19) dX9_put_19 kl_52 hn0 h6 (pj_ret hM (pc := 20) dX9_put_20 rfl (h0 ((pj_set w 52 i0 x1 p4)) hr) rfl)))))))))
theorem cT_put (i0 : Int) (x1 : Int) (x2 : Int) (hn0 : 0 ≤ i0) (w : pj_W) (r : pj_W) (h : fT_put i0 x1 x2 w = some r) : pj_Cn l yX9_put cX9_put 4 none 1 22 true g [(25, i0), (0, x1), (1, x2)] w ((none : Option pj_V), r) :=
  pj_Cn_of rfl (Nat.le_of_ble_eq_true rfl) (lls := [(25, i0), (0, x1), (1, x2), (9, 0)]) rfl (fun Go hM => tT_put hM i0 x1 x2 w hn0 (fun x => ((none : Option pj_V), x) = ((none : Option pj_V), r)) (fun r h => h) r h rfl)
noncomputable def fX_write (x1 : Int) (x2 : Int) (x3 : Int) (w : pj_W) : Option (Int × pj_W) :=
  (fX_trayAt x1 w).bind fun p1 => (if p1 < 0 then ((fX_deny 1 w).bind fun p4 => (if p4.1 = 0 ∨ p4.1 = 1 then (some ((p4.1, p4.2))) else none)) else (if (w 25 p1 1) = 0 then ((fT_holds p1 x2 1 w).bind fun p8 => (if p8 = 0 then ((fX_deny 3 w).bind fun p11 => (if p11.1 = 0 ∨ p11.1 = 1 then (some ((p11.1, p11.2))) else none)) else ((fT_put p1 x2 x3 w).bind fun p14 => ((fX_grant p14).bind fun p16 => (if p16.1 = 0 ∨ p16.1 = 1 then (some ((p16.1, p16.2))) else none))))) else ((fX_deny 2 w).bind fun p19 => (if p19.1 = 0 ∨ p19.1 = 1 then (some ((p19.1, p19.2))) else none))))
theorem tX_write {Go : pj_C → Prop} (hM : pj_M l yX11_write cX11_write 6 (some .boolean) 2 45 true g n0 o Go) (x1 : Int) (x2 : Int) (x3 : Int) (w : pj_W)  (R : Int × pj_W → Prop) (h0 : ∀ r, R (r) → ((some (0, r.1) : Option pj_V), r.2) = o) : pj_TG R (fX_write x1 x2 x3 w) (Go (0, [(10, 0), (0, x1), (0, x2), (1, x3), (9, 0), (9, 0)], [], w)) := by
  unfold fX_write
  refine pj_tbind (fun p1 h2 => ?_)
  refine pj_map (fun k => pj_aload_n hM (pc := 0) dX11_write_0 rfl rfl (pj_iload_n hM (pc := 1) dX11_write_1 rfl (pj_cV hM (pc := 2) (cX_trayAt x1 w p1 h2) dX11_write_2 mf_X11_trayAt mv_X11_trayAt ml_X11_110 kc_10 rfl rfl (by decide) rfl rfl (pj_astore hM (pc := 5) dX11_write_5 (by decide) (by decide) (lls' := [(10, 0), (0, x1), (0, x2), (1, x3), (9, 0), (25, p1)]) rfl (pj_aload hM (pc := 7) dX11_write_7 rfl rfl k))))) ?_
  refine pj_tif (fun h3 => ?_) (fun h3 => ?_)
  · refine pj_tbind (fun p4 h5 => ?_)
    refine pj_tgd (fun h6 => ?_)
    exact pj_tret (fun hr => pj_nonnull_f hM (pc := 9) 18 dX11_write_9 rfl (by decide) h3 (pj_aload_n hM (pc := 12) dX11_write_12 rfl rfl (pj_iconst hM (pc := 13) dX11_write_13 (by decide) (pj_cV hM (pc := 14) (cX_deny 1 w p4 h5) dX11_write_14 mf_X11_deny mv_X11_deny ml_X11_114 kc_10 rfl rfl (by decide) rfl rfl (pj_ret hM (pc := 17) dX11_write_17 ⟨_, rfl, h6⟩ (h0 ((p4.1, p4.2)) hr) rfl)))))
  refine pj_map (fun k => pj_nonnull_t hM (pc := 9) dX11_write_9 rfl (by decide) h3 (pj_aload hM (pc := 18) dX11_write_18 rfl rfl (pj_gf hM (pc := 20) (t := 0) dX11_write_20 fl_X11_126 (Int.not_lt.mp h3) rfl 1 rfl k))) ?_
  refine pj_tif (fun h7 => ?_) (fun h7 => ?_)
  · refine pj_tbind (fun p8 h9 => ?_)
    refine pj_map (fun k => pj_if_eq_t hM (pc := 23) dX11_write_23 rfl h7 (pj_aload hM (pc := 32) dX11_write_32 rfl rfl (pj_iload_n hM (pc := 34) dX11_write_34 rfl (pj_iconst hM (pc := 35) dX11_write_35 (by decide) (pj_cV hM (pc := 36) (cT_holds p1 x2 1 (Int.not_lt.mp h3) w p8 h9) dX11_write_36 mf_X9_holds mv_X9_holds ml_X11_130 kc_25 rfl rfl (Int.not_lt.mp h3) rfl rfl k))))) ?_
    refine pj_tif (fun h10 => ?_) (fun h10 => ?_)
    · refine pj_tbind (fun p11 h12 => ?_)
      refine pj_tgd (fun h13 => ?_)
      exact pj_tret (fun hr => pj_if_ne_f hM (pc := 39) 48 dX11_write_39 rfl (fun q => q h10) (pj_aload_n hM (pc := 42) dX11_write_42 rfl rfl (pj_iconst hM (pc := 43) dX11_write_43 (by decide) (pj_cV hM (pc := 44) (cX_deny 3 w p11 h12) dX11_write_44 mf_X11_deny mv_X11_deny ml_X11_114 kc_10 rfl rfl (by decide) rfl rfl (pj_ret hM (pc := 47) dX11_write_47 ⟨_, rfl, h13⟩ (h0 ((p11.1, p11.2)) hr) rfl)))))
    refine pj_tbind (fun p14 h15 => ?_)
    refine pj_tbind (fun p16 h17 => ?_)
    refine pj_tgd (fun h18 => ?_)
    exact pj_tret (fun hr => pj_if_ne_t hM (pc := 39) dX11_write_39 rfl h10 (pj_aload hM (pc := 48) dX11_write_48 rfl rfl (pj_iload_n hM (pc := 50) dX11_write_50 rfl (pj_lload_n hM (pc := 51) dX11_write_51 rfl (pj_cVv hM (pc := 52) (cT_put p1 x2 x3 (Int.not_lt.mp h3) w p14 h15) dX11_write_52 mf_X9_put mv_X9_put ml_X11_134 kc_25 rfl rfl (Int.not_lt.mp h3) rfl rfl (pj_aload_n hM (pc := 55) dX11_write_55 rfl rfl (pj_cV hM (pc := 56) (cX_grant p14 p16 h17) dX11_write_56 mf_X11_grant mv_X11_grant ml_X11_122 kc_10 rfl rfl (by decide) rfl rfl (pj_ret hM (pc := 59) dX11_write_59 ⟨_, rfl, h18⟩ (h0 ((p16.1, p16.2)) hr) rfl))))))))
  refine pj_tbind (fun p19 h20 => ?_)
  refine pj_tgd (fun h21 => ?_)
  exact pj_tret (fun hr => pj_if_eq_f hM (pc := 23) 32 dX11_write_23 rfl h7 (pj_aload_n hM (pc := 26) dX11_write_26 rfl rfl (pj_iconst hM (pc := 27) dX11_write_27 (by decide) (pj_cV hM (pc := 28) (cX_deny 2 w p19 h20) dX11_write_28 mf_X11_deny mv_X11_deny ml_X11_114 kc_10 rfl rfl (by decide) rfl rfl (pj_ret hM (pc := 31) dX11_write_31 ⟨_, rfl, h21⟩ (h0 ((p19.1, p19.2)) hr) rfl)))))
theorem cX_write (x1 : Int) (x2 : Int) (x3 : Int)  (w : pj_W) (r : Int × pj_W) (h : fX_write x1 x2 x3 w = some r) : pj_Cn l yX11_write cX11_write 6 (some .boolean) 2 45 true g [(10, 0), (0, x1), (0, x2), (1, x3)] w ((some (0, r.1) : Option pj_V), r.2) :=
  pj_Cn_of rfl (Nat.le_of_ble_eq_true rfl) (lls := [(10, 0), (0, x1), (0, x2), (1, x3), (9, 0), (9, 0)]) rfl (fun Go hM => tX_write hM x1 x2 x3 w (fun x => ((some (0, x.1) : Option pj_V), x.2) = ((some (0, r.1) : Option pj_V), r.2)) (fun r h => h) r h rfl)
noncomputable def fM_bits_4b  (w : pj_W) (x1 : Int) (x2 : Int) : Option ((Int × Int) ⊕ (Int)) :=
  if x2 = 0 then (some (Sum.inr (x1))) else (some (Sum.inl ((pj_wr (x1 + 1)), (pj_and x2 (pj_wr (x2 - 1))))))
noncomputable def fM_bits_4  (w : pj_W) (s : (Int × Int)) : Option (Int) := pj_Lp (fun s : (Int × Int) => fM_bits_4b  w s.1 s.2) s
noncomputable def fM_bits (x0 : Int) (w : pj_W) : Option (Int) :=
  fM_bits_4 w (0, x0)
theorem tM_bits_4b {Go : pj_C → Prop} (hM : pj_M l yX12_bits cX12_bits 3 (some .int) 0 0 ph g n0 o Go)  (w : pj_W) (x1 : Int) (x2 : Int)  (R : (Int × Int) ⊕ (Int) → Prop) (h0 : ∀ r, R (Sum.inr (r)) → ((some (0, r) : Option pj_V), w) = o) (hk4 : ∀ s, R (Sum.inl s) → Go (4, [(9, 0), (0, s.1), (0, s.2)], [], w)) : pj_TG R (fM_bits_4b  w x1 x2) (Go (4, [(9, 0), (0, x1), (0, x2)], [], w)) := by
  unfold fM_bits_4b
  refine pj_map (fun k => pj_iload_n hM (pc := 4) dX12_bits_4 rfl k) ?_
  refine pj_tif (fun h1 => ?_) (fun h1 => ?_)
  · exact pj_tret (fun hr => pj_if_eq_t hM (pc := 5) dX12_bits_5 rfl h1 (pj_iload_n hM (pc := 20) dX12_bits_20 rfl (pj_ret hM (pc := 21) dX12_bits_21 ⟨_, rfl⟩ (h0 (x1) hr) rfl)))
  exact pj_tret (fun hr => pj_if_eq_f hM (pc := 5) 20 dX12_bits_5 rfl h1 (pj_iinc hM (pc := 8) dX12_bits_8 rfl (by decide) (lls' := [(9, 0), (0, (pj_wr (x1 + 1))), (0, x2)]) rfl (pj_iload_n hM (pc := 11) dX12_bits_11 rfl (pj_iload_n hM (pc := 12) dX12_bits_12 rfl (pj_iconst hM (pc := 13) dX12_bits_13 (by decide) (pj_isub hM (pc := 14) dX12_bits_14 (pj_iand hM (pc := 15) dX12_bits_15 (pj_istore_n hM (pc := 16) dX12_bits_16 (by decide) (lls' := [(9, 0), (0, (pj_wr (x1 + 1))), (0, (pj_and x2 (pj_wr (x2 - 1))))]) rfl (pj_goto hM (pc := 17) dX12_bits_17 rfl (pj_kill hM [false, true, true] (lls' := [(9, 0), (0, (pj_wr (x1 + 1))), (0, (pj_and x2 (pj_wr (x2 - 1))))]) rfl ((hk4 _ hr))))))))))))
theorem tM_bits_4 {Go : pj_C → Prop} (hM : pj_M l yX12_bits cX12_bits 3 (some .int) 0 0 ph g n0 o Go)  (w : pj_W)  (R : Int → Prop) (h0 : ∀ r, R (r) → ((some (0, r) : Option pj_V), w) = o) (s : (Int × Int)) : pj_TG R (fM_bits_4  w s) (Go (4, [(9, 0), (0, s.1), (0, s.2)], [], w)) := by
  unfold fM_bits_4
  exact pj_tLp (G := fun s : (Int × Int) => Go (4, [(9, 0), (0, s.1), (0, s.2)], [], w)) (fun s => tM_bits_4b hM  w s.1 s.2  _ (fun r h => h0 r h)  (fun s h => h)) s
theorem tM_bits {Go : pj_C → Prop} (hM : pj_M l yX12_bits cX12_bits 3 (some .int) 0 0 ph g n0 o Go) (x0 : Int) (w : pj_W)  (R : Int → Prop) (h0 : ∀ r, R (r) → ((some (0, r) : Option pj_V), w) = o) : pj_TG R (fM_bits x0 w) (Go (0, [(0, x0), (9, 0), (9, 0)], [], w)) := by
  unfold fM_bits
  refine pj_map (fun k => pj_iconst hM (pc := 0) dX12_bits_0 (by decide) (pj_istore_n hM (pc := 1) dX12_bits_1 (by decide) (lls' := [(0, x0), (0, 0), (9, 0)]) rfl (pj_iload_n hM (pc := 2) dX12_bits_2 rfl (pj_istore_n hM (pc := 3) dX12_bits_3 (by decide) (lls' := [(0, x0), (0, 0), (0, x0)]) rfl (pj_kill hM [false, true, true] (lls' := [(9, 0), (0, 0), (0, x0)]) rfl k))))) ?_
  exact tM_bits_4 hM w _ h0 _
theorem cM_bits (x0 : Int)  (w : pj_W) (r : Int) (h : fM_bits x0 w = some r) : pj_Cn l yX12_bits cX12_bits 3 (some .int) 0 0 ph g [(0, x0)] w ((some (0, r) : Option pj_V), w) :=
  pj_Cn_of rfl (Nat.le_of_ble_eq_true rfl) (lls := [(0, x0), (9, 0), (9, 0)]) rfl (fun Go hM => tM_bits hM x0 w (fun x => ((some (0, x) : Option pj_V), w) = ((some (0, r) : Option pj_V), w)) (fun r h => h) r h rfl)
noncomputable def fM_gives (x1 : Int) (w : pj_W) : Option (Int × pj_W) :=
  some ((x1, (pj_set w 26 0 2 0)))
theorem tM_gives {Go : pj_C → Prop} (hM : pj_M l yX12_gives cX12_gives 2 (some .int) 0 0 ph g n0 o Go) (x1 : Int) (w : pj_W)  (R : Int × pj_W → Prop) (h0 : ∀ r, R (r) → ((some (0, r.1) : Option pj_V), r.2) = o) : pj_TG R (fM_gives x1 w) (Go (0, [(26, 0), (0, x1)], [], w)) := by
  unfold fM_gives
  exact pj_tret (fun hr => pj_aload_n hM (pc := 0) dX12_gives_0 rfl rfl (pj_iconst hM (pc := 1) dX12_gives_1 (by decide) (pj_pf hM (pc := 2) dX12_gives_2 fl_X12_72 (by decide) rfl (fun h => absurd h (by decide)) (by decide) (fun _ => rfl) 2 rfl (pj_iload_n hM (pc := 5) dX12_gives_5 rfl (pj_ret hM (pc := 6) dX12_gives_6 ⟨_, rfl⟩ (h0 ((x1, (pj_set w 26 0 2 0))) hr) rfl)))))
theorem cM_gives (x1 : Int)  (w : pj_W) (r : Int × pj_W) (h : fM_gives x1 w = some r) : pj_Cn l yX12_gives cX12_gives 2 (some .int) 0 0 ph g [(26, 0), (0, x1)] w ((some (0, r.1) : Option pj_V), r.2) :=
  pj_Cn_of rfl (Nat.le_of_ble_eq_true rfl) (lls := [(26, 0), (0, x1)]) rfl (fun Go hM => tM_gives hM x1 w (fun x => ((some (0, x.1) : Option pj_V), x.2) = ((some (0, r.1) : Option pj_V), r.2)) (fun r h => h) r h rfl)
noncomputable def fM_findRow (x0 : Int) (x1 : Int) (w : pj_W) : Option (Int) :=
  some ((pj_wr ((pj_wr (x0 + 40)) + (pj_wr (3 * x1)))))
theorem tM_findRow {Go : pj_C → Prop} (hM : pj_M l yX12_findRow cX12_findRow 2 (some .int) 0 0 ph g n0 o Go) (x0 : Int) (x1 : Int) (w : pj_W)  (R : Int → Prop) (h0 : ∀ r, R (r) → ((some (0, r) : Option pj_V), w) = o) : pj_TG R (fM_findRow x0 x1 w) (Go (0, [(0, x0), (0, x1)], [], w)) := by
  unfold fM_findRow
  exact pj_tret (fun hr => pj_iload_n hM (pc := 0) dX12_findRow_0 rfl (pj_bipush hM (pc := 1) dX12_findRow_1 (by decide) (pj_iadd hM (pc := 3) dX12_findRow_3 (pj_iconst hM (pc := 4) dX12_findRow_4 (by decide) (pj_iload_n hM (pc := 5) dX12_findRow_5 rfl (pj_imul hM (pc := 6) dX12_findRow_6 (pj_iadd hM (pc := 7) dX12_findRow_7 (pj_ret hM (pc := 8) dX12_findRow_8 ⟨_, rfl⟩ (h0 ((pj_wr ((pj_wr (x0 + 40)) + (pj_wr (3 * x1))))) hr) rfl))))))))
theorem cM_findRow (x0 : Int) (x1 : Int)  (w : pj_W) (r : Int) (h : fM_findRow x0 x1 w = some r) : pj_Cn l yX12_findRow cX12_findRow 2 (some .int) 0 0 ph g [(0, x0), (0, x1)] w ((some (0, r) : Option pj_V), w) :=
  pj_Cn_of rfl (Nat.le_of_ble_eq_true rfl) (lls := [(0, x0), (0, x1)]) rfl (fun Go hM => tM_findRow hM x0 x1 w (fun x => ((some (0, x) : Option pj_V), w) = ((some (0, r) : Option pj_V), w)) (fun r h => h) r h rfl)
noncomputable def fM_manyOn (x1 : Int) (w : pj_W) : Option (Int) :=
  (fM_findRow 0 x1 w).bind fun p1 => (if 0 ≤ (pj_wr (p1 + 2)) ∧ (pj_wr (p1 + 2)) < 8400 then (some ((w 60 0 (pj_wr (p1 + 2))))) else none)
theorem tM_manyOn {Go : pj_C → Prop} (hM : pj_M l yX12_manyOn cX12_manyOn 2 (some .int) 1 21 true g n0 o Go) (x1 : Int) (w : pj_W)  (R : Int → Prop) (h0 : ∀ r, R (r) → ((some (0, r) : Option pj_V), w) = o) : pj_TG R (fM_manyOn x1 w) (Go (0, [(26, 0), (0, x1)], [], w)) := by
  unfold fM_manyOn
  refine pj_tbind (fun p1 h2 => ?_)
  refine pj_tgd (fun h3 => ?_)
  exact pj_tret (fun hr => pj_aload_n hM (pc := 0) dX12_manyOn_0 rfl rfl (pj_getF hM (pc := 1) (t := 60) dX12_manyOn_1 fl_X12_7 (by decide) rfl rfl (pj_iconst hM (pc := 4) dX12_manyOn_4 (by decide) (pj_iload_n hM (pc := 5) dX12_manyOn_5 rfl (pj_cS hM (pc := 6) (cM_findRow 0 x1 w p1 h2) dX12_manyOn_6 mf_X12_findRow ms_X12_findRow ml_X12_171 rfl rfl rfl rfl (pj_iconst hM (pc := 9) dX12_manyOn_9 (by decide) (pj_iadd hM (pc := 10) dX12_manyOn_10 (pj_ial hM (pc := 11) dX12_manyOn_11 ki_60 (by decide) h3 (pj_ret hM (pc := 12) dX12_manyOn_12 ⟨_, rfl⟩ (h0 ((w 60 0 (pj_wr (p1 + 2)))) hr) rfl)))))))))
theorem cM_manyOn (x1 : Int)  (w : pj_W) (r : Int) (h : fM_manyOn x1 w = some r) : pj_Cn l yX12_manyOn cX12_manyOn 2 (some .int) 1 21 true g [(26, 0), (0, x1)] w ((some (0, r) : Option pj_V), w) :=
  pj_Cn_of rfl (Nat.le_of_ble_eq_true rfl) (lls := [(26, 0), (0, x1)]) rfl (fun Go hM => tM_manyOn hM x1 w (fun x => ((some (0, x) : Option pj_V), w) = ((some (0, r) : Option pj_V), w)) (fun r h => h) r h rfl)
noncomputable def fM_pebbleRow (x0 : Int) (x1 : Int) (x2 : Int) (w : pj_W) : Option (Int) :=
  some ((pj_wr ((pj_wr ((pj_wr (x0 + 64)) + (pj_wr (120 * x1)))) + (pj_wr (2 * x2)))))
theorem tM_pebbleRow {Go : pj_C → Prop} (hM : pj_M l yX12_pebbleRow cX12_pebbleRow 3 (some .int) 0 0 ph g n0 o Go) (x0 : Int) (x1 : Int) (x2 : Int) (w : pj_W)  (R : Int → Prop) (h0 : ∀ r, R (r) → ((some (0, r) : Option pj_V), w) = o) : pj_TG R (fM_pebbleRow x0 x1 x2 w) (Go (0, [(0, x0), (0, x1), (0, x2)], [], w)) := by
  unfold fM_pebbleRow
  exact pj_tret (fun hr => pj_iload_n hM (pc := 0) dX12_pebbleRow_0 rfl (pj_bipush hM (pc := 1) dX12_pebbleRow_1 (by decide) (pj_iadd hM (pc := 3) dX12_pebbleRow_3 (pj_bipush hM (pc := 4) dX12_pebbleRow_4 (by decide) (pj_iload_n hM (pc := 6) dX12_pebbleRow_6 rfl (pj_imul hM (pc := 7) dX12_pebbleRow_7 (pj_iadd hM (pc := 8) dX12_pebbleRow_8 (pj_iconst hM (pc := 9) dX12_pebbleRow_9 (by decide) (pj_iload_n hM (pc := 10) dX12_pebbleRow_10 rfl (pj_imul hM (pc := 11) dX12_pebbleRow_11 (pj_iadd hM (pc := 12) dX12_pebbleRow_12 (pj_ret hM (pc := 13) dX12_pebbleRow_13 ⟨_, rfl⟩ (h0 ((pj_wr ((pj_wr ((pj_wr (x0 + 64)) + (pj_wr (120 * x1)))) + (pj_wr (2 * x2))))) hr) rfl))))))))))))
theorem cM_pebbleRow (x0 : Int) (x1 : Int) (x2 : Int)  (w : pj_W) (r : Int) (h : fM_pebbleRow x0 x1 x2 w = some r) : pj_Cn l yX12_pebbleRow cX12_pebbleRow 3 (some .int) 0 0 ph g [(0, x0), (0, x1), (0, x2)] w ((some (0, r) : Option pj_V), w) :=
  pj_Cn_of rfl (Nat.le_of_ble_eq_true rfl) (lls := [(0, x0), (0, x1), (0, x2)]) rfl (fun Go hM => tM_pebbleRow hM x0 x1 x2 w (fun x => ((some (0, x) : Option pj_V), w) = ((some (0, r) : Option pj_V), w)) (fun r h => h) r h rfl)
noncomputable def fM_whoAt (x1 : Int) (x2 : Int) (w : pj_W) : Option (Int) :=
  (fM_pebbleRow 0 x1 x2 w).bind fun p1 => (if 0 ≤ p1 ∧ p1 < 8400 then (some ((w 60 0 p1))) else none)
theorem tM_whoAt {Go : pj_C → Prop} (hM : pj_M l yX12_whoAt cX12_whoAt 3 (some .int) 1 22 true g n0 o Go) (x1 : Int) (x2 : Int) (w : pj_W)  (R : Int → Prop) (h0 : ∀ r, R (r) → ((some (0, r) : Option pj_V), w) = o) : pj_TG R (fM_whoAt x1 x2 w) (Go (0, [(26, 0), (0, x1), (0, x2)], [], w)) := by
  unfold fM_whoAt
  refine pj_tbind (fun p1 h2 => ?_)
  refine pj_tgd (fun h3 => ?_)
  exact pj_tret (fun hr => pj_aload_n hM (pc := 0) dX12_whoAt_0 rfl rfl (pj_getF hM (pc := 1) (t := 60) dX12_whoAt_1 fl_X12_7 (by decide) rfl rfl (pj_iconst hM (pc := 4) dX12_whoAt_4 (by decide) (pj_iload_n hM (pc := 5) dX12_whoAt_5 rfl (pj_iload_n hM (pc := 6) dX12_whoAt_6 rfl (pj_cS hM (pc := 7) (cM_pebbleRow 0 x1 x2 w p1 h2) dX12_whoAt_7 mf_X12_pebbleRow ms_X12_pebbleRow ml_X12_174 rfl rfl rfl rfl (pj_ial hM (pc := 10) dX12_whoAt_10 ki_60 (by decide) h3 (pj_ret hM (pc := 11) dX12_whoAt_11 ⟨_, rfl⟩ (h0 ((w 60 0 p1)) hr) rfl))))))))
theorem cM_whoAt (x1 : Int) (x2 : Int)  (w : pj_W) (r : Int) (h : fM_whoAt x1 x2 w = some r) : pj_Cn l yX12_whoAt cX12_whoAt 3 (some .int) 1 22 true g [(26, 0), (0, x1), (0, x2)] w ((some (0, r) : Option pj_V), w) :=
  pj_Cn_of rfl (Nat.le_of_ble_eq_true rfl) (lls := [(26, 0), (0, x1), (0, x2)]) rfl (fun Go hM => tM_whoAt hM x1 x2 w (fun x => ((some (0, x) : Option pj_V), w) = ((some (0, r) : Option pj_V), w)) (fun r h => h) r h rfl)
noncomputable def fM_alone_63 (x2 : Int) (s0 : Int) (s1 : Int) (w : pj_W) : Option ((Int × Int) ⊕ (Int × pj_W)) :=
  some (Sum.inl ((pj_or s0 s1), (pj_wr (x2 + 1))))
noncomputable def fM_alone_19b (x1 : Int) (x2 : Int) (w : pj_W) (x3 : Int) (x4 : Int) : Option ((Int × Int) ⊕ ((Int × Int) ⊕ (Int × pj_W))) :=
  (fM_manyOn x2 w).bind fun p1 => (if p1 ≤ x4 then ((fM_bits x3 w).bind fun p4 => ((fM_alone_63 x2 x1 (if p4 = 1 then (pj_shl 1 x2) else 0) w).map Sum.inr)) else ((fM_whoAt x2 x4 w).bind fun p7 => (some (Sum.inl ((pj_or x3 (pj_shl 1 p7)), (pj_wr (x4 + 1)))))))
noncomputable def fM_alone_19 (x1 : Int) (x2 : Int) (w : pj_W) (s : (Int × Int)) : Option ((Int × Int) ⊕ (Int × pj_W)) := pj_Lp (fun s : (Int × Int) => fM_alone_19b x1 x2 w s.1 s.2) s
noncomputable def fM_alone_4b  (w : pj_W) (x1 : Int) (x2 : Int) : Option ((Int × Int) ⊕ (Int × pj_W)) :=
  if (w 60 0 2) ≤ x2 then ((fM_gives x1 w).bind fun p2 => (some (Sum.inr ((p2.1, p2.2))))) else (fM_alone_19 x1 x2 w (0, 0))
noncomputable def fM_alone_4  (w : pj_W) (s : (Int × Int)) : Option (Int × pj_W) := pj_Lp (fun s : (Int × Int) => fM_alone_4b  w s.1 s.2) s
noncomputable def fM_alone  (w : pj_W) : Option (Int × pj_W) :=
  fM_alone_4 w (0, 0)
theorem tM_alone_63 {Go : pj_C → Prop} (hM : pj_M l yX12_alone cX12_alone 5 (some .int) 2 44 true g n0 o Go) (x2 : Int) (s0 : Int) (s1 : Int) (w : pj_W)  (R : (Int × Int) ⊕ (Int × pj_W) → Prop) (h0 : ∀ r, R (Sum.inr (r)) → ((some (0, r.1) : Option pj_V), r.2) = o) (hk4 : ∀ s, R (Sum.inl s) → Go (4, [(26, 0), (0, s.1), (0, s.2), (9, 0), (9, 0)], [], w)) : pj_TG R (fM_alone_63 x2 s0 s1 w) (Go (63, [(26, 0), (9, 0), (0, x2), (9, 0), (9, 0)], [(0, s1), (0, s0)], w)) := by
  unfold fM_alone_63
  exact pj_tret (fun hr => pj_ior hM (pc := 63) dX12_alone_63 (pj_istore_n hM (pc := 64) dX12_alone_64 (by decide) (lls' := [(26, 0), (0, (pj_or s0 s1)), (0, x2), (9, 0), (9, 0)]) rfl (pj_iinc hM (pc := 65) dX12_alone_65 rfl (by decide) (lls' := [(26, 0), (0, (pj_or s0 s1)), (0, (pj_wr (x2 + 1))), (9, 0), (9, 0)]) rfl (pj_goto hM (pc := 68) dX12_alone_68 rfl (pj_kill hM [true, true, true, false, false] (lls' := [(26, 0), (0, (pj_or s0 s1)), (0, (pj_wr (x2 + 1))), (9, 0), (9, 0)]) rfl ((hk4 _ hr)))))))
theorem tM_alone_19b {Go : pj_C → Prop} (hM : pj_M l yX12_alone cX12_alone 5 (some .int) 2 44 true g n0 o Go) (x1 : Int) (x2 : Int) (w : pj_W) (x3 : Int) (x4 : Int)  (R : (Int × Int) ⊕ ((Int × Int) ⊕ (Int × pj_W)) → Prop) (h0 : ∀ r, R (Sum.inr (Sum.inr (r))) → ((some (0, r.1) : Option pj_V), r.2) = o) (hk4 : ∀ s, R (Sum.inr (Sum.inl s)) → Go (4, [(26, 0), (0, s.1), (0, s.2), (9, 0), (9, 0)], [], w)) (hk19 : ∀ s, R (Sum.inl s) → Go (19, [(26, 0), (0, x1), (0, x2), (0, s.1), (0, s.2)], [], w)) : pj_TG R (fM_alone_19b x1 x2 w x3 x4) (Go (19, [(26, 0), (0, x1), (0, x2), (0, x3), (0, x4)], [], w)) := by
  unfold fM_alone_19b
  refine pj_tbind (fun p1 h2 => ?_)
  refine pj_map (fun k => pj_iload hM (pc := 19) dX12_alone_19 rfl (pj_aload_n hM (pc := 21) dX12_alone_21 rfl rfl (pj_iload_n hM (pc := 22) dX12_alone_22 rfl (pj_cV hM (pc := 23) (cM_manyOn x2 w p1 h2) dX12_alone_23 mf_X12_manyOn mv_X12_manyOn ml_X12_277 kc_26 rfl rfl (by decide) rfl rfl k)))) ?_
  refine pj_tif (fun h3 => ?_) (fun h3 => ?_)
  · refine pj_tbind (fun p4 h5 => ?_)
    refine pj_map (fun k => pj_ic_ge_t hM (pc := 26) dX12_alone_26 rfl h3 (pj_iload_n hM (pc := 47) dX12_alone_47 rfl (pj_iload_n hM (pc := 48) dX12_alone_48 rfl (pj_cS hM (pc := 49) (cM_bits x3 w p4 h5) dX12_alone_49 mf_X12_bits ms_X12_bits ml_X12_340 rfl rfl rfl rfl (pj_iconst hM (pc := 52) dX12_alone_52 (by decide) k))))) ?_
    refine pj_tJ (fun v : Int => (fM_alone_63 x2 x1 v w).map Sum.inr) (fun h6 => ?_) (fun h6 => ?_)
    · refine pj_tmap ?_
      refine pj_map (fun k => pj_ic_ne_f hM (pc := 53) 62 dX12_alone_53 rfl (fun q => q h6) (pj_iconst hM (pc := 56) dX12_alone_56 (by decide) (pj_iload_n hM (pc := 57) dX12_alone_57 rfl (pj_ishl hM (pc := 58) dX12_alone_58 (pj_goto hM (pc := 59) dX12_alone_59 rfl (pj_kill hM [true, false, true, false, false] (lls' := [(26, 0), (9, 0), (0, x2), (9, 0), (9, 0)]) rfl k)))))) ?_
      exact tM_alone_63 hM x2 x1 (pj_shl 1 x2) w _ h0 hk4
    refine pj_tmap ?_
    refine pj_map (fun k => pj_ic_ne_t hM (pc := 53) dX12_alone_53 rfl h6 (pj_iconst hM (pc := 62) dX12_alone_62 (by decide) (pj_kill hM [true, false, true, false, false] (lls' := [(26, 0), (9, 0), (0, x2), (9, 0), (9, 0)]) rfl k))) ?_
    exact tM_alone_63 hM x2 x1 0 w _ h0 hk4
  refine pj_tbind (fun p7 h8 => ?_)
  exact pj_tret (fun hr => pj_ic_ge_f hM (pc := 26) 47 dX12_alone_26 rfl h3 (pj_iload_n hM (pc := 29) dX12_alone_29 rfl (pj_iconst hM (pc := 30) dX12_alone_30 (by decide) (pj_aload_n hM (pc := 31) dX12_alone_31 rfl rfl (pj_iload_n hM (pc := 32) dX12_alone_32 rfl (pj_iload hM (pc := 33) dX12_alone_33 rfl (pj_cV hM (pc := 35) (cM_whoAt x2 x4 w p7 h8) dX12_alone_35 mf_X12_whoAt mv_X12_whoAt ml_X12_308 kc_26 rfl rfl (by decide) rfl rfl (pj_ishl hM (pc := 38) dX12_alone_38 (pj_ior hM (pc := 39) dX12_alone_39 (pj_istore_n hM (pc := 40) dX12_alone_40 (by decide) (lls' := [(26, 0), (0, x1), (0, x2), (0, (pj_or x3 (pj_shl 1 p7))), (0, x4)]) rfl (pj_iinc hM (pc := 41) dX12_alone_41 rfl (by decide) (lls' := [(26, 0), (0, x1), (0, x2), (0, (pj_or x3 (pj_shl 1 p7))), (0, (pj_wr (x4 + 1)))]) rfl (pj_goto hM (pc := 44) dX12_alone_44 rfl (pj_kill hM [true, true, true, true, true] (lls' := [(26, 0), (0, x1), (0, x2), (0, (pj_or x3 (pj_shl 1 p7))), (0, (pj_wr (x4 + 1)))]) rfl ((hk19 _ hr)))))))))))))))
theorem tM_alone_19 {Go : pj_C → Prop} (hM : pj_M l yX12_alone cX12_alone 5 (some .int) 2 44 true g n0 o Go) (x1 : Int) (x2 : Int) (w : pj_W)  (R : (Int × Int) ⊕ (Int × pj_W) → Prop) (h0 : ∀ r, R (Sum.inr (r)) → ((some (0, r.1) : Option pj_V), r.2) = o) (hk4 : ∀ s, R (Sum.inl s) → Go (4, [(26, 0), (0, s.1), (0, s.2), (9, 0), (9, 0)], [], w)) (s : (Int × Int)) : pj_TG R (fM_alone_19 x1 x2 w s) (Go (19, [(26, 0), (0, x1), (0, x2), (0, s.1), (0, s.2)], [], w)) := by
  unfold fM_alone_19
  exact pj_tLp (G := fun s : (Int × Int) => Go (19, [(26, 0), (0, x1), (0, x2), (0, s.1), (0, s.2)], [], w)) (fun s => tM_alone_19b hM x1 x2 w s.1 s.2  _ (fun r h => h0 r h) (fun s h => hk4 s h) (fun s h => h)) s
theorem tM_alone_4b {Go : pj_C → Prop} (hM : pj_M l yX12_alone cX12_alone 5 (some .int) 2 44 true g n0 o Go)  (w : pj_W) (x1 : Int) (x2 : Int)  (R : (Int × Int) ⊕ (Int × pj_W) → Prop) (h0 : ∀ r, R (Sum.inr (r)) → ((some (0, r.1) : Option pj_V), r.2) = o) (hk4 : ∀ s, R (Sum.inl s) → Go (4, [(26, 0), (0, s.1), (0, s.2), (9, 0), (9, 0)], [], w)) : pj_TG R (fM_alone_4b  w x1 x2) (Go (4, [(26, 0), (0, x1), (0, x2), (9, 0), (9, 0)], [], w)) := by
  unfold fM_alone_4b
  refine pj_map (fun k => pj_iload_n hM (pc := 4) dX12_alone_4 rfl (pj_aload_n hM (pc := 5) dX12_alone_5 rfl rfl (pj_getF hM (pc := 6) (t := 60) dX12_alone_6 fl_X12_7 (by decide) rfl rfl (pj_iconst hM (pc := 9) dX12_alone_9 (by decide) (pj_ial hM (pc := 10) dX12_alone_10 ki_60 (by decide) (by decide) k))))) ?_
  refine pj_tif (fun h1 => ?_) (fun h1 => ?_)
  · refine pj_tbind (fun p2 h3 => ?_)
    exact pj_tret (fun hr => pj_ic_ge_t hM (pc := 11) dX12_alone_11 rfl h1 (pj_aload_n hM (pc := 71) dX12_alone_71 rfl rfl (pj_iload_n hM (pc := 72) dX12_alone_72 rfl (pj_cV hM (pc := 73) (cM_gives x1 w p2 h3) dX12_alone_73 mf_X12_gives mv_X12_gives ml_X12_82 kc_26 rfl rfl (by decide) rfl rfl (pj_ret hM (pc := 76) dX12_alone_76 ⟨_, rfl⟩ (h0 ((p2.1, p2.2)) hr) rfl)))))
  refine pj_map (fun k => pj_ic_ge_f hM (pc := 11) 71 dX12_alone_11 rfl h1 (pj_iconst hM (pc := 14) dX12_alone_14 (by decide) (pj_istore_n hM (pc := 15) dX12_alone_15 (by decide) (lls' := [(26, 0), (0, x1), (0, x2), (0, 0), (9, 0)]) rfl (pj_iconst hM (pc := 16) dX12_alone_16 (by decide) (pj_istore hM (pc := 17) dX12_alone_17 (by decide) (lls' := [(26, 0), (0, x1), (0, x2), (0, 0), (0, 0)]) rfl (pj_kill hM [true, true, true, true, true] (lls' := [(26, 0), (0, x1), (0, x2), (0, 0), (0, 0)]) rfl k)))))) ?_
  exact tM_alone_19 hM x1 x2 w _ h0 hk4 _
theorem tM_alone_4 {Go : pj_C → Prop} (hM : pj_M l yX12_alone cX12_alone 5 (some .int) 2 44 true g n0 o Go)  (w : pj_W)  (R : Int × pj_W → Prop) (h0 : ∀ r, R (r) → ((some (0, r.1) : Option pj_V), r.2) = o) (s : (Int × Int)) : pj_TG R (fM_alone_4  w s) (Go (4, [(26, 0), (0, s.1), (0, s.2), (9, 0), (9, 0)], [], w)) := by
  unfold fM_alone_4
  exact pj_tLp (G := fun s : (Int × Int) => Go (4, [(26, 0), (0, s.1), (0, s.2), (9, 0), (9, 0)], [], w)) (fun s => tM_alone_4b hM  w s.1 s.2  _ (fun r h => h0 r h)  (fun s h => h)) s
theorem tM_alone {Go : pj_C → Prop} (hM : pj_M l yX12_alone cX12_alone 5 (some .int) 2 44 true g n0 o Go)  (w : pj_W)  (R : Int × pj_W → Prop) (h0 : ∀ r, R (r) → ((some (0, r.1) : Option pj_V), r.2) = o) : pj_TG R (fM_alone  w) (Go (0, [(26, 0), (9, 0), (9, 0), (9, 0), (9, 0)], [], w)) := by
  unfold fM_alone
  refine pj_map (fun k => pj_iconst hM (pc := 0) dX12_alone_0 (by decide) (pj_istore_n hM (pc := 1) dX12_alone_1 (by decide) (lls' := [(26, 0), (0, 0), (9, 0), (9, 0), (9, 0)]) rfl (pj_iconst hM (pc := 2) dX12_alone_2 (by decide) (pj_istore_n hM (pc := 3) dX12_alone_3 (by decide) (lls' := [(26, 0), (0, 0), (0, 0), (9, 0), (9, 0)]) rfl (pj_kill hM [true, true, true, false, false] (lls' := [(26, 0), (0, 0), (0, 0), (9, 0), (9, 0)]) rfl k))))) ?_
  exact tM_alone_4 hM w _ h0 _
theorem cM_alone   (w : pj_W) (r : Int × pj_W) (h : fM_alone  w = some r) : pj_Cn l yX12_alone cX12_alone 5 (some .int) 2 44 true g [(26, 0)] w ((some (0, r.1) : Option pj_V), r.2) :=
  pj_Cn_of rfl (Nat.le_of_ble_eq_true rfl) (lls := [(26, 0), (9, 0), (9, 0), (9, 0), (9, 0)]) rfl (fun Go hM => tM_alone hM w (fun x => ((some (0, x.1) : Option pj_V), x.2) = ((some (0, r.1) : Option pj_V), r.2)) (fun r h => h) r h rfl)
noncomputable def fM_copies_41b (x1 : Int) (x2 : Int) (x3 : Int) (w : pj_W) : Option ((Int × pj_W) ⊕ (pj_W)) :=
  if 14 ≤ x3 then (some (Sum.inr (w))) else (if 0 ≤ (pj_wr ((pj_wr (14 * x1)) + x3)) ∧ (pj_wr ((pj_wr (14 * x1)) + x3)) < 80 then (if 0 ≤ (pj_wr ((pj_wr (14 * x2)) + x3)) ∧ (pj_wr ((pj_wr (14 * x2)) + x3)) < 80 then ((some (pj_set w 61 0 (pj_wr ((pj_wr (14 * x2)) + x3)) (w 61 0 (pj_wr ((pj_wr (14 * x1)) + x3))))).bind fun w4 => (some (Sum.inl ((pj_wr (x3 + 1)), w4)))) else none) else none)
noncomputable def fM_copies_41 (x1 : Int) (x2 : Int) (s : (Int × pj_W)) : Option (pj_W) := pj_Lp (fun s : (Int × pj_W) => fM_copies_41b x1 x2 s.1 s.2) s
noncomputable def fM_copies_2b (x1 : Int) (x2 : Int) (x3 : Int) (w : pj_W) : Option ((Int × pj_W) ⊕ (pj_W)) :=
  if 1400 ≤ x3 then ((fM_copies_41 x1 x2 (0, w)).map Sum.inr) else (if 0 ≤ (pj_wr ((pj_wr (1400 * x1)) + x3)) ∧ (pj_wr ((pj_wr (1400 * x1)) + x3)) < 8400 then (if 0 ≤ (pj_wr ((pj_wr (1400 * x2)) + x3)) ∧ (pj_wr ((pj_wr (1400 * x2)) + x3)) < 8400 then ((some (pj_set w 60 0 (pj_wr ((pj_wr (1400 * x2)) + x3)) (w 60 0 (pj_wr ((pj_wr (1400 * x1)) + x3))))).bind fun w4 => (some (Sum.inl ((pj_wr (x3 + 1)), w4)))) else none) else none)
noncomputable def fM_copies_2 (x1 : Int) (x2 : Int) (s : (Int × pj_W)) : Option (pj_W) := pj_Lp (fun s : (Int × pj_W) => fM_copies_2b x1 x2 s.1 s.2) s
noncomputable def fM_copies (x1 : Int) (x2 : Int) (w : pj_W) : Option (pj_W) :=
  fM_copies_2 x1 x2 (0, w)
theorem tM_copies_41b {Go : pj_C → Prop} (hM : pj_M l yX12_copies cX12_copies 4 none 0 0 true g n0 o Go) (x1 : Int) (x2 : Int) (x3 : Int) (w : pj_W)  (R : (Int × pj_W) ⊕ (pj_W) → Prop) (h0 : ∀ r, R (Sum.inr (r)) → ((none : Option pj_V), r) = o) (hk41 : ∀ s, R (Sum.inl s) → Go (41, [(26, 0), (0, x1), (0, x2), (0, s.1)], [], s.2)) : pj_TG R (fM_copies_41b x1 x2 x3 w) (Go (41, [(26, 0), (0, x1), (0, x2), (0, x3)], [], w)) := by
  unfold fM_copies_41b
  refine pj_map (fun k => pj_iload_n hM (pc := 41) dX12_copies_41 rfl (pj_bipush hM (pc := 42) dX12_copies_42 (by decide) k)) ?_
  refine pj_tif (fun h1 => ?_) (fun h1 => ?_)
  · exact pj_tret (fun hr => pj_ic_ge_t hM (pc := 44) dX12_copies_44 rfl h1 (pj_ret hM (pc := 75) dX12_copies_75 rfl (h0 (w) hr) rfl))
  refine pj_tgd (fun h2 => ?_)
  refine pj_tgd (fun h3 => ?_)
  refine pj_map (fun k => pj_ic_ge_f hM (pc := 44) 75 dX12_copies_44 rfl h1 (pj_aload_n hM (pc := 47) dX12_copies_47 rfl rfl (pj_getF hM (pc := 48) (t := 61) dX12_copies_48 fl_X12_13 (by decide) rfl rfl (pj_bipush hM (pc := 51) dX12_copies_51 (by decide) (pj_iload_n hM (pc := 53) dX12_copies_53 rfl (pj_imul hM (pc := 54) dX12_copies_54 (pj_iload_n hM (pc := 55) dX12_copies_55 rfl (pj_iadd hM (pc := 56) dX12_copies_56 (pj_aload_n hM (pc := 57) dX12_copies_57 rfl rfl (pj_getF hM (pc := 58) (t := 61) dX12_copies_58 fl_X12_13 (by decide) rfl rfl (pj_bipush hM (pc := 61) dX12_copies_61 (by decide) (pj_iload_n hM (pc := 63) dX12_copies_63 rfl (pj_imul hM (pc := 64) dX12_copies_64 (pj_iload_n hM (pc := 65) dX12_copies_65 rfl (pj_iadd hM (pc := 66) dX12_copies_66 (pj_lal hM (pc := 67) dX12_copies_67 kl_61 (by decide) h2 (pj_las hM (pc := 68) dX12_copies_68 kl_61 (by decide) h3 k))))))))))))))))) ?_
  refine pj_tlet (fun w4 => Go (69, [(26, 0), (0, x1), (0, x2), (0, x3)], [], w4)) (fun w4 => ?_)
  exact pj_tret (fun hr => pj_iinc hM (pc := 69) dX12_copies_69 rfl (by decide) (lls' := [(26, 0), (0, x1), (0, x2), (0, (pj_wr (x3 + 1)))]) rfl (pj_goto hM (pc := 72) dX12_copies_72 rfl (pj_kill hM [true, true, true, true] (lls' := [(26, 0), (0, x1), (0, x2), (0, (pj_wr (x3 + 1)))]) rfl ((hk41 _ hr)))))
theorem tM_copies_41 {Go : pj_C → Prop} (hM : pj_M l yX12_copies cX12_copies 4 none 0 0 true g n0 o Go) (x1 : Int) (x2 : Int)  (R : pj_W → Prop) (h0 : ∀ r, R (r) → ((none : Option pj_V), r) = o) (s : (Int × pj_W)) : pj_TG R (fM_copies_41 x1 x2 s) (Go (41, [(26, 0), (0, x1), (0, x2), (0, s.1)], [], s.2)) := by
  unfold fM_copies_41
  exact pj_tLp (G := fun s : (Int × pj_W) => Go (41, [(26, 0), (0, x1), (0, x2), (0, s.1)], [], s.2)) (fun s => tM_copies_41b hM x1 x2 s.1 s.2  _ (fun r h => h0 r h)  (fun s h => h)) s
theorem tM_copies_2b {Go : pj_C → Prop} (hM : pj_M l yX12_copies cX12_copies 4 none 0 0 true g n0 o Go) (x1 : Int) (x2 : Int) (x3 : Int) (w : pj_W)  (R : (Int × pj_W) ⊕ (pj_W) → Prop) (h0 : ∀ r, R (Sum.inr (r)) → ((none : Option pj_V), r) = o) (hk2 : ∀ s, R (Sum.inl s) → Go (2, [(26, 0), (0, x1), (0, x2), (0, s.1)], [], s.2)) : pj_TG R (fM_copies_2b x1 x2 x3 w) (Go (2, [(26, 0), (0, x1), (0, x2), (0, x3)], [], w)) := by
  unfold fM_copies_2b
  refine pj_map (fun k => pj_iload_n hM (pc := 2) dX12_copies_2 rfl (pj_sipush hM (pc := 3) dX12_copies_3 (by decide) k)) ?_
  refine pj_tif (fun h1 => ?_) (fun h1 => ?_)
  · refine pj_tmap ?_
    refine pj_map (fun k => pj_ic_ge_t hM (pc := 6) dX12_copies_6 rfl h1 (pj_iconst hM (pc := 39) dX12_copies_39 (by decide) (pj_istore_n hM (pc := 40) dX12_copies_40 (by decide) (lls' := [(26, 0), (0, x1), (0, x2), (0, 0)]) rfl (pj_kill hM [true, true, true, true] (lls' := [(26, 0), (0, x1), (0, x2), (0, 0)]) rfl k)))) ?_
    exact tM_copies_41 hM x1 x2 _ h0 _
  refine pj_tgd (fun h2 => ?_)
  refine pj_tgd (fun h3 => ?_)
  refine pj_map (fun k => pj_ic_ge_f hM (pc := 6) 39 dX12_copies_6 rfl h1 (pj_aload_n hM (pc := 9) dX12_copies_9 rfl rfl (pj_getF hM (pc := 10) (t := 60) dX12_copies_10 fl_X12_7 (by decide) rfl rfl (pj_sipush hM (pc := 13) dX12_copies_13 (by decide) (pj_iload_n hM (pc := 16) dX12_copies_16 rfl (pj_imul hM (pc := 17) dX12_copies_17 (pj_iload_n hM (pc := 18) dX12_copies_18 rfl (pj_iadd hM (pc := 19) dX12_copies_19 (pj_aload_n hM (pc := 20) dX12_copies_20 rfl rfl (pj_getF hM (pc := 21) (t := 60) dX12_copies_21 fl_X12_7 (by decide) rfl rfl (pj_sipush hM (pc := 24) dX12_copies_24 (by decide) (pj_iload_n hM (pc := 27) dX12_copies_27 rfl (pj_imul hM (pc := 28) dX12_copies_28 (pj_iload_n hM (pc := 29) dX12_copies_29 rfl (pj_iadd hM (pc := 30) dX12_copies_30 (pj_ial hM (pc := 31) dX12_copies_31 ki_60 (by decide) h2 (pj_ias hM (pc := 32) dX12_copies_32 ki_60 (by decide) h3 k))))))))))))))))) ?_
  refine pj_tlet (fun w4 => Go (33, [(26, 0), (0, x1), (0, x2), (0, x3)], [], w4)) (fun w4 => ?_)
  exact pj_tret (fun hr => pj_iinc hM (pc := 33) dX12_copies_33 rfl (by decide) (lls' := [(26, 0), (0, x1), (0, x2), (0, (pj_wr (x3 + 1)))]) rfl (pj_goto hM (pc := 36) dX12_copies_36 rfl (pj_kill hM [true, true, true, true] (lls' := [(26, 0), (0, x1), (0, x2), (0, (pj_wr (x3 + 1)))]) rfl ((hk2 _ hr)))))
theorem tM_copies_2 {Go : pj_C → Prop} (hM : pj_M l yX12_copies cX12_copies 4 none 0 0 true g n0 o Go) (x1 : Int) (x2 : Int)  (R : pj_W → Prop) (h0 : ∀ r, R (r) → ((none : Option pj_V), r) = o) (s : (Int × pj_W)) : pj_TG R (fM_copies_2 x1 x2 s) (Go (2, [(26, 0), (0, x1), (0, x2), (0, s.1)], [], s.2)) := by
  unfold fM_copies_2
  exact pj_tLp (G := fun s : (Int × pj_W) => Go (2, [(26, 0), (0, x1), (0, x2), (0, s.1)], [], s.2)) (fun s => tM_copies_2b hM x1 x2 s.1 s.2  _ (fun r h => h0 r h)  (fun s h => h)) s
theorem tM_copies {Go : pj_C → Prop} (hM : pj_M l yX12_copies cX12_copies 4 none 0 0 true g n0 o Go) (x1 : Int) (x2 : Int) (w : pj_W)  (R : pj_W → Prop) (h0 : ∀ r, R (r) → ((none : Option pj_V), r) = o) : pj_TG R (fM_copies x1 x2 w) (Go (0, [(26, 0), (0, x1), (0, x2), (9, 0)], [], w)) := by
  unfold fM_copies
  refine pj_map (fun k => pj_iconst hM (pc := 0) dX12_copies_0 (by decide) (pj_istore_n hM (pc := 1) dX12_copies_1 (by decide) (lls' := [(26, 0), (0, x1), (0, x2), (0, 0)]) rfl (pj_kill hM [true, true, true, true] (lls' := [(26, 0), (0, x1), (0, x2), (0, 0)]) rfl k))) ?_
  exact tM_copies_2 hM x1 x2 _ h0 _
theorem cM_copies (x1 : Int) (x2 : Int)  (w : pj_W) (r : pj_W) (h : fM_copies x1 x2 w = some r) : pj_Cn l yX12_copies cX12_copies 4 none 0 0 true g [(26, 0), (0, x1), (0, x2)] w ((none : Option pj_V), r) :=
  pj_Cn_of rfl (Nat.le_of_ble_eq_true rfl) (lls := [(26, 0), (0, x1), (0, x2), (9, 0)]) rfl (fun Go hM => tM_copies hM x1 x2 w (fun x => ((none : Option pj_V), x) = ((none : Option pj_V), r)) (fun r h => h) r h rfl)
noncomputable def fM_refuse (x1 : Int) (w : pj_W) : Option (Int × pj_W) :=
  some (((-1), (pj_set w 26 0 2 x1)))
theorem tM_refuse {Go : pj_C → Prop} (hM : pj_M l yX12_refuse cX12_refuse 2 (some .int) 0 0 ph g n0 o Go) (x1 : Int) (w : pj_W)  (R : Int × pj_W → Prop) (h0 : ∀ r, R (r) → ((some (0, r.1) : Option pj_V), r.2) = o) : pj_TG R (fM_refuse x1 w) (Go (0, [(26, 0), (0, x1)], [], w)) := by
  unfold fM_refuse
  exact pj_tret (fun hr => pj_aload_n hM (pc := 0) dX12_refuse_0 rfl rfl (pj_iload_n hM (pc := 1) dX12_refuse_1 rfl (pj_pf hM (pc := 2) dX12_refuse_2 fl_X12_72 (by decide) rfl (fun h => absurd h (by decide)) (by decide) (fun _ => rfl) 2 rfl (pj_iconst hM (pc := 5) dX12_refuse_5 (by decide) (pj_ret hM (pc := 6) dX12_refuse_6 ⟨_, rfl⟩ (h0 (((-1), (pj_set w 26 0 2 x1))) hr) rfl)))))
theorem cM_refuse (x1 : Int)  (w : pj_W) (r : Int × pj_W) (h : fM_refuse x1 w = some r) : pj_Cn l yX12_refuse cX12_refuse 2 (some .int) 0 0 ph g [(26, 0), (0, x1)] w ((some (0, r.1) : Option pj_V), r.2) :=
  pj_Cn_of rfl (Nat.le_of_ble_eq_true rfl) (lls := [(26, 0), (0, x1)]) rfl (fun Go hM => tM_refuse hM x1 w (fun x => ((some (0, x.1) : Option pj_V), x.2) = ((some (0, r.1) : Option pj_V), r.2)) (fun r h => h) r h rfl)
noncomputable def fM_back  (w : pj_W) : Option (Int × pj_W) :=
  if (w 26 0 37) = 0 then ((fM_refuse 6 w).bind fun p2 => (some ((p2.1, p2.2)))) else ((fM_copies (w 26 0 37) 0 w).bind fun p4 => ((fM_gives ((pj_set p4 26 0 37 (pj_wr ((p4 26 0 37) - 1))) 26 0 37) (pj_set p4 26 0 37 (pj_wr ((p4 26 0 37) - 1)))).bind fun p6 => (some ((p6.1, p6.2)))))
theorem tM_back {Go : pj_C → Prop} (hM : pj_M l yX12_back cX12_back 1 (some .int) 1 23 true g n0 o Go)  (w : pj_W)  (R : Int × pj_W → Prop) (h0 : ∀ r, R (r) → ((some (0, r.1) : Option pj_V), r.2) = o) : pj_TG R (fM_back  w) (Go (0, [(26, 0)], [], w)) := by
  unfold fM_back
  refine pj_map (fun k => pj_aload_n hM (pc := 0) dX12_back_0 rfl rfl (pj_gf hM (pc := 1) (t := 0) dX12_back_1 fl_X12_451 (by decide) rfl 37 rfl k)) ?_
  refine pj_tif (fun h1 => ?_) (fun h1 => ?_)
  · refine pj_tbind (fun p2 h3 => ?_)
    exact pj_tret (fun hr => pj_if_ne_f hM (pc := 4) 14 dX12_back_4 rfl (fun q => q h1) (pj_aload_n hM (pc := 7) dX12_back_7 rfl rfl (pj_bipush hM (pc := 8) dX12_back_8 (by decide) (pj_cV hM (pc := 10) (cM_refuse 6 w p2 h3) dX12_back_10 mf_X12_refuse mv_X12_refuse ml_X12_78 kc_26 rfl rfl (by decide) rfl rfl (pj_ret hM (pc := 13) dX12_back_13 ⟨_, rfl⟩ (h0 ((p2.1, p2.2)) hr) rfl)))))
  refine pj_tbind (fun p4 h5 => ?_)
  refine pj_tbind (fun p6 h7 => ?_)
  exact pj_tret (fun hr => pj_if_ne_t hM (pc := 4) dX12_back_4 rfl h1 (pj_aload_n hM (pc := 14) dX12_back_14 rfl rfl (pj_aload_n hM (pc := 15) dX12_back_15 rfl rfl (pj_gf hM (pc := 16) (t := 0) dX12_back_16 fl_X12_451 (by decide) rfl 37 rfl (pj_iconst hM (pc := 19) dX12_back_19 (by decide) (pj_cVv hM (pc := 20) (cM_copies (w 26 0 37) 0 w p4 h5) dX12_back_20 mf_X12_copies mv_X12_copies ml_X12_454 kc_26 rfl rfl (by decide) rfl rfl (pj_aload_n hM (pc := 23) dX12_back_23 rfl rfl (pj_dup hM (pc := 24) dX12_back_24 (by decide) (pj_gf hM (pc := 25) (t := 0) dX12_back_25 fl_X12_451 (by decide) rfl 37 rfl (pj_iconst hM (pc := 28) dX12_back_28 (by decide) (pj_isub hM (pc := 29) dX12_back_29 (pj_pf hM (pc := 30) dX12_back_30 fl_X12_451 (by decide) rfl (fun h => absurd h (by decide)) (by decide) (fun _ => rfl) 37 rfl (pj_aload_n hM (pc := 33) dX12_back_33 rfl rfl (pj_aload_n hM (pc := 34) dX12_back_34 rfl rfl (pj_gf hM (pc := 35) (t := 0) dX12_back_35 fl_X12_451 (by decide) rfl 37 rfl (pj_cV hM (pc := 38) (cM_gives ((pj_set p4 26 0 37 (pj_wr ((p4 26 0 37) - 1))) 26 0 37) (pj_set p4 26 0 37 (pj_wr ((p4 26 0 37) - 1))) p6 h7) dX12_back_38 mf_X12_gives mv_X12_gives ml_X12_82 kc_26 rfl rfl (by decide) rfl rfl (pj_ret hM (pc := 41) dX12_back_41 ⟨_, rfl⟩ (h0 ((p6.1, p6.2)) hr) rfl)))))))))))))))))
theorem cM_back   (w : pj_W) (r : Int × pj_W) (h : fM_back  w = some r) : pj_Cn l yX12_back cX12_back 1 (some .int) 1 23 true g [(26, 0)] w ((some (0, r.1) : Option pj_V), r.2) :=
  pj_Cn_of rfl (Nat.le_of_ble_eq_true rfl) (lls := [(26, 0)]) rfl (fun Go hM => tM_back hM w (fun x => ((some (0, x.1) : Option pj_V), x.2) = ((some (0, r.1) : Option pj_V), r.2)) (fun r h => h) r h rfl)
noncomputable def fM_byteAt (x1 : Int) (w : pj_W) : Option (Int) :=
  if (w 26 0 11) ≤ x1 then (some ((-1))) else (if 0 ≤ x1 ∧ x1 < 900 then (some ((pj_and (w 66 0 x1) 255))) else none)
theorem tM_byteAt {Go : pj_C → Prop} (hM : pj_M l yX12_byteAt cX12_byteAt 2 (some .int) 0 0 true g n0 o Go) (x1 : Int) (w : pj_W)  (R : Int → Prop) (h0 : ∀ r, R (r) → ((some (0, r) : Option pj_V), w) = o) : pj_TG R (fM_byteAt x1 w) (Go (0, [(26, 0), (0, x1)], [], w)) := by
  unfold fM_byteAt
  refine pj_map (fun k => pj_iload_n hM (pc := 0) dX12_byteAt_0 rfl (pj_aload_n hM (pc := 1) dX12_byteAt_1 rfl rfl (pj_gf hM (pc := 2) (t := 0) dX12_byteAt_2 fl_X12_108 (by decide) rfl 11 rfl k))) ?_
  refine pj_tif (fun h1 => ?_) (fun h1 => ?_)
  · exact pj_tret (fun hr => pj_ic_ge_t hM (pc := 5) dX12_byteAt_5 rfl h1 (pj_iconst hM (pc := 21) dX12_byteAt_21 (by decide) (pj_ret hM (pc := 22) dX12_byteAt_22 ⟨_, rfl⟩ (h0 ((-1)) hr) rfl)))
  refine pj_tgd (fun h2 => ?_)
  exact pj_tret (fun hr => pj_ic_ge_f hM (pc := 5) 21 dX12_byteAt_5 rfl h1 (pj_aload_n hM (pc := 8) dX12_byteAt_8 rfl rfl (pj_getF hM (pc := 9) (t := 66) dX12_byteAt_9 fl_X12_34 (by decide) rfl rfl (pj_iload_n hM (pc := 12) dX12_byteAt_12 rfl (pj_bal hM (pc := 13) dX12_byteAt_13 kb_66 (by decide) h2 (pj_sipush hM (pc := 14) dX12_byteAt_14 (by decide) (pj_iand hM (pc := 17) dX12_byteAt_17 (pj_goto hM (pc := 18) dX12_byteAt_18 rfl (pj_ret hM (pc := 22) dX12_byteAt_22 ⟨_, rfl⟩ (h0 ((pj_and (w 66 0 x1) 255)) hr) rfl)))))))))
theorem cM_byteAt (x1 : Int)  (w : pj_W) (r : Int) (h : fM_byteAt x1 w = some r) : pj_Cn l yX12_byteAt cX12_byteAt 2 (some .int) 0 0 true g [(26, 0), (0, x1)] w ((some (0, r) : Option pj_V), w) :=
  pj_Cn_of rfl (Nat.le_of_ble_eq_true rfl) (lls := [(26, 0), (0, x1)]) rfl (fun Go hM => tM_byteAt hM x1 w (fun x => ((some (0, x) : Option pj_V), w) = ((some (0, r) : Option pj_V), w)) (fun r h => h) r h rfl)
noncomputable def fM_isDigit (x0 : Int) (w : pj_W) : Option (Int) :=
  if x0 < 48 then (some (0)) else (if 57 < x0 then (some (0)) else (some (1)))
theorem tM_isDigit {Go : pj_C → Prop} (hM : pj_M l yX12_isDigit cX12_isDigit 1 (some .boolean) 0 0 ph g n0 o Go) (x0 : Int) (w : pj_W)  (R : Int → Prop) (h0 : ∀ r, R (r) → ((some (0, r) : Option pj_V), w) = o) : pj_TG R (fM_isDigit x0 w) (Go (0, [(0, x0)], [], w)) := by
  unfold fM_isDigit
  refine pj_map (fun k => pj_iload_n hM (pc := 0) dX12_isDigit_0 rfl (pj_bipush hM (pc := 1) dX12_isDigit_1 (by decide) k)) ?_
  refine pj_tif (fun h1 => ?_) (fun h1 => ?_)
  · exact pj_tret (fun hr => pj_ic_lt_t hM (pc := 3) dX12_isDigit_3 rfl h1 (pj_iconst hM (pc := 16) dX12_isDigit_16 (by decide) (pj_ret hM (pc := 17) dX12_isDigit_17 ⟨_, rfl, Or.inl rfl⟩ (h0 (0) hr) rfl)))
  refine pj_map (fun k => pj_ic_lt_f hM (pc := 3) 16 dX12_isDigit_3 rfl h1 (pj_iload_n hM (pc := 6) dX12_isDigit_6 rfl (pj_bipush hM (pc := 7) dX12_isDigit_7 (by decide) k))) ?_
  refine pj_tif (fun h2 => ?_) (fun h2 => ?_)
  · exact pj_tret (fun hr => pj_ic_gt_t hM (pc := 9) dX12_isDigit_9 rfl h2 (pj_iconst hM (pc := 16) dX12_isDigit_16 (by decide) (pj_ret hM (pc := 17) dX12_isDigit_17 ⟨_, rfl, Or.inl rfl⟩ (h0 (0) hr) rfl)))
  exact pj_tret (fun hr => pj_ic_gt_f hM (pc := 9) 16 dX12_isDigit_9 rfl h2 (pj_iconst hM (pc := 12) dX12_isDigit_12 (by decide) (pj_goto hM (pc := 13) dX12_isDigit_13 rfl (pj_ret hM (pc := 17) dX12_isDigit_17 ⟨_, rfl, Or.inr rfl⟩ (h0 (1) hr) rfl))))
theorem cM_isDigit (x0 : Int)  (w : pj_W) (r : Int) (h : fM_isDigit x0 w = some r) : pj_Cn l yX12_isDigit cX12_isDigit 1 (some .boolean) 0 0 ph g [(0, x0)] w ((some (0, r) : Option pj_V), w) :=
  pj_Cn_of rfl (Nat.le_of_ble_eq_true rfl) (lls := [(0, x0)]) rfl (fun Go hM => tM_isDigit hM x0 w (fun x => ((some (0, x) : Option pj_V), w) = ((some (0, r) : Option pj_V), w)) (fun r h => h) r h rfl)
noncomputable def fM_isSmall (x0 : Int) (w : pj_W) : Option (Int) :=
  if x0 < 97 then (some (0)) else (if 122 < x0 then (some (0)) else (some (1)))
theorem tM_isSmall {Go : pj_C → Prop} (hM : pj_M l yX12_isSmall cX12_isSmall 1 (some .boolean) 0 0 ph g n0 o Go) (x0 : Int) (w : pj_W)  (R : Int → Prop) (h0 : ∀ r, R (r) → ((some (0, r) : Option pj_V), w) = o) : pj_TG R (fM_isSmall x0 w) (Go (0, [(0, x0)], [], w)) := by
  unfold fM_isSmall
  refine pj_map (fun k => pj_iload_n hM (pc := 0) dX12_isSmall_0 rfl (pj_bipush hM (pc := 1) dX12_isSmall_1 (by decide) k)) ?_
  refine pj_tif (fun h1 => ?_) (fun h1 => ?_)
  · exact pj_tret (fun hr => pj_ic_lt_t hM (pc := 3) dX12_isSmall_3 rfl h1 (pj_iconst hM (pc := 16) dX12_isSmall_16 (by decide) (pj_ret hM (pc := 17) dX12_isSmall_17 ⟨_, rfl, Or.inl rfl⟩ (h0 (0) hr) rfl)))
  refine pj_map (fun k => pj_ic_lt_f hM (pc := 3) 16 dX12_isSmall_3 rfl h1 (pj_iload_n hM (pc := 6) dX12_isSmall_6 rfl (pj_bipush hM (pc := 7) dX12_isSmall_7 (by decide) k))) ?_
  refine pj_tif (fun h2 => ?_) (fun h2 => ?_)
  · exact pj_tret (fun hr => pj_ic_gt_t hM (pc := 9) dX12_isSmall_9 rfl h2 (pj_iconst hM (pc := 16) dX12_isSmall_16 (by decide) (pj_ret hM (pc := 17) dX12_isSmall_17 ⟨_, rfl, Or.inl rfl⟩ (h0 (0) hr) rfl)))
  exact pj_tret (fun hr => pj_ic_gt_f hM (pc := 9) 16 dX12_isSmall_9 rfl h2 (pj_iconst hM (pc := 12) dX12_isSmall_12 (by decide) (pj_goto hM (pc := 13) dX12_isSmall_13 rfl (pj_ret hM (pc := 17) dX12_isSmall_17 ⟨_, rfl, Or.inr rfl⟩ (h0 (1) hr) rfl))))
theorem cM_isSmall (x0 : Int)  (w : pj_W) (r : Int) (h : fM_isSmall x0 w = some r) : pj_Cn l yX12_isSmall cX12_isSmall 1 (some .boolean) 0 0 ph g [(0, x0)] w ((some (0, r) : Option pj_V), w) :=
  pj_Cn_of rfl (Nat.le_of_ble_eq_true rfl) (lls := [(0, x0)]) rfl (fun Go hM => tM_isSmall hM x0 w (fun x => ((some (0, x) : Option pj_V), w) = ((some (0, r) : Option pj_V), w)) (fun r h => h) r h rfl)
noncomputable def fM_ahead_81b   (w : pj_W) : Option ((pj_W) ⊕ (pj_W)) :=
  (fM_byteAt (w 26 0 14) w).bind fun p1 => ((fM_isSmall p1 w).bind fun p3 => (if p3 = 0 then (some (Sum.inr ((pj_set w 26 0 12 2)))) else (some (Sum.inl ((pj_set w 26 0 14 (pj_wr ((w 26 0 14) + 1))))))))
noncomputable def fM_ahead_81  (s : (pj_W)) : Option (pj_W) := pj_Lp (fun s : (pj_W) => fM_ahead_81b  s) s
noncomputable def fM_ahead_202 (s1 : Int) (w : pj_W) : Option (pj_W) :=
  some ((pj_set w 26 0 12 s1))
noncomputable def fM_ahead_128b   (w : pj_W) : Option ((pj_W) ⊕ (pj_W)) :=
  (fM_byteAt (w 26 0 14) w).bind fun p1 => ((fM_isDigit p1 w).bind fun p3 => (if p3 = 0 then ((fM_ahead_202 (if (pj_wr ((w 26 0 14) - (w 26 0 13))) ≤ 4 then (3 : Int) else 1) w).map Sum.inr) else ((fM_byteAt (w 26 0 14) w).bind fun p7 => ((some (pj_set (pj_set w 26 0 15 (min 100000 (pj_wr ((pj_wr ((pj_wr (10 * (w 26 0 15))) + p7)) - 48)))) 26 0 14 (pj_wr (((pj_set w 26 0 15 (min 100000 (pj_wr ((pj_wr ((pj_wr (10 * (w 26 0 15))) + p7)) - 48)))) 26 0 14) + 1)))).bind fun w9 => (some (Sum.inl (w9)))))))
noncomputable def fM_ahead_128  (s : (pj_W)) : Option (pj_W) := pj_Lp (fun s : (pj_W) => fM_ahead_128b  s) s
noncomputable def fM_ahead_26  (w : pj_W) : Option ((pj_W) ⊕ (pj_W)) :=
  some (Sum.inl ((pj_set w 26 0 14 (pj_wr ((w 26 0 14) + 1)))))
noncomputable def fM_ahead_248 (s1 : Int) (w : pj_W) : Option (pj_W) :=
  some ((pj_set w 26 0 12 s1))
noncomputable def fM_ahead_243  (w : pj_W) : Option (pj_W) :=
  fM_ahead_248 4 w
noncomputable def fM_ahead_0b   (w : pj_W) : Option ((pj_W) ⊕ (pj_W)) :=
  (fM_byteAt (w 26 0 14) w).bind fun p1 => (if p1 = 32 then (fM_ahead_26 w) else ((fM_byteAt (w 26 0 14) w).bind fun p4 => (if p4 = 10 then (fM_ahead_26 w) else ((fM_byteAt ((pj_set w 26 0 13 (w 26 0 14)) 26 0 14) (pj_set w 26 0 13 (w 26 0 14))).bind fun p7 => (if p7 = (-1) then (some (Sum.inr ((pj_set (pj_set (pj_set w 26 0 13 (w 26 0 14)) 26 0 15 p7) 26 0 12 0)))) else ((fM_isSmall p7 (pj_set (pj_set w 26 0 13 (w 26 0 14)) 26 0 15 p7)).bind fun p10 => (if p10 = 0 then ((fM_isDigit p7 (pj_set (pj_set w 26 0 13 (w 26 0 14)) 26 0 15 p7)).bind fun p13 => (if p13 = 0 then ((some (pj_set (pj_set (pj_set w 26 0 13 (w 26 0 14)) 26 0 15 p7) 26 0 14 (pj_wr (((pj_set (pj_set w 26 0 13 (w 26 0 14)) 26 0 15 p7) 26 0 14) + 1)))).bind fun w16 => (if p7 = 59 then ((fM_ahead_243 w16).map Sum.inr) else (if p7 = 60 then ((fM_ahead_243 w16).map Sum.inr) else (if p7 = 62 then ((fM_ahead_243 w16).map Sum.inr) else (if p7 = 61 then ((fM_ahead_243 w16).map Sum.inr) else ((fM_ahead_248 1 w16).map Sum.inr)))))) else ((fM_ahead_128 ((pj_set (pj_set (pj_set w 26 0 13 (w 26 0 14)) 26 0 15 p7) 26 0 15 0))).map Sum.inr))) else ((fM_ahead_81 ((pj_set (pj_set w 26 0 13 (w 26 0 14)) 26 0 15 p7))).map Sum.inr))))))))
noncomputable def fM_ahead_0  (s : (pj_W)) : Option (pj_W) := pj_Lp (fun s : (pj_W) => fM_ahead_0b  s) s
noncomputable def fM_ahead  (w : pj_W) : Option (pj_W) :=
  fM_ahead_0 (w)
theorem tM_ahead_81b {Go : pj_C → Prop} (hM : pj_M l yX12_ahead cX12_ahead 2 none 1 21 true g n0 o Go)   (w : pj_W)  (R : (pj_W) ⊕ (pj_W) → Prop) (h0 : ∀ r, R (Sum.inr (r)) → ((none : Option pj_V), r) = o) (hk81 : ∀ s, R (Sum.inl s) → Go (81, [(26, 0), (9, 0)], [], s)) : pj_TG R (fM_ahead_81b  w) (Go (81, [(26, 0), (9, 0)], [], w)) := by
  unfold fM_ahead_81b
  refine pj_tbind (fun p1 h2 => ?_)
  refine pj_tbind (fun p3 h4 => ?_)
  refine pj_map (fun k => pj_aload_n hM (pc := 81) dX12_ahead_81 rfl rfl (pj_aload_n hM (pc := 82) dX12_ahead_82 rfl rfl (pj_gf hM (pc := 83) (t := 0) dX12_ahead_83 fl_X12_111 (by decide) rfl 14 rfl (pj_cV hM (pc := 86) (cM_byteAt (w 26 0 14) w p1 h2) dX12_ahead_86 mf_X12_byteAt mv_X12_byteAt ml_X12_114 kc_26 rfl rfl (by decide) rfl rfl (pj_cS hM (pc := 89) (cM_isSmall p1 w p3 h4) dX12_ahead_89 mf_X12_isSmall ms_X12_isSmall ml_X12_126 rfl rfl rfl rfl k))))) ?_
  refine pj_tif (fun h5 => ?_) (fun h5 => ?_)
  · exact pj_tret (fun hr => pj_if_eq_t hM (pc := 92) dX12_ahead_92 rfl h5 (pj_aload_n hM (pc := 108) dX12_ahead_108 rfl rfl (pj_iconst hM (pc := 109) dX12_ahead_109 (by decide) (pj_pf hM (pc := 110) dX12_ahead_110 fl_X12_123 (by decide) rfl (fun h => absurd h (by decide)) (by decide) (fun _ => rfl) 12 rfl (pj_goto hM (pc := 113) dX12_ahead_113 rfl (pj_ret hM (pc := 251) dX12_ahead_251 rfl (h0 ((pj_set w 26 0 12 2)) hr) rfl))))))
  exact pj_tret (fun hr => pj_if_eq_f hM (pc := 92) 108 dX12_ahead_92 rfl h5 (pj_aload_n hM (pc := 95) dX12_ahead_95 rfl rfl (pj_dup hM (pc := 96) dX12_ahead_96 (by decide) (pj_gf hM (pc := 97) (t := 0) dX12_ahead_97 fl_X12_111 (by decide) rfl 14 rfl (pj_iconst hM (pc := 100) dX12_ahead_100 (by decide) (pj_iadd hM (pc := 101) dX12_ahead_101 (pj_pf hM (pc := 102) dX12_ahead_102 fl_X12_111 (by decide) rfl (fun h => absurd h (by decide)) (by decide) (fun _ => rfl) 14 rfl (pj_goto hM (pc := 105) dX12_ahead_105 rfl (pj_kill hM [true, false] (lls' := [(26, 0), (9, 0)]) rfl ((hk81 _ hr)))))))))))
theorem tM_ahead_81 {Go : pj_C → Prop} (hM : pj_M l yX12_ahead cX12_ahead 2 none 1 21 true g n0 o Go)   (R : pj_W → Prop) (h0 : ∀ r, R (r) → ((none : Option pj_V), r) = o) (s : (pj_W)) : pj_TG R (fM_ahead_81  s) (Go (81, [(26, 0), (9, 0)], [], s)) := by
  unfold fM_ahead_81
  exact pj_tLp (G := fun s : (pj_W) => Go (81, [(26, 0), (9, 0)], [], s)) (fun s => tM_ahead_81b hM  s  _ (fun r h => h0 r h)  (fun s h => h)) s
theorem tM_ahead_202 {Go : pj_C → Prop} (hM : pj_M l yX12_ahead cX12_ahead 2 none 1 21 true g n0 o Go) (s1 : Int) (w : pj_W)  (R : pj_W → Prop) (h0 : ∀ r, R (r) → ((none : Option pj_V), r) = o) : pj_TG R (fM_ahead_202 s1 w) (Go (202, [(26, 0), (9, 0)], [(0, s1), (26, 0)], w)) := by
  unfold fM_ahead_202
  exact pj_tret (fun hr => pj_pf hM (pc := 202) dX12_ahead_202 fl_X12_123 (by decide) rfl (fun h => absurd h (by decide)) (by decide) (fun _ => rfl) 12 rfl (pj_goto hM (pc := 205) dX12_ahead_205 rfl (pj_ret hM (pc := 251) dX12_ahead_251 rfl (h0 ((pj_set w 26 0 12 s1)) hr) rfl)))
theorem tM_ahead_128b {Go : pj_C → Prop} (hM : pj_M l yX12_ahead cX12_ahead 2 none 1 21 true g n0 o Go)   (w : pj_W)  (R : (pj_W) ⊕ (pj_W) → Prop) (h0 : ∀ r, R (Sum.inr (r)) → ((none : Option pj_V), r) = o) (hk128 : ∀ s, R (Sum.inl s) → Go (128, [(26, 0), (9, 0)], [], s)) : pj_TG R (fM_ahead_128b  w) (Go (128, [(26, 0), (9, 0)], [], w)) := by
  unfold fM_ahead_128b
  refine pj_tbind (fun p1 h2 => ?_)
  refine pj_tbind (fun p3 h4 => ?_)
  refine pj_map (fun k => pj_aload_n hM (pc := 128) dX12_ahead_128 rfl rfl (pj_aload_n hM (pc := 129) dX12_ahead_129 rfl rfl (pj_gf hM (pc := 130) (t := 0) dX12_ahead_130 fl_X12_111 (by decide) rfl 14 rfl (pj_cV hM (pc := 133) (cM_byteAt (w 26 0 14) w p1 h2) dX12_ahead_133 mf_X12_byteAt mv_X12_byteAt ml_X12_114 kc_26 rfl rfl (by decide) rfl rfl (pj_cS hM (pc := 136) (cM_isDigit p1 w p3 h4) dX12_ahead_136 mf_X12_isDigit ms_X12_isDigit ml_X12_129 rfl rfl rfl rfl k))))) ?_
  refine pj_tif (fun h5 => ?_) (fun h5 => ?_)
  · refine pj_map (fun k => pj_if_eq_t hM (pc := 139) dX12_ahead_139 rfl h5 (pj_aload_n hM (pc := 183) dX12_ahead_183 rfl rfl (pj_aload_n hM (pc := 184) dX12_ahead_184 rfl rfl (pj_gf hM (pc := 185) (t := 0) dX12_ahead_185 fl_X12_111 (by decide) rfl 14 rfl (pj_aload_n hM (pc := 188) dX12_ahead_188 rfl rfl (pj_gf hM (pc := 189) (t := 0) dX12_ahead_189 fl_X12_117 (by decide) rfl 13 rfl (pj_isub hM (pc := 192) dX12_ahead_192 (pj_iconst hM (pc := 193) dX12_ahead_193 (by decide) k)))))))) ?_
    refine pj_tJ (fun v : Int => (fM_ahead_202 v w).map Sum.inr) (fun h6 => ?_) (fun h6 => ?_)
    · refine pj_tmap ?_
      refine pj_map (fun k => pj_ic_le_t hM (pc := 194) dX12_ahead_194 rfl h6 (pj_iconst hM (pc := 201) dX12_ahead_201 (by decide) (pj_kill hM [true, false] (lls' := [(26, 0), (9, 0)]) rfl k))) ?_
      exact tM_ahead_202 hM 3 w _ h0
    refine pj_tmap ?_
    refine pj_map (fun k => pj_ic_le_f hM (pc := 194) 201 dX12_ahead_194 rfl h6 (pj_iconst hM (pc := 197) dX12_ahead_197 (by decide) (pj_goto hM (pc := 198) dX12_ahead_198 rfl (pj_kill hM [true, false] (lls' := [(26, 0), (9, 0)]) rfl k)))) ?_
    exact tM_ahead_202 hM 1 w _ h0
  refine pj_tbind (fun p7 h8 => ?_)
  refine pj_map (fun k => pj_if_eq_f hM (pc := 139) 183 dX12_ahead_139 rfl h5 (pj_aload_n hM (pc := 142) dX12_ahead_142 rfl rfl (pj_ldc hM (pc := 143) (z := 100000) dX12_ahead_143 kn_X12_132 rfl (by decide) (pj_bipush hM (pc := 145) dX12_ahead_145 (by decide) (pj_aload_n hM (pc := 147) dX12_ahead_147 rfl rfl (pj_gf hM (pc := 148) (t := 0) dX12_ahead_148 fl_X12_120 (by decide) rfl 15 rfl (pj_imul hM (pc := 151) dX12_ahead_151 (pj_aload_n hM (pc := 152) dX12_ahead_152 rfl rfl (pj_aload_n hM (pc := 153) dX12_ahead_153 rfl rfl (pj_gf hM (pc := 154) (t := 0) dX12_ahead_154 fl_X12_111 (by decide) rfl 14 rfl (pj_cV hM (pc := 157) (cM_byteAt (w 26 0 14) w p7 h8) dX12_ahead_157 mf_X12_byteAt mv_X12_byteAt ml_X12_114 kc_26 rfl rfl (by decide) rfl rfl (pj_iadd hM (pc := 160) dX12_ahead_160 (pj_bipush hM (pc := 161) dX12_ahead_161 (by decide) (pj_isub hM (pc := 163) dX12_ahead_163 (pj_mmin hM (pc := 164) dX12_ahead_164 mf_J9_min_7cf53 ms_J9_min_7cf53 ml_X12_133 rfl (pj_pf hM (pc := 167) dX12_ahead_167 fl_X12_120 (by decide) rfl (fun h => absurd h (by decide)) (by decide) (fun _ => rfl) 15 rfl (pj_aload_n hM (pc := 170) dX12_ahead_170 rfl rfl (pj_dup hM (pc := 171) dX12_ahead_171 (by decide) (pj_gf hM (pc := 172) (t := 0) dX12_ahead_172 fl_X12_111 (by decide) rfl 14 rfl (pj_iconst hM (pc := 175) dX12_ahead_175 (by decide) (pj_iadd hM (pc := 176) dX12_ahead_176 (pj_pf hM (pc := 177) dX12_ahead_177 fl_X12_111 (by decide) rfl (fun h => absurd h (by decide)) (by decide) (fun _ => rfl) 14 rfl k)))))))))))))))))))))) ?_
  refine pj_tlet (fun w9 => Go (180, [(26, 0), (9, 0)], [], w9)) (fun w9 => ?_)
  exact pj_tret (fun hr => pj_goto hM (pc := 180) dX12_ahead_180 rfl (pj_kill hM [true, false] (lls' := [(26, 0), (9, 0)]) rfl ((hk128 _ hr))))
theorem tM_ahead_128 {Go : pj_C → Prop} (hM : pj_M l yX12_ahead cX12_ahead 2 none 1 21 true g n0 o Go)   (R : pj_W → Prop) (h0 : ∀ r, R (r) → ((none : Option pj_V), r) = o) (s : (pj_W)) : pj_TG R (fM_ahead_128  s) (Go (128, [(26, 0), (9, 0)], [], s)) := by
  unfold fM_ahead_128
  exact pj_tLp (G := fun s : (pj_W) => Go (128, [(26, 0), (9, 0)], [], s)) (fun s => tM_ahead_128b hM  s  _ (fun r h => h0 r h)  (fun s h => h)) s
theorem tM_ahead_26 {Go : pj_C → Prop} (hM : pj_M l yX12_ahead cX12_ahead 2 none 1 21 true g n0 o Go)  (w : pj_W)  (R : (pj_W) ⊕ (pj_W) → Prop) (h0 : ∀ r, R (Sum.inr (r)) → ((none : Option pj_V), r) = o) (hk0 : ∀ s, R (Sum.inl s) → Go (0, [(26, 0), (9, 0)], [], s)) : pj_TG R (fM_ahead_26  w) (Go (26, [(26, 0), (9, 0)], [], w)) := by
  unfold fM_ahead_26
  exact pj_tret (fun hr => pj_aload_n hM (pc := 26) dX12_ahead_26 rfl rfl (pj_dup hM (pc := 27) dX12_ahead_27 (by decide) (pj_gf hM (pc := 28) (t := 0) dX12_ahead_28 fl_X12_111 (by decide) rfl 14 rfl (pj_iconst hM (pc := 31) dX12_ahead_31 (by decide) (pj_iadd hM (pc := 32) dX12_ahead_32 (pj_pf hM (pc := 33) dX12_ahead_33 fl_X12_111 (by decide) rfl (fun h => absurd h (by decide)) (by decide) (fun _ => rfl) 14 rfl (pj_goto hM (pc := 36) dX12_ahead_36 rfl (pj_kill hM [true, false] (lls' := [(26, 0), (9, 0)]) rfl ((hk0 _ hr))))))))))
theorem tM_ahead_248 {Go : pj_C → Prop} (hM : pj_M l yX12_ahead cX12_ahead 2 none 1 21 true g n0 o Go) (s1 : Int) (w : pj_W)  (R : pj_W → Prop) (h0 : ∀ r, R (r) → ((none : Option pj_V), r) = o) : pj_TG R (fM_ahead_248 s1 w) (Go (248, [(26, 0), (9, 0)], [(0, s1), (26, 0)], w)) := by
  unfold fM_ahead_248
  exact pj_tret (fun hr => pj_pf hM (pc := 248) dX12_ahead_248 fl_X12_123 (by decide) rfl (fun h => absurd h (by decide)) (by decide) (fun _ => rfl) 12 rfl (pj_ret hM (pc := 251) dX12_ahead_251 rfl (h0 ((pj_set w 26 0 12 s1)) hr) rfl))
theorem tM_ahead_243 {Go : pj_C → Prop} (hM : pj_M l yX12_ahead cX12_ahead 2 none 1 21 true g n0 o Go)  (w : pj_W)  (R : pj_W → Prop) (h0 : ∀ r, R (r) → ((none : Option pj_V), r) = o) : pj_TG R (fM_ahead_243  w) (Go (243, [(26, 0), (9, 0)], [(26, 0)], w)) := by
  unfold fM_ahead_243
  refine pj_map (fun k => pj_iconst hM (pc := 243) dX12_ahead_243 (by decide) (pj_goto hM (pc := 244) dX12_ahead_244 rfl (pj_kill hM [true, false] (lls' := [(26, 0), (9, 0)]) rfl k))) ?_
  exact tM_ahead_248 hM 4 w _ h0
theorem tM_ahead_0b {Go : pj_C → Prop} (hM : pj_M l yX12_ahead cX12_ahead 2 none 1 21 true g n0 o Go)   (w : pj_W)  (R : (pj_W) ⊕ (pj_W) → Prop) (h0 : ∀ r, R (Sum.inr (r)) → ((none : Option pj_V), r) = o) (hk0 : ∀ s, R (Sum.inl s) → Go (0, [(26, 0), (9, 0)], [], s)) : pj_TG R (fM_ahead_0b  w) (Go (0, [(26, 0), (9, 0)], [], w)) := by
  unfold fM_ahead_0b
  refine pj_tbind (fun p1 h2 => ?_)
  refine pj_map (fun k => pj_aload_n hM (pc := 0) dX12_ahead_0 rfl rfl (pj_aload_n hM (pc := 1) dX12_ahead_1 rfl rfl (pj_gf hM (pc := 2) (t := 0) dX12_ahead_2 fl_X12_111 (by decide) rfl 14 rfl (pj_cV hM (pc := 5) (cM_byteAt (w 26 0 14) w p1 h2) dX12_ahead_5 mf_X12_byteAt mv_X12_byteAt ml_X12_114 kc_26 rfl rfl (by decide) rfl rfl (pj_bipush hM (pc := 8) dX12_ahead_8 (by decide) k))))) ?_
  refine pj_tif (fun h3 => ?_) (fun h3 => ?_)
  · refine pj_map (fun k => pj_ic_eq_t hM (pc := 10) dX12_ahead_10 rfl h3 (pj_kill hM [true, false] (lls' := [(26, 0), (9, 0)]) rfl k)) ?_
    exact tM_ahead_26 hM w _ h0 hk0
  refine pj_tbind (fun p4 h5 => ?_)
  refine pj_map (fun k => pj_ic_eq_f hM (pc := 10) 26 dX12_ahead_10 rfl h3 (pj_aload_n hM (pc := 13) dX12_ahead_13 rfl rfl (pj_aload_n hM (pc := 14) dX12_ahead_14 rfl rfl (pj_gf hM (pc := 15) (t := 0) dX12_ahead_15 fl_X12_111 (by decide) rfl 14 rfl (pj_cV hM (pc := 18) (cM_byteAt (w 26 0 14) w p4 h5) dX12_ahead_18 mf_X12_byteAt mv_X12_byteAt ml_X12_114 kc_26 rfl rfl (by decide) rfl rfl (pj_bipush hM (pc := 21) dX12_ahead_21 (by decide) k)))))) ?_
  refine pj_tif (fun h6 => ?_) (fun h6 => ?_)
  · refine pj_map (fun k => pj_ic_ne_f hM (pc := 23) 39 dX12_ahead_23 rfl (fun q => q h6) (pj_kill hM [true, false] (lls' := [(26, 0), (9, 0)]) rfl k)) ?_
    exact tM_ahead_26 hM w _ h0 hk0
  refine pj_tbind (fun p7 h8 => ?_)
  refine pj_map (fun k => pj_ic_ne_t hM (pc := 23) dX12_ahead_23 rfl h6 (pj_aload_n hM (pc := 39) dX12_ahead_39 rfl rfl (pj_aload_n hM (pc := 40) dX12_ahead_40 rfl rfl (pj_gf hM (pc := 41) (t := 0) dX12_ahead_41 fl_X12_111 (by decide) rfl 14 rfl (pj_pf hM (pc := 44) dX12_ahead_44 fl_X12_117 (by decide) rfl (fun h => absurd h (by decide)) (by decide) (fun _ => rfl) 13 rfl (pj_aload_n hM (pc := 47) dX12_ahead_47 rfl rfl (pj_aload_n hM (pc := 48) dX12_ahead_48 rfl rfl (pj_gf hM (pc := 49) (t := 0) dX12_ahead_49 fl_X12_111 (by decide) rfl 14 rfl (pj_cV hM (pc := 52) (cM_byteAt ((pj_set w 26 0 13 (w 26 0 14)) 26 0 14) (pj_set w 26 0 13 (w 26 0 14)) p7 h8) dX12_ahead_52 mf_X12_byteAt mv_X12_byteAt ml_X12_114 kc_26 rfl rfl (by decide) rfl rfl (pj_istore_n hM (pc := 55) dX12_ahead_55 (by decide) (lls' := [(26, 0), (0, p7)]) rfl (pj_aload_n hM (pc := 56) dX12_ahead_56 rfl rfl (pj_iload_n hM (pc := 57) dX12_ahead_57 rfl (pj_pf hM (pc := 58) dX12_ahead_58 fl_X12_120 (by decide) rfl (fun h => absurd h (by decide)) (by decide) (fun _ => rfl) 15 rfl (pj_iload_n hM (pc := 61) dX12_ahead_61 rfl (pj_iconst hM (pc := 62) dX12_ahead_62 (by decide) k))))))))))))))) ?_
  refine pj_tif (fun h9 => ?_) (fun h9 => ?_)
  · exact pj_tret (fun hr => pj_ic_ne_f hM (pc := 63) 74 dX12_ahead_63 rfl (fun q => q h9) (pj_aload_n hM (pc := 66) dX12_ahead_66 rfl rfl (pj_iconst hM (pc := 67) dX12_ahead_67 (by decide) (pj_pf hM (pc := 68) dX12_ahead_68 fl_X12_123 (by decide) rfl (fun h => absurd h (by decide)) (by decide) (fun _ => rfl) 12 rfl (pj_goto hM (pc := 71) dX12_ahead_71 rfl (pj_ret hM (pc := 251) dX12_ahead_251 rfl (h0 ((pj_set (pj_set (pj_set w 26 0 13 (w 26 0 14)) 26 0 15 p7) 26 0 12 0)) hr) rfl))))))
  refine pj_tbind (fun p10 h11 => ?_)
  refine pj_map (fun k => pj_ic_ne_t hM (pc := 63) dX12_ahead_63 rfl h9 (pj_iload_n hM (pc := 74) dX12_ahead_74 rfl (pj_cS hM (pc := 75) (cM_isSmall p7 (pj_set (pj_set w 26 0 13 (w 26 0 14)) 26 0 15 p7) p10 h11) dX12_ahead_75 mf_X12_isSmall ms_X12_isSmall ml_X12_126 rfl rfl rfl rfl k))) ?_
  refine pj_tif (fun h12 => ?_) (fun h12 => ?_)
  · refine pj_tbind (fun p13 h14 => ?_)
    refine pj_map (fun k => pj_if_eq_t hM (pc := 78) dX12_ahead_78 rfl h12 (pj_iload_n hM (pc := 116) dX12_ahead_116 rfl (pj_cS hM (pc := 117) (cM_isDigit p7 (pj_set (pj_set w 26 0 13 (w 26 0 14)) 26 0 15 p7) p13 h14) dX12_ahead_117 mf_X12_isDigit ms_X12_isDigit ml_X12_129 rfl rfl rfl rfl k))) ?_
    refine pj_tif (fun h15 => ?_) (fun h15 => ?_)
    · refine pj_map (fun k => pj_if_eq_t hM (pc := 120) dX12_ahead_120 rfl h15 (pj_aload_n hM (pc := 208) dX12_ahead_208 rfl rfl (pj_dup hM (pc := 209) dX12_ahead_209 (by decide) (pj_gf hM (pc := 210) (t := 0) dX12_ahead_210 fl_X12_111 (by decide) rfl 14 rfl (pj_iconst hM (pc := 213) dX12_ahead_213 (by decide) (pj_iadd hM (pc := 214) dX12_ahead_214 (pj_pf hM (pc := 215) dX12_ahead_215 fl_X12_111 (by decide) rfl (fun h => absurd h (by decide)) (by decide) (fun _ => rfl) 14 rfl k))))))) ?_
      refine pj_tlet (fun w16 => Go (218, [(26, 0), (0, p7)], [], w16)) (fun w16 => ?_)
      refine pj_map (fun k => pj_aload_n hM (pc := 218) dX12_ahead_218 rfl rfl (pj_iload_n hM (pc := 219) dX12_ahead_219 rfl (pj_bipush hM (pc := 220) dX12_ahead_220 (by decide) k))) ?_
      refine pj_tif (fun h17 => ?_) (fun h17 => ?_)
      · refine pj_tmap ?_
        refine pj_map (fun k => pj_ic_eq_t hM (pc := 222) dX12_ahead_222 rfl h17 (pj_kill hM [true, false] (lls' := [(26, 0), (9, 0)]) rfl k)) ?_
        exact tM_ahead_243 hM w16 _ h0
      refine pj_map (fun k => pj_ic_eq_f hM (pc := 222) 243 dX12_ahead_222 rfl h17 (pj_iload_n hM (pc := 225) dX12_ahead_225 rfl (pj_bipush hM (pc := 226) dX12_ahead_226 (by decide) k))) ?_
      refine pj_tif (fun h18 => ?_) (fun h18 => ?_)
      · refine pj_tmap ?_
        refine pj_map (fun k => pj_ic_eq_t hM (pc := 228) dX12_ahead_228 rfl h18 (pj_kill hM [true, false] (lls' := [(26, 0), (9, 0)]) rfl k)) ?_
        exact tM_ahead_243 hM w16 _ h0
      refine pj_map (fun k => pj_ic_eq_f hM (pc := 228) 243 dX12_ahead_228 rfl h18 (pj_iload_n hM (pc := 231) dX12_ahead_231 rfl (pj_bipush hM (pc := 232) dX12_ahead_232 (by decide) k))) ?_
      refine pj_tif (fun h19 => ?_) (fun h19 => ?_)
      · refine pj_tmap ?_
        refine pj_map (fun k => pj_ic_eq_t hM (pc := 234) dX12_ahead_234 rfl h19 (pj_kill hM [true, false] (lls' := [(26, 0), (9, 0)]) rfl k)) ?_
        exact tM_ahead_243 hM w16 _ h0
      refine pj_map (fun k => pj_ic_eq_f hM (pc := 234) 243 dX12_ahead_234 rfl h19 (pj_iload_n hM (pc := 237) dX12_ahead_237 rfl (pj_bipush hM (pc := 238) dX12_ahead_238 (by decide) k))) ?_
      refine pj_tif (fun h20 => ?_) (fun h20 => ?_)
      · refine pj_tmap ?_
        refine pj_map (fun k => pj_ic_ne_f hM (pc := 240) 247 dX12_ahead_240 rfl (fun q => q h20) (pj_kill hM [true, false] (lls' := [(26, 0), (9, 0)]) rfl k)) ?_
        exact tM_ahead_243 hM w16 _ h0
      refine pj_tmap ?_
      refine pj_map (fun k => pj_ic_ne_t hM (pc := 240) dX12_ahead_240 rfl h20 (pj_iconst hM (pc := 247) dX12_ahead_247 (by decide) (pj_kill hM [true, false] (lls' := [(26, 0), (9, 0)]) rfl k))) ?_
      exact tM_ahead_248 hM 1 w16 _ h0
    refine pj_tmap ?_
    refine pj_map (fun k => pj_if_eq_f hM (pc := 120) 208 dX12_ahead_120 rfl h15 (pj_aload_n hM (pc := 123) dX12_ahead_123 rfl rfl (pj_iconst hM (pc := 124) dX12_ahead_124 (by decide) (pj_pf hM (pc := 125) dX12_ahead_125 fl_X12_120 (by decide) rfl (fun h => absurd h (by decide)) (by decide) (fun _ => rfl) 15 rfl (pj_kill hM [true, false] (lls' := [(26, 0), (9, 0)]) rfl k))))) ?_
    exact tM_ahead_128 hM _ h0 _
  refine pj_tmap ?_
  refine pj_map (fun k => pj_if_eq_f hM (pc := 78) 116 dX12_ahead_78 rfl h12 (pj_kill hM [true, false] (lls' := [(26, 0), (9, 0)]) rfl k)) ?_
  exact tM_ahead_81 hM _ h0 _
theorem tM_ahead_0 {Go : pj_C → Prop} (hM : pj_M l yX12_ahead cX12_ahead 2 none 1 21 true g n0 o Go)   (R : pj_W → Prop) (h0 : ∀ r, R (r) → ((none : Option pj_V), r) = o) (s : (pj_W)) : pj_TG R (fM_ahead_0  s) (Go (0, [(26, 0), (9, 0)], [], s)) := by
  unfold fM_ahead_0
  exact pj_tLp (G := fun s : (pj_W) => Go (0, [(26, 0), (9, 0)], [], s)) (fun s => tM_ahead_0b hM  s  _ (fun r h => h0 r h)  (fun s h => h)) s
theorem tM_ahead {Go : pj_C → Prop} (hM : pj_M l yX12_ahead cX12_ahead 2 none 1 21 true g n0 o Go)  (w : pj_W)  (R : pj_W → Prop) (h0 : ∀ r, R (r) → ((none : Option pj_V), r) = o) : pj_TG R (fM_ahead  w) (Go (0, [(26, 0), (9, 0)], [], w)) := by
  unfold fM_ahead
  refine pj_map (fun k => pj_kill hM [true, false] (lls' := [(26, 0), (9, 0)]) rfl k) ?_
  exact tM_ahead_0 hM _ h0 _
theorem cM_ahead   (w : pj_W) (r : pj_W) (h : fM_ahead  w = some r) : pj_Cn l yX12_ahead cX12_ahead 2 none 1 21 true g [(26, 0)] w ((none : Option pj_V), r) :=
  pj_Cn_of rfl (Nat.le_of_ble_eq_true rfl) (lls := [(26, 0), (9, 0)]) rfl (fun Go hM => tM_ahead hM w (fun x => ((none : Option pj_V), x) = ((none : Option pj_V), r)) (fun r h => h) r h rfl)
noncomputable def fM_fails_21 (s1 : Int) (w : pj_W) : Option (Int × pj_W) :=
  some ((0, (pj_set (pj_set w 26 0 18 s1) 26 0 17 ((pj_set w 26 0 18 s1) 26 0 13))))
noncomputable def fM_fails (x1 : Int) (w : pj_W) : Option (Int × pj_W) :=
  if (w 26 0 18) = 0 then (fM_fails_21 (if (w 26 0 12) = 1 then 1 else x1) w) else (some ((0, w)))
theorem tM_fails_21 {Go : pj_C → Prop} (hM : pj_M l yX12_fails cX12_fails 2 (some .boolean) 0 0 ph g n0 o Go) (s1 : Int) (w : pj_W)  (R : Int × pj_W → Prop) (h0 : ∀ r, R (r) → ((some (0, r.1) : Option pj_V), r.2) = o) : pj_TG R (fM_fails_21 s1 w) (Go (21, [(26, 0), (9, 0)], [(0, s1), (26, 0)], w)) := by
  unfold fM_fails_21
  exact pj_tret (fun hr => pj_pf hM (pc := 21) dX12_fails_21 fl_X12_148 (by decide) rfl (fun h => absurd h (by decide)) (by decide) (fun _ => rfl) 18 rfl (pj_aload_n hM (pc := 24) dX12_fails_24 rfl rfl (pj_aload_n hM (pc := 25) dX12_fails_25 rfl rfl (pj_gf hM (pc := 26) (t := 0) dX12_fails_26 fl_X12_117 (by decide) rfl 13 rfl (pj_pf hM (pc := 29) dX12_fails_29 fl_X12_41 (by decide) rfl (fun h => absurd h (by decide)) (by decide) (fun _ => rfl) 17 rfl (pj_iconst hM (pc := 32) dX12_fails_32 (by decide) (pj_ret hM (pc := 33) dX12_fails_33 ⟨_, rfl, Or.inl rfl⟩ (h0 ((0, (pj_set (pj_set w 26 0 18 s1) 26 0 17 ((pj_set w 26 0 18 s1) 26 0 13)))) hr) rfl)))))))
theorem tM_fails {Go : pj_C → Prop} (hM : pj_M l yX12_fails cX12_fails 2 (some .boolean) 0 0 ph g n0 o Go) (x1 : Int) (w : pj_W)  (R : Int × pj_W → Prop) (h0 : ∀ r, R (r) → ((some (0, r.1) : Option pj_V), r.2) = o) : pj_TG R (fM_fails x1 w) (Go (0, [(26, 0), (0, x1)], [], w)) := by
  unfold fM_fails
  refine pj_map (fun k => pj_aload_n hM (pc := 0) dX12_fails_0 rfl rfl (pj_gf hM (pc := 1) (t := 0) dX12_fails_1 fl_X12_148 (by decide) rfl 18 rfl k)) ?_
  refine pj_tif (fun h1 => ?_) (fun h1 => ?_)
  · refine pj_map (fun k => pj_if_ne_f hM (pc := 4) 32 dX12_fails_4 rfl (fun q => q h1) (pj_aload_n hM (pc := 7) dX12_fails_7 rfl rfl (pj_aload_n hM (pc := 8) dX12_fails_8 rfl rfl (pj_gf hM (pc := 9) (t := 0) dX12_fails_9 fl_X12_123 (by decide) rfl 12 rfl (pj_iconst hM (pc := 12) dX12_fails_12 (by decide) k))))) ?_
    refine pj_tJ (fun v : Int => fM_fails_21 v w) (fun h2 => ?_) (fun h2 => ?_)
    · refine pj_map (fun k => pj_ic_ne_f hM (pc := 13) 20 dX12_fails_13 rfl (fun q => q h2) (pj_iconst hM (pc := 16) dX12_fails_16 (by decide) (pj_goto hM (pc := 17) dX12_fails_17 rfl (pj_kill hM [true, false] (lls' := [(26, 0), (9, 0)]) rfl k)))) ?_
      exact tM_fails_21 hM 1 w _ h0
    refine pj_map (fun k => pj_ic_ne_t hM (pc := 13) dX12_fails_13 rfl h2 (pj_iload_n hM (pc := 20) dX12_fails_20 rfl (pj_kill hM [true, false] (lls' := [(26, 0), (9, 0)]) rfl k))) ?_
    exact tM_fails_21 hM x1 w _ h0
  exact pj_tret (fun hr => pj_if_ne_t hM (pc := 4) dX12_fails_4 rfl h1 (pj_iconst hM (pc := 32) dX12_fails_32 (by decide) (pj_ret hM (pc := 33) dX12_fails_33 ⟨_, rfl, Or.inl rfl⟩ (h0 ((0, w)) hr) rfl)))
theorem cM_fails (x1 : Int)  (w : pj_W) (r : Int × pj_W) (h : fM_fails x1 w = some r) : pj_Cn l yX12_fails cX12_fails 2 (some .boolean) 0 0 ph g [(26, 0), (0, x1)] w ((some (0, r.1) : Option pj_V), r.2) :=
  pj_Cn_of rfl (Nat.le_of_ble_eq_true rfl) (lls := [(26, 0), (0, x1)]) rfl (fun Go hM => tM_fails hM x1 w (fun x => ((some (0, x.1) : Option pj_V), x.2) = ((some (0, r.1) : Option pj_V), r.2)) (fun r h => h) r h rfl)
noncomputable def fM_inWords_115 (x2 : Int) (x4 : Int) (x5 : Int) (w : pj_W) : Option ((Int × Int) ⊕ (Int)) :=
  if x5 = 0 then (some (Sum.inl ((pj_wr (x2 + 1)), (pj_wr (x4 + 1))))) else (some (Sum.inr (x2)))
noncomputable def fM_inWords_107 (x2 : Int) (x3 : Int) (x4 : Int) (x6 : Int) (s0 : Int) (w : pj_W) : Option ((Int × Int) ⊕ ((Int × Int) ⊕ (Int))) :=
  some (Sum.inl (s0, (pj_wr (x6 + 1))))
noncomputable def fM_inWords_68b (x2 : Int) (x3 : Int) (x4 : Int) (w : pj_W) (x5 : Int) (x6 : Int) : Option ((Int × Int) ⊕ ((Int × Int) ⊕ (Int))) :=
  if x4 ≤ x6 then ((fM_inWords_115 x2 x4 x5 w).map Sum.inr) else (if x5 = 0 then ((fM_inWords_115 x2 x4 x5 w).map Sum.inr) else ((fStr_charAt4 x6 w).bind fun p3 => ((fM_byteAt (pj_wr ((pj_wr ((w 26 0 13) + x6)) - x3)) w).bind fun p5 => (fM_inWords_107 x2 x3 x4 x6 (if p3 = p5 then (1 : Int) else 0) w))))
noncomputable def fM_inWords_68 (x2 : Int) (x3 : Int) (x4 : Int) (w : pj_W) (s : (Int × Int)) : Option ((Int × Int) ⊕ (Int)) := pj_Lp (fun s : (Int × Int) => fM_inWords_68b x2 x3 x4 w s.1 s.2) s
noncomputable def fM_inWords_63 (x2 : Int) (x3 : Int) (x4 : Int) (s0 : Int) (w : pj_W) : Option ((Int × Int) ⊕ (Int)) :=
  fM_inWords_68 x2 x3 x4 w (s0, x3)
noncomputable def fM_inWords_25b (x2 : Int) (x3 : Int) (w : pj_W) (x4 : Int) : Option ((Int) ⊕ ((Int × Int) ⊕ (Int))) :=
  (fStr_charAt4 x4 w).bind fun p1 => (if p1 = 32 then ((fM_inWords_63 x2 x3 x4 (if (pj_wr (x4 - x3)) = (pj_wr ((w 26 0 14) - (w 26 0 13))) then (1 : Int) else 0) w).map Sum.inr) else (some (Sum.inl ((pj_wr (x4 + 1))))))
noncomputable def fM_inWords_25 (x2 : Int) (x3 : Int) (w : pj_W) (s : (Int)) : Option ((Int × Int) ⊕ (Int)) := pj_Lp (fun s : (Int) => fM_inWords_25b x2 x3 w s) s
noncomputable def fM_inWords_14b  (w : pj_W) (x2 : Int) (x3 : Int) : Option ((Int × Int) ⊕ (Int)) :=
  (fStr_length4 w).bind fun p1 => (if p1 ≤ x3 then (some (Sum.inr ((-1)))) else (fM_inWords_25 x2 x3 w (x3)))
noncomputable def fM_inWords_14  (w : pj_W) (s : (Int × Int)) : Option (Int) := pj_Lp (fun s : (Int × Int) => fM_inWords_14b  w s.1 s.2) s
noncomputable def fM_inWords  (w : pj_W) : Option (Int) :=
  if (w 26 0 12) = 2 then (fM_inWords_14 w (0, 1)) else (some ((-1)))
theorem tM_inWords_115 {Go : pj_C → Prop} (hM : pj_M l yX12_inWords cX12_inWords 7 (some .int) 4 85 true g n0 o Go) (x2 : Int) (x4 : Int) (x5 : Int) (w : pj_W)  (R : (Int × Int) ⊕ (Int) → Prop) (h0 : ∀ r, R (Sum.inr (r)) → ((some (0, r) : Option pj_V), w) = o) (hk14 : ∀ s, R (Sum.inl s) → Go (14, [(26, 0), (4, 0), (0, s.1), (0, s.2), (9, 0), (9, 0), (9, 0)], [], w)) : pj_TG R (fM_inWords_115 x2 x4 x5 w) (Go (115, [(26, 0), (4, 0), (0, x2), (9, 0), (0, x4), (0, x5), (9, 0)], [], w)) := by
  unfold fM_inWords_115
  refine pj_map (fun k => pj_iload hM (pc := 115) dX12_inWords_115 rfl k) ?_
  refine pj_tif (fun h1 => ?_) (fun h1 => ?_)
  · exact pj_tret (fun hr => pj_if_eq_t hM (pc := 117) dX12_inWords_117 rfl h1 (pj_iinc hM (pc := 122) dX12_inWords_122 rfl (by decide) (lls' := [(26, 0), (4, 0), (0, (pj_wr (x2 + 1))), (9, 0), (0, x4), (0, x5), (9, 0)]) rfl (pj_iload hM (pc := 125) dX12_inWords_125 rfl (pj_iconst hM (pc := 127) dX12_inWords_127 (by decide) (pj_iadd hM (pc := 128) dX12_inWords_128 (pj_istore_n hM (pc := 129) dX12_inWords_129 (by decide) (lls' := [(26, 0), (4, 0), (0, (pj_wr (x2 + 1))), (0, (pj_wr (x4 + 1))), (0, x4), (0, x5), (9, 0)]) rfl (pj_goto hM (pc := 130) dX12_inWords_130 rfl (pj_kill hM [true, true, true, true, false, false, false] (lls' := [(26, 0), (4, 0), (0, (pj_wr (x2 + 1))), (0, (pj_wr (x4 + 1))), (9, 0), (9, 0), (9, 0)]) rfl ((hk14 _ hr))))))))))
  exact pj_tret (fun hr => pj_if_eq_f hM (pc := 117) 122 dX12_inWords_117 rfl h1 (pj_iload_n hM (pc := 120) dX12_inWords_120 rfl (pj_ret hM (pc := 121) dX12_inWords_121 ⟨_, rfl⟩ (h0 (x2) hr) rfl)))
theorem tM_inWords_107 {Go : pj_C → Prop} (hM : pj_M l yX12_inWords cX12_inWords 7 (some .int) 4 85 true g n0 o Go) (x2 : Int) (x3 : Int) (x4 : Int) (x6 : Int) (s0 : Int) (w : pj_W)  (R : (Int × Int) ⊕ ((Int × Int) ⊕ (Int)) → Prop) (h0 : ∀ r, R (Sum.inr (Sum.inr (r))) → ((some (0, r) : Option pj_V), w) = o) (hk14 : ∀ s, R (Sum.inr (Sum.inl s)) → Go (14, [(26, 0), (4, 0), (0, s.1), (0, s.2), (9, 0), (9, 0), (9, 0)], [], w)) (hk68 : ∀ s, R (Sum.inl s) → Go (68, [(26, 0), (4, 0), (0, x2), (0, x3), (0, x4), (0, s.1), (0, s.2)], [], w)) : pj_TG R (fM_inWords_107 x2 x3 x4 x6 s0 w) (Go (107, [(26, 0), (4, 0), (0, x2), (0, x3), (0, x4), (9, 0), (0, x6)], [(0, s0)], w)) := by
  unfold fM_inWords_107
  exact pj_tret (fun hr => pj_istore hM (pc := 107) dX12_inWords_107 (by decide) (lls' := [(26, 0), (4, 0), (0, x2), (0, x3), (0, x4), (0, s0), (0, x6)]) rfl (pj_iinc hM (pc := 109) dX12_inWords_109 rfl (by decide) (lls' := [(26, 0), (4, 0), (0, x2), (0, x3), (0, x4), (0, s0), (0, (pj_wr (x6 + 1)))]) rfl (pj_goto hM (pc := 112) dX12_inWords_112 rfl (pj_kill hM [true, true, true, true, true, true, true] (lls' := [(26, 0), (4, 0), (0, x2), (0, x3), (0, x4), (0, s0), (0, (pj_wr (x6 + 1)))]) rfl ((hk68 _ hr))))))
theorem tM_inWords_68b {Go : pj_C → Prop} (hM : pj_M l yX12_inWords cX12_inWords 7 (some .int) 4 85 true g n0 o Go) (x2 : Int) (x3 : Int) (x4 : Int) (w : pj_W) (x5 : Int) (x6 : Int)  (R : (Int × Int) ⊕ ((Int × Int) ⊕ (Int)) → Prop) (h0 : ∀ r, R (Sum.inr (Sum.inr (r))) → ((some (0, r) : Option pj_V), w) = o) (hk14 : ∀ s, R (Sum.inr (Sum.inl s)) → Go (14, [(26, 0), (4, 0), (0, s.1), (0, s.2), (9, 0), (9, 0), (9, 0)], [], w)) (hk68 : ∀ s, R (Sum.inl s) → Go (68, [(26, 0), (4, 0), (0, x2), (0, x3), (0, x4), (0, s.1), (0, s.2)], [], w)) : pj_TG R (fM_inWords_68b x2 x3 x4 w x5 x6) (Go (68, [(26, 0), (4, 0), (0, x2), (0, x3), (0, x4), (0, x5), (0, x6)], [], w)) := by
  unfold fM_inWords_68b
  refine pj_map (fun k => pj_iload hM (pc := 68) dX12_inWords_68 rfl (pj_iload hM (pc := 70) dX12_inWords_70 rfl k)) ?_
  refine pj_tif (fun h1 => ?_) (fun h1 => ?_)
  · refine pj_tmap ?_
    refine pj_map (fun k => pj_ic_ge_t hM (pc := 72) dX12_inWords_72 rfl h1 (pj_kill hM [true, true, true, false, true, true, false] (lls' := [(26, 0), (4, 0), (0, x2), (9, 0), (0, x4), (0, x5), (9, 0)]) rfl k)) ?_
    exact tM_inWords_115 hM x2 x4 x5 w _ h0 hk14
  refine pj_map (fun k => pj_ic_ge_f hM (pc := 72) 115 dX12_inWords_72 rfl h1 (pj_iload hM (pc := 75) dX12_inWords_75 rfl k)) ?_
  refine pj_tif (fun h2 => ?_) (fun h2 => ?_)
  · refine pj_tmap ?_
    refine pj_map (fun k => pj_if_eq_t hM (pc := 77) dX12_inWords_77 rfl h2 (pj_kill hM [true, true, true, false, true, true, false] (lls' := [(26, 0), (4, 0), (0, x2), (9, 0), (0, x4), (0, x5), (9, 0)]) rfl k)) ?_
    exact tM_inWords_115 hM x2 x4 x5 w _ h0 hk14
  refine pj_tbind (fun p3 h4 => ?_)
  refine pj_tbind (fun p5 h6 => ?_)
  refine pj_map (fun k => pj_if_eq_f hM (pc := 77) 115 dX12_inWords_77 rfl h2 (pj_aload_n hM (pc := 80) dX12_inWords_80 rfl rfl (pj_iload hM (pc := 81) dX12_inWords_81 rfl (pj_cT hM (pc := 83) 0 (by decide) rfl (cStr_charAt4 x6 w p3 h4) dX12_inWords_83 mf_J0_charAt_5068e mv_J0_charAt_5068e ml_X12_144 rfl rfl rfl rfl rfl (pj_aload_n hM (pc := 86) dX12_inWords_86 rfl rfl (pj_aload_n hM (pc := 87) dX12_inWords_87 rfl rfl (pj_gf hM (pc := 88) (t := 0) dX12_inWords_88 fl_X12_117 (by decide) rfl 13 rfl (pj_iload hM (pc := 91) dX12_inWords_91 rfl (pj_iadd hM (pc := 93) dX12_inWords_93 (pj_iload_n hM (pc := 94) dX12_inWords_94 rfl (pj_isub hM (pc := 95) dX12_inWords_95 (pj_cV hM (pc := 96) (cM_byteAt (pj_wr ((pj_wr ((w 26 0 13) + x6)) - x3)) w p5 h6) dX12_inWords_96 mf_X12_byteAt mv_X12_byteAt ml_X12_114 kc_26 rfl rfl (by decide) rfl rfl k)))))))))))) ?_
  refine pj_tJ (fun v : Int => fM_inWords_107 x2 x3 x4 x6 v w) (fun h7 => ?_) (fun h7 => ?_)
  · refine pj_map (fun k => pj_ic_ne_f hM (pc := 99) 106 dX12_inWords_99 rfl (fun q => q h7) (pj_iconst hM (pc := 102) dX12_inWords_102 (by decide) (pj_goto hM (pc := 103) dX12_inWords_103 rfl (pj_kill hM [true, true, true, true, true, false, true] (lls' := [(26, 0), (4, 0), (0, x2), (0, x3), (0, x4), (9, 0), (0, x6)]) rfl k)))) ?_
    exact tM_inWords_107 hM x2 x3 x4 x6 1 w _ h0 hk14 hk68
  refine pj_map (fun k => pj_ic_ne_t hM (pc := 99) dX12_inWords_99 rfl h7 (pj_iconst hM (pc := 106) dX12_inWords_106 (by decide) (pj_kill hM [true, true, true, true, true, false, true] (lls' := [(26, 0), (4, 0), (0, x2), (0, x3), (0, x4), (9, 0), (0, x6)]) rfl k))) ?_
  exact tM_inWords_107 hM x2 x3 x4 x6 0 w _ h0 hk14 hk68
theorem tM_inWords_68 {Go : pj_C → Prop} (hM : pj_M l yX12_inWords cX12_inWords 7 (some .int) 4 85 true g n0 o Go) (x2 : Int) (x3 : Int) (x4 : Int) (w : pj_W)  (R : (Int × Int) ⊕ (Int) → Prop) (h0 : ∀ r, R (Sum.inr (r)) → ((some (0, r) : Option pj_V), w) = o) (hk14 : ∀ s, R (Sum.inl s) → Go (14, [(26, 0), (4, 0), (0, s.1), (0, s.2), (9, 0), (9, 0), (9, 0)], [], w)) (s : (Int × Int)) : pj_TG R (fM_inWords_68 x2 x3 x4 w s) (Go (68, [(26, 0), (4, 0), (0, x2), (0, x3), (0, x4), (0, s.1), (0, s.2)], [], w)) := by
  unfold fM_inWords_68
  exact pj_tLp (G := fun s : (Int × Int) => Go (68, [(26, 0), (4, 0), (0, x2), (0, x3), (0, x4), (0, s.1), (0, s.2)], [], w)) (fun s => tM_inWords_68b hM x2 x3 x4 w s.1 s.2  _ (fun r h => h0 r h) (fun s h => hk14 s h) (fun s h => h)) s
theorem tM_inWords_63 {Go : pj_C → Prop} (hM : pj_M l yX12_inWords cX12_inWords 7 (some .int) 4 85 true g n0 o Go) (x2 : Int) (x3 : Int) (x4 : Int) (s0 : Int) (w : pj_W)  (R : (Int × Int) ⊕ (Int) → Prop) (h0 : ∀ r, R (Sum.inr (r)) → ((some (0, r) : Option pj_V), w) = o) (hk14 : ∀ s, R (Sum.inl s) → Go (14, [(26, 0), (4, 0), (0, s.1), (0, s.2), (9, 0), (9, 0), (9, 0)], [], w)) : pj_TG R (fM_inWords_63 x2 x3 x4 s0 w) (Go (63, [(26, 0), (4, 0), (0, x2), (0, x3), (0, x4), (9, 0), (9, 0)], [(0, s0)], w)) := by
  unfold fM_inWords_63
  refine pj_map (fun k => pj_istore hM (pc := 63) dX12_inWords_63 (by decide) (lls' := [(26, 0), (4, 0), (0, x2), (0, x3), (0, x4), (0, s0), (9, 0)]) rfl (pj_iload_n hM (pc := 65) dX12_inWords_65 rfl (pj_istore hM (pc := 66) dX12_inWords_66 (by decide) (lls' := [(26, 0), (4, 0), (0, x2), (0, x3), (0, x4), (0, s0), (0, x3)]) rfl (pj_kill hM [true, true, true, true, true, true, true] (lls' := [(26, 0), (4, 0), (0, x2), (0, x3), (0, x4), (0, s0), (0, x3)]) rfl k)))) ?_
  exact tM_inWords_68 hM x2 x3 x4 w _ h0 hk14 _
theorem tM_inWords_25b {Go : pj_C → Prop} (hM : pj_M l yX12_inWords cX12_inWords 7 (some .int) 4 85 true g n0 o Go) (x2 : Int) (x3 : Int) (w : pj_W) (x4 : Int)  (R : (Int) ⊕ ((Int × Int) ⊕ (Int)) → Prop) (h0 : ∀ r, R (Sum.inr (Sum.inr (r))) → ((some (0, r) : Option pj_V), w) = o) (hk14 : ∀ s, R (Sum.inr (Sum.inl s)) → Go (14, [(26, 0), (4, 0), (0, s.1), (0, s.2), (9, 0), (9, 0), (9, 0)], [], w)) (hk25 : ∀ s, R (Sum.inl s) → Go (25, [(26, 0), (4, 0), (0, x2), (0, x3), (0, s), (9, 0), (9, 0)], [], w)) : pj_TG R (fM_inWords_25b x2 x3 w x4) (Go (25, [(26, 0), (4, 0), (0, x2), (0, x3), (0, x4), (9, 0), (9, 0)], [], w)) := by
  unfold fM_inWords_25b
  refine pj_tbind (fun p1 h2 => ?_)
  refine pj_map (fun k => pj_aload_n hM (pc := 25) dX12_inWords_25 rfl rfl (pj_iload hM (pc := 26) dX12_inWords_26 rfl (pj_cT hM (pc := 28) 0 (by decide) rfl (cStr_charAt4 x4 w p1 h2) dX12_inWords_28 mf_J0_charAt_5068e mv_J0_charAt_5068e ml_X12_144 rfl rfl rfl rfl rfl (pj_bipush hM (pc := 31) dX12_inWords_31 (by decide) k)))) ?_
  refine pj_tif (fun h3 => ?_) (fun h3 => ?_)
  · refine pj_map (fun k => pj_ic_eq_t hM (pc := 33) dX12_inWords_33 rfl h3 (pj_iload hM (pc := 42) dX12_inWords_42 rfl (pj_iload_n hM (pc := 44) dX12_inWords_44 rfl (pj_isub hM (pc := 45) dX12_inWords_45 (pj_aload_n hM (pc := 46) dX12_inWords_46 rfl rfl (pj_gf hM (pc := 47) (t := 0) dX12_inWords_47 fl_X12_111 (by decide) rfl 14 rfl (pj_aload_n hM (pc := 50) dX12_inWords_50 rfl rfl (pj_gf hM (pc := 51) (t := 0) dX12_inWords_51 fl_X12_117 (by decide) rfl 13 rfl (pj_isub hM (pc := 54) dX12_inWords_54 k))))))))) ?_
    refine pj_tJ (fun v : Int => (fM_inWords_63 x2 x3 x4 v w).map Sum.inr) (fun h4 => ?_) (fun h4 => ?_)
    · refine pj_tmap ?_
      refine pj_map (fun k => pj_ic_ne_f hM (pc := 55) 62 dX12_inWords_55 rfl (fun q => q h4) (pj_iconst hM (pc := 58) dX12_inWords_58 (by decide) (pj_goto hM (pc := 59) dX12_inWords_59 rfl (pj_kill hM [true, true, true, true, true, false, false] (lls' := [(26, 0), (4, 0), (0, x2), (0, x3), (0, x4), (9, 0), (9, 0)]) rfl k)))) ?_
      exact tM_inWords_63 hM x2 x3 x4 1 w _ h0 hk14
    refine pj_tmap ?_
    refine pj_map (fun k => pj_ic_ne_t hM (pc := 55) dX12_inWords_55 rfl h4 (pj_iconst hM (pc := 62) dX12_inWords_62 (by decide) (pj_kill hM [true, true, true, true, true, false, false] (lls' := [(26, 0), (4, 0), (0, x2), (0, x3), (0, x4), (9, 0), (9, 0)]) rfl k))) ?_
    exact tM_inWords_63 hM x2 x3 x4 0 w _ h0 hk14
  exact pj_tret (fun hr => pj_ic_eq_f hM (pc := 33) 42 dX12_inWords_33 rfl h3 (pj_iinc hM (pc := 36) dX12_inWords_36 rfl (by decide) (lls' := [(26, 0), (4, 0), (0, x2), (0, x3), (0, (pj_wr (x4 + 1))), (9, 0), (9, 0)]) rfl (pj_goto hM (pc := 39) dX12_inWords_39 rfl (pj_kill hM [true, true, true, true, true, false, false] (lls' := [(26, 0), (4, 0), (0, x2), (0, x3), (0, (pj_wr (x4 + 1))), (9, 0), (9, 0)]) rfl ((hk25 _ hr))))))
theorem tM_inWords_25 {Go : pj_C → Prop} (hM : pj_M l yX12_inWords cX12_inWords 7 (some .int) 4 85 true g n0 o Go) (x2 : Int) (x3 : Int) (w : pj_W)  (R : (Int × Int) ⊕ (Int) → Prop) (h0 : ∀ r, R (Sum.inr (r)) → ((some (0, r) : Option pj_V), w) = o) (hk14 : ∀ s, R (Sum.inl s) → Go (14, [(26, 0), (4, 0), (0, s.1), (0, s.2), (9, 0), (9, 0), (9, 0)], [], w)) (s : (Int)) : pj_TG R (fM_inWords_25 x2 x3 w s) (Go (25, [(26, 0), (4, 0), (0, x2), (0, x3), (0, s), (9, 0), (9, 0)], [], w)) := by
  unfold fM_inWords_25
  exact pj_tLp (G := fun s : (Int) => Go (25, [(26, 0), (4, 0), (0, x2), (0, x3), (0, s), (9, 0), (9, 0)], [], w)) (fun s => tM_inWords_25b hM x2 x3 w s  _ (fun r h => h0 r h) (fun s h => hk14 s h) (fun s h => h)) s
theorem tM_inWords_14b {Go : pj_C → Prop} (hM : pj_M l yX12_inWords cX12_inWords 7 (some .int) 4 85 true g n0 o Go)  (w : pj_W) (x2 : Int) (x3 : Int)  (R : (Int × Int) ⊕ (Int) → Prop) (h0 : ∀ r, R (Sum.inr (r)) → ((some (0, r) : Option pj_V), w) = o) (hk14 : ∀ s, R (Sum.inl s) → Go (14, [(26, 0), (4, 0), (0, s.1), (0, s.2), (9, 0), (9, 0), (9, 0)], [], w)) : pj_TG R (fM_inWords_14b  w x2 x3) (Go (14, [(26, 0), (4, 0), (0, x2), (0, x3), (9, 0), (9, 0), (9, 0)], [], w)) := by
  unfold fM_inWords_14b
  refine pj_tbind (fun p1 h2 => ?_)
  refine pj_map (fun k => pj_iload_n hM (pc := 14) dX12_inWords_14 rfl (pj_aload_n hM (pc := 15) dX12_inWords_15 rfl rfl (pj_cT hM (pc := 16) 0 (by decide) rfl (cStr_length4 w p1 h2) dX12_inWords_16 mf_J0_length_8abf5 mv_J0_length_8abf5 ml_X12_138 rfl rfl rfl rfl rfl k))) ?_
  refine pj_tif (fun h3 => ?_) (fun h3 => ?_)
  · exact pj_tret (fun hr => pj_ic_ge_t hM (pc := 19) dX12_inWords_19 rfl h3 (pj_iconst hM (pc := 133) dX12_inWords_133 (by decide) (pj_ret hM (pc := 134) dX12_inWords_134 ⟨_, rfl⟩ (h0 ((-1)) hr) rfl)))
  refine pj_map (fun k => pj_ic_ge_f hM (pc := 19) 133 dX12_inWords_19 rfl h3 (pj_iload_n hM (pc := 22) dX12_inWords_22 rfl (pj_istore hM (pc := 23) dX12_inWords_23 (by decide) (lls' := [(26, 0), (4, 0), (0, x2), (0, x3), (0, x3), (9, 0), (9, 0)]) rfl (pj_kill hM [true, true, true, true, true, false, false] (lls' := [(26, 0), (4, 0), (0, x2), (0, x3), (0, x3), (9, 0), (9, 0)]) rfl k)))) ?_
  exact tM_inWords_25 hM x2 x3 w _ h0 hk14 _
theorem tM_inWords_14 {Go : pj_C → Prop} (hM : pj_M l yX12_inWords cX12_inWords 7 (some .int) 4 85 true g n0 o Go)  (w : pj_W)  (R : Int → Prop) (h0 : ∀ r, R (r) → ((some (0, r) : Option pj_V), w) = o) (s : (Int × Int)) : pj_TG R (fM_inWords_14  w s) (Go (14, [(26, 0), (4, 0), (0, s.1), (0, s.2), (9, 0), (9, 0), (9, 0)], [], w)) := by
  unfold fM_inWords_14
  exact pj_tLp (G := fun s : (Int × Int) => Go (14, [(26, 0), (4, 0), (0, s.1), (0, s.2), (9, 0), (9, 0), (9, 0)], [], w)) (fun s => tM_inWords_14b hM  w s.1 s.2  _ (fun r h => h0 r h)  (fun s h => h)) s
theorem tM_inWords {Go : pj_C → Prop} (hM : pj_M l yX12_inWords cX12_inWords 7 (some .int) 4 85 true g n0 o Go)  (w : pj_W)  (R : Int → Prop) (h0 : ∀ r, R (r) → ((some (0, r) : Option pj_V), w) = o) : pj_TG R (fM_inWords  w) (Go (0, [(26, 0), (4, 0), (9, 0), (9, 0), (9, 0), (9, 0), (9, 0)], [], w)) := by
  unfold fM_inWords
  refine pj_map (fun k => pj_aload_n hM (pc := 0) dX12_inWords_0 rfl rfl (pj_gf hM (pc := 1) (t := 0) dX12_inWords_1 fl_X12_123 (by decide) rfl 12 rfl (pj_iconst hM (pc := 4) dX12_inWords_4 (by decide) k))) ?_
  refine pj_tif (fun h1 => ?_) (fun h1 => ?_)
  · refine pj_map (fun k => pj_ic_eq_t hM (pc := 5) dX12_inWords_5 rfl h1 (pj_iconst hM (pc := 10) dX12_inWords_10 (by decide) (pj_istore_n hM (pc := 11) dX12_inWords_11 (by decide) (lls' := [(26, 0), (4, 0), (0, 0), (9, 0), (9, 0), (9, 0), (9, 0)]) rfl (pj_iconst hM (pc := 12) dX12_inWords_12 (by decide) (pj_istore_n hM (pc := 13) dX12_inWords_13 (by decide) (lls' := [(26, 0), (4, 0), (0, 0), (0, 1), (9, 0), (9, 0), (9, 0)]) rfl (pj_kill hM [true, true, true, true, false, false, false] (lls' := [(26, 0), (4, 0), (0, 0), (0, 1), (9, 0), (9, 0), (9, 0)]) rfl k)))))) ?_
    exact tM_inWords_14 hM w _ h0 _
  exact pj_tret (fun hr => pj_ic_eq_f hM (pc := 5) 10 dX12_inWords_5 rfl h1 (pj_iconst hM (pc := 8) dX12_inWords_8 (by decide) (pj_ret hM (pc := 9) dX12_inWords_9 ⟨_, rfl⟩ (h0 ((-1)) hr) rfl)))
theorem cM_inWords   (w : pj_W) (r : Int) (h : fM_inWords  w = some r) : pj_Cn l yX12_inWords cX12_inWords 7 (some .int) 4 85 true g [(26, 0), (4, 0)] w ((some (0, r) : Option pj_V), w) :=
  pj_Cn_of rfl (Nat.le_of_ble_eq_true rfl) (lls := [(26, 0), (4, 0), (9, 0), (9, 0), (9, 0), (9, 0), (9, 0)]) rfl (fun Go hM => tM_inWords hM w (fun x => ((some (0, x) : Option pj_V), w) = ((some (0, r) : Option pj_V), w)) (fun r h => h) r h rfl)
noncomputable def fM_aDuel_41  (w : pj_W) : Option (Int × pj_W) :=
  (fM_fails 2 w).bind fun p1 => (if p1.1 = 0 ∨ p1.1 = 1 then (some ((p1.1, p1.2))) else none)
noncomputable def fM_aDuel  (w : pj_W) : Option (Int × pj_W) :=
  if (w 26 0 20) = 0 then ((fM_ahead (pj_set w 26 0 20 1)).bind fun p2 => ((fM_inWords p2).bind fun p4 => (if p4 < 13 then (fM_aDuel_41 p2) else (if p4 ≤ 16 then ((fM_ahead (pj_set p2 60 0 5605 (pj_wr (p4 - 13)))).bind fun p8 => (some ((1, p8)))) else (fM_aDuel_41 p2))))) else ((fM_fails 5 w).bind fun p10 => (if p10.1 = 0 ∨ p10.1 = 1 then (some ((p10.1, p10.2))) else none))
theorem tM_aDuel_41 {Go : pj_C → Prop} (hM : pj_M l yX12_aDuel cX12_aDuel 2 (some .boolean) 5 111 true g n0 o Go)  (w : pj_W)  (R : Int × pj_W → Prop) (h0 : ∀ r, R (r) → ((some (0, r.1) : Option pj_V), r.2) = o) : pj_TG R (fM_aDuel_41  w) (Go (41, [(26, 0), (9, 0)], [], w)) := by
  unfold fM_aDuel_41
  refine pj_tbind (fun p1 h2 => ?_)
  refine pj_tgd (fun h3 => ?_)
  exact pj_tret (fun hr => pj_aload_n hM (pc := 41) dX12_aDuel_41 rfl rfl (pj_iconst hM (pc := 42) dX12_aDuel_42 (by decide) (pj_cV hM (pc := 43) (cM_fails 2 w p1 h2) dX12_aDuel_43 mf_X12_fails mv_X12_fails ml_X12_160 kc_26 rfl rfl (by decide) rfl rfl (pj_ret hM (pc := 46) dX12_aDuel_46 ⟨_, rfl, h3⟩ (h0 ((p1.1, p1.2)) hr) rfl))))
theorem tM_aDuel {Go : pj_C → Prop} (hM : pj_M l yX12_aDuel cX12_aDuel 2 (some .boolean) 5 111 true g n0 o Go)  (w : pj_W)  (R : Int × pj_W → Prop) (h0 : ∀ r, R (r) → ((some (0, r.1) : Option pj_V), r.2) = o) : pj_TG R (fM_aDuel  w) (Go (0, [(26, 0), (9, 0)], [], w)) := by
  unfold fM_aDuel
  refine pj_map (fun k => pj_aload_n hM (pc := 0) dX12_aDuel_0 rfl rfl (pj_gf hM (pc := 1) (t := 0) dX12_aDuel_1 fl_X12_214 (by decide) rfl 20 rfl k)) ?_
  refine pj_tif (fun h1 => ?_) (fun h1 => ?_)
  · refine pj_tbind (fun p2 h3 => ?_)
    refine pj_tbind (fun p4 h5 => ?_)
    refine pj_map (fun k => pj_if_eq_t hM (pc := 4) dX12_aDuel_4 rfl h1 (pj_aload_n hM (pc := 13) dX12_aDuel_13 rfl rfl (pj_iconst hM (pc := 14) dX12_aDuel_14 (by decide) (pj_pf hM (pc := 15) dX12_aDuel_15 fl_X12_214 (by decide) rfl (fun _ => Or.inr rfl) (by decide) (fun _ => rfl) 20 rfl (pj_aload_n hM (pc := 18) dX12_aDuel_18 rfl rfl (pj_cVv hM (pc := 19) (cM_ahead (pj_set w 26 0 20 1) p2 h3) dX12_aDuel_19 mf_X12_ahead mv_X12_ahead ml_X12_154 kc_26 rfl rfl (by decide) rfl rfl (pj_aload_n hM (pc := 22) dX12_aDuel_22 rfl rfl (pj_ldcS4 hM (pc := 23) dX12_aDuel_23 rfl (pj_cV hM (pc := 25) (cM_inWords p2 p4 h5) dX12_aDuel_25 mf_X12_inWords mv_X12_inWords ml_X12_163 kc_26 rfl rfl (by decide) rfl rfl (pj_istore_n hM (pc := 28) dX12_aDuel_28 (by decide) (lls' := [(26, 0), (0, p4)]) rfl (pj_iload_n hM (pc := 29) dX12_aDuel_29 rfl (pj_bipush hM (pc := 30) dX12_aDuel_30 (by decide) k)))))))))))) ?_
    refine pj_tif (fun h6 => ?_) (fun h6 => ?_)
    · refine pj_map (fun k => pj_ic_lt_t hM (pc := 32) dX12_aDuel_32 rfl h6 (pj_kill hM [true, false] (lls' := [(26, 0), (9, 0)]) rfl k)) ?_
      exact tM_aDuel_41 hM p2 _ h0
    refine pj_map (fun k => pj_ic_lt_f hM (pc := 32) 41 dX12_aDuel_32 rfl h6 (pj_iload_n hM (pc := 35) dX12_aDuel_35 rfl (pj_bipush hM (pc := 36) dX12_aDuel_36 (by decide) k))) ?_
    refine pj_tif (fun h7 => ?_) (fun h7 => ?_)
    · refine pj_tbind (fun p8 h9 => ?_)
      exact pj_tret (fun hr => pj_ic_le_t hM (pc := 38) dX12_aDuel_38 rfl h7 (pj_aload_n hM (pc := 47) dX12_aDuel_47 rfl rfl (pj_getF hM (pc := 48) (t := 60) dX12_aDuel_48 fl_X12_7 (by decide) rfl rfl (pj_sipush hM (pc := 51) dX12_aDuel_51 (by decide) (pj_iload_n hM (pc := 54) dX12_aDuel_54 rfl (pj_bipush hM (pc := 55) dX12_aDuel_55 (by decide) (pj_isub hM (pc := 57) dX12_aDuel_57 (pj_ias hM (pc := 58) dX12_aDuel_58 ki_60 (by decide) (by decide) (pj_aload_n hM (pc := 59) dX12_aDuel_59 rfl rfl (pj_cVv hM (pc := 60) (cM_ahead (pj_set p2 60 0 5605 (pj_wr (p4 - 13))) p8 h9) dX12_aDuel_60 mf_X12_ahead mv_X12_ahead ml_X12_154 kc_26 rfl rfl (by decide) rfl rfl (pj_iconst hM (pc := 63) dX12_aDuel_63 (by decide) (pj_ret hM (pc := 64) dX12_aDuel_64 ⟨_, rfl, Or.inr rfl⟩ (h0 ((1, p8)) hr) rfl))))))))))))
    refine pj_map (fun k => pj_ic_le_f hM (pc := 38) 47 dX12_aDuel_38 rfl h7 (pj_kill hM [true, false] (lls' := [(26, 0), (9, 0)]) rfl k)) ?_
    exact tM_aDuel_41 hM p2 _ h0
  refine pj_tbind (fun p10 h11 => ?_)
  refine pj_tgd (fun h12 => ?_)
  exact pj_tret (fun hr => pj_if_eq_f hM (pc := 4) 13 dX12_aDuel_4 rfl h1 (pj_aload_n hM (pc := 7) dX12_aDuel_7 rfl rfl (pj_iconst hM (pc := 8) dX12_aDuel_8 (by decide) (pj_cV hM (pc := 9) (cM_fails 5 w p10 h11) dX12_aDuel_9 mf_X12_fails mv_X12_fails ml_X12_160 kc_26 rfl rfl (by decide) rfl rfl (pj_ret hM (pc := 12) dX12_aDuel_12 ⟨_, rfl, h12⟩ (h0 ((p10.1, p10.2)) hr) rfl)))))
theorem cM_aDuel   (w : pj_W) (r : Int × pj_W) (h : fM_aDuel  w = some r) : pj_Cn l yX12_aDuel cX12_aDuel 2 (some .boolean) 5 111 true g [(26, 0)] w ((some (0, r.1) : Option pj_V), r.2) :=
  pj_Cn_of rfl (Nat.le_of_ble_eq_true rfl) (lls := [(26, 0), (9, 0)]) rfl (fun Go hM => tM_aDuel hM w (fun x => ((some (0, x.1) : Option pj_V), x.2) = ((some (0, r.1) : Option pj_V), r.2)) (fun r h => h) r h rfl)
noncomputable def fM_number_30  (w : pj_W) : Option (Int × pj_W) :=
  (fM_fails 4 w).bind fun p1 => (if p1.1 = 0 ∨ p1.1 = 1 then (some ((p1.1, p1.2))) else none)
noncomputable def fM_number (x1 : Int) (x2 : Int) (x3 : Int) (w : pj_W) : Option (Int × pj_W) :=
  if (w 26 0 12) = 3 then (if (w 26 0 15) < x2 then (fM_number_30 w) else (if (w 26 0 15) ≤ x3 then (if 0 ≤ x1 ∧ x1 < 8400 then ((fM_ahead (pj_set w 60 0 x1 (w 26 0 15))).bind fun p5 => (some ((1, p5)))) else none) else (fM_number_30 w))) else ((fM_fails 2 w).bind fun p7 => (if p7.1 = 0 ∨ p7.1 = 1 then (some ((p7.1, p7.2))) else none))
theorem tM_number_30 {Go : pj_C → Prop} (hM : pj_M l yX12_number cX12_number 4 (some .boolean) 2 42 true g n0 o Go)  (w : pj_W)  (R : Int × pj_W → Prop) (h0 : ∀ r, R (r) → ((some (0, r.1) : Option pj_V), r.2) = o) : pj_TG R (fM_number_30  w) (Go (30, [(26, 0), (9, 0), (9, 0), (9, 0)], [], w)) := by
  unfold fM_number_30
  refine pj_tbind (fun p1 h2 => ?_)
  refine pj_tgd (fun h3 => ?_)
  exact pj_tret (fun hr => pj_aload_n hM (pc := 30) dX12_number_30 rfl rfl (pj_iconst hM (pc := 31) dX12_number_31 (by decide) (pj_cV hM (pc := 32) (cM_fails 4 w p1 h2) dX12_number_32 mf_X12_fails mv_X12_fails ml_X12_160 kc_26 rfl rfl (by decide) rfl rfl (pj_ret hM (pc := 35) dX12_number_35 ⟨_, rfl, h3⟩ (h0 ((p1.1, p1.2)) hr) rfl))))
theorem tM_number {Go : pj_C → Prop} (hM : pj_M l yX12_number cX12_number 4 (some .boolean) 2 42 true g n0 o Go) (x1 : Int) (x2 : Int) (x3 : Int) (w : pj_W)  (R : Int × pj_W → Prop) (h0 : ∀ r, R (r) → ((some (0, r.1) : Option pj_V), r.2) = o) : pj_TG R (fM_number x1 x2 x3 w) (Go (0, [(26, 0), (0, x1), (0, x2), (0, x3)], [], w)) := by
  unfold fM_number
  refine pj_map (fun k => pj_aload_n hM (pc := 0) dX12_number_0 rfl rfl (pj_gf hM (pc := 1) (t := 0) dX12_number_1 fl_X12_123 (by decide) rfl 12 rfl (pj_iconst hM (pc := 4) dX12_number_4 (by decide) k))) ?_
  refine pj_tif (fun h1 => ?_) (fun h1 => ?_)
  · refine pj_map (fun k => pj_ic_eq_t hM (pc := 5) dX12_number_5 rfl h1 (pj_aload_n hM (pc := 14) dX12_number_14 rfl rfl (pj_gf hM (pc := 15) (t := 0) dX12_number_15 fl_X12_120 (by decide) rfl 15 rfl (pj_iload_n hM (pc := 18) dX12_number_18 rfl k)))) ?_
    refine pj_tif (fun h2 => ?_) (fun h2 => ?_)
    · refine pj_map (fun k => pj_ic_lt_t hM (pc := 19) dX12_number_19 rfl h2 (pj_kill hM [true, false, false, false] (lls' := [(26, 0), (9, 0), (9, 0), (9, 0)]) rfl k)) ?_
      exact tM_number_30 hM w _ h0
    refine pj_map (fun k => pj_ic_lt_f hM (pc := 19) 30 dX12_number_19 rfl h2 (pj_aload_n hM (pc := 22) dX12_number_22 rfl rfl (pj_gf hM (pc := 23) (t := 0) dX12_number_23 fl_X12_120 (by decide) rfl 15 rfl (pj_iload_n hM (pc := 26) dX12_number_26 rfl k)))) ?_
    refine pj_tif (fun h3 => ?_) (fun h3 => ?_)
    · refine pj_tgd (fun h4 => ?_)
      refine pj_tbind (fun p5 h6 => ?_)
      exact pj_tret (fun hr => pj_ic_le_t hM (pc := 27) dX12_number_27 rfl h3 (pj_aload_n hM (pc := 36) dX12_number_36 rfl rfl (pj_getF hM (pc := 37) (t := 60) dX12_number_37 fl_X12_7 (by decide) rfl rfl (pj_iload_n hM (pc := 40) dX12_number_40 rfl (pj_aload_n hM (pc := 41) dX12_number_41 rfl rfl (pj_gf hM (pc := 42) (t := 0) dX12_number_42 fl_X12_120 (by decide) rfl 15 rfl (pj_ias hM (pc := 45) dX12_number_45 ki_60 (by decide) h4 (pj_aload_n hM (pc := 46) dX12_number_46 rfl rfl (pj_cVv hM (pc := 47) (cM_ahead (pj_set w 60 0 x1 (w 26 0 15)) p5 h6) dX12_number_47 mf_X12_ahead mv_X12_ahead ml_X12_154 kc_26 rfl rfl (by decide) rfl rfl (pj_iconst hM (pc := 50) dX12_number_50 (by decide) (pj_ret hM (pc := 51) dX12_number_51 ⟨_, rfl, Or.inr rfl⟩ (h0 ((1, p5)) hr) rfl)))))))))))
    refine pj_map (fun k => pj_ic_le_f hM (pc := 27) 36 dX12_number_27 rfl h3 (pj_kill hM [true, false, false, false] (lls' := [(26, 0), (9, 0), (9, 0), (9, 0)]) rfl k)) ?_
    exact tM_number_30 hM w _ h0
  refine pj_tbind (fun p7 h8 => ?_)
  refine pj_tgd (fun h9 => ?_)
  exact pj_tret (fun hr => pj_ic_eq_f hM (pc := 5) 14 dX12_number_5 rfl h1 (pj_aload_n hM (pc := 8) dX12_number_8 rfl rfl (pj_iconst hM (pc := 9) dX12_number_9 (by decide) (pj_cV hM (pc := 10) (cM_fails 2 w p7 h8) dX12_number_10 mf_X12_fails mv_X12_fails ml_X12_160 kc_26 rfl rfl (by decide) rfl rfl (pj_ret hM (pc := 13) dX12_number_13 ⟨_, rfl, h9⟩ (h0 ((p7.1, p7.2)) hr) rfl)))))
theorem cM_number (x1 : Int) (x2 : Int) (x3 : Int)  (w : pj_W) (r : Int × pj_W) (h : fM_number x1 x2 x3 w = some r) : pj_Cn l yX12_number cX12_number 4 (some .boolean) 2 42 true g [(26, 0), (0, x1), (0, x2), (0, x3)] w ((some (0, r.1) : Option pj_V), r.2) :=
  pj_Cn_of rfl (Nat.le_of_ble_eq_true rfl) (lls := [(26, 0), (0, x1), (0, x2), (0, x3)]) rfl (fun Go hM => tM_number hM x1 x2 x3 w (fun x => ((some (0, x.1) : Option pj_V), x.2) = ((some (0, r.1) : Option pj_V), r.2)) (fun r h => h) r h rfl)
noncomputable def fM_wantWord (x2 : Int) (w : pj_W) : Option (Int × pj_W) :=
  (fM_inWords w).bind fun p1 => (if p1 = x2 then ((fM_ahead w).bind fun p4 => (some ((1, p4)))) else ((fM_fails 2 w).bind fun p6 => (if p6.1 = 0 ∨ p6.1 = 1 then (some ((p6.1, p6.2))) else none)))
theorem tM_wantWord {Go : pj_C → Prop} (hM : pj_M l yX12_wantWord cX12_wantWord 3 (some .boolean) 5 111 true g n0 o Go) (x2 : Int) (w : pj_W)  (R : Int × pj_W → Prop) (h0 : ∀ r, R (r) → ((some (0, r.1) : Option pj_V), r.2) = o) : pj_TG R (fM_wantWord x2 w) (Go (0, [(26, 0), (4, 0), (0, x2)], [], w)) := by
  unfold fM_wantWord
  refine pj_tbind (fun p1 h2 => ?_)
  refine pj_map (fun k => pj_aload_n hM (pc := 0) dX12_wantWord_0 rfl rfl (pj_aload_n hM (pc := 1) dX12_wantWord_1 rfl rfl (pj_cV hM (pc := 2) (cM_inWords w p1 h2) dX12_wantWord_2 mf_X12_inWords mv_X12_inWords ml_X12_163 kc_26 rfl rfl (by decide) rfl rfl (pj_iload_n hM (pc := 5) dX12_wantWord_5 rfl k)))) ?_
  refine pj_tif (fun h3 => ?_) (fun h3 => ?_)
  · refine pj_tbind (fun p4 h5 => ?_)
    exact pj_tret (fun hr => pj_ic_eq_t hM (pc := 6) dX12_wantWord_6 rfl h3 (pj_aload_n hM (pc := 15) dX12_wantWord_15 rfl rfl (pj_cVv hM (pc := 16) (cM_ahead w p4 h5) dX12_wantWord_16 mf_X12_ahead mv_X12_ahead ml_X12_154 kc_26 rfl rfl (by decide) rfl rfl (pj_iconst hM (pc := 19) dX12_wantWord_19 (by decide) (pj_ret hM (pc := 20) dX12_wantWord_20 ⟨_, rfl, Or.inr rfl⟩ (h0 ((1, p4)) hr) rfl)))))
  refine pj_tbind (fun p6 h7 => ?_)
  refine pj_tgd (fun h8 => ?_)
  exact pj_tret (fun hr => pj_ic_eq_f hM (pc := 6) 15 dX12_wantWord_6 rfl h3 (pj_aload_n hM (pc := 9) dX12_wantWord_9 rfl rfl (pj_iconst hM (pc := 10) dX12_wantWord_10 (by decide) (pj_cV hM (pc := 11) (cM_fails 2 w p6 h7) dX12_wantWord_11 mf_X12_fails mv_X12_fails ml_X12_160 kc_26 rfl rfl (by decide) rfl rfl (pj_ret hM (pc := 14) dX12_wantWord_14 ⟨_, rfl, h8⟩ (h0 ((p6.1, p6.2)) hr) rfl)))))
theorem cM_wantWord (x2 : Int)  (w : pj_W) (r : Int × pj_W) (h : fM_wantWord x2 w = some r) : pj_Cn l yX12_wantWord cX12_wantWord 3 (some .boolean) 5 111 true g [(26, 0), (4, 0), (0, x2)] w ((some (0, r.1) : Option pj_V), r.2) :=
  pj_Cn_of rfl (Nat.le_of_ble_eq_true rfl) (lls := [(26, 0), (4, 0), (0, x2)]) rfl (fun Go hM => tM_wantWord hM x2 w (fun x => ((some (0, x.1) : Option pj_V), x.2) = ((some (0, r.1) : Option pj_V), r.2)) (fun r h => h) r h rfl)
noncomputable def fM_atCell (x1 : Int) (w : pj_W) : Option (Int × pj_W) :=
  (fM_wantWord 7 w).bind fun p1 => (if p1.1 = 0 then (some ((0, p1.2))) else ((fM_number x1 0 (pj_wr ((p1.2 60 0 5600) - 1)) p1.2).bind fun p4 => (if p4.1 = 0 then (some ((0, p4.2))) else (some ((1, p4.2))))))
theorem tM_atCell {Go : pj_C → Prop} (hM : pj_M l yX12_atCell cX12_atCell 2 (some .boolean) 6 133 true g n0 o Go) (x1 : Int) (w : pj_W)  (R : Int × pj_W → Prop) (h0 : ∀ r, R (r) → ((some (0, r.1) : Option pj_V), r.2) = o) : pj_TG R (fM_atCell x1 w) (Go (0, [(26, 0), (0, x1)], [], w)) := by
  unfold fM_atCell
  refine pj_tbind (fun p1 h2 => ?_)
  refine pj_map (fun k => pj_aload_n hM (pc := 0) dX12_atCell_0 rfl rfl (pj_ldcS4 hM (pc := 1) dX12_atCell_1 rfl (pj_bipush hM (pc := 3) dX12_atCell_3 (by decide) (pj_cV hM (pc := 5) (cM_wantWord 7 w p1 h2) dX12_atCell_5 mf_X12_wantWord mv_X12_wantWord ml_X12_187 kc_26 rfl rfl (by decide) rfl rfl k)))) ?_
  refine pj_tif (fun h3 => ?_) (fun h3 => ?_)
  · exact pj_tret (fun hr => pj_if_eq_t hM (pc := 8) dX12_atCell_8 rfl h3 (pj_iconst hM (pc := 34) dX12_atCell_34 (by decide) (pj_ret hM (pc := 35) dX12_atCell_35 ⟨_, rfl, Or.inl rfl⟩ (h0 ((0, p1.2)) hr) rfl)))
  refine pj_tbind (fun p4 h5 => ?_)
  refine pj_map (fun k => pj_if_eq_f hM (pc := 8) 34 dX12_atCell_8 rfl h3 (pj_aload_n hM (pc := 11) dX12_atCell_11 rfl rfl (pj_iload_n hM (pc := 12) dX12_atCell_12 rfl (pj_iconst hM (pc := 13) dX12_atCell_13 (by decide) (pj_aload_n hM (pc := 14) dX12_atCell_14 rfl rfl (pj_getF hM (pc := 15) (t := 60) dX12_atCell_15 fl_X12_7 (by decide) rfl rfl (pj_sipush hM (pc := 18) dX12_atCell_18 (by decide) (pj_ial hM (pc := 21) dX12_atCell_21 ki_60 (by decide) (by decide) (pj_iconst hM (pc := 22) dX12_atCell_22 (by decide) (pj_isub hM (pc := 23) dX12_atCell_23 (pj_cV hM (pc := 24) (cM_number x1 0 (pj_wr ((p1.2 60 0 5600) - 1)) p1.2 p4 h5) dX12_atCell_24 mf_X12_number mv_X12_number ml_X12_191 kc_26 rfl rfl (by decide) rfl rfl k))))))))))) ?_
  refine pj_tif (fun h6 => ?_) (fun h6 => ?_)
  · exact pj_tret (fun hr => pj_if_eq_t hM (pc := 27) dX12_atCell_27 rfl h6 (pj_iconst hM (pc := 34) dX12_atCell_34 (by decide) (pj_ret hM (pc := 35) dX12_atCell_35 ⟨_, rfl, Or.inl rfl⟩ (h0 ((0, p4.2)) hr) rfl)))
  exact pj_tret (fun hr => pj_if_eq_f hM (pc := 27) 34 dX12_atCell_27 rfl h6 (pj_iconst hM (pc := 30) dX12_atCell_30 (by decide) (pj_goto hM (pc := 31) dX12_atCell_31 rfl (pj_ret hM (pc := 35) dX12_atCell_35 ⟨_, rfl, Or.inr rfl⟩ (h0 ((1, p4.2)) hr) rfl))))
theorem cM_atCell (x1 : Int)  (w : pj_W) (r : Int × pj_W) (h : fM_atCell x1 w = some r) : pj_Cn l yX12_atCell cX12_atCell 2 (some .boolean) 6 133 true g [(26, 0), (0, x1)] w ((some (0, r.1) : Option pj_V), r.2) :=
  pj_Cn_of rfl (Nat.le_of_ble_eq_true rfl) (lls := [(26, 0), (0, x1)]) rfl (fun Go hM => tM_atCell hM x1 w (fun x => ((some (0, x.1) : Option pj_V), x.2) = ((some (0, r.1) : Option pj_V), r.2)) (fun r h => h) r h rfl)
noncomputable def fM_nameHere_7b  (w : pj_W) (x1 : Int) (x3 : Int) : Option ((Int × Int) ⊕ (Int)) :=
  if (w 26 0 14) ≤ x3 then (some (Sum.inr (x1))) else ((fM_byteAt x3 w).bind fun p2 => (some (Sum.inl ((pj_lorl (pj_shll x1 8) p2), (pj_wr (x3 + 1))))))
noncomputable def fM_nameHere_7  (w : pj_W) (s : (Int × Int)) : Option (Int) := pj_Lp (fun s : (Int × Int) => fM_nameHere_7b  w s.1 s.2) s
noncomputable def fM_nameHere  (w : pj_W) : Option (Int) :=
  fM_nameHere_7 w (0, (w 26 0 13))
theorem tM_nameHere_7b {Go : pj_C → Prop} (hM : pj_M l yX12_nameHere cX12_nameHere 4 (some .long) 1 21 true g n0 o Go)  (w : pj_W) (x1 : Int) (x3 : Int)  (R : (Int × Int) ⊕ (Int) → Prop) (h0 : ∀ r, R (Sum.inr (r)) → ((some (1, r) : Option pj_V), w) = o) (hk7 : ∀ s, R (Sum.inl s) → Go (7, [(26, 0), (1, s.1), (9, 0), (0, s.2)], [], w)) : pj_TG R (fM_nameHere_7b  w x1 x3) (Go (7, [(26, 0), (1, x1), (9, 0), (0, x3)], [], w)) := by
  unfold fM_nameHere_7b
  refine pj_map (fun k => pj_iload_n hM (pc := 7) dX12_nameHere_7 rfl (pj_aload_n hM (pc := 8) dX12_nameHere_8 rfl rfl (pj_gf hM (pc := 9) (t := 0) dX12_nameHere_9 fl_X12_111 (by decide) rfl 14 rfl k))) ?_
  refine pj_tif (fun h1 => ?_) (fun h1 => ?_)
  · exact pj_tret (fun hr => pj_ic_ge_t hM (pc := 12) dX12_nameHere_12 rfl h1 (pj_lload_n hM (pc := 33) dX12_nameHere_33 rfl (pj_ret hM (pc := 34) dX12_nameHere_34 ⟨_, rfl⟩ (h0 (x1) hr) rfl)))
  refine pj_tbind (fun p2 h3 => ?_)
  exact pj_tret (fun hr => pj_ic_ge_f hM (pc := 12) 33 dX12_nameHere_12 rfl h1 (pj_lload_n hM (pc := 15) dX12_nameHere_15 rfl (pj_bipush hM (pc := 16) dX12_nameHere_16 (by decide) (pj_lshl hM (pc := 18) dX12_nameHere_18 (pj_aload_n hM (pc := 19) dX12_nameHere_19 rfl rfl (pj_iload_n hM (pc := 20) dX12_nameHere_20 rfl (pj_cV hM (pc := 21) (cM_byteAt x3 w p2 h3) dX12_nameHere_21 mf_X12_byteAt mv_X12_byteAt ml_X12_114 kc_26 rfl rfl (by decide) rfl rfl (pj_i2l hM (pc := 24) dX12_nameHere_24 (pj_lor hM (pc := 25) dX12_nameHere_25 (pj_lstore_n hM (pc := 26) dX12_nameHere_26 (by decide) (lls' := [(26, 0), (1, (pj_lorl (pj_shll x1 8) p2)), (9, 0), (0, x3)]) rfl (pj_iinc hM (pc := 27) dX12_nameHere_27 rfl (by decide) (lls' := [(26, 0), (1, (pj_lorl (pj_shll x1 8) p2)), (9, 0), (0, (pj_wr (x3 + 1)))]) rfl (pj_goto hM (pc := 30) dX12_nameHere_30 rfl (pj_kill hM [true, true, false, true] (lls' := [(26, 0), (1, (pj_lorl (pj_shll x1 8) p2)), (9, 0), (0, (pj_wr (x3 + 1)))]) rfl ((hk7 _ hr)))))))))))))))
theorem tM_nameHere_7 {Go : pj_C → Prop} (hM : pj_M l yX12_nameHere cX12_nameHere 4 (some .long) 1 21 true g n0 o Go)  (w : pj_W)  (R : Int → Prop) (h0 : ∀ r, R (r) → ((some (1, r) : Option pj_V), w) = o) (s : (Int × Int)) : pj_TG R (fM_nameHere_7  w s) (Go (7, [(26, 0), (1, s.1), (9, 0), (0, s.2)], [], w)) := by
  unfold fM_nameHere_7
  exact pj_tLp (G := fun s : (Int × Int) => Go (7, [(26, 0), (1, s.1), (9, 0), (0, s.2)], [], w)) (fun s => tM_nameHere_7b hM  w s.1 s.2  _ (fun r h => h0 r h)  (fun s h => h)) s
theorem tM_nameHere {Go : pj_C → Prop} (hM : pj_M l yX12_nameHere cX12_nameHere 4 (some .long) 1 21 true g n0 o Go)  (w : pj_W)  (R : Int → Prop) (h0 : ∀ r, R (r) → ((some (1, r) : Option pj_V), w) = o) : pj_TG R (fM_nameHere  w) (Go (0, [(26, 0), (9, 0), (9, 0), (9, 0)], [], w)) := by
  unfold fM_nameHere
  refine pj_map (fun k => pj_lconst hM (pc := 0) (z := 0) dX12_nameHere_0 rfl (by decide) (pj_lstore_n hM (pc := 1) dX12_nameHere_1 (by decide) (lls' := [(26, 0), (1, 0), (9, 0), (9, 0)]) rfl (pj_aload_n hM (pc := 2) dX12_nameHere_2 rfl rfl (pj_gf hM (pc := 3) (t := 0) dX12_nameHere_3 fl_X12_117 (by decide) rfl 13 rfl (pj_istore_n hM (pc := 6) dX12_nameHere_6 (by decide) (lls' := [(26, 0), (1, 0), (9, 0), (0, (w 26 0 13))]) rfl (pj_kill hM [true, true, false, true] (lls' := [(26, 0), (1, 0), (9, 0), (0, (w 26 0 13))]) rfl k)))))) ?_
  exact tM_nameHere_7 hM w _ h0 _
theorem cM_nameHere   (w : pj_W) (r : Int) (h : fM_nameHere  w = some r) : pj_Cn l yX12_nameHere cX12_nameHere 4 (some .long) 1 21 true g [(26, 0)] w ((some (1, r) : Option pj_V), w) :=
  pj_Cn_of rfl (Nat.le_of_ble_eq_true rfl) (lls := [(26, 0), (9, 0), (9, 0), (9, 0)]) rfl (fun Go hM => tM_nameHere hM w (fun x => ((some (1, x) : Option pj_V), w) = ((some (1, r) : Option pj_V), w)) (fun r h => h) r h rfl)
noncomputable def fM_findHere_2b (x1 : Int) (x2 : Int) (w : pj_W) (x3 : Int) : Option ((Int) ⊕ (Int)) :=
  if x2 ≤ x3 then (some (Sum.inr ((-1)))) else (if 0 ≤ (pj_wr (x1 + x3)) ∧ (pj_wr (x1 + x3)) < 80 then ((fM_nameHere w).bind fun p3 => (if (pj_cmp (w 61 0 (pj_wr (x1 + x3))) p3) = 0 then (some (Sum.inr (x3))) else (some (Sum.inl ((pj_wr (x3 + 1))))))) else none)
noncomputable def fM_findHere_2 (x1 : Int) (x2 : Int) (w : pj_W) (s : (Int)) : Option (Int) := pj_Lp (fun s : (Int) => fM_findHere_2b x1 x2 w s) s
noncomputable def fM_findHere (x1 : Int) (x2 : Int) (w : pj_W) : Option (Int) :=
  fM_findHere_2 x1 x2 w (0)
theorem tM_findHere_2b {Go : pj_C → Prop} (hM : pj_M l yX12_findHere cX12_findHere 4 (some .int) 2 44 true g n0 o Go) (x1 : Int) (x2 : Int) (w : pj_W) (x3 : Int)  (R : (Int) ⊕ (Int) → Prop) (h0 : ∀ r, R (Sum.inr (r)) → ((some (0, r) : Option pj_V), w) = o) (hk2 : ∀ s, R (Sum.inl s) → Go (2, [(26, 0), (0, x1), (0, x2), (0, s)], [], w)) : pj_TG R (fM_findHere_2b x1 x2 w x3) (Go (2, [(26, 0), (0, x1), (0, x2), (0, x3)], [], w)) := by
  unfold fM_findHere_2b
  refine pj_map (fun k => pj_iload_n hM (pc := 2) dX12_findHere_2 rfl (pj_iload_n hM (pc := 3) dX12_findHere_3 rfl k)) ?_
  refine pj_tif (fun h1 => ?_) (fun h1 => ?_)
  · exact pj_tret (fun hr => pj_ic_ge_t hM (pc := 4) dX12_findHere_4 rfl h1 (pj_iconst hM (pc := 31) dX12_findHere_31 (by decide) (pj_ret hM (pc := 32) dX12_findHere_32 ⟨_, rfl⟩ (h0 ((-1)) hr) rfl)))
  refine pj_tgd (fun h2 => ?_)
  refine pj_tbind (fun p3 h4 => ?_)
  refine pj_map (fun k => pj_ic_ge_f hM (pc := 4) 31 dX12_findHere_4 rfl h1 (pj_aload_n hM (pc := 7) dX12_findHere_7 rfl rfl (pj_getF hM (pc := 8) (t := 61) dX12_findHere_8 fl_X12_13 (by decide) rfl rfl (pj_iload_n hM (pc := 11) dX12_findHere_11 rfl (pj_iload_n hM (pc := 12) dX12_findHere_12 rfl (pj_iadd hM (pc := 13) dX12_findHere_13 (pj_lal hM (pc := 14) dX12_findHere_14 kl_61 (by decide) h2 (pj_aload_n hM (pc := 15) dX12_findHere_15 rfl rfl (pj_cV hM (pc := 16) (cM_nameHere w p3 h4) dX12_findHere_16 mf_X12_nameHere mv_X12_nameHere ml_X12_167 kc_26 rfl rfl (by decide) rfl rfl (pj_lcmp hM (pc := 19) dX12_findHere_19 k)))))))))) ?_
  refine pj_tif (fun h5 => ?_) (fun h5 => ?_)
  · exact pj_tret (fun hr => pj_if_ne_f hM (pc := 20) 25 dX12_findHere_20 rfl (fun q => q h5) (pj_iload_n hM (pc := 23) dX12_findHere_23 rfl (pj_ret hM (pc := 24) dX12_findHere_24 ⟨_, rfl⟩ (h0 (x3) hr) rfl)))
  exact pj_tret (fun hr => pj_if_ne_t hM (pc := 20) dX12_findHere_20 rfl h5 (pj_iinc hM (pc := 25) dX12_findHere_25 rfl (by decide) (lls' := [(26, 0), (0, x1), (0, x2), (0, (pj_wr (x3 + 1)))]) rfl (pj_goto hM (pc := 28) dX12_findHere_28 rfl (pj_kill hM [true, true, true, true] (lls' := [(26, 0), (0, x1), (0, x2), (0, (pj_wr (x3 + 1)))]) rfl ((hk2 _ hr))))))
theorem tM_findHere_2 {Go : pj_C → Prop} (hM : pj_M l yX12_findHere cX12_findHere 4 (some .int) 2 44 true g n0 o Go) (x1 : Int) (x2 : Int) (w : pj_W)  (R : Int → Prop) (h0 : ∀ r, R (r) → ((some (0, r) : Option pj_V), w) = o) (s : (Int)) : pj_TG R (fM_findHere_2 x1 x2 w s) (Go (2, [(26, 0), (0, x1), (0, x2), (0, s)], [], w)) := by
  unfold fM_findHere_2
  exact pj_tLp (G := fun s : (Int) => Go (2, [(26, 0), (0, x1), (0, x2), (0, s)], [], w)) (fun s => tM_findHere_2b hM x1 x2 w s  _ (fun r h => h0 r h)  (fun s h => h)) s
theorem tM_findHere {Go : pj_C → Prop} (hM : pj_M l yX12_findHere cX12_findHere 4 (some .int) 2 44 true g n0 o Go) (x1 : Int) (x2 : Int) (w : pj_W)  (R : Int → Prop) (h0 : ∀ r, R (r) → ((some (0, r) : Option pj_V), w) = o) : pj_TG R (fM_findHere x1 x2 w) (Go (0, [(26, 0), (0, x1), (0, x2), (9, 0)], [], w)) := by
  unfold fM_findHere
  refine pj_map (fun k => pj_iconst hM (pc := 0) dX12_findHere_0 (by decide) (pj_istore_n hM (pc := 1) dX12_findHere_1 (by decide) (lls' := [(26, 0), (0, x1), (0, x2), (0, 0)]) rfl (pj_kill hM [true, true, true, true] (lls' := [(26, 0), (0, x1), (0, x2), (0, 0)]) rfl k))) ?_
  exact tM_findHere_2 hM x1 x2 w _ h0 _
theorem cM_findHere (x1 : Int) (x2 : Int)  (w : pj_W) (r : Int) (h : fM_findHere x1 x2 w = some r) : pj_Cn l yX12_findHere cX12_findHere 4 (some .int) 2 44 true g [(26, 0), (0, x1), (0, x2)] w ((some (0, r) : Option pj_V), w) :=
  pj_Cn_of rfl (Nat.le_of_ble_eq_true rfl) (lls := [(26, 0), (0, x1), (0, x2), (9, 0)]) rfl (fun Go hM => tM_findHere hM x1 x2 w (fun x => ((some (0, x) : Option pj_V), w) = ((some (0, r) : Option pj_V), w)) (fun r h => h) r h rfl)
noncomputable def fM_isName  (w : pj_W) : Option (Int) :=
  if (w 26 0 12) = 2 then (if 8 < (pj_wr ((w 26 0 14) - (w 26 0 13))) then (some (0)) else ((fM_inWords w).bind fun p3 => (if p3 = (-1) then (some (1)) else (some (0))))) else (some (0))
theorem tM_isName {Go : pj_C → Prop} (hM : pj_M l yX12_isName cX12_isName 2 (some .boolean) 5 111 true g n0 o Go)  (w : pj_W)  (R : Int → Prop) (h0 : ∀ r, R (r) → ((some (0, r) : Option pj_V), w) = o) : pj_TG R (fM_isName  w) (Go (0, [(26, 0), (4, 0)], [], w)) := by
  unfold fM_isName
  refine pj_map (fun k => pj_aload_n hM (pc := 0) dX12_isName_0 rfl rfl (pj_gf hM (pc := 1) (t := 0) dX12_isName_1 fl_X12_123 (by decide) rfl 12 rfl (pj_iconst hM (pc := 4) dX12_isName_4 (by decide) k))) ?_
  refine pj_tif (fun h1 => ?_) (fun h1 => ?_)
  · refine pj_map (fun k => pj_ic_ne_f hM (pc := 5) 35 dX12_isName_5 rfl (fun q => q h1) (pj_aload_n hM (pc := 8) dX12_isName_8 rfl rfl (pj_gf hM (pc := 9) (t := 0) dX12_isName_9 fl_X12_111 (by decide) rfl 14 rfl (pj_aload_n hM (pc := 12) dX12_isName_12 rfl rfl (pj_gf hM (pc := 13) (t := 0) dX12_isName_13 fl_X12_117 (by decide) rfl 13 rfl (pj_isub hM (pc := 16) dX12_isName_16 (pj_bipush hM (pc := 17) dX12_isName_17 (by decide) k))))))) ?_
    refine pj_tif (fun h2 => ?_) (fun h2 => ?_)
    · exact pj_tret (fun hr => pj_ic_gt_t hM (pc := 19) dX12_isName_19 rfl h2 (pj_iconst hM (pc := 35) dX12_isName_35 (by decide) (pj_ret hM (pc := 36) dX12_isName_36 ⟨_, rfl, Or.inl rfl⟩ (h0 (0) hr) rfl)))
    refine pj_tbind (fun p3 h4 => ?_)
    refine pj_map (fun k => pj_ic_gt_f hM (pc := 19) 35 dX12_isName_19 rfl h2 (pj_aload_n hM (pc := 22) dX12_isName_22 rfl rfl (pj_aload_n hM (pc := 23) dX12_isName_23 rfl rfl (pj_cV hM (pc := 24) (cM_inWords w p3 h4) dX12_isName_24 mf_X12_inWords mv_X12_inWords ml_X12_163 kc_26 rfl rfl (by decide) rfl rfl (pj_iconst hM (pc := 27) dX12_isName_27 (by decide) k))))) ?_
    refine pj_tif (fun h5 => ?_) (fun h5 => ?_)
    · exact pj_tret (fun hr => pj_ic_ne_f hM (pc := 28) 35 dX12_isName_28 rfl (fun q => q h5) (pj_iconst hM (pc := 31) dX12_isName_31 (by decide) (pj_goto hM (pc := 32) dX12_isName_32 rfl (pj_ret hM (pc := 36) dX12_isName_36 ⟨_, rfl, Or.inr rfl⟩ (h0 (1) hr) rfl))))
    exact pj_tret (fun hr => pj_ic_ne_t hM (pc := 28) dX12_isName_28 rfl h5 (pj_iconst hM (pc := 35) dX12_isName_35 (by decide) (pj_ret hM (pc := 36) dX12_isName_36 ⟨_, rfl, Or.inl rfl⟩ (h0 (0) hr) rfl)))
  exact pj_tret (fun hr => pj_ic_ne_t hM (pc := 5) dX12_isName_5 rfl h1 (pj_iconst hM (pc := 35) dX12_isName_35 (by decide) (pj_ret hM (pc := 36) dX12_isName_36 ⟨_, rfl, Or.inl rfl⟩ (h0 (0) hr) rfl)))
theorem cM_isName   (w : pj_W) (r : Int) (h : fM_isName  w = some r) : pj_Cn l yX12_isName cX12_isName 2 (some .boolean) 5 111 true g [(26, 0), (4, 0)] w ((some (0, r) : Option pj_V), w) :=
  pj_Cn_of rfl (Nat.le_of_ble_eq_true rfl) (lls := [(26, 0), (4, 0)]) rfl (fun Go hM => tM_isName hM w (fun x => ((some (0, x) : Option pj_V), w) = ((some (0, r) : Option pj_V), w)) (fun r h => h) r h rfl)
noncomputable def fM_newOne_76  (w : pj_W) : Option (Int × pj_W) :=
  (fM_fails 3 w).bind fun p1 => (if p1.1 = 0 ∨ p1.1 = 1 then (some ((p1.1, p1.2))) else none)
noncomputable def fM_newOne (x1 : Int) (x2 : Int) (x3 : Int) (w : pj_W) : Option (Int × pj_W) :=
  if 0 ≤ (pj_wr (5600 + x1)) ∧ (pj_wr (5600 + x1)) < 8400 then (if (w 60 0 (pj_wr (5600 + x1))) = x2 then ((fM_fails 6 w).bind fun p3 => (if p3.1 = 0 ∨ p3.1 = 1 then (some ((p3.1, p3.2))) else none)) else ((fM_ahead w).bind fun p6 => ((fM_isName p6).bind fun p8 => (if p8 = 0 then ((fM_fails 2 p6).bind fun p11 => (if p11.1 = 0 ∨ p11.1 = 1 then (some ((p11.1, p11.2))) else none)) else ((fM_findHere 56 (p6 60 0 5601) p6).bind fun p14 => (if p14 = (-1) then ((fM_findHere 62 (p6 60 0 5602) p6).bind fun p17 => (if p17 = (-1) then ((fM_nameHere p6).bind fun p20 => (if 0 ≤ (pj_wr ((pj_wr (56 + x3)) + (p6 60 0 (pj_wr (5600 + x1))))) ∧ (pj_wr ((pj_wr (56 + x3)) + (p6 60 0 (pj_wr (5600 + x1))))) < 80 then ((fM_ahead (pj_set p6 61 0 (pj_wr ((pj_wr (56 + x3)) + (p6 60 0 (pj_wr (5600 + x1))))) p20)).bind fun p23 => (some ((1, p23)))) else none)) else (fM_newOne_76 p6))) else (fM_newOne_76 p6))))))) else none
theorem tM_newOne_76 {Go : pj_C → Prop} (hM : pj_M l yX12_newOne cX12_newOne 4 (some .boolean) 6 132 true g n0 o Go)  (w : pj_W)  (R : Int × pj_W → Prop) (h0 : ∀ r, R (r) → ((some (0, r.1) : Option pj_V), r.2) = o) : pj_TG R (fM_newOne_76  w) (Go (76, [(26, 0), (9, 0), (9, 0), (9, 0)], [], w)) := by
  unfold fM_newOne_76
  refine pj_tbind (fun p1 h2 => ?_)
  refine pj_tgd (fun h3 => ?_)
  exact pj_tret (fun hr => pj_aload_n hM (pc := 76) dX12_newOne_76 rfl rfl (pj_iconst hM (pc := 77) dX12_newOne_77 (by decide) (pj_cV hM (pc := 78) (cM_fails 3 w p1 h2) dX12_newOne_78 mf_X12_fails mv_X12_fails ml_X12_160 kc_26 rfl rfl (by decide) rfl rfl (pj_ret hM (pc := 81) dX12_newOne_81 ⟨_, rfl, h3⟩ (h0 ((p1.1, p1.2)) hr) rfl))))
theorem tM_newOne {Go : pj_C → Prop} (hM : pj_M l yX12_newOne cX12_newOne 4 (some .boolean) 6 132 true g n0 o Go) (x1 : Int) (x2 : Int) (x3 : Int) (w : pj_W)  (R : Int × pj_W → Prop) (h0 : ∀ r, R (r) → ((some (0, r.1) : Option pj_V), r.2) = o) : pj_TG R (fM_newOne x1 x2 x3 w) (Go (0, [(26, 0), (0, x1), (0, x2), (0, x3)], [], w)) := by
  unfold fM_newOne
  refine pj_tgd (fun h1 => ?_)
  refine pj_map (fun k => pj_aload_n hM (pc := 0) dX12_newOne_0 rfl rfl (pj_getF hM (pc := 1) (t := 60) dX12_newOne_1 fl_X12_7 (by decide) rfl rfl (pj_sipush hM (pc := 4) dX12_newOne_4 (by decide) (pj_iload_n hM (pc := 7) dX12_newOne_7 rfl (pj_iadd hM (pc := 8) dX12_newOne_8 (pj_ial hM (pc := 9) dX12_newOne_9 ki_60 (by decide) h1 (pj_iload_n hM (pc := 10) dX12_newOne_10 rfl k))))))) ?_
  refine pj_tif (fun h2 => ?_) (fun h2 => ?_)
  · refine pj_tbind (fun p3 h4 => ?_)
    refine pj_tgd (fun h5 => ?_)
    exact pj_tret (fun hr => pj_ic_ne_f hM (pc := 11) 21 dX12_newOne_11 rfl (fun q => q h2) (pj_aload_n hM (pc := 14) dX12_newOne_14 rfl rfl (pj_bipush hM (pc := 15) dX12_newOne_15 (by decide) (pj_cV hM (pc := 17) (cM_fails 6 w p3 h4) dX12_newOne_17 mf_X12_fails mv_X12_fails ml_X12_160 kc_26 rfl rfl (by decide) rfl rfl (pj_ret hM (pc := 20) dX12_newOne_20 ⟨_, rfl, h5⟩ (h0 ((p3.1, p3.2)) hr) rfl)))))
  refine pj_tbind (fun p6 h7 => ?_)
  refine pj_tbind (fun p8 h9 => ?_)
  refine pj_map (fun k => pj_ic_ne_t hM (pc := 11) dX12_newOne_11 rfl h2 (pj_aload_n hM (pc := 21) dX12_newOne_21 rfl rfl (pj_cVv hM (pc := 22) (cM_ahead w p6 h7) dX12_newOne_22 mf_X12_ahead mv_X12_ahead ml_X12_154 kc_26 rfl rfl (by decide) rfl rfl (pj_aload_n hM (pc := 25) dX12_newOne_25 rfl rfl (pj_ldcS4 hM (pc := 26) dX12_newOne_26 rfl (pj_cV hM (pc := 28) (cM_isName p6 p8 h9) dX12_newOne_28 mf_X12_isName mv_X12_isName ml_X12_180 kc_26 rfl rfl (by decide) rfl rfl k)))))) ?_
  refine pj_tif (fun h10 => ?_) (fun h10 => ?_)
  · refine pj_tbind (fun p11 h12 => ?_)
    refine pj_tgd (fun h13 => ?_)
    exact pj_tret (fun hr => pj_if_ne_f hM (pc := 31) 40 dX12_newOne_31 rfl (fun q => q h10) (pj_aload_n hM (pc := 34) dX12_newOne_34 rfl rfl (pj_iconst hM (pc := 35) dX12_newOne_35 (by decide) (pj_cV hM (pc := 36) (cM_fails 2 p6 p11 h12) dX12_newOne_36 mf_X12_fails mv_X12_fails ml_X12_160 kc_26 rfl rfl (by decide) rfl rfl (pj_ret hM (pc := 39) dX12_newOne_39 ⟨_, rfl, h13⟩ (h0 ((p11.1, p11.2)) hr) rfl)))))
  refine pj_tbind (fun p14 h15 => ?_)
  refine pj_map (fun k => pj_if_ne_t hM (pc := 31) dX12_newOne_31 rfl h10 (pj_aload_n hM (pc := 40) dX12_newOne_40 rfl rfl (pj_bipush hM (pc := 41) dX12_newOne_41 (by decide) (pj_aload_n hM (pc := 43) dX12_newOne_43 rfl rfl (pj_getF hM (pc := 44) (t := 60) dX12_newOne_44 fl_X12_7 (by decide) rfl rfl (pj_sipush hM (pc := 47) dX12_newOne_47 (by decide) (pj_ial hM (pc := 50) dX12_newOne_50 ki_60 (by decide) (by decide) (pj_cV hM (pc := 51) (cM_findHere 56 (p6 60 0 5601) p6 p14 h15) dX12_newOne_51 mf_X12_findHere mv_X12_findHere ml_X12_184 kc_26 rfl rfl (by decide) rfl rfl (pj_iconst hM (pc := 54) dX12_newOne_54 (by decide) k))))))))) ?_
  refine pj_tif (fun h16 => ?_) (fun h16 => ?_)
  · refine pj_tbind (fun p17 h18 => ?_)
    refine pj_map (fun k => pj_ic_ne_f hM (pc := 55) 76 dX12_newOne_55 rfl (fun q => q h16) (pj_aload_n hM (pc := 58) dX12_newOne_58 rfl rfl (pj_bipush hM (pc := 59) dX12_newOne_59 (by decide) (pj_aload_n hM (pc := 61) dX12_newOne_61 rfl rfl (pj_getF hM (pc := 62) (t := 60) dX12_newOne_62 fl_X12_7 (by decide) rfl rfl (pj_sipush hM (pc := 65) dX12_newOne_65 (by decide) (pj_ial hM (pc := 68) dX12_newOne_68 ki_60 (by decide) (by decide) (pj_cV hM (pc := 69) (cM_findHere 62 (p6 60 0 5602) p6 p17 h18) dX12_newOne_69 mf_X12_findHere mv_X12_findHere ml_X12_184 kc_26 rfl rfl (by decide) rfl rfl (pj_iconst hM (pc := 72) dX12_newOne_72 (by decide) k))))))))) ?_
    refine pj_tif (fun h19 => ?_) (fun h19 => ?_)
    · refine pj_tbind (fun p20 h21 => ?_)
      refine pj_tgd (fun h22 => ?_)
      refine pj_tbind (fun p23 h24 => ?_)
      exact pj_tret (fun hr => pj_ic_eq_t hM (pc := 73) dX12_newOne_73 rfl h19 (pj_aload_n hM (pc := 82) dX12_newOne_82 rfl rfl (pj_getF hM (pc := 83) (t := 61) dX12_newOne_83 fl_X12_13 (by decide) rfl rfl (pj_bipush hM (pc := 86) dX12_newOne_86 (by decide) (pj_iload_n hM (pc := 88) dX12_newOne_88 rfl (pj_iadd hM (pc := 89) dX12_newOne_89 (pj_aload_n hM (pc := 90) dX12_newOne_90 rfl rfl (pj_getF hM (pc := 91) (t := 60) dX12_newOne_91 fl_X12_7 (by decide) rfl rfl (pj_sipush hM (pc := 94) dX12_newOne_94 (by decide) (pj_iload_n hM (pc := 97) dX12_newOne_97 rfl (pj_iadd hM (pc := 98) dX12_newOne_98 (pj_ial hM (pc := 99) dX12_newOne_99 ki_60 (by decide) h1 (pj_iadd hM (pc := 100) dX12_newOne_100 (pj_aload_n hM (pc := 101) dX12_newOne_101 rfl rfl (pj_cV hM (pc := 102) (cM_nameHere p6 p20 h21) dX12_newOne_102 mf_X12_nameHere mv_X12_nameHere ml_X12_167 kc_26 rfl rfl (by decide) rfl rfl (pj_las hM (pc := 105) dX12_newOne_105 kl_61 (by decide) h22 (pj_aload_n hM (pc := 106) dX12_newOne_106 rfl rfl (pj_cVv hM (pc := 107) (cM_ahead (pj_set p6 61 0 (pj_wr ((pj_wr (56 + x3)) + (p6 60 0 (pj_wr (5600 + x1))))) p20) p23 h24) dX12_newOne_107 mf_X12_ahead mv_X12_ahead ml_X12_154 kc_26 rfl rfl (by decide) rfl rfl (pj_iconst hM (pc := 110) dX12_newOne_110 (by decide) (pj_ret hM (pc := 111) dX12_newOne_111 ⟨_, rfl, Or.inr rfl⟩ (h0 ((1, p23)) hr) rfl))))))))))))))))))))
    refine pj_map (fun k => pj_ic_eq_f hM (pc := 73) 82 dX12_newOne_73 rfl h19 (pj_kill hM [true, false, false, false] (lls' := [(26, 0), (9, 0), (9, 0), (9, 0)]) rfl k)) ?_
    exact tM_newOne_76 hM p6 _ h0
  refine pj_map (fun k => pj_ic_ne_t hM (pc := 55) dX12_newOne_55 rfl h16 (pj_kill hM [true, false, false, false] (lls' := [(26, 0), (9, 0), (9, 0), (9, 0)]) rfl k)) ?_
  exact tM_newOne_76 hM p6 _ h0
theorem cM_newOne (x1 : Int) (x2 : Int) (x3 : Int)  (w : pj_W) (r : Int × pj_W) (h : fM_newOne x1 x2 x3 w = some r) : pj_Cn l yX12_newOne cX12_newOne 4 (some .boolean) 6 132 true g [(26, 0), (0, x1), (0, x2), (0, x3)] w ((some (0, r.1) : Option pj_V), r.2) :=
  pj_Cn_of rfl (Nat.le_of_ble_eq_true rfl) (lls := [(26, 0), (0, x1), (0, x2), (0, x3)]) rfl (fun Go hM => tM_newOne hM x1 x2 x3 w (fun x => ((some (0, x.1) : Option pj_V), x.2) = ((some (0, r.1) : Option pj_V), r.2)) (fun r h => h) r h rfl)
noncomputable def fM_aFind  (w : pj_W) : Option (Int × pj_W) :=
  (fM_findRow 5600 (w 60 0 5602) w).bind fun p1 => ((fM_newOne 2 8 6 w).bind fun p3 => (if p3.1 = 0 then (some ((0, p3.2))) else ((fM_atCell p1 p3.2).bind fun p6 => (if p6.1 = 0 then (some ((0, p6.2))) else ((fM_wantWord 10 p6.2).bind fun p9 => (if p9.1 = 0 then (some ((0, p9.2))) else ((fM_number (pj_wr (p1 + 1)) 0 999 p9.2).bind fun p12 => (if p12.1 = 0 then (some ((0, p12.2))) else ((some (pj_set (pj_set p12.2 60 0 5607 (pj_or (p12.2 60 0 5607) (pj_shl 1 (p12.2 60 0 5602)))) 60 0 5602 (pj_wr (((pj_set p12.2 60 0 5607 (pj_or (p12.2 60 0 5607) (pj_shl 1 (p12.2 60 0 5602)))) 60 0 5602) + 1)))).bind fun w15 => (some ((1, w15))))))))))))
theorem tM_aFind {Go : pj_C → Prop} (hM : pj_M l yX12_aFind cX12_aFind 2 (some .boolean) 7 155 true g n0 o Go)  (w : pj_W)  (R : Int × pj_W → Prop) (h0 : ∀ r, R (r) → ((some (0, r.1) : Option pj_V), r.2) = o) : pj_TG R (fM_aFind  w) (Go (0, [(26, 0), (9, 0)], [], w)) := by
  unfold fM_aFind
  refine pj_tbind (fun p1 h2 => ?_)
  refine pj_tbind (fun p3 h4 => ?_)
  refine pj_map (fun k => pj_sipush hM (pc := 0) dX12_aFind_0 (by decide) (pj_aload_n hM (pc := 3) dX12_aFind_3 rfl rfl (pj_getF hM (pc := 4) (t := 60) dX12_aFind_4 fl_X12_7 (by decide) rfl rfl (pj_sipush hM (pc := 7) dX12_aFind_7 (by decide) (pj_ial hM (pc := 10) dX12_aFind_10 ki_60 (by decide) (by decide) (pj_cS hM (pc := 11) (cM_findRow 5600 (w 60 0 5602) w p1 h2) dX12_aFind_11 mf_X12_findRow ms_X12_findRow ml_X12_171 rfl rfl rfl rfl (pj_istore_n hM (pc := 14) dX12_aFind_14 (by decide) (lls' := [(26, 0), (0, p1)]) rfl (pj_aload_n hM (pc := 15) dX12_aFind_15 rfl rfl (pj_iconst hM (pc := 16) dX12_aFind_16 (by decide) (pj_bipush hM (pc := 17) dX12_aFind_17 (by decide) (pj_bipush hM (pc := 19) dX12_aFind_19 (by decide) (pj_cV hM (pc := 21) (cM_newOne 2 8 6 w p3 h4) dX12_aFind_21 mf_X12_newOne mv_X12_newOne ml_X12_198 kc_26 rfl rfl (by decide) rfl rfl k)))))))))))) ?_
  refine pj_tif (fun h5 => ?_) (fun h5 => ?_)
  · exact pj_tret (fun hr => pj_if_eq_t hM (pc := 24) dX12_aFind_24 rfl h5 (pj_iconst hM (pc := 35) dX12_aFind_35 (by decide) (pj_ret hM (pc := 36) dX12_aFind_36 ⟨_, rfl, Or.inl rfl⟩ (h0 ((0, p3.2)) hr) rfl)))
  refine pj_tbind (fun p6 h7 => ?_)
  refine pj_map (fun k => pj_if_eq_f hM (pc := 24) 35 dX12_aFind_24 rfl h5 (pj_aload_n hM (pc := 27) dX12_aFind_27 rfl rfl (pj_iload_n hM (pc := 28) dX12_aFind_28 rfl (pj_cV hM (pc := 29) (cM_atCell p1 p3.2 p6 h7) dX12_aFind_29 mf_X12_atCell mv_X12_atCell ml_X12_201 kc_26 rfl rfl (by decide) rfl rfl k)))) ?_
  refine pj_tif (fun h8 => ?_) (fun h8 => ?_)
  · exact pj_tret (fun hr => pj_if_ne_f hM (pc := 32) 37 dX12_aFind_32 rfl (fun q => q h8) (pj_iconst hM (pc := 35) dX12_aFind_35 (by decide) (pj_ret hM (pc := 36) dX12_aFind_36 ⟨_, rfl, Or.inl rfl⟩ (h0 ((0, p6.2)) hr) rfl)))
  refine pj_tbind (fun p9 h10 => ?_)
  refine pj_map (fun k => pj_if_ne_t hM (pc := 32) dX12_aFind_32 rfl h8 (pj_aload_n hM (pc := 37) dX12_aFind_37 rfl rfl (pj_ldcS4 hM (pc := 38) dX12_aFind_38 rfl (pj_bipush hM (pc := 40) dX12_aFind_40 (by decide) (pj_cV hM (pc := 42) (cM_wantWord 10 p6.2 p9 h10) dX12_aFind_42 mf_X12_wantWord mv_X12_wantWord ml_X12_187 kc_26 rfl rfl (by decide) rfl rfl k))))) ?_
  refine pj_tif (fun h11 => ?_) (fun h11 => ?_)
  · exact pj_tret (fun hr => pj_if_eq_t hM (pc := 45) dX12_aFind_45 rfl h11 (pj_iconst hM (pc := 62) dX12_aFind_62 (by decide) (pj_ret hM (pc := 63) dX12_aFind_63 ⟨_, rfl, Or.inl rfl⟩ (h0 ((0, p9.2)) hr) rfl)))
  refine pj_tbind (fun p12 h13 => ?_)
  refine pj_map (fun k => pj_if_eq_f hM (pc := 45) 62 dX12_aFind_45 rfl h11 (pj_aload_n hM (pc := 48) dX12_aFind_48 rfl rfl (pj_iload_n hM (pc := 49) dX12_aFind_49 rfl (pj_iconst hM (pc := 50) dX12_aFind_50 (by decide) (pj_iadd hM (pc := 51) dX12_aFind_51 (pj_iconst hM (pc := 52) dX12_aFind_52 (by decide) (pj_sipush hM (pc := 53) dX12_aFind_53 (by decide) (pj_cV hM (pc := 56) (cM_number (pj_wr (p1 + 1)) 0 999 p9.2 p12 h13) dX12_aFind_56 mf_X12_number mv_X12_number ml_X12_191 kc_26 rfl rfl (by decide) rfl rfl k)))))))) ?_
  refine pj_tif (fun h14 => ?_) (fun h14 => ?_)
  · exact pj_tret (fun hr => pj_if_ne_f hM (pc := 59) 64 dX12_aFind_59 rfl (fun q => q h14) (pj_iconst hM (pc := 62) dX12_aFind_62 (by decide) (pj_ret hM (pc := 63) dX12_aFind_63 ⟨_, rfl, Or.inl rfl⟩ (h0 ((0, p12.2)) hr) rfl)))
  refine pj_map (fun k => pj_if_ne_t hM (pc := 59) dX12_aFind_59 rfl h14 (pj_aload_n hM (pc := 64) dX12_aFind_64 rfl rfl (pj_getF hM (pc := 65) (t := 60) dX12_aFind_65 fl_X12_7 (by decide) rfl rfl (pj_sipush hM (pc := 68) dX12_aFind_68 (by decide) (pj_dup2 hM (pc := 71) dX12_aFind_71 (by decide) (by decide) (pj_ial hM (pc := 72) dX12_aFind_72 ki_60 (by decide) (by decide) (pj_iconst hM (pc := 73) dX12_aFind_73 (by decide) (pj_aload_n hM (pc := 74) dX12_aFind_74 rfl rfl (pj_getF hM (pc := 75) (t := 60) dX12_aFind_75 fl_X12_7 (by decide) rfl rfl (pj_sipush hM (pc := 78) dX12_aFind_78 (by decide) (pj_ial hM (pc := 81) dX12_aFind_81 ki_60 (by decide) (by decide) (pj_ishl hM (pc := 82) dX12_aFind_82 (pj_ior hM (pc := 83) dX12_aFind_83 (pj_ias hM (pc := 84) dX12_aFind_84 ki_60 (by decide) (by decide) (pj_aload_n hM (pc := 85) dX12_aFind_85 rfl rfl (pj_getF hM (pc := 86) (t := 60) dX12_aFind_86 fl_X12_7 (by decide) rfl rfl (pj_sipush hM (pc := 89) dX12_aFind_89 (by decide) (pj_dup2 hM (pc := 92) dX12_aFind_92 (by decide) (by decide) (pj_ial hM (pc := 93) dX12_aFind_93 ki_60 (by decide) (by decide) (pj_iconst hM (pc := 94) dX12_aFind_94 (by decide) (pj_iadd hM (pc := 95) dX12_aFind_95 (pj_ias hM (pc := 96) dX12_aFind_96 ki_60 (by decide) (by decide) k)))))))))))))))))))))) ?_
  refine pj_tlet (fun w15 => Go (97, [(26, 0), (0, p1)], [], w15)) (fun w15 => ?_)
  exact pj_tret (fun hr => pj_iconst hM (pc := 97) dX12_aFind_97 (by decide) (pj_ret hM (pc := 98) dX12_aFind_98 ⟨_, rfl, Or.inr rfl⟩ (h0 ((1, w15)) hr) rfl))
theorem cM_aFind   (w : pj_W) (r : Int × pj_W) (h : fM_aFind  w = some r) : pj_Cn l yX12_aFind cX12_aFind 2 (some .boolean) 7 155 true g [(26, 0)] w ((some (0, r.1) : Option pj_V), r.2) :=
  pj_Cn_of rfl (Nat.le_of_ble_eq_true rfl) (lls := [(26, 0), (9, 0)]) rfl (fun Go hM => tM_aFind hM w (fun x => ((some (0, x.1) : Option pj_V), x.2) = ((some (0, r.1) : Option pj_V), r.2)) (fun r h => h) r h rfl)
noncomputable def fM_aFinder  (w : pj_W) : Option (Int × pj_W) :=
  (fM_newOne 1 6 0 w).bind fun p1 => (if p1.1 = 0 then (some ((0, p1.2))) else ((fM_atCell (pj_wr (5610 + (pj_wr (5 * (w 60 0 5601))))) p1.2).bind fun p4 => (if p4.1 = 0 then (some ((0, p4.2))) else ((fM_wantWord 8 p4.2).bind fun p7 => (if p7.1 = 0 then (some ((0, p7.2))) else ((fM_number (pj_wr ((pj_wr (5610 + (pj_wr (5 * (w 60 0 5601))))) + 1)) 1 9 p7.2).bind fun p10 => (if p10.1 = 0 then (some ((0, p10.2))) else ((fM_wantWord 9 p10.2).bind fun p13 => (if p13.1 = 0 then (some ((0, p13.2))) else ((fM_number (pj_wr ((pj_wr (5610 + (pj_wr (5 * (w 60 0 5601))))) + 2)) 0 20 p13.2).bind fun p16 => (if p16.1 = 0 then (some ((0, p16.2))) else (some ((1, (pj_set p16.2 60 0 5601 (pj_wr ((p16.2 60 0 5601) + 1)))))))))))))))))
theorem tM_aFinder {Go : pj_C → Prop} (hM : pj_M l yX12_aFinder cX12_aFinder 2 (some .boolean) 7 155 true g n0 o Go)  (w : pj_W)  (R : Int × pj_W → Prop) (h0 : ∀ r, R (r) → ((some (0, r.1) : Option pj_V), r.2) = o) : pj_TG R (fM_aFinder  w) (Go (0, [(26, 0), (9, 0)], [], w)) := by
  unfold fM_aFinder
  refine pj_tbind (fun p1 h2 => ?_)
  refine pj_map (fun k => pj_sipush hM (pc := 0) dX12_aFinder_0 (by decide) (pj_iconst hM (pc := 3) dX12_aFinder_3 (by decide) (pj_aload_n hM (pc := 4) dX12_aFinder_4 rfl rfl (pj_getF hM (pc := 5) (t := 60) dX12_aFinder_5 fl_X12_7 (by decide) rfl rfl (pj_sipush hM (pc := 8) dX12_aFinder_8 (by decide) (pj_ial hM (pc := 11) dX12_aFinder_11 ki_60 (by decide) (by decide) (pj_imul hM (pc := 12) dX12_aFinder_12 (pj_iadd hM (pc := 13) dX12_aFinder_13 (pj_istore_n hM (pc := 14) dX12_aFinder_14 (by decide) (lls' := [(26, 0), (0, (pj_wr (5610 + (pj_wr (5 * (w 60 0 5601))))))]) rfl (pj_aload_n hM (pc := 15) dX12_aFinder_15 rfl rfl (pj_iconst hM (pc := 16) dX12_aFinder_16 (by decide) (pj_bipush hM (pc := 17) dX12_aFinder_17 (by decide) (pj_iconst hM (pc := 19) dX12_aFinder_19 (by decide) (pj_cV hM (pc := 20) (cM_newOne 1 6 0 w p1 h2) dX12_aFinder_20 mf_X12_newOne mv_X12_newOne ml_X12_198 kc_26 rfl rfl (by decide) rfl rfl k)))))))))))))) ?_
  refine pj_tif (fun h3 => ?_) (fun h3 => ?_)
  · exact pj_tret (fun hr => pj_if_eq_t hM (pc := 23) dX12_aFinder_23 rfl h3 (pj_iconst hM (pc := 34) dX12_aFinder_34 (by decide) (pj_ret hM (pc := 35) dX12_aFinder_35 ⟨_, rfl, Or.inl rfl⟩ (h0 ((0, p1.2)) hr) rfl)))
  refine pj_tbind (fun p4 h5 => ?_)
  refine pj_map (fun k => pj_if_eq_f hM (pc := 23) 34 dX12_aFinder_23 rfl h3 (pj_aload_n hM (pc := 26) dX12_aFinder_26 rfl rfl (pj_iload_n hM (pc := 27) dX12_aFinder_27 rfl (pj_cV hM (pc := 28) (cM_atCell (pj_wr (5610 + (pj_wr (5 * (w 60 0 5601))))) p1.2 p4 h5) dX12_aFinder_28 mf_X12_atCell mv_X12_atCell ml_X12_201 kc_26 rfl rfl (by decide) rfl rfl k)))) ?_
  refine pj_tif (fun h6 => ?_) (fun h6 => ?_)
  · exact pj_tret (fun hr => pj_if_ne_f hM (pc := 31) 36 dX12_aFinder_31 rfl (fun q => q h6) (pj_iconst hM (pc := 34) dX12_aFinder_34 (by decide) (pj_ret hM (pc := 35) dX12_aFinder_35 ⟨_, rfl, Or.inl rfl⟩ (h0 ((0, p4.2)) hr) rfl)))
  refine pj_tbind (fun p7 h8 => ?_)
  refine pj_map (fun k => pj_if_ne_t hM (pc := 31) dX12_aFinder_31 rfl h6 (pj_aload_n hM (pc := 36) dX12_aFinder_36 rfl rfl (pj_ldcS4 hM (pc := 37) dX12_aFinder_37 rfl (pj_bipush hM (pc := 39) dX12_aFinder_39 (by decide) (pj_cV hM (pc := 41) (cM_wantWord 8 p4.2 p7 h8) dX12_aFinder_41 mf_X12_wantWord mv_X12_wantWord ml_X12_187 kc_26 rfl rfl (by decide) rfl rfl k))))) ?_
  refine pj_tif (fun h9 => ?_) (fun h9 => ?_)
  · exact pj_tret (fun hr => pj_if_eq_t hM (pc := 44) dX12_aFinder_44 rfl h9 (pj_iconst hM (pc := 84) dX12_aFinder_84 (by decide) (pj_ret hM (pc := 85) dX12_aFinder_85 ⟨_, rfl, Or.inl rfl⟩ (h0 ((0, p7.2)) hr) rfl)))
  refine pj_tbind (fun p10 h11 => ?_)
  refine pj_map (fun k => pj_if_eq_f hM (pc := 44) 84 dX12_aFinder_44 rfl h9 (pj_aload_n hM (pc := 47) dX12_aFinder_47 rfl rfl (pj_iload_n hM (pc := 48) dX12_aFinder_48 rfl (pj_iconst hM (pc := 49) dX12_aFinder_49 (by decide) (pj_iadd hM (pc := 50) dX12_aFinder_50 (pj_iconst hM (pc := 51) dX12_aFinder_51 (by decide) (pj_bipush hM (pc := 52) dX12_aFinder_52 (by decide) (pj_cV hM (pc := 54) (cM_number (pj_wr ((pj_wr (5610 + (pj_wr (5 * (w 60 0 5601))))) + 1)) 1 9 p7.2 p10 h11) dX12_aFinder_54 mf_X12_number mv_X12_number ml_X12_191 kc_26 rfl rfl (by decide) rfl rfl k)))))))) ?_
  refine pj_tif (fun h12 => ?_) (fun h12 => ?_)
  · exact pj_tret (fun hr => pj_if_eq_t hM (pc := 57) dX12_aFinder_57 rfl h12 (pj_iconst hM (pc := 84) dX12_aFinder_84 (by decide) (pj_ret hM (pc := 85) dX12_aFinder_85 ⟨_, rfl, Or.inl rfl⟩ (h0 ((0, p10.2)) hr) rfl)))
  refine pj_tbind (fun p13 h14 => ?_)
  refine pj_map (fun k => pj_if_eq_f hM (pc := 57) 84 dX12_aFinder_57 rfl h12 (pj_aload_n hM (pc := 60) dX12_aFinder_60 rfl rfl (pj_ldcS4 hM (pc := 61) dX12_aFinder_61 rfl (pj_bipush hM (pc := 63) dX12_aFinder_63 (by decide) (pj_cV hM (pc := 65) (cM_wantWord 9 p10.2 p13 h14) dX12_aFinder_65 mf_X12_wantWord mv_X12_wantWord ml_X12_187 kc_26 rfl rfl (by decide) rfl rfl k))))) ?_
  refine pj_tif (fun h15 => ?_) (fun h15 => ?_)
  · exact pj_tret (fun hr => pj_if_eq_t hM (pc := 68) dX12_aFinder_68 rfl h15 (pj_iconst hM (pc := 84) dX12_aFinder_84 (by decide) (pj_ret hM (pc := 85) dX12_aFinder_85 ⟨_, rfl, Or.inl rfl⟩ (h0 ((0, p13.2)) hr) rfl)))
  refine pj_tbind (fun p16 h17 => ?_)
  refine pj_map (fun k => pj_if_eq_f hM (pc := 68) 84 dX12_aFinder_68 rfl h15 (pj_aload_n hM (pc := 71) dX12_aFinder_71 rfl rfl (pj_iload_n hM (pc := 72) dX12_aFinder_72 rfl (pj_iconst hM (pc := 73) dX12_aFinder_73 (by decide) (pj_iadd hM (pc := 74) dX12_aFinder_74 (pj_iconst hM (pc := 75) dX12_aFinder_75 (by decide) (pj_bipush hM (pc := 76) dX12_aFinder_76 (by decide) (pj_cV hM (pc := 78) (cM_number (pj_wr ((pj_wr (5610 + (pj_wr (5 * (w 60 0 5601))))) + 2)) 0 20 p13.2 p16 h17) dX12_aFinder_78 mf_X12_number mv_X12_number ml_X12_191 kc_26 rfl rfl (by decide) rfl rfl k)))))))) ?_
  refine pj_tif (fun h18 => ?_) (fun h18 => ?_)
  · exact pj_tret (fun hr => pj_if_ne_f hM (pc := 81) 86 dX12_aFinder_81 rfl (fun q => q h18) (pj_iconst hM (pc := 84) dX12_aFinder_84 (by decide) (pj_ret hM (pc := 85) dX12_aFinder_85 ⟨_, rfl, Or.inl rfl⟩ (h0 ((0, p16.2)) hr) rfl)))
  exact pj_tret (fun hr => pj_if_ne_t hM (pc := 81) dX12_aFinder_81 rfl h18 (pj_aload_n hM (pc := 86) dX12_aFinder_86 rfl rfl (pj_getF hM (pc := 87) (t := 60) dX12_aFinder_87 fl_X12_7 (by decide) rfl rfl (pj_sipush hM (pc := 90) dX12_aFinder_90 (by decide) (pj_dup2 hM (pc := 93) dX12_aFinder_93 (by decide) (by decide) (pj_ial hM (pc := 94) dX12_aFinder_94 ki_60 (by decide) (by decide) (pj_iconst hM (pc := 95) dX12_aFinder_95 (by decide) (pj_iadd hM (pc := 96) dX12_aFinder_96 (pj_ias hM (pc := 97) dX12_aFinder_97 ki_60 (by decide) (by decide) (pj_iconst hM (pc := 98) dX12_aFinder_98 (by decide) (pj_ret hM (pc := 99) dX12_aFinder_99 ⟨_, rfl, Or.inr rfl⟩ (h0 ((1, (pj_set p16.2 60 0 5601 (pj_wr ((p16.2 60 0 5601) + 1))))) hr) rfl)))))))))))
theorem cM_aFinder   (w : pj_W) (r : Int × pj_W) (h : fM_aFinder  w = some r) : pj_Cn l yX12_aFinder cX12_aFinder 2 (some .boolean) 7 155 true g [(26, 0)] w ((some (0, r.1) : Option pj_V), r.2) :=
  pj_Cn_of rfl (Nat.le_of_ble_eq_true rfl) (lls := [(26, 0), (9, 0)]) rfl (fun Go hM => tM_aFinder hM w (fun x => ((some (0, x.1) : Option pj_V), x.2) = ((some (0, r.1) : Option pj_V), r.2)) (fun r h => h) r h rfl)
noncomputable def fM_comes_102 (x1 : Int) (x2 : Int) (x3 : Int) (x4 : Int) (x5 : Int) (w : pj_W) : Option (pj_W) :=
  (fM_pebbleRow x1 x2 x5 w).bind fun p1 => (if 0 ≤ p1 ∧ p1 < 8400 then ((fM_pebbleRow x1 x2 x5 (pj_set w 60 0 p1 x3)).bind fun p4 => (if 0 ≤ (pj_wr (p4 + 1)) ∧ (pj_wr (p4 + 1)) < 8400 then ((fM_findRow x1 x2 (pj_set (pj_set w 60 0 p1 x3) 60 0 (pj_wr (p4 + 1)) x4)).bind fun p7 => (if 0 ≤ (pj_wr (p7 + 2)) ∧ (pj_wr (p7 + 2)) < 8400 then ((some (pj_set (pj_set (pj_set w 60 0 p1 x3) 60 0 (pj_wr (p4 + 1)) x4) 60 0 (pj_wr (p7 + 2)) (pj_wr (((pj_set (pj_set w 60 0 p1 x3) 60 0 (pj_wr (p4 + 1)) x4) 60 0 (pj_wr (p7 + 2))) + 1)))).bind fun w10 => (if 0 ≤ (pj_wr (x1 + 8)) ∧ (pj_wr (x1 + 8)) < 8400 then (some ((pj_set w10 60 0 (pj_wr (x1 + 8)) (pj_wr ((w10 60 0 (pj_wr (x1 + 8))) + 1))))) else none)) else none)) else none)) else none)
noncomputable def fM_comes_14b (x1 : Int) (x2 : Int) (x3 : Int) (x4 : Int) (x5 : Int) (w : pj_W) : Option ((Int × pj_W) ⊕ (pj_W)) :=
  if x5 ≤ 0 then ((fM_comes_102 x1 x2 x3 x4 x5 w).map Sum.inr) else ((fM_pebbleRow x1 x2 (pj_wr (x5 - 1)) w).bind fun p2 => (if 0 ≤ (pj_wr (p2 + 1)) ∧ (pj_wr (p2 + 1)) < 8400 then (if (w 60 0 (pj_wr (p2 + 1))) ≤ x4 then ((fM_comes_102 x1 x2 x3 x4 x5 w).map Sum.inr) else ((fM_pebbleRow x1 x2 x5 w).bind fun p6 => ((fM_pebbleRow x1 x2 (pj_wr (x5 - 1)) w).bind fun p8 => (if 0 ≤ p8 ∧ p8 < 8400 then (if 0 ≤ p6 ∧ p6 < 8400 then ((fM_pebbleRow x1 x2 x5 (pj_set w 60 0 p6 (w 60 0 p8))).bind fun p12 => ((fM_pebbleRow x1 x2 (pj_wr (x5 - 1)) (pj_set w 60 0 p6 (w 60 0 p8))).bind fun p14 => (if 0 ≤ (pj_wr (p14 + 1)) ∧ (pj_wr (p14 + 1)) < 8400 then (if 0 ≤ (pj_wr (p12 + 1)) ∧ (pj_wr (p12 + 1)) < 8400 then ((some (pj_set (pj_set w 60 0 p6 (w 60 0 p8)) 60 0 (pj_wr (p12 + 1)) ((pj_set w 60 0 p6 (w 60 0 p8)) 60 0 (pj_wr (p14 + 1))))).bind fun w18 => (some (Sum.inl ((pj_wr (x5 + (-1))), w18)))) else none) else none))) else none) else none)))) else none))
noncomputable def fM_comes_14 (x1 : Int) (x2 : Int) (x3 : Int) (x4 : Int) (s : (Int × pj_W)) : Option (pj_W) := pj_Lp (fun s : (Int × pj_W) => fM_comes_14b x1 x2 x3 x4 s.1 s.2) s
noncomputable def fM_comes (x1 : Int) (x2 : Int) (x3 : Int) (x4 : Int) (w : pj_W) : Option (pj_W) :=
  (fM_findRow x1 x2 w).bind fun p1 => (if 0 ≤ (pj_wr (p1 + 2)) ∧ (pj_wr (p1 + 2)) < 8400 then (fM_comes_14 x1 x2 x3 x4 ((w 60 0 (pj_wr (p1 + 2))), w)) else none)
theorem tM_comes_102 {Go : pj_C → Prop} (hM : pj_M l yX12_comes cX12_comes 6 none 1 22 true g n0 o Go) (x1 : Int) (x2 : Int) (x3 : Int) (x4 : Int) (x5 : Int) (w : pj_W)  (R : pj_W → Prop) (h0 : ∀ r, R (r) → ((none : Option pj_V), r) = o) : pj_TG R (fM_comes_102 x1 x2 x3 x4 x5 w) (Go (102, [(26, 0), (0, x1), (0, x2), (0, x3), (0, x4), (0, x5)], [], w)) := by
  unfold fM_comes_102
  refine pj_tbind (fun p1 h2 => ?_)
  refine pj_tgd (fun h3 => ?_)
  refine pj_tbind (fun p4 h5 => ?_)
  refine pj_tgd (fun h6 => ?_)
  refine pj_tbind (fun p7 h8 => ?_)
  refine pj_tgd (fun h9 => ?_)
  refine pj_map (fun k => pj_aload_n hM (pc := 102) dX12_comes_102 rfl rfl (pj_getF hM (pc := 103) (t := 60) dX12_comes_103 fl_X12_7 (by decide) rfl rfl (pj_iload_n hM (pc := 106) dX12_comes_106 rfl (pj_iload_n hM (pc := 107) dX12_comes_107 rfl (pj_iload hM (pc := 108) dX12_comes_108 rfl (pj_cS hM (pc := 110) (cM_pebbleRow x1 x2 x5 w p1 h2) dX12_comes_110 mf_X12_pebbleRow ms_X12_pebbleRow ml_X12_174 rfl rfl rfl rfl (pj_iload_n hM (pc := 113) dX12_comes_113 rfl (pj_ias hM (pc := 114) dX12_comes_114 ki_60 (by decide) h3 (pj_aload_n hM (pc := 115) dX12_comes_115 rfl rfl (pj_getF hM (pc := 116) (t := 60) dX12_comes_116 fl_X12_7 (by decide) rfl rfl (pj_iload_n hM (pc := 119) dX12_comes_119 rfl (pj_iload_n hM (pc := 120) dX12_comes_120 rfl (pj_iload hM (pc := 121) dX12_comes_121 rfl (pj_cS hM (pc := 123) (cM_pebbleRow x1 x2 x5 (pj_set w 60 0 p1 x3) p4 h5) dX12_comes_123 mf_X12_pebbleRow ms_X12_pebbleRow ml_X12_174 rfl rfl rfl rfl (pj_iconst hM (pc := 126) dX12_comes_126 (by decide) (pj_iadd hM (pc := 127) dX12_comes_127 (pj_iload hM (pc := 128) dX12_comes_128 rfl (pj_ias hM (pc := 130) dX12_comes_130 ki_60 (by decide) h6 (pj_aload_n hM (pc := 131) dX12_comes_131 rfl rfl (pj_getF hM (pc := 132) (t := 60) dX12_comes_132 fl_X12_7 (by decide) rfl rfl (pj_iload_n hM (pc := 135) dX12_comes_135 rfl (pj_iload_n hM (pc := 136) dX12_comes_136 rfl (pj_cS hM (pc := 137) (cM_findRow x1 x2 (pj_set (pj_set w 60 0 p1 x3) 60 0 (pj_wr (p4 + 1)) x4) p7 h8) dX12_comes_137 mf_X12_findRow ms_X12_findRow ml_X12_171 rfl rfl rfl rfl (pj_iconst hM (pc := 140) dX12_comes_140 (by decide) (pj_iadd hM (pc := 141) dX12_comes_141 (pj_dup2 hM (pc := 142) dX12_comes_142 (by decide) (by decide) (pj_ial hM (pc := 143) dX12_comes_143 ki_60 (by decide) h9 (pj_iconst hM (pc := 144) dX12_comes_144 (by decide) (pj_iadd hM (pc := 145) dX12_comes_145 (pj_ias hM (pc := 146) dX12_comes_146 ki_60 (by decide) h9 k)))))))))))))))))))))))))))))) ?_
  refine pj_tlet (fun w10 => Go (147, [(26, 0), (0, x1), (0, x2), (0, x3), (0, x4), (0, x5)], [], w10)) (fun w10 => ?_)
  refine pj_tgd (fun h11 => ?_)
  exact pj_tret (fun hr => pj_aload_n hM (pc := 147) dX12_comes_147 rfl rfl (pj_getF hM (pc := 148) (t := 60) dX12_comes_148 fl_X12_7 (by decide) rfl rfl (pj_iload_n hM (pc := 151) dX12_comes_151 rfl (pj_bipush hM (pc := 152) dX12_comes_152 (by decide) (pj_iadd hM (pc := 154) dX12_comes_154 (pj_dup2 hM (pc := 155) dX12_comes_155 (by decide) (by decide) (pj_ial hM (pc := 156) dX12_comes_156 ki_60 (by decide) h11 (pj_iconst hM (pc := 157) dX12_comes_157 (by decide) (pj_iadd hM (pc := 158) dX12_comes_158 (pj_ias hM (pc := 159) dX12_comes_159 ki_60 (by decide) h11 (pj_ret hM (pc := 160) dX12_comes_160 rfl (h0 ((pj_set w10 60 0 (pj_wr (x1 + 8)) (pj_wr ((w10 60 0 (pj_wr (x1 + 8))) + 1)))) hr) rfl)))))))))))
theorem tM_comes_14b {Go : pj_C → Prop} (hM : pj_M l yX12_comes cX12_comes 6 none 1 22 true g n0 o Go) (x1 : Int) (x2 : Int) (x3 : Int) (x4 : Int) (x5 : Int) (w : pj_W)  (R : (Int × pj_W) ⊕ (pj_W) → Prop) (h0 : ∀ r, R (Sum.inr (r)) → ((none : Option pj_V), r) = o) (hk14 : ∀ s, R (Sum.inl s) → Go (14, [(26, 0), (0, x1), (0, x2), (0, x3), (0, x4), (0, s.1)], [], s.2)) : pj_TG R (fM_comes_14b x1 x2 x3 x4 x5 w) (Go (14, [(26, 0), (0, x1), (0, x2), (0, x3), (0, x4), (0, x5)], [], w)) := by
  unfold fM_comes_14b
  refine pj_map (fun k => pj_iload hM (pc := 14) dX12_comes_14 rfl k) ?_
  refine pj_tif (fun h1 => ?_) (fun h1 => ?_)
  · refine pj_tmap ?_
    refine pj_map (fun k => pj_if_le_t hM (pc := 16) dX12_comes_16 rfl h1 (pj_kill hM [true, true, true, true, true, true] (lls' := [(26, 0), (0, x1), (0, x2), (0, x3), (0, x4), (0, x5)]) rfl k)) ?_
    exact tM_comes_102 hM x1 x2 x3 x4 x5 w _ h0
  refine pj_tbind (fun p2 h3 => ?_)
  refine pj_tgd (fun h4 => ?_)
  refine pj_map (fun k => pj_if_le_f hM (pc := 16) 102 dX12_comes_16 rfl h1 (pj_aload_n hM (pc := 19) dX12_comes_19 rfl rfl (pj_getF hM (pc := 20) (t := 60) dX12_comes_20 fl_X12_7 (by decide) rfl rfl (pj_iload_n hM (pc := 23) dX12_comes_23 rfl (pj_iload_n hM (pc := 24) dX12_comes_24 rfl (pj_iload hM (pc := 25) dX12_comes_25 rfl (pj_iconst hM (pc := 27) dX12_comes_27 (by decide) (pj_isub hM (pc := 28) dX12_comes_28 (pj_cS hM (pc := 29) (cM_pebbleRow x1 x2 (pj_wr (x5 - 1)) w p2 h3) dX12_comes_29 mf_X12_pebbleRow ms_X12_pebbleRow ml_X12_174 rfl rfl rfl rfl (pj_iconst hM (pc := 32) dX12_comes_32 (by decide) (pj_iadd hM (pc := 33) dX12_comes_33 (pj_ial hM (pc := 34) dX12_comes_34 ki_60 (by decide) h4 (pj_iload hM (pc := 35) dX12_comes_35 rfl k))))))))))))) ?_
  refine pj_tif (fun h5 => ?_) (fun h5 => ?_)
  · refine pj_tmap ?_
    refine pj_map (fun k => pj_ic_le_t hM (pc := 37) dX12_comes_37 rfl h5 (pj_kill hM [true, true, true, true, true, true] (lls' := [(26, 0), (0, x1), (0, x2), (0, x3), (0, x4), (0, x5)]) rfl k)) ?_
    exact tM_comes_102 hM x1 x2 x3 x4 x5 w _ h0
  refine pj_tbind (fun p6 h7 => ?_)
  refine pj_tbind (fun p8 h9 => ?_)
  refine pj_tgd (fun h10 => ?_)
  refine pj_tgd (fun h11 => ?_)
  refine pj_tbind (fun p12 h13 => ?_)
  refine pj_tbind (fun p14 h15 => ?_)
  refine pj_tgd (fun h16 => ?_)
  refine pj_tgd (fun h17 => ?_)
  refine pj_map (fun k => pj_ic_le_f hM (pc := 37) 102 dX12_comes_37 rfl h5 (pj_aload_n hM (pc := 40) dX12_comes_40 rfl rfl (pj_getF hM (pc := 41) (t := 60) dX12_comes_41 fl_X12_7 (by decide) rfl rfl (pj_iload_n hM (pc := 44) dX12_comes_44 rfl (pj_iload_n hM (pc := 45) dX12_comes_45 rfl (pj_iload hM (pc := 46) dX12_comes_46 rfl (pj_cS hM (pc := 48) (cM_pebbleRow x1 x2 x5 w p6 h7) dX12_comes_48 mf_X12_pebbleRow ms_X12_pebbleRow ml_X12_174 rfl rfl rfl rfl (pj_aload_n hM (pc := 51) dX12_comes_51 rfl rfl (pj_getF hM (pc := 52) (t := 60) dX12_comes_52 fl_X12_7 (by decide) rfl rfl (pj_iload_n hM (pc := 55) dX12_comes_55 rfl (pj_iload_n hM (pc := 56) dX12_comes_56 rfl (pj_iload hM (pc := 57) dX12_comes_57 rfl (pj_iconst hM (pc := 59) dX12_comes_59 (by decide) (pj_isub hM (pc := 60) dX12_comes_60 (pj_cS hM (pc := 61) (cM_pebbleRow x1 x2 (pj_wr (x5 - 1)) w p8 h9) dX12_comes_61 mf_X12_pebbleRow ms_X12_pebbleRow ml_X12_174 rfl rfl rfl rfl (pj_ial hM (pc := 64) dX12_comes_64 ki_60 (by decide) h10 (pj_ias hM (pc := 65) dX12_comes_65 ki_60 (by decide) h11 (pj_aload_n hM (pc := 66) dX12_comes_66 rfl rfl (pj_getF hM (pc := 67) (t := 60) dX12_comes_67 fl_X12_7 (by decide) rfl rfl (pj_iload_n hM (pc := 70) dX12_comes_70 rfl (pj_iload_n hM (pc := 71) dX12_comes_71 rfl (pj_iload hM (pc := 72) dX12_comes_72 rfl (pj_cS hM (pc := 74) (cM_pebbleRow x1 x2 x5 (pj_set w 60 0 p6 (w 60 0 p8)) p12 h13) dX12_comes_74 mf_X12_pebbleRow ms_X12_pebbleRow ml_X12_174 rfl rfl rfl rfl (pj_iconst hM (pc := 77) dX12_comes_77 (by decide) (pj_iadd hM (pc := 78) dX12_comes_78 (pj_aload_n hM (pc := 79) dX12_comes_79 rfl rfl (pj_getF hM (pc := 80) (t := 60) dX12_comes_80 fl_X12_7 (by decide) rfl rfl (pj_iload_n hM (pc := 83) dX12_comes_83 rfl (pj_iload_n hM (pc := 84) dX12_comes_84 rfl (pj_iload hM (pc := 85) dX12_comes_85 rfl (pj_iconst hM (pc := 87) dX12_comes_87 (by decide) (pj_isub hM (pc := 88) dX12_comes_88 (pj_cS hM (pc := 89) (cM_pebbleRow x1 x2 (pj_wr (x5 - 1)) (pj_set w 60 0 p6 (w 60 0 p8)) p14 h15) dX12_comes_89 mf_X12_pebbleRow ms_X12_pebbleRow ml_X12_174 rfl rfl rfl rfl (pj_iconst hM (pc := 92) dX12_comes_92 (by decide) (pj_iadd hM (pc := 93) dX12_comes_93 (pj_ial hM (pc := 94) dX12_comes_94 ki_60 (by decide) h16 (pj_ias hM (pc := 95) dX12_comes_95 ki_60 (by decide) h17 k))))))))))))))))))))))))))))))))))))) ?_
  refine pj_tlet (fun w18 => Go (96, [(26, 0), (0, x1), (0, x2), (0, x3), (0, x4), (0, x5)], [], w18)) (fun w18 => ?_)
  exact pj_tret (fun hr => pj_iinc hM (pc := 96) dX12_comes_96 rfl (by decide) (lls' := [(26, 0), (0, x1), (0, x2), (0, x3), (0, x4), (0, (pj_wr (x5 + (-1))))]) rfl (pj_goto hM (pc := 99) dX12_comes_99 rfl (pj_kill hM [true, true, true, true, true, true] (lls' := [(26, 0), (0, x1), (0, x2), (0, x3), (0, x4), (0, (pj_wr (x5 + (-1))))]) rfl ((hk14 _ hr)))))
theorem tM_comes_14 {Go : pj_C → Prop} (hM : pj_M l yX12_comes cX12_comes 6 none 1 22 true g n0 o Go) (x1 : Int) (x2 : Int) (x3 : Int) (x4 : Int)  (R : pj_W → Prop) (h0 : ∀ r, R (r) → ((none : Option pj_V), r) = o) (s : (Int × pj_W)) : pj_TG R (fM_comes_14 x1 x2 x3 x4 s) (Go (14, [(26, 0), (0, x1), (0, x2), (0, x3), (0, x4), (0, s.1)], [], s.2)) := by
  unfold fM_comes_14
  exact pj_tLp (G := fun s : (Int × pj_W) => Go (14, [(26, 0), (0, x1), (0, x2), (0, x3), (0, x4), (0, s.1)], [], s.2)) (fun s => tM_comes_14b hM x1 x2 x3 x4 s.1 s.2  _ (fun r h => h0 r h)  (fun s h => h)) s
theorem tM_comes {Go : pj_C → Prop} (hM : pj_M l yX12_comes cX12_comes 6 none 1 22 true g n0 o Go) (x1 : Int) (x2 : Int) (x3 : Int) (x4 : Int) (w : pj_W)  (R : pj_W → Prop) (h0 : ∀ r, R (r) → ((none : Option pj_V), r) = o) : pj_TG R (fM_comes x1 x2 x3 x4 w) (Go (0, [(26, 0), (0, x1), (0, x2), (0, x3), (0, x4), (9, 0)], [], w)) := by
  unfold fM_comes
  refine pj_tbind (fun p1 h2 => ?_)
  refine pj_tgd (fun h3 => ?_)
  refine pj_map (fun k => pj_aload_n hM (pc := 0) dX12_comes_0 rfl rfl (pj_getF hM (pc := 1) (t := 60) dX12_comes_1 fl_X12_7 (by decide) rfl rfl (pj_iload_n hM (pc := 4) dX12_comes_4 rfl (pj_iload_n hM (pc := 5) dX12_comes_5 rfl (pj_cS hM (pc := 6) (cM_findRow x1 x2 w p1 h2) dX12_comes_6 mf_X12_findRow ms_X12_findRow ml_X12_171 rfl rfl rfl rfl (pj_iconst hM (pc := 9) dX12_comes_9 (by decide) (pj_iadd hM (pc := 10) dX12_comes_10 (pj_ial hM (pc := 11) dX12_comes_11 ki_60 (by decide) h3 (pj_istore hM (pc := 12) dX12_comes_12 (by decide) (lls' := [(26, 0), (0, x1), (0, x2), (0, x3), (0, x4), (0, (w 60 0 (pj_wr (p1 + 2))))]) rfl (pj_kill hM [true, true, true, true, true, true] (lls' := [(26, 0), (0, x1), (0, x2), (0, x3), (0, x4), (0, (w 60 0 (pj_wr (p1 + 2))))]) rfl k)))))))))) ?_
  exact tM_comes_14 hM x1 x2 x3 x4 _ h0 _
theorem cM_comes (x1 : Int) (x2 : Int) (x3 : Int) (x4 : Int)  (w : pj_W) (r : pj_W) (h : fM_comes x1 x2 x3 x4 w = some r) : pj_Cn l yX12_comes cX12_comes 6 none 1 22 true g [(26, 0), (0, x1), (0, x2), (0, x3), (0, x4)] w ((none : Option pj_V), r) :=
  pj_Cn_of rfl (Nat.le_of_ble_eq_true rfl) (lls := [(26, 0), (0, x1), (0, x2), (0, x3), (0, x4), (9, 0)]) rfl (fun Go hM => tM_comes hM x1 x2 x3 x4 w (fun x => ((none : Option pj_V), x) = ((none : Option pj_V), r)) (fun r h => h) r h rfl)
noncomputable def fM_oldOne (x1 : Int) (x2 : Int) (x3 : Int) (w : pj_W) : Option (Int × pj_W) :=
  (fM_isName w).bind fun p1 => (if p1 = 0 then ((fM_fails 2 w).bind fun p4 => (if p4.1 = 0 ∨ p4.1 = 1 then (some ((p4.1, p4.2))) else none)) else ((fM_findHere x1 x2 w).bind fun p7 => (if 0 ≤ x3 ∧ x3 < 8400 then (if ((pj_set w 60 0 x3 p7) 60 0 x3) = (-1) then ((fM_fails 3 (pj_set w 60 0 x3 p7)).bind fun p11 => (if p11.1 = 0 ∨ p11.1 = 1 then (some ((p11.1, p11.2))) else none)) else ((fM_ahead (pj_set w 60 0 x3 p7)).bind fun p14 => (some ((1, p14))))) else none)))
theorem tM_oldOne {Go : pj_C → Prop} (hM : pj_M l yX12_oldOne cX12_oldOne 4 (some .boolean) 6 132 true g n0 o Go) (x1 : Int) (x2 : Int) (x3 : Int) (w : pj_W)  (R : Int × pj_W → Prop) (h0 : ∀ r, R (r) → ((some (0, r.1) : Option pj_V), r.2) = o) : pj_TG R (fM_oldOne x1 x2 x3 w) (Go (0, [(26, 0), (0, x1), (0, x2), (0, x3)], [], w)) := by
  unfold fM_oldOne
  refine pj_tbind (fun p1 h2 => ?_)
  refine pj_map (fun k => pj_aload_n hM (pc := 0) dX12_oldOne_0 rfl rfl (pj_ldcS4 hM (pc := 1) dX12_oldOne_1 rfl (pj_cV hM (pc := 3) (cM_isName w p1 h2) dX12_oldOne_3 mf_X12_isName mv_X12_isName ml_X12_180 kc_26 rfl rfl (by decide) rfl rfl k))) ?_
  refine pj_tif (fun h3 => ?_) (fun h3 => ?_)
  · refine pj_tbind (fun p4 h5 => ?_)
    refine pj_tgd (fun h6 => ?_)
    exact pj_tret (fun hr => pj_if_ne_f hM (pc := 6) 15 dX12_oldOne_6 rfl (fun q => q h3) (pj_aload_n hM (pc := 9) dX12_oldOne_9 rfl rfl (pj_iconst hM (pc := 10) dX12_oldOne_10 (by decide) (pj_cV hM (pc := 11) (cM_fails 2 w p4 h5) dX12_oldOne_11 mf_X12_fails mv_X12_fails ml_X12_160 kc_26 rfl rfl (by decide) rfl rfl (pj_ret hM (pc := 14) dX12_oldOne_14 ⟨_, rfl, h6⟩ (h0 ((p4.1, p4.2)) hr) rfl)))))
  refine pj_tbind (fun p7 h8 => ?_)
  refine pj_tgd (fun h9 => ?_)
  refine pj_map (fun k => pj_if_ne_t hM (pc := 6) dX12_oldOne_6 rfl h3 (pj_aload_n hM (pc := 15) dX12_oldOne_15 rfl rfl (pj_getF hM (pc := 16) (t := 60) dX12_oldOne_16 fl_X12_7 (by decide) rfl rfl (pj_iload_n hM (pc := 19) dX12_oldOne_19 rfl (pj_aload_n hM (pc := 20) dX12_oldOne_20 rfl rfl (pj_iload_n hM (pc := 21) dX12_oldOne_21 rfl (pj_iload_n hM (pc := 22) dX12_oldOne_22 rfl (pj_cV hM (pc := 23) (cM_findHere x1 x2 w p7 h8) dX12_oldOne_23 mf_X12_findHere mv_X12_findHere ml_X12_184 kc_26 rfl rfl (by decide) rfl rfl (pj_ias hM (pc := 26) dX12_oldOne_26 ki_60 (by decide) h9 (pj_aload_n hM (pc := 27) dX12_oldOne_27 rfl rfl (pj_getF hM (pc := 28) (t := 60) dX12_oldOne_28 fl_X12_7 (by decide) rfl rfl (pj_iload_n hM (pc := 31) dX12_oldOne_31 rfl (pj_ial hM (pc := 32) dX12_oldOne_32 ki_60 (by decide) h9 (pj_iconst hM (pc := 33) dX12_oldOne_33 (by decide) k)))))))))))))) ?_
  refine pj_tif (fun h10 => ?_) (fun h10 => ?_)
  · refine pj_tbind (fun p11 h12 => ?_)
    refine pj_tgd (fun h13 => ?_)
    exact pj_tret (fun hr => pj_ic_ne_f hM (pc := 34) 43 dX12_oldOne_34 rfl (fun q => q h10) (pj_aload_n hM (pc := 37) dX12_oldOne_37 rfl rfl (pj_iconst hM (pc := 38) dX12_oldOne_38 (by decide) (pj_cV hM (pc := 39) (cM_fails 3 (pj_set w 60 0 x3 p7) p11 h12) dX12_oldOne_39 mf_X12_fails mv_X12_fails ml_X12_160 kc_26 rfl rfl (by decide) rfl rfl (pj_ret hM (pc := 42) dX12_oldOne_42 ⟨_, rfl, h13⟩ (h0 ((p11.1, p11.2)) hr) rfl)))))
  refine pj_tbind (fun p14 h15 => ?_)
  exact pj_tret (fun hr => pj_ic_ne_t hM (pc := 34) dX12_oldOne_34 rfl h10 (pj_aload_n hM (pc := 43) dX12_oldOne_43 rfl rfl (pj_cVv hM (pc := 44) (cM_ahead (pj_set w 60 0 x3 p7) p14 h15) dX12_oldOne_44 mf_X12_ahead mv_X12_ahead ml_X12_154 kc_26 rfl rfl (by decide) rfl rfl (pj_iconst hM (pc := 47) dX12_oldOne_47 (by decide) (pj_ret hM (pc := 48) dX12_oldOne_48 ⟨_, rfl, Or.inr rfl⟩ (h0 ((1, p14)) hr) rfl)))))
theorem cM_oldOne (x1 : Int) (x2 : Int) (x3 : Int)  (w : pj_W) (r : Int × pj_W) (h : fM_oldOne x1 x2 x3 w = some r) : pj_Cn l yX12_oldOne cX12_oldOne 4 (some .boolean) 6 132 true g [(26, 0), (0, x1), (0, x2), (0, x3)] w ((some (0, r.1) : Option pj_V), r.2) :=
  pj_Cn_of rfl (Nat.le_of_ble_eq_true rfl) (lls := [(26, 0), (0, x1), (0, x2), (0, x3)]) rfl (fun Go hM => tM_oldOne hM x1 x2 x3 w (fun x => ((some (0, x.1) : Option pj_V), x.2) = ((some (0, r.1) : Option pj_V), r.2)) (fun r h => h) r h rfl)
noncomputable def fM_aPebble  (w : pj_W) : Option (Int × pj_W) :=
  if (w 26 0 21) = 30 then ((fM_fails 6 w).bind fun p2 => (if p2.1 = 0 ∨ p2.1 = 1 then (some ((p2.1, p2.2))) else none)) else ((fM_ahead w).bind fun p5 => ((fM_wantWord 11 p5).bind fun p7 => (if p7.1 = 0 then (some ((0, p7.2))) else ((fM_oldOne 56 (p7.2 60 0 5601) 6995 p7.2).bind fun p10 => (if p10.1 = 0 then (some ((0, p10.2))) else ((fM_wantWord 12 p10.2).bind fun p13 => (if p13.1 = 0 then (some ((0, p13.2))) else ((fM_oldOne 62 (p13.2 60 0 5602) 6996 p13.2).bind fun p16 => (if p16.1 = 0 then (some ((0, p16.2))) else ((fM_wantWord 7 p16.2).bind fun p19 => (if p19.1 = 0 then (some ((0, p19.2))) else ((fM_number 6997 0 (p19.2 60 0 5603) p19.2).bind fun p22 => (if p22.1 = 0 then (some ((0, p22.2))) else ((fM_comes 5600 (p22.2 60 0 6996) (p22.2 60 0 6995) (p22.2 60 0 6997) p22.2).bind fun p25 => (some ((1, (pj_set p25 26 0 21 (pj_wr ((p25 26 0 21) + 1))))))))))))))))))))
theorem tM_aPebble {Go : pj_C → Prop} (hM : pj_M l yX12_aPebble cX12_aPebble 1 (some .boolean) 7 155 true g n0 o Go)  (w : pj_W)  (R : Int × pj_W → Prop) (h0 : ∀ r, R (r) → ((some (0, r.1) : Option pj_V), r.2) = o) : pj_TG R (fM_aPebble  w) (Go (0, [(26, 0)], [], w)) := by
  unfold fM_aPebble
  refine pj_map (fun k => pj_aload_n hM (pc := 0) dX12_aPebble_0 rfl rfl (pj_gf hM (pc := 1) (t := 0) dX12_aPebble_1 fl_X12_204 (by decide) rfl 21 rfl (pj_bipush hM (pc := 4) dX12_aPebble_4 (by decide) k))) ?_
  refine pj_tif (fun h1 => ?_) (fun h1 => ?_)
  · refine pj_tbind (fun p2 h3 => ?_)
    refine pj_tgd (fun h4 => ?_)
    exact pj_tret (fun hr => pj_ic_ne_f hM (pc := 6) 16 dX12_aPebble_6 rfl (fun q => q h1) (pj_aload_n hM (pc := 9) dX12_aPebble_9 rfl rfl (pj_bipush hM (pc := 10) dX12_aPebble_10 (by decide) (pj_cV hM (pc := 12) (cM_fails 6 w p2 h3) dX12_aPebble_12 mf_X12_fails mv_X12_fails ml_X12_160 kc_26 rfl rfl (by decide) rfl rfl (pj_ret hM (pc := 15) dX12_aPebble_15 ⟨_, rfl, h4⟩ (h0 ((p2.1, p2.2)) hr) rfl)))))
  refine pj_tbind (fun p5 h6 => ?_)
  refine pj_tbind (fun p7 h8 => ?_)
  refine pj_map (fun k => pj_ic_ne_t hM (pc := 6) dX12_aPebble_6 rfl h1 (pj_aload_n hM (pc := 16) dX12_aPebble_16 rfl rfl (pj_cVv hM (pc := 17) (cM_ahead w p5 h6) dX12_aPebble_17 mf_X12_ahead mv_X12_ahead ml_X12_154 kc_26 rfl rfl (by decide) rfl rfl (pj_aload_n hM (pc := 20) dX12_aPebble_20 rfl rfl (pj_ldcS4 hM (pc := 21) dX12_aPebble_21 rfl (pj_bipush hM (pc := 23) dX12_aPebble_23 (by decide) (pj_cV hM (pc := 25) (cM_wantWord 11 p5 p7 h8) dX12_aPebble_25 mf_X12_wantWord mv_X12_wantWord ml_X12_187 kc_26 rfl rfl (by decide) rfl rfl k))))))) ?_
  refine pj_tif (fun h9 => ?_) (fun h9 => ?_)
  · exact pj_tret (fun hr => pj_if_eq_t hM (pc := 28) dX12_aPebble_28 rfl h9 (pj_iconst hM (pc := 51) dX12_aPebble_51 (by decide) (pj_ret hM (pc := 52) dX12_aPebble_52 ⟨_, rfl, Or.inl rfl⟩ (h0 ((0, p7.2)) hr) rfl)))
  refine pj_tbind (fun p10 h11 => ?_)
  refine pj_map (fun k => pj_if_eq_f hM (pc := 28) 51 dX12_aPebble_28 rfl h9 (pj_aload_n hM (pc := 31) dX12_aPebble_31 rfl rfl (pj_bipush hM (pc := 32) dX12_aPebble_32 (by decide) (pj_aload_n hM (pc := 34) dX12_aPebble_34 rfl rfl (pj_getF hM (pc := 35) (t := 60) dX12_aPebble_35 fl_X12_7 (by decide) rfl rfl (pj_sipush hM (pc := 38) dX12_aPebble_38 (by decide) (pj_ial hM (pc := 41) dX12_aPebble_41 ki_60 (by decide) (by decide) (pj_sipush hM (pc := 42) dX12_aPebble_42 (by decide) (pj_cV hM (pc := 45) (cM_oldOne 56 (p7.2 60 0 5601) 6995 p7.2 p10 h11) dX12_aPebble_45 mf_X12_oldOne mv_X12_oldOne ml_X12_207 kc_26 rfl rfl (by decide) rfl rfl k))))))))) ?_
  refine pj_tif (fun h12 => ?_) (fun h12 => ?_)
  · exact pj_tret (fun hr => pj_if_ne_f hM (pc := 48) 53 dX12_aPebble_48 rfl (fun q => q h12) (pj_iconst hM (pc := 51) dX12_aPebble_51 (by decide) (pj_ret hM (pc := 52) dX12_aPebble_52 ⟨_, rfl, Or.inl rfl⟩ (h0 ((0, p10.2)) hr) rfl)))
  refine pj_tbind (fun p13 h14 => ?_)
  refine pj_map (fun k => pj_if_ne_t hM (pc := 48) dX12_aPebble_48 rfl h12 (pj_aload_n hM (pc := 53) dX12_aPebble_53 rfl rfl (pj_ldcS4 hM (pc := 54) dX12_aPebble_54 rfl (pj_bipush hM (pc := 56) dX12_aPebble_56 (by decide) (pj_cV hM (pc := 58) (cM_wantWord 12 p10.2 p13 h14) dX12_aPebble_58 mf_X12_wantWord mv_X12_wantWord ml_X12_187 kc_26 rfl rfl (by decide) rfl rfl k))))) ?_
  refine pj_tif (fun h15 => ?_) (fun h15 => ?_)
  · exact pj_tret (fun hr => pj_if_eq_t hM (pc := 61) dX12_aPebble_61 rfl h15 (pj_iconst hM (pc := 84) dX12_aPebble_84 (by decide) (pj_ret hM (pc := 85) dX12_aPebble_85 ⟨_, rfl, Or.inl rfl⟩ (h0 ((0, p13.2)) hr) rfl)))
  refine pj_tbind (fun p16 h17 => ?_)
  refine pj_map (fun k => pj_if_eq_f hM (pc := 61) 84 dX12_aPebble_61 rfl h15 (pj_aload_n hM (pc := 64) dX12_aPebble_64 rfl rfl (pj_bipush hM (pc := 65) dX12_aPebble_65 (by decide) (pj_aload_n hM (pc := 67) dX12_aPebble_67 rfl rfl (pj_getF hM (pc := 68) (t := 60) dX12_aPebble_68 fl_X12_7 (by decide) rfl rfl (pj_sipush hM (pc := 71) dX12_aPebble_71 (by decide) (pj_ial hM (pc := 74) dX12_aPebble_74 ki_60 (by decide) (by decide) (pj_sipush hM (pc := 75) dX12_aPebble_75 (by decide) (pj_cV hM (pc := 78) (cM_oldOne 62 (p13.2 60 0 5602) 6996 p13.2 p16 h17) dX12_aPebble_78 mf_X12_oldOne mv_X12_oldOne ml_X12_207 kc_26 rfl rfl (by decide) rfl rfl k))))))))) ?_
  refine pj_tif (fun h18 => ?_) (fun h18 => ?_)
  · exact pj_tret (fun hr => pj_if_ne_f hM (pc := 81) 86 dX12_aPebble_81 rfl (fun q => q h18) (pj_iconst hM (pc := 84) dX12_aPebble_84 (by decide) (pj_ret hM (pc := 85) dX12_aPebble_85 ⟨_, rfl, Or.inl rfl⟩ (h0 ((0, p16.2)) hr) rfl)))
  refine pj_tbind (fun p19 h20 => ?_)
  refine pj_map (fun k => pj_if_ne_t hM (pc := 81) dX12_aPebble_81 rfl h18 (pj_aload_n hM (pc := 86) dX12_aPebble_86 rfl rfl (pj_ldcS4 hM (pc := 87) dX12_aPebble_87 rfl (pj_bipush hM (pc := 89) dX12_aPebble_89 (by decide) (pj_cV hM (pc := 91) (cM_wantWord 7 p16.2 p19 h20) dX12_aPebble_91 mf_X12_wantWord mv_X12_wantWord ml_X12_187 kc_26 rfl rfl (by decide) rfl rfl k))))) ?_
  refine pj_tif (fun h21 => ?_) (fun h21 => ?_)
  · exact pj_tret (fun hr => pj_if_eq_t hM (pc := 94) dX12_aPebble_94 rfl h21 (pj_iconst hM (pc := 116) dX12_aPebble_116 (by decide) (pj_ret hM (pc := 117) dX12_aPebble_117 ⟨_, rfl, Or.inl rfl⟩ (h0 ((0, p19.2)) hr) rfl)))
  refine pj_tbind (fun p22 h23 => ?_)
  refine pj_map (fun k => pj_if_eq_f hM (pc := 94) 116 dX12_aPebble_94 rfl h21 (pj_aload_n hM (pc := 97) dX12_aPebble_97 rfl rfl (pj_sipush hM (pc := 98) dX12_aPebble_98 (by decide) (pj_iconst hM (pc := 101) dX12_aPebble_101 (by decide) (pj_aload_n hM (pc := 102) dX12_aPebble_102 rfl rfl (pj_getF hM (pc := 103) (t := 60) dX12_aPebble_103 fl_X12_7 (by decide) rfl rfl (pj_sipush hM (pc := 106) dX12_aPebble_106 (by decide) (pj_ial hM (pc := 109) dX12_aPebble_109 ki_60 (by decide) (by decide) (pj_cV hM (pc := 110) (cM_number 6997 0 (p19.2 60 0 5603) p19.2 p22 h23) dX12_aPebble_110 mf_X12_number mv_X12_number ml_X12_191 kc_26 rfl rfl (by decide) rfl rfl k))))))))) ?_
  refine pj_tif (fun h24 => ?_) (fun h24 => ?_)
  · exact pj_tret (fun hr => pj_if_ne_f hM (pc := 113) 118 dX12_aPebble_113 rfl (fun q => q h24) (pj_iconst hM (pc := 116) dX12_aPebble_116 (by decide) (pj_ret hM (pc := 117) dX12_aPebble_117 ⟨_, rfl, Or.inl rfl⟩ (h0 ((0, p22.2)) hr) rfl)))
  refine pj_tbind (fun p25 h26 => ?_)
  exact pj_tret (fun hr => pj_if_ne_t hM (pc := 113) dX12_aPebble_113 rfl h24 (pj_aload_n hM (pc := 118) dX12_aPebble_118 rfl rfl (pj_sipush hM (pc := 119) dX12_aPebble_119 (by decide) (pj_aload_n hM (pc := 122) dX12_aPebble_122 rfl rfl (pj_getF hM (pc := 123) (t := 60) dX12_aPebble_123 fl_X12_7 (by decide) rfl rfl (pj_sipush hM (pc := 126) dX12_aPebble_126 (by decide) (pj_ial hM (pc := 129) dX12_aPebble_129 ki_60 (by decide) (by decide) (pj_aload_n hM (pc := 130) dX12_aPebble_130 rfl rfl (pj_getF hM (pc := 131) (t := 60) dX12_aPebble_131 fl_X12_7 (by decide) rfl rfl (pj_sipush hM (pc := 134) dX12_aPebble_134 (by decide) (pj_ial hM (pc := 137) dX12_aPebble_137 ki_60 (by decide) (by decide) (pj_aload_n hM (pc := 138) dX12_aPebble_138 rfl rfl (pj_getF hM (pc := 139) (t := 60) dX12_aPebble_139 fl_X12_7 (by decide) rfl rfl (pj_sipush hM (pc := 142) dX12_aPebble_142 (by decide) (pj_ial hM (pc := 145) dX12_aPebble_145 ki_60 (by decide) (by decide) (pj_cVv hM (pc := 146) (cM_comes 5600 (p22.2 60 0 6996) (p22.2 60 0 6995) (p22.2 60 0 6997) p22.2 p25 h26) dX12_aPebble_146 mf_X12_comes mv_X12_comes ml_X12_210 kc_26 rfl rfl (by decide) rfl rfl (pj_aload_n hM (pc := 149) dX12_aPebble_149 rfl rfl (pj_dup hM (pc := 150) dX12_aPebble_150 (by decide) (pj_gf hM (pc := 151) (t := 0) dX12_aPebble_151 fl_X12_204 (by decide) rfl 21 rfl (pj_iconst hM (pc := 154) dX12_aPebble_154 (by decide) (pj_iadd hM (pc := 155) dX12_aPebble_155 (pj_pf hM (pc := 156) dX12_aPebble_156 fl_X12_204 (by decide) rfl (fun h => absurd h (by decide)) (by decide) (fun _ => rfl) 21 rfl (pj_iconst hM (pc := 159) dX12_aPebble_159 (by decide) (pj_ret hM (pc := 160) dX12_aPebble_160 ⟨_, rfl, Or.inr rfl⟩ (h0 ((1, (pj_set p25 26 0 21 (pj_wr ((p25 26 0 21) + 1))))) hr) rfl))))))))))))))))))))))))
theorem cM_aPebble   (w : pj_W) (r : Int × pj_W) (h : fM_aPebble  w = some r) : pj_Cn l yX12_aPebble cX12_aPebble 1 (some .boolean) 7 155 true g [(26, 0)] w ((some (0, r.1) : Option pj_V), r.2) :=
  pj_Cn_of rfl (Nat.le_of_ble_eq_true rfl) (lls := [(26, 0)]) rfl (fun Go hM => tM_aPebble hM w (fun x => ((some (0, x.1) : Option pj_V), x.2) = ((some (0, r.1) : Option pj_V), r.2)) (fun r h => h) r h rfl)
noncomputable def fM_isSign (x1 : Int) (w : pj_W) : Option (Int) :=
  if (w 26 0 12) = 4 then (if (w 26 0 15) = x1 then (some (1)) else (some (0))) else (some (0))
theorem tM_isSign {Go : pj_C → Prop} (hM : pj_M l yX12_isSign cX12_isSign 2 (some .boolean) 0 0 ph g n0 o Go) (x1 : Int) (w : pj_W)  (R : Int → Prop) (h0 : ∀ r, R (r) → ((some (0, r) : Option pj_V), w) = o) : pj_TG R (fM_isSign x1 w) (Go (0, [(26, 0), (0, x1)], [], w)) := by
  unfold fM_isSign
  refine pj_map (fun k => pj_aload_n hM (pc := 0) dX12_isSign_0 rfl rfl (pj_gf hM (pc := 1) (t := 0) dX12_isSign_1 fl_X12_123 (by decide) rfl 12 rfl (pj_iconst hM (pc := 4) dX12_isSign_4 (by decide) k))) ?_
  refine pj_tif (fun h1 => ?_) (fun h1 => ?_)
  · refine pj_map (fun k => pj_ic_ne_f hM (pc := 5) 20 dX12_isSign_5 rfl (fun q => q h1) (pj_aload_n hM (pc := 8) dX12_isSign_8 rfl rfl (pj_gf hM (pc := 9) (t := 0) dX12_isSign_9 fl_X12_120 (by decide) rfl 15 rfl (pj_iload_n hM (pc := 12) dX12_isSign_12 rfl k)))) ?_
    refine pj_tif (fun h2 => ?_) (fun h2 => ?_)
    · exact pj_tret (fun hr => pj_ic_ne_f hM (pc := 13) 20 dX12_isSign_13 rfl (fun q => q h2) (pj_iconst hM (pc := 16) dX12_isSign_16 (by decide) (pj_goto hM (pc := 17) dX12_isSign_17 rfl (pj_ret hM (pc := 21) dX12_isSign_21 ⟨_, rfl, Or.inr rfl⟩ (h0 (1) hr) rfl))))
    exact pj_tret (fun hr => pj_ic_ne_t hM (pc := 13) dX12_isSign_13 rfl h2 (pj_iconst hM (pc := 20) dX12_isSign_20 (by decide) (pj_ret hM (pc := 21) dX12_isSign_21 ⟨_, rfl, Or.inl rfl⟩ (h0 (0) hr) rfl)))
  exact pj_tret (fun hr => pj_ic_ne_t hM (pc := 5) dX12_isSign_5 rfl h1 (pj_iconst hM (pc := 20) dX12_isSign_20 (by decide) (pj_ret hM (pc := 21) dX12_isSign_21 ⟨_, rfl, Or.inl rfl⟩ (h0 (0) hr) rfl)))
theorem cM_isSign (x1 : Int)  (w : pj_W) (r : Int) (h : fM_isSign x1 w = some r) : pj_Cn l yX12_isSign cX12_isSign 2 (some .boolean) 0 0 ph g [(26, 0), (0, x1)] w ((some (0, r) : Option pj_V), w) :=
  pj_Cn_of rfl (Nat.le_of_ble_eq_true rfl) (lls := [(26, 0), (0, x1)]) rfl (fun Go hM => tM_isSign hM x1 w (fun x => ((some (0, x) : Option pj_V), w) = ((some (0, r) : Option pj_V), w)) (fun r h => h) r h rfl)
noncomputable def fM_wantSign (x1 : Int) (w : pj_W) : Option (Int × pj_W) :=
  (fM_isSign x1 w).bind fun p1 => (if p1 = 0 then ((fM_fails 2 w).bind fun p4 => (if p4.1 = 0 ∨ p4.1 = 1 then (some ((p4.1, p4.2))) else none)) else ((fM_ahead w).bind fun p7 => (some ((1, p7)))))
theorem tM_wantSign {Go : pj_C → Prop} (hM : pj_M l yX12_wantSign cX12_wantSign 2 (some .boolean) 2 42 true g n0 o Go) (x1 : Int) (w : pj_W)  (R : Int × pj_W → Prop) (h0 : ∀ r, R (r) → ((some (0, r.1) : Option pj_V), r.2) = o) : pj_TG R (fM_wantSign x1 w) (Go (0, [(26, 0), (0, x1)], [], w)) := by
  unfold fM_wantSign
  refine pj_tbind (fun p1 h2 => ?_)
  refine pj_map (fun k => pj_aload_n hM (pc := 0) dX12_wantSign_0 rfl rfl (pj_iload_n hM (pc := 1) dX12_wantSign_1 rfl (pj_cV hM (pc := 2) (cM_isSign x1 w p1 h2) dX12_wantSign_2 mf_X12_isSign mv_X12_isSign ml_X12_157 kc_26 rfl rfl (by decide) rfl rfl k))) ?_
  refine pj_tif (fun h3 => ?_) (fun h3 => ?_)
  · refine pj_tbind (fun p4 h5 => ?_)
    refine pj_tgd (fun h6 => ?_)
    exact pj_tret (fun hr => pj_if_ne_f hM (pc := 5) 14 dX12_wantSign_5 rfl (fun q => q h3) (pj_aload_n hM (pc := 8) dX12_wantSign_8 rfl rfl (pj_iconst hM (pc := 9) dX12_wantSign_9 (by decide) (pj_cV hM (pc := 10) (cM_fails 2 w p4 h5) dX12_wantSign_10 mf_X12_fails mv_X12_fails ml_X12_160 kc_26 rfl rfl (by decide) rfl rfl (pj_ret hM (pc := 13) dX12_wantSign_13 ⟨_, rfl, h6⟩ (h0 ((p4.1, p4.2)) hr) rfl)))))
  refine pj_tbind (fun p7 h8 => ?_)
  exact pj_tret (fun hr => pj_if_ne_t hM (pc := 5) dX12_wantSign_5 rfl h3 (pj_aload_n hM (pc := 14) dX12_wantSign_14 rfl rfl (pj_cVv hM (pc := 15) (cM_ahead w p7 h8) dX12_wantSign_15 mf_X12_ahead mv_X12_ahead ml_X12_154 kc_26 rfl rfl (by decide) rfl rfl (pj_iconst hM (pc := 18) dX12_wantSign_18 (by decide) (pj_ret hM (pc := 19) dX12_wantSign_19 ⟨_, rfl, Or.inr rfl⟩ (h0 ((1, p7)) hr) rfl)))))
theorem cM_wantSign (x1 : Int)  (w : pj_W) (r : Int × pj_W) (h : fM_wantSign x1 w = some r) : pj_Cn l yX12_wantSign cX12_wantSign 2 (some .boolean) 2 42 true g [(26, 0), (0, x1)] w ((some (0, r.1) : Option pj_V), r.2) :=
  pj_Cn_of rfl (Nat.le_of_ble_eq_true rfl) (lls := [(26, 0), (0, x1)]) rfl (fun Go hM => tM_wantSign hM x1 w (fun x => ((some (0, x.1) : Option pj_V), x.2) = ((some (0, r.1) : Option pj_V), r.2)) (fun r h => h) r h rfl)
noncomputable def fM_beachPart_74 (x1 : Int) (w : pj_W) : Option (Int × pj_W) :=
  if x1 = 0 then (some ((0, w))) else ((fM_wantSign 59 w).bind fun p2 => (if p2.1 = 0 then (some ((0, p2.2))) else (some ((1, p2.2)))))
noncomputable def fM_beachPart  (w : pj_W) : Option (Int × pj_W) :=
  (fM_inWords w).bind fun p1 => (if p1 = 3 then ((fM_aFinder w).bind fun p4 => (fM_beachPart_74 p4.1 p4.2)) else if p1 = 4 then ((fM_aFind w).bind fun p7 => (fM_beachPart_74 p7.1 p7.2)) else if p1 = 5 then ((fM_aPebble w).bind fun p10 => (fM_beachPart_74 p10.1 p10.2)) else if p1 = 6 then ((fM_aDuel w).bind fun p13 => (fM_beachPart_74 p13.1 p13.2)) else ((fM_fails 2 w).bind fun p15 => (if p15.1 = 0 ∨ p15.1 = 1 then (some ((p15.1, p15.2))) else none)))
theorem tM_beachPart_74 {Go : pj_C → Prop} (hM : pj_M l yX12_beachPart cX12_beachPart 2 (some .boolean) 8 176 true g n0 o Go) (x1 : Int) (w : pj_W)  (R : Int × pj_W → Prop) (h0 : ∀ r, R (r) → ((some (0, r.1) : Option pj_V), r.2) = o) : pj_TG R (fM_beachPart_74 x1 w) (Go (74, [(26, 0), (0, x1)], [], w)) := by
  unfold fM_beachPart_74
  refine pj_map (fun k => pj_iload_n hM (pc := 74) dX12_beachPart_74 rfl k) ?_
  refine pj_tif (fun h1 => ?_) (fun h1 => ?_)
  · exact pj_tret (fun hr => pj_if_eq_t hM (pc := 75) dX12_beachPart_75 rfl h1 (pj_iconst hM (pc := 91) dX12_beachPart_91 (by decide) (pj_ret hM (pc := 92) dX12_beachPart_92 ⟨_, rfl, Or.inl rfl⟩ (h0 ((0, w)) hr) rfl)))
  refine pj_tbind (fun p2 h3 => ?_)
  refine pj_map (fun k => pj_if_eq_f hM (pc := 75) 91 dX12_beachPart_75 rfl h1 (pj_aload_n hM (pc := 78) dX12_beachPart_78 rfl rfl (pj_bipush hM (pc := 79) dX12_beachPart_79 (by decide) (pj_cV hM (pc := 81) (cM_wantSign 59 w p2 h3) dX12_beachPart_81 mf_X12_wantSign mv_X12_wantSign ml_X12_195 kc_26 rfl rfl (by decide) rfl rfl k)))) ?_
  refine pj_tif (fun h4 => ?_) (fun h4 => ?_)
  · exact pj_tret (fun hr => pj_if_eq_t hM (pc := 84) dX12_beachPart_84 rfl h4 (pj_iconst hM (pc := 91) dX12_beachPart_91 (by decide) (pj_ret hM (pc := 92) dX12_beachPart_92 ⟨_, rfl, Or.inl rfl⟩ (h0 ((0, p2.2)) hr) rfl)))
  exact pj_tret (fun hr => pj_if_eq_f hM (pc := 84) 91 dX12_beachPart_84 rfl h4 (pj_iconst hM (pc := 87) dX12_beachPart_87 (by decide) (pj_goto hM (pc := 88) dX12_beachPart_88 rfl (pj_ret hM (pc := 92) dX12_beachPart_92 ⟨_, rfl, Or.inr rfl⟩ (h0 ((1, p2.2)) hr) rfl))))
theorem tM_beachPart {Go : pj_C → Prop} (hM : pj_M l yX12_beachPart cX12_beachPart 2 (some .boolean) 8 176 true g n0 o Go)  (w : pj_W)  (R : Int × pj_W → Prop) (h0 : ∀ r, R (r) → ((some (0, r.1) : Option pj_V), r.2) = o) : pj_TG R (fM_beachPart  w) (Go (0, [(26, 0), (9, 0)], [], w)) := by
  unfold fM_beachPart
  refine pj_tbind (fun p1 h2 => ?_)
  refine pj_map (fun k => pj_aload_n hM (pc := 0) dX12_beachPart_0 rfl rfl (pj_ldcS4 hM (pc := 1) dX12_beachPart_1 rfl (pj_cV hM (pc := 3) (cM_inWords w p1 h2) dX12_beachPart_3 mf_X12_inWords mv_X12_inWords ml_X12_163 kc_26 rfl rfl (by decide) rfl rfl k))) ?_
  refine pj_tif (fun h3 => ?_) (fun h3 => ?_)
  · refine pj_tbind (fun p4 h5 => ?_)
    refine pj_map (fun k => pj_table hM (pc := 6) (tgt := 36) dX12_beachPart_6 (by decide) (by rw [h3]; decide) (pj_aload_n hM (pc := 36) dX12_beachPart_36 rfl rfl (pj_cV hM (pc := 37) (cM_aFinder w p4 h5) dX12_beachPart_37 mf_X12_aFinder mv_X12_aFinder ml_X12_218 kc_26 rfl rfl (by decide) rfl rfl (pj_istore_n hM (pc := 40) dX12_beachPart_40 (by decide) (lls' := [(26, 0), (0, p4.1)]) rfl (pj_goto hM (pc := 41) dX12_beachPart_41 rfl (pj_kill hM [true, true] (lls' := [(26, 0), (0, p4.1)]) rfl k)))))) ?_
    exact tM_beachPart_74 hM p4.1 p4.2 _ h0
  refine pj_tif (fun h6 => ?_) (fun h6 => ?_)
  · refine pj_tbind (fun p7 h8 => ?_)
    refine pj_map (fun k => pj_table hM (pc := 6) (tgt := 44) dX12_beachPart_6 (by decide) (by rw [h6]; decide) (pj_aload_n hM (pc := 44) dX12_beachPart_44 rfl rfl (pj_cV hM (pc := 45) (cM_aFind w p7 h8) dX12_beachPart_45 mf_X12_aFind mv_X12_aFind ml_X12_222 kc_26 rfl rfl (by decide) rfl rfl (pj_istore_n hM (pc := 48) dX12_beachPart_48 (by decide) (lls' := [(26, 0), (0, p7.1)]) rfl (pj_goto hM (pc := 49) dX12_beachPart_49 rfl (pj_kill hM [true, true] (lls' := [(26, 0), (0, p7.1)]) rfl k)))))) ?_
    exact tM_beachPart_74 hM p7.1 p7.2 _ h0
  refine pj_tif (fun h9 => ?_) (fun h9 => ?_)
  · refine pj_tbind (fun p10 h11 => ?_)
    refine pj_map (fun k => pj_table hM (pc := 6) (tgt := 52) dX12_beachPart_6 (by decide) (by rw [h9]; decide) (pj_aload_n hM (pc := 52) dX12_beachPart_52 rfl rfl (pj_cV hM (pc := 53) (cM_aPebble w p10 h11) dX12_beachPart_53 mf_X12_aPebble mv_X12_aPebble ml_X12_225 kc_26 rfl rfl (by decide) rfl rfl (pj_istore_n hM (pc := 56) dX12_beachPart_56 (by decide) (lls' := [(26, 0), (0, p10.1)]) rfl (pj_goto hM (pc := 57) dX12_beachPart_57 rfl (pj_kill hM [true, true] (lls' := [(26, 0), (0, p10.1)]) rfl k)))))) ?_
    exact tM_beachPart_74 hM p10.1 p10.2 _ h0
  refine pj_tif (fun h12 => ?_) (fun h12 => ?_)
  · refine pj_tbind (fun p13 h14 => ?_)
    refine pj_map (fun k => pj_table hM (pc := 6) (tgt := 60) dX12_beachPart_6 (by decide) (by rw [h12]; decide) (pj_aload_n hM (pc := 60) dX12_beachPart_60 rfl rfl (pj_cV hM (pc := 61) (cM_aDuel w p13 h14) dX12_beachPart_61 mf_X12_aDuel mv_X12_aDuel ml_X12_228 kc_26 rfl rfl (by decide) rfl rfl (pj_istore_n hM (pc := 64) dX12_beachPart_64 (by decide) (lls' := [(26, 0), (0, p13.1)]) rfl (pj_goto hM (pc := 65) dX12_beachPart_65 rfl (pj_kill hM [true, true] (lls' := [(26, 0), (0, p13.1)]) rfl k)))))) ?_
    exact tM_beachPart_74 hM p13.1 p13.2 _ h0
  refine pj_tbind (fun p15 h16 => ?_)
  refine pj_tgd (fun h17 => ?_)
  exact pj_tret (fun hr => pj_table hM (pc := 6) (tgt := 68) dX12_beachPart_6 (by decide) (by have e9 : p1 < 3 ∨ 6 < p1 := (by omega); unfold pj_tab; rw [if_pos e9]; decide) (pj_aload_n hM (pc := 68) dX12_beachPart_68 rfl rfl (pj_iconst hM (pc := 69) dX12_beachPart_69 (by decide) (pj_cV hM (pc := 70) (cM_fails 2 w p15 h16) dX12_beachPart_70 mf_X12_fails mv_X12_fails ml_X12_160 kc_26 rfl rfl (by decide) rfl rfl (pj_ret hM (pc := 73) dX12_beachPart_73 ⟨_, rfl, h17⟩ (h0 ((p15.1, p15.2)) hr) rfl)))))
theorem cM_beachPart   (w : pj_W) (r : Int × pj_W) (h : fM_beachPart  w = some r) : pj_Cn l yX12_beachPart cX12_beachPart 2 (some .boolean) 8 176 true g [(26, 0)] w ((some (0, r.1) : Option pj_V), r.2) :=
  pj_Cn_of rfl (Nat.le_of_ble_eq_true rfl) (lls := [(26, 0), (9, 0)]) rfl (fun Go hM => tM_beachPart hM w (fun x => ((some (0, x.1) : Option pj_V), x.2) = ((some (0, r.1) : Option pj_V), r.2)) (fun r h => h) r h rfl)
end
