/-! printed by wip/whole/gen.py: each method as a function of numbers and worlds, and its contract -/
section
variable {l : Launch} {g : pj_G} {n0 : Nat} {o : Option pj_V × pj_W} {ph : Bool}
noncomputable def fM_pebble_17  (w : pj_W) : Option (Int × pj_W) :=
  (fM_refuse 1 w).bind fun p1 => (some ((p1.1, p1.2)))
noncomputable def fM_pebble_36  (w : pj_W) : Option (Int × pj_W) :=
  (fM_refuse 6 w).bind fun p1 => (some ((p1.1, p1.2)))
noncomputable def fM_pebble (x1 : Int) (x2 : Int) (x3 : Int) (w : pj_W) : Option (Int × pj_W) :=
  (fM_isFind x1 w).bind fun p1 => (if p1 = 0 then (fM_pebble_17 w) else (if x3 < 0 then (fM_pebble_17 w) else (if x3 ≤ 1 then (if x2 < 0 then (fM_pebble_36 w) else ((fM_manyOn x1 w).bind fun p7 => (if x2 < p7 then ((fM_pebbleRow 0 x1 x2 w).bind fun p10 => (if 0 ≤ (pj_wr (p10 + x3)) ∧ (pj_wr (p10 + x3)) < 8400 then ((fM_gives (w 60 0 (pj_wr (p10 + x3))) w).bind fun p13 => (some ((p13.1, p13.2)))) else none)) else (fM_pebble_36 w)))) else (fM_pebble_17 w))))
theorem tM_pebble_17 {Go : pj_C → Prop} (hM : pj_M l yX12_pebble cX12_pebble 4 (some .int) 2 42 true g n0 o Go)  (w : pj_W)  (R : Int × pj_W → Prop) (h0 : ∀ r, R (r) → ((some (0, r.1) : Option pj_V), r.2) = o) : pj_TG R (fM_pebble_17  w) (Go (17, [(26, 0), (9, 0), (9, 0), (9, 0)], [], w)) := by
  unfold fM_pebble_17
  refine pj_tbind (fun p1 h2 => ?_)
  exact pj_tret (fun hr => pj_aload_n hM (pc := 17) dX12_pebble_17 rfl rfl (pj_iconst hM (pc := 18) dX12_pebble_18 (by decide) (pj_cV hM (pc := 19) (cM_refuse 1 w p1 h2) dX12_pebble_19 mf_X12_refuse mv_X12_refuse ml_X12_78 kc_26 rfl rfl (by decide) rfl rfl (pj_ret hM (pc := 22) dX12_pebble_22 ⟨_, rfl⟩ (h0 ((p1.1, p1.2)) hr) rfl))))
theorem tM_pebble_36 {Go : pj_C → Prop} (hM : pj_M l yX12_pebble cX12_pebble 4 (some .int) 2 42 true g n0 o Go)  (w : pj_W)  (R : Int × pj_W → Prop) (h0 : ∀ r, R (r) → ((some (0, r.1) : Option pj_V), r.2) = o) : pj_TG R (fM_pebble_36  w) (Go (36, [(26, 0), (9, 0), (9, 0), (9, 0)], [], w)) := by
  unfold fM_pebble_36
  refine pj_tbind (fun p1 h2 => ?_)
  exact pj_tret (fun hr => pj_aload_n hM (pc := 36) dX12_pebble_36 rfl rfl (pj_bipush hM (pc := 37) dX12_pebble_37 (by decide) (pj_cV hM (pc := 39) (cM_refuse 6 w p1 h2) dX12_pebble_39 mf_X12_refuse mv_X12_refuse ml_X12_78 kc_26 rfl rfl (by decide) rfl rfl (pj_goto hM (pc := 42) dX12_pebble_42 rfl (pj_ret hM (pc := 62) dX12_pebble_62 ⟨_, rfl⟩ (h0 ((p1.1, p1.2)) hr) rfl)))))
theorem tM_pebble {Go : pj_C → Prop} (hM : pj_M l yX12_pebble cX12_pebble 4 (some .int) 2 42 true g n0 o Go) (x1 : Int) (x2 : Int) (x3 : Int) (w : pj_W)  (R : Int × pj_W → Prop) (h0 : ∀ r, R (r) → ((some (0, r.1) : Option pj_V), r.2) = o) : pj_TG R (fM_pebble x1 x2 x3 w) (Go (0, [(26, 0), (0, x1), (0, x2), (0, x3)], [], w)) := by
  unfold fM_pebble
  refine pj_tbind (fun p1 h2 => ?_)
  refine pj_map (fun k => pj_aload_n hM (pc := 0) dX12_pebble_0 rfl rfl (pj_iload_n hM (pc := 1) dX12_pebble_1 rfl (pj_cV hM (pc := 2) (cM_isFind x1 w p1 h2) dX12_pebble_2 mf_X12_isFind mv_X12_isFind ml_X12_265 kc_26 rfl rfl (by decide) rfl rfl k))) ?_
  refine pj_tif (fun h3 => ?_) (fun h3 => ?_)
  · refine pj_map (fun k => pj_if_eq_t hM (pc := 5) dX12_pebble_5 rfl h3 (pj_kill hM [true, false, false, false] (lls' := [(26, 0), (9, 0), (9, 0), (9, 0)]) rfl k)) ?_
    exact tM_pebble_17 hM w _ h0
  refine pj_map (fun k => pj_if_eq_f hM (pc := 5) 17 dX12_pebble_5 rfl h3 (pj_iload_n hM (pc := 8) dX12_pebble_8 rfl k)) ?_
  refine pj_tif (fun h4 => ?_) (fun h4 => ?_)
  · refine pj_map (fun k => pj_if_lt_t hM (pc := 9) dX12_pebble_9 rfl h4 (pj_kill hM [true, false, false, false] (lls' := [(26, 0), (9, 0), (9, 0), (9, 0)]) rfl k)) ?_
    exact tM_pebble_17 hM w _ h0
  refine pj_map (fun k => pj_if_lt_f hM (pc := 9) 17 dX12_pebble_9 rfl h4 (pj_iload_n hM (pc := 12) dX12_pebble_12 rfl (pj_iconst hM (pc := 13) dX12_pebble_13 (by decide) k))) ?_
  refine pj_tif (fun h5 => ?_) (fun h5 => ?_)
  · refine pj_map (fun k => pj_ic_le_t hM (pc := 14) dX12_pebble_14 rfl h5 (pj_iload_n hM (pc := 23) dX12_pebble_23 rfl k)) ?_
    refine pj_tif (fun h6 => ?_) (fun h6 => ?_)
    · refine pj_map (fun k => pj_if_lt_t hM (pc := 24) dX12_pebble_24 rfl h6 (pj_kill hM [true, false, false, false] (lls' := [(26, 0), (9, 0), (9, 0), (9, 0)]) rfl k)) ?_
      exact tM_pebble_36 hM w _ h0
    refine pj_tbind (fun p7 h8 => ?_)
    refine pj_map (fun k => pj_if_lt_f hM (pc := 24) 36 dX12_pebble_24 rfl h6 (pj_iload_n hM (pc := 27) dX12_pebble_27 rfl (pj_aload_n hM (pc := 28) dX12_pebble_28 rfl rfl (pj_iload_n hM (pc := 29) dX12_pebble_29 rfl (pj_cV hM (pc := 30) (cM_manyOn x1 w p7 h8) dX12_pebble_30 mf_X12_manyOn mv_X12_manyOn ml_X12_277 kc_26 rfl rfl (by decide) rfl rfl k))))) ?_
    refine pj_tif (fun h9 => ?_) (fun h9 => ?_)
    · refine pj_tbind (fun p10 h11 => ?_)
      refine pj_tgd (fun h12 => ?_)
      refine pj_tbind (fun p13 h14 => ?_)
      exact pj_tret (fun hr => pj_ic_lt_t hM (pc := 33) dX12_pebble_33 rfl h9 (pj_aload_n hM (pc := 45) dX12_pebble_45 rfl rfl (pj_aload_n hM (pc := 46) dX12_pebble_46 rfl rfl (pj_getF hM (pc := 47) (t := 60) dX12_pebble_47 fl_X12_7 (by decide) rfl rfl (pj_iconst hM (pc := 50) dX12_pebble_50 (by decide) (pj_iload_n hM (pc := 51) dX12_pebble_51 rfl (pj_iload_n hM (pc := 52) dX12_pebble_52 rfl (pj_cS hM (pc := 53) (cM_pebbleRow 0 x1 x2 w p10 h11) dX12_pebble_53 mf_X12_pebbleRow ms_X12_pebbleRow ml_X12_174 rfl rfl rfl rfl (pj_iload_n hM (pc := 56) dX12_pebble_56 rfl (pj_iadd hM (pc := 57) dX12_pebble_57 (pj_ial hM (pc := 58) dX12_pebble_58 ki_60 (by decide) h12 (pj_cV hM (pc := 59) (cM_gives (w 60 0 (pj_wr (p10 + x3))) w p13 h14) dX12_pebble_59 mf_X12_gives mv_X12_gives ml_X12_82 kc_26 rfl rfl (by decide) rfl rfl (pj_ret hM (pc := 62) dX12_pebble_62 ⟨_, rfl⟩ (h0 ((p13.1, p13.2)) hr) rfl)))))))))))))
    refine pj_map (fun k => pj_ic_lt_f hM (pc := 33) 45 dX12_pebble_33 rfl h9 (pj_kill hM [true, false, false, false] (lls' := [(26, 0), (9, 0), (9, 0), (9, 0)]) rfl k)) ?_
    exact tM_pebble_36 hM w _ h0
  refine pj_map (fun k => pj_ic_le_f hM (pc := 14) 23 dX12_pebble_14 rfl h5 (pj_kill hM [true, false, false, false] (lls' := [(26, 0), (9, 0), (9, 0), (9, 0)]) rfl k)) ?_
  exact tM_pebble_17 hM w _ h0
theorem cM_pebble (x1 : Int) (x2 : Int) (x3 : Int)  (w : pj_W) (r : Int × pj_W) (h : fM_pebble x1 x2 x3 w = some r) : pj_Cn l yX12_pebble cX12_pebble 4 (some .int) 2 42 true g [(26, 0), (0, x1), (0, x2), (0, x3)] w ((some (0, r.1) : Option pj_V), r.2) :=
  pj_Cn_of rfl (Nat.le_of_ble_eq_true rfl) (lls := [(26, 0), (0, x1), (0, x2), (0, x3)]) rfl (fun Go hM => tM_pebble hM x1 x2 x3 w (fun x => ((some (0, x.1) : Option pj_V), x.2) = ((some (0, r.1) : Option pj_V), r.2)) (fun r h => h) r h rfl)
noncomputable def fM_pour_54  (w : pj_W) : Option (Int × pj_W) :=
  (fM_is 2 w).bind fun p1 => (if p1.1 = 0 ∨ p1.1 = 1 then (some ((p1.1, p1.2))) else none)
noncomputable def fM_pour_143 (x1 : Int) (x2 : Int) (x3 : Int) (x4 : Int) (x5 : Int) (x6 : Int) (s0 : Int) (w : pj_W) : Option ((Int × pj_W) ⊕ (Int × pj_W)) :=
  if 0 ≤ (pj_wr ((pj_wr ((pj_wr (60 * x1)) + x2)) + s0)) ∧ (pj_wr ((pj_wr ((pj_wr (60 * x1)) + x2)) + s0)) < 240 then (if 0 ≤ (pj_wr ((pj_wr ((pj_wr (60 * x3)) + x4)) + s0)) ∧ (pj_wr ((pj_wr ((pj_wr (60 * x3)) + x4)) + s0)) < 240 then ((some (pj_set w 64 0 (pj_wr ((pj_wr ((pj_wr (60 * x3)) + x4)) + s0)) (w 64 0 (pj_wr ((pj_wr ((pj_wr (60 * x1)) + x2)) + s0))))).bind fun w3 => (some (Sum.inl ((pj_wr (x6 + 1)), w3)))) else none) else none
noncomputable def fM_pour_118b (x1 : Int) (x2 : Int) (x3 : Int) (x4 : Int) (x5 : Int) (x6 : Int) (w : pj_W) : Option ((Int × pj_W) ⊕ (Int × pj_W)) :=
  if x5 ≤ x6 then ((fM_is 0 w).bind fun p2 => (if p2.1 = 0 ∨ p2.1 = 1 then (some (Sum.inr ((p2.1, p2.2)))) else none)) else (fM_pour_143 x1 x2 x3 x4 x5 x6 (if x4 ≤ x2 then x6 else (pj_wr ((pj_wr (x5 - 1)) - x6))) w)
noncomputable def fM_pour_118 (x1 : Int) (x2 : Int) (x3 : Int) (x4 : Int) (x5 : Int) (s : (Int × pj_W)) : Option (Int × pj_W) := pj_Lp (fun s : (Int × pj_W) => fM_pour_118b x1 x2 x3 x4 x5 s.1 s.2) s
noncomputable def fM_pour_28  (w : pj_W) : Option (Int × pj_W) :=
  (fM_is 1 w).bind fun p1 => (if p1.1 = 0 ∨ p1.1 = 1 then (some ((p1.1, p1.2))) else none)
noncomputable def fM_pour_109  (w : pj_W) : Option (Int × pj_W) :=
  (fM_is 3 w).bind fun p1 => (if p1.1 = 0 ∨ p1.1 = 1 then (some ((p1.1, p1.2))) else none)
noncomputable def fM_pour (x1 : Int) (x2 : Int) (x3 : Int) (x4 : Int) (x5 : Int) (w : pj_W) : Option (Int × pj_W) :=
  (fM_isTray x1 w).bind fun p1 => (if p1 = 0 then (fM_pour_28 w) else ((fM_isTray x3 w).bind fun p4 => (if p4 = 0 then (fM_pour_28 w) else (if x2 < 0 then (fM_pour_28 w) else (if x4 < 0 then (fM_pour_28 w) else (if 0 ≤ x5 then (if 0 ≤ x1 ∧ x1 < 4 then (if (w 63 0 x1) = (-1) then (fM_pour_54 w) else (if 0 ≤ x3 ∧ x3 < 4 then (if (w 63 0 x3) = (-1) then (fM_pour_54 w) else (if (w 62 0 x1) = (w 62 0 x3) then (if (pj_wr ((w 63 0 x1) - x2)) < x5 then (fM_pour_109 w) else (if x5 ≤ (pj_wr ((w 63 0 x3) - x4)) then (fM_pour_118 x1 x2 x3 x4 x5 (0, w)) else (fM_pour_109 w))) else ((fM_is 8 w).bind fun p17 => (if p17.1 = 0 ∨ p17.1 = 1 then (some ((p17.1, p17.2))) else none)))) else none)) else none) else (fM_pour_28 w)))))))
theorem tM_pour_54 {Go : pj_C → Prop} (hM : pj_M l yX12_pour cX12_pour 8 (some .boolean) 1 21 true g n0 o Go)  (w : pj_W)  (R : Int × pj_W → Prop) (h0 : ∀ r, R (r) → ((some (0, r.1) : Option pj_V), r.2) = o) : pj_TG R (fM_pour_54  w) (Go (54, [(26, 0), (9, 0), (9, 0), (9, 0), (9, 0), (9, 0), (9, 0), (9, 0)], [], w)) := by
  unfold fM_pour_54
  refine pj_tbind (fun p1 h2 => ?_)
  refine pj_tgd (fun h3 => ?_)
  exact pj_tret (fun hr => pj_aload_n hM (pc := 54) dX12_pour_54 rfl rfl (pj_iconst hM (pc := 55) dX12_pour_55 (by decide) (pj_cV hM (pc := 56) (cM_is 2 w p1 h2) dX12_pour_56 mf_X12_is mv_X12_is ml_X12_85 kc_26 rfl rfl (by decide) rfl rfl (pj_ret hM (pc := 59) dX12_pour_59 ⟨_, rfl, h3⟩ (h0 ((p1.1, p1.2)) hr) rfl))))
theorem tM_pour_143 {Go : pj_C → Prop} (hM : pj_M l yX12_pour cX12_pour 8 (some .boolean) 1 21 true g n0 o Go) (x1 : Int) (x2 : Int) (x3 : Int) (x4 : Int) (x5 : Int) (x6 : Int) (s0 : Int) (w : pj_W)  (R : (Int × pj_W) ⊕ (Int × pj_W) → Prop) (h0 : ∀ r, R (Sum.inr (r)) → ((some (0, r.1) : Option pj_V), r.2) = o) (hk118 : ∀ s, R (Sum.inl s) → Go (118, [(26, 0), (0, x1), (0, x2), (0, x3), (0, x4), (0, x5), (0, s.1), (9, 0)], [], s.2)) : pj_TG R (fM_pour_143 x1 x2 x3 x4 x5 x6 s0 w) (Go (143, [(26, 0), (0, x1), (0, x2), (0, x3), (0, x4), (0, x5), (0, x6), (9, 0)], [(0, s0)], w)) := by
  unfold fM_pour_143
  refine pj_tgd (fun h1 => ?_)
  refine pj_tgd (fun h2 => ?_)
  refine pj_map (fun k => pj_istore hM (pc := 143) dX12_pour_143 (by decide) (lls' := [(26, 0), (0, x1), (0, x2), (0, x3), (0, x4), (0, x5), (0, x6), (0, s0)]) rfl (pj_aload_n hM (pc := 145) dX12_pour_145 rfl rfl (pj_getF hM (pc := 146) (t := 64) dX12_pour_146 fl_X12_27 (by decide) rfl rfl (pj_bipush hM (pc := 149) dX12_pour_149 (by decide) (pj_iload_n hM (pc := 151) dX12_pour_151 rfl (pj_imul hM (pc := 152) dX12_pour_152 (pj_iload hM (pc := 153) dX12_pour_153 rfl (pj_iadd hM (pc := 155) dX12_pour_155 (pj_iload hM (pc := 156) dX12_pour_156 rfl (pj_iadd hM (pc := 158) dX12_pour_158 (pj_aload_n hM (pc := 159) dX12_pour_159 rfl rfl (pj_getF hM (pc := 160) (t := 64) dX12_pour_160 fl_X12_27 (by decide) rfl rfl (pj_bipush hM (pc := 163) dX12_pour_163 (by decide) (pj_iload_n hM (pc := 165) dX12_pour_165 rfl (pj_imul hM (pc := 166) dX12_pour_166 (pj_iload_n hM (pc := 167) dX12_pour_167 rfl (pj_iadd hM (pc := 168) dX12_pour_168 (pj_iload hM (pc := 169) dX12_pour_169 rfl (pj_iadd hM (pc := 171) dX12_pour_171 (pj_lal hM (pc := 172) dX12_pour_172 kl_64 (by decide) h1 (pj_las hM (pc := 173) dX12_pour_173 kl_64 (by decide) h2 k))))))))))))))))))))) ?_
  refine pj_tlet (fun w3 => Go (174, [(26, 0), (0, x1), (0, x2), (0, x3), (0, x4), (0, x5), (0, x6), (0, s0)], [], w3)) (fun w3 => ?_)
  exact pj_tret (fun hr => pj_iinc hM (pc := 174) dX12_pour_174 rfl (by decide) (lls' := [(26, 0), (0, x1), (0, x2), (0, x3), (0, x4), (0, x5), (0, (pj_wr (x6 + 1))), (0, s0)]) rfl (pj_goto hM (pc := 177) dX12_pour_177 rfl (pj_kill hM [true, true, true, true, true, true, true, false] (lls' := [(26, 0), (0, x1), (0, x2), (0, x3), (0, x4), (0, x5), (0, (pj_wr (x6 + 1))), (9, 0)]) rfl ((hk118 _ hr)))))
theorem tM_pour_118b {Go : pj_C → Prop} (hM : pj_M l yX12_pour cX12_pour 8 (some .boolean) 1 21 true g n0 o Go) (x1 : Int) (x2 : Int) (x3 : Int) (x4 : Int) (x5 : Int) (x6 : Int) (w : pj_W)  (R : (Int × pj_W) ⊕ (Int × pj_W) → Prop) (h0 : ∀ r, R (Sum.inr (r)) → ((some (0, r.1) : Option pj_V), r.2) = o) (hk118 : ∀ s, R (Sum.inl s) → Go (118, [(26, 0), (0, x1), (0, x2), (0, x3), (0, x4), (0, x5), (0, s.1), (9, 0)], [], s.2)) : pj_TG R (fM_pour_118b x1 x2 x3 x4 x5 x6 w) (Go (118, [(26, 0), (0, x1), (0, x2), (0, x3), (0, x4), (0, x5), (0, x6), (9, 0)], [], w)) := by
  unfold fM_pour_118b
  refine pj_map (fun k => pj_iload hM (pc := 118) dX12_pour_118 rfl (pj_iload hM (pc := 120) dX12_pour_120 rfl k)) ?_
  refine pj_tif (fun h1 => ?_) (fun h1 => ?_)
  · refine pj_tbind (fun p2 h3 => ?_)
    refine pj_tgd (fun h4 => ?_)
    exact pj_tret (fun hr => pj_ic_ge_t hM (pc := 122) dX12_pour_122 rfl h1 (pj_aload_n hM (pc := 180) dX12_pour_180 rfl rfl (pj_iconst hM (pc := 181) dX12_pour_181 (by decide) (pj_cV hM (pc := 182) (cM_is 0 w p2 h3) dX12_pour_182 mf_X12_is mv_X12_is ml_X12_85 kc_26 rfl rfl (by decide) rfl rfl (pj_ret hM (pc := 185) dX12_pour_185 ⟨_, rfl, h4⟩ (h0 ((p2.1, p2.2)) hr) rfl)))))
  refine pj_map (fun k => pj_ic_ge_f hM (pc := 122) 180 dX12_pour_122 rfl h1 (pj_iload_n hM (pc := 125) dX12_pour_125 rfl (pj_iload hM (pc := 126) dX12_pour_126 rfl k))) ?_
  refine pj_tJ (fun v : Int => fM_pour_143 x1 x2 x3 x4 x5 x6 v w) (fun h5 => ?_) (fun h5 => ?_)
  · refine pj_map (fun k => pj_ic_ge_t hM (pc := 128) dX12_pour_128 rfl h5 (pj_iload hM (pc := 141) dX12_pour_141 rfl (pj_kill hM [true, true, true, true, true, true, true, false] (lls' := [(26, 0), (0, x1), (0, x2), (0, x3), (0, x4), (0, x5), (0, x6), (9, 0)]) rfl k))) ?_
    exact tM_pour_143 hM x1 x2 x3 x4 x5 x6 x6 w _ h0 hk118
  refine pj_map (fun k => pj_ic_ge_f hM (pc := 128) 141 dX12_pour_128 rfl h5 (pj_iload hM (pc := 131) dX12_pour_131 rfl (pj_iconst hM (pc := 133) dX12_pour_133 (by decide) (pj_isub hM (pc := 134) dX12_pour_134 (pj_iload hM (pc := 135) dX12_pour_135 rfl (pj_isub hM (pc := 137) dX12_pour_137 (pj_goto hM (pc := 138) dX12_pour_138 rfl (pj_kill hM [true, true, true, true, true, true, true, false] (lls' := [(26, 0), (0, x1), (0, x2), (0, x3), (0, x4), (0, x5), (0, x6), (9, 0)]) rfl k)))))))) ?_
  exact tM_pour_143 hM x1 x2 x3 x4 x5 x6 (pj_wr ((pj_wr (x5 - 1)) - x6)) w _ h0 hk118
theorem tM_pour_118 {Go : pj_C → Prop} (hM : pj_M l yX12_pour cX12_pour 8 (some .boolean) 1 21 true g n0 o Go) (x1 : Int) (x2 : Int) (x3 : Int) (x4 : Int) (x5 : Int)  (R : Int × pj_W → Prop) (h0 : ∀ r, R (r) → ((some (0, r.1) : Option pj_V), r.2) = o) (s : (Int × pj_W)) : pj_TG R (fM_pour_118 x1 x2 x3 x4 x5 s) (Go (118, [(26, 0), (0, x1), (0, x2), (0, x3), (0, x4), (0, x5), (0, s.1), (9, 0)], [], s.2)) := by
  unfold fM_pour_118
  exact pj_tLp (G := fun s : (Int × pj_W) => Go (118, [(26, 0), (0, x1), (0, x2), (0, x3), (0, x4), (0, x5), (0, s.1), (9, 0)], [], s.2)) (fun s => tM_pour_118b hM x1 x2 x3 x4 x5 s.1 s.2  _ (fun r h => h0 r h)  (fun s h => h)) s
theorem tM_pour_28 {Go : pj_C → Prop} (hM : pj_M l yX12_pour cX12_pour 8 (some .boolean) 1 21 true g n0 o Go)  (w : pj_W)  (R : Int × pj_W → Prop) (h0 : ∀ r, R (r) → ((some (0, r.1) : Option pj_V), r.2) = o) : pj_TG R (fM_pour_28  w) (Go (28, [(26, 0), (9, 0), (9, 0), (9, 0), (9, 0), (9, 0), (9, 0), (9, 0)], [], w)) := by
  unfold fM_pour_28
  refine pj_tbind (fun p1 h2 => ?_)
  refine pj_tgd (fun h3 => ?_)
  exact pj_tret (fun hr => pj_aload_n hM (pc := 28) dX12_pour_28 rfl rfl (pj_iconst hM (pc := 29) dX12_pour_29 (by decide) (pj_cV hM (pc := 30) (cM_is 1 w p1 h2) dX12_pour_30 mf_X12_is mv_X12_is ml_X12_85 kc_26 rfl rfl (by decide) rfl rfl (pj_ret hM (pc := 33) dX12_pour_33 ⟨_, rfl, h3⟩ (h0 ((p1.1, p1.2)) hr) rfl))))
theorem tM_pour_109 {Go : pj_C → Prop} (hM : pj_M l yX12_pour cX12_pour 8 (some .boolean) 1 21 true g n0 o Go)  (w : pj_W)  (R : Int × pj_W → Prop) (h0 : ∀ r, R (r) → ((some (0, r.1) : Option pj_V), r.2) = o) : pj_TG R (fM_pour_109  w) (Go (109, [(26, 0), (9, 0), (9, 0), (9, 0), (9, 0), (9, 0), (9, 0), (9, 0)], [], w)) := by
  unfold fM_pour_109
  refine pj_tbind (fun p1 h2 => ?_)
  refine pj_tgd (fun h3 => ?_)
  exact pj_tret (fun hr => pj_aload_n hM (pc := 109) dX12_pour_109 rfl rfl (pj_iconst hM (pc := 110) dX12_pour_110 (by decide) (pj_cV hM (pc := 111) (cM_is 3 w p1 h2) dX12_pour_111 mf_X12_is mv_X12_is ml_X12_85 kc_26 rfl rfl (by decide) rfl rfl (pj_ret hM (pc := 114) dX12_pour_114 ⟨_, rfl, h3⟩ (h0 ((p1.1, p1.2)) hr) rfl))))
theorem tM_pour {Go : pj_C → Prop} (hM : pj_M l yX12_pour cX12_pour 8 (some .boolean) 1 21 true g n0 o Go) (x1 : Int) (x2 : Int) (x3 : Int) (x4 : Int) (x5 : Int) (w : pj_W)  (R : Int × pj_W → Prop) (h0 : ∀ r, R (r) → ((some (0, r.1) : Option pj_V), r.2) = o) : pj_TG R (fM_pour x1 x2 x3 x4 x5 w) (Go (0, [(26, 0), (0, x1), (0, x2), (0, x3), (0, x4), (0, x5), (9, 0), (9, 0)], [], w)) := by
  unfold fM_pour
  refine pj_tbind (fun p1 h2 => ?_)
  refine pj_map (fun k => pj_iload_n hM (pc := 0) dX12_pour_0 rfl (pj_cS hM (pc := 1) (cM_isTray x1 w p1 h2) dX12_pour_1 mf_X12_isTray ms_X12_isTray ml_X12_89 rfl rfl rfl rfl k)) ?_
  refine pj_tif (fun h3 => ?_) (fun h3 => ?_)
  · refine pj_map (fun k => pj_if_eq_t hM (pc := 4) dX12_pour_4 rfl h3 (pj_kill hM [true, false, false, false, false, false, false, false] (lls' := [(26, 0), (9, 0), (9, 0), (9, 0), (9, 0), (9, 0), (9, 0), (9, 0)]) rfl k)) ?_
    exact tM_pour_28 hM w _ h0
  refine pj_tbind (fun p4 h5 => ?_)
  refine pj_map (fun k => pj_if_eq_f hM (pc := 4) 28 dX12_pour_4 rfl h3 (pj_iload_n hM (pc := 7) dX12_pour_7 rfl (pj_cS hM (pc := 8) (cM_isTray x3 w p4 h5) dX12_pour_8 mf_X12_isTray ms_X12_isTray ml_X12_89 rfl rfl rfl rfl k))) ?_
  refine pj_tif (fun h6 => ?_) (fun h6 => ?_)
  · refine pj_map (fun k => pj_if_eq_t hM (pc := 11) dX12_pour_11 rfl h6 (pj_kill hM [true, false, false, false, false, false, false, false] (lls' := [(26, 0), (9, 0), (9, 0), (9, 0), (9, 0), (9, 0), (9, 0), (9, 0)]) rfl k)) ?_
    exact tM_pour_28 hM w _ h0
  refine pj_map (fun k => pj_if_eq_f hM (pc := 11) 28 dX12_pour_11 rfl h6 (pj_iload_n hM (pc := 14) dX12_pour_14 rfl k)) ?_
  refine pj_tif (fun h7 => ?_) (fun h7 => ?_)
  · refine pj_map (fun k => pj_if_lt_t hM (pc := 15) dX12_pour_15 rfl h7 (pj_kill hM [true, false, false, false, false, false, false, false] (lls' := [(26, 0), (9, 0), (9, 0), (9, 0), (9, 0), (9, 0), (9, 0), (9, 0)]) rfl k)) ?_
    exact tM_pour_28 hM w _ h0
  refine pj_map (fun k => pj_if_lt_f hM (pc := 15) 28 dX12_pour_15 rfl h7 (pj_iload hM (pc := 18) dX12_pour_18 rfl k)) ?_
  refine pj_tif (fun h8 => ?_) (fun h8 => ?_)
  · refine pj_map (fun k => pj_if_lt_t hM (pc := 20) dX12_pour_20 rfl h8 (pj_kill hM [true, false, false, false, false, false, false, false] (lls' := [(26, 0), (9, 0), (9, 0), (9, 0), (9, 0), (9, 0), (9, 0), (9, 0)]) rfl k)) ?_
    exact tM_pour_28 hM w _ h0
  refine pj_map (fun k => pj_if_lt_f hM (pc := 20) 28 dX12_pour_20 rfl h8 (pj_iload hM (pc := 23) dX12_pour_23 rfl k)) ?_
  refine pj_tif (fun h9 => ?_) (fun h9 => ?_)
  · refine pj_tgd (fun h10 => ?_)
    refine pj_map (fun k => pj_if_ge_t hM (pc := 25) dX12_pour_25 rfl h9 (pj_aload_n hM (pc := 34) dX12_pour_34 rfl rfl (pj_getF hM (pc := 35) (t := 63) dX12_pour_35 fl_X12_24 (by decide) rfl rfl (pj_iload_n hM (pc := 38) dX12_pour_38 rfl (pj_ial hM (pc := 39) dX12_pour_39 ki_63 (by decide) h10 (pj_iconst hM (pc := 40) dX12_pour_40 (by decide) k)))))) ?_
    refine pj_tif (fun h11 => ?_) (fun h11 => ?_)
    · refine pj_map (fun k => pj_ic_eq_t hM (pc := 41) dX12_pour_41 rfl h11 (pj_kill hM [true, false, false, false, false, false, false, false] (lls' := [(26, 0), (9, 0), (9, 0), (9, 0), (9, 0), (9, 0), (9, 0), (9, 0)]) rfl k)) ?_
      exact tM_pour_54 hM w _ h0
    refine pj_tgd (fun h12 => ?_)
    refine pj_map (fun k => pj_ic_eq_f hM (pc := 41) 54 dX12_pour_41 rfl h11 (pj_aload_n hM (pc := 44) dX12_pour_44 rfl rfl (pj_getF hM (pc := 45) (t := 63) dX12_pour_45 fl_X12_24 (by decide) rfl rfl (pj_iload_n hM (pc := 48) dX12_pour_48 rfl (pj_ial hM (pc := 49) dX12_pour_49 ki_63 (by decide) h12 (pj_iconst hM (pc := 50) dX12_pour_50 (by decide) k)))))) ?_
    refine pj_tif (fun h13 => ?_) (fun h13 => ?_)
    · refine pj_map (fun k => pj_ic_ne_f hM (pc := 51) 60 dX12_pour_51 rfl (fun q => q h13) (pj_kill hM [true, false, false, false, false, false, false, false] (lls' := [(26, 0), (9, 0), (9, 0), (9, 0), (9, 0), (9, 0), (9, 0), (9, 0)]) rfl k)) ?_
      exact tM_pour_54 hM w _ h0
    refine pj_map (fun k => pj_ic_ne_t hM (pc := 51) dX12_pour_51 rfl h13 (pj_aload_n hM (pc := 60) dX12_pour_60 rfl rfl (pj_getF hM (pc := 61) (t := 62) dX12_pour_61 fl_X12_21 (by decide) rfl rfl (pj_iload_n hM (pc := 64) dX12_pour_64 rfl (pj_ial hM (pc := 65) dX12_pour_65 ki_62 (by decide) h10 (pj_aload_n hM (pc := 66) dX12_pour_66 rfl rfl (pj_getF hM (pc := 67) (t := 62) dX12_pour_67 fl_X12_21 (by decide) rfl rfl (pj_iload_n hM (pc := 70) dX12_pour_70 rfl (pj_ial hM (pc := 71) dX12_pour_71 ki_62 (by decide) h12 k))))))))) ?_
    refine pj_tif (fun h14 => ?_) (fun h14 => ?_)
    · refine pj_map (fun k => pj_ic_eq_t hM (pc := 72) dX12_pour_72 rfl h14 (pj_iload hM (pc := 82) dX12_pour_82 rfl (pj_aload_n hM (pc := 84) dX12_pour_84 rfl rfl (pj_getF hM (pc := 85) (t := 63) dX12_pour_85 fl_X12_24 (by decide) rfl rfl (pj_iload_n hM (pc := 88) dX12_pour_88 rfl (pj_ial hM (pc := 89) dX12_pour_89 ki_63 (by decide) h10 (pj_iload_n hM (pc := 90) dX12_pour_90 rfl (pj_isub hM (pc := 91) dX12_pour_91 k)))))))) ?_
      refine pj_tif (fun h15 => ?_) (fun h15 => ?_)
      · refine pj_map (fun k => pj_ic_gt_t hM (pc := 92) dX12_pour_92 rfl h15 (pj_kill hM [true, false, false, false, false, false, false, false] (lls' := [(26, 0), (9, 0), (9, 0), (9, 0), (9, 0), (9, 0), (9, 0), (9, 0)]) rfl k)) ?_
        exact tM_pour_109 hM w _ h0
      refine pj_map (fun k => pj_ic_gt_f hM (pc := 92) 109 dX12_pour_92 rfl h15 (pj_iload hM (pc := 95) dX12_pour_95 rfl (pj_aload_n hM (pc := 97) dX12_pour_97 rfl rfl (pj_getF hM (pc := 98) (t := 63) dX12_pour_98 fl_X12_24 (by decide) rfl rfl (pj_iload_n hM (pc := 101) dX12_pour_101 rfl (pj_ial hM (pc := 102) dX12_pour_102 ki_63 (by decide) h12 (pj_iload hM (pc := 103) dX12_pour_103 rfl (pj_isub hM (pc := 105) dX12_pour_105 k)))))))) ?_
      refine pj_tif (fun h16 => ?_) (fun h16 => ?_)
      · refine pj_map (fun k => pj_ic_le_t hM (pc := 106) dX12_pour_106 rfl h16 (pj_iconst hM (pc := 115) dX12_pour_115 (by decide) (pj_istore hM (pc := 116) dX12_pour_116 (by decide) (lls' := [(26, 0), (0, x1), (0, x2), (0, x3), (0, x4), (0, x5), (0, 0), (9, 0)]) rfl (pj_kill hM [true, true, true, true, true, true, true, false] (lls' := [(26, 0), (0, x1), (0, x2), (0, x3), (0, x4), (0, x5), (0, 0), (9, 0)]) rfl k)))) ?_
        exact tM_pour_118 hM x1 x2 x3 x4 x5 _ h0 _
      refine pj_map (fun k => pj_ic_le_f hM (pc := 106) 115 dX12_pour_106 rfl h16 (pj_kill hM [true, false, false, false, false, false, false, false] (lls' := [(26, 0), (9, 0), (9, 0), (9, 0), (9, 0), (9, 0), (9, 0), (9, 0)]) rfl k)) ?_
      exact tM_pour_109 hM w _ h0
    refine pj_tbind (fun p17 h18 => ?_)
    refine pj_tgd (fun h19 => ?_)
    exact pj_tret (fun hr => pj_ic_eq_f hM (pc := 72) 82 dX12_pour_72 rfl h14 (pj_aload_n hM (pc := 75) dX12_pour_75 rfl rfl (pj_bipush hM (pc := 76) dX12_pour_76 (by decide) (pj_cV hM (pc := 78) (cM_is 8 w p17 h18) dX12_pour_78 mf_X12_is mv_X12_is ml_X12_85 kc_26 rfl rfl (by decide) rfl rfl (pj_ret hM (pc := 81) dX12_pour_81 ⟨_, rfl, h19⟩ (h0 ((p17.1, p17.2)) hr) rfl)))))
  refine pj_map (fun k => pj_if_ge_f hM (pc := 25) 34 dX12_pour_25 rfl h9 (pj_kill hM [true, false, false, false, false, false, false, false] (lls' := [(26, 0), (9, 0), (9, 0), (9, 0), (9, 0), (9, 0), (9, 0), (9, 0)]) rfl k)) ?_
  exact tM_pour_28 hM w _ h0
theorem cM_pour (x1 : Int) (x2 : Int) (x3 : Int) (x4 : Int) (x5 : Int)  (w : pj_W) (r : Int × pj_W) (h : fM_pour x1 x2 x3 x4 x5 w = some r) : pj_Cn l yX12_pour cX12_pour 8 (some .boolean) 1 21 true g [(26, 0), (0, x1), (0, x2), (0, x3), (0, x4), (0, x5)] w ((some (0, r.1) : Option pj_V), r.2) :=
  pj_Cn_of rfl (Nat.le_of_ble_eq_true rfl) (lls := [(26, 0), (0, x1), (0, x2), (0, x3), (0, x4), (0, x5), (9, 0), (9, 0)]) rfl (fun Go hM => tM_pour hM x1 x2 x3 x4 x5 w (fun x => ((some (0, x.1) : Option pj_V), x.2) = ((some (0, r.1) : Option pj_V), r.2)) (fun r h => h) r h rfl)
noncomputable def fM_ranked (x1 : Int) (w : pj_W) : Option (Int × pj_W) :=
  (fM_atRank x1 w).bind fun p1 => ((fM_orNone p1 w).bind fun p3 => (some ((p3.1, p3.2))))
theorem tM_ranked {Go : pj_C → Prop} (hM : pj_M l yX12_ranked cX12_ranked 2 (some .int) 7 161 true g n0 o Go) (x1 : Int) (w : pj_W)  (R : Int × pj_W → Prop) (h0 : ∀ r, R (r) → ((some (0, r.1) : Option pj_V), r.2) = o) : pj_TG R (fM_ranked x1 w) (Go (0, [(26, 0), (0, x1)], [], w)) := by
  unfold fM_ranked
  refine pj_tbind (fun p1 h2 => ?_)
  refine pj_tbind (fun p3 h4 => ?_)
  exact pj_tret (fun hr => pj_aload_n hM (pc := 0) dX12_ranked_0 rfl rfl (pj_aload_n hM (pc := 1) dX12_ranked_1 rfl rfl (pj_iload_n hM (pc := 2) dX12_ranked_2 rfl (pj_cV hM (pc := 3) (cM_atRank x1 w p1 h2) dX12_ranked_3 mf_X12_atRank mv_X12_atRank ml_X12_355 kc_26 rfl rfl (by decide) rfl rfl (pj_cV hM (pc := 6) (cM_orNone p1 w p3 h4) dX12_ranked_6 mf_X12_orNone mv_X12_orNone ml_X12_358 kc_26 rfl rfl (by decide) rfl rfl (pj_ret hM (pc := 9) dX12_ranked_9 ⟨_, rfl⟩ (h0 ((p3.1, p3.2)) hr) rfl))))))
theorem cM_ranked (x1 : Int)  (w : pj_W) (r : Int × pj_W) (h : fM_ranked x1 w = some r) : pj_Cn l yX12_ranked cX12_ranked 2 (some .int) 7 161 true g [(26, 0), (0, x1)] w ((some (0, r.1) : Option pj_V), r.2) :=
  pj_Cn_of rfl (Nat.le_of_ble_eq_true rfl) (lls := [(26, 0), (0, x1)]) rfl (fun Go hM => tM_ranked hM x1 w (fun x => ((some (0, x.1) : Option pj_V), x.2) = ((some (0, r.1) : Option pj_V), r.2)) (fun r h => h) r h rfl)
noncomputable def fM_wrongPlace_39  (w : pj_W) : Option (Int) :=
  some (3)
noncomputable def fM_wrongPlace (x1 : Int) (x2 : Int) (w : pj_W) : Option (Int) :=
  (fM_isTray x1 w).bind fun p1 => (if p1 = 0 then (some (1)) else (if 0 ≤ x1 ∧ x1 < 4 then (if (w 63 0 x1) = (-1) then (some (2)) else (if x2 < 0 then (fM_wrongPlace_39 w) else (if x2 < (w 63 0 x1) then (some (0)) else (fM_wrongPlace_39 w)))) else none))
theorem tM_wrongPlace_39 {Go : pj_C → Prop} (hM : pj_M l yX12_wrongPlace cX12_wrongPlace 3 (some .int) 1 20 true g n0 o Go)  (w : pj_W)  (R : Int → Prop) (h0 : ∀ r, R (r) → ((some (0, r) : Option pj_V), w) = o) : pj_TG R (fM_wrongPlace_39  w) (Go (39, [(26, 0), (9, 0), (9, 0)], [], w)) := by
  unfold fM_wrongPlace_39
  exact pj_tret (fun hr => pj_iconst hM (pc := 39) dX12_wrongPlace_39 (by decide) (pj_goto hM (pc := 40) dX12_wrongPlace_40 rfl (pj_ret hM (pc := 44) dX12_wrongPlace_44 ⟨_, rfl⟩ (h0 (3) hr) rfl)))
theorem tM_wrongPlace {Go : pj_C → Prop} (hM : pj_M l yX12_wrongPlace cX12_wrongPlace 3 (some .int) 1 20 true g n0 o Go) (x1 : Int) (x2 : Int) (w : pj_W)  (R : Int → Prop) (h0 : ∀ r, R (r) → ((some (0, r) : Option pj_V), w) = o) : pj_TG R (fM_wrongPlace x1 x2 w) (Go (0, [(26, 0), (0, x1), (0, x2)], [], w)) := by
  unfold fM_wrongPlace
  refine pj_tbind (fun p1 h2 => ?_)
  refine pj_map (fun k => pj_iload_n hM (pc := 0) dX12_wrongPlace_0 rfl (pj_cS hM (pc := 1) (cM_isTray x1 w p1 h2) dX12_wrongPlace_1 mf_X12_isTray ms_X12_isTray ml_X12_89 rfl rfl rfl rfl k)) ?_
  refine pj_tif (fun h3 => ?_) (fun h3 => ?_)
  · exact pj_tret (fun hr => pj_if_ne_f hM (pc := 4) 11 dX12_wrongPlace_4 rfl (fun q => q h3) (pj_iconst hM (pc := 7) dX12_wrongPlace_7 (by decide) (pj_goto hM (pc := 8) dX12_wrongPlace_8 rfl (pj_ret hM (pc := 44) dX12_wrongPlace_44 ⟨_, rfl⟩ (h0 (1) hr) rfl))))
  refine pj_tgd (fun h4 => ?_)
  refine pj_map (fun k => pj_if_ne_t hM (pc := 4) dX12_wrongPlace_4 rfl h3 (pj_aload_n hM (pc := 11) dX12_wrongPlace_11 rfl rfl (pj_getF hM (pc := 12) (t := 63) dX12_wrongPlace_12 fl_X12_24 (by decide) rfl rfl (pj_iload_n hM (pc := 15) dX12_wrongPlace_15 rfl (pj_ial hM (pc := 16) dX12_wrongPlace_16 ki_63 (by decide) h4 (pj_iconst hM (pc := 17) dX12_wrongPlace_17 (by decide) k)))))) ?_
  refine pj_tif (fun h5 => ?_) (fun h5 => ?_)
  · exact pj_tret (fun hr => pj_ic_ne_f hM (pc := 18) 25 dX12_wrongPlace_18 rfl (fun q => q h5) (pj_iconst hM (pc := 21) dX12_wrongPlace_21 (by decide) (pj_goto hM (pc := 22) dX12_wrongPlace_22 rfl (pj_ret hM (pc := 44) dX12_wrongPlace_44 ⟨_, rfl⟩ (h0 (2) hr) rfl))))
  refine pj_map (fun k => pj_ic_ne_t hM (pc := 18) dX12_wrongPlace_18 rfl h5 (pj_iload_n hM (pc := 25) dX12_wrongPlace_25 rfl k)) ?_
  refine pj_tif (fun h6 => ?_) (fun h6 => ?_)
  · refine pj_map (fun k => pj_if_lt_t hM (pc := 26) dX12_wrongPlace_26 rfl h6 (pj_kill hM [true, false, false] (lls' := [(26, 0), (9, 0), (9, 0)]) rfl k)) ?_
    exact tM_wrongPlace_39 hM w _ h0
  refine pj_map (fun k => pj_if_lt_f hM (pc := 26) 39 dX12_wrongPlace_26 rfl h6 (pj_iload_n hM (pc := 29) dX12_wrongPlace_29 rfl (pj_aload_n hM (pc := 30) dX12_wrongPlace_30 rfl rfl (pj_getF hM (pc := 31) (t := 63) dX12_wrongPlace_31 fl_X12_24 (by decide) rfl rfl (pj_iload_n hM (pc := 34) dX12_wrongPlace_34 rfl (pj_ial hM (pc := 35) dX12_wrongPlace_35 ki_63 (by decide) h4 k)))))) ?_
  refine pj_tif (fun h7 => ?_) (fun h7 => ?_)
  · exact pj_tret (fun hr => pj_ic_lt_t hM (pc := 36) dX12_wrongPlace_36 rfl h7 (pj_iconst hM (pc := 43) dX12_wrongPlace_43 (by decide) (pj_ret hM (pc := 44) dX12_wrongPlace_44 ⟨_, rfl⟩ (h0 (0) hr) rfl)))
  refine pj_map (fun k => pj_ic_lt_f hM (pc := 36) 43 dX12_wrongPlace_36 rfl h7 (pj_kill hM [true, false, false] (lls' := [(26, 0), (9, 0), (9, 0)]) rfl k)) ?_
  exact tM_wrongPlace_39 hM w _ h0
theorem cM_wrongPlace (x1 : Int) (x2 : Int)  (w : pj_W) (r : Int) (h : fM_wrongPlace x1 x2 w = some r) : pj_Cn l yX12_wrongPlace cX12_wrongPlace 3 (some .int) 1 20 true g [(26, 0), (0, x1), (0, x2)] w ((some (0, r) : Option pj_V), w) :=
  pj_Cn_of rfl (Nat.le_of_ble_eq_true rfl) (lls := [(26, 0), (0, x1), (0, x2)]) rfl (fun Go hM => tM_wrongPlace hM x1 x2 w (fun x => ((some (0, x) : Option pj_V), w) = ((some (0, r) : Option pj_V), w)) (fun r h => h) r h rfl)
noncomputable def fM_read (x1 : Int) (x2 : Int) (w : pj_W) : Option (Int × pj_W) :=
  (fM_wrongPlace x1 x2 w).bind fun p1 => (if ((pj_set w 26 0 2 p1) 26 0 2) ≤ 0 then (if 0 ≤ (pj_wr ((pj_wr (60 * x1)) + x2)) ∧ (pj_wr ((pj_wr (60 * x1)) + x2)) < 240 then (some ((((pj_set w 26 0 2 p1) 64 0 (pj_wr ((pj_wr (60 * x1)) + x2))), (pj_set w 26 0 2 p1)))) else none) else (some (((-1), (pj_set w 26 0 2 p1)))))
theorem tM_read {Go : pj_C → Prop} (hM : pj_M l yX12_read cX12_read 3 (some .long) 2 42 true g n0 o Go) (x1 : Int) (x2 : Int) (w : pj_W)  (R : Int × pj_W → Prop) (h0 : ∀ r, R (r) → ((some (1, r.1) : Option pj_V), r.2) = o) : pj_TG R (fM_read x1 x2 w) (Go (0, [(26, 0), (0, x1), (0, x2)], [], w)) := by
  unfold fM_read
  refine pj_tbind (fun p1 h2 => ?_)
  refine pj_map (fun k => pj_aload_n hM (pc := 0) dX12_read_0 rfl rfl (pj_aload_n hM (pc := 1) dX12_read_1 rfl rfl (pj_iload_n hM (pc := 2) dX12_read_2 rfl (pj_iload_n hM (pc := 3) dX12_read_3 rfl (pj_cV hM (pc := 4) (cM_wrongPlace x1 x2 w p1 h2) dX12_read_4 mf_X12_wrongPlace mv_X12_wrongPlace ml_X12_92 kc_26 rfl rfl (by decide) rfl rfl (pj_pf hM (pc := 7) dX12_read_7 fl_X12_72 (by decide) rfl (fun h => absurd h (by decide)) (by decide) (fun _ => rfl) 2 rfl (pj_aload_n hM (pc := 10) dX12_read_10 rfl rfl (pj_gf hM (pc := 11) (t := 0) dX12_read_11 fl_X12_72 (by decide) rfl 2 rfl k)))))))) ?_
  refine pj_tif (fun h3 => ?_) (fun h3 => ?_)
  · refine pj_tgd (fun h4 => ?_)
    exact pj_tret (fun hr => pj_if_le_t hM (pc := 14) dX12_read_14 rfl h3 (pj_aload_n hM (pc := 23) dX12_read_23 rfl rfl (pj_getF hM (pc := 24) (t := 64) dX12_read_24 fl_X12_27 (by decide) rfl rfl (pj_bipush hM (pc := 27) dX12_read_27 (by decide) (pj_iload_n hM (pc := 29) dX12_read_29 rfl (pj_imul hM (pc := 30) dX12_read_30 (pj_iload_n hM (pc := 31) dX12_read_31 rfl (pj_iadd hM (pc := 32) dX12_read_32 (pj_lal hM (pc := 33) dX12_read_33 kl_64 (by decide) h4 (pj_ret hM (pc := 34) dX12_read_34 ⟨_, rfl⟩ (h0 ((((pj_set w 26 0 2 p1) 64 0 (pj_wr ((pj_wr (60 * x1)) + x2))), (pj_set w 26 0 2 p1))) hr) rfl))))))))))
  exact pj_tret (fun hr => pj_if_le_f hM (pc := 14) 23 dX12_read_14 rfl h3 (pj_ldc2 hM (pc := 17) (z := (-1)) dX12_read_17 kn_X12_100 rfl (by decide) (pj_goto hM (pc := 20) dX12_read_20 rfl (pj_ret hM (pc := 34) dX12_read_34 ⟨_, rfl⟩ (h0 (((-1), (pj_set w 26 0 2 p1))) hr) rfl))))
theorem cM_read (x1 : Int) (x2 : Int)  (w : pj_W) (r : Int × pj_W) (h : fM_read x1 x2 w = some r) : pj_Cn l yX12_read cX12_read 3 (some .long) 2 42 true g [(26, 0), (0, x1), (0, x2)] w ((some (1, r.1) : Option pj_V), r.2) :=
  pj_Cn_of rfl (Nat.le_of_ble_eq_true rfl) (lls := [(26, 0), (0, x1), (0, x2)]) rfl (fun Go hM => tM_read hM x1 x2 w (fun x => ((some (1, x.1) : Option pj_V), x.2) = ((some (1, r.1) : Option pj_V), r.2)) (fun r h => h) r h rfl)
noncomputable def fM_richest_56 (x1 : Int) (x2 : Int) (w : pj_W) : Option ((Int × Int) ⊕ (Int × pj_W)) :=
  some (Sum.inl (x1, (pj_wr (x2 + 1))))
noncomputable def fM_richest_54 (x2 : Int) (w : pj_W) : Option ((Int × Int) ⊕ (Int × pj_W)) :=
  fM_richest_56 x2 x2 w
noncomputable def fM_richest_4b  (w : pj_W) (x1 : Int) (x2 : Int) : Option ((Int × Int) ⊕ (Int × pj_W)) :=
  if (w 60 0 2) ≤ x2 then ((fM_orNone x1 w).bind fun p2 => (some (Sum.inr ((p2.1, p2.2))))) else ((fM_isThere x2 w).bind fun p4 => (if p4 = 0 then (fM_richest_56 x1 x2 w) else (if x1 = (-1) then (fM_richest_54 x2 w) else ((fM_findRow 0 x2 w).bind fun p8 => (if 0 ≤ (pj_wr (p8 + 1)) ∧ (pj_wr (p8 + 1)) < 8400 then ((fM_findRow 0 x1 w).bind fun p11 => (if 0 ≤ (pj_wr (p11 + 1)) ∧ (pj_wr (p11 + 1)) < 8400 then (if (w 60 0 (pj_wr (p8 + 1))) ≤ (w 60 0 (pj_wr (p11 + 1))) then (fM_richest_56 x1 x2 w) else (fM_richest_54 x2 w)) else none)) else none)))))
noncomputable def fM_richest_4  (w : pj_W) (s : (Int × Int)) : Option (Int × pj_W) := pj_Lp (fun s : (Int × Int) => fM_richest_4b  w s.1 s.2) s
noncomputable def fM_richest  (w : pj_W) : Option (Int × pj_W) :=
  fM_richest_4 w ((-1), 0)
theorem tM_richest_56 {Go : pj_C → Prop} (hM : pj_M l yX12_richest cX12_richest 3 (some .int) 2 42 true g n0 o Go) (x1 : Int) (x2 : Int) (w : pj_W)  (R : (Int × Int) ⊕ (Int × pj_W) → Prop) (h0 : ∀ r, R (Sum.inr (r)) → ((some (0, r.1) : Option pj_V), r.2) = o) (hk4 : ∀ s, R (Sum.inl s) → Go (4, [(26, 0), (0, s.1), (0, s.2)], [], w)) : pj_TG R (fM_richest_56 x1 x2 w) (Go (56, [(26, 0), (0, x1), (0, x2)], [], w)) := by
  unfold fM_richest_56
  exact pj_tret (fun hr => pj_iinc hM (pc := 56) dX12_richest_56 rfl (by decide) (lls' := [(26, 0), (0, x1), (0, (pj_wr (x2 + 1)))]) rfl (pj_goto hM (pc := 59) dX12_richest_59 rfl (pj_kill hM [true, true, true] (lls' := [(26, 0), (0, x1), (0, (pj_wr (x2 + 1)))]) rfl ((hk4 _ hr)))))
theorem tM_richest_54 {Go : pj_C → Prop} (hM : pj_M l yX12_richest cX12_richest 3 (some .int) 2 42 true g n0 o Go) (x2 : Int) (w : pj_W)  (R : (Int × Int) ⊕ (Int × pj_W) → Prop) (h0 : ∀ r, R (Sum.inr (r)) → ((some (0, r.1) : Option pj_V), r.2) = o) (hk4 : ∀ s, R (Sum.inl s) → Go (4, [(26, 0), (0, s.1), (0, s.2)], [], w)) : pj_TG R (fM_richest_54 x2 w) (Go (54, [(26, 0), (9, 0), (0, x2)], [], w)) := by
  unfold fM_richest_54
  refine pj_map (fun k => pj_iload_n hM (pc := 54) dX12_richest_54 rfl (pj_istore_n hM (pc := 55) dX12_richest_55 (by decide) (lls' := [(26, 0), (0, x2), (0, x2)]) rfl (pj_kill hM [true, true, true] (lls' := [(26, 0), (0, x2), (0, x2)]) rfl k))) ?_
  exact tM_richest_56 hM x2 x2 w _ h0 hk4
theorem tM_richest_4b {Go : pj_C → Prop} (hM : pj_M l yX12_richest cX12_richest 3 (some .int) 2 42 true g n0 o Go)  (w : pj_W) (x1 : Int) (x2 : Int)  (R : (Int × Int) ⊕ (Int × pj_W) → Prop) (h0 : ∀ r, R (Sum.inr (r)) → ((some (0, r.1) : Option pj_V), r.2) = o) (hk4 : ∀ s, R (Sum.inl s) → Go (4, [(26, 0), (0, s.1), (0, s.2)], [], w)) : pj_TG R (fM_richest_4b  w x1 x2) (Go (4, [(26, 0), (0, x1), (0, x2)], [], w)) := by
  unfold fM_richest_4b
  refine pj_map (fun k => pj_iload_n hM (pc := 4) dX12_richest_4 rfl (pj_aload_n hM (pc := 5) dX12_richest_5 rfl rfl (pj_getF hM (pc := 6) (t := 60) dX12_richest_6 fl_X12_7 (by decide) rfl rfl (pj_iconst hM (pc := 9) dX12_richest_9 (by decide) (pj_ial hM (pc := 10) dX12_richest_10 ki_60 (by decide) (by decide) k))))) ?_
  refine pj_tif (fun h1 => ?_) (fun h1 => ?_)
  · refine pj_tbind (fun p2 h3 => ?_)
    exact pj_tret (fun hr => pj_ic_ge_t hM (pc := 11) dX12_richest_11 rfl h1 (pj_aload_n hM (pc := 62) dX12_richest_62 rfl rfl (pj_iload_n hM (pc := 63) dX12_richest_63 rfl (pj_cV hM (pc := 64) (cM_orNone x1 w p2 h3) dX12_richest_64 mf_X12_orNone mv_X12_orNone ml_X12_358 kc_26 rfl rfl (by decide) rfl rfl (pj_ret hM (pc := 67) dX12_richest_67 ⟨_, rfl⟩ (h0 ((p2.1, p2.2)) hr) rfl)))))
  refine pj_tbind (fun p4 h5 => ?_)
  refine pj_map (fun k => pj_ic_ge_f hM (pc := 11) 62 dX12_richest_11 rfl h1 (pj_aload_n hM (pc := 14) dX12_richest_14 rfl rfl (pj_iload_n hM (pc := 15) dX12_richest_15 rfl (pj_cV hM (pc := 16) (cM_isThere x2 w p4 h5) dX12_richest_16 mf_X12_isThere mv_X12_isThere ml_X12_268 kc_26 rfl rfl (by decide) rfl rfl k)))) ?_
  refine pj_tif (fun h6 => ?_) (fun h6 => ?_)
  · refine pj_map (fun k => pj_if_eq_t hM (pc := 19) dX12_richest_19 rfl h6 (pj_kill hM [true, true, true] (lls' := [(26, 0), (0, x1), (0, x2)]) rfl k)) ?_
    exact tM_richest_56 hM x1 x2 w _ h0 hk4
  refine pj_map (fun k => pj_if_eq_f hM (pc := 19) 56 dX12_richest_19 rfl h6 (pj_iload_n hM (pc := 22) dX12_richest_22 rfl (pj_iconst hM (pc := 23) dX12_richest_23 (by decide) k))) ?_
  refine pj_tif (fun h7 => ?_) (fun h7 => ?_)
  · refine pj_map (fun k => pj_ic_eq_t hM (pc := 24) dX12_richest_24 rfl h7 (pj_kill hM [true, false, true] (lls' := [(26, 0), (9, 0), (0, x2)]) rfl k)) ?_
    exact tM_richest_54 hM x2 w _ h0 hk4
  refine pj_tbind (fun p8 h9 => ?_)
  refine pj_tgd (fun h10 => ?_)
  refine pj_tbind (fun p11 h12 => ?_)
  refine pj_tgd (fun h13 => ?_)
  refine pj_map (fun k => pj_ic_eq_f hM (pc := 24) 54 dX12_richest_24 rfl h7 (pj_aload_n hM (pc := 27) dX12_richest_27 rfl rfl (pj_getF hM (pc := 28) (t := 60) dX12_richest_28 fl_X12_7 (by decide) rfl rfl (pj_iconst hM (pc := 31) dX12_richest_31 (by decide) (pj_iload_n hM (pc := 32) dX12_richest_32 rfl (pj_cS hM (pc := 33) (cM_findRow 0 x2 w p8 h9) dX12_richest_33 mf_X12_findRow ms_X12_findRow ml_X12_171 rfl rfl rfl rfl (pj_iconst hM (pc := 36) dX12_richest_36 (by decide) (pj_iadd hM (pc := 37) dX12_richest_37 (pj_ial hM (pc := 38) dX12_richest_38 ki_60 (by decide) h10 (pj_aload_n hM (pc := 39) dX12_richest_39 rfl rfl (pj_getF hM (pc := 40) (t := 60) dX12_richest_40 fl_X12_7 (by decide) rfl rfl (pj_iconst hM (pc := 43) dX12_richest_43 (by decide) (pj_iload_n hM (pc := 44) dX12_richest_44 rfl (pj_cS hM (pc := 45) (cM_findRow 0 x1 w p11 h12) dX12_richest_45 mf_X12_findRow ms_X12_findRow ml_X12_171 rfl rfl rfl rfl (pj_iconst hM (pc := 48) dX12_richest_48 (by decide) (pj_iadd hM (pc := 49) dX12_richest_49 (pj_ial hM (pc := 50) dX12_richest_50 ki_60 (by decide) h13 k))))))))))))))))) ?_
  refine pj_tif (fun h14 => ?_) (fun h14 => ?_)
  · refine pj_map (fun k => pj_ic_le_t hM (pc := 51) dX12_richest_51 rfl h14 (pj_kill hM [true, true, true] (lls' := [(26, 0), (0, x1), (0, x2)]) rfl k)) ?_
    exact tM_richest_56 hM x1 x2 w _ h0 hk4
  refine pj_map (fun k => pj_ic_le_f hM (pc := 51) 56 dX12_richest_51 rfl h14 (pj_kill hM [true, false, true] (lls' := [(26, 0), (9, 0), (0, x2)]) rfl k)) ?_
  exact tM_richest_54 hM x2 w _ h0 hk4
theorem tM_richest_4 {Go : pj_C → Prop} (hM : pj_M l yX12_richest cX12_richest 3 (some .int) 2 42 true g n0 o Go)  (w : pj_W)  (R : Int × pj_W → Prop) (h0 : ∀ r, R (r) → ((some (0, r.1) : Option pj_V), r.2) = o) (s : (Int × Int)) : pj_TG R (fM_richest_4  w s) (Go (4, [(26, 0), (0, s.1), (0, s.2)], [], w)) := by
  unfold fM_richest_4
  exact pj_tLp (G := fun s : (Int × Int) => Go (4, [(26, 0), (0, s.1), (0, s.2)], [], w)) (fun s => tM_richest_4b hM  w s.1 s.2  _ (fun r h => h0 r h)  (fun s h => h)) s
theorem tM_richest {Go : pj_C → Prop} (hM : pj_M l yX12_richest cX12_richest 3 (some .int) 2 42 true g n0 o Go)  (w : pj_W)  (R : Int × pj_W → Prop) (h0 : ∀ r, R (r) → ((some (0, r.1) : Option pj_V), r.2) = o) : pj_TG R (fM_richest  w) (Go (0, [(26, 0), (9, 0), (9, 0)], [], w)) := by
  unfold fM_richest
  refine pj_map (fun k => pj_iconst hM (pc := 0) dX12_richest_0 (by decide) (pj_istore_n hM (pc := 1) dX12_richest_1 (by decide) (lls' := [(26, 0), (0, (-1)), (9, 0)]) rfl (pj_iconst hM (pc := 2) dX12_richest_2 (by decide) (pj_istore_n hM (pc := 3) dX12_richest_3 (by decide) (lls' := [(26, 0), (0, (-1)), (0, 0)]) rfl (pj_kill hM [true, true, true] (lls' := [(26, 0), (0, (-1)), (0, 0)]) rfl k))))) ?_
  exact tM_richest_4 hM w _ h0 _
theorem cM_richest   (w : pj_W) (r : Int × pj_W) (h : fM_richest  w = some r) : pj_Cn l yX12_richest cX12_richest 3 (some .int) 2 42 true g [(26, 0)] w ((some (0, r.1) : Option pj_V), r.2) :=
  pj_Cn_of rfl (Nat.le_of_ble_eq_true rfl) (lls := [(26, 0), (9, 0), (9, 0)]) rfl (fun Go hM => tM_richest hM w (fun x => ((some (0, x.1) : Option pj_V), x.2) = ((some (0, r.1) : Option pj_V), r.2)) (fun r h => h) r h rfl)
noncomputable def fM_rivals_72 (x1 : Int) (x2 : Int) (x4 : Int) (s0 : Int) (s1 : Int) (w : pj_W) : Option ((Int × Int) ⊕ (Int × pj_W)) :=
  some (Sum.inl ((pj_or s0 s1), (pj_wr (x4 + 1))))
noncomputable def fM_rivals_71 (x1 : Int) (x2 : Int) (x4 : Int) (s0 : Int) (w : pj_W) : Option ((Int × Int) ⊕ (Int × pj_W)) :=
  fM_rivals_72 x1 x2 x4 s0 0 w
noncomputable def fM_rivals_32b (x1 : Int) (x2 : Int) (w : pj_W) (x3 : Int) (x4 : Int) : Option ((Int × Int) ⊕ (Int × pj_W)) :=
  if (w 60 0 2) ≤ x4 then ((fM_gives x3 w).bind fun p2 => (some (Sum.inr ((p2.1, p2.2))))) else ((fM_ownMany x1 x4 w).bind fun p4 => (if p4 ≤ 0 then (fM_rivals_71 x1 x2 x4 x3 w) else ((fM_ownMany x2 x4 w).bind fun p7 => (if p7 ≤ 0 then (fM_rivals_71 x1 x2 x4 x3 w) else (fM_rivals_72 x1 x2 x4 x3 (pj_shl 1 x4) w)))))
noncomputable def fM_rivals_32 (x1 : Int) (x2 : Int) (w : pj_W) (s : (Int × Int)) : Option (Int × pj_W) := pj_Lp (fun s : (Int × Int) => fM_rivals_32b x1 x2 w s.1 s.2) s
noncomputable def fM_rivals_21  (w : pj_W) : Option (Int × pj_W) :=
  (fM_refuse 1 w).bind fun p1 => (some ((p1.1, p1.2)))
noncomputable def fM_rivals (x1 : Int) (x2 : Int) (w : pj_W) : Option (Int × pj_W) :=
  (fM_isFinder x1 w).bind fun p1 => (if p1 = 0 then (fM_rivals_21 w) else ((fM_isFinder x2 w).bind fun p4 => (if p4 = 0 then (fM_rivals_21 w) else (if x1 = x2 then (fM_rivals_21 w) else (fM_rivals_32 x1 x2 w (0, 0))))))
theorem tM_rivals_72 {Go : pj_C → Prop} (hM : pj_M l yX12_rivals cX12_rivals 5 (some .int) 3 68 true g n0 o Go) (x1 : Int) (x2 : Int) (x4 : Int) (s0 : Int) (s1 : Int) (w : pj_W)  (R : (Int × Int) ⊕ (Int × pj_W) → Prop) (h0 : ∀ r, R (Sum.inr (r)) → ((some (0, r.1) : Option pj_V), r.2) = o) (hk32 : ∀ s, R (Sum.inl s) → Go (32, [(26, 0), (0, x1), (0, x2), (0, s.1), (0, s.2)], [], w)) : pj_TG R (fM_rivals_72 x1 x2 x4 s0 s1 w) (Go (72, [(26, 0), (0, x1), (0, x2), (9, 0), (0, x4)], [(0, s1), (0, s0)], w)) := by
  unfold fM_rivals_72
  exact pj_tret (fun hr => pj_ior hM (pc := 72) dX12_rivals_72 (pj_istore_n hM (pc := 73) dX12_rivals_73 (by decide) (lls' := [(26, 0), (0, x1), (0, x2), (0, (pj_or s0 s1)), (0, x4)]) rfl (pj_iinc hM (pc := 74) dX12_rivals_74 rfl (by decide) (lls' := [(26, 0), (0, x1), (0, x2), (0, (pj_or s0 s1)), (0, (pj_wr (x4 + 1)))]) rfl (pj_goto hM (pc := 77) dX12_rivals_77 rfl (pj_kill hM [true, true, true, true, true] (lls' := [(26, 0), (0, x1), (0, x2), (0, (pj_or s0 s1)), (0, (pj_wr (x4 + 1)))]) rfl ((hk32 _ hr)))))))
theorem tM_rivals_71 {Go : pj_C → Prop} (hM : pj_M l yX12_rivals cX12_rivals 5 (some .int) 3 68 true g n0 o Go) (x1 : Int) (x2 : Int) (x4 : Int) (s0 : Int) (w : pj_W)  (R : (Int × Int) ⊕ (Int × pj_W) → Prop) (h0 : ∀ r, R (Sum.inr (r)) → ((some (0, r.1) : Option pj_V), r.2) = o) (hk32 : ∀ s, R (Sum.inl s) → Go (32, [(26, 0), (0, x1), (0, x2), (0, s.1), (0, s.2)], [], w)) : pj_TG R (fM_rivals_71 x1 x2 x4 s0 w) (Go (71, [(26, 0), (0, x1), (0, x2), (9, 0), (0, x4)], [(0, s0)], w)) := by
  unfold fM_rivals_71
  refine pj_map (fun k => pj_iconst hM (pc := 71) dX12_rivals_71 (by decide) (pj_kill hM [true, true, true, false, true] (lls' := [(26, 0), (0, x1), (0, x2), (9, 0), (0, x4)]) rfl k)) ?_
  exact tM_rivals_72 hM x1 x2 x4 s0 0 w _ h0 hk32
theorem tM_rivals_32b {Go : pj_C → Prop} (hM : pj_M l yX12_rivals cX12_rivals 5 (some .int) 3 68 true g n0 o Go) (x1 : Int) (x2 : Int) (w : pj_W) (x3 : Int) (x4 : Int)  (R : (Int × Int) ⊕ (Int × pj_W) → Prop) (h0 : ∀ r, R (Sum.inr (r)) → ((some (0, r.1) : Option pj_V), r.2) = o) (hk32 : ∀ s, R (Sum.inl s) → Go (32, [(26, 0), (0, x1), (0, x2), (0, s.1), (0, s.2)], [], w)) : pj_TG R (fM_rivals_32b x1 x2 w x3 x4) (Go (32, [(26, 0), (0, x1), (0, x2), (0, x3), (0, x4)], [], w)) := by
  unfold fM_rivals_32b
  refine pj_map (fun k => pj_iload hM (pc := 32) dX12_rivals_32 rfl (pj_aload_n hM (pc := 34) dX12_rivals_34 rfl rfl (pj_getF hM (pc := 35) (t := 60) dX12_rivals_35 fl_X12_7 (by decide) rfl rfl (pj_iconst hM (pc := 38) dX12_rivals_38 (by decide) (pj_ial hM (pc := 39) dX12_rivals_39 ki_60 (by decide) (by decide) k))))) ?_
  refine pj_tif (fun h1 => ?_) (fun h1 => ?_)
  · refine pj_tbind (fun p2 h3 => ?_)
    exact pj_tret (fun hr => pj_ic_ge_t hM (pc := 40) dX12_rivals_40 rfl h1 (pj_aload_n hM (pc := 80) dX12_rivals_80 rfl rfl (pj_iload_n hM (pc := 81) dX12_rivals_81 rfl (pj_cV hM (pc := 82) (cM_gives x3 w p2 h3) dX12_rivals_82 mf_X12_gives mv_X12_gives ml_X12_82 kc_26 rfl rfl (by decide) rfl rfl (pj_ret hM (pc := 85) dX12_rivals_85 ⟨_, rfl⟩ (h0 ((p2.1, p2.2)) hr) rfl)))))
  refine pj_tbind (fun p4 h5 => ?_)
  refine pj_map (fun k => pj_ic_ge_f hM (pc := 40) 80 dX12_rivals_40 rfl h1 (pj_iload_n hM (pc := 43) dX12_rivals_43 rfl (pj_aload_n hM (pc := 44) dX12_rivals_44 rfl rfl (pj_iload_n hM (pc := 45) dX12_rivals_45 rfl (pj_iload hM (pc := 46) dX12_rivals_46 rfl (pj_cV hM (pc := 48) (cM_ownMany x1 x4 w p4 h5) dX12_rivals_48 mf_X12_ownMany mv_X12_ownMany ml_X12_364 kc_26 rfl rfl (by decide) rfl rfl k)))))) ?_
  refine pj_tif (fun h6 => ?_) (fun h6 => ?_)
  · refine pj_map (fun k => pj_if_le_t hM (pc := 51) dX12_rivals_51 rfl h6 (pj_kill hM [true, true, true, false, true] (lls' := [(26, 0), (0, x1), (0, x2), (9, 0), (0, x4)]) rfl k)) ?_
    exact tM_rivals_71 hM x1 x2 x4 x3 w _ h0 hk32
  refine pj_tbind (fun p7 h8 => ?_)
  refine pj_map (fun k => pj_if_le_f hM (pc := 51) 71 dX12_rivals_51 rfl h6 (pj_aload_n hM (pc := 54) dX12_rivals_54 rfl rfl (pj_iload_n hM (pc := 55) dX12_rivals_55 rfl (pj_iload hM (pc := 56) dX12_rivals_56 rfl (pj_cV hM (pc := 58) (cM_ownMany x2 x4 w p7 h8) dX12_rivals_58 mf_X12_ownMany mv_X12_ownMany ml_X12_364 kc_26 rfl rfl (by decide) rfl rfl k))))) ?_
  refine pj_tif (fun h9 => ?_) (fun h9 => ?_)
  · refine pj_map (fun k => pj_if_le_t hM (pc := 61) dX12_rivals_61 rfl h9 (pj_kill hM [true, true, true, false, true] (lls' := [(26, 0), (0, x1), (0, x2), (9, 0), (0, x4)]) rfl k)) ?_
    exact tM_rivals_71 hM x1 x2 x4 x3 w _ h0 hk32
  refine pj_map (fun k => pj_if_le_f hM (pc := 61) 71 dX12_rivals_61 rfl h9 (pj_iconst hM (pc := 64) dX12_rivals_64 (by decide) (pj_iload hM (pc := 65) dX12_rivals_65 rfl (pj_ishl hM (pc := 67) dX12_rivals_67 (pj_goto hM (pc := 68) dX12_rivals_68 rfl (pj_kill hM [true, true, true, false, true] (lls' := [(26, 0), (0, x1), (0, x2), (9, 0), (0, x4)]) rfl k)))))) ?_
  exact tM_rivals_72 hM x1 x2 x4 x3 (pj_shl 1 x4) w _ h0 hk32
theorem tM_rivals_32 {Go : pj_C → Prop} (hM : pj_M l yX12_rivals cX12_rivals 5 (some .int) 3 68 true g n0 o Go) (x1 : Int) (x2 : Int) (w : pj_W)  (R : Int × pj_W → Prop) (h0 : ∀ r, R (r) → ((some (0, r.1) : Option pj_V), r.2) = o) (s : (Int × Int)) : pj_TG R (fM_rivals_32 x1 x2 w s) (Go (32, [(26, 0), (0, x1), (0, x2), (0, s.1), (0, s.2)], [], w)) := by
  unfold fM_rivals_32
  exact pj_tLp (G := fun s : (Int × Int) => Go (32, [(26, 0), (0, x1), (0, x2), (0, s.1), (0, s.2)], [], w)) (fun s => tM_rivals_32b hM x1 x2 w s.1 s.2  _ (fun r h => h0 r h)  (fun s h => h)) s
theorem tM_rivals_21 {Go : pj_C → Prop} (hM : pj_M l yX12_rivals cX12_rivals 5 (some .int) 3 68 true g n0 o Go)  (w : pj_W)  (R : Int × pj_W → Prop) (h0 : ∀ r, R (r) → ((some (0, r.1) : Option pj_V), r.2) = o) : pj_TG R (fM_rivals_21  w) (Go (21, [(26, 0), (9, 0), (9, 0), (9, 0), (9, 0)], [], w)) := by
  unfold fM_rivals_21
  refine pj_tbind (fun p1 h2 => ?_)
  exact pj_tret (fun hr => pj_aload_n hM (pc := 21) dX12_rivals_21 rfl rfl (pj_iconst hM (pc := 22) dX12_rivals_22 (by decide) (pj_cV hM (pc := 23) (cM_refuse 1 w p1 h2) dX12_rivals_23 mf_X12_refuse mv_X12_refuse ml_X12_78 kc_26 rfl rfl (by decide) rfl rfl (pj_ret hM (pc := 26) dX12_rivals_26 ⟨_, rfl⟩ (h0 ((p1.1, p1.2)) hr) rfl))))
theorem tM_rivals {Go : pj_C → Prop} (hM : pj_M l yX12_rivals cX12_rivals 5 (some .int) 3 68 true g n0 o Go) (x1 : Int) (x2 : Int) (w : pj_W)  (R : Int × pj_W → Prop) (h0 : ∀ r, R (r) → ((some (0, r.1) : Option pj_V), r.2) = o) : pj_TG R (fM_rivals x1 x2 w) (Go (0, [(26, 0), (0, x1), (0, x2), (9, 0), (9, 0)], [], w)) := by
  unfold fM_rivals
  refine pj_tbind (fun p1 h2 => ?_)
  refine pj_map (fun k => pj_aload_n hM (pc := 0) dX12_rivals_0 rfl rfl (pj_iload_n hM (pc := 1) dX12_rivals_1 rfl (pj_cV hM (pc := 2) (cM_isFinder x1 w p1 h2) dX12_rivals_2 mf_X12_isFinder mv_X12_isFinder ml_X12_271 kc_26 rfl rfl (by decide) rfl rfl k))) ?_
  refine pj_tif (fun h3 => ?_) (fun h3 => ?_)
  · refine pj_map (fun k => pj_if_eq_t hM (pc := 5) dX12_rivals_5 rfl h3 (pj_kill hM [true, false, false, false, false] (lls' := [(26, 0), (9, 0), (9, 0), (9, 0), (9, 0)]) rfl k)) ?_
    exact tM_rivals_21 hM w _ h0
  refine pj_tbind (fun p4 h5 => ?_)
  refine pj_map (fun k => pj_if_eq_f hM (pc := 5) 21 dX12_rivals_5 rfl h3 (pj_aload_n hM (pc := 8) dX12_rivals_8 rfl rfl (pj_iload_n hM (pc := 9) dX12_rivals_9 rfl (pj_cV hM (pc := 10) (cM_isFinder x2 w p4 h5) dX12_rivals_10 mf_X12_isFinder mv_X12_isFinder ml_X12_271 kc_26 rfl rfl (by decide) rfl rfl k)))) ?_
  refine pj_tif (fun h6 => ?_) (fun h6 => ?_)
  · refine pj_map (fun k => pj_if_eq_t hM (pc := 13) dX12_rivals_13 rfl h6 (pj_kill hM [true, false, false, false, false] (lls' := [(26, 0), (9, 0), (9, 0), (9, 0), (9, 0)]) rfl k)) ?_
    exact tM_rivals_21 hM w _ h0
  refine pj_map (fun k => pj_if_eq_f hM (pc := 13) 21 dX12_rivals_13 rfl h6 (pj_iload_n hM (pc := 16) dX12_rivals_16 rfl (pj_iload_n hM (pc := 17) dX12_rivals_17 rfl k))) ?_
  refine pj_tif (fun h7 => ?_) (fun h7 => ?_)
  · refine pj_map (fun k => pj_ic_ne_f hM (pc := 18) 27 dX12_rivals_18 rfl (fun q => q h7) (pj_kill hM [true, false, false, false, false] (lls' := [(26, 0), (9, 0), (9, 0), (9, 0), (9, 0)]) rfl k)) ?_
    exact tM_rivals_21 hM w _ h0
  refine pj_map (fun k => pj_ic_ne_t hM (pc := 18) dX12_rivals_18 rfl h7 (pj_iconst hM (pc := 27) dX12_rivals_27 (by decide) (pj_istore_n hM (pc := 28) dX12_rivals_28 (by decide) (lls' := [(26, 0), (0, x1), (0, x2), (0, 0), (9, 0)]) rfl (pj_iconst hM (pc := 29) dX12_rivals_29 (by decide) (pj_istore hM (pc := 30) dX12_rivals_30 (by decide) (lls' := [(26, 0), (0, x1), (0, x2), (0, 0), (0, 0)]) rfl (pj_kill hM [true, true, true, true, true] (lls' := [(26, 0), (0, x1), (0, x2), (0, 0), (0, 0)]) rfl k)))))) ?_
  exact tM_rivals_32 hM x1 x2 w _ h0 _
theorem cM_rivals (x1 : Int) (x2 : Int)  (w : pj_W) (r : Int × pj_W) (h : fM_rivals x1 x2 w = some r) : pj_Cn l yX12_rivals cX12_rivals 5 (some .int) 3 68 true g [(26, 0), (0, x1), (0, x2)] w ((some (0, r.1) : Option pj_V), r.2) :=
  pj_Cn_of rfl (Nat.le_of_ble_eq_true rfl) (lls := [(26, 0), (0, x1), (0, x2), (9, 0), (9, 0)]) rfl (fun Go hM => tM_rivals hM x1 x2 w (fun x => ((some (0, x.1) : Option pj_V), x.2) = ((some (0, r.1) : Option pj_V), r.2)) (fun r h => h) r h rfl)
noncomputable def fM_threatTo_32 (x1 : Int) (x3 : Int) (s0 : Int) (s1 : Int) (w : pj_W) : Option ((Int × Int) ⊕ (Int)) :=
  some (Sum.inl ((pj_or s0 s1), (pj_wr (x3 + 1))))
noncomputable def fM_threatTo_4b (x1 : Int) (w : pj_W) (x2 : Int) (x3 : Int) : Option ((Int × Int) ⊕ (Int)) :=
  if (w 60 0 1) ≤ x3 then (some (Sum.inr (x2))) else ((fM_soonestOf x3 x1 w).bind fun p2 => (fM_threatTo_32 x1 x3 x2 (if p2 = (-1) then 0 else (pj_shl 1 x3)) w))
noncomputable def fM_threatTo_4 (x1 : Int) (w : pj_W) (s : (Int × Int)) : Option (Int) := pj_Lp (fun s : (Int × Int) => fM_threatTo_4b x1 w s.1 s.2) s
noncomputable def fM_threatTo (x1 : Int) (w : pj_W) : Option (Int) :=
  fM_threatTo_4 x1 w (0, 0)
theorem tM_threatTo_32 {Go : pj_C → Prop} (hM : pj_M l yX12_threatTo cX12_threatTo 4 (some .int) 4 91 true g n0 o Go) (x1 : Int) (x3 : Int) (s0 : Int) (s1 : Int) (w : pj_W)  (R : (Int × Int) ⊕ (Int) → Prop) (h0 : ∀ r, R (Sum.inr (r)) → ((some (0, r) : Option pj_V), w) = o) (hk4 : ∀ s, R (Sum.inl s) → Go (4, [(26, 0), (0, x1), (0, s.1), (0, s.2)], [], w)) : pj_TG R (fM_threatTo_32 x1 x3 s0 s1 w) (Go (32, [(26, 0), (0, x1), (9, 0), (0, x3)], [(0, s1), (0, s0)], w)) := by
  unfold fM_threatTo_32
  exact pj_tret (fun hr => pj_ior hM (pc := 32) dX12_threatTo_32 (pj_istore_n hM (pc := 33) dX12_threatTo_33 (by decide) (lls' := [(26, 0), (0, x1), (0, (pj_or s0 s1)), (0, x3)]) rfl (pj_iinc hM (pc := 34) dX12_threatTo_34 rfl (by decide) (lls' := [(26, 0), (0, x1), (0, (pj_or s0 s1)), (0, (pj_wr (x3 + 1)))]) rfl (pj_goto hM (pc := 37) dX12_threatTo_37 rfl (pj_kill hM [true, true, true, true] (lls' := [(26, 0), (0, x1), (0, (pj_or s0 s1)), (0, (pj_wr (x3 + 1)))]) rfl ((hk4 _ hr)))))))
theorem tM_threatTo_4b {Go : pj_C → Prop} (hM : pj_M l yX12_threatTo cX12_threatTo 4 (some .int) 4 91 true g n0 o Go) (x1 : Int) (w : pj_W) (x2 : Int) (x3 : Int)  (R : (Int × Int) ⊕ (Int) → Prop) (h0 : ∀ r, R (Sum.inr (r)) → ((some (0, r) : Option pj_V), w) = o) (hk4 : ∀ s, R (Sum.inl s) → Go (4, [(26, 0), (0, x1), (0, s.1), (0, s.2)], [], w)) : pj_TG R (fM_threatTo_4b x1 w x2 x3) (Go (4, [(26, 0), (0, x1), (0, x2), (0, x3)], [], w)) := by
  unfold fM_threatTo_4b
  refine pj_map (fun k => pj_iload_n hM (pc := 4) dX12_threatTo_4 rfl (pj_aload_n hM (pc := 5) dX12_threatTo_5 rfl rfl (pj_getF hM (pc := 6) (t := 60) dX12_threatTo_6 fl_X12_7 (by decide) rfl rfl (pj_iconst hM (pc := 9) dX12_threatTo_9 (by decide) (pj_ial hM (pc := 10) dX12_threatTo_10 ki_60 (by decide) (by decide) k))))) ?_
  refine pj_tif (fun h1 => ?_) (fun h1 => ?_)
  · exact pj_tret (fun hr => pj_ic_ge_t hM (pc := 11) dX12_threatTo_11 rfl h1 (pj_iload_n hM (pc := 40) dX12_threatTo_40 rfl (pj_ret hM (pc := 41) dX12_threatTo_41 ⟨_, rfl⟩ (h0 (x2) hr) rfl)))
  refine pj_tbind (fun p2 h3 => ?_)
  refine pj_map (fun k => pj_ic_ge_f hM (pc := 11) 40 dX12_threatTo_11 rfl h1 (pj_iload_n hM (pc := 14) dX12_threatTo_14 rfl (pj_aload_n hM (pc := 15) dX12_threatTo_15 rfl rfl (pj_iload_n hM (pc := 16) dX12_threatTo_16 rfl (pj_iload_n hM (pc := 17) dX12_threatTo_17 rfl (pj_cV hM (pc := 18) (cM_soonestOf x3 x1 w p2 h3) dX12_threatTo_18 mf_X12_soonestOf mv_X12_soonestOf ml_X12_390 kc_26 rfl rfl (by decide) rfl rfl (pj_iconst hM (pc := 21) dX12_threatTo_21 (by decide) k))))))) ?_
  refine pj_tJ (fun v : Int => fM_threatTo_32 x1 x3 x2 v w) (fun h4 => ?_) (fun h4 => ?_)
  · refine pj_map (fun k => pj_ic_ne_f hM (pc := 22) 29 dX12_threatTo_22 rfl (fun q => q h4) (pj_iconst hM (pc := 25) dX12_threatTo_25 (by decide) (pj_goto hM (pc := 26) dX12_threatTo_26 rfl (pj_kill hM [true, true, false, true] (lls' := [(26, 0), (0, x1), (9, 0), (0, x3)]) rfl k)))) ?_
    exact tM_threatTo_32 hM x1 x3 x2 0 w _ h0 hk4
  refine pj_map (fun k => pj_ic_ne_t hM (pc := 22) dX12_threatTo_22 rfl h4 (pj_iconst hM (pc := 29) dX12_threatTo_29 (by decide) (pj_iload_n hM (pc := 30) dX12_threatTo_30 rfl (pj_ishl hM (pc := 31) dX12_threatTo_31 (pj_kill hM [true, true, false, true] (lls' := [(26, 0), (0, x1), (9, 0), (0, x3)]) rfl k))))) ?_
  exact tM_threatTo_32 hM x1 x3 x2 (pj_shl 1 x3) w _ h0 hk4
theorem tM_threatTo_4 {Go : pj_C → Prop} (hM : pj_M l yX12_threatTo cX12_threatTo 4 (some .int) 4 91 true g n0 o Go) (x1 : Int) (w : pj_W)  (R : Int → Prop) (h0 : ∀ r, R (r) → ((some (0, r) : Option pj_V), w) = o) (s : (Int × Int)) : pj_TG R (fM_threatTo_4 x1 w s) (Go (4, [(26, 0), (0, x1), (0, s.1), (0, s.2)], [], w)) := by
  unfold fM_threatTo_4
  exact pj_tLp (G := fun s : (Int × Int) => Go (4, [(26, 0), (0, x1), (0, s.1), (0, s.2)], [], w)) (fun s => tM_threatTo_4b hM x1 w s.1 s.2  _ (fun r h => h0 r h)  (fun s h => h)) s
theorem tM_threatTo {Go : pj_C → Prop} (hM : pj_M l yX12_threatTo cX12_threatTo 4 (some .int) 4 91 true g n0 o Go) (x1 : Int) (w : pj_W)  (R : Int → Prop) (h0 : ∀ r, R (r) → ((some (0, r) : Option pj_V), w) = o) : pj_TG R (fM_threatTo x1 w) (Go (0, [(26, 0), (0, x1), (9, 0), (9, 0)], [], w)) := by
  unfold fM_threatTo
  refine pj_map (fun k => pj_iconst hM (pc := 0) dX12_threatTo_0 (by decide) (pj_istore_n hM (pc := 1) dX12_threatTo_1 (by decide) (lls' := [(26, 0), (0, x1), (0, 0), (9, 0)]) rfl (pj_iconst hM (pc := 2) dX12_threatTo_2 (by decide) (pj_istore_n hM (pc := 3) dX12_threatTo_3 (by decide) (lls' := [(26, 0), (0, x1), (0, 0), (0, 0)]) rfl (pj_kill hM [true, true, true, true] (lls' := [(26, 0), (0, x1), (0, 0), (0, 0)]) rfl k))))) ?_
  exact tM_threatTo_4 hM x1 w _ h0 _
theorem cM_threatTo (x1 : Int)  (w : pj_W) (r : Int) (h : fM_threatTo x1 w = some r) : pj_Cn l yX12_threatTo cX12_threatTo 4 (some .int) 4 91 true g [(26, 0), (0, x1)] w ((some (0, r) : Option pj_V), w) :=
  pj_Cn_of rfl (Nat.le_of_ble_eq_true rfl) (lls := [(26, 0), (0, x1), (9, 0), (9, 0)]) rfl (fun Go hM => tM_threatTo hM x1 w (fun x => ((some (0, x) : Option pj_V), w) = ((some (0, r) : Option pj_V), w)) (fun r h => h) r h rfl)
noncomputable def fM_safe_69 (x1 : Int) (x3 : Int) (s0 : Int) (s1 : Int) (w : pj_W) : Option ((Int × Int) ⊕ (Int × pj_W)) :=
  some (Sum.inl ((pj_or s0 s1), (pj_wr (x3 + 1))))
noncomputable def fM_safe_68 (x1 : Int) (x3 : Int) (s0 : Int) (w : pj_W) : Option ((Int × Int) ⊕ (Int × pj_W)) :=
  fM_safe_69 x1 x3 s0 0 w
noncomputable def fM_safe_18b (x1 : Int) (w : pj_W) (x2 : Int) (x3 : Int) : Option ((Int × Int) ⊕ (Int × pj_W)) :=
  if (w 60 0 2) ≤ x3 then ((fM_gives x2 w).bind fun p2 => (some (Sum.inr ((p2.1, p2.2))))) else ((fM_isThere x3 w).bind fun p4 => (if p4 = 0 then (fM_safe_68 x1 x3 x2 w) else ((fM_lastOn x3 w).bind fun p7 => (if p7 = (pj_shl 1 x1) then ((fM_threatTo x3 w).bind fun p10 => (if (pj_and p10 (pj_xor (pj_shl 1 x1) (-1))) = 0 then (fM_safe_69 x1 x3 x2 (pj_shl 1 x3) w) else (fM_safe_68 x1 x3 x2 w))) else (fM_safe_68 x1 x3 x2 w)))))
noncomputable def fM_safe_18 (x1 : Int) (w : pj_W) (s : (Int × Int)) : Option (Int × pj_W) := pj_Lp (fun s : (Int × Int) => fM_safe_18b x1 w s.1 s.2) s
noncomputable def fM_safe (x1 : Int) (w : pj_W) : Option (Int × pj_W) :=
  (fM_isFinder x1 w).bind fun p1 => (if p1 = 0 then ((fM_refuse 1 w).bind fun p4 => (some ((p4.1, p4.2)))) else (fM_safe_18 x1 w (0, 0)))
theorem tM_safe_69 {Go : pj_C → Prop} (hM : pj_M l yX12_safe cX12_safe 4 (some .int) 5 114 true g n0 o Go) (x1 : Int) (x3 : Int) (s0 : Int) (s1 : Int) (w : pj_W)  (R : (Int × Int) ⊕ (Int × pj_W) → Prop) (h0 : ∀ r, R (Sum.inr (r)) → ((some (0, r.1) : Option pj_V), r.2) = o) (hk18 : ∀ s, R (Sum.inl s) → Go (18, [(26, 0), (0, x1), (0, s.1), (0, s.2)], [], w)) : pj_TG R (fM_safe_69 x1 x3 s0 s1 w) (Go (69, [(26, 0), (0, x1), (9, 0), (0, x3)], [(0, s1), (0, s0)], w)) := by
  unfold fM_safe_69
  exact pj_tret (fun hr => pj_ior hM (pc := 69) dX12_safe_69 (pj_istore_n hM (pc := 70) dX12_safe_70 (by decide) (lls' := [(26, 0), (0, x1), (0, (pj_or s0 s1)), (0, x3)]) rfl (pj_iinc hM (pc := 71) dX12_safe_71 rfl (by decide) (lls' := [(26, 0), (0, x1), (0, (pj_or s0 s1)), (0, (pj_wr (x3 + 1)))]) rfl (pj_goto hM (pc := 74) dX12_safe_74 rfl (pj_kill hM [true, true, true, true] (lls' := [(26, 0), (0, x1), (0, (pj_or s0 s1)), (0, (pj_wr (x3 + 1)))]) rfl ((hk18 _ hr)))))))
theorem tM_safe_68 {Go : pj_C → Prop} (hM : pj_M l yX12_safe cX12_safe 4 (some .int) 5 114 true g n0 o Go) (x1 : Int) (x3 : Int) (s0 : Int) (w : pj_W)  (R : (Int × Int) ⊕ (Int × pj_W) → Prop) (h0 : ∀ r, R (Sum.inr (r)) → ((some (0, r.1) : Option pj_V), r.2) = o) (hk18 : ∀ s, R (Sum.inl s) → Go (18, [(26, 0), (0, x1), (0, s.1), (0, s.2)], [], w)) : pj_TG R (fM_safe_68 x1 x3 s0 w) (Go (68, [(26, 0), (0, x1), (9, 0), (0, x3)], [(0, s0)], w)) := by
  unfold fM_safe_68
  refine pj_map (fun k => pj_iconst hM (pc := 68) dX12_safe_68 (by decide) (pj_kill hM [true, true, false, true] (lls' := [(26, 0), (0, x1), (9, 0), (0, x3)]) rfl k)) ?_
  exact tM_safe_69 hM x1 x3 s0 0 w _ h0 hk18
theorem tM_safe_18b {Go : pj_C → Prop} (hM : pj_M l yX12_safe cX12_safe 4 (some .int) 5 114 true g n0 o Go) (x1 : Int) (w : pj_W) (x2 : Int) (x3 : Int)  (R : (Int × Int) ⊕ (Int × pj_W) → Prop) (h0 : ∀ r, R (Sum.inr (r)) → ((some (0, r.1) : Option pj_V), r.2) = o) (hk18 : ∀ s, R (Sum.inl s) → Go (18, [(26, 0), (0, x1), (0, s.1), (0, s.2)], [], w)) : pj_TG R (fM_safe_18b x1 w x2 x3) (Go (18, [(26, 0), (0, x1), (0, x2), (0, x3)], [], w)) := by
  unfold fM_safe_18b
  refine pj_map (fun k => pj_iload_n hM (pc := 18) dX12_safe_18 rfl (pj_aload_n hM (pc := 19) dX12_safe_19 rfl rfl (pj_getF hM (pc := 20) (t := 60) dX12_safe_20 fl_X12_7 (by decide) rfl rfl (pj_iconst hM (pc := 23) dX12_safe_23 (by decide) (pj_ial hM (pc := 24) dX12_safe_24 ki_60 (by decide) (by decide) k))))) ?_
  refine pj_tif (fun h1 => ?_) (fun h1 => ?_)
  · refine pj_tbind (fun p2 h3 => ?_)
    exact pj_tret (fun hr => pj_ic_ge_t hM (pc := 25) dX12_safe_25 rfl h1 (pj_aload_n hM (pc := 77) dX12_safe_77 rfl rfl (pj_iload_n hM (pc := 78) dX12_safe_78 rfl (pj_cV hM (pc := 79) (cM_gives x2 w p2 h3) dX12_safe_79 mf_X12_gives mv_X12_gives ml_X12_82 kc_26 rfl rfl (by decide) rfl rfl (pj_ret hM (pc := 82) dX12_safe_82 ⟨_, rfl⟩ (h0 ((p2.1, p2.2)) hr) rfl)))))
  refine pj_tbind (fun p4 h5 => ?_)
  refine pj_map (fun k => pj_ic_ge_f hM (pc := 25) 77 dX12_safe_25 rfl h1 (pj_iload_n hM (pc := 28) dX12_safe_28 rfl (pj_aload_n hM (pc := 29) dX12_safe_29 rfl rfl (pj_iload_n hM (pc := 30) dX12_safe_30 rfl (pj_cV hM (pc := 31) (cM_isThere x3 w p4 h5) dX12_safe_31 mf_X12_isThere mv_X12_isThere ml_X12_268 kc_26 rfl rfl (by decide) rfl rfl k))))) ?_
  refine pj_tif (fun h6 => ?_) (fun h6 => ?_)
  · refine pj_map (fun k => pj_if_eq_t hM (pc := 34) dX12_safe_34 rfl h6 (pj_kill hM [true, true, false, true] (lls' := [(26, 0), (0, x1), (9, 0), (0, x3)]) rfl k)) ?_
    exact tM_safe_68 hM x1 x3 x2 w _ h0 hk18
  refine pj_tbind (fun p7 h8 => ?_)
  refine pj_map (fun k => pj_if_eq_f hM (pc := 34) 68 dX12_safe_34 rfl h6 (pj_aload_n hM (pc := 37) dX12_safe_37 rfl rfl (pj_iload_n hM (pc := 38) dX12_safe_38 rfl (pj_cV hM (pc := 39) (cM_lastOn x3 w p7 h8) dX12_safe_39 mf_X12_lastOn mv_X12_lastOn ml_X12_337 kc_26 rfl rfl (by decide) rfl rfl (pj_iconst hM (pc := 42) dX12_safe_42 (by decide) (pj_iload_n hM (pc := 43) dX12_safe_43 rfl (pj_ishl hM (pc := 44) dX12_safe_44 k))))))) ?_
  refine pj_tif (fun h9 => ?_) (fun h9 => ?_)
  · refine pj_tbind (fun p10 h11 => ?_)
    refine pj_map (fun k => pj_ic_ne_f hM (pc := 45) 68 dX12_safe_45 rfl (fun q => q h9) (pj_aload_n hM (pc := 48) dX12_safe_48 rfl rfl (pj_iload_n hM (pc := 49) dX12_safe_49 rfl (pj_cV hM (pc := 50) (cM_threatTo x3 w p10 h11) dX12_safe_50 mf_X12_threatTo mv_X12_threatTo ml_X12_393 kc_26 rfl rfl (by decide) rfl rfl (pj_iconst hM (pc := 53) dX12_safe_53 (by decide) (pj_iload_n hM (pc := 54) dX12_safe_54 rfl (pj_ishl hM (pc := 55) dX12_safe_55 (pj_iconst hM (pc := 56) dX12_safe_56 (by decide) (pj_ixor hM (pc := 57) dX12_safe_57 (pj_iand hM (pc := 58) dX12_safe_58 k)))))))))) ?_
    refine pj_tif (fun h12 => ?_) (fun h12 => ?_)
    · refine pj_map (fun k => pj_if_ne_f hM (pc := 59) 68 dX12_safe_59 rfl (fun q => q h12) (pj_iconst hM (pc := 62) dX12_safe_62 (by decide) (pj_iload_n hM (pc := 63) dX12_safe_63 rfl (pj_ishl hM (pc := 64) dX12_safe_64 (pj_goto hM (pc := 65) dX12_safe_65 rfl (pj_kill hM [true, true, false, true] (lls' := [(26, 0), (0, x1), (9, 0), (0, x3)]) rfl k)))))) ?_
      exact tM_safe_69 hM x1 x3 x2 (pj_shl 1 x3) w _ h0 hk18
    refine pj_map (fun k => pj_if_ne_t hM (pc := 59) dX12_safe_59 rfl h12 (pj_kill hM [true, true, false, true] (lls' := [(26, 0), (0, x1), (9, 0), (0, x3)]) rfl k)) ?_
    exact tM_safe_68 hM x1 x3 x2 w _ h0 hk18
  refine pj_map (fun k => pj_ic_ne_t hM (pc := 45) dX12_safe_45 rfl h9 (pj_kill hM [true, true, false, true] (lls' := [(26, 0), (0, x1), (9, 0), (0, x3)]) rfl k)) ?_
  exact tM_safe_68 hM x1 x3 x2 w _ h0 hk18
theorem tM_safe_18 {Go : pj_C → Prop} (hM : pj_M l yX12_safe cX12_safe 4 (some .int) 5 114 true g n0 o Go) (x1 : Int) (w : pj_W)  (R : Int × pj_W → Prop) (h0 : ∀ r, R (r) → ((some (0, r.1) : Option pj_V), r.2) = o) (s : (Int × Int)) : pj_TG R (fM_safe_18 x1 w s) (Go (18, [(26, 0), (0, x1), (0, s.1), (0, s.2)], [], w)) := by
  unfold fM_safe_18
  exact pj_tLp (G := fun s : (Int × Int) => Go (18, [(26, 0), (0, x1), (0, s.1), (0, s.2)], [], w)) (fun s => tM_safe_18b hM x1 w s.1 s.2  _ (fun r h => h0 r h)  (fun s h => h)) s
theorem tM_safe {Go : pj_C → Prop} (hM : pj_M l yX12_safe cX12_safe 4 (some .int) 5 114 true g n0 o Go) (x1 : Int) (w : pj_W)  (R : Int × pj_W → Prop) (h0 : ∀ r, R (r) → ((some (0, r.1) : Option pj_V), r.2) = o) : pj_TG R (fM_safe x1 w) (Go (0, [(26, 0), (0, x1), (9, 0), (9, 0)], [], w)) := by
  unfold fM_safe
  refine pj_tbind (fun p1 h2 => ?_)
  refine pj_map (fun k => pj_aload_n hM (pc := 0) dX12_safe_0 rfl rfl (pj_iload_n hM (pc := 1) dX12_safe_1 rfl (pj_cV hM (pc := 2) (cM_isFinder x1 w p1 h2) dX12_safe_2 mf_X12_isFinder mv_X12_isFinder ml_X12_271 kc_26 rfl rfl (by decide) rfl rfl k))) ?_
  refine pj_tif (fun h3 => ?_) (fun h3 => ?_)
  · refine pj_tbind (fun p4 h5 => ?_)
    exact pj_tret (fun hr => pj_if_ne_f hM (pc := 5) 14 dX12_safe_5 rfl (fun q => q h3) (pj_aload_n hM (pc := 8) dX12_safe_8 rfl rfl (pj_iconst hM (pc := 9) dX12_safe_9 (by decide) (pj_cV hM (pc := 10) (cM_refuse 1 w p4 h5) dX12_safe_10 mf_X12_refuse mv_X12_refuse ml_X12_78 kc_26 rfl rfl (by decide) rfl rfl (pj_ret hM (pc := 13) dX12_safe_13 ⟨_, rfl⟩ (h0 ((p4.1, p4.2)) hr) rfl)))))
  refine pj_map (fun k => pj_if_ne_t hM (pc := 5) dX12_safe_5 rfl h3 (pj_iconst hM (pc := 14) dX12_safe_14 (by decide) (pj_istore_n hM (pc := 15) dX12_safe_15 (by decide) (lls' := [(26, 0), (0, x1), (0, 0), (9, 0)]) rfl (pj_iconst hM (pc := 16) dX12_safe_16 (by decide) (pj_istore_n hM (pc := 17) dX12_safe_17 (by decide) (lls' := [(26, 0), (0, x1), (0, 0), (0, 0)]) rfl (pj_kill hM [true, true, true, true] (lls' := [(26, 0), (0, x1), (0, 0), (0, 0)]) rfl k)))))) ?_
  exact tM_safe_18 hM x1 w _ h0 _
theorem cM_safe (x1 : Int)  (w : pj_W) (r : Int × pj_W) (h : fM_safe x1 w = some r) : pj_Cn l yX12_safe cX12_safe 4 (some .int) 5 114 true g [(26, 0), (0, x1)] w ((some (0, r.1) : Option pj_V), r.2) :=
  pj_Cn_of rfl (Nat.le_of_ble_eq_true rfl) (lls := [(26, 0), (0, x1), (9, 0), (9, 0)]) rfl (fun Go hM => tM_safe hM x1 w (fun x => ((some (0, x.1) : Option pj_V), x.2) = ((some (0, r.1) : Option pj_V), r.2)) (fun r h => h) r h rfl)
noncomputable def fM_seen_33  (w : pj_W) : Option (Int × pj_W) :=
  (fM_refuse 1 w).bind fun p1 => (some ((p1.1, p1.2)))
noncomputable def fM_seen (x1 : Int) (x2 : Int) (w : pj_W) : Option (Int × pj_W) :=
  (fM_isFinder x1 w).bind fun p1 => (if p1 = 0 then (fM_seen_33 w) else ((fM_isFrom x2 0 40 w).bind fun p4 => (if p4 = 0 then (fM_seen_33 w) else ((fM_seenBy x1 x2 w).bind fun p7 => ((fM_gives p7 w).bind fun p9 => (some ((p9.1, p9.2))))))))
theorem tM_seen_33 {Go : pj_C → Prop} (hM : pj_M l yX12_seen cX12_seen 3 (some .int) 2 45 true g n0 o Go)  (w : pj_W)  (R : Int × pj_W → Prop) (h0 : ∀ r, R (r) → ((some (0, r.1) : Option pj_V), r.2) = o) : pj_TG R (fM_seen_33  w) (Go (33, [(26, 0), (9, 0), (9, 0)], [], w)) := by
  unfold fM_seen_33
  refine pj_tbind (fun p1 h2 => ?_)
  exact pj_tret (fun hr => pj_aload_n hM (pc := 33) dX12_seen_33 rfl rfl (pj_iconst hM (pc := 34) dX12_seen_34 (by decide) (pj_cV hM (pc := 35) (cM_refuse 1 w p1 h2) dX12_seen_35 mf_X12_refuse mv_X12_refuse ml_X12_78 kc_26 rfl rfl (by decide) rfl rfl (pj_ret hM (pc := 38) dX12_seen_38 ⟨_, rfl⟩ (h0 ((p1.1, p1.2)) hr) rfl))))
theorem tM_seen {Go : pj_C → Prop} (hM : pj_M l yX12_seen cX12_seen 3 (some .int) 2 45 true g n0 o Go) (x1 : Int) (x2 : Int) (w : pj_W)  (R : Int × pj_W → Prop) (h0 : ∀ r, R (r) → ((some (0, r.1) : Option pj_V), r.2) = o) : pj_TG R (fM_seen x1 x2 w) (Go (0, [(26, 0), (0, x1), (0, x2)], [], w)) := by
  unfold fM_seen
  refine pj_tbind (fun p1 h2 => ?_)
  refine pj_map (fun k => pj_aload_n hM (pc := 0) dX12_seen_0 rfl rfl (pj_iload_n hM (pc := 1) dX12_seen_1 rfl (pj_cV hM (pc := 2) (cM_isFinder x1 w p1 h2) dX12_seen_2 mf_X12_isFinder mv_X12_isFinder ml_X12_271 kc_26 rfl rfl (by decide) rfl rfl k))) ?_
  refine pj_tif (fun h3 => ?_) (fun h3 => ?_)
  · refine pj_map (fun k => pj_if_eq_t hM (pc := 5) dX12_seen_5 rfl h3 (pj_kill hM [true, false, false] (lls' := [(26, 0), (9, 0), (9, 0)]) rfl k)) ?_
    exact tM_seen_33 hM w _ h0
  refine pj_tbind (fun p4 h5 => ?_)
  refine pj_map (fun k => pj_if_eq_f hM (pc := 5) 33 dX12_seen_5 rfl h3 (pj_iload_n hM (pc := 8) dX12_seen_8 rfl (pj_i2l hM (pc := 9) dX12_seen_9 (pj_lconst hM (pc := 10) (z := 0) dX12_seen_10 rfl (by decide) (pj_ldc2 hM (pc := 11) (z := 40) dX12_seen_11 kn_X12_332 rfl (by decide) (pj_cS hM (pc := 14) (cM_isFrom x2 0 40 w p4 h5) dX12_seen_14 mf_X12_isFrom ms_X12_isFrom ml_X12_289 rfl rfl rfl rfl k)))))) ?_
  refine pj_tif (fun h6 => ?_) (fun h6 => ?_)
  · refine pj_map (fun k => pj_if_eq_t hM (pc := 17) dX12_seen_17 rfl h6 (pj_kill hM [true, false, false] (lls' := [(26, 0), (9, 0), (9, 0)]) rfl k)) ?_
    exact tM_seen_33 hM w _ h0
  refine pj_tbind (fun p7 h8 => ?_)
  refine pj_tbind (fun p9 h10 => ?_)
  exact pj_tret (fun hr => pj_if_eq_f hM (pc := 17) 33 dX12_seen_17 rfl h6 (pj_aload_n hM (pc := 20) dX12_seen_20 rfl rfl (pj_aload_n hM (pc := 21) dX12_seen_21 rfl rfl (pj_iload_n hM (pc := 22) dX12_seen_22 rfl (pj_iload_n hM (pc := 23) dX12_seen_23 rfl (pj_cV hM (pc := 24) (cM_seenBy x1 x2 w p7 h8) dX12_seen_24 mf_X12_seenBy mv_X12_seenBy ml_X12_378 kc_26 rfl rfl (by decide) rfl rfl (pj_cV hM (pc := 27) (cM_gives p7 w p9 h10) dX12_seen_27 mf_X12_gives mv_X12_gives ml_X12_82 kc_26 rfl rfl (by decide) rfl rfl (pj_goto hM (pc := 30) dX12_seen_30 rfl (pj_ret hM (pc := 38) dX12_seen_38 ⟨_, rfl⟩ (h0 ((p9.1, p9.2)) hr) rfl)))))))))
theorem cM_seen (x1 : Int) (x2 : Int)  (w : pj_W) (r : Int × pj_W) (h : fM_seen x1 x2 w = some r) : pj_Cn l yX12_seen cX12_seen 3 (some .int) 2 45 true g [(26, 0), (0, x1), (0, x2)] w ((some (0, r.1) : Option pj_V), r.2) :=
  pj_Cn_of rfl (Nat.le_of_ble_eq_true rfl) (lls := [(26, 0), (0, x1), (0, x2)]) rfl (fun Go hM => tM_seen hM x1 x2 w (fun x => ((some (0, x.1) : Option pj_V), x.2) = ((some (0, r.1) : Option pj_V), r.2)) (fun r h => h) r h rfl)
noncomputable def fM_set_16  (w : pj_W) : Option (Int × pj_W) :=
  (fM_refuse 1 w).bind fun p1 => (some ((p1.1, p1.2)))
noncomputable def fM_set (x1 : Int) (x2 : Int) (w : pj_W) : Option (Int × pj_W) :=
  (fM_isFinder x1 w).bind fun p1 => (if p1 = 0 then (fM_set_16 w) else ((fM_isFind x2 w).bind fun p4 => (if p4 = 0 then (fM_set_16 w) else ((fM_wrongSet x1 x2 w).bind fun p7 => (if p7 ≤ 0 then ((fM_sets x1 x2 w).bind fun p10 => ((fM_manyOn x2 p10).bind fun p12 => ((fM_gives p12 p10).bind fun p14 => (some ((p14.1, p14.2)))))) else ((fM_refuse p7 w).bind fun p16 => (some ((p16.1, p16.2)))))))))
theorem tM_set_16 {Go : pj_C → Prop} (hM : pj_M l yX12_set cX12_set 4 (some .int) 3 69 true g n0 o Go)  (w : pj_W)  (R : Int × pj_W → Prop) (h0 : ∀ r, R (r) → ((some (0, r.1) : Option pj_V), r.2) = o) : pj_TG R (fM_set_16  w) (Go (16, [(26, 0), (9, 0), (9, 0), (9, 0)], [], w)) := by
  unfold fM_set_16
  refine pj_tbind (fun p1 h2 => ?_)
  exact pj_tret (fun hr => pj_aload_n hM (pc := 16) dX12_set_16 rfl rfl (pj_iconst hM (pc := 17) dX12_set_17 (by decide) (pj_cV hM (pc := 18) (cM_refuse 1 w p1 h2) dX12_set_18 mf_X12_refuse mv_X12_refuse ml_X12_78 kc_26 rfl rfl (by decide) rfl rfl (pj_ret hM (pc := 21) dX12_set_21 ⟨_, rfl⟩ (h0 ((p1.1, p1.2)) hr) rfl))))
theorem tM_set {Go : pj_C → Prop} (hM : pj_M l yX12_set cX12_set 4 (some .int) 3 69 true g n0 o Go) (x1 : Int) (x2 : Int) (w : pj_W)  (R : Int × pj_W → Prop) (h0 : ∀ r, R (r) → ((some (0, r.1) : Option pj_V), r.2) = o) : pj_TG R (fM_set x1 x2 w) (Go (0, [(26, 0), (0, x1), (0, x2), (9, 0)], [], w)) := by
  unfold fM_set
  refine pj_tbind (fun p1 h2 => ?_)
  refine pj_map (fun k => pj_aload_n hM (pc := 0) dX12_set_0 rfl rfl (pj_iload_n hM (pc := 1) dX12_set_1 rfl (pj_cV hM (pc := 2) (cM_isFinder x1 w p1 h2) dX12_set_2 mf_X12_isFinder mv_X12_isFinder ml_X12_271 kc_26 rfl rfl (by decide) rfl rfl k))) ?_
  refine pj_tif (fun h3 => ?_) (fun h3 => ?_)
  · refine pj_map (fun k => pj_if_eq_t hM (pc := 5) dX12_set_5 rfl h3 (pj_kill hM [true, false, false, false] (lls' := [(26, 0), (9, 0), (9, 0), (9, 0)]) rfl k)) ?_
    exact tM_set_16 hM w _ h0
  refine pj_tbind (fun p4 h5 => ?_)
  refine pj_map (fun k => pj_if_eq_f hM (pc := 5) 16 dX12_set_5 rfl h3 (pj_aload_n hM (pc := 8) dX12_set_8 rfl rfl (pj_iload_n hM (pc := 9) dX12_set_9 rfl (pj_cV hM (pc := 10) (cM_isFind x2 w p4 h5) dX12_set_10 mf_X12_isFind mv_X12_isFind ml_X12_265 kc_26 rfl rfl (by decide) rfl rfl k)))) ?_
  refine pj_tif (fun h6 => ?_) (fun h6 => ?_)
  · refine pj_map (fun k => pj_if_ne_f hM (pc := 13) 22 dX12_set_13 rfl (fun q => q h6) (pj_kill hM [true, false, false, false] (lls' := [(26, 0), (9, 0), (9, 0), (9, 0)]) rfl k)) ?_
    exact tM_set_16 hM w _ h0
  refine pj_tbind (fun p7 h8 => ?_)
  refine pj_map (fun k => pj_if_ne_t hM (pc := 13) dX12_set_13 rfl h6 (pj_aload_n hM (pc := 22) dX12_set_22 rfl rfl (pj_iload_n hM (pc := 23) dX12_set_23 rfl (pj_iload_n hM (pc := 24) dX12_set_24 rfl (pj_cV hM (pc := 25) (cM_wrongSet x1 x2 w p7 h8) dX12_set_25 mf_X12_wrongSet mv_X12_wrongSet ml_X12_301 kc_26 rfl rfl (by decide) rfl rfl (pj_istore_n hM (pc := 28) dX12_set_28 (by decide) (lls' := [(26, 0), (0, x1), (0, x2), (0, p7)]) rfl (pj_iload_n hM (pc := 29) dX12_set_29 rfl k))))))) ?_
  refine pj_tif (fun h9 => ?_) (fun h9 => ?_)
  · refine pj_tbind (fun p10 h11 => ?_)
    refine pj_tbind (fun p12 h13 => ?_)
    refine pj_tbind (fun p14 h15 => ?_)
    exact pj_tret (fun hr => pj_if_le_t hM (pc := 30) dX12_set_30 rfl h9 (pj_aload_n hM (pc := 39) dX12_set_39 rfl rfl (pj_iload_n hM (pc := 40) dX12_set_40 rfl (pj_iload_n hM (pc := 41) dX12_set_41 rfl (pj_cVv hM (pc := 42) (cM_sets x1 x2 w p10 h11) dX12_set_42 mf_X12_sets mv_X12_sets ml_X12_304 kc_26 rfl rfl (by decide) rfl rfl (pj_aload_n hM (pc := 45) dX12_set_45 rfl rfl (pj_aload_n hM (pc := 46) dX12_set_46 rfl rfl (pj_iload_n hM (pc := 47) dX12_set_47 rfl (pj_cV hM (pc := 48) (cM_manyOn x2 p10 p12 h13) dX12_set_48 mf_X12_manyOn mv_X12_manyOn ml_X12_277 kc_26 rfl rfl (by decide) rfl rfl (pj_cV hM (pc := 51) (cM_gives p12 p10 p14 h15) dX12_set_51 mf_X12_gives mv_X12_gives ml_X12_82 kc_26 rfl rfl (by decide) rfl rfl (pj_ret hM (pc := 54) dX12_set_54 ⟨_, rfl⟩ (h0 ((p14.1, p14.2)) hr) rfl)))))))))))
  refine pj_tbind (fun p16 h17 => ?_)
  exact pj_tret (fun hr => pj_if_le_f hM (pc := 30) 39 dX12_set_30 rfl h9 (pj_aload_n hM (pc := 33) dX12_set_33 rfl rfl (pj_iload_n hM (pc := 34) dX12_set_34 rfl (pj_cV hM (pc := 35) (cM_refuse p7 w p16 h17) dX12_set_35 mf_X12_refuse mv_X12_refuse ml_X12_78 kc_26 rfl rfl (by decide) rfl rfl (pj_ret hM (pc := 38) dX12_set_38 ⟨_, rfl⟩ (h0 ((p16.1, p16.2)) hr) rfl)))))
theorem cM_set (x1 : Int) (x2 : Int)  (w : pj_W) (r : Int × pj_W) (h : fM_set x1 x2 w = some r) : pj_Cn l yX12_set cX12_set 4 (some .int) 3 69 true g [(26, 0), (0, x1), (0, x2)] w ((some (0, r.1) : Option pj_V), r.2) :=
  pj_Cn_of rfl (Nat.le_of_ble_eq_true rfl) (lls := [(26, 0), (0, x1), (0, x2), (9, 0)]) rfl (fun Go hM => tM_set hM x1 x2 w (fun x => ((some (0, x.1) : Option pj_V), x.2) = ((some (0, r.1) : Option pj_V), r.2)) (fun r h => h) r h rfl)
noncomputable def fM_soonest_16  (w : pj_W) : Option (Int × pj_W) :=
  (fM_refuse 1 w).bind fun p1 => (some ((p1.1, p1.2)))
noncomputable def fM_soonest (x1 : Int) (x2 : Int) (w : pj_W) : Option (Int × pj_W) :=
  (fM_isFinder x1 w).bind fun p1 => (if p1 = 0 then (fM_soonest_16 w) else ((fM_isFind x2 w).bind fun p4 => (if p4 = 0 then (fM_soonest_16 w) else ((fM_soonestOf x1 x2 w).bind fun p7 => (if p7 = (-1) then ((fM_refuse 7 w).bind fun p10 => (some ((p10.1, p10.2)))) else ((fM_soonestOf x1 x2 w).bind fun p12 => ((fM_gives p12 w).bind fun p14 => (some ((p14.1, p14.2))))))))))
theorem tM_soonest_16 {Go : pj_C → Prop} (hM : pj_M l yX12_soonest cX12_soonest 3 (some .int) 4 91 true g n0 o Go)  (w : pj_W)  (R : Int × pj_W → Prop) (h0 : ∀ r, R (r) → ((some (0, r.1) : Option pj_V), r.2) = o) : pj_TG R (fM_soonest_16  w) (Go (16, [(26, 0), (9, 0), (9, 0)], [], w)) := by
  unfold fM_soonest_16
  refine pj_tbind (fun p1 h2 => ?_)
  exact pj_tret (fun hr => pj_aload_n hM (pc := 16) dX12_soonest_16 rfl rfl (pj_iconst hM (pc := 17) dX12_soonest_17 (by decide) (pj_cV hM (pc := 18) (cM_refuse 1 w p1 h2) dX12_soonest_18 mf_X12_refuse mv_X12_refuse ml_X12_78 kc_26 rfl rfl (by decide) rfl rfl (pj_ret hM (pc := 21) dX12_soonest_21 ⟨_, rfl⟩ (h0 ((p1.1, p1.2)) hr) rfl))))
theorem tM_soonest {Go : pj_C → Prop} (hM : pj_M l yX12_soonest cX12_soonest 3 (some .int) 4 91 true g n0 o Go) (x1 : Int) (x2 : Int) (w : pj_W)  (R : Int × pj_W → Prop) (h0 : ∀ r, R (r) → ((some (0, r.1) : Option pj_V), r.2) = o) : pj_TG R (fM_soonest x1 x2 w) (Go (0, [(26, 0), (0, x1), (0, x2)], [], w)) := by
  unfold fM_soonest
  refine pj_tbind (fun p1 h2 => ?_)
  refine pj_map (fun k => pj_aload_n hM (pc := 0) dX12_soonest_0 rfl rfl (pj_iload_n hM (pc := 1) dX12_soonest_1 rfl (pj_cV hM (pc := 2) (cM_isFinder x1 w p1 h2) dX12_soonest_2 mf_X12_isFinder mv_X12_isFinder ml_X12_271 kc_26 rfl rfl (by decide) rfl rfl k))) ?_
  refine pj_tif (fun h3 => ?_) (fun h3 => ?_)
  · refine pj_map (fun k => pj_if_eq_t hM (pc := 5) dX12_soonest_5 rfl h3 (pj_kill hM [true, false, false] (lls' := [(26, 0), (9, 0), (9, 0)]) rfl k)) ?_
    exact tM_soonest_16 hM w _ h0
  refine pj_tbind (fun p4 h5 => ?_)
  refine pj_map (fun k => pj_if_eq_f hM (pc := 5) 16 dX12_soonest_5 rfl h3 (pj_aload_n hM (pc := 8) dX12_soonest_8 rfl rfl (pj_iload_n hM (pc := 9) dX12_soonest_9 rfl (pj_cV hM (pc := 10) (cM_isFind x2 w p4 h5) dX12_soonest_10 mf_X12_isFind mv_X12_isFind ml_X12_265 kc_26 rfl rfl (by decide) rfl rfl k)))) ?_
  refine pj_tif (fun h6 => ?_) (fun h6 => ?_)
  · refine pj_map (fun k => pj_if_ne_f hM (pc := 13) 22 dX12_soonest_13 rfl (fun q => q h6) (pj_kill hM [true, false, false] (lls' := [(26, 0), (9, 0), (9, 0)]) rfl k)) ?_
    exact tM_soonest_16 hM w _ h0
  refine pj_tbind (fun p7 h8 => ?_)
  refine pj_map (fun k => pj_if_ne_t hM (pc := 13) dX12_soonest_13 rfl h6 (pj_aload_n hM (pc := 22) dX12_soonest_22 rfl rfl (pj_iload_n hM (pc := 23) dX12_soonest_23 rfl (pj_iload_n hM (pc := 24) dX12_soonest_24 rfl (pj_cV hM (pc := 25) (cM_soonestOf x1 x2 w p7 h8) dX12_soonest_25 mf_X12_soonestOf mv_X12_soonestOf ml_X12_390 kc_26 rfl rfl (by decide) rfl rfl (pj_iconst hM (pc := 28) dX12_soonest_28 (by decide) k)))))) ?_
  refine pj_tif (fun h9 => ?_) (fun h9 => ?_)
  · refine pj_tbind (fun p10 h11 => ?_)
    exact pj_tret (fun hr => pj_ic_ne_f hM (pc := 29) 41 dX12_soonest_29 rfl (fun q => q h9) (pj_aload_n hM (pc := 32) dX12_soonest_32 rfl rfl (pj_bipush hM (pc := 33) dX12_soonest_33 (by decide) (pj_cV hM (pc := 35) (cM_refuse 7 w p10 h11) dX12_soonest_35 mf_X12_refuse mv_X12_refuse ml_X12_78 kc_26 rfl rfl (by decide) rfl rfl (pj_goto hM (pc := 38) dX12_soonest_38 rfl (pj_ret hM (pc := 51) dX12_soonest_51 ⟨_, rfl⟩ (h0 ((p10.1, p10.2)) hr) rfl))))))
  refine pj_tbind (fun p12 h13 => ?_)
  refine pj_tbind (fun p14 h15 => ?_)
  exact pj_tret (fun hr => pj_ic_ne_t hM (pc := 29) dX12_soonest_29 rfl h9 (pj_aload_n hM (pc := 41) dX12_soonest_41 rfl rfl (pj_aload_n hM (pc := 42) dX12_soonest_42 rfl rfl (pj_iload_n hM (pc := 43) dX12_soonest_43 rfl (pj_iload_n hM (pc := 44) dX12_soonest_44 rfl (pj_cV hM (pc := 45) (cM_soonestOf x1 x2 w p12 h13) dX12_soonest_45 mf_X12_soonestOf mv_X12_soonestOf ml_X12_390 kc_26 rfl rfl (by decide) rfl rfl (pj_cV hM (pc := 48) (cM_gives p12 w p14 h15) dX12_soonest_48 mf_X12_gives mv_X12_gives ml_X12_82 kc_26 rfl rfl (by decide) rfl rfl (pj_ret hM (pc := 51) dX12_soonest_51 ⟨_, rfl⟩ (h0 ((p14.1, p14.2)) hr) rfl))))))))
theorem cM_soonest (x1 : Int) (x2 : Int)  (w : pj_W) (r : Int × pj_W) (h : fM_soonest x1 x2 w = some r) : pj_Cn l yX12_soonest cX12_soonest 3 (some .int) 4 91 true g [(26, 0), (0, x1), (0, x2)] w ((some (0, r.1) : Option pj_V), r.2) :=
  pj_Cn_of rfl (Nat.le_of_ble_eq_true rfl) (lls := [(26, 0), (0, x1), (0, x2)]) rfl (fun Go hM => tM_soonest hM x1 x2 w (fun x => ((some (0, x.1) : Option pj_V), x.2) = ((some (0, r.1) : Option pj_V), r.2)) (fun r h => h) r h rfl)
noncomputable def fM_status  (w : pj_W) : Option (Int) :=
  some ((w 26 0 2))
theorem tM_status {Go : pj_C → Prop} (hM : pj_M l yX12_status cX12_status 1 (some .int) 0 0 ph g n0 o Go)  (w : pj_W)  (R : Int → Prop) (h0 : ∀ r, R (r) → ((some (0, r) : Option pj_V), w) = o) : pj_TG R (fM_status  w) (Go (0, [(26, 0)], [], w)) := by
  unfold fM_status
  exact pj_tret (fun hr => pj_aload_n hM (pc := 0) dX12_status_0 rfl rfl (pj_gf hM (pc := 1) (t := 0) dX12_status_1 fl_X12_72 (by decide) rfl 2 rfl (pj_ret hM (pc := 4) dX12_status_4 ⟨_, rfl⟩ (h0 ((w 26 0 2)) hr) rfl)))
theorem cM_status   (w : pj_W) (r : Int) (h : fM_status  w = some r) : pj_Cn l yX12_status cX12_status 1 (some .int) 0 0 ph g [(26, 0)] w ((some (0, r) : Option pj_V), w) :=
  pj_Cn_of rfl (Nat.le_of_ble_eq_true rfl) (lls := [(26, 0)]) rfl (fun Go hM => tM_status hM w (fun x => ((some (0, x) : Option pj_V), w) = ((some (0, r) : Option pj_V), w)) (fun r h => h) r h rfl)
noncomputable def fM_strewn (x1 : Int) (w : pj_W) : Option (Int × pj_W) :=
  (fM_isFinder x1 w).bind fun p1 => (if p1 = 0 then ((fM_refuse 1 w).bind fun p4 => (some ((p4.1, p4.2)))) else ((fM_strewnOf x1 w).bind fun p6 => ((fM_gives p6 w).bind fun p8 => (some ((p8.1, p8.2))))))
theorem tM_strewn {Go : pj_C → Prop} (hM : pj_M l yX12_strewn cX12_strewn 2 (some .int) 4 91 true g n0 o Go) (x1 : Int) (w : pj_W)  (R : Int × pj_W → Prop) (h0 : ∀ r, R (r) → ((some (0, r.1) : Option pj_V), r.2) = o) : pj_TG R (fM_strewn x1 w) (Go (0, [(26, 0), (0, x1)], [], w)) := by
  unfold fM_strewn
  refine pj_tbind (fun p1 h2 => ?_)
  refine pj_map (fun k => pj_aload_n hM (pc := 0) dX12_strewn_0 rfl rfl (pj_iload_n hM (pc := 1) dX12_strewn_1 rfl (pj_cV hM (pc := 2) (cM_isFinder x1 w p1 h2) dX12_strewn_2 mf_X12_isFinder mv_X12_isFinder ml_X12_271 kc_26 rfl rfl (by decide) rfl rfl k))) ?_
  refine pj_tif (fun h3 => ?_) (fun h3 => ?_)
  · refine pj_tbind (fun p4 h5 => ?_)
    exact pj_tret (fun hr => pj_if_eq_t hM (pc := 5) dX12_strewn_5 rfl h3 (pj_aload_n hM (pc := 20) dX12_strewn_20 rfl rfl (pj_iconst hM (pc := 21) dX12_strewn_21 (by decide) (pj_cV hM (pc := 22) (cM_refuse 1 w p4 h5) dX12_strewn_22 mf_X12_refuse mv_X12_refuse ml_X12_78 kc_26 rfl rfl (by decide) rfl rfl (pj_ret hM (pc := 25) dX12_strewn_25 ⟨_, rfl⟩ (h0 ((p4.1, p4.2)) hr) rfl)))))
  refine pj_tbind (fun p6 h7 => ?_)
  refine pj_tbind (fun p8 h9 => ?_)
  exact pj_tret (fun hr => pj_if_eq_f hM (pc := 5) 20 dX12_strewn_5 rfl h3 (pj_aload_n hM (pc := 8) dX12_strewn_8 rfl rfl (pj_aload_n hM (pc := 9) dX12_strewn_9 rfl rfl (pj_iload_n hM (pc := 10) dX12_strewn_10 rfl (pj_cV hM (pc := 11) (cM_strewnOf x1 w p6 h7) dX12_strewn_11 mf_X12_strewnOf mv_X12_strewnOf ml_X12_361 kc_26 rfl rfl (by decide) rfl rfl (pj_cV hM (pc := 14) (cM_gives p6 w p8 h9) dX12_strewn_14 mf_X12_gives mv_X12_gives ml_X12_82 kc_26 rfl rfl (by decide) rfl rfl (pj_goto hM (pc := 17) dX12_strewn_17 rfl (pj_ret hM (pc := 25) dX12_strewn_25 ⟨_, rfl⟩ (h0 ((p8.1, p8.2)) hr) rfl))))))))
theorem cM_strewn (x1 : Int)  (w : pj_W) (r : Int × pj_W) (h : fM_strewn x1 w = some r) : pj_Cn l yX12_strewn cX12_strewn 2 (some .int) 4 91 true g [(26, 0), (0, x1)] w ((some (0, r.1) : Option pj_V), r.2) :=
  pj_Cn_of rfl (Nat.le_of_ble_eq_true rfl) (lls := [(26, 0), (0, x1)]) rfl (fun Go hM => tM_strewn hM x1 w (fun x => ((some (0, x.1) : Option pj_V), x.2) = ((some (0, r.1) : Option pj_V), r.2)) (fun r h => h) r h rfl)
noncomputable def fM_tally_29  (w : pj_W) : Option (Int × pj_W) :=
  (fM_refuse 1 w).bind fun p1 => (some ((p1.1, p1.2)))
noncomputable def fM_tally (x1 : Int) (x2 : Int) (w : pj_W) : Option (Int × pj_W) :=
  (fM_isFind x1 w).bind fun p1 => (if p1 = 0 then (fM_tally_29 w) else ((fM_isFinder x2 w).bind fun p4 => (if p4 = 0 then (fM_tally_29 w) else ((fM_ownMany x2 x1 w).bind fun p7 => ((fM_gives p7 w).bind fun p9 => (some ((p9.1, p9.2))))))))
theorem tM_tally_29 {Go : pj_C → Prop} (hM : pj_M l yX12_tally cX12_tally 3 (some .int) 3 68 true g n0 o Go)  (w : pj_W)  (R : Int × pj_W → Prop) (h0 : ∀ r, R (r) → ((some (0, r.1) : Option pj_V), r.2) = o) : pj_TG R (fM_tally_29  w) (Go (29, [(26, 0), (9, 0), (9, 0)], [], w)) := by
  unfold fM_tally_29
  refine pj_tbind (fun p1 h2 => ?_)
  exact pj_tret (fun hr => pj_aload_n hM (pc := 29) dX12_tally_29 rfl rfl (pj_iconst hM (pc := 30) dX12_tally_30 (by decide) (pj_cV hM (pc := 31) (cM_refuse 1 w p1 h2) dX12_tally_31 mf_X12_refuse mv_X12_refuse ml_X12_78 kc_26 rfl rfl (by decide) rfl rfl (pj_ret hM (pc := 34) dX12_tally_34 ⟨_, rfl⟩ (h0 ((p1.1, p1.2)) hr) rfl))))
theorem tM_tally {Go : pj_C → Prop} (hM : pj_M l yX12_tally cX12_tally 3 (some .int) 3 68 true g n0 o Go) (x1 : Int) (x2 : Int) (w : pj_W)  (R : Int × pj_W → Prop) (h0 : ∀ r, R (r) → ((some (0, r.1) : Option pj_V), r.2) = o) : pj_TG R (fM_tally x1 x2 w) (Go (0, [(26, 0), (0, x1), (0, x2)], [], w)) := by
  unfold fM_tally
  refine pj_tbind (fun p1 h2 => ?_)
  refine pj_map (fun k => pj_aload_n hM (pc := 0) dX12_tally_0 rfl rfl (pj_iload_n hM (pc := 1) dX12_tally_1 rfl (pj_cV hM (pc := 2) (cM_isFind x1 w p1 h2) dX12_tally_2 mf_X12_isFind mv_X12_isFind ml_X12_265 kc_26 rfl rfl (by decide) rfl rfl k))) ?_
  refine pj_tif (fun h3 => ?_) (fun h3 => ?_)
  · refine pj_map (fun k => pj_if_eq_t hM (pc := 5) dX12_tally_5 rfl h3 (pj_kill hM [true, false, false] (lls' := [(26, 0), (9, 0), (9, 0)]) rfl k)) ?_
    exact tM_tally_29 hM w _ h0
  refine pj_tbind (fun p4 h5 => ?_)
  refine pj_map (fun k => pj_if_eq_f hM (pc := 5) 29 dX12_tally_5 rfl h3 (pj_aload_n hM (pc := 8) dX12_tally_8 rfl rfl (pj_iload_n hM (pc := 9) dX12_tally_9 rfl (pj_cV hM (pc := 10) (cM_isFinder x2 w p4 h5) dX12_tally_10 mf_X12_isFinder mv_X12_isFinder ml_X12_271 kc_26 rfl rfl (by decide) rfl rfl k)))) ?_
  refine pj_tif (fun h6 => ?_) (fun h6 => ?_)
  · refine pj_map (fun k => pj_if_eq_t hM (pc := 13) dX12_tally_13 rfl h6 (pj_kill hM [true, false, false] (lls' := [(26, 0), (9, 0), (9, 0)]) rfl k)) ?_
    exact tM_tally_29 hM w _ h0
  refine pj_tbind (fun p7 h8 => ?_)
  refine pj_tbind (fun p9 h10 => ?_)
  exact pj_tret (fun hr => pj_if_eq_f hM (pc := 13) 29 dX12_tally_13 rfl h6 (pj_aload_n hM (pc := 16) dX12_tally_16 rfl rfl (pj_aload_n hM (pc := 17) dX12_tally_17 rfl rfl (pj_iload_n hM (pc := 18) dX12_tally_18 rfl (pj_iload_n hM (pc := 19) dX12_tally_19 rfl (pj_cV hM (pc := 20) (cM_ownMany x2 x1 w p7 h8) dX12_tally_20 mf_X12_ownMany mv_X12_ownMany ml_X12_364 kc_26 rfl rfl (by decide) rfl rfl (pj_cV hM (pc := 23) (cM_gives p7 w p9 h10) dX12_tally_23 mf_X12_gives mv_X12_gives ml_X12_82 kc_26 rfl rfl (by decide) rfl rfl (pj_goto hM (pc := 26) dX12_tally_26 rfl (pj_ret hM (pc := 34) dX12_tally_34 ⟨_, rfl⟩ (h0 ((p9.1, p9.2)) hr) rfl)))))))))
theorem cM_tally (x1 : Int) (x2 : Int)  (w : pj_W) (r : Int × pj_W) (h : fM_tally x1 x2 w = some r) : pj_Cn l yX12_tally cX12_tally 3 (some .int) 3 68 true g [(26, 0), (0, x1), (0, x2)] w ((some (0, r.1) : Option pj_V), r.2) :=
  pj_Cn_of rfl (Nat.le_of_ble_eq_true rfl) (lls := [(26, 0), (0, x1), (0, x2)]) rfl (fun Go hM => tM_tally hM x1 x2 w (fun x => ((some (0, x.1) : Option pj_V), x.2) = ((some (0, r.1) : Option pj_V), r.2)) (fun r h => h) r h rfl)
noncomputable def fM_threat (x1 : Int) (w : pj_W) : Option (Int × pj_W) :=
  (fM_wrongFind x1 w).bind fun p1 => (if p1 ≤ 0 then ((fM_threatTo x1 w).bind fun p4 => ((fM_gives p4 w).bind fun p6 => (some ((p6.1, p6.2))))) else ((fM_refuse p1 w).bind fun p8 => (some ((p8.1, p8.2)))))
theorem tM_threat {Go : pj_C → Prop} (hM : pj_M l yX12_threat cX12_threat 3 (some .int) 5 114 true g n0 o Go) (x1 : Int) (w : pj_W)  (R : Int × pj_W → Prop) (h0 : ∀ r, R (r) → ((some (0, r.1) : Option pj_V), r.2) = o) : pj_TG R (fM_threat x1 w) (Go (0, [(26, 0), (0, x1), (9, 0)], [], w)) := by
  unfold fM_threat
  refine pj_tbind (fun p1 h2 => ?_)
  refine pj_map (fun k => pj_aload_n hM (pc := 0) dX12_threat_0 rfl rfl (pj_iload_n hM (pc := 1) dX12_threat_1 rfl (pj_cV hM (pc := 2) (cM_wrongFind x1 w p1 h2) dX12_threat_2 mf_X12_wrongFind mv_X12_wrongFind ml_X12_349 kc_26 rfl rfl (by decide) rfl rfl (pj_istore_n hM (pc := 5) dX12_threat_5 (by decide) (lls' := [(26, 0), (0, x1), (0, p1)]) rfl (pj_iload_n hM (pc := 6) dX12_threat_6 rfl k))))) ?_
  refine pj_tif (fun h3 => ?_) (fun h3 => ?_)
  · refine pj_tbind (fun p4 h5 => ?_)
    refine pj_tbind (fun p6 h7 => ?_)
    exact pj_tret (fun hr => pj_if_le_t hM (pc := 7) dX12_threat_7 rfl h3 (pj_aload_n hM (pc := 18) dX12_threat_18 rfl rfl (pj_aload_n hM (pc := 19) dX12_threat_19 rfl rfl (pj_iload_n hM (pc := 20) dX12_threat_20 rfl (pj_cV hM (pc := 21) (cM_threatTo x1 w p4 h5) dX12_threat_21 mf_X12_threatTo mv_X12_threatTo ml_X12_393 kc_26 rfl rfl (by decide) rfl rfl (pj_cV hM (pc := 24) (cM_gives p4 w p6 h7) dX12_threat_24 mf_X12_gives mv_X12_gives ml_X12_82 kc_26 rfl rfl (by decide) rfl rfl (pj_ret hM (pc := 27) dX12_threat_27 ⟨_, rfl⟩ (h0 ((p6.1, p6.2)) hr) rfl)))))))
  refine pj_tbind (fun p8 h9 => ?_)
  exact pj_tret (fun hr => pj_if_le_f hM (pc := 7) 18 dX12_threat_7 rfl h3 (pj_aload_n hM (pc := 10) dX12_threat_10 rfl rfl (pj_iload_n hM (pc := 11) dX12_threat_11 rfl (pj_cV hM (pc := 12) (cM_refuse p1 w p8 h9) dX12_threat_12 mf_X12_refuse mv_X12_refuse ml_X12_78 kc_26 rfl rfl (by decide) rfl rfl (pj_goto hM (pc := 15) dX12_threat_15 rfl (pj_ret hM (pc := 27) dX12_threat_27 ⟨_, rfl⟩ (h0 ((p8.1, p8.2)) hr) rfl))))))
theorem cM_threat (x1 : Int)  (w : pj_W) (r : Int × pj_W) (h : fM_threat x1 w = some r) : pj_Cn l yX12_threat cX12_threat 3 (some .int) 5 114 true g [(26, 0), (0, x1)] w ((some (0, r.1) : Option pj_V), r.2) :=
  pj_Cn_of rfl (Nat.le_of_ble_eq_true rfl) (lls := [(26, 0), (0, x1), (9, 0)]) rfl (fun Go hM => tM_threat hM x1 w (fun x => ((some (0, x.1) : Option pj_V), x.2) = ((some (0, r.1) : Option pj_V), r.2)) (fun r h => h) r h rfl)
noncomputable def fM_tide  (w : pj_W) : Option (Int × pj_W) :=
  if (w 60 0 6) = 99 then ((fM_refuse 4 w).bind fun p2 => (some ((p2.1, p2.2)))) else (if (w 60 0 7) = 0 then ((fM_refuse 7 w).bind fun p5 => (some ((p5.1, p5.2)))) else ((fM_floods w).bind fun p7 => ((fM_gives (p7 60 0 6) p7).bind fun p9 => (some ((p9.1, p9.2))))))
theorem tM_tide {Go : pj_C → Prop} (hM : pj_M l yX12_tide cX12_tide 1 (some .int) 5 114 true g n0 o Go)  (w : pj_W)  (R : Int × pj_W → Prop) (h0 : ∀ r, R (r) → ((some (0, r.1) : Option pj_V), r.2) = o) : pj_TG R (fM_tide  w) (Go (0, [(26, 0)], [], w)) := by
  unfold fM_tide
  refine pj_map (fun k => pj_aload_n hM (pc := 0) dX12_tide_0 rfl rfl (pj_getF hM (pc := 1) (t := 60) dX12_tide_1 fl_X12_7 (by decide) rfl rfl (pj_bipush hM (pc := 4) dX12_tide_4 (by decide) (pj_ial hM (pc := 6) dX12_tide_6 ki_60 (by decide) (by decide) (pj_bipush hM (pc := 7) dX12_tide_7 (by decide) k))))) ?_
  refine pj_tif (fun h1 => ?_) (fun h1 => ?_)
  · refine pj_tbind (fun p2 h3 => ?_)
    exact pj_tret (fun hr => pj_ic_ne_f hM (pc := 9) 18 dX12_tide_9 rfl (fun q => q h1) (pj_aload_n hM (pc := 12) dX12_tide_12 rfl rfl (pj_iconst hM (pc := 13) dX12_tide_13 (by decide) (pj_cV hM (pc := 14) (cM_refuse 4 w p2 h3) dX12_tide_14 mf_X12_refuse mv_X12_refuse ml_X12_78 kc_26 rfl rfl (by decide) rfl rfl (pj_ret hM (pc := 17) dX12_tide_17 ⟨_, rfl⟩ (h0 ((p2.1, p2.2)) hr) rfl)))))
  refine pj_map (fun k => pj_ic_ne_t hM (pc := 9) dX12_tide_9 rfl h1 (pj_aload_n hM (pc := 18) dX12_tide_18 rfl rfl (pj_getF hM (pc := 19) (t := 60) dX12_tide_19 fl_X12_7 (by decide) rfl rfl (pj_bipush hM (pc := 22) dX12_tide_22 (by decide) (pj_ial hM (pc := 24) dX12_tide_24 ki_60 (by decide) (by decide) k))))) ?_
  refine pj_tif (fun h4 => ?_) (fun h4 => ?_)
  · refine pj_tbind (fun p5 h6 => ?_)
    exact pj_tret (fun hr => pj_if_ne_f hM (pc := 25) 35 dX12_tide_25 rfl (fun q => q h4) (pj_aload_n hM (pc := 28) dX12_tide_28 rfl rfl (pj_bipush hM (pc := 29) dX12_tide_29 (by decide) (pj_cV hM (pc := 31) (cM_refuse 7 w p5 h6) dX12_tide_31 mf_X12_refuse mv_X12_refuse ml_X12_78 kc_26 rfl rfl (by decide) rfl rfl (pj_ret hM (pc := 34) dX12_tide_34 ⟨_, rfl⟩ (h0 ((p5.1, p5.2)) hr) rfl)))))
  refine pj_tbind (fun p7 h8 => ?_)
  refine pj_tbind (fun p9 h10 => ?_)
  exact pj_tret (fun hr => pj_if_ne_t hM (pc := 25) dX12_tide_25 rfl h4 (pj_aload_n hM (pc := 35) dX12_tide_35 rfl rfl (pj_cVv hM (pc := 36) (cM_floods w p7 h8) dX12_tide_36 mf_X12_floods mv_X12_floods ml_X12_381 kc_26 rfl rfl (by decide) rfl rfl (pj_aload_n hM (pc := 39) dX12_tide_39 rfl rfl (pj_aload_n hM (pc := 40) dX12_tide_40 rfl rfl (pj_getF hM (pc := 41) (t := 60) dX12_tide_41 fl_X12_7 (by decide) rfl rfl (pj_bipush hM (pc := 44) dX12_tide_44 (by decide) (pj_ial hM (pc := 46) dX12_tide_46 ki_60 (by decide) (by decide) (pj_cV hM (pc := 47) (cM_gives (p7 60 0 6) p7 p9 h10) dX12_tide_47 mf_X12_gives mv_X12_gives ml_X12_82 kc_26 rfl rfl (by decide) rfl rfl (pj_ret hM (pc := 50) dX12_tide_50 ⟨_, rfl⟩ (h0 ((p9.1, p9.2)) hr) rfl))))))))))
theorem cM_tide   (w : pj_W) (r : Int × pj_W) (h : fM_tide  w = some r) : pj_Cn l yX12_tide cX12_tide 1 (some .int) 5 114 true g [(26, 0)] w ((some (0, r.1) : Option pj_V), r.2) :=
  pj_Cn_of rfl (Nat.le_of_ble_eq_true rfl) (lls := [(26, 0)]) rfl (fun Go hM => tM_tide hM w (fun x => ((some (0, x.1) : Option pj_V), x.2) = ((some (0, r.1) : Option pj_V), r.2)) (fun r h => h) r h rfl)
noncomputable def fM_tideIn (x1 : Int) (w : pj_W) : Option (Int × pj_W) :=
  (fM_isFrom x1 0 99 w).bind fun p1 => (if p1 = 0 then ((fM_refuse 1 w).bind fun p4 => (some ((p4.1, p4.2)))) else ((fM_gives (max 1 (pj_wr ((w 60 0 3) - (pj_wr (x1 * (w 60 0 4)))))) w).bind fun p6 => (some ((p6.1, p6.2)))))
theorem tM_tideIn {Go : pj_C → Prop} (hM : pj_M l yX12_tideIn cX12_tideIn 2 (some .int) 1 25 true g n0 o Go) (x1 : Int) (w : pj_W)  (R : Int × pj_W → Prop) (h0 : ∀ r, R (r) → ((some (0, r.1) : Option pj_V), r.2) = o) : pj_TG R (fM_tideIn x1 w) (Go (0, [(26, 0), (0, x1)], [], w)) := by
  unfold fM_tideIn
  refine pj_tbind (fun p1 h2 => ?_)
  refine pj_map (fun k => pj_iload_n hM (pc := 0) dX12_tideIn_0 rfl (pj_i2l hM (pc := 1) dX12_tideIn_1 (pj_lconst hM (pc := 2) (z := 0) dX12_tideIn_2 rfl (by decide) (pj_ldc2 hM (pc := 3) (z := 99) dX12_tideIn_3 kn_X12_373 rfl (by decide) (pj_cS hM (pc := 6) (cM_isFrom x1 0 99 w p1 h2) dX12_tideIn_6 mf_X12_isFrom ms_X12_isFrom ml_X12_289 rfl rfl rfl rfl k))))) ?_
  refine pj_tif (fun h3 => ?_) (fun h3 => ?_)
  · refine pj_tbind (fun p4 h5 => ?_)
    exact pj_tret (fun hr => pj_if_eq_t hM (pc := 9) dX12_tideIn_9 rfl h3 (pj_aload_n hM (pc := 38) dX12_tideIn_38 rfl rfl (pj_iconst hM (pc := 39) dX12_tideIn_39 (by decide) (pj_cV hM (pc := 40) (cM_refuse 1 w p4 h5) dX12_tideIn_40 mf_X12_refuse mv_X12_refuse ml_X12_78 kc_26 rfl rfl (by decide) rfl rfl (pj_ret hM (pc := 43) dX12_tideIn_43 ⟨_, rfl⟩ (h0 ((p4.1, p4.2)) hr) rfl)))))
  refine pj_tbind (fun p6 h7 => ?_)
  exact pj_tret (fun hr => pj_if_eq_f hM (pc := 9) 38 dX12_tideIn_9 rfl h3 (pj_aload_n hM (pc := 12) dX12_tideIn_12 rfl rfl (pj_iconst hM (pc := 13) dX12_tideIn_13 (by decide) (pj_aload_n hM (pc := 14) dX12_tideIn_14 rfl rfl (pj_getF hM (pc := 15) (t := 60) dX12_tideIn_15 fl_X12_7 (by decide) rfl rfl (pj_iconst hM (pc := 18) dX12_tideIn_18 (by decide) (pj_ial hM (pc := 19) dX12_tideIn_19 ki_60 (by decide) (by decide) (pj_iload_n hM (pc := 20) dX12_tideIn_20 rfl (pj_aload_n hM (pc := 21) dX12_tideIn_21 rfl rfl (pj_getF hM (pc := 22) (t := 60) dX12_tideIn_22 fl_X12_7 (by decide) rfl rfl (pj_iconst hM (pc := 25) dX12_tideIn_25 (by decide) (pj_ial hM (pc := 26) dX12_tideIn_26 ki_60 (by decide) (by decide) (pj_imul hM (pc := 27) dX12_tideIn_27 (pj_isub hM (pc := 28) dX12_tideIn_28 (pj_mmax hM (pc := 29) dX12_tideIn_29 mf_J9_max_7cf53 ms_J9_max_7cf53 ml_X12_375 rfl (pj_cV hM (pc := 32) (cM_gives (max 1 (pj_wr ((w 60 0 3) - (pj_wr (x1 * (w 60 0 4)))))) w p6 h7) dX12_tideIn_32 mf_X12_gives mv_X12_gives ml_X12_82 kc_26 rfl rfl (by decide) rfl rfl (pj_goto hM (pc := 35) dX12_tideIn_35 rfl (pj_ret hM (pc := 43) dX12_tideIn_43 ⟨_, rfl⟩ (h0 ((p6.1, p6.2)) hr) rfl))))))))))))))))))
theorem cM_tideIn (x1 : Int)  (w : pj_W) (r : Int × pj_W) (h : fM_tideIn x1 w = some r) : pj_Cn l yX12_tideIn cX12_tideIn 2 (some .int) 1 25 true g [(26, 0), (0, x1)] w ((some (0, r.1) : Option pj_V), r.2) :=
  pj_Cn_of rfl (Nat.le_of_ble_eq_true rfl) (lls := [(26, 0), (0, x1)]) rfl (fun Go hM => tM_tideIn hM x1 w (fun x => ((some (0, x.1) : Option pj_V), x.2) = ((some (0, r.1) : Option pj_V), r.2)) (fun r h => h) r h rfl)
noncomputable def fM_time (x1 : Int) (w : pj_W) : Option (Int × pj_W) :=
  (fM_isFinder x1 w).bind fun p1 => (if p1 = 0 then ((fM_refuse 1 w).bind fun p4 => (some ((p4.1, p4.2)))) else ((fM_finderRow x1 w).bind fun p6 => (if 0 ≤ (pj_wr (p6 + 3)) ∧ (pj_wr (p6 + 3)) < 8400 then ((fM_gives (pj_wr ((w 60 0 3) - (w 60 0 (pj_wr (p6 + 3))))) w).bind fun p9 => (some ((p9.1, p9.2)))) else none)))
theorem tM_time {Go : pj_C → Prop} (hM : pj_M l yX12_time cX12_time 2 (some .int) 1 21 true g n0 o Go) (x1 : Int) (w : pj_W)  (R : Int × pj_W → Prop) (h0 : ∀ r, R (r) → ((some (0, r.1) : Option pj_V), r.2) = o) : pj_TG R (fM_time x1 w) (Go (0, [(26, 0), (0, x1)], [], w)) := by
  unfold fM_time
  refine pj_tbind (fun p1 h2 => ?_)
  refine pj_map (fun k => pj_aload_n hM (pc := 0) dX12_time_0 rfl rfl (pj_iload_n hM (pc := 1) dX12_time_1 rfl (pj_cV hM (pc := 2) (cM_isFinder x1 w p1 h2) dX12_time_2 mf_X12_isFinder mv_X12_isFinder ml_X12_271 kc_26 rfl rfl (by decide) rfl rfl k))) ?_
  refine pj_tif (fun h3 => ?_) (fun h3 => ?_)
  · refine pj_tbind (fun p4 h5 => ?_)
    exact pj_tret (fun hr => pj_if_eq_t hM (pc := 5) dX12_time_5 rfl h3 (pj_aload_n hM (pc := 33) dX12_time_33 rfl rfl (pj_iconst hM (pc := 34) dX12_time_34 (by decide) (pj_cV hM (pc := 35) (cM_refuse 1 w p4 h5) dX12_time_35 mf_X12_refuse mv_X12_refuse ml_X12_78 kc_26 rfl rfl (by decide) rfl rfl (pj_ret hM (pc := 38) dX12_time_38 ⟨_, rfl⟩ (h0 ((p4.1, p4.2)) hr) rfl)))))
  refine pj_tbind (fun p6 h7 => ?_)
  refine pj_tgd (fun h8 => ?_)
  refine pj_tbind (fun p9 h10 => ?_)
  exact pj_tret (fun hr => pj_if_eq_f hM (pc := 5) 33 dX12_time_5 rfl h3 (pj_aload_n hM (pc := 8) dX12_time_8 rfl rfl (pj_aload_n hM (pc := 9) dX12_time_9 rfl rfl (pj_getF hM (pc := 10) (t := 60) dX12_time_10 fl_X12_7 (by decide) rfl rfl (pj_iconst hM (pc := 13) dX12_time_13 (by decide) (pj_ial hM (pc := 14) dX12_time_14 ki_60 (by decide) (by decide) (pj_aload_n hM (pc := 15) dX12_time_15 rfl rfl (pj_getF hM (pc := 16) (t := 60) dX12_time_16 fl_X12_7 (by decide) rfl rfl (pj_iload_n hM (pc := 19) dX12_time_19 rfl (pj_cS hM (pc := 20) (cM_finderRow x1 w p6 h7) dX12_time_20 mf_X12_finderRow ms_X12_finderRow ml_X12_274 rfl rfl rfl rfl (pj_iconst hM (pc := 23) dX12_time_23 (by decide) (pj_iadd hM (pc := 24) dX12_time_24 (pj_ial hM (pc := 25) dX12_time_25 ki_60 (by decide) h8 (pj_isub hM (pc := 26) dX12_time_26 (pj_cV hM (pc := 27) (cM_gives (pj_wr ((w 60 0 3) - (w 60 0 (pj_wr (p6 + 3))))) w p9 h10) dX12_time_27 mf_X12_gives mv_X12_gives ml_X12_82 kc_26 rfl rfl (by decide) rfl rfl (pj_goto hM (pc := 30) dX12_time_30 rfl (pj_ret hM (pc := 38) dX12_time_38 ⟨_, rfl⟩ (h0 ((p9.1, p9.2)) hr) rfl)))))))))))))))))
theorem cM_time (x1 : Int)  (w : pj_W) (r : Int × pj_W) (h : fM_time x1 w = some r) : pj_Cn l yX12_time cX12_time 2 (some .int) 1 21 true g [(26, 0), (0, x1)] w ((some (0, r.1) : Option pj_V), r.2) :=
  pj_Cn_of rfl (Nat.le_of_ble_eq_true rfl) (lls := [(26, 0), (0, x1)]) rfl (fun Go hM => tM_time hM x1 w (fun x => ((some (0, x.1) : Option pj_V), x.2) = ((some (0, r.1) : Option pj_V), r.2)) (fun r h => h) r h rfl)
noncomputable def fM_told_10  (w : pj_W) : Option (Int × pj_W) :=
  (fM_refuse 1 w).bind fun p1 => (some ((p1.1, p1.2)))
noncomputable def fM_told (x1 : Int) (w : pj_W) : Option (Int × pj_W) :=
  if x1 < 0 then (fM_told_10 w) else (if x1 ≤ 8 then (if 0 ≤ x1 ∧ x1 < 8400 then ((fM_gives (w 60 0 x1) w).bind fun p4 => (some ((p4.1, p4.2)))) else none) else (fM_told_10 w))
theorem tM_told_10 {Go : pj_C → Prop} (hM : pj_M l yX12_told cX12_told 2 (some .int) 1 21 true g n0 o Go)  (w : pj_W)  (R : Int × pj_W → Prop) (h0 : ∀ r, R (r) → ((some (0, r.1) : Option pj_V), r.2) = o) : pj_TG R (fM_told_10  w) (Go (10, [(26, 0), (9, 0)], [], w)) := by
  unfold fM_told_10
  refine pj_tbind (fun p1 h2 => ?_)
  exact pj_tret (fun hr => pj_aload_n hM (pc := 10) dX12_told_10 rfl rfl (pj_iconst hM (pc := 11) dX12_told_11 (by decide) (pj_cV hM (pc := 12) (cM_refuse 1 w p1 h2) dX12_told_12 mf_X12_refuse mv_X12_refuse ml_X12_78 kc_26 rfl rfl (by decide) rfl rfl (pj_goto hM (pc := 15) dX12_told_15 rfl (pj_ret hM (pc := 28) dX12_told_28 ⟨_, rfl⟩ (h0 ((p1.1, p1.2)) hr) rfl)))))
theorem tM_told {Go : pj_C → Prop} (hM : pj_M l yX12_told cX12_told 2 (some .int) 1 21 true g n0 o Go) (x1 : Int) (w : pj_W)  (R : Int × pj_W → Prop) (h0 : ∀ r, R (r) → ((some (0, r.1) : Option pj_V), r.2) = o) : pj_TG R (fM_told x1 w) (Go (0, [(26, 0), (0, x1)], [], w)) := by
  unfold fM_told
  refine pj_map (fun k => pj_iload_n hM (pc := 0) dX12_told_0 rfl k) ?_
  refine pj_tif (fun h1 => ?_) (fun h1 => ?_)
  · refine pj_map (fun k => pj_if_lt_t hM (pc := 1) dX12_told_1 rfl h1 (pj_kill hM [true, false] (lls' := [(26, 0), (9, 0)]) rfl k)) ?_
    exact tM_told_10 hM w _ h0
  refine pj_map (fun k => pj_if_lt_f hM (pc := 1) 10 dX12_told_1 rfl h1 (pj_iload_n hM (pc := 4) dX12_told_4 rfl (pj_bipush hM (pc := 5) dX12_told_5 (by decide) k))) ?_
  refine pj_tif (fun h2 => ?_) (fun h2 => ?_)
  · refine pj_tgd (fun h3 => ?_)
    refine pj_tbind (fun p4 h5 => ?_)
    exact pj_tret (fun hr => pj_ic_le_t hM (pc := 7) dX12_told_7 rfl h2 (pj_aload_n hM (pc := 18) dX12_told_18 rfl rfl (pj_aload_n hM (pc := 19) dX12_told_19 rfl rfl (pj_getF hM (pc := 20) (t := 60) dX12_told_20 fl_X12_7 (by decide) rfl rfl (pj_iload_n hM (pc := 23) dX12_told_23 rfl (pj_ial hM (pc := 24) dX12_told_24 ki_60 (by decide) h3 (pj_cV hM (pc := 25) (cM_gives (w 60 0 x1) w p4 h5) dX12_told_25 mf_X12_gives mv_X12_gives ml_X12_82 kc_26 rfl rfl (by decide) rfl rfl (pj_ret hM (pc := 28) dX12_told_28 ⟨_, rfl⟩ (h0 ((p4.1, p4.2)) hr) rfl))))))))
  refine pj_map (fun k => pj_ic_le_f hM (pc := 7) 18 dX12_told_7 rfl h2 (pj_kill hM [true, false] (lls' := [(26, 0), (9, 0)]) rfl k)) ?_
  exact tM_told_10 hM w _ h0
theorem cM_told (x1 : Int)  (w : pj_W) (r : Int × pj_W) (h : fM_told x1 w = some r) : pj_Cn l yX12_told cX12_told 2 (some .int) 1 21 true g [(26, 0), (0, x1)] w ((some (0, r.1) : Option pj_V), r.2) :=
  pj_Cn_of rfl (Nat.le_of_ble_eq_true rfl) (lls := [(26, 0), (0, x1)]) rfl (fun Go hM => tM_told hM x1 w (fun x => ((some (0, x.1) : Option pj_V), x.2) = ((some (0, r.1) : Option pj_V), r.2)) (fun r h => h) r h rfl)
noncomputable def fM_top  (w : pj_W) : Option (Int) :=
  some ((w 26 0 3))
theorem tM_top {Go : pj_C → Prop} (hM : pj_M l yX12_top cX12_top 1 (some .long) 0 0 ph g n0 o Go)  (w : pj_W)  (R : Int → Prop) (h0 : ∀ r, R (r) → ((some (1, r) : Option pj_V), w) = o) : pj_TG R (fM_top  w) (Go (0, [(26, 0)], [], w)) := by
  unfold fM_top
  exact pj_tret (fun hr => pj_aload_n hM (pc := 0) dX12_top_0 rfl rfl (pj_gf hM (pc := 1) (t := 1) dX12_top_1 fl_X12_75 (by decide) rfl 3 rfl (pj_ret hM (pc := 4) dX12_top_4 ⟨_, rfl⟩ (h0 ((w 26 0 3)) hr) rfl)))
theorem cM_top   (w : pj_W) (r : Int) (h : fM_top  w = some r) : pj_Cn l yX12_top cX12_top 1 (some .long) 0 0 ph g [(26, 0)] w ((some (1, r) : Option pj_V), w) :=
  pj_Cn_of rfl (Nat.le_of_ble_eq_true rfl) (lls := [(26, 0)]) rfl (fun Go hM => tM_top hM w (fun x => ((some (1, x) : Option pj_V), w) = ((some (1, r) : Option pj_V), w)) (fun r h => h) r h rfl)
noncomputable def fM_tray_49b (x1 : Int) (x3 : Int) (x4 : Int) (w : pj_W) : Option ((Int × pj_W) ⊕ (Int × pj_W)) :=
  if x3 ≤ x4 then ((fM_is 0 w).bind fun p2 => (if p2.1 = 0 ∨ p2.1 = 1 then (some (Sum.inr ((p2.1, p2.2)))) else none)) else (if 0 ≤ (pj_wr ((pj_wr (60 * x1)) + x4)) ∧ (pj_wr ((pj_wr (60 * x1)) + x4)) < 240 then (some (Sum.inl ((pj_wr (x4 + 1)), (pj_set w 64 0 (pj_wr ((pj_wr (60 * x1)) + x4)) 0)))) else none)
noncomputable def fM_tray_49 (x1 : Int) (x3 : Int) (s : (Int × pj_W)) : Option (Int × pj_W) := pj_Lp (fun s : (Int × pj_W) => fM_tray_49b x1 x3 s.1 s.2) s
noncomputable def fM_tray_26  (w : pj_W) : Option (Int × pj_W) :=
  (fM_is 1 w).bind fun p1 => (if p1.1 = 0 ∨ p1.1 = 1 then (some ((p1.1, p1.2))) else none)
noncomputable def fM_tray (x1 : Int) (x2 : Int) (x3 : Int) (w : pj_W) : Option (Int × pj_W) :=
  (fM_isTray x1 w).bind fun p1 => (if p1 = 0 then (fM_tray_26 w) else (if x2 < 0 then (fM_tray_26 w) else (if 3 < x2 then (fM_tray_26 w) else (if x3 < 0 then (fM_tray_26 w) else (if x3 ≤ 60 then (if 0 ≤ x1 ∧ x1 < 4 then (fM_tray_49 x1 x3 (0, (pj_set (pj_set w 62 0 x1 x2) 63 0 x1 x3))) else none) else (fM_tray_26 w))))))
theorem tM_tray_49b {Go : pj_C → Prop} (hM : pj_M l yX12_tray cX12_tray 5 (some .boolean) 1 21 true g n0 o Go) (x1 : Int) (x3 : Int) (x4 : Int) (w : pj_W)  (R : (Int × pj_W) ⊕ (Int × pj_W) → Prop) (h0 : ∀ r, R (Sum.inr (r)) → ((some (0, r.1) : Option pj_V), r.2) = o) (hk49 : ∀ s, R (Sum.inl s) → Go (49, [(26, 0), (0, x1), (9, 0), (0, x3), (0, s.1)], [], s.2)) : pj_TG R (fM_tray_49b x1 x3 x4 w) (Go (49, [(26, 0), (0, x1), (9, 0), (0, x3), (0, x4)], [], w)) := by
  unfold fM_tray_49b
  refine pj_map (fun k => pj_iload hM (pc := 49) dX12_tray_49 rfl (pj_iload_n hM (pc := 51) dX12_tray_51 rfl k)) ?_
  refine pj_tif (fun h1 => ?_) (fun h1 => ?_)
  · refine pj_tbind (fun p2 h3 => ?_)
    refine pj_tgd (fun h4 => ?_)
    exact pj_tret (fun hr => pj_ic_ge_t hM (pc := 52) dX12_tray_52 rfl h1 (pj_aload_n hM (pc := 74) dX12_tray_74 rfl rfl (pj_iconst hM (pc := 75) dX12_tray_75 (by decide) (pj_cV hM (pc := 76) (cM_is 0 w p2 h3) dX12_tray_76 mf_X12_is mv_X12_is ml_X12_85 kc_26 rfl rfl (by decide) rfl rfl (pj_ret hM (pc := 79) dX12_tray_79 ⟨_, rfl, h4⟩ (h0 ((p2.1, p2.2)) hr) rfl)))))
  refine pj_tgd (fun h5 => ?_)
  exact pj_tret (fun hr => pj_ic_ge_f hM (pc := 52) 74 dX12_tray_52 rfl h1 (pj_aload_n hM (pc := 55) dX12_tray_55 rfl rfl (pj_getF hM (pc := 56) (t := 64) dX12_tray_56 fl_X12_27 (by decide) rfl rfl (pj_bipush hM (pc := 59) dX12_tray_59 (by decide) (pj_iload_n hM (pc := 61) dX12_tray_61 rfl (pj_imul hM (pc := 62) dX12_tray_62 (pj_iload hM (pc := 63) dX12_tray_63 rfl (pj_iadd hM (pc := 65) dX12_tray_65 (pj_lconst hM (pc := 66) (z := 0) dX12_tray_66 rfl (by decide) (pj_las hM (pc := 67) dX12_tray_67 kl_64 (by decide) h5 (pj_iinc hM (pc := 68) dX12_tray_68 rfl (by decide) (lls' := [(26, 0), (0, x1), (9, 0), (0, x3), (0, (pj_wr (x4 + 1)))]) rfl (pj_goto hM (pc := 71) dX12_tray_71 rfl (pj_kill hM [true, true, false, true, true] (lls' := [(26, 0), (0, x1), (9, 0), (0, x3), (0, (pj_wr (x4 + 1)))]) rfl ((hk49 _ hr)))))))))))))))
theorem tM_tray_49 {Go : pj_C → Prop} (hM : pj_M l yX12_tray cX12_tray 5 (some .boolean) 1 21 true g n0 o Go) (x1 : Int) (x3 : Int)  (R : Int × pj_W → Prop) (h0 : ∀ r, R (r) → ((some (0, r.1) : Option pj_V), r.2) = o) (s : (Int × pj_W)) : pj_TG R (fM_tray_49 x1 x3 s) (Go (49, [(26, 0), (0, x1), (9, 0), (0, x3), (0, s.1)], [], s.2)) := by
  unfold fM_tray_49
  exact pj_tLp (G := fun s : (Int × pj_W) => Go (49, [(26, 0), (0, x1), (9, 0), (0, x3), (0, s.1)], [], s.2)) (fun s => tM_tray_49b hM x1 x3 s.1 s.2  _ (fun r h => h0 r h)  (fun s h => h)) s
theorem tM_tray_26 {Go : pj_C → Prop} (hM : pj_M l yX12_tray cX12_tray 5 (some .boolean) 1 21 true g n0 o Go)  (w : pj_W)  (R : Int × pj_W → Prop) (h0 : ∀ r, R (r) → ((some (0, r.1) : Option pj_V), r.2) = o) : pj_TG R (fM_tray_26  w) (Go (26, [(26, 0), (9, 0), (9, 0), (9, 0), (9, 0)], [], w)) := by
  unfold fM_tray_26
  refine pj_tbind (fun p1 h2 => ?_)
  refine pj_tgd (fun h3 => ?_)
  exact pj_tret (fun hr => pj_aload_n hM (pc := 26) dX12_tray_26 rfl rfl (pj_iconst hM (pc := 27) dX12_tray_27 (by decide) (pj_cV hM (pc := 28) (cM_is 1 w p1 h2) dX12_tray_28 mf_X12_is mv_X12_is ml_X12_85 kc_26 rfl rfl (by decide) rfl rfl (pj_ret hM (pc := 31) dX12_tray_31 ⟨_, rfl, h3⟩ (h0 ((p1.1, p1.2)) hr) rfl))))
theorem tM_tray {Go : pj_C → Prop} (hM : pj_M l yX12_tray cX12_tray 5 (some .boolean) 1 21 true g n0 o Go) (x1 : Int) (x2 : Int) (x3 : Int) (w : pj_W)  (R : Int × pj_W → Prop) (h0 : ∀ r, R (r) → ((some (0, r.1) : Option pj_V), r.2) = o) : pj_TG R (fM_tray x1 x2 x3 w) (Go (0, [(26, 0), (0, x1), (0, x2), (0, x3), (9, 0)], [], w)) := by
  unfold fM_tray
  refine pj_tbind (fun p1 h2 => ?_)
  refine pj_map (fun k => pj_iload_n hM (pc := 0) dX12_tray_0 rfl (pj_cS hM (pc := 1) (cM_isTray x1 w p1 h2) dX12_tray_1 mf_X12_isTray ms_X12_isTray ml_X12_89 rfl rfl rfl rfl k)) ?_
  refine pj_tif (fun h3 => ?_) (fun h3 => ?_)
  · refine pj_map (fun k => pj_if_eq_t hM (pc := 4) dX12_tray_4 rfl h3 (pj_kill hM [true, false, false, false, false] (lls' := [(26, 0), (9, 0), (9, 0), (9, 0), (9, 0)]) rfl k)) ?_
    exact tM_tray_26 hM w _ h0
  refine pj_map (fun k => pj_if_eq_f hM (pc := 4) 26 dX12_tray_4 rfl h3 (pj_iload_n hM (pc := 7) dX12_tray_7 rfl k)) ?_
  refine pj_tif (fun h4 => ?_) (fun h4 => ?_)
  · refine pj_map (fun k => pj_if_lt_t hM (pc := 8) dX12_tray_8 rfl h4 (pj_kill hM [true, false, false, false, false] (lls' := [(26, 0), (9, 0), (9, 0), (9, 0), (9, 0)]) rfl k)) ?_
    exact tM_tray_26 hM w _ h0
  refine pj_map (fun k => pj_if_lt_f hM (pc := 8) 26 dX12_tray_8 rfl h4 (pj_iload_n hM (pc := 11) dX12_tray_11 rfl (pj_iconst hM (pc := 12) dX12_tray_12 (by decide) k))) ?_
  refine pj_tif (fun h5 => ?_) (fun h5 => ?_)
  · refine pj_map (fun k => pj_ic_gt_t hM (pc := 13) dX12_tray_13 rfl h5 (pj_kill hM [true, false, false, false, false] (lls' := [(26, 0), (9, 0), (9, 0), (9, 0), (9, 0)]) rfl k)) ?_
    exact tM_tray_26 hM w _ h0
  refine pj_map (fun k => pj_ic_gt_f hM (pc := 13) 26 dX12_tray_13 rfl h5 (pj_iload_n hM (pc := 16) dX12_tray_16 rfl k)) ?_
  refine pj_tif (fun h6 => ?_) (fun h6 => ?_)
  · refine pj_map (fun k => pj_if_lt_t hM (pc := 17) dX12_tray_17 rfl h6 (pj_kill hM [true, false, false, false, false] (lls' := [(26, 0), (9, 0), (9, 0), (9, 0), (9, 0)]) rfl k)) ?_
    exact tM_tray_26 hM w _ h0
  refine pj_map (fun k => pj_if_lt_f hM (pc := 17) 26 dX12_tray_17 rfl h6 (pj_iload_n hM (pc := 20) dX12_tray_20 rfl (pj_bipush hM (pc := 21) dX12_tray_21 (by decide) k))) ?_
  refine pj_tif (fun h7 => ?_) (fun h7 => ?_)
  · refine pj_tgd (fun h8 => ?_)
    refine pj_map (fun k => pj_ic_le_t hM (pc := 23) dX12_tray_23 rfl h7 (pj_aload_n hM (pc := 32) dX12_tray_32 rfl rfl (pj_getF hM (pc := 33) (t := 62) dX12_tray_33 fl_X12_21 (by decide) rfl rfl (pj_iload_n hM (pc := 36) dX12_tray_36 rfl (pj_iload_n hM (pc := 37) dX12_tray_37 rfl (pj_ias hM (pc := 38) dX12_tray_38 ki_62 (by decide) h8 (pj_aload_n hM (pc := 39) dX12_tray_39 rfl rfl (pj_getF hM (pc := 40) (t := 63) dX12_tray_40 fl_X12_24 (by decide) rfl rfl (pj_iload_n hM (pc := 43) dX12_tray_43 rfl (pj_iload_n hM (pc := 44) dX12_tray_44 rfl (pj_ias hM (pc := 45) dX12_tray_45 ki_63 (by decide) h8 (pj_iconst hM (pc := 46) dX12_tray_46 (by decide) (pj_istore hM (pc := 47) dX12_tray_47 (by decide) (lls' := [(26, 0), (0, x1), (0, x2), (0, x3), (0, 0)]) rfl (pj_kill hM [true, true, false, true, true] (lls' := [(26, 0), (0, x1), (9, 0), (0, x3), (0, 0)]) rfl k)))))))))))))) ?_
    exact tM_tray_49 hM x1 x3 _ h0 _
  refine pj_map (fun k => pj_ic_le_f hM (pc := 23) 32 dX12_tray_23 rfl h7 (pj_kill hM [true, false, false, false, false] (lls' := [(26, 0), (9, 0), (9, 0), (9, 0), (9, 0)]) rfl k)) ?_
  exact tM_tray_26 hM w _ h0
theorem cM_tray (x1 : Int) (x2 : Int) (x3 : Int)  (w : pj_W) (r : Int × pj_W) (h : fM_tray x1 x2 x3 w = some r) : pj_Cn l yX12_tray cX12_tray 5 (some .boolean) 1 21 true g [(26, 0), (0, x1), (0, x2), (0, x3)] w ((some (0, r.1) : Option pj_V), r.2) :=
  pj_Cn_of rfl (Nat.le_of_ble_eq_true rfl) (lls := [(26, 0), (0, x1), (0, x2), (0, x3), (9, 0)]) rfl (fun Go hM => tM_tray hM x1 x2 x3 w (fun x => ((some (0, x.1) : Option pj_V), x.2) = ((some (0, r.1) : Option pj_V), r.2)) (fun r h => h) r h rfl)
noncomputable def fM_walk_38  (w : pj_W) : Option (Int × pj_W) :=
  (fM_refuse 1 w).bind fun p1 => (some ((p1.1, p1.2)))
noncomputable def fM_walk (x1 : Int) (x2 : Int) (w : pj_W) : Option (Int × pj_W) :=
  (fM_isFinder x1 w).bind fun p1 => (if p1 = 0 then (fM_walk_38 w) else ((fM_isFind x2 w).bind fun p4 => (if p4 = 0 then (fM_walk_38 w) else ((fM_findRow 0 x2 w).bind fun p7 => (if 0 ≤ p7 ∧ p7 < 8400 then ((fM_stepsTo x1 (w 60 0 p7) w).bind fun p10 => ((fM_gives p10 w).bind fun p12 => (some ((p12.1, p12.2))))) else none)))))
theorem tM_walk_38 {Go : pj_C → Prop} (hM : pj_M l yX12_walk cX12_walk 3 (some .int) 2 43 true g n0 o Go)  (w : pj_W)  (R : Int × pj_W → Prop) (h0 : ∀ r, R (r) → ((some (0, r.1) : Option pj_V), r.2) = o) : pj_TG R (fM_walk_38  w) (Go (38, [(26, 0), (9, 0), (9, 0)], [], w)) := by
  unfold fM_walk_38
  refine pj_tbind (fun p1 h2 => ?_)
  exact pj_tret (fun hr => pj_aload_n hM (pc := 38) dX12_walk_38 rfl rfl (pj_iconst hM (pc := 39) dX12_walk_39 (by decide) (pj_cV hM (pc := 40) (cM_refuse 1 w p1 h2) dX12_walk_40 mf_X12_refuse mv_X12_refuse ml_X12_78 kc_26 rfl rfl (by decide) rfl rfl (pj_ret hM (pc := 43) dX12_walk_43 ⟨_, rfl⟩ (h0 ((p1.1, p1.2)) hr) rfl))))
theorem tM_walk {Go : pj_C → Prop} (hM : pj_M l yX12_walk cX12_walk 3 (some .int) 2 43 true g n0 o Go) (x1 : Int) (x2 : Int) (w : pj_W)  (R : Int × pj_W → Prop) (h0 : ∀ r, R (r) → ((some (0, r.1) : Option pj_V), r.2) = o) : pj_TG R (fM_walk x1 x2 w) (Go (0, [(26, 0), (0, x1), (0, x2)], [], w)) := by
  unfold fM_walk
  refine pj_tbind (fun p1 h2 => ?_)
  refine pj_map (fun k => pj_aload_n hM (pc := 0) dX12_walk_0 rfl rfl (pj_iload_n hM (pc := 1) dX12_walk_1 rfl (pj_cV hM (pc := 2) (cM_isFinder x1 w p1 h2) dX12_walk_2 mf_X12_isFinder mv_X12_isFinder ml_X12_271 kc_26 rfl rfl (by decide) rfl rfl k))) ?_
  refine pj_tif (fun h3 => ?_) (fun h3 => ?_)
  · refine pj_map (fun k => pj_if_eq_t hM (pc := 5) dX12_walk_5 rfl h3 (pj_kill hM [true, false, false] (lls' := [(26, 0), (9, 0), (9, 0)]) rfl k)) ?_
    exact tM_walk_38 hM w _ h0
  refine pj_tbind (fun p4 h5 => ?_)
  refine pj_map (fun k => pj_if_eq_f hM (pc := 5) 38 dX12_walk_5 rfl h3 (pj_aload_n hM (pc := 8) dX12_walk_8 rfl rfl (pj_iload_n hM (pc := 9) dX12_walk_9 rfl (pj_cV hM (pc := 10) (cM_isFind x2 w p4 h5) dX12_walk_10 mf_X12_isFind mv_X12_isFind ml_X12_265 kc_26 rfl rfl (by decide) rfl rfl k)))) ?_
  refine pj_tif (fun h6 => ?_) (fun h6 => ?_)
  · refine pj_map (fun k => pj_if_eq_t hM (pc := 13) dX12_walk_13 rfl h6 (pj_kill hM [true, false, false] (lls' := [(26, 0), (9, 0), (9, 0)]) rfl k)) ?_
    exact tM_walk_38 hM w _ h0
  refine pj_tbind (fun p7 h8 => ?_)
  refine pj_tgd (fun h9 => ?_)
  refine pj_tbind (fun p10 h11 => ?_)
  refine pj_tbind (fun p12 h13 => ?_)
  exact pj_tret (fun hr => pj_if_eq_f hM (pc := 13) 38 dX12_walk_13 rfl h6 (pj_aload_n hM (pc := 16) dX12_walk_16 rfl rfl (pj_aload_n hM (pc := 17) dX12_walk_17 rfl rfl (pj_iload_n hM (pc := 18) dX12_walk_18 rfl (pj_aload_n hM (pc := 19) dX12_walk_19 rfl rfl (pj_getF hM (pc := 20) (t := 60) dX12_walk_20 fl_X12_7 (by decide) rfl rfl (pj_iconst hM (pc := 23) dX12_walk_23 (by decide) (pj_iload_n hM (pc := 24) dX12_walk_24 rfl (pj_cS hM (pc := 25) (cM_findRow 0 x2 w p7 h8) dX12_walk_25 mf_X12_findRow ms_X12_findRow ml_X12_171 rfl rfl rfl rfl (pj_ial hM (pc := 28) dX12_walk_28 ki_60 (by decide) h9 (pj_cV hM (pc := 29) (cM_stepsTo x1 (w 60 0 p7) w p10 h11) dX12_walk_29 mf_X12_stepsTo mv_X12_stepsTo ml_X12_283 kc_26 rfl rfl (by decide) rfl rfl (pj_cV hM (pc := 32) (cM_gives p10 w p12 h13) dX12_walk_32 mf_X12_gives mv_X12_gives ml_X12_82 kc_26 rfl rfl (by decide) rfl rfl (pj_goto hM (pc := 35) dX12_walk_35 rfl (pj_ret hM (pc := 43) dX12_walk_43 ⟨_, rfl⟩ (h0 ((p12.1, p12.2)) hr) rfl))))))))))))))
theorem cM_walk (x1 : Int) (x2 : Int)  (w : pj_W) (r : Int × pj_W) (h : fM_walk x1 x2 w = some r) : pj_Cn l yX12_walk cX12_walk 3 (some .int) 2 43 true g [(26, 0), (0, x1), (0, x2)] w ((some (0, r.1) : Option pj_V), r.2) :=
  pj_Cn_of rfl (Nat.le_of_ble_eq_true rfl) (lls := [(26, 0), (0, x1), (0, x2)]) rfl (fun Go hM => tM_walk hM x1 x2 w (fun x => ((some (0, x.1) : Option pj_V), x.2) = ((some (0, r.1) : Option pj_V), r.2)) (fun r h => h) r h rfl)
noncomputable def fM_wave (x1 : Int) (w : pj_W) : Option (Int × pj_W) :=
  (fM_isFrom x1 0 40 w).bind fun p1 => (if p1 = 0 then ((fM_refuse 1 w).bind fun p4 => (some ((p4.1, p4.2)))) else ((fM_washes x1 w).bind fun p6 => ((fM_gives p6.1 p6.2).bind fun p8 => (some ((p8.1, p8.2))))))
theorem tM_wave {Go : pj_C → Prop} (hM : pj_M l yX12_wave cX12_wave 2 (some .int) 3 65 true g n0 o Go) (x1 : Int) (w : pj_W)  (R : Int × pj_W → Prop) (h0 : ∀ r, R (r) → ((some (0, r.1) : Option pj_V), r.2) = o) : pj_TG R (fM_wave x1 w) (Go (0, [(26, 0), (0, x1)], [], w)) := by
  unfold fM_wave
  refine pj_tbind (fun p1 h2 => ?_)
  refine pj_map (fun k => pj_iload_n hM (pc := 0) dX12_wave_0 rfl (pj_i2l hM (pc := 1) dX12_wave_1 (pj_lconst hM (pc := 2) (z := 0) dX12_wave_2 rfl (by decide) (pj_ldc2 hM (pc := 3) (z := 40) dX12_wave_3 kn_X12_332 rfl (by decide) (pj_cS hM (pc := 6) (cM_isFrom x1 0 40 w p1 h2) dX12_wave_6 mf_X12_isFrom ms_X12_isFrom ml_X12_289 rfl rfl rfl rfl k))))) ?_
  refine pj_tif (fun h3 => ?_) (fun h3 => ?_)
  · refine pj_tbind (fun p4 h5 => ?_)
    exact pj_tret (fun hr => pj_if_eq_t hM (pc := 9) dX12_wave_9 rfl h3 (pj_aload_n hM (pc := 24) dX12_wave_24 rfl rfl (pj_iconst hM (pc := 25) dX12_wave_25 (by decide) (pj_cV hM (pc := 26) (cM_refuse 1 w p4 h5) dX12_wave_26 mf_X12_refuse mv_X12_refuse ml_X12_78 kc_26 rfl rfl (by decide) rfl rfl (pj_ret hM (pc := 29) dX12_wave_29 ⟨_, rfl⟩ (h0 ((p4.1, p4.2)) hr) rfl)))))
  refine pj_tbind (fun p6 h7 => ?_)
  refine pj_tbind (fun p8 h9 => ?_)
  exact pj_tret (fun hr => pj_if_eq_f hM (pc := 9) 24 dX12_wave_9 rfl h3 (pj_aload_n hM (pc := 12) dX12_wave_12 rfl rfl (pj_aload_n hM (pc := 13) dX12_wave_13 rfl rfl (pj_iload_n hM (pc := 14) dX12_wave_14 rfl (pj_cV hM (pc := 15) (cM_washes x1 w p6 h7) dX12_wave_15 mf_X12_washes mv_X12_washes ml_X12_334 kc_26 rfl rfl (by decide) rfl rfl (pj_cV hM (pc := 18) (cM_gives p6.1 p6.2 p8 h9) dX12_wave_18 mf_X12_gives mv_X12_gives ml_X12_82 kc_26 rfl rfl (by decide) rfl rfl (pj_goto hM (pc := 21) dX12_wave_21 rfl (pj_ret hM (pc := 29) dX12_wave_29 ⟨_, rfl⟩ (h0 ((p8.1, p8.2)) hr) rfl))))))))
theorem cM_wave (x1 : Int)  (w : pj_W) (r : Int × pj_W) (h : fM_wave x1 w = some r) : pj_Cn l yX12_wave cX12_wave 2 (some .int) 3 65 true g [(26, 0), (0, x1)] w ((some (0, r.1) : Option pj_V), r.2) :=
  pj_Cn_of rfl (Nat.le_of_ble_eq_true rfl) (lls := [(26, 0), (0, x1)]) rfl (fun Go hM => tM_wave hM x1 w (fun x => ((some (0, x.1) : Option pj_V), x.2) = ((some (0, r.1) : Option pj_V), r.2)) (fun r h => h) r h rfl)
noncomputable def fM_whose (x1 : Int) (w : pj_W) : Option (Int × pj_W) :=
  (fM_wrongFind x1 w).bind fun p1 => (if p1 ≤ 0 then ((fM_ownersOf x1 w).bind fun p4 => ((fM_gives p4 w).bind fun p6 => (some ((p6.1, p6.2))))) else ((fM_refuse p1 w).bind fun p8 => (some ((p8.1, p8.2)))))
theorem tM_whose {Go : pj_C → Prop} (hM : pj_M l yX12_whose cX12_whose 3 (some .int) 4 91 true g n0 o Go) (x1 : Int) (w : pj_W)  (R : Int × pj_W → Prop) (h0 : ∀ r, R (r) → ((some (0, r.1) : Option pj_V), r.2) = o) : pj_TG R (fM_whose x1 w) (Go (0, [(26, 0), (0, x1), (9, 0)], [], w)) := by
  unfold fM_whose
  refine pj_tbind (fun p1 h2 => ?_)
  refine pj_map (fun k => pj_aload_n hM (pc := 0) dX12_whose_0 rfl rfl (pj_iload_n hM (pc := 1) dX12_whose_1 rfl (pj_cV hM (pc := 2) (cM_wrongFind x1 w p1 h2) dX12_whose_2 mf_X12_wrongFind mv_X12_wrongFind ml_X12_349 kc_26 rfl rfl (by decide) rfl rfl (pj_istore_n hM (pc := 5) dX12_whose_5 (by decide) (lls' := [(26, 0), (0, x1), (0, p1)]) rfl (pj_iload_n hM (pc := 6) dX12_whose_6 rfl k))))) ?_
  refine pj_tif (fun h3 => ?_) (fun h3 => ?_)
  · refine pj_tbind (fun p4 h5 => ?_)
    refine pj_tbind (fun p6 h7 => ?_)
    exact pj_tret (fun hr => pj_if_le_t hM (pc := 7) dX12_whose_7 rfl h3 (pj_aload_n hM (pc := 18) dX12_whose_18 rfl rfl (pj_aload_n hM (pc := 19) dX12_whose_19 rfl rfl (pj_iload_n hM (pc := 20) dX12_whose_20 rfl (pj_cV hM (pc := 21) (cM_ownersOf x1 w p4 h5) dX12_whose_21 mf_X12_ownersOf mv_X12_ownersOf ml_X12_343 kc_26 rfl rfl (by decide) rfl rfl (pj_cV hM (pc := 24) (cM_gives p4 w p6 h7) dX12_whose_24 mf_X12_gives mv_X12_gives ml_X12_82 kc_26 rfl rfl (by decide) rfl rfl (pj_ret hM (pc := 27) dX12_whose_27 ⟨_, rfl⟩ (h0 ((p6.1, p6.2)) hr) rfl)))))))
  refine pj_tbind (fun p8 h9 => ?_)
  exact pj_tret (fun hr => pj_if_le_f hM (pc := 7) 18 dX12_whose_7 rfl h3 (pj_aload_n hM (pc := 10) dX12_whose_10 rfl rfl (pj_iload_n hM (pc := 11) dX12_whose_11 rfl (pj_cV hM (pc := 12) (cM_refuse p1 w p8 h9) dX12_whose_12 mf_X12_refuse mv_X12_refuse ml_X12_78 kc_26 rfl rfl (by decide) rfl rfl (pj_goto hM (pc := 15) dX12_whose_15 rfl (pj_ret hM (pc := 27) dX12_whose_27 ⟨_, rfl⟩ (h0 ((p8.1, p8.2)) hr) rfl))))))
theorem cM_whose (x1 : Int)  (w : pj_W) (r : Int × pj_W) (h : fM_whose x1 w = some r) : pj_Cn l yX12_whose cX12_whose 3 (some .int) 4 91 true g [(26, 0), (0, x1)] w ((some (0, r.1) : Option pj_V), r.2) :=
  pj_Cn_of rfl (Nat.le_of_ble_eq_true rfl) (lls := [(26, 0), (0, x1), (9, 0)]) rfl (fun Go hM => tM_whose hM x1 w (fun x => ((some (0, x.1) : Option pj_V), x.2) = ((some (0, r.1) : Option pj_V), r.2)) (fun r h => h) r h rfl)
noncomputable def fM_cut (x0 : Int) (x2 : Int) (w : pj_W) : Option (Int) :=
  if x2 = 0 then (some ((pj_w8 (pj_wr x0)))) else (if x2 = 1 then (some ((pj_w16 (pj_wr x0)))) else (if x2 = 2 then (some ((pj_wr x0))) else (some (x0))))
theorem tM_cut {Go : pj_C → Prop} (hM : pj_M l yX12_cut cX12_cut 3 (some .long) 0 0 ph g n0 o Go) (x0 : Int) (x2 : Int) (w : pj_W)  (R : Int → Prop) (h0 : ∀ r, R (r) → ((some (1, r) : Option pj_V), w) = o) : pj_TG R (fM_cut x0 x2 w) (Go (0, [(1, x0), (9, 0), (0, x2)], [], w)) := by
  unfold fM_cut
  refine pj_map (fun k => pj_iload_n hM (pc := 0) dX12_cut_0 rfl k) ?_
  refine pj_tif (fun h1 => ?_) (fun h1 => ?_)
  · exact pj_tret (fun hr => pj_if_ne_f hM (pc := 1) 11 dX12_cut_1 rfl (fun q => q h1) (pj_lload_n hM (pc := 4) dX12_cut_4 rfl (pj_l2i hM (pc := 5) dX12_cut_5 (pj_i2b hM (pc := 6) dX12_cut_6 (pj_i2l hM (pc := 7) dX12_cut_7 (pj_goto hM (pc := 8) dX12_cut_8 rfl (pj_ret hM (pc := 35) dX12_cut_35 ⟨_, rfl⟩ (h0 ((pj_w8 (pj_wr x0))) hr) rfl)))))))
  refine pj_map (fun k => pj_if_ne_t hM (pc := 1) dX12_cut_1 rfl h1 (pj_iload_n hM (pc := 11) dX12_cut_11 rfl (pj_iconst hM (pc := 12) dX12_cut_12 (by decide) k))) ?_
  refine pj_tif (fun h2 => ?_) (fun h2 => ?_)
  · exact pj_tret (fun hr => pj_ic_ne_f hM (pc := 13) 23 dX12_cut_13 rfl (fun q => q h2) (pj_lload_n hM (pc := 16) dX12_cut_16 rfl (pj_l2i hM (pc := 17) dX12_cut_17 (pj_i2s hM (pc := 18) dX12_cut_18 (pj_i2l hM (pc := 19) dX12_cut_19 (pj_goto hM (pc := 20) dX12_cut_20 rfl (pj_ret hM (pc := 35) dX12_cut_35 ⟨_, rfl⟩ (h0 ((pj_w16 (pj_wr x0))) hr) rfl)))))))
  refine pj_map (fun k => pj_ic_ne_t hM (pc := 13) dX12_cut_13 rfl h2 (pj_iload_n hM (pc := 23) dX12_cut_23 rfl (pj_iconst hM (pc := 24) dX12_cut_24 (by decide) k))) ?_
  refine pj_tif (fun h3 => ?_) (fun h3 => ?_)
  · exact pj_tret (fun hr => pj_ic_ne_f hM (pc := 25) 34 dX12_cut_25 rfl (fun q => q h3) (pj_lload_n hM (pc := 28) dX12_cut_28 rfl (pj_l2i hM (pc := 29) dX12_cut_29 (pj_i2l hM (pc := 30) dX12_cut_30 (pj_goto hM (pc := 31) dX12_cut_31 rfl (pj_ret hM (pc := 35) dX12_cut_35 ⟨_, rfl⟩ (h0 ((pj_wr x0)) hr) rfl))))))
  exact pj_tret (fun hr => pj_ic_ne_t hM (pc := 25) dX12_cut_25 rfl h3 (pj_lload_n hM (pc := 34) dX12_cut_34 rfl (pj_ret hM (pc := 35) dX12_cut_35 ⟨_, rfl⟩ (h0 (x0) hr) rfl)))
theorem cM_cut (x0 : Int) (x2 : Int)  (w : pj_W) (r : Int) (h : fM_cut x0 x2 w = some r) : pj_Cn l yX12_cut cX12_cut 3 (some .long) 0 0 ph g [(1, x0), (0, x2)] w ((some (1, r) : Option pj_V), w) :=
  pj_Cn_of rfl (Nat.le_of_ble_eq_true rfl) (lls := [(1, x0), (9, 0), (0, x2)]) rfl (fun Go hM => tM_cut hM x0 x2 w (fun x => ((some (1, x) : Option pj_V), w) = ((some (1, r) : Option pj_V), w)) (fun r h => h) r h rfl)
noncomputable def fM_write_34 (x5 : Int) (w : pj_W) : Option (Int × pj_W) :=
  (fM_is x5 w).bind fun p1 => (if p1.1 = 0 ∨ p1.1 = 1 then (some ((p1.1, p1.2))) else none)
noncomputable def fM_write (x1 : Int) (x2 : Int) (x3 : Int) (w : pj_W) : Option (Int × pj_W) :=
  (fM_wrongPlace x1 x2 w).bind fun p1 => (if p1 = 0 then (if 0 ≤ x1 ∧ x1 < 4 then ((fM_cut x3 (w 62 0 x1) w).bind fun p5 => (if 0 ≤ (pj_wr ((pj_wr (60 * x1)) + x2)) ∧ (pj_wr ((pj_wr (60 * x1)) + x2)) < 240 then (fM_write_34 p1 (pj_set w 64 0 (pj_wr ((pj_wr (60 * x1)) + x2)) p5)) else none)) else none) else (fM_write_34 p1 w))
theorem tM_write_34 {Go : pj_C → Prop} (hM : pj_M l yX12_write cX12_write 6 (some .boolean) 2 42 true g n0 o Go) (x5 : Int) (w : pj_W)  (R : Int × pj_W → Prop) (h0 : ∀ r, R (r) → ((some (0, r.1) : Option pj_V), r.2) = o) : pj_TG R (fM_write_34 x5 w) (Go (34, [(26, 0), (9, 0), (9, 0), (9, 0), (9, 0), (0, x5)], [], w)) := by
  unfold fM_write_34
  refine pj_tbind (fun p1 h2 => ?_)
  refine pj_tgd (fun h3 => ?_)
  exact pj_tret (fun hr => pj_aload_n hM (pc := 34) dX12_write_34 rfl rfl (pj_iload hM (pc := 35) dX12_write_35 rfl (pj_cV hM (pc := 37) (cM_is x5 w p1 h2) dX12_write_37 mf_X12_is mv_X12_is ml_X12_85 kc_26 rfl rfl (by decide) rfl rfl (pj_ret hM (pc := 40) dX12_write_40 ⟨_, rfl, h3⟩ (h0 ((p1.1, p1.2)) hr) rfl))))
theorem tM_write {Go : pj_C → Prop} (hM : pj_M l yX12_write cX12_write 6 (some .boolean) 2 42 true g n0 o Go) (x1 : Int) (x2 : Int) (x3 : Int) (w : pj_W)  (R : Int × pj_W → Prop) (h0 : ∀ r, R (r) → ((some (0, r.1) : Option pj_V), r.2) = o) : pj_TG R (fM_write x1 x2 x3 w) (Go (0, [(26, 0), (0, x1), (0, x2), (1, x3), (9, 0), (9, 0)], [], w)) := by
  unfold fM_write
  refine pj_tbind (fun p1 h2 => ?_)
  refine pj_map (fun k => pj_aload_n hM (pc := 0) dX12_write_0 rfl rfl (pj_iload_n hM (pc := 1) dX12_write_1 rfl (pj_iload_n hM (pc := 2) dX12_write_2 rfl (pj_cV hM (pc := 3) (cM_wrongPlace x1 x2 w p1 h2) dX12_write_3 mf_X12_wrongPlace mv_X12_wrongPlace ml_X12_92 kc_26 rfl rfl (by decide) rfl rfl (pj_istore hM (pc := 6) dX12_write_6 (by decide) (lls' := [(26, 0), (0, x1), (0, x2), (1, x3), (9, 0), (0, p1)]) rfl (pj_iload hM (pc := 8) dX12_write_8 rfl k)))))) ?_
  refine pj_tif (fun h3 => ?_) (fun h3 => ?_)
  · refine pj_tgd (fun h4 => ?_)
    refine pj_tbind (fun p5 h6 => ?_)
    refine pj_tgd (fun h7 => ?_)
    refine pj_map (fun k => pj_if_ne_f hM (pc := 10) 34 dX12_write_10 rfl (fun q => q h3) (pj_aload_n hM (pc := 13) dX12_write_13 rfl rfl (pj_getF hM (pc := 14) (t := 64) dX12_write_14 fl_X12_27 (by decide) rfl rfl (pj_bipush hM (pc := 17) dX12_write_17 (by decide) (pj_iload_n hM (pc := 19) dX12_write_19 rfl (pj_imul hM (pc := 20) dX12_write_20 (pj_iload_n hM (pc := 21) dX12_write_21 rfl (pj_iadd hM (pc := 22) dX12_write_22 (pj_lload_n hM (pc := 23) dX12_write_23 rfl (pj_aload_n hM (pc := 24) dX12_write_24 rfl rfl (pj_getF hM (pc := 25) (t := 62) dX12_write_25 fl_X12_21 (by decide) rfl rfl (pj_iload_n hM (pc := 28) dX12_write_28 rfl (pj_ial hM (pc := 29) dX12_write_29 ki_62 (by decide) h4 (pj_cS hM (pc := 30) (cM_cut x3 (w 62 0 x1) w p5 h6) dX12_write_30 mf_X12_cut ms_X12_cut ml_X12_96 rfl rfl rfl rfl (pj_las hM (pc := 33) dX12_write_33 kl_64 (by decide) h7 (pj_kill hM [true, false, false, false, false, true] (lls' := [(26, 0), (9, 0), (9, 0), (9, 0), (9, 0), (0, p1)]) rfl k)))))))))))))))) ?_
    exact tM_write_34 hM p1 (pj_set w 64 0 (pj_wr ((pj_wr (60 * x1)) + x2)) p5) _ h0
  refine pj_map (fun k => pj_if_ne_t hM (pc := 10) dX12_write_10 rfl h3 (pj_kill hM [true, false, false, false, false, true] (lls' := [(26, 0), (9, 0), (9, 0), (9, 0), (9, 0), (0, p1)]) rfl k)) ?_
  exact tM_write_34 hM p1 w _ h0
theorem cM_write (x1 : Int) (x2 : Int) (x3 : Int)  (w : pj_W) (r : Int × pj_W) (h : fM_write x1 x2 x3 w = some r) : pj_Cn l yX12_write cX12_write 6 (some .boolean) 2 42 true g [(26, 0), (0, x1), (0, x2), (1, x3)] w ((some (0, r.1) : Option pj_V), r.2) :=
  pj_Cn_of rfl (Nat.le_of_ble_eq_true rfl) (lls := [(26, 0), (0, x1), (0, x2), (1, x3), (9, 0), (9, 0)]) rfl (fun Go hM => tM_write hM x1 x2 x3 w (fun x => ((some (0, x.1) : Option pj_V), x.2) = ((some (0, r.1) : Option pj_V), r.2)) (fun r h => h) r h rfl)
end
