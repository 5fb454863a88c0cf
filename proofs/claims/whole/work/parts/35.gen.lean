/-! printed by wip/whole/gen.py: each method as a function of numbers and worlds, and its contract -/
section
variable {l : Launch} {g : pj_G} {n0 : Nat} {o : Option pj_V × pj_W} {ph : Bool}
noncomputable def fM_find_36  (w : pj_W) : Option (Int × pj_W) :=
  (fM_refuse 1 w).bind fun p1 => (some ((p1.1, p1.2)))
noncomputable def fM_find (x1 : Int) (x2 : Int) (w : pj_W) : Option (Int × pj_W) :=
  (fM_isFind x1 w).bind fun p1 => (if p1 = 0 then (fM_find_36 w) else (if x2 < 0 then (fM_find_36 w) else (if 2 < x2 then (fM_find_36 w) else ((fM_findRow 0 x1 w).bind fun p6 => (if 0 ≤ (pj_wr (p6 + x2)) ∧ (pj_wr (p6 + x2)) < 8400 then ((fM_gives (w 60 0 (pj_wr (p6 + x2))) w).bind fun p9 => (some ((p9.1, p9.2)))) else none)))))
theorem tM_find_36 {Go : pj_C → Prop} (hM : pj_M l yX12_find cX12_find 3 (some .int) 1 21 true g n0 o Go)  (w : pj_W)  (R : Int × pj_W → Prop) (h0 : ∀ r, R (r) → ((some (0, r.1) : Option pj_V), r.2) = o) : pj_TG R (fM_find_36  w) (Go (36, [(26, 0), (9, 0), (9, 0)], [], w)) := by
  unfold fM_find_36
  refine pj_tbind (fun p1 h2 => ?_)
  exact pj_tret (fun hr => pj_aload_n hM (pc := 36) dX12_find_36 rfl rfl (pj_iconst hM (pc := 37) dX12_find_37 (by decide) (pj_cV hM (pc := 38) (cM_refuse 1 w p1 h2) dX12_find_38 mf_X12_refuse mv_X12_refuse ml_X12_78 kc_26 rfl rfl (by decide) rfl rfl (pj_ret hM (pc := 41) dX12_find_41 ⟨_, rfl⟩ (h0 ((p1.1, p1.2)) hr) rfl))))
theorem tM_find {Go : pj_C → Prop} (hM : pj_M l yX12_find cX12_find 3 (some .int) 1 21 true g n0 o Go) (x1 : Int) (x2 : Int) (w : pj_W)  (R : Int × pj_W → Prop) (h0 : ∀ r, R (r) → ((some (0, r.1) : Option pj_V), r.2) = o) : pj_TG R (fM_find x1 x2 w) (Go (0, [(26, 0), (0, x1), (0, x2)], [], w)) := by
  unfold fM_find
  refine pj_tbind (fun p1 h2 => ?_)
  refine pj_map (fun k => pj_aload_n hM (pc := 0) dX12_find_0 rfl rfl (pj_iload_n hM (pc := 1) dX12_find_1 rfl (pj_cV hM (pc := 2) (cM_isFind x1 w p1 h2) dX12_find_2 mf_X12_isFind mv_X12_isFind ml_X12_265 kc_26 rfl rfl (by decide) rfl rfl k))) ?_
  refine pj_tif (fun h3 => ?_) (fun h3 => ?_)
  · refine pj_map (fun k => pj_if_eq_t hM (pc := 5) dX12_find_5 rfl h3 (pj_kill hM [true, false, false] (lls' := [(26, 0), (9, 0), (9, 0)]) rfl k)) ?_
    exact tM_find_36 hM w _ h0
  refine pj_map (fun k => pj_if_eq_f hM (pc := 5) 36 dX12_find_5 rfl h3 (pj_iload_n hM (pc := 8) dX12_find_8 rfl k)) ?_
  refine pj_tif (fun h4 => ?_) (fun h4 => ?_)
  · refine pj_map (fun k => pj_if_lt_t hM (pc := 9) dX12_find_9 rfl h4 (pj_kill hM [true, false, false] (lls' := [(26, 0), (9, 0), (9, 0)]) rfl k)) ?_
    exact tM_find_36 hM w _ h0
  refine pj_map (fun k => pj_if_lt_f hM (pc := 9) 36 dX12_find_9 rfl h4 (pj_iload_n hM (pc := 12) dX12_find_12 rfl (pj_iconst hM (pc := 13) dX12_find_13 (by decide) k))) ?_
  refine pj_tif (fun h5 => ?_) (fun h5 => ?_)
  · refine pj_map (fun k => pj_ic_gt_t hM (pc := 14) dX12_find_14 rfl h5 (pj_kill hM [true, false, false] (lls' := [(26, 0), (9, 0), (9, 0)]) rfl k)) ?_
    exact tM_find_36 hM w _ h0
  refine pj_tbind (fun p6 h7 => ?_)
  refine pj_tgd (fun h8 => ?_)
  refine pj_tbind (fun p9 h10 => ?_)
  exact pj_tret (fun hr => pj_ic_gt_f hM (pc := 14) 36 dX12_find_14 rfl h5 (pj_aload_n hM (pc := 17) dX12_find_17 rfl rfl (pj_aload_n hM (pc := 18) dX12_find_18 rfl rfl (pj_getF hM (pc := 19) (t := 60) dX12_find_19 fl_X12_7 (by decide) rfl rfl (pj_iconst hM (pc := 22) dX12_find_22 (by decide) (pj_iload_n hM (pc := 23) dX12_find_23 rfl (pj_cS hM (pc := 24) (cM_findRow 0 x1 w p6 h7) dX12_find_24 mf_X12_findRow ms_X12_findRow ml_X12_171 rfl rfl rfl rfl (pj_iload_n hM (pc := 27) dX12_find_27 rfl (pj_iadd hM (pc := 28) dX12_find_28 (pj_ial hM (pc := 29) dX12_find_29 ki_60 (by decide) h8 (pj_cV hM (pc := 30) (cM_gives (w 60 0 (pj_wr (p6 + x2))) w p9 h10) dX12_find_30 mf_X12_gives mv_X12_gives ml_X12_82 kc_26 rfl rfl (by decide) rfl rfl (pj_goto hM (pc := 33) dX12_find_33 rfl (pj_ret hM (pc := 41) dX12_find_41 ⟨_, rfl⟩ (h0 ((p9.1, p9.2)) hr) rfl)))))))))))))
theorem cM_find (x1 : Int) (x2 : Int)  (w : pj_W) (r : Int × pj_W) (h : fM_find x1 x2 w = some r) : pj_Cn l yX12_find cX12_find 3 (some .int) 1 21 true g [(26, 0), (0, x1), (0, x2)] w ((some (0, r.1) : Option pj_V), r.2) :=
  pj_Cn_of rfl (Nat.le_of_ble_eq_true rfl) (lls := [(26, 0), (0, x1), (0, x2)]) rfl (fun Go hM => tM_find hM x1 x2 w (fun x => ((some (0, x.1) : Option pj_V), x.2) = ((some (0, r.1) : Option pj_V), r.2)) (fun r h => h) r h rfl)
noncomputable def fM_finder_35  (w : pj_W) : Option (Int × pj_W) :=
  (fM_refuse 1 w).bind fun p1 => (some ((p1.1, p1.2)))
noncomputable def fM_finder (x1 : Int) (x2 : Int) (w : pj_W) : Option (Int × pj_W) :=
  (fM_isFinder x1 w).bind fun p1 => (if p1 = 0 then (fM_finder_35 w) else (if x2 < 0 then (fM_finder_35 w) else (if 4 < x2 then (fM_finder_35 w) else ((fM_finderRow x1 w).bind fun p6 => (if 0 ≤ (pj_wr (p6 + x2)) ∧ (pj_wr (p6 + x2)) < 8400 then ((fM_gives (w 60 0 (pj_wr (p6 + x2))) w).bind fun p9 => (some ((p9.1, p9.2)))) else none)))))
theorem tM_finder_35 {Go : pj_C → Prop} (hM : pj_M l yX12_finder cX12_finder 3 (some .int) 1 21 true g n0 o Go)  (w : pj_W)  (R : Int × pj_W → Prop) (h0 : ∀ r, R (r) → ((some (0, r.1) : Option pj_V), r.2) = o) : pj_TG R (fM_finder_35  w) (Go (35, [(26, 0), (9, 0), (9, 0)], [], w)) := by
  unfold fM_finder_35
  refine pj_tbind (fun p1 h2 => ?_)
  exact pj_tret (fun hr => pj_aload_n hM (pc := 35) dX12_finder_35 rfl rfl (pj_iconst hM (pc := 36) dX12_finder_36 (by decide) (pj_cV hM (pc := 37) (cM_refuse 1 w p1 h2) dX12_finder_37 mf_X12_refuse mv_X12_refuse ml_X12_78 kc_26 rfl rfl (by decide) rfl rfl (pj_ret hM (pc := 40) dX12_finder_40 ⟨_, rfl⟩ (h0 ((p1.1, p1.2)) hr) rfl))))
theorem tM_finder {Go : pj_C → Prop} (hM : pj_M l yX12_finder cX12_finder 3 (some .int) 1 21 true g n0 o Go) (x1 : Int) (x2 : Int) (w : pj_W)  (R : Int × pj_W → Prop) (h0 : ∀ r, R (r) → ((some (0, r.1) : Option pj_V), r.2) = o) : pj_TG R (fM_finder x1 x2 w) (Go (0, [(26, 0), (0, x1), (0, x2)], [], w)) := by
  unfold fM_finder
  refine pj_tbind (fun p1 h2 => ?_)
  refine pj_map (fun k => pj_aload_n hM (pc := 0) dX12_finder_0 rfl rfl (pj_iload_n hM (pc := 1) dX12_finder_1 rfl (pj_cV hM (pc := 2) (cM_isFinder x1 w p1 h2) dX12_finder_2 mf_X12_isFinder mv_X12_isFinder ml_X12_271 kc_26 rfl rfl (by decide) rfl rfl k))) ?_
  refine pj_tif (fun h3 => ?_) (fun h3 => ?_)
  · refine pj_map (fun k => pj_if_eq_t hM (pc := 5) dX12_finder_5 rfl h3 (pj_kill hM [true, false, false] (lls' := [(26, 0), (9, 0), (9, 0)]) rfl k)) ?_
    exact tM_finder_35 hM w _ h0
  refine pj_map (fun k => pj_if_eq_f hM (pc := 5) 35 dX12_finder_5 rfl h3 (pj_iload_n hM (pc := 8) dX12_finder_8 rfl k)) ?_
  refine pj_tif (fun h4 => ?_) (fun h4 => ?_)
  · refine pj_map (fun k => pj_if_lt_t hM (pc := 9) dX12_finder_9 rfl h4 (pj_kill hM [true, false, false] (lls' := [(26, 0), (9, 0), (9, 0)]) rfl k)) ?_
    exact tM_finder_35 hM w _ h0
  refine pj_map (fun k => pj_if_lt_f hM (pc := 9) 35 dX12_finder_9 rfl h4 (pj_iload_n hM (pc := 12) dX12_finder_12 rfl (pj_iconst hM (pc := 13) dX12_finder_13 (by decide) k))) ?_
  refine pj_tif (fun h5 => ?_) (fun h5 => ?_)
  · refine pj_map (fun k => pj_ic_gt_t hM (pc := 14) dX12_finder_14 rfl h5 (pj_kill hM [true, false, false] (lls' := [(26, 0), (9, 0), (9, 0)]) rfl k)) ?_
    exact tM_finder_35 hM w _ h0
  refine pj_tbind (fun p6 h7 => ?_)
  refine pj_tgd (fun h8 => ?_)
  refine pj_tbind (fun p9 h10 => ?_)
  exact pj_tret (fun hr => pj_ic_gt_f hM (pc := 14) 35 dX12_finder_14 rfl h5 (pj_aload_n hM (pc := 17) dX12_finder_17 rfl rfl (pj_aload_n hM (pc := 18) dX12_finder_18 rfl rfl (pj_getF hM (pc := 19) (t := 60) dX12_finder_19 fl_X12_7 (by decide) rfl rfl (pj_iload_n hM (pc := 22) dX12_finder_22 rfl (pj_cS hM (pc := 23) (cM_finderRow x1 w p6 h7) dX12_finder_23 mf_X12_finderRow ms_X12_finderRow ml_X12_274 rfl rfl rfl rfl (pj_iload_n hM (pc := 26) dX12_finder_26 rfl (pj_iadd hM (pc := 27) dX12_finder_27 (pj_ial hM (pc := 28) dX12_finder_28 ki_60 (by decide) h8 (pj_cV hM (pc := 29) (cM_gives (w 60 0 (pj_wr (p6 + x2))) w p9 h10) dX12_finder_29 mf_X12_gives mv_X12_gives ml_X12_82 kc_26 rfl rfl (by decide) rfl rfl (pj_goto hM (pc := 32) dX12_finder_32 rfl (pj_ret hM (pc := 40) dX12_finder_40 ⟨_, rfl⟩ (h0 ((p9.1, p9.2)) hr) rfl))))))))))))
theorem cM_finder (x1 : Int) (x2 : Int)  (w : pj_W) (r : Int × pj_W) (h : fM_finder x1 x2 w = some r) : pj_Cn l yX12_finder cX12_finder 3 (some .int) 1 21 true g [(26, 0), (0, x1), (0, x2)] w ((some (0, r.1) : Option pj_V), r.2) :=
  pj_Cn_of rfl (Nat.le_of_ble_eq_true rfl) (lls := [(26, 0), (0, x1), (0, x2)]) rfl (fun Go hM => tM_finder hM x1 x2 w (fun x => ((some (0, x.1) : Option pj_V), x.2) = ((some (0, r.1) : Option pj_V), r.2)) (fun r h => h) r h rfl)
noncomputable def fM_soonestOf (x1 : Int) (x2 : Int) (w : pj_W) : Option (Int) :=
  (fM_isThere x2 w).bind fun p1 => (if p1 = 0 then (some ((-1))) else ((fM_finderRow x1 w).bind fun p4 => (if 0 ≤ (pj_wr (p4 + 2)) ∧ (pj_wr (p4 + 2)) < 8400 then (if (w 60 0 (pj_wr (p4 + 2))) = 0 then (some ((-1))) else ((fM_finderRow x1 w).bind fun p8 => (if 0 ≤ (pj_wr (p8 + 3)) ∧ (pj_wr (p8 + 3)) < 8400 then ((fM_findRow 0 x2 w).bind fun p11 => (if 0 ≤ p11 ∧ p11 < 8400 then ((fM_stepsTo x1 (w 60 0 p11) w).bind fun p14 => ((fM_behindOthers x1 x2 w).bind fun p16 => (if (max (pj_wr ((w 60 0 (pj_wr (p8 + 3))) + p14)) p16) ≤ (w 60 0 3) then (some ((max (pj_wr ((w 60 0 (pj_wr (p8 + 3))) + p14)) p16))) else (some ((-1)))))) else none)) else none))) else none)))
theorem tM_soonestOf {Go : pj_C → Prop} (hM : pj_M l yX12_soonestOf cX12_soonestOf 4 (some .int) 3 68 true g n0 o Go) (x1 : Int) (x2 : Int) (w : pj_W)  (R : Int → Prop) (h0 : ∀ r, R (r) → ((some (0, r) : Option pj_V), w) = o) : pj_TG R (fM_soonestOf x1 x2 w) (Go (0, [(26, 0), (0, x1), (0, x2), (9, 0)], [], w)) := by
  unfold fM_soonestOf
  refine pj_tbind (fun p1 h2 => ?_)
  refine pj_map (fun k => pj_aload_n hM (pc := 0) dX12_soonestOf_0 rfl rfl (pj_iload_n hM (pc := 1) dX12_soonestOf_1 rfl (pj_cV hM (pc := 2) (cM_isThere x2 w p1 h2) dX12_soonestOf_2 mf_X12_isThere mv_X12_isThere ml_X12_268 kc_26 rfl rfl (by decide) rfl rfl k))) ?_
  refine pj_tif (fun h3 => ?_) (fun h3 => ?_)
  · exact pj_tret (fun hr => pj_if_eq_t hM (pc := 5) dX12_soonestOf_5 rfl h3 (pj_iconst hM (pc := 22) dX12_soonestOf_22 (by decide) (pj_ret hM (pc := 23) dX12_soonestOf_23 ⟨_, rfl⟩ (h0 ((-1)) hr) rfl)))
  refine pj_tbind (fun p4 h5 => ?_)
  refine pj_tgd (fun h6 => ?_)
  refine pj_map (fun k => pj_if_eq_f hM (pc := 5) 22 dX12_soonestOf_5 rfl h3 (pj_aload_n hM (pc := 8) dX12_soonestOf_8 rfl rfl (pj_getF hM (pc := 9) (t := 60) dX12_soonestOf_9 fl_X12_7 (by decide) rfl rfl (pj_iload_n hM (pc := 12) dX12_soonestOf_12 rfl (pj_cS hM (pc := 13) (cM_finderRow x1 w p4 h5) dX12_soonestOf_13 mf_X12_finderRow ms_X12_finderRow ml_X12_274 rfl rfl rfl rfl (pj_iconst hM (pc := 16) dX12_soonestOf_16 (by decide) (pj_iadd hM (pc := 17) dX12_soonestOf_17 (pj_ial hM (pc := 18) dX12_soonestOf_18 ki_60 (by decide) h6 k)))))))) ?_
  refine pj_tif (fun h7 => ?_) (fun h7 => ?_)
  · exact pj_tret (fun hr => pj_if_ne_f hM (pc := 19) 24 dX12_soonestOf_19 rfl (fun q => q h7) (pj_iconst hM (pc := 22) dX12_soonestOf_22 (by decide) (pj_ret hM (pc := 23) dX12_soonestOf_23 ⟨_, rfl⟩ (h0 ((-1)) hr) rfl)))
  refine pj_tbind (fun p8 h9 => ?_)
  refine pj_tgd (fun h10 => ?_)
  refine pj_tbind (fun p11 h12 => ?_)
  refine pj_tgd (fun h13 => ?_)
  refine pj_tbind (fun p14 h15 => ?_)
  refine pj_tbind (fun p16 h17 => ?_)
  refine pj_map (fun k => pj_if_ne_t hM (pc := 19) dX12_soonestOf_19 rfl h7 (pj_aload_n hM (pc := 24) dX12_soonestOf_24 rfl rfl (pj_getF hM (pc := 25) (t := 60) dX12_soonestOf_25 fl_X12_7 (by decide) rfl rfl (pj_iload_n hM (pc := 28) dX12_soonestOf_28 rfl (pj_cS hM (pc := 29) (cM_finderRow x1 w p8 h9) dX12_soonestOf_29 mf_X12_finderRow ms_X12_finderRow ml_X12_274 rfl rfl rfl rfl (pj_iconst hM (pc := 32) dX12_soonestOf_32 (by decide) (pj_iadd hM (pc := 33) dX12_soonestOf_33 (pj_ial hM (pc := 34) dX12_soonestOf_34 ki_60 (by decide) h10 (pj_aload_n hM (pc := 35) dX12_soonestOf_35 rfl rfl (pj_iload_n hM (pc := 36) dX12_soonestOf_36 rfl (pj_aload_n hM (pc := 37) dX12_soonestOf_37 rfl rfl (pj_getF hM (pc := 38) (t := 60) dX12_soonestOf_38 fl_X12_7 (by decide) rfl rfl (pj_iconst hM (pc := 41) dX12_soonestOf_41 (by decide) (pj_iload_n hM (pc := 42) dX12_soonestOf_42 rfl (pj_cS hM (pc := 43) (cM_findRow 0 x2 w p11 h12) dX12_soonestOf_43 mf_X12_findRow ms_X12_findRow ml_X12_171 rfl rfl rfl rfl (pj_ial hM (pc := 46) dX12_soonestOf_46 ki_60 (by decide) h13 (pj_cV hM (pc := 47) (cM_stepsTo x1 (w 60 0 p11) w p14 h15) dX12_soonestOf_47 mf_X12_stepsTo mv_X12_stepsTo ml_X12_283 kc_26 rfl rfl (by decide) rfl rfl (pj_iadd hM (pc := 50) dX12_soonestOf_50 (pj_aload_n hM (pc := 51) dX12_soonestOf_51 rfl rfl (pj_iload_n hM (pc := 52) dX12_soonestOf_52 rfl (pj_iload_n hM (pc := 53) dX12_soonestOf_53 rfl (pj_cV hM (pc := 54) (cM_behindOthers x1 x2 w p16 h17) dX12_soonestOf_54 mf_X12_behindOthers mv_X12_behindOthers ml_X12_387 kc_26 rfl rfl (by decide) rfl rfl (pj_mmax hM (pc := 57) dX12_soonestOf_57 mf_J9_max_7cf53 ms_J9_max_7cf53 ml_X12_375 rfl (pj_istore_n hM (pc := 60) dX12_soonestOf_60 (by decide) (lls' := [(26, 0), (0, x1), (0, x2), (0, (max (pj_wr ((w 60 0 (pj_wr (p8 + 3))) + p14)) p16))]) rfl (pj_iload_n hM (pc := 61) dX12_soonestOf_61 rfl (pj_aload_n hM (pc := 62) dX12_soonestOf_62 rfl rfl (pj_getF hM (pc := 63) (t := 60) dX12_soonestOf_63 fl_X12_7 (by decide) rfl rfl (pj_iconst hM (pc := 66) dX12_soonestOf_66 (by decide) (pj_ial hM (pc := 67) dX12_soonestOf_67 ki_60 (by decide) (by decide) k))))))))))))))))))))))))))))) ?_
  refine pj_tif (fun h18 => ?_) (fun h18 => ?_)
  · exact pj_tret (fun hr => pj_ic_le_t hM (pc := 68) dX12_soonestOf_68 rfl h18 (pj_iload_n hM (pc := 75) dX12_soonestOf_75 rfl (pj_ret hM (pc := 76) dX12_soonestOf_76 ⟨_, rfl⟩ (h0 ((max (pj_wr ((w 60 0 (pj_wr (p8 + 3))) + p14)) p16)) hr) rfl)))
  exact pj_tret (fun hr => pj_ic_le_f hM (pc := 68) 75 dX12_soonestOf_68 rfl h18 (pj_iconst hM (pc := 71) dX12_soonestOf_71 (by decide) (pj_goto hM (pc := 72) dX12_soonestOf_72 rfl (pj_ret hM (pc := 76) dX12_soonestOf_76 ⟨_, rfl⟩ (h0 ((-1)) hr) rfl))))
theorem cM_soonestOf (x1 : Int) (x2 : Int)  (w : pj_W) (r : Int) (h : fM_soonestOf x1 x2 w = some r) : pj_Cn l yX12_soonestOf cX12_soonestOf 4 (some .int) 3 68 true g [(26, 0), (0, x1), (0, x2)] w ((some (0, r) : Option pj_V), w) :=
  pj_Cn_of rfl (Nat.le_of_ble_eq_true rfl) (lls := [(26, 0), (0, x1), (0, x2), (9, 0)]) rfl (fun Go hM => tM_soonestOf hM x1 x2 w (fun x => ((some (0, x) : Option pj_V), w) = ((some (0, r) : Option pj_V), w)) (fun r h => h) r h rfl)
noncomputable def fM_gain_16  (w : pj_W) : Option (Int × pj_W) :=
  (fM_refuse 1 w).bind fun p1 => (some ((p1.1, p1.2)))
noncomputable def fM_gain (x1 : Int) (x2 : Int) (w : pj_W) : Option (Int × pj_W) :=
  (fM_isFinder x1 w).bind fun p1 => (if p1 = 0 then (fM_gain_16 w) else ((fM_isFind x2 w).bind fun p4 => (if p4 = 0 then (fM_gain_16 w) else ((fM_soonestOf x1 x2 w).bind fun p7 => (if p7 = (-1) then ((fM_refuse 7 w).bind fun p10 => (some ((p10.1, p10.2)))) else ((fM_findRow 0 x2 w).bind fun p12 => (if 0 ≤ (pj_wr (p12 + 1)) ∧ (pj_wr (p12 + 1)) < 8400 then ((fM_shareOf x1 x2 w).bind fun p15 => ((fM_gives (pj_wr ((w 60 0 (pj_wr (p12 + 1))) - p15)) w).bind fun p17 => (some ((p17.1, p17.2))))) else none)))))))
theorem tM_gain_16 {Go : pj_C → Prop} (hM : pj_M l yX12_gain cX12_gain 3 (some .int) 5 114 true g n0 o Go)  (w : pj_W)  (R : Int × pj_W → Prop) (h0 : ∀ r, R (r) → ((some (0, r.1) : Option pj_V), r.2) = o) : pj_TG R (fM_gain_16  w) (Go (16, [(26, 0), (9, 0), (9, 0)], [], w)) := by
  unfold fM_gain_16
  refine pj_tbind (fun p1 h2 => ?_)
  exact pj_tret (fun hr => pj_aload_n hM (pc := 16) dX12_gain_16 rfl rfl (pj_iconst hM (pc := 17) dX12_gain_17 (by decide) (pj_cV hM (pc := 18) (cM_refuse 1 w p1 h2) dX12_gain_18 mf_X12_refuse mv_X12_refuse ml_X12_78 kc_26 rfl rfl (by decide) rfl rfl (pj_ret hM (pc := 21) dX12_gain_21 ⟨_, rfl⟩ (h0 ((p1.1, p1.2)) hr) rfl))))
theorem tM_gain {Go : pj_C → Prop} (hM : pj_M l yX12_gain cX12_gain 3 (some .int) 5 114 true g n0 o Go) (x1 : Int) (x2 : Int) (w : pj_W)  (R : Int × pj_W → Prop) (h0 : ∀ r, R (r) → ((some (0, r.1) : Option pj_V), r.2) = o) : pj_TG R (fM_gain x1 x2 w) (Go (0, [(26, 0), (0, x1), (0, x2)], [], w)) := by
  unfold fM_gain
  refine pj_tbind (fun p1 h2 => ?_)
  refine pj_map (fun k => pj_aload_n hM (pc := 0) dX12_gain_0 rfl rfl (pj_iload_n hM (pc := 1) dX12_gain_1 rfl (pj_cV hM (pc := 2) (cM_isFinder x1 w p1 h2) dX12_gain_2 mf_X12_isFinder mv_X12_isFinder ml_X12_271 kc_26 rfl rfl (by decide) rfl rfl k))) ?_
  refine pj_tif (fun h3 => ?_) (fun h3 => ?_)
  · refine pj_map (fun k => pj_if_eq_t hM (pc := 5) dX12_gain_5 rfl h3 (pj_kill hM [true, false, false] (lls' := [(26, 0), (9, 0), (9, 0)]) rfl k)) ?_
    exact tM_gain_16 hM w _ h0
  refine pj_tbind (fun p4 h5 => ?_)
  refine pj_map (fun k => pj_if_eq_f hM (pc := 5) 16 dX12_gain_5 rfl h3 (pj_aload_n hM (pc := 8) dX12_gain_8 rfl rfl (pj_iload_n hM (pc := 9) dX12_gain_9 rfl (pj_cV hM (pc := 10) (cM_isFind x2 w p4 h5) dX12_gain_10 mf_X12_isFind mv_X12_isFind ml_X12_265 kc_26 rfl rfl (by decide) rfl rfl k)))) ?_
  refine pj_tif (fun h6 => ?_) (fun h6 => ?_)
  · refine pj_map (fun k => pj_if_ne_f hM (pc := 13) 22 dX12_gain_13 rfl (fun q => q h6) (pj_kill hM [true, false, false] (lls' := [(26, 0), (9, 0), (9, 0)]) rfl k)) ?_
    exact tM_gain_16 hM w _ h0
  refine pj_tbind (fun p7 h8 => ?_)
  refine pj_map (fun k => pj_if_ne_t hM (pc := 13) dX12_gain_13 rfl h6 (pj_aload_n hM (pc := 22) dX12_gain_22 rfl rfl (pj_iload_n hM (pc := 23) dX12_gain_23 rfl (pj_iload_n hM (pc := 24) dX12_gain_24 rfl (pj_cV hM (pc := 25) (cM_soonestOf x1 x2 w p7 h8) dX12_gain_25 mf_X12_soonestOf mv_X12_soonestOf ml_X12_390 kc_26 rfl rfl (by decide) rfl rfl (pj_iconst hM (pc := 28) dX12_gain_28 (by decide) k)))))) ?_
  refine pj_tif (fun h9 => ?_) (fun h9 => ?_)
  · refine pj_tbind (fun p10 h11 => ?_)
    exact pj_tret (fun hr => pj_ic_ne_f hM (pc := 29) 41 dX12_gain_29 rfl (fun q => q h9) (pj_aload_n hM (pc := 32) dX12_gain_32 rfl rfl (pj_bipush hM (pc := 33) dX12_gain_33 (by decide) (pj_cV hM (pc := 35) (cM_refuse 7 w p10 h11) dX12_gain_35 mf_X12_refuse mv_X12_refuse ml_X12_78 kc_26 rfl rfl (by decide) rfl rfl (pj_goto hM (pc := 38) dX12_gain_38 rfl (pj_ret hM (pc := 64) dX12_gain_64 ⟨_, rfl⟩ (h0 ((p10.1, p10.2)) hr) rfl))))))
  refine pj_tbind (fun p12 h13 => ?_)
  refine pj_tgd (fun h14 => ?_)
  refine pj_tbind (fun p15 h16 => ?_)
  refine pj_tbind (fun p17 h18 => ?_)
  exact pj_tret (fun hr => pj_ic_ne_t hM (pc := 29) dX12_gain_29 rfl h9 (pj_aload_n hM (pc := 41) dX12_gain_41 rfl rfl (pj_aload_n hM (pc := 42) dX12_gain_42 rfl rfl (pj_getF hM (pc := 43) (t := 60) dX12_gain_43 fl_X12_7 (by decide) rfl rfl (pj_iconst hM (pc := 46) dX12_gain_46 (by decide) (pj_iload_n hM (pc := 47) dX12_gain_47 rfl (pj_cS hM (pc := 48) (cM_findRow 0 x2 w p12 h13) dX12_gain_48 mf_X12_findRow ms_X12_findRow ml_X12_171 rfl rfl rfl rfl (pj_iconst hM (pc := 51) dX12_gain_51 (by decide) (pj_iadd hM (pc := 52) dX12_gain_52 (pj_ial hM (pc := 53) dX12_gain_53 ki_60 (by decide) h14 (pj_aload_n hM (pc := 54) dX12_gain_54 rfl rfl (pj_iload_n hM (pc := 55) dX12_gain_55 rfl (pj_iload_n hM (pc := 56) dX12_gain_56 rfl (pj_cV hM (pc := 57) (cM_shareOf x1 x2 w p15 h16) dX12_gain_57 mf_X12_shareOf mv_X12_shareOf ml_X12_346 kc_26 rfl rfl (by decide) rfl rfl (pj_isub hM (pc := 60) dX12_gain_60 (pj_cV hM (pc := 61) (cM_gives (pj_wr ((w 60 0 (pj_wr (p12 + 1))) - p15)) w p17 h18) dX12_gain_61 mf_X12_gives mv_X12_gives ml_X12_82 kc_26 rfl rfl (by decide) rfl rfl (pj_ret hM (pc := 64) dX12_gain_64 ⟨_, rfl⟩ (h0 ((p17.1, p17.2)) hr) rfl)))))))))))))))))
theorem cM_gain (x1 : Int) (x2 : Int)  (w : pj_W) (r : Int × pj_W) (h : fM_gain x1 x2 w = some r) : pj_Cn l yX12_gain cX12_gain 3 (some .int) 5 114 true g [(26, 0), (0, x1), (0, x2)] w ((some (0, r.1) : Option pj_V), r.2) :=
  pj_Cn_of rfl (Nat.le_of_ble_eq_true rfl) (lls := [(26, 0), (0, x1), (0, x2)]) rfl (fun Go hM => tM_gain hM x1 x2 w (fun x => ((some (0, x.1) : Option pj_V), x.2) = ((some (0, r.1) : Option pj_V), r.2)) (fun r h => h) r h rfl)
noncomputable def fM_mayTo (x1 : Int) (x2 : Int) (w : pj_W) : Option (Int) :=
  (fM_finderRow x1 w).bind fun p1 => (if 0 ≤ (pj_wr (p1 + 3)) ∧ (pj_wr (p1 + 3)) < 8400 then (if (w 60 0 3) < (pj_wr ((w 60 0 (pj_wr (p1 + 3))) + x2)) then (some (0)) else (some (1))) else none)
theorem tM_mayTo {Go : pj_C → Prop} (hM : pj_M l yX12_mayTo cX12_mayTo 3 (some .boolean) 1 20 true g n0 o Go) (x1 : Int) (x2 : Int) (w : pj_W)  (R : Int → Prop) (h0 : ∀ r, R (r) → ((some (0, r) : Option pj_V), w) = o) : pj_TG R (fM_mayTo x1 x2 w) (Go (0, [(26, 0), (0, x1), (0, x2)], [], w)) := by
  unfold fM_mayTo
  refine pj_tbind (fun p1 h2 => ?_)
  refine pj_tgd (fun h3 => ?_)
  refine pj_map (fun k => pj_aload_n hM (pc := 0) dX12_mayTo_0 rfl rfl (pj_getF hM (pc := 1) (t := 60) dX12_mayTo_1 fl_X12_7 (by decide) rfl rfl (pj_iload_n hM (pc := 4) dX12_mayTo_4 rfl (pj_cS hM (pc := 5) (cM_finderRow x1 w p1 h2) dX12_mayTo_5 mf_X12_finderRow ms_X12_finderRow ml_X12_274 rfl rfl rfl rfl (pj_iconst hM (pc := 8) dX12_mayTo_8 (by decide) (pj_iadd hM (pc := 9) dX12_mayTo_9 (pj_ial hM (pc := 10) dX12_mayTo_10 ki_60 (by decide) h3 (pj_iload_n hM (pc := 11) dX12_mayTo_11 rfl (pj_iadd hM (pc := 12) dX12_mayTo_12 (pj_aload_n hM (pc := 13) dX12_mayTo_13 rfl rfl (pj_getF hM (pc := 14) (t := 60) dX12_mayTo_14 fl_X12_7 (by decide) rfl rfl (pj_iconst hM (pc := 17) dX12_mayTo_17 (by decide) (pj_ial hM (pc := 18) dX12_mayTo_18 ki_60 (by decide) (by decide) k))))))))))))) ?_
  refine pj_tif (fun h4 => ?_) (fun h4 => ?_)
  · exact pj_tret (fun hr => pj_ic_gt_t hM (pc := 19) dX12_mayTo_19 rfl h4 (pj_iconst hM (pc := 26) dX12_mayTo_26 (by decide) (pj_ret hM (pc := 27) dX12_mayTo_27 ⟨_, rfl, Or.inl rfl⟩ (h0 (0) hr) rfl)))
  exact pj_tret (fun hr => pj_ic_gt_f hM (pc := 19) 26 dX12_mayTo_19 rfl h4 (pj_iconst hM (pc := 22) dX12_mayTo_22 (by decide) (pj_goto hM (pc := 23) dX12_mayTo_23 rfl (pj_ret hM (pc := 27) dX12_mayTo_27 ⟨_, rfl, Or.inr rfl⟩ (h0 (1) hr) rfl))))
theorem cM_mayTo (x1 : Int) (x2 : Int)  (w : pj_W) (r : Int) (h : fM_mayTo x1 x2 w = some r) : pj_Cn l yX12_mayTo cX12_mayTo 3 (some .boolean) 1 20 true g [(26, 0), (0, x1), (0, x2)] w ((some (0, r) : Option pj_V), w) :=
  pj_Cn_of rfl (Nat.le_of_ble_eq_true rfl) (lls := [(26, 0), (0, x1), (0, x2)]) rfl (fun Go hM => tM_mayTo hM x1 x2 w (fun x => ((some (0, x) : Option pj_V), w) = ((some (0, r) : Option pj_V), w)) (fun r h => h) r h rfl)
noncomputable def fM_went (x1 : Int) (x2 : Int) (w : pj_W) : Option (Int × pj_W) :=
  (fM_stepsTo x1 x2 w).bind fun p1 => ((fM_mayTo x1 p1 w).bind fun p3 => (if p3 = 0 then (some ((0, w))) else ((fM_finderRow x1 w).bind fun p6 => (if 0 ≤ (pj_wr (p6 + 3)) ∧ (pj_wr (p6 + 3)) < 8400 then ((fM_stepsTo x1 x2 w).bind fun p9 => ((fM_finderRow x1 (pj_set w 60 0 (pj_wr (p6 + 3)) (pj_wr ((w 60 0 (pj_wr (p6 + 3))) + p9)))).bind fun p11 => (if 0 ≤ p11 ∧ p11 < 8400 then ((some (pj_set (pj_set w 60 0 (pj_wr (p6 + 3)) (pj_wr ((w 60 0 (pj_wr (p6 + 3))) + p9))) 60 0 p11 x2)).bind fun w14 => (some ((1, w14)))) else none))) else none))))
theorem tM_went {Go : pj_C → Prop} (hM : pj_M l yX12_went cX12_went 3 (some .boolean) 2 43 true g n0 o Go) (x1 : Int) (x2 : Int) (w : pj_W)  (R : Int × pj_W → Prop) (h0 : ∀ r, R (r) → ((some (0, r.1) : Option pj_V), r.2) = o) : pj_TG R (fM_went x1 x2 w) (Go (0, [(26, 0), (0, x1), (0, x2)], [], w)) := by
  unfold fM_went
  refine pj_tbind (fun p1 h2 => ?_)
  refine pj_tbind (fun p3 h4 => ?_)
  refine pj_map (fun k => pj_aload_n hM (pc := 0) dX12_went_0 rfl rfl (pj_iload_n hM (pc := 1) dX12_went_1 rfl (pj_aload_n hM (pc := 2) dX12_went_2 rfl rfl (pj_iload_n hM (pc := 3) dX12_went_3 rfl (pj_iload_n hM (pc := 4) dX12_went_4 rfl (pj_cV hM (pc := 5) (cM_stepsTo x1 x2 w p1 h2) dX12_went_5 mf_X12_stepsTo mv_X12_stepsTo ml_X12_283 kc_26 rfl rfl (by decide) rfl rfl (pj_cV hM (pc := 8) (cM_mayTo x1 p1 w p3 h4) dX12_went_8 mf_X12_mayTo mv_X12_mayTo ml_X12_286 kc_26 rfl rfl (by decide) rfl rfl k))))))) ?_
  refine pj_tif (fun h5 => ?_) (fun h5 => ?_)
  · exact pj_tret (fun hr => pj_if_ne_f hM (pc := 11) 16 dX12_went_11 rfl (fun q => q h5) (pj_iconst hM (pc := 14) dX12_went_14 (by decide) (pj_ret hM (pc := 15) dX12_went_15 ⟨_, rfl, Or.inl rfl⟩ (h0 ((0, w)) hr) rfl)))
  refine pj_tbind (fun p6 h7 => ?_)
  refine pj_tgd (fun h8 => ?_)
  refine pj_tbind (fun p9 h10 => ?_)
  refine pj_tbind (fun p11 h12 => ?_)
  refine pj_tgd (fun h13 => ?_)
  refine pj_map (fun k => pj_if_ne_t hM (pc := 11) dX12_went_11 rfl h5 (pj_aload_n hM (pc := 16) dX12_went_16 rfl rfl (pj_getF hM (pc := 17) (t := 60) dX12_went_17 fl_X12_7 (by decide) rfl rfl (pj_iload_n hM (pc := 20) dX12_went_20 rfl (pj_cS hM (pc := 21) (cM_finderRow x1 w p6 h7) dX12_went_21 mf_X12_finderRow ms_X12_finderRow ml_X12_274 rfl rfl rfl rfl (pj_iconst hM (pc := 24) dX12_went_24 (by decide) (pj_iadd hM (pc := 25) dX12_went_25 (pj_dup2 hM (pc := 26) dX12_went_26 (by decide) (by decide) (pj_ial hM (pc := 27) dX12_went_27 ki_60 (by decide) h8 (pj_aload_n hM (pc := 28) dX12_went_28 rfl rfl (pj_iload_n hM (pc := 29) dX12_went_29 rfl (pj_iload_n hM (pc := 30) dX12_went_30 rfl (pj_cV hM (pc := 31) (cM_stepsTo x1 x2 w p9 h10) dX12_went_31 mf_X12_stepsTo mv_X12_stepsTo ml_X12_283 kc_26 rfl rfl (by decide) rfl rfl (pj_iadd hM (pc := 34) dX12_went_34 (pj_ias hM (pc := 35) dX12_went_35 ki_60 (by decide) h8 (pj_aload_n hM (pc := 36) dX12_went_36 rfl rfl (pj_getF hM (pc := 37) (t := 60) dX12_went_37 fl_X12_7 (by decide) rfl rfl (pj_iload_n hM (pc := 40) dX12_went_40 rfl (pj_cS hM (pc := 41) (cM_finderRow x1 (pj_set w 60 0 (pj_wr (p6 + 3)) (pj_wr ((w 60 0 (pj_wr (p6 + 3))) + p9))) p11 h12) dX12_went_41 mf_X12_finderRow ms_X12_finderRow ml_X12_274 rfl rfl rfl rfl (pj_iload_n hM (pc := 44) dX12_went_44 rfl (pj_ias hM (pc := 45) dX12_went_45 ki_60 (by decide) h13 k))))))))))))))))))))) ?_
  refine pj_tlet (fun w14 => Go (46, [(26, 0), (0, x1), (0, x2)], [], w14)) (fun w14 => ?_)
  exact pj_tret (fun hr => pj_iconst hM (pc := 46) dX12_went_46 (by decide) (pj_ret hM (pc := 47) dX12_went_47 ⟨_, rfl, Or.inr rfl⟩ (h0 ((1, w14)) hr) rfl))
theorem cM_went (x1 : Int) (x2 : Int)  (w : pj_W) (r : Int × pj_W) (h : fM_went x1 x2 w = some r) : pj_Cn l yX12_went cX12_went 3 (some .boolean) 2 43 true g [(26, 0), (0, x1), (0, x2)] w ((some (0, r.1) : Option pj_V), r.2) :=
  pj_Cn_of rfl (Nat.le_of_ble_eq_true rfl) (lls := [(26, 0), (0, x1), (0, x2)]) rfl (fun Go hM => tM_went hM x1 x2 w (fun x => ((some (0, x.1) : Option pj_V), x.2) = ((some (0, r.1) : Option pj_V), r.2)) (fun r h => h) r h rfl)
noncomputable def fM_go_26  (w : pj_W) : Option (Int × pj_W) :=
  (fM_refuse 1 w).bind fun p1 => (some ((p1.1, p1.2)))
noncomputable def fM_go (x1 : Int) (x2 : Int) (w : pj_W) : Option (Int × pj_W) :=
  (fM_isFinder x1 w).bind fun p1 => (if p1 = 0 then (fM_go_26 w) else ((fM_isFrom x2 0 (pj_wl ((w 60 0 0) - 1)) w).bind fun p4 => (if p4 = 0 then (fM_go_26 w) else ((fM_went x1 x2 w).bind fun p7 => (if p7.1 = 0 then ((fM_refuse 7 p7.2).bind fun p10 => (some ((p10.1, p10.2)))) else ((fM_finderRow x1 p7.2).bind fun p12 => (if 0 ≤ (pj_wr (p12 + 3)) ∧ (pj_wr (p12 + 3)) < 8400 then ((fM_gives (p7.2 60 0 (pj_wr (p12 + 3))) p7.2).bind fun p15 => (some ((p15.1, p15.2)))) else none)))))))
theorem tM_go_26 {Go : pj_C → Prop} (hM : pj_M l yX12_go cX12_go 3 (some .int) 3 65 true g n0 o Go)  (w : pj_W)  (R : Int × pj_W → Prop) (h0 : ∀ r, R (r) → ((some (0, r.1) : Option pj_V), r.2) = o) : pj_TG R (fM_go_26  w) (Go (26, [(26, 0), (9, 0), (9, 0)], [], w)) := by
  unfold fM_go_26
  refine pj_tbind (fun p1 h2 => ?_)
  exact pj_tret (fun hr => pj_aload_n hM (pc := 26) dX12_go_26 rfl rfl (pj_iconst hM (pc := 27) dX12_go_27 (by decide) (pj_cV hM (pc := 28) (cM_refuse 1 w p1 h2) dX12_go_28 mf_X12_refuse mv_X12_refuse ml_X12_78 kc_26 rfl rfl (by decide) rfl rfl (pj_ret hM (pc := 31) dX12_go_31 ⟨_, rfl⟩ (h0 ((p1.1, p1.2)) hr) rfl))))
theorem tM_go {Go : pj_C → Prop} (hM : pj_M l yX12_go cX12_go 3 (some .int) 3 65 true g n0 o Go) (x1 : Int) (x2 : Int) (w : pj_W)  (R : Int × pj_W → Prop) (h0 : ∀ r, R (r) → ((some (0, r.1) : Option pj_V), r.2) = o) : pj_TG R (fM_go x1 x2 w) (Go (0, [(26, 0), (0, x1), (0, x2)], [], w)) := by
  unfold fM_go
  refine pj_tbind (fun p1 h2 => ?_)
  refine pj_map (fun k => pj_aload_n hM (pc := 0) dX12_go_0 rfl rfl (pj_iload_n hM (pc := 1) dX12_go_1 rfl (pj_cV hM (pc := 2) (cM_isFinder x1 w p1 h2) dX12_go_2 mf_X12_isFinder mv_X12_isFinder ml_X12_271 kc_26 rfl rfl (by decide) rfl rfl k))) ?_
  refine pj_tif (fun h3 => ?_) (fun h3 => ?_)
  · refine pj_map (fun k => pj_if_eq_t hM (pc := 5) dX12_go_5 rfl h3 (pj_kill hM [true, false, false] (lls' := [(26, 0), (9, 0), (9, 0)]) rfl k)) ?_
    exact tM_go_26 hM w _ h0
  refine pj_tbind (fun p4 h5 => ?_)
  refine pj_map (fun k => pj_if_eq_f hM (pc := 5) 26 dX12_go_5 rfl h3 (pj_iload_n hM (pc := 8) dX12_go_8 rfl (pj_i2l hM (pc := 9) dX12_go_9 (pj_lconst hM (pc := 10) (z := 0) dX12_go_10 rfl (by decide) (pj_aload_n hM (pc := 11) dX12_go_11 rfl rfl (pj_getF hM (pc := 12) (t := 60) dX12_go_12 fl_X12_7 (by decide) rfl rfl (pj_iconst hM (pc := 15) dX12_go_15 (by decide) (pj_ial hM (pc := 16) dX12_go_16 ki_60 (by decide) (by decide) (pj_i2l hM (pc := 17) dX12_go_17 (pj_lconst hM (pc := 18) (z := 1) dX12_go_18 rfl (by decide) (pj_lsub hM (pc := 19) dX12_go_19 (pj_cS hM (pc := 20) (cM_isFrom x2 0 (pj_wl ((w 60 0 0) - 1)) w p4 h5) dX12_go_20 mf_X12_isFrom ms_X12_isFrom ml_X12_289 rfl rfl rfl rfl k)))))))))))) ?_
  refine pj_tif (fun h6 => ?_) (fun h6 => ?_)
  · refine pj_map (fun k => pj_if_ne_f hM (pc := 23) 32 dX12_go_23 rfl (fun q => q h6) (pj_kill hM [true, false, false] (lls' := [(26, 0), (9, 0), (9, 0)]) rfl k)) ?_
    exact tM_go_26 hM w _ h0
  refine pj_tbind (fun p7 h8 => ?_)
  refine pj_map (fun k => pj_if_ne_t hM (pc := 23) dX12_go_23 rfl h6 (pj_aload_n hM (pc := 32) dX12_go_32 rfl rfl (pj_iload_n hM (pc := 33) dX12_go_33 rfl (pj_iload_n hM (pc := 34) dX12_go_34 rfl (pj_cV hM (pc := 35) (cM_went x1 x2 w p7 h8) dX12_go_35 mf_X12_went mv_X12_went ml_X12_293 kc_26 rfl rfl (by decide) rfl rfl k))))) ?_
  refine pj_tif (fun h9 => ?_) (fun h9 => ?_)
  · refine pj_tbind (fun p10 h11 => ?_)
    exact pj_tret (fun hr => pj_if_eq_t hM (pc := 38) dX12_go_38 rfl h9 (pj_aload_n hM (pc := 59) dX12_go_59 rfl rfl (pj_bipush hM (pc := 60) dX12_go_60 (by decide) (pj_cV hM (pc := 62) (cM_refuse 7 p7.2 p10 h11) dX12_go_62 mf_X12_refuse mv_X12_refuse ml_X12_78 kc_26 rfl rfl (by decide) rfl rfl (pj_ret hM (pc := 65) dX12_go_65 ⟨_, rfl⟩ (h0 ((p10.1, p10.2)) hr) rfl)))))
  refine pj_tbind (fun p12 h13 => ?_)
  refine pj_tgd (fun h14 => ?_)
  refine pj_tbind (fun p15 h16 => ?_)
  exact pj_tret (fun hr => pj_if_eq_f hM (pc := 38) 59 dX12_go_38 rfl h9 (pj_aload_n hM (pc := 41) dX12_go_41 rfl rfl (pj_aload_n hM (pc := 42) dX12_go_42 rfl rfl (pj_getF hM (pc := 43) (t := 60) dX12_go_43 fl_X12_7 (by decide) rfl rfl (pj_iload_n hM (pc := 46) dX12_go_46 rfl (pj_cS hM (pc := 47) (cM_finderRow x1 p7.2 p12 h13) dX12_go_47 mf_X12_finderRow ms_X12_finderRow ml_X12_274 rfl rfl rfl rfl (pj_iconst hM (pc := 50) dX12_go_50 (by decide) (pj_iadd hM (pc := 51) dX12_go_51 (pj_ial hM (pc := 52) dX12_go_52 ki_60 (by decide) h14 (pj_cV hM (pc := 53) (cM_gives (p7.2 60 0 (pj_wr (p12 + 3))) p7.2 p15 h16) dX12_go_53 mf_X12_gives mv_X12_gives ml_X12_82 kc_26 rfl rfl (by decide) rfl rfl (pj_goto hM (pc := 56) dX12_go_56 rfl (pj_ret hM (pc := 65) dX12_go_65 ⟨_, rfl⟩ (h0 ((p15.1, p15.2)) hr) rfl))))))))))))
theorem cM_go (x1 : Int) (x2 : Int)  (w : pj_W) (r : Int × pj_W) (h : fM_go x1 x2 w = some r) : pj_Cn l yX12_go cX12_go 3 (some .int) 3 65 true g [(26, 0), (0, x1), (0, x2)] w ((some (0, r.1) : Option pj_V), r.2) :=
  pj_Cn_of rfl (Nat.le_of_ble_eq_true rfl) (lls := [(26, 0), (0, x1), (0, x2)]) rfl (fun Go hM => tM_go hM x1 x2 w (fun x => ((some (0, x.1) : Option pj_V), x.2) = ((some (0, r.1) : Option pj_V), r.2)) (fun r h => h) r h rfl)
noncomputable def fM_goes_32b (x1 : Int) (x3 : Int) (x4 : Int) (w : pj_W) : Option ((Int × pj_W) ⊕ (pj_W)) :=
  if 0 ≤ (pj_wr (x3 + 2)) ∧ (pj_wr (x3 + 2)) < 8400 then (if (w 60 0 (pj_wr (x3 + 2))) ≤ x4 then (some (Sum.inr (w))) else ((fM_pebbleRow 0 x1 x4 w).bind fun p3 => ((fM_pebbleRow 0 x1 (pj_wr (x4 + 1)) w).bind fun p5 => (if 0 ≤ p5 ∧ p5 < 8400 then (if 0 ≤ p3 ∧ p3 < 8400 then ((fM_pebbleRow 0 x1 x4 (pj_set w 60 0 p3 (w 60 0 p5))).bind fun p9 => ((fM_pebbleRow 0 x1 (pj_wr (x4 + 1)) (pj_set w 60 0 p3 (w 60 0 p5))).bind fun p11 => (if 0 ≤ (pj_wr (p11 + 1)) ∧ (pj_wr (p11 + 1)) < 8400 then (if 0 ≤ (pj_wr (p9 + 1)) ∧ (pj_wr (p9 + 1)) < 8400 then ((some (pj_set (pj_set w 60 0 p3 (w 60 0 p5)) 60 0 (pj_wr (p9 + 1)) ((pj_set w 60 0 p3 (w 60 0 p5)) 60 0 (pj_wr (p11 + 1))))).bind fun w15 => (some (Sum.inl ((pj_wr (x4 + 1)), w15)))) else none) else none))) else none) else none)))) else none
noncomputable def fM_goes_32 (x1 : Int) (x3 : Int) (s : (Int × pj_W)) : Option (pj_W) := pj_Lp (fun s : (Int × pj_W) => fM_goes_32b x1 x3 s.1 s.2) s
noncomputable def fM_goes (x1 : Int) (x2 : Int) (w : pj_W) : Option (pj_W) :=
  (fM_findRow 0 x1 w).bind fun p1 => (if 0 ≤ (pj_wr (p1 + 2)) ∧ (pj_wr (p1 + 2)) < 8400 then ((some (pj_set (pj_set w 60 0 (pj_wr (p1 + 2)) (pj_wr ((w 60 0 (pj_wr (p1 + 2))) - 1))) 60 0 8 (pj_wr (((pj_set w 60 0 (pj_wr (p1 + 2)) (pj_wr ((w 60 0 (pj_wr (p1 + 2))) - 1))) 60 0 8) - 1)))).bind fun w4 => (fM_goes_32 x1 p1 (x2, w4))) else none)
theorem tM_goes_32b {Go : pj_C → Prop} (hM : pj_M l yX12_goes cX12_goes 5 none 1 22 true g n0 o Go) (x1 : Int) (x3 : Int) (x4 : Int) (w : pj_W)  (R : (Int × pj_W) ⊕ (pj_W) → Prop) (h0 : ∀ r, R (Sum.inr (r)) → ((none : Option pj_V), r) = o) (hk32 : ∀ s, R (Sum.inl s) → Go (32, [(26, 0), (0, x1), (9, 0), (0, x3), (0, s.1)], [], s.2)) : pj_TG R (fM_goes_32b x1 x3 x4 w) (Go (32, [(26, 0), (0, x1), (9, 0), (0, x3), (0, x4)], [], w)) := by
  unfold fM_goes_32b
  refine pj_tgd (fun h1 => ?_)
  refine pj_map (fun k => pj_iload hM (pc := 32) dX12_goes_32 rfl (pj_aload_n hM (pc := 34) dX12_goes_34 rfl rfl (pj_getF hM (pc := 35) (t := 60) dX12_goes_35 fl_X12_7 (by decide) rfl rfl (pj_iload_n hM (pc := 38) dX12_goes_38 rfl (pj_iconst hM (pc := 39) dX12_goes_39 (by decide) (pj_iadd hM (pc := 40) dX12_goes_40 (pj_ial hM (pc := 41) dX12_goes_41 ki_60 (by decide) h1 k))))))) ?_
  refine pj_tif (fun h2 => ?_) (fun h2 => ?_)
  · exact pj_tret (fun hr => pj_ic_ge_t hM (pc := 42) dX12_goes_42 rfl h2 (pj_ret hM (pc := 107) dX12_goes_107 rfl (h0 (w) hr) rfl))
  refine pj_tbind (fun p3 h4 => ?_)
  refine pj_tbind (fun p5 h6 => ?_)
  refine pj_tgd (fun h7 => ?_)
  refine pj_tgd (fun h8 => ?_)
  refine pj_tbind (fun p9 h10 => ?_)
  refine pj_tbind (fun p11 h12 => ?_)
  refine pj_tgd (fun h13 => ?_)
  refine pj_tgd (fun h14 => ?_)
  refine pj_map (fun k => pj_ic_ge_f hM (pc := 42) 107 dX12_goes_42 rfl h2 (pj_aload_n hM (pc := 45) dX12_goes_45 rfl rfl (pj_getF hM (pc := 46) (t := 60) dX12_goes_46 fl_X12_7 (by decide) rfl rfl (pj_iconst hM (pc := 49) dX12_goes_49 (by decide) (pj_iload_n hM (pc := 50) dX12_goes_50 rfl (pj_iload hM (pc := 51) dX12_goes_51 rfl (pj_cS hM (pc := 53) (cM_pebbleRow 0 x1 x4 w p3 h4) dX12_goes_53 mf_X12_pebbleRow ms_X12_pebbleRow ml_X12_174 rfl rfl rfl rfl (pj_aload_n hM (pc := 56) dX12_goes_56 rfl rfl (pj_getF hM (pc := 57) (t := 60) dX12_goes_57 fl_X12_7 (by decide) rfl rfl (pj_iconst hM (pc := 60) dX12_goes_60 (by decide) (pj_iload_n hM (pc := 61) dX12_goes_61 rfl (pj_iload hM (pc := 62) dX12_goes_62 rfl (pj_iconst hM (pc := 64) dX12_goes_64 (by decide) (pj_iadd hM (pc := 65) dX12_goes_65 (pj_cS hM (pc := 66) (cM_pebbleRow 0 x1 (pj_wr (x4 + 1)) w p5 h6) dX12_goes_66 mf_X12_pebbleRow ms_X12_pebbleRow ml_X12_174 rfl rfl rfl rfl (pj_ial hM (pc := 69) dX12_goes_69 ki_60 (by decide) h7 (pj_ias hM (pc := 70) dX12_goes_70 ki_60 (by decide) h8 (pj_aload_n hM (pc := 71) dX12_goes_71 rfl rfl (pj_getF hM (pc := 72) (t := 60) dX12_goes_72 fl_X12_7 (by decide) rfl rfl (pj_iconst hM (pc := 75) dX12_goes_75 (by decide) (pj_iload_n hM (pc := 76) dX12_goes_76 rfl (pj_iload hM (pc := 77) dX12_goes_77 rfl (pj_cS hM (pc := 79) (cM_pebbleRow 0 x1 x4 (pj_set w 60 0 p3 (w 60 0 p5)) p9 h10) dX12_goes_79 mf_X12_pebbleRow ms_X12_pebbleRow ml_X12_174 rfl rfl rfl rfl (pj_iconst hM (pc := 82) dX12_goes_82 (by decide) (pj_iadd hM (pc := 83) dX12_goes_83 (pj_aload_n hM (pc := 84) dX12_goes_84 rfl rfl (pj_getF hM (pc := 85) (t := 60) dX12_goes_85 fl_X12_7 (by decide) rfl rfl (pj_iconst hM (pc := 88) dX12_goes_88 (by decide) (pj_iload_n hM (pc := 89) dX12_goes_89 rfl (pj_iload hM (pc := 90) dX12_goes_90 rfl (pj_iconst hM (pc := 92) dX12_goes_92 (by decide) (pj_iadd hM (pc := 93) dX12_goes_93 (pj_cS hM (pc := 94) (cM_pebbleRow 0 x1 (pj_wr (x4 + 1)) (pj_set w 60 0 p3 (w 60 0 p5)) p11 h12) dX12_goes_94 mf_X12_pebbleRow ms_X12_pebbleRow ml_X12_174 rfl rfl rfl rfl (pj_iconst hM (pc := 97) dX12_goes_97 (by decide) (pj_iadd hM (pc := 98) dX12_goes_98 (pj_ial hM (pc := 99) dX12_goes_99 ki_60 (by decide) h13 (pj_ias hM (pc := 100) dX12_goes_100 ki_60 (by decide) h14 k))))))))))))))))))))))))))))))))))))) ?_
  refine pj_tlet (fun w15 => Go (101, [(26, 0), (0, x1), (9, 0), (0, x3), (0, x4)], [], w15)) (fun w15 => ?_)
  exact pj_tret (fun hr => pj_iinc hM (pc := 101) dX12_goes_101 rfl (by decide) (lls' := [(26, 0), (0, x1), (9, 0), (0, x3), (0, (pj_wr (x4 + 1)))]) rfl (pj_goto hM (pc := 104) dX12_goes_104 rfl (pj_kill hM [true, true, false, true, true] (lls' := [(26, 0), (0, x1), (9, 0), (0, x3), (0, (pj_wr (x4 + 1)))]) rfl ((hk32 _ hr)))))
theorem tM_goes_32 {Go : pj_C → Prop} (hM : pj_M l yX12_goes cX12_goes 5 none 1 22 true g n0 o Go) (x1 : Int) (x3 : Int)  (R : pj_W → Prop) (h0 : ∀ r, R (r) → ((none : Option pj_V), r) = o) (s : (Int × pj_W)) : pj_TG R (fM_goes_32 x1 x3 s) (Go (32, [(26, 0), (0, x1), (9, 0), (0, x3), (0, s.1)], [], s.2)) := by
  unfold fM_goes_32
  exact pj_tLp (G := fun s : (Int × pj_W) => Go (32, [(26, 0), (0, x1), (9, 0), (0, x3), (0, s.1)], [], s.2)) (fun s => tM_goes_32b hM x1 x3 s.1 s.2  _ (fun r h => h0 r h)  (fun s h => h)) s
theorem tM_goes {Go : pj_C → Prop} (hM : pj_M l yX12_goes cX12_goes 5 none 1 22 true g n0 o Go) (x1 : Int) (x2 : Int) (w : pj_W)  (R : pj_W → Prop) (h0 : ∀ r, R (r) → ((none : Option pj_V), r) = o) : pj_TG R (fM_goes x1 x2 w) (Go (0, [(26, 0), (0, x1), (0, x2), (9, 0), (9, 0)], [], w)) := by
  unfold fM_goes
  refine pj_tbind (fun p1 h2 => ?_)
  refine pj_tgd (fun h3 => ?_)
  refine pj_map (fun k => pj_iconst hM (pc := 0) dX12_goes_0 (by decide) (pj_iload_n hM (pc := 1) dX12_goes_1 rfl (pj_cS hM (pc := 2) (cM_findRow 0 x1 w p1 h2) dX12_goes_2 mf_X12_findRow ms_X12_findRow ml_X12_171 rfl rfl rfl rfl (pj_istore_n hM (pc := 5) dX12_goes_5 (by decide) (lls' := [(26, 0), (0, x1), (0, x2), (0, p1), (9, 0)]) rfl (pj_aload_n hM (pc := 6) dX12_goes_6 rfl rfl (pj_getF hM (pc := 7) (t := 60) dX12_goes_7 fl_X12_7 (by decide) rfl rfl (pj_iload_n hM (pc := 10) dX12_goes_10 rfl (pj_iconst hM (pc := 11) dX12_goes_11 (by decide) (pj_iadd hM (pc := 12) dX12_goes_12 (pj_dup2 hM (pc := 13) dX12_goes_13 (by decide) (by decide) (pj_ial hM (pc := 14) dX12_goes_14 ki_60 (by decide) h3 (pj_iconst hM (pc := 15) dX12_goes_15 (by decide) (pj_isub hM (pc := 16) dX12_goes_16 (pj_ias hM (pc := 17) dX12_goes_17 ki_60 (by decide) h3 (pj_aload_n hM (pc := 18) dX12_goes_18 rfl rfl (pj_getF hM (pc := 19) (t := 60) dX12_goes_19 fl_X12_7 (by decide) rfl rfl (pj_bipush hM (pc := 22) dX12_goes_22 (by decide) (pj_dup2 hM (pc := 24) dX12_goes_24 (by decide) (by decide) (pj_ial hM (pc := 25) dX12_goes_25 ki_60 (by decide) (by decide) (pj_iconst hM (pc := 26) dX12_goes_26 (by decide) (pj_isub hM (pc := 27) dX12_goes_27 (pj_ias hM (pc := 28) dX12_goes_28 ki_60 (by decide) (by decide) k)))))))))))))))))))))) ?_
  refine pj_tlet (fun w4 => Go (29, [(26, 0), (0, x1), (0, x2), (0, p1), (9, 0)], [], w4)) (fun w4 => ?_)
  refine pj_map (fun k => pj_iload_n hM (pc := 29) dX12_goes_29 rfl (pj_istore hM (pc := 30) dX12_goes_30 (by decide) (lls' := [(26, 0), (0, x1), (0, x2), (0, p1), (0, x2)]) rfl (pj_kill hM [true, true, false, true, true] (lls' := [(26, 0), (0, x1), (9, 0), (0, p1), (0, x2)]) rfl k))) ?_
  exact tM_goes_32 hM x1 p1 _ h0 _
theorem cM_goes (x1 : Int) (x2 : Int)  (w : pj_W) (r : pj_W) (h : fM_goes x1 x2 w = some r) : pj_Cn l yX12_goes cX12_goes 5 none 1 22 true g [(26, 0), (0, x1), (0, x2)] w ((none : Option pj_V), r) :=
  pj_Cn_of rfl (Nat.le_of_ble_eq_true rfl) (lls := [(26, 0), (0, x1), (0, x2), (9, 0), (9, 0)]) rfl (fun Go hM => tM_goes hM x1 x2 w (fun x => ((none : Option pj_V), x) = ((none : Option pj_V), r)) (fun r h => h) r h rfl)
noncomputable def fM_carries (x1 : Int) (x2 : Int) (w : pj_W) : Option (Int × pj_W) :=
  (fM_manyOn x1 w).bind fun p1 => ((fM_whoAt x1 (pj_wr (p1 - 1)) w).bind fun p3 => ((fM_minuteAt x1 (pj_wr (p1 - 1)) w).bind fun p5 => ((fM_goes x1 (pj_wr (p1 - 1)) w).bind fun p7 => ((fM_comes 0 x2 p3 p5 p7).bind fun p9 => (some ((p3, p9)))))))
theorem tM_carries {Go : pj_C → Prop} (hM : pj_M l yX12_carries cX12_carries 6 (some .int) 2 47 true g n0 o Go) (x1 : Int) (x2 : Int) (w : pj_W)  (R : Int × pj_W → Prop) (h0 : ∀ r, R (r) → ((some (0, r.1) : Option pj_V), r.2) = o) : pj_TG R (fM_carries x1 x2 w) (Go (0, [(26, 0), (0, x1), (0, x2), (9, 0), (9, 0), (9, 0)], [], w)) := by
  unfold fM_carries
  refine pj_tbind (fun p1 h2 => ?_)
  refine pj_tbind (fun p3 h4 => ?_)
  refine pj_tbind (fun p5 h6 => ?_)
  refine pj_tbind (fun p7 h8 => ?_)
  refine pj_tbind (fun p9 h10 => ?_)
  exact pj_tret (fun hr => pj_aload_n hM (pc := 0) dX12_carries_0 rfl rfl (pj_iload_n hM (pc := 1) dX12_carries_1 rfl (pj_cV hM (pc := 2) (cM_manyOn x1 w p1 h2) dX12_carries_2 mf_X12_manyOn mv_X12_manyOn ml_X12_277 kc_26 rfl rfl (by decide) rfl rfl (pj_iconst hM (pc := 5) dX12_carries_5 (by decide) (pj_isub hM (pc := 6) dX12_carries_6 (pj_istore_n hM (pc := 7) dX12_carries_7 (by decide) (lls' := [(26, 0), (0, x1), (0, x2), (0, (pj_wr (p1 - 1))), (9, 0), (9, 0)]) rfl (pj_aload_n hM (pc := 8) dX12_carries_8 rfl rfl (pj_iload_n hM (pc := 9) dX12_carries_9 rfl (pj_iload_n hM (pc := 10) dX12_carries_10 rfl (pj_cV hM (pc := 11) (cM_whoAt x1 (pj_wr (p1 - 1)) w p3 h4) dX12_carries_11 mf_X12_whoAt mv_X12_whoAt ml_X12_308 kc_26 rfl rfl (by decide) rfl rfl (pj_istore hM (pc := 14) dX12_carries_14 (by decide) (lls' := [(26, 0), (0, x1), (0, x2), (0, (pj_wr (p1 - 1))), (0, p3), (9, 0)]) rfl (pj_aload_n hM (pc := 16) dX12_carries_16 rfl rfl (pj_iload_n hM (pc := 17) dX12_carries_17 rfl (pj_iload_n hM (pc := 18) dX12_carries_18 rfl (pj_cV hM (pc := 19) (cM_minuteAt x1 (pj_wr (p1 - 1)) w p5 h6) dX12_carries_19 mf_X12_minuteAt mv_X12_minuteAt ml_X12_314 kc_26 rfl rfl (by decide) rfl rfl (pj_istore hM (pc := 22) dX12_carries_22 (by decide) (lls' := [(26, 0), (0, x1), (0, x2), (0, (pj_wr (p1 - 1))), (0, p3), (0, p5)]) rfl (pj_aload_n hM (pc := 24) dX12_carries_24 rfl rfl (pj_iload_n hM (pc := 25) dX12_carries_25 rfl (pj_iload_n hM (pc := 26) dX12_carries_26 rfl (pj_cVv hM (pc := 27) (cM_goes x1 (pj_wr (p1 - 1)) w p7 h8) dX12_carries_27 mf_X12_goes mv_X12_goes ml_X12_317 kc_26 rfl rfl (by decide) rfl rfl (pj_aload_n hM (pc := 30) dX12_carries_30 rfl rfl (pj_iconst hM (pc := 31) dX12_carries_31 (by decide) (pj_iload_n hM (pc := 32) dX12_carries_32 rfl (pj_iload hM (pc := 33) dX12_carries_33 rfl (pj_iload hM (pc := 35) dX12_carries_35 rfl (pj_cVv hM (pc := 37) (cM_comes 0 x2 p3 p5 p7 p9 h10) dX12_carries_37 mf_X12_comes mv_X12_comes ml_X12_210 kc_26 rfl rfl (by decide) rfl rfl (pj_iload hM (pc := 40) dX12_carries_40 rfl (pj_ret hM (pc := 42) dX12_carries_42 ⟨_, rfl⟩ (h0 ((p3, p9)) hr) rfl))))))))))))))))))))))))))))
theorem cM_carries (x1 : Int) (x2 : Int)  (w : pj_W) (r : Int × pj_W) (h : fM_carries x1 x2 w = some r) : pj_Cn l yX12_carries cX12_carries 6 (some .int) 2 47 true g [(26, 0), (0, x1), (0, x2)] w ((some (0, r.1) : Option pj_V), r.2) :=
  pj_Cn_of rfl (Nat.le_of_ble_eq_true rfl) (lls := [(26, 0), (0, x1), (0, x2), (9, 0), (9, 0), (9, 0)]) rfl (fun Go hM => tM_carries hM x1 x2 w (fun x => ((some (0, x.1) : Option pj_V), x.2) = ((some (0, r.1) : Option pj_V), r.2)) (fun r h => h) r h rfl)
noncomputable def fM_wrongGull (x1 : Int) (x2 : Int) (w : pj_W) : Option (Int) :=
  (fM_manyOn x1 w).bind fun p1 => (if p1 = 0 then (some (6)) else ((fM_isThere x1 w).bind fun p4 => (if p4 = 0 then (some (7)) else ((fM_isThere x2 w).bind fun p7 => (if p7 = 0 then (some (7)) else (some (0)))))))
theorem tM_wrongGull {Go : pj_C → Prop} (hM : pj_M l yX12_wrongGull cX12_wrongGull 3 (some .int) 2 42 true g n0 o Go) (x1 : Int) (x2 : Int) (w : pj_W)  (R : Int → Prop) (h0 : ∀ r, R (r) → ((some (0, r) : Option pj_V), w) = o) : pj_TG R (fM_wrongGull x1 x2 w) (Go (0, [(26, 0), (0, x1), (0, x2)], [], w)) := by
  unfold fM_wrongGull
  refine pj_tbind (fun p1 h2 => ?_)
  refine pj_map (fun k => pj_aload_n hM (pc := 0) dX12_wrongGull_0 rfl rfl (pj_iload_n hM (pc := 1) dX12_wrongGull_1 rfl (pj_cV hM (pc := 2) (cM_manyOn x1 w p1 h2) dX12_wrongGull_2 mf_X12_manyOn mv_X12_manyOn ml_X12_277 kc_26 rfl rfl (by decide) rfl rfl k))) ?_
  refine pj_tif (fun h3 => ?_) (fun h3 => ?_)
  · exact pj_tret (fun hr => pj_if_ne_f hM (pc := 5) 13 dX12_wrongGull_5 rfl (fun q => q h3) (pj_bipush hM (pc := 8) dX12_wrongGull_8 (by decide) (pj_goto hM (pc := 10) dX12_wrongGull_10 rfl (pj_ret hM (pc := 35) dX12_wrongGull_35 ⟨_, rfl⟩ (h0 (6) hr) rfl))))
  refine pj_tbind (fun p4 h5 => ?_)
  refine pj_map (fun k => pj_if_ne_t hM (pc := 5) dX12_wrongGull_5 rfl h3 (pj_aload_n hM (pc := 13) dX12_wrongGull_13 rfl rfl (pj_iload_n hM (pc := 14) dX12_wrongGull_14 rfl (pj_cV hM (pc := 15) (cM_isThere x1 w p4 h5) dX12_wrongGull_15 mf_X12_isThere mv_X12_isThere ml_X12_268 kc_26 rfl rfl (by decide) rfl rfl k)))) ?_
  refine pj_tif (fun h6 => ?_) (fun h6 => ?_)
  · exact pj_tret (fun hr => pj_if_eq_t hM (pc := 18) dX12_wrongGull_18 rfl h6 (pj_bipush hM (pc := 33) dX12_wrongGull_33 (by decide) (pj_ret hM (pc := 35) dX12_wrongGull_35 ⟨_, rfl⟩ (h0 (7) hr) rfl)))
  refine pj_tbind (fun p7 h8 => ?_)
  refine pj_map (fun k => pj_if_eq_f hM (pc := 18) 33 dX12_wrongGull_18 rfl h6 (pj_aload_n hM (pc := 21) dX12_wrongGull_21 rfl rfl (pj_iload_n hM (pc := 22) dX12_wrongGull_22 rfl (pj_cV hM (pc := 23) (cM_isThere x2 w p7 h8) dX12_wrongGull_23 mf_X12_isThere mv_X12_isThere ml_X12_268 kc_26 rfl rfl (by decide) rfl rfl k)))) ?_
  refine pj_tif (fun h9 => ?_) (fun h9 => ?_)
  · exact pj_tret (fun hr => pj_if_eq_t hM (pc := 26) dX12_wrongGull_26 rfl h9 (pj_bipush hM (pc := 33) dX12_wrongGull_33 (by decide) (pj_ret hM (pc := 35) dX12_wrongGull_35 ⟨_, rfl⟩ (h0 (7) hr) rfl)))
  exact pj_tret (fun hr => pj_if_eq_f hM (pc := 26) 33 dX12_wrongGull_26 rfl h9 (pj_iconst hM (pc := 29) dX12_wrongGull_29 (by decide) (pj_goto hM (pc := 30) dX12_wrongGull_30 rfl (pj_ret hM (pc := 35) dX12_wrongGull_35 ⟨_, rfl⟩ (h0 (0) hr) rfl))))
theorem cM_wrongGull (x1 : Int) (x2 : Int)  (w : pj_W) (r : Int) (h : fM_wrongGull x1 x2 w = some r) : pj_Cn l yX12_wrongGull cX12_wrongGull 3 (some .int) 2 42 true g [(26, 0), (0, x1), (0, x2)] w ((some (0, r) : Option pj_V), w) :=
  pj_Cn_of rfl (Nat.le_of_ble_eq_true rfl) (lls := [(26, 0), (0, x1), (0, x2)]) rfl (fun Go hM => tM_wrongGull hM x1 x2 w (fun x => ((some (0, x) : Option pj_V), w) = ((some (0, r) : Option pj_V), w)) (fun r h => h) r h rfl)
noncomputable def fM_gull_21  (w : pj_W) : Option (Int × pj_W) :=
  (fM_refuse 1 w).bind fun p1 => (some ((p1.1, p1.2)))
noncomputable def fM_gull (x1 : Int) (x2 : Int) (w : pj_W) : Option (Int × pj_W) :=
  (fM_isFind x1 w).bind fun p1 => (if p1 = 0 then (fM_gull_21 w) else ((fM_isFind x2 w).bind fun p4 => (if p4 = 0 then (fM_gull_21 w) else (if x1 = x2 then (fM_gull_21 w) else ((fM_wrongGull x1 x2 w).bind fun p8 => (if p8 ≤ 0 then ((fM_carries x1 x2 w).bind fun p11 => ((fM_gives p11.1 p11.2).bind fun p13 => (some ((p13.1, p13.2))))) else ((fM_refuse p8 w).bind fun p15 => (some ((p15.1, p15.2))))))))))
theorem tM_gull_21 {Go : pj_C → Prop} (hM : pj_M l yX12_gull cX12_gull 4 (some .int) 3 72 true g n0 o Go)  (w : pj_W)  (R : Int × pj_W → Prop) (h0 : ∀ r, R (r) → ((some (0, r.1) : Option pj_V), r.2) = o) : pj_TG R (fM_gull_21  w) (Go (21, [(26, 0), (9, 0), (9, 0), (9, 0)], [], w)) := by
  unfold fM_gull_21
  refine pj_tbind (fun p1 h2 => ?_)
  exact pj_tret (fun hr => pj_aload_n hM (pc := 21) dX12_gull_21 rfl rfl (pj_iconst hM (pc := 22) dX12_gull_22 (by decide) (pj_cV hM (pc := 23) (cM_refuse 1 w p1 h2) dX12_gull_23 mf_X12_refuse mv_X12_refuse ml_X12_78 kc_26 rfl rfl (by decide) rfl rfl (pj_ret hM (pc := 26) dX12_gull_26 ⟨_, rfl⟩ (h0 ((p1.1, p1.2)) hr) rfl))))
theorem tM_gull {Go : pj_C → Prop} (hM : pj_M l yX12_gull cX12_gull 4 (some .int) 3 72 true g n0 o Go) (x1 : Int) (x2 : Int) (w : pj_W)  (R : Int × pj_W → Prop) (h0 : ∀ r, R (r) → ((some (0, r.1) : Option pj_V), r.2) = o) : pj_TG R (fM_gull x1 x2 w) (Go (0, [(26, 0), (0, x1), (0, x2), (9, 0)], [], w)) := by
  unfold fM_gull
  refine pj_tbind (fun p1 h2 => ?_)
  refine pj_map (fun k => pj_aload_n hM (pc := 0) dX12_gull_0 rfl rfl (pj_iload_n hM (pc := 1) dX12_gull_1 rfl (pj_cV hM (pc := 2) (cM_isFind x1 w p1 h2) dX12_gull_2 mf_X12_isFind mv_X12_isFind ml_X12_265 kc_26 rfl rfl (by decide) rfl rfl k))) ?_
  refine pj_tif (fun h3 => ?_) (fun h3 => ?_)
  · refine pj_map (fun k => pj_if_eq_t hM (pc := 5) dX12_gull_5 rfl h3 (pj_kill hM [true, false, false, false] (lls' := [(26, 0), (9, 0), (9, 0), (9, 0)]) rfl k)) ?_
    exact tM_gull_21 hM w _ h0
  refine pj_tbind (fun p4 h5 => ?_)
  refine pj_map (fun k => pj_if_eq_f hM (pc := 5) 21 dX12_gull_5 rfl h3 (pj_aload_n hM (pc := 8) dX12_gull_8 rfl rfl (pj_iload_n hM (pc := 9) dX12_gull_9 rfl (pj_cV hM (pc := 10) (cM_isFind x2 w p4 h5) dX12_gull_10 mf_X12_isFind mv_X12_isFind ml_X12_265 kc_26 rfl rfl (by decide) rfl rfl k)))) ?_
  refine pj_tif (fun h6 => ?_) (fun h6 => ?_)
  · refine pj_map (fun k => pj_if_eq_t hM (pc := 13) dX12_gull_13 rfl h6 (pj_kill hM [true, false, false, false] (lls' := [(26, 0), (9, 0), (9, 0), (9, 0)]) rfl k)) ?_
    exact tM_gull_21 hM w _ h0
  refine pj_map (fun k => pj_if_eq_f hM (pc := 13) 21 dX12_gull_13 rfl h6 (pj_iload_n hM (pc := 16) dX12_gull_16 rfl (pj_iload_n hM (pc := 17) dX12_gull_17 rfl k))) ?_
  refine pj_tif (fun h7 => ?_) (fun h7 => ?_)
  · refine pj_map (fun k => pj_ic_ne_f hM (pc := 18) 27 dX12_gull_18 rfl (fun q => q h7) (pj_kill hM [true, false, false, false] (lls' := [(26, 0), (9, 0), (9, 0), (9, 0)]) rfl k)) ?_
    exact tM_gull_21 hM w _ h0
  refine pj_tbind (fun p8 h9 => ?_)
  refine pj_map (fun k => pj_ic_ne_t hM (pc := 18) dX12_gull_18 rfl h7 (pj_aload_n hM (pc := 27) dX12_gull_27 rfl rfl (pj_iload_n hM (pc := 28) dX12_gull_28 rfl (pj_iload_n hM (pc := 29) dX12_gull_29 rfl (pj_cV hM (pc := 30) (cM_wrongGull x1 x2 w p8 h9) dX12_gull_30 mf_X12_wrongGull mv_X12_wrongGull ml_X12_326 kc_26 rfl rfl (by decide) rfl rfl (pj_istore_n hM (pc := 33) dX12_gull_33 (by decide) (lls' := [(26, 0), (0, x1), (0, x2), (0, p8)]) rfl (pj_iload_n hM (pc := 34) dX12_gull_34 rfl k))))))) ?_
  refine pj_tif (fun h10 => ?_) (fun h10 => ?_)
  · refine pj_tbind (fun p11 h12 => ?_)
    refine pj_tbind (fun p13 h14 => ?_)
    exact pj_tret (fun hr => pj_if_le_t hM (pc := 35) dX12_gull_35 rfl h10 (pj_aload_n hM (pc := 46) dX12_gull_46 rfl rfl (pj_aload_n hM (pc := 47) dX12_gull_47 rfl rfl (pj_iload_n hM (pc := 48) dX12_gull_48 rfl (pj_iload_n hM (pc := 49) dX12_gull_49 rfl (pj_cV hM (pc := 50) (cM_carries x1 x2 w p11 h12) dX12_gull_50 mf_X12_carries mv_X12_carries ml_X12_329 kc_26 rfl rfl (by decide) rfl rfl (pj_cV hM (pc := 53) (cM_gives p11.1 p11.2 p13 h14) dX12_gull_53 mf_X12_gives mv_X12_gives ml_X12_82 kc_26 rfl rfl (by decide) rfl rfl (pj_ret hM (pc := 56) dX12_gull_56 ⟨_, rfl⟩ (h0 ((p13.1, p13.2)) hr) rfl))))))))
  refine pj_tbind (fun p15 h16 => ?_)
  exact pj_tret (fun hr => pj_if_le_f hM (pc := 35) 46 dX12_gull_35 rfl h10 (pj_aload_n hM (pc := 38) dX12_gull_38 rfl rfl (pj_iload_n hM (pc := 39) dX12_gull_39 rfl (pj_cV hM (pc := 40) (cM_refuse p8 w p15 h16) dX12_gull_40 mf_X12_refuse mv_X12_refuse ml_X12_78 kc_26 rfl rfl (by decide) rfl rfl (pj_goto hM (pc := 43) dX12_gull_43 rfl (pj_ret hM (pc := 56) dX12_gull_56 ⟨_, rfl⟩ (h0 ((p15.1, p15.2)) hr) rfl))))))
theorem cM_gull (x1 : Int) (x2 : Int)  (w : pj_W) (r : Int × pj_W) (h : fM_gull x1 x2 w = some r) : pj_Cn l yX12_gull cX12_gull 4 (some .int) 3 72 true g [(26, 0), (0, x1), (0, x2)] w ((some (0, r.1) : Option pj_V), r.2) :=
  pj_Cn_of rfl (Nat.le_of_ble_eq_true rfl) (lls := [(26, 0), (0, x1), (0, x2), (9, 0)]) rfl (fun Go hM => tM_gull hM x1 x2 w (fun x => ((some (0, x.1) : Option pj_V), x.2) = ((some (0, r.1) : Option pj_V), r.2)) (fun r h => h) r h rfl)
noncomputable def fM_isTray (x0 : Int) (w : pj_W) : Option (Int) :=
  if x0 < 0 then (some (0)) else (if 4 ≤ x0 then (some (0)) else (some (1)))
theorem tM_isTray {Go : pj_C → Prop} (hM : pj_M l yX12_isTray cX12_isTray 1 (some .boolean) 0 0 ph g n0 o Go) (x0 : Int) (w : pj_W)  (R : Int → Prop) (h0 : ∀ r, R (r) → ((some (0, r) : Option pj_V), w) = o) : pj_TG R (fM_isTray x0 w) (Go (0, [(0, x0)], [], w)) := by
  unfold fM_isTray
  refine pj_map (fun k => pj_iload_n hM (pc := 0) dX12_isTray_0 rfl k) ?_
  refine pj_tif (fun h1 => ?_) (fun h1 => ?_)
  · exact pj_tret (fun hr => pj_if_lt_t hM (pc := 1) dX12_isTray_1 rfl h1 (pj_iconst hM (pc := 13) dX12_isTray_13 (by decide) (pj_ret hM (pc := 14) dX12_isTray_14 ⟨_, rfl, Or.inl rfl⟩ (h0 (0) hr) rfl)))
  refine pj_map (fun k => pj_if_lt_f hM (pc := 1) 13 dX12_isTray_1 rfl h1 (pj_iload_n hM (pc := 4) dX12_isTray_4 rfl (pj_iconst hM (pc := 5) dX12_isTray_5 (by decide) k))) ?_
  refine pj_tif (fun h2 => ?_) (fun h2 => ?_)
  · exact pj_tret (fun hr => pj_ic_ge_t hM (pc := 6) dX12_isTray_6 rfl h2 (pj_iconst hM (pc := 13) dX12_isTray_13 (by decide) (pj_ret hM (pc := 14) dX12_isTray_14 ⟨_, rfl, Or.inl rfl⟩ (h0 (0) hr) rfl)))
  exact pj_tret (fun hr => pj_ic_ge_f hM (pc := 6) 13 dX12_isTray_6 rfl h2 (pj_iconst hM (pc := 9) dX12_isTray_9 (by decide) (pj_goto hM (pc := 10) dX12_isTray_10 rfl (pj_ret hM (pc := 14) dX12_isTray_14 ⟨_, rfl, Or.inr rfl⟩ (h0 (1) hr) rfl))))
theorem cM_isTray (x0 : Int)  (w : pj_W) (r : Int) (h : fM_isTray x0 w = some r) : pj_Cn l yX12_isTray cX12_isTray 1 (some .boolean) 0 0 ph g [(0, x0)] w ((some (0, r) : Option pj_V), w) :=
  pj_Cn_of rfl (Nat.le_of_ble_eq_true rfl) (lls := [(0, x0)]) rfl (fun Go hM => tM_isTray hM x0 w (fun x => ((some (0, x) : Option pj_V), w) = ((some (0, r) : Option pj_V), w)) (fun r h => h) r h rfl)
noncomputable def fM_gulls_149 (x1 : Int) (x2 : Int) (x3 : Int) (x4 : Int) (x5 : Int) (w : pj_W) : Option ((Int × Int × Int) ⊕ (Int × pj_W)) :=
  (fM_manyOn x4 w).bind fun p1 => (some (Sum.inl ((pj_wr (x2 + x5)), (pj_wr (x3 + (max 0 (pj_wr (x5 - p1))))), (pj_wr (x4 + 1)))))
noncomputable def fM_gulls_102b (x1 : Int) (w : pj_W) (x2 : Int) (x3 : Int) (x4 : Int) : Option ((Int × Int × Int) ⊕ (Int × pj_W)) :=
  if (w 60 0 2) ≤ x4 then (if x2 = (w 60 0 8) then ((fM_gives x3 w).bind fun p3 => (some (Sum.inr ((p3.1, p3.2))))) else ((fM_refuse 7 w).bind fun p5 => (some (Sum.inr ((p5.1, p5.2)))))) else (if 0 ≤ (pj_wr ((pj_wr (60 * x1)) + x4)) ∧ (pj_wr ((pj_wr (60 * x1)) + x4)) < 240 then (if (pj_wr (w 64 0 (pj_wr ((pj_wr (60 * x1)) + x4)))) ≤ 0 then (fM_gulls_149 x1 x2 x3 x4 (pj_wr (w 64 0 (pj_wr ((pj_wr (60 * x1)) + x4)))) w) else ((fM_isThere x4 w).bind fun p9 => (if p9 = 0 then ((fM_refuse 7 w).bind fun p12 => (some (Sum.inr ((p12.1, p12.2))))) else (fM_gulls_149 x1 x2 x3 x4 (pj_wr (w 64 0 (pj_wr ((pj_wr (60 * x1)) + x4)))) w)))) else none)
noncomputable def fM_gulls_102 (x1 : Int) (w : pj_W) (s : (Int × Int × Int)) : Option (Int × pj_W) := pj_Lp (fun s : (Int × Int × Int) => fM_gulls_102b x1 w s.1 s.2.1 s.2.2) s
noncomputable def fM_gulls_52b (x1 : Int) (w : pj_W) (x2 : Int) : Option ((Int) ⊕ (Int × pj_W)) :=
  if (w 60 0 2) ≤ x2 then ((fM_gulls_102 x1 w (0, 0, 0)).map Sum.inr) else (if 0 ≤ (pj_wr ((pj_wr (60 * x1)) + x2)) ∧ (pj_wr ((pj_wr (60 * x1)) + x2)) < 240 then ((fM_isFrom (w 64 0 (pj_wr ((pj_wr (60 * x1)) + x2))) 0 60 w).bind fun p3 => (if p3 = 0 then ((fM_refuse 5 w).bind fun p6 => (some (Sum.inr ((p6.1, p6.2))))) else (some (Sum.inl ((pj_wr (x2 + 1))))))) else none)
noncomputable def fM_gulls_52 (x1 : Int) (w : pj_W) (s : (Int)) : Option (Int × pj_W) := pj_Lp (fun s : (Int) => fM_gulls_52b x1 w s) s
noncomputable def fM_gulls (x1 : Int) (w : pj_W) : Option (Int × pj_W) :=
  (fM_isTray x1 w).bind fun p1 => (if p1 = 0 then ((fM_refuse 1 w).bind fun p4 => (some ((p4.1, p4.2)))) else (if 0 ≤ x1 ∧ x1 < 4 then (if (w 63 0 x1) = (-1) then ((fM_refuse 2 w).bind fun p8 => (some ((p8.1, p8.2)))) else (if (w 60 0 2) ≤ (w 63 0 x1) then (fM_gulls_52 x1 w (0)) else ((fM_refuse 3 w).bind fun p11 => (some ((p11.1, p11.2)))))) else none))
theorem tM_gulls_149 {Go : pj_C → Prop} (hM : pj_M l yX12_gulls cX12_gulls 6 (some .int) 2 42 true g n0 o Go) (x1 : Int) (x2 : Int) (x3 : Int) (x4 : Int) (x5 : Int) (w : pj_W)  (R : (Int × Int × Int) ⊕ (Int × pj_W) → Prop) (h0 : ∀ r, R (Sum.inr (r)) → ((some (0, r.1) : Option pj_V), r.2) = o) (hk102 : ∀ s, R (Sum.inl s) → Go (102, [(26, 0), (0, x1), (0, s.1), (0, s.2.1), (0, s.2.2), (9, 0)], [], w)) : pj_TG R (fM_gulls_149 x1 x2 x3 x4 x5 w) (Go (149, [(26, 0), (0, x1), (0, x2), (0, x3), (0, x4), (0, x5)], [], w)) := by
  unfold fM_gulls_149
  refine pj_tbind (fun p1 h2 => ?_)
  exact pj_tret (fun hr => pj_iload_n hM (pc := 149) dX12_gulls_149 rfl (pj_iload hM (pc := 150) dX12_gulls_150 rfl (pj_iadd hM (pc := 152) dX12_gulls_152 (pj_istore_n hM (pc := 153) dX12_gulls_153 (by decide) (lls' := [(26, 0), (0, x1), (0, (pj_wr (x2 + x5))), (0, x3), (0, x4), (0, x5)]) rfl (pj_iload_n hM (pc := 154) dX12_gulls_154 rfl (pj_iconst hM (pc := 155) dX12_gulls_155 (by decide) (pj_iload hM (pc := 156) dX12_gulls_156 rfl (pj_aload_n hM (pc := 158) dX12_gulls_158 rfl rfl (pj_iload hM (pc := 159) dX12_gulls_159 rfl (pj_cV hM (pc := 161) (cM_manyOn x4 w p1 h2) dX12_gulls_161 mf_X12_manyOn mv_X12_manyOn ml_X12_277 kc_26 rfl rfl (by decide) rfl rfl (pj_isub hM (pc := 164) dX12_gulls_164 (pj_mmax hM (pc := 165) dX12_gulls_165 mf_J9_max_7cf53 ms_J9_max_7cf53 ml_X12_375 rfl (pj_iadd hM (pc := 168) dX12_gulls_168 (pj_istore_n hM (pc := 169) dX12_gulls_169 (by decide) (lls' := [(26, 0), (0, x1), (0, (pj_wr (x2 + x5))), (0, (pj_wr (x3 + (max 0 (pj_wr (x5 - p1)))))), (0, x4), (0, x5)]) rfl (pj_iinc hM (pc := 170) dX12_gulls_170 rfl (by decide) (lls' := [(26, 0), (0, x1), (0, (pj_wr (x2 + x5))), (0, (pj_wr (x3 + (max 0 (pj_wr (x5 - p1)))))), (0, (pj_wr (x4 + 1))), (0, x5)]) rfl (pj_goto hM (pc := 173) dX12_gulls_173 rfl (pj_kill hM [true, true, true, true, true, false] (lls' := [(26, 0), (0, x1), (0, (pj_wr (x2 + x5))), (0, (pj_wr (x3 + (max 0 (pj_wr (x5 - p1)))))), (0, (pj_wr (x4 + 1))), (9, 0)]) rfl ((hk102 _ hr)))))))))))))))))))
theorem tM_gulls_102b {Go : pj_C → Prop} (hM : pj_M l yX12_gulls cX12_gulls 6 (some .int) 2 42 true g n0 o Go) (x1 : Int) (w : pj_W) (x2 : Int) (x3 : Int) (x4 : Int)  (R : (Int × Int × Int) ⊕ (Int × pj_W) → Prop) (h0 : ∀ r, R (Sum.inr (r)) → ((some (0, r.1) : Option pj_V), r.2) = o) (hk102 : ∀ s, R (Sum.inl s) → Go (102, [(26, 0), (0, x1), (0, s.1), (0, s.2.1), (0, s.2.2), (9, 0)], [], w)) : pj_TG R (fM_gulls_102b x1 w x2 x3 x4) (Go (102, [(26, 0), (0, x1), (0, x2), (0, x3), (0, x4), (9, 0)], [], w)) := by
  unfold fM_gulls_102b
  refine pj_map (fun k => pj_iload hM (pc := 102) dX12_gulls_102 rfl (pj_aload_n hM (pc := 104) dX12_gulls_104 rfl rfl (pj_getF hM (pc := 105) (t := 60) dX12_gulls_105 fl_X12_7 (by decide) rfl rfl (pj_iconst hM (pc := 108) dX12_gulls_108 (by decide) (pj_ial hM (pc := 109) dX12_gulls_109 ki_60 (by decide) (by decide) k))))) ?_
  refine pj_tif (fun h1 => ?_) (fun h1 => ?_)
  · refine pj_map (fun k => pj_ic_ge_t hM (pc := 110) dX12_gulls_110 rfl h1 (pj_iload_n hM (pc := 176) dX12_gulls_176 rfl (pj_aload_n hM (pc := 177) dX12_gulls_177 rfl rfl (pj_getF hM (pc := 178) (t := 60) dX12_gulls_178 fl_X12_7 (by decide) rfl rfl (pj_bipush hM (pc := 181) dX12_gulls_181 (by decide) (pj_ial hM (pc := 183) dX12_gulls_183 ki_60 (by decide) (by decide) k)))))) ?_
    refine pj_tif (fun h2 => ?_) (fun h2 => ?_)
    · refine pj_tbind (fun p3 h4 => ?_)
      exact pj_tret (fun hr => pj_ic_ne_f hM (pc := 184) 195 dX12_gulls_184 rfl (fun q => q h2) (pj_aload_n hM (pc := 187) dX12_gulls_187 rfl rfl (pj_iload_n hM (pc := 188) dX12_gulls_188 rfl (pj_cV hM (pc := 189) (cM_gives x3 w p3 h4) dX12_gulls_189 mf_X12_gives mv_X12_gives ml_X12_82 kc_26 rfl rfl (by decide) rfl rfl (pj_goto hM (pc := 192) dX12_gulls_192 rfl (pj_ret hM (pc := 201) dX12_gulls_201 ⟨_, rfl⟩ (h0 ((p3.1, p3.2)) hr) rfl))))))
    refine pj_tbind (fun p5 h6 => ?_)
    exact pj_tret (fun hr => pj_ic_ne_t hM (pc := 184) dX12_gulls_184 rfl h2 (pj_aload_n hM (pc := 195) dX12_gulls_195 rfl rfl (pj_bipush hM (pc := 196) dX12_gulls_196 (by decide) (pj_cV hM (pc := 198) (cM_refuse 7 w p5 h6) dX12_gulls_198 mf_X12_refuse mv_X12_refuse ml_X12_78 kc_26 rfl rfl (by decide) rfl rfl (pj_ret hM (pc := 201) dX12_gulls_201 ⟨_, rfl⟩ (h0 ((p5.1, p5.2)) hr) rfl)))))
  refine pj_tgd (fun h7 => ?_)
  refine pj_map (fun k => pj_ic_ge_f hM (pc := 110) 176 dX12_gulls_110 rfl h1 (pj_aload_n hM (pc := 113) dX12_gulls_113 rfl rfl (pj_getF hM (pc := 114) (t := 64) dX12_gulls_114 fl_X12_27 (by decide) rfl rfl (pj_bipush hM (pc := 117) dX12_gulls_117 (by decide) (pj_iload_n hM (pc := 119) dX12_gulls_119 rfl (pj_imul hM (pc := 120) dX12_gulls_120 (pj_iload hM (pc := 121) dX12_gulls_121 rfl (pj_iadd hM (pc := 123) dX12_gulls_123 (pj_lal hM (pc := 124) dX12_gulls_124 kl_64 (by decide) h7 (pj_l2i hM (pc := 125) dX12_gulls_125 (pj_istore hM (pc := 126) dX12_gulls_126 (by decide) (lls' := [(26, 0), (0, x1), (0, x2), (0, x3), (0, x4), (0, (pj_wr (w 64 0 (pj_wr ((pj_wr (60 * x1)) + x4)))))]) rfl (pj_iload hM (pc := 128) dX12_gulls_128 rfl k)))))))))))) ?_
  refine pj_tif (fun h8 => ?_) (fun h8 => ?_)
  · refine pj_map (fun k => pj_if_le_t hM (pc := 130) dX12_gulls_130 rfl h8 (pj_kill hM [true, true, true, true, true, true] (lls' := [(26, 0), (0, x1), (0, x2), (0, x3), (0, x4), (0, (pj_wr (w 64 0 (pj_wr ((pj_wr (60 * x1)) + x4)))))]) rfl k)) ?_
    exact tM_gulls_149 hM x1 x2 x3 x4 (pj_wr (w 64 0 (pj_wr ((pj_wr (60 * x1)) + x4)))) w _ h0 hk102
  refine pj_tbind (fun p9 h10 => ?_)
  refine pj_map (fun k => pj_if_le_f hM (pc := 130) 149 dX12_gulls_130 rfl h8 (pj_aload_n hM (pc := 133) dX12_gulls_133 rfl rfl (pj_iload hM (pc := 134) dX12_gulls_134 rfl (pj_cV hM (pc := 136) (cM_isThere x4 w p9 h10) dX12_gulls_136 mf_X12_isThere mv_X12_isThere ml_X12_268 kc_26 rfl rfl (by decide) rfl rfl k)))) ?_
  refine pj_tif (fun h11 => ?_) (fun h11 => ?_)
  · refine pj_tbind (fun p12 h13 => ?_)
    exact pj_tret (fun hr => pj_if_ne_f hM (pc := 139) 149 dX12_gulls_139 rfl (fun q => q h11) (pj_aload_n hM (pc := 142) dX12_gulls_142 rfl rfl (pj_bipush hM (pc := 143) dX12_gulls_143 (by decide) (pj_cV hM (pc := 145) (cM_refuse 7 w p12 h13) dX12_gulls_145 mf_X12_refuse mv_X12_refuse ml_X12_78 kc_26 rfl rfl (by decide) rfl rfl (pj_ret hM (pc := 148) dX12_gulls_148 ⟨_, rfl⟩ (h0 ((p12.1, p12.2)) hr) rfl)))))
  refine pj_map (fun k => pj_if_ne_t hM (pc := 139) dX12_gulls_139 rfl h11 (pj_kill hM [true, true, true, true, true, true] (lls' := [(26, 0), (0, x1), (0, x2), (0, x3), (0, x4), (0, (pj_wr (w 64 0 (pj_wr ((pj_wr (60 * x1)) + x4)))))]) rfl k)) ?_
  exact tM_gulls_149 hM x1 x2 x3 x4 (pj_wr (w 64 0 (pj_wr ((pj_wr (60 * x1)) + x4)))) w _ h0 hk102
theorem tM_gulls_102 {Go : pj_C → Prop} (hM : pj_M l yX12_gulls cX12_gulls 6 (some .int) 2 42 true g n0 o Go) (x1 : Int) (w : pj_W)  (R : Int × pj_W → Prop) (h0 : ∀ r, R (r) → ((some (0, r.1) : Option pj_V), r.2) = o) (s : (Int × Int × Int)) : pj_TG R (fM_gulls_102 x1 w s) (Go (102, [(26, 0), (0, x1), (0, s.1), (0, s.2.1), (0, s.2.2), (9, 0)], [], w)) := by
  unfold fM_gulls_102
  exact pj_tLp (G := fun s : (Int × Int × Int) => Go (102, [(26, 0), (0, x1), (0, s.1), (0, s.2.1), (0, s.2.2), (9, 0)], [], w)) (fun s => tM_gulls_102b hM x1 w s.1 s.2.1 s.2.2  _ (fun r h => h0 r h)  (fun s h => h)) s
theorem tM_gulls_52b {Go : pj_C → Prop} (hM : pj_M l yX12_gulls cX12_gulls 6 (some .int) 2 42 true g n0 o Go) (x1 : Int) (w : pj_W) (x2 : Int)  (R : (Int) ⊕ (Int × pj_W) → Prop) (h0 : ∀ r, R (Sum.inr (r)) → ((some (0, r.1) : Option pj_V), r.2) = o) (hk52 : ∀ s, R (Sum.inl s) → Go (52, [(26, 0), (0, x1), (0, s), (9, 0), (9, 0), (9, 0)], [], w)) : pj_TG R (fM_gulls_52b x1 w x2) (Go (52, [(26, 0), (0, x1), (0, x2), (9, 0), (9, 0), (9, 0)], [], w)) := by
  unfold fM_gulls_52b
  refine pj_map (fun k => pj_iload_n hM (pc := 52) dX12_gulls_52 rfl (pj_aload_n hM (pc := 53) dX12_gulls_53 rfl rfl (pj_getF hM (pc := 54) (t := 60) dX12_gulls_54 fl_X12_7 (by decide) rfl rfl (pj_iconst hM (pc := 57) dX12_gulls_57 (by decide) (pj_ial hM (pc := 58) dX12_gulls_58 ki_60 (by decide) (by decide) k))))) ?_
  refine pj_tif (fun h1 => ?_) (fun h1 => ?_)
  · refine pj_tmap ?_
    refine pj_map (fun k => pj_ic_ge_t hM (pc := 59) dX12_gulls_59 rfl h1 (pj_iconst hM (pc := 95) dX12_gulls_95 (by decide) (pj_istore_n hM (pc := 96) dX12_gulls_96 (by decide) (lls' := [(26, 0), (0, x1), (0, 0), (9, 0), (9, 0), (9, 0)]) rfl (pj_iconst hM (pc := 97) dX12_gulls_97 (by decide) (pj_istore_n hM (pc := 98) dX12_gulls_98 (by decide) (lls' := [(26, 0), (0, x1), (0, 0), (0, 0), (9, 0), (9, 0)]) rfl (pj_iconst hM (pc := 99) dX12_gulls_99 (by decide) (pj_istore hM (pc := 100) dX12_gulls_100 (by decide) (lls' := [(26, 0), (0, x1), (0, 0), (0, 0), (0, 0), (9, 0)]) rfl (pj_kill hM [true, true, true, true, true, false] (lls' := [(26, 0), (0, x1), (0, 0), (0, 0), (0, 0), (9, 0)]) rfl k)))))))) ?_
    exact tM_gulls_102 hM x1 w _ h0 _
  refine pj_tgd (fun h2 => ?_)
  refine pj_tbind (fun p3 h4 => ?_)
  refine pj_map (fun k => pj_ic_ge_f hM (pc := 59) 95 dX12_gulls_59 rfl h1 (pj_aload_n hM (pc := 62) dX12_gulls_62 rfl rfl (pj_getF hM (pc := 63) (t := 64) dX12_gulls_63 fl_X12_27 (by decide) rfl rfl (pj_bipush hM (pc := 66) dX12_gulls_66 (by decide) (pj_iload_n hM (pc := 68) dX12_gulls_68 rfl (pj_imul hM (pc := 69) dX12_gulls_69 (pj_iload_n hM (pc := 70) dX12_gulls_70 rfl (pj_iadd hM (pc := 71) dX12_gulls_71 (pj_lal hM (pc := 72) dX12_gulls_72 kl_64 (by decide) h2 (pj_lconst hM (pc := 73) (z := 0) dX12_gulls_73 rfl (by decide) (pj_ldc2 hM (pc := 74) (z := 60) dX12_gulls_74 kn_X12_417 rfl (by decide) (pj_cS hM (pc := 77) (cM_isFrom (w 64 0 (pj_wr ((pj_wr (60 * x1)) + x2))) 0 60 w p3 h4) dX12_gulls_77 mf_X12_isFrom ms_X12_isFrom ml_X12_289 rfl rfl rfl rfl k)))))))))))) ?_
  refine pj_tif (fun h5 => ?_) (fun h5 => ?_)
  · refine pj_tbind (fun p6 h7 => ?_)
    exact pj_tret (fun hr => pj_if_ne_f hM (pc := 80) 89 dX12_gulls_80 rfl (fun q => q h5) (pj_aload_n hM (pc := 83) dX12_gulls_83 rfl rfl (pj_iconst hM (pc := 84) dX12_gulls_84 (by decide) (pj_cV hM (pc := 85) (cM_refuse 5 w p6 h7) dX12_gulls_85 mf_X12_refuse mv_X12_refuse ml_X12_78 kc_26 rfl rfl (by decide) rfl rfl (pj_ret hM (pc := 88) dX12_gulls_88 ⟨_, rfl⟩ (h0 ((p6.1, p6.2)) hr) rfl)))))
  exact pj_tret (fun hr => pj_if_ne_t hM (pc := 80) dX12_gulls_80 rfl h5 (pj_iinc hM (pc := 89) dX12_gulls_89 rfl (by decide) (lls' := [(26, 0), (0, x1), (0, (pj_wr (x2 + 1))), (9, 0), (9, 0), (9, 0)]) rfl (pj_goto hM (pc := 92) dX12_gulls_92 rfl (pj_kill hM [true, true, true, false, false, false] (lls' := [(26, 0), (0, x1), (0, (pj_wr (x2 + 1))), (9, 0), (9, 0), (9, 0)]) rfl ((hk52 _ hr))))))
theorem tM_gulls_52 {Go : pj_C → Prop} (hM : pj_M l yX12_gulls cX12_gulls 6 (some .int) 2 42 true g n0 o Go) (x1 : Int) (w : pj_W)  (R : Int × pj_W → Prop) (h0 : ∀ r, R (r) → ((some (0, r.1) : Option pj_V), r.2) = o) (s : (Int)) : pj_TG R (fM_gulls_52 x1 w s) (Go (52, [(26, 0), (0, x1), (0, s), (9, 0), (9, 0), (9, 0)], [], w)) := by
  unfold fM_gulls_52
  exact pj_tLp (G := fun s : (Int) => Go (52, [(26, 0), (0, x1), (0, s), (9, 0), (9, 0), (9, 0)], [], w)) (fun s => tM_gulls_52b hM x1 w s  _ (fun r h => h0 r h)  (fun s h => h)) s
theorem tM_gulls {Go : pj_C → Prop} (hM : pj_M l yX12_gulls cX12_gulls 6 (some .int) 2 42 true g n0 o Go) (x1 : Int) (w : pj_W)  (R : Int × pj_W → Prop) (h0 : ∀ r, R (r) → ((some (0, r.1) : Option pj_V), r.2) = o) : pj_TG R (fM_gulls x1 w) (Go (0, [(26, 0), (0, x1), (9, 0), (9, 0), (9, 0), (9, 0)], [], w)) := by
  unfold fM_gulls
  refine pj_tbind (fun p1 h2 => ?_)
  refine pj_map (fun k => pj_iload_n hM (pc := 0) dX12_gulls_0 rfl (pj_cS hM (pc := 1) (cM_isTray x1 w p1 h2) dX12_gulls_1 mf_X12_isTray ms_X12_isTray ml_X12_89 rfl rfl rfl rfl k)) ?_
  refine pj_tif (fun h3 => ?_) (fun h3 => ?_)
  · refine pj_tbind (fun p4 h5 => ?_)
    exact pj_tret (fun hr => pj_if_ne_f hM (pc := 4) 13 dX12_gulls_4 rfl (fun q => q h3) (pj_aload_n hM (pc := 7) dX12_gulls_7 rfl rfl (pj_iconst hM (pc := 8) dX12_gulls_8 (by decide) (pj_cV hM (pc := 9) (cM_refuse 1 w p4 h5) dX12_gulls_9 mf_X12_refuse mv_X12_refuse ml_X12_78 kc_26 rfl rfl (by decide) rfl rfl (pj_ret hM (pc := 12) dX12_gulls_12 ⟨_, rfl⟩ (h0 ((p4.1, p4.2)) hr) rfl)))))
  refine pj_tgd (fun h6 => ?_)
  refine pj_map (fun k => pj_if_ne_t hM (pc := 4) dX12_gulls_4 rfl h3 (pj_aload_n hM (pc := 13) dX12_gulls_13 rfl rfl (pj_getF hM (pc := 14) (t := 63) dX12_gulls_14 fl_X12_24 (by decide) rfl rfl (pj_iload_n hM (pc := 17) dX12_gulls_17 rfl (pj_ial hM (pc := 18) dX12_gulls_18 ki_63 (by decide) h6 (pj_iconst hM (pc := 19) dX12_gulls_19 (by decide) k)))))) ?_
  refine pj_tif (fun h7 => ?_) (fun h7 => ?_)
  · refine pj_tbind (fun p8 h9 => ?_)
    exact pj_tret (fun hr => pj_ic_ne_f hM (pc := 20) 29 dX12_gulls_20 rfl (fun q => q h7) (pj_aload_n hM (pc := 23) dX12_gulls_23 rfl rfl (pj_iconst hM (pc := 24) dX12_gulls_24 (by decide) (pj_cV hM (pc := 25) (cM_refuse 2 w p8 h9) dX12_gulls_25 mf_X12_refuse mv_X12_refuse ml_X12_78 kc_26 rfl rfl (by decide) rfl rfl (pj_ret hM (pc := 28) dX12_gulls_28 ⟨_, rfl⟩ (h0 ((p8.1, p8.2)) hr) rfl)))))
  refine pj_map (fun k => pj_ic_ne_t hM (pc := 20) dX12_gulls_20 rfl h7 (pj_aload_n hM (pc := 29) dX12_gulls_29 rfl rfl (pj_getF hM (pc := 30) (t := 63) dX12_gulls_30 fl_X12_24 (by decide) rfl rfl (pj_iload_n hM (pc := 33) dX12_gulls_33 rfl (pj_ial hM (pc := 34) dX12_gulls_34 ki_63 (by decide) h6 (pj_aload_n hM (pc := 35) dX12_gulls_35 rfl rfl (pj_getF hM (pc := 36) (t := 60) dX12_gulls_36 fl_X12_7 (by decide) rfl rfl (pj_iconst hM (pc := 39) dX12_gulls_39 (by decide) (pj_ial hM (pc := 40) dX12_gulls_40 ki_60 (by decide) (by decide) k))))))))) ?_
  refine pj_tif (fun h10 => ?_) (fun h10 => ?_)
  · refine pj_map (fun k => pj_ic_ge_t hM (pc := 41) dX12_gulls_41 rfl h10 (pj_iconst hM (pc := 50) dX12_gulls_50 (by decide) (pj_istore_n hM (pc := 51) dX12_gulls_51 (by decide) (lls' := [(26, 0), (0, x1), (0, 0), (9, 0), (9, 0), (9, 0)]) rfl (pj_kill hM [true, true, true, false, false, false] (lls' := [(26, 0), (0, x1), (0, 0), (9, 0), (9, 0), (9, 0)]) rfl k)))) ?_
    exact tM_gulls_52 hM x1 w _ h0 _
  refine pj_tbind (fun p11 h12 => ?_)
  exact pj_tret (fun hr => pj_ic_ge_f hM (pc := 41) 50 dX12_gulls_41 rfl h10 (pj_aload_n hM (pc := 44) dX12_gulls_44 rfl rfl (pj_iconst hM (pc := 45) dX12_gulls_45 (by decide) (pj_cV hM (pc := 46) (cM_refuse 3 w p11 h12) dX12_gulls_46 mf_X12_refuse mv_X12_refuse ml_X12_78 kc_26 rfl rfl (by decide) rfl rfl (pj_ret hM (pc := 49) dX12_gulls_49 ⟨_, rfl⟩ (h0 ((p11.1, p11.2)) hr) rfl)))))
theorem cM_gulls (x1 : Int)  (w : pj_W) (r : Int × pj_W) (h : fM_gulls x1 w = some r) : pj_Cn l yX12_gulls cX12_gulls 6 (some .int) 2 42 true g [(26, 0), (0, x1)] w ((some (0, r.1) : Option pj_V), r.2) :=
  pj_Cn_of rfl (Nat.le_of_ble_eq_true rfl) (lls := [(26, 0), (0, x1), (9, 0), (9, 0), (9, 0), (9, 0)]) rfl (fun Go hM => tM_gulls hM x1 w (fun x => ((some (0, x.1) : Option pj_V), x.2) = ((some (0, r.1) : Option pj_V), r.2)) (fun r h => h) r h rfl)
noncomputable def fM_init_c  (w : pj_W) : Option (pj_W) :=
  if pj_nk w = 60 then (if pj_nx w = 0 then ((some (pj_up w)).bind fun w3 => (if pj_nk (pj_set w3 26 0 0 0) = 61 then (if pj_nx (pj_set w3 26 0 0 0) = 0 then ((some (pj_up (pj_set w3 26 0 0 0))).bind fun w6 => (if pj_nk (pj_set (pj_set w6 26 0 1 0) 26 0 4 1) = 62 then (if pj_nx (pj_set (pj_set w6 26 0 1 0) 26 0 4 1) = 0 then ((some (pj_up (pj_set (pj_set w6 26 0 1 0) 26 0 4 1))).bind fun w9 => (if pj_nk (pj_set w9 26 0 5 0) = 63 then (if pj_nx (pj_set w9 26 0 5 0) = 0 then ((some (pj_up (pj_set w9 26 0 5 0))).bind fun w12 => ((some (pj_set (pj_set (pj_set (pj_set (pj_set w12 63 0 0 (-1)) 63 0 1 (-1)) 63 0 2 (-1)) 63 0 3 (-1)) 26 0 6 0)).bind fun w13 => (if pj_nk w13 = 64 then (if pj_nx w13 = 0 then ((some (pj_up w13)).bind fun w16 => (if pj_nk (pj_set w16 26 0 7 0) = 65 then (if pj_nx (pj_set w16 26 0 7 0) = 0 then ((some (pj_up (pj_set w16 26 0 7 0))).bind fun w19 => (if pj_nk (pj_set w19 26 0 8 0) = 66 then (if pj_nx (pj_set w19 26 0 8 0) = 0 then ((some (pj_up (pj_set w19 26 0 8 0))).bind fun w22 => (if pj_nk (pj_set (pj_set (pj_set w22 26 0 9 0) 26 0 16 (-1)) 26 0 17 (-1)) = 67 then (if pj_nx (pj_set (pj_set (pj_set w22 26 0 9 0) 26 0 16 (-1)) 26 0 17 (-1)) = 0 then ((some (pj_up (pj_set (pj_set (pj_set w22 26 0 9 0) 26 0 16 (-1)) 26 0 17 (-1)))).bind fun w25 => (if pj_nk (pj_set w25 26 0 22 0) = 68 then (if pj_nx (pj_set w25 26 0 22 0) = 0 then ((some (pj_up (pj_set w25 26 0 22 0))).bind fun w28 => (if pj_nk (pj_set w28 26 0 25 0) = 69 then (if pj_nx (pj_set w28 26 0 25 0) = 0 then ((some (pj_up (pj_set w28 26 0 25 0))).bind fun w31 => (if pj_nk (pj_set w31 26 0 26 0) = 70 then (if pj_nx (pj_set w31 26 0 26 0) = 0 then ((some (pj_up (pj_set w31 26 0 26 0))).bind fun w34 => (if pj_nk (pj_set w34 26 0 27 0) = 71 then (if pj_nx (pj_set w34 26 0 27 0) = 0 then ((some (pj_up (pj_set w34 26 0 27 0))).bind fun w37 => (if pj_nk (pj_set w37 26 0 28 0) = 72 then (if pj_nx (pj_set w37 26 0 28 0) = 0 then ((some (pj_up (pj_set w37 26 0 28 0))).bind fun w40 => (if pj_nk (pj_set w40 26 0 33 0) = 73 then (if pj_nx (pj_set w40 26 0 33 0) = 0 then ((some (pj_up (pj_set w40 26 0 33 0))).bind fun w43 => (if pj_nk (pj_set w43 26 0 34 0) = 74 then (if pj_nx (pj_set w43 26 0 34 0) = 0 then ((some (pj_up (pj_set w43 26 0 34 0))).bind fun w46 => ((fM_plain_c 0 (pj_set w46 26 0 35 0)).bind fun p47 => (if 0 ≤ (p47 26 0 0) then (if 0 ≤ ((pj_set p47 60 (p47 26 0 0) 0 2) 26 0 0) then (some ((pj_set (pj_set p47 60 (p47 26 0 0) 0 2) 60 ((pj_set p47 60 (p47 26 0 0) 0 2) 26 0 0) 3 60))) else none) else none))) else none) else none)) else none) else none)) else none) else none)) else none) else none)) else none) else none)) else none) else none)) else none) else none)) else none) else none)) else none) else none)) else none) else none)) else none) else none))) else none) else none)) else none) else none)) else none) else none)) else none) else none
theorem tM_init_c {Go : pj_C → Prop} (hM : pj_M l yX12_init cX12_init 1 none 1 22 false g n0 o Go)  (w : pj_W)  (R : pj_W → Prop) (h0 : ∀ r, R (r) → ((none : Option pj_V), r) = o) : pj_TG R (fM_init_c  w) (Go (0, [(26, 0)], [], w)) := by
  unfold fM_init_c
  refine pj_tgd (fun h1 => ?_)
  refine pj_tgd (fun h2 => ?_)
  refine pj_map (fun k => pj_aload_n hM (pc := 0) dX12_init_0 rfl rfl (pj_obj hM (pc := 1) dX12_init_1 ml_X12_1 mo_I mo_C (by decide) (by decide) rfl rfl (pj_aload_n hM (pc := 4) dX12_init_4 rfl rfl (pj_sipush hM (pc := 5) dX12_init_5 (by decide) (pj_newaZ hM (pc := 8) dX12_init_8 mo_int (Or.inl ⟨rfl, rfl, rfl, fun _ => rfl⟩) rfl (by decide) (by decide) h1 h2 k))))) ?_
  refine pj_tlet (fun w3 => Go (10, [(26, 0)], [(60, 0), (26, 0)], w3)) (fun w3 => ?_)
  refine pj_tgd (fun h4 => ?_)
  refine pj_tgd (fun h5 => ?_)
  refine pj_map (fun k => pj_pfF hM (pc := 10) dX12_init_10 fl_X12_7 rfl (fun C T h => by cases h; rfl) (by decide) rfl (by decide) (by decide) 0 rfl (pj_aload_n hM (pc := 13) dX12_init_13 rfl rfl (pj_bipush hM (pc := 14) dX12_init_14 (by decide) (pj_newaZ hM (pc := 16) dX12_init_16 mo_long (Or.inr (Or.inr ⟨rfl, rfl, rfl, fun _ => rfl⟩)) rfl (by decide) (by decide) h4 h5 k)))) ?_
  refine pj_tlet (fun w6 => Go (18, [(26, 0)], [(61, 0), (26, 0)], w6)) (fun w6 => ?_)
  refine pj_tgd (fun h7 => ?_)
  refine pj_tgd (fun h8 => ?_)
  refine pj_map (fun k => pj_pfF hM (pc := 18) dX12_init_18 fl_X12_13 rfl (fun C T h => by cases h; rfl) (by decide) rfl (by decide) (by decide) 1 rfl (pj_aload_n hM (pc := 21) dX12_init_21 rfl rfl (pj_lconst hM (pc := 22) (z := 1) dX12_init_22 rfl (by decide) (pj_pf hM (pc := 23) dX12_init_23 fl_X12_17 (by decide) rfl (fun h => absurd h (by decide)) (by decide) (fun _ => rfl) 4 rfl (pj_aload_n hM (pc := 26) dX12_init_26 rfl rfl (pj_iconst hM (pc := 27) dX12_init_27 (by decide) (pj_newaZ hM (pc := 28) dX12_init_28 mo_int (Or.inl ⟨rfl, rfl, rfl, fun _ => rfl⟩) rfl (by decide) (by decide) h7 h8 k))))))) ?_
  refine pj_tlet (fun w9 => Go (30, [(26, 0)], [(62, 0), (26, 0)], w9)) (fun w9 => ?_)
  refine pj_tgd (fun h10 => ?_)
  refine pj_tgd (fun h11 => ?_)
  refine pj_map (fun k => pj_pfF hM (pc := 30) dX12_init_30 fl_X12_21 rfl (fun C T h => by cases h; rfl) (by decide) rfl (by decide) (by decide) 5 rfl (pj_aload_n hM (pc := 33) dX12_init_33 rfl rfl (pj_iconst hM (pc := 34) dX12_init_34 (by decide) (pj_newaZ hM (pc := 35) dX12_init_35 mo_int (Or.inl ⟨rfl, rfl, rfl, fun _ => rfl⟩) rfl (by decide) (by decide) h10 h11 k)))) ?_
  refine pj_tlet (fun w12 => Go (37, [(26, 0)], [(63, 0), (26, 0)], w12)) (fun w12 => ?_)
  refine pj_map (fun k => pj_dup hM (pc := 37) dX12_init_37 (by decide) (pj_iconst hM (pc := 38) dX12_init_38 (by decide) (pj_iconst hM (pc := 39) dX12_init_39 (by decide) (pj_ias hM (pc := 40) dX12_init_40 ki_63 (by decide) (by decide) (pj_dup hM (pc := 41) dX12_init_41 (by decide) (pj_iconst hM (pc := 42) dX12_init_42 (by decide) (pj_iconst hM (pc := 43) dX12_init_43 (by decide) (pj_ias hM (pc := 44) dX12_init_44 ki_63 (by decide) (by decide) (pj_dup hM (pc := 45) dX12_init_45 (by decide) (pj_iconst hM (pc := 46) dX12_init_46 (by decide) (pj_iconst hM (pc := 47) dX12_init_47 (by decide) (pj_ias hM (pc := 48) dX12_init_48 ki_63 (by decide) (by decide) (pj_dup hM (pc := 49) dX12_init_49 (by decide) (pj_iconst hM (pc := 50) dX12_init_50 (by decide) (pj_iconst hM (pc := 51) dX12_init_51 (by decide) (pj_ias hM (pc := 52) dX12_init_52 ki_63 (by decide) (by decide) (pj_pfF hM (pc := 53) dX12_init_53 fl_X12_24 rfl (fun C T h => by cases h; rfl) (by decide) rfl (by decide) (by decide) 6 rfl k))))))))))))))))) ?_
  refine pj_tlet (fun w13 => Go (56, [(26, 0)], [], w13)) (fun w13 => ?_)
  refine pj_tgd (fun h14 => ?_)
  refine pj_tgd (fun h15 => ?_)
  refine pj_map (fun k => pj_aload_n hM (pc := 56) dX12_init_56 rfl rfl (pj_sipush hM (pc := 57) dX12_init_57 (by decide) (pj_newaZ hM (pc := 60) dX12_init_60 mo_long (Or.inr (Or.inr ⟨rfl, rfl, rfl, fun _ => rfl⟩)) rfl (by decide) (by decide) h14 h15 k))) ?_
  refine pj_tlet (fun w16 => Go (62, [(26, 0)], [(64, 0), (26, 0)], w16)) (fun w16 => ?_)
  refine pj_tgd (fun h17 => ?_)
  refine pj_tgd (fun h18 => ?_)
  refine pj_map (fun k => pj_pfF hM (pc := 62) dX12_init_62 fl_X12_27 rfl (fun C T h => by cases h; rfl) (by decide) rfl (by decide) (by decide) 7 rfl (pj_aload_n hM (pc := 65) dX12_init_65 rfl rfl (pj_sipush hM (pc := 66) dX12_init_66 (by decide) (pj_newaZ hM (pc := 69) dX12_init_69 mo_byte (Or.inr (Or.inl ⟨rfl, rfl, rfl, fun _ => rfl⟩)) rfl (by decide) (by decide) h17 h18 k)))) ?_
  refine pj_tlet (fun w19 => Go (71, [(26, 0)], [(65, 0), (26, 0)], w19)) (fun w19 => ?_)
  refine pj_tgd (fun h20 => ?_)
  refine pj_tgd (fun h21 => ?_)
  refine pj_map (fun k => pj_pfF hM (pc := 71) dX12_init_71 fl_X12_30 rfl (fun C T h => by cases h; rfl) (by decide) rfl (by decide) (by decide) 8 rfl (pj_aload_n hM (pc := 74) dX12_init_74 rfl rfl (pj_sipush hM (pc := 75) dX12_init_75 (by decide) (pj_newaZ hM (pc := 78) dX12_init_78 mo_byte (Or.inr (Or.inl ⟨rfl, rfl, rfl, fun _ => rfl⟩)) rfl (by decide) (by decide) h20 h21 k)))) ?_
  refine pj_tlet (fun w22 => Go (80, [(26, 0)], [(66, 0), (26, 0)], w22)) (fun w22 => ?_)
  refine pj_tgd (fun h23 => ?_)
  refine pj_tgd (fun h24 => ?_)
  refine pj_map (fun k => pj_pfF hM (pc := 80) dX12_init_80 fl_X12_34 rfl (fun C T h => by cases h; rfl) (by decide) rfl (by decide) (by decide) 9 rfl (pj_aload_n hM (pc := 83) dX12_init_83 rfl rfl (pj_iconst hM (pc := 84) dX12_init_84 (by decide) (pj_pf hM (pc := 85) dX12_init_85 fl_X12_37 (by decide) rfl (fun h => absurd h (by decide)) (by decide) (fun _ => rfl) 16 rfl (pj_aload_n hM (pc := 88) dX12_init_88 rfl rfl (pj_iconst hM (pc := 89) dX12_init_89 (by decide) (pj_pf hM (pc := 90) dX12_init_90 fl_X12_41 (by decide) rfl (fun h => absurd h (by decide)) (by decide) (fun _ => rfl) 17 rfl (pj_aload_n hM (pc := 93) dX12_init_93 rfl rfl (pj_iconst hM (pc := 94) dX12_init_94 (by decide) (pj_newaZ hM (pc := 95) dX12_init_95 mo_int (Or.inl ⟨rfl, rfl, rfl, fun _ => rfl⟩) rfl (by decide) (by decide) h23 h24 k)))))))))) ?_
  refine pj_tlet (fun w25 => Go (97, [(26, 0)], [(67, 0), (26, 0)], w25)) (fun w25 => ?_)
  refine pj_tgd (fun h26 => ?_)
  refine pj_tgd (fun h27 => ?_)
  refine pj_map (fun k => pj_pfF hM (pc := 97) dX12_init_97 fl_X12_44 rfl (fun C T h => by cases h; rfl) (by decide) rfl (by decide) (by decide) 22 rfl (pj_aload_n hM (pc := 100) dX12_init_100 rfl rfl (pj_bipush hM (pc := 101) dX12_init_101 (by decide) (pj_newaZ hM (pc := 103) dX12_init_103 mo_int (Or.inl ⟨rfl, rfl, rfl, fun _ => rfl⟩) rfl (by decide) (by decide) h26 h27 k)))) ?_
  refine pj_tlet (fun w28 => Go (105, [(26, 0)], [(68, 0), (26, 0)], w28)) (fun w28 => ?_)
  refine pj_tgd (fun h29 => ?_)
  refine pj_tgd (fun h30 => ?_)
  refine pj_map (fun k => pj_pfF hM (pc := 105) dX12_init_105 fl_X12_47 rfl (fun C T h => by cases h; rfl) (by decide) rfl (by decide) (by decide) 25 rfl (pj_aload_n hM (pc := 108) dX12_init_108 rfl rfl (pj_bipush hM (pc := 109) dX12_init_109 (by decide) (pj_newaZ hM (pc := 111) dX12_init_111 mo_int (Or.inl ⟨rfl, rfl, rfl, fun _ => rfl⟩) rfl (by decide) (by decide) h29 h30 k)))) ?_
  refine pj_tlet (fun w31 => Go (113, [(26, 0)], [(69, 0), (26, 0)], w31)) (fun w31 => ?_)
  refine pj_tgd (fun h32 => ?_)
  refine pj_tgd (fun h33 => ?_)
  refine pj_map (fun k => pj_pfF hM (pc := 113) dX12_init_113 fl_X12_50 rfl (fun C T h => by cases h; rfl) (by decide) rfl (by decide) (by decide) 26 rfl (pj_aload_n hM (pc := 116) dX12_init_116 rfl rfl (pj_bipush hM (pc := 117) dX12_init_117 (by decide) (pj_newaZ hM (pc := 119) dX12_init_119 mo_int (Or.inl ⟨rfl, rfl, rfl, fun _ => rfl⟩) rfl (by decide) (by decide) h32 h33 k)))) ?_
  refine pj_tlet (fun w34 => Go (121, [(26, 0)], [(70, 0), (26, 0)], w34)) (fun w34 => ?_)
  refine pj_tgd (fun h35 => ?_)
  refine pj_tgd (fun h36 => ?_)
  refine pj_map (fun k => pj_pfF hM (pc := 121) dX12_init_121 fl_X12_53 rfl (fun C T h => by cases h; rfl) (by decide) rfl (by decide) (by decide) 27 rfl (pj_aload_n hM (pc := 124) dX12_init_124 rfl rfl (pj_bipush hM (pc := 125) dX12_init_125 (by decide) (pj_newaZ hM (pc := 127) dX12_init_127 mo_int (Or.inl ⟨rfl, rfl, rfl, fun _ => rfl⟩) rfl (by decide) (by decide) h35 h36 k)))) ?_
  refine pj_tlet (fun w37 => Go (129, [(26, 0)], [(71, 0), (26, 0)], w37)) (fun w37 => ?_)
  refine pj_tgd (fun h38 => ?_)
  refine pj_tgd (fun h39 => ?_)
  refine pj_map (fun k => pj_pfF hM (pc := 129) dX12_init_129 fl_X12_56 rfl (fun C T h => by cases h; rfl) (by decide) rfl (by decide) (by decide) 28 rfl (pj_aload_n hM (pc := 132) dX12_init_132 rfl rfl (pj_bipush hM (pc := 133) dX12_init_133 (by decide) (pj_newaZ hM (pc := 135) dX12_init_135 mo_int (Or.inl ⟨rfl, rfl, rfl, fun _ => rfl⟩) rfl (by decide) (by decide) h38 h39 k)))) ?_
  refine pj_tlet (fun w40 => Go (137, [(26, 0)], [(72, 0), (26, 0)], w40)) (fun w40 => ?_)
  refine pj_tgd (fun h41 => ?_)
  refine pj_tgd (fun h42 => ?_)
  refine pj_map (fun k => pj_pfF hM (pc := 137) dX12_init_137 fl_X12_59 rfl (fun C T h => by cases h; rfl) (by decide) rfl (by decide) (by decide) 33 rfl (pj_aload_n hM (pc := 140) dX12_init_140 rfl rfl (pj_iconst hM (pc := 141) dX12_init_141 (by decide) (pj_newaZ hM (pc := 142) dX12_init_142 mo_int (Or.inl ⟨rfl, rfl, rfl, fun _ => rfl⟩) rfl (by decide) (by decide) h41 h42 k)))) ?_
  refine pj_tlet (fun w43 => Go (144, [(26, 0)], [(73, 0), (26, 0)], w43)) (fun w43 => ?_)
  refine pj_tgd (fun h44 => ?_)
  refine pj_tgd (fun h45 => ?_)
  refine pj_map (fun k => pj_pfF hM (pc := 144) dX12_init_144 fl_X12_62 rfl (fun C T h => by cases h; rfl) (by decide) rfl (by decide) (by decide) 34 rfl (pj_aload_n hM (pc := 147) dX12_init_147 rfl rfl (pj_iconst hM (pc := 148) dX12_init_148 (by decide) (pj_newaZ hM (pc := 149) dX12_init_149 mo_int (Or.inl ⟨rfl, rfl, rfl, fun _ => rfl⟩) rfl (by decide) (by decide) h44 h45 k)))) ?_
  refine pj_tlet (fun w46 => Go (151, [(26, 0)], [(74, 0), (26, 0)], w46)) (fun w46 => ?_)
  refine pj_tbind (fun p47 h48 => ?_)
  refine pj_tgd (fun h49 => ?_)
  refine pj_tgd (fun h50 => ?_)
  exact pj_tret (fun hr => pj_pfF hM (pc := 151) dX12_init_151 fl_X12_65 rfl (fun C T h => by cases h; rfl) (by decide) rfl (by decide) (by decide) 35 rfl (pj_aload_n hM (pc := 154) dX12_init_154 rfl rfl (pj_iconst hM (pc := 155) dX12_init_155 (by decide) (pj_cVv hM (pc := 156) (cM_plain_c 0 (pj_set w46 26 0 35 0) p47 h48) dX12_init_156 mf_X12_plain mv_X12_plain ml_X12_68 kc_26 rfl rfl (by decide) rfl rfl (pj_aload_n hM (pc := 159) dX12_init_159 rfl rfl (pj_gf hM (pc := 160) (t := 60) dX12_init_160 fl_X12_7 (by decide) rfl 0 rfl (pj_iconst hM (pc := 163) dX12_init_163 (by decide) (pj_iconst hM (pc := 164) dX12_init_164 (by decide) (pj_ias hM (pc := 165) dX12_init_165 ki_60 h49 (by decide) (pj_aload_n hM (pc := 166) dX12_init_166 rfl rfl (pj_gf hM (pc := 167) (t := 60) dX12_init_167 fl_X12_7 (by decide) rfl 0 rfl (pj_iconst hM (pc := 170) dX12_init_170 (by decide) (pj_bipush hM (pc := 171) dX12_init_171 (by decide) (pj_ias hM (pc := 173) dX12_init_173 ki_60 h50 (by decide) (pj_ret hM (pc := 174) dX12_init_174 rfl (h0 ((pj_set (pj_set p47 60 (p47 26 0 0) 0 2) 60 ((pj_set p47 60 (p47 26 0 0) 0 2) 26 0 0) 3 60)) hr) rfl)))))))))))))))
theorem cM_init_c   (w : pj_W) (r : pj_W) (h : fM_init_c  w = some r) : pj_Cn l yX12_init cX12_init 1 none 1 22 false g [(26, 0)] w ((none : Option pj_V), r) :=
  pj_Cn_of rfl (Nat.le_of_ble_eq_true rfl) (lls := [(26, 0)]) rfl (fun Go hM => tM_init_c hM w (fun x => ((none : Option pj_V), x) = ((none : Option pj_V), r)) (fun r h => h) r h rfl)
noncomputable def fM_wrongFind (x1 : Int) (w : pj_W) : Option (Int) :=
  (fM_isFind x1 w).bind fun p1 => (if p1 = 0 then (some (1)) else ((fM_isThere x1 w).bind fun p4 => (if p4 = 0 then (some (7)) else (some (0)))))
theorem tM_wrongFind {Go : pj_C → Prop} (hM : pj_M l yX12_wrongFind cX12_wrongFind 2 (some .int) 1 21 true g n0 o Go) (x1 : Int) (w : pj_W)  (R : Int → Prop) (h0 : ∀ r, R (r) → ((some (0, r) : Option pj_V), w) = o) : pj_TG R (fM_wrongFind x1 w) (Go (0, [(26, 0), (0, x1)], [], w)) := by
  unfold fM_wrongFind
  refine pj_tbind (fun p1 h2 => ?_)
  refine pj_map (fun k => pj_aload_n hM (pc := 0) dX12_wrongFind_0 rfl rfl (pj_iload_n hM (pc := 1) dX12_wrongFind_1 rfl (pj_cV hM (pc := 2) (cM_isFind x1 w p1 h2) dX12_wrongFind_2 mf_X12_isFind mv_X12_isFind ml_X12_265 kc_26 rfl rfl (by decide) rfl rfl k))) ?_
  refine pj_tif (fun h3 => ?_) (fun h3 => ?_)
  · exact pj_tret (fun hr => pj_if_ne_f hM (pc := 5) 12 dX12_wrongFind_5 rfl (fun q => q h3) (pj_iconst hM (pc := 8) dX12_wrongFind_8 (by decide) (pj_goto hM (pc := 9) dX12_wrongFind_9 rfl (pj_ret hM (pc := 26) dX12_wrongFind_26 ⟨_, rfl⟩ (h0 (1) hr) rfl))))
  refine pj_tbind (fun p4 h5 => ?_)
  refine pj_map (fun k => pj_if_ne_t hM (pc := 5) dX12_wrongFind_5 rfl h3 (pj_aload_n hM (pc := 12) dX12_wrongFind_12 rfl rfl (pj_iload_n hM (pc := 13) dX12_wrongFind_13 rfl (pj_cV hM (pc := 14) (cM_isThere x1 w p4 h5) dX12_wrongFind_14 mf_X12_isThere mv_X12_isThere ml_X12_268 kc_26 rfl rfl (by decide) rfl rfl k)))) ?_
  refine pj_tif (fun h6 => ?_) (fun h6 => ?_)
  · exact pj_tret (fun hr => pj_if_eq_t hM (pc := 17) dX12_wrongFind_17 rfl h6 (pj_bipush hM (pc := 24) dX12_wrongFind_24 (by decide) (pj_ret hM (pc := 26) dX12_wrongFind_26 ⟨_, rfl⟩ (h0 (7) hr) rfl)))
  exact pj_tret (fun hr => pj_if_eq_f hM (pc := 17) 24 dX12_wrongFind_17 rfl h6 (pj_iconst hM (pc := 20) dX12_wrongFind_20 (by decide) (pj_goto hM (pc := 21) dX12_wrongFind_21 rfl (pj_ret hM (pc := 26) dX12_wrongFind_26 ⟨_, rfl⟩ (h0 (0) hr) rfl))))
theorem cM_wrongFind (x1 : Int)  (w : pj_W) (r : Int) (h : fM_wrongFind x1 w = some r) : pj_Cn l yX12_wrongFind cX12_wrongFind 2 (some .int) 1 21 true g [(26, 0), (0, x1)] w ((some (0, r) : Option pj_V), w) :=
  pj_Cn_of rfl (Nat.le_of_ble_eq_true rfl) (lls := [(26, 0), (0, x1)]) rfl (fun Go hM => tM_wrongFind hM x1 w (fun x => ((some (0, x) : Option pj_V), w) = ((some (0, r) : Option pj_V), w)) (fun r h => h) r h rfl)
noncomputable def fM_last (x1 : Int) (w : pj_W) : Option (Int × pj_W) :=
  (fM_wrongFind x1 w).bind fun p1 => (if p1 ≤ 0 then ((fM_lastOn x1 w).bind fun p4 => ((fM_gives p4 w).bind fun p6 => (some ((p6.1, p6.2))))) else ((fM_refuse p1 w).bind fun p8 => (some ((p8.1, p8.2)))))
theorem tM_last {Go : pj_C → Prop} (hM : pj_M l yX12_last cX12_last 3 (some .int) 3 67 true g n0 o Go) (x1 : Int) (w : pj_W)  (R : Int × pj_W → Prop) (h0 : ∀ r, R (r) → ((some (0, r.1) : Option pj_V), r.2) = o) : pj_TG R (fM_last x1 w) (Go (0, [(26, 0), (0, x1), (9, 0)], [], w)) := by
  unfold fM_last
  refine pj_tbind (fun p1 h2 => ?_)
  refine pj_map (fun k => pj_aload_n hM (pc := 0) dX12_last_0 rfl rfl (pj_iload_n hM (pc := 1) dX12_last_1 rfl (pj_cV hM (pc := 2) (cM_wrongFind x1 w p1 h2) dX12_last_2 mf_X12_wrongFind mv_X12_wrongFind ml_X12_349 kc_26 rfl rfl (by decide) rfl rfl (pj_istore_n hM (pc := 5) dX12_last_5 (by decide) (lls' := [(26, 0), (0, x1), (0, p1)]) rfl (pj_iload_n hM (pc := 6) dX12_last_6 rfl k))))) ?_
  refine pj_tif (fun h3 => ?_) (fun h3 => ?_)
  · refine pj_tbind (fun p4 h5 => ?_)
    refine pj_tbind (fun p6 h7 => ?_)
    exact pj_tret (fun hr => pj_if_le_t hM (pc := 7) dX12_last_7 rfl h3 (pj_aload_n hM (pc := 18) dX12_last_18 rfl rfl (pj_aload_n hM (pc := 19) dX12_last_19 rfl rfl (pj_iload_n hM (pc := 20) dX12_last_20 rfl (pj_cV hM (pc := 21) (cM_lastOn x1 w p4 h5) dX12_last_21 mf_X12_lastOn mv_X12_lastOn ml_X12_337 kc_26 rfl rfl (by decide) rfl rfl (pj_cV hM (pc := 24) (cM_gives p4 w p6 h7) dX12_last_24 mf_X12_gives mv_X12_gives ml_X12_82 kc_26 rfl rfl (by decide) rfl rfl (pj_ret hM (pc := 27) dX12_last_27 ⟨_, rfl⟩ (h0 ((p6.1, p6.2)) hr) rfl)))))))
  refine pj_tbind (fun p8 h9 => ?_)
  exact pj_tret (fun hr => pj_if_le_f hM (pc := 7) 18 dX12_last_7 rfl h3 (pj_aload_n hM (pc := 10) dX12_last_10 rfl rfl (pj_iload_n hM (pc := 11) dX12_last_11 rfl (pj_cV hM (pc := 12) (cM_refuse p1 w p8 h9) dX12_last_12 mf_X12_refuse mv_X12_refuse ml_X12_78 kc_26 rfl rfl (by decide) rfl rfl (pj_goto hM (pc := 15) dX12_last_15 rfl (pj_ret hM (pc := 27) dX12_last_27 ⟨_, rfl⟩ (h0 ((p8.1, p8.2)) hr) rfl))))))
theorem cM_last (x1 : Int)  (w : pj_W) (r : Int × pj_W) (h : fM_last x1 w = some r) : pj_Cn l yX12_last cX12_last 3 (some .int) 3 67 true g [(26, 0), (0, x1)] w ((some (0, r.1) : Option pj_V), r.2) :=
  pj_Cn_of rfl (Nat.le_of_ble_eq_true rfl) (lls := [(26, 0), (0, x1), (9, 0)]) rfl (fun Go hM => tM_last hM x1 w (fun x => ((some (0, x.1) : Option pj_V), x.2) = ((some (0, r.1) : Option pj_V), r.2)) (fun r h => h) r h rfl)
noncomputable def fM_lateness_20  (w : pj_W) : Option (Int × pj_W) :=
  (fM_refuse 1 w).bind fun p1 => (some ((p1.1, p1.2)))
noncomputable def fM_lateness (x1 : Int) (x2 : Int) (w : pj_W) : Option (Int × pj_W) :=
  (fM_isFinder x1 w).bind fun p1 => (if p1 = 0 then (fM_lateness_20 w) else ((fM_isFrom x2 0 240 w).bind fun p4 => (if p4 = 0 then (fM_lateness_20 w) else ((fM_rounds x1 (pj_wr ((w 60 0 3) + x2)) w).bind fun p7 => ((fM_rounds x1 (p7.2 60 0 3) p7.2).bind fun p9 => ((fM_gives (pj_wr (p7.1 - p9.1)) p9.2).bind fun p11 => (some ((p11.1, p11.2)))))))))
theorem tM_lateness_20 {Go : pj_C → Prop} (hM : pj_M l yX12_lateness cX12_lateness 3 (some .int) 4 99 true g n0 o Go)  (w : pj_W)  (R : Int × pj_W → Prop) (h0 : ∀ r, R (r) → ((some (0, r.1) : Option pj_V), r.2) = o) : pj_TG R (fM_lateness_20  w) (Go (20, [(26, 0), (9, 0), (9, 0)], [], w)) := by
  unfold fM_lateness_20
  refine pj_tbind (fun p1 h2 => ?_)
  exact pj_tret (fun hr => pj_aload_n hM (pc := 20) dX12_lateness_20 rfl rfl (pj_iconst hM (pc := 21) dX12_lateness_21 (by decide) (pj_cV hM (pc := 22) (cM_refuse 1 w p1 h2) dX12_lateness_22 mf_X12_refuse mv_X12_refuse ml_X12_78 kc_26 rfl rfl (by decide) rfl rfl (pj_ret hM (pc := 25) dX12_lateness_25 ⟨_, rfl⟩ (h0 ((p1.1, p1.2)) hr) rfl))))
theorem tM_lateness {Go : pj_C → Prop} (hM : pj_M l yX12_lateness cX12_lateness 3 (some .int) 4 99 true g n0 o Go) (x1 : Int) (x2 : Int) (w : pj_W)  (R : Int × pj_W → Prop) (h0 : ∀ r, R (r) → ((some (0, r.1) : Option pj_V), r.2) = o) : pj_TG R (fM_lateness x1 x2 w) (Go (0, [(26, 0), (0, x1), (0, x2)], [], w)) := by
  unfold fM_lateness
  refine pj_tbind (fun p1 h2 => ?_)
  refine pj_map (fun k => pj_aload_n hM (pc := 0) dX12_lateness_0 rfl rfl (pj_iload_n hM (pc := 1) dX12_lateness_1 rfl (pj_cV hM (pc := 2) (cM_isFinder x1 w p1 h2) dX12_lateness_2 mf_X12_isFinder mv_X12_isFinder ml_X12_271 kc_26 rfl rfl (by decide) rfl rfl k))) ?_
  refine pj_tif (fun h3 => ?_) (fun h3 => ?_)
  · refine pj_map (fun k => pj_if_eq_t hM (pc := 5) dX12_lateness_5 rfl h3 (pj_kill hM [true, false, false] (lls' := [(26, 0), (9, 0), (9, 0)]) rfl k)) ?_
    exact tM_lateness_20 hM w _ h0
  refine pj_tbind (fun p4 h5 => ?_)
  refine pj_map (fun k => pj_if_eq_f hM (pc := 5) 20 dX12_lateness_5 rfl h3 (pj_iload_n hM (pc := 8) dX12_lateness_8 rfl (pj_i2l hM (pc := 9) dX12_lateness_9 (pj_lconst hM (pc := 10) (z := 0) dX12_lateness_10 rfl (by decide) (pj_ldc2 hM (pc := 11) (z := 240) dX12_lateness_11 kn_X12_296 rfl (by decide) (pj_cS hM (pc := 14) (cM_isFrom x2 0 240 w p4 h5) dX12_lateness_14 mf_X12_isFrom ms_X12_isFrom ml_X12_289 rfl rfl rfl rfl k)))))) ?_
  refine pj_tif (fun h6 => ?_) (fun h6 => ?_)
  · refine pj_map (fun k => pj_if_ne_f hM (pc := 17) 26 dX12_lateness_17 rfl (fun q => q h6) (pj_kill hM [true, false, false] (lls' := [(26, 0), (9, 0), (9, 0)]) rfl k)) ?_
    exact tM_lateness_20 hM w _ h0
  refine pj_tbind (fun p7 h8 => ?_)
  refine pj_tbind (fun p9 h10 => ?_)
  refine pj_tbind (fun p11 h12 => ?_)
  exact pj_tret (fun hr => pj_if_ne_t hM (pc := 17) dX12_lateness_17 rfl h6 (pj_aload_n hM (pc := 26) dX12_lateness_26 rfl rfl (pj_aload_n hM (pc := 27) dX12_lateness_27 rfl rfl (pj_iload_n hM (pc := 28) dX12_lateness_28 rfl (pj_aload_n hM (pc := 29) dX12_lateness_29 rfl rfl (pj_getF hM (pc := 30) (t := 60) dX12_lateness_30 fl_X12_7 (by decide) rfl rfl (pj_iconst hM (pc := 33) dX12_lateness_33 (by decide) (pj_ial hM (pc := 34) dX12_lateness_34 ki_60 (by decide) (by decide) (pj_iload_n hM (pc := 35) dX12_lateness_35 rfl (pj_iadd hM (pc := 36) dX12_lateness_36 (pj_cV hM (pc := 37) (cM_rounds x1 (pj_wr ((w 60 0 3) + x2)) w p7 h8) dX12_lateness_37 mf_X12_rounds mv_X12_rounds ml_X12_399 kc_26 rfl rfl (by decide) rfl rfl (pj_aload_n hM (pc := 40) dX12_lateness_40 rfl rfl (pj_iload_n hM (pc := 41) dX12_lateness_41 rfl (pj_aload_n hM (pc := 42) dX12_lateness_42 rfl rfl (pj_getF hM (pc := 43) (t := 60) dX12_lateness_43 fl_X12_7 (by decide) rfl rfl (pj_iconst hM (pc := 46) dX12_lateness_46 (by decide) (pj_ial hM (pc := 47) dX12_lateness_47 ki_60 (by decide) (by decide) (pj_cV hM (pc := 48) (cM_rounds x1 (p7.2 60 0 3) p7.2 p9 h10) dX12_lateness_48 mf_X12_rounds mv_X12_rounds ml_X12_399 kc_26 rfl rfl (by decide) rfl rfl (pj_isub hM (pc := 51) dX12_lateness_51 (pj_cV hM (pc := 52) (cM_gives (pj_wr (p7.1 - p9.1)) p9.2 p11 h12) dX12_lateness_52 mf_X12_gives mv_X12_gives ml_X12_82 kc_26 rfl rfl (by decide) rfl rfl (pj_ret hM (pc := 55) dX12_lateness_55 ⟨_, rfl⟩ (h0 ((p11.1, p11.2)) hr) rfl)))))))))))))))))))))
theorem cM_lateness (x1 : Int) (x2 : Int)  (w : pj_W) (r : Int × pj_W) (h : fM_lateness x1 x2 w = some r) : pj_Cn l yX12_lateness cX12_lateness 3 (some .int) 4 99 true g [(26, 0), (0, x1), (0, x2)] w ((some (0, r.1) : Option pj_V), r.2) :=
  pj_Cn_of rfl (Nat.le_of_ble_eq_true rfl) (lls := [(26, 0), (0, x1), (0, x2)]) rfl (fun Go hM => tM_lateness hM x1 x2 w (fun x => ((some (0, x.1) : Option pj_V), x.2) = ((some (0, r.1) : Option pj_V), r.2)) (fun r h => h) r h rfl)
noncomputable def fM_latest_39 (x1 : Int) (x2 : Int) (w : pj_W) : Option ((Int × Int) ⊕ (Int × pj_W)) :=
  some (Sum.inl (x1, (pj_wr (x2 + 1))))
noncomputable def fM_latest_4b  (w : pj_W) (x1 : Int) (x2 : Int) : Option ((Int × Int) ⊕ (Int × pj_W)) :=
  if (w 60 0 2) ≤ x2 then ((fM_orNone x1 w).bind fun p2 => (some (Sum.inr ((p2.1, p2.2))))) else ((fM_manyOn x2 w).bind fun p4 => (if p4 ≤ 0 then (fM_latest_39 x1 x2 w) else ((fM_manyOn x2 w).bind fun p7 => ((fM_minuteAt x2 (pj_wr (p7 - 1)) w).bind fun p9 => (fM_latest_39 (max x1 p9) x2 w)))))
noncomputable def fM_latest_4  (w : pj_W) (s : (Int × Int)) : Option (Int × pj_W) := pj_Lp (fun s : (Int × Int) => fM_latest_4b  w s.1 s.2) s
noncomputable def fM_latest  (w : pj_W) : Option (Int × pj_W) :=
  fM_latest_4 w ((-1), 0)
theorem tM_latest_39 {Go : pj_C → Prop} (hM : pj_M l yX12_latest cX12_latest 3 (some .int) 2 44 true g n0 o Go) (x1 : Int) (x2 : Int) (w : pj_W)  (R : (Int × Int) ⊕ (Int × pj_W) → Prop) (h0 : ∀ r, R (Sum.inr (r)) → ((some (0, r.1) : Option pj_V), r.2) = o) (hk4 : ∀ s, R (Sum.inl s) → Go (4, [(26, 0), (0, s.1), (0, s.2)], [], w)) : pj_TG R (fM_latest_39 x1 x2 w) (Go (39, [(26, 0), (0, x1), (0, x2)], [], w)) := by
  unfold fM_latest_39
  exact pj_tret (fun hr => pj_iinc hM (pc := 39) dX12_latest_39 rfl (by decide) (lls' := [(26, 0), (0, x1), (0, (pj_wr (x2 + 1)))]) rfl (pj_goto hM (pc := 42) dX12_latest_42 rfl (pj_kill hM [true, true, true] (lls' := [(26, 0), (0, x1), (0, (pj_wr (x2 + 1)))]) rfl ((hk4 _ hr)))))
theorem tM_latest_4b {Go : pj_C → Prop} (hM : pj_M l yX12_latest cX12_latest 3 (some .int) 2 44 true g n0 o Go)  (w : pj_W) (x1 : Int) (x2 : Int)  (R : (Int × Int) ⊕ (Int × pj_W) → Prop) (h0 : ∀ r, R (Sum.inr (r)) → ((some (0, r.1) : Option pj_V), r.2) = o) (hk4 : ∀ s, R (Sum.inl s) → Go (4, [(26, 0), (0, s.1), (0, s.2)], [], w)) : pj_TG R (fM_latest_4b  w x1 x2) (Go (4, [(26, 0), (0, x1), (0, x2)], [], w)) := by
  unfold fM_latest_4b
  refine pj_map (fun k => pj_iload_n hM (pc := 4) dX12_latest_4 rfl (pj_aload_n hM (pc := 5) dX12_latest_5 rfl rfl (pj_getF hM (pc := 6) (t := 60) dX12_latest_6 fl_X12_7 (by decide) rfl rfl (pj_iconst hM (pc := 9) dX12_latest_9 (by decide) (pj_ial hM (pc := 10) dX12_latest_10 ki_60 (by decide) (by decide) k))))) ?_
  refine pj_tif (fun h1 => ?_) (fun h1 => ?_)
  · refine pj_tbind (fun p2 h3 => ?_)
    exact pj_tret (fun hr => pj_ic_ge_t hM (pc := 11) dX12_latest_11 rfl h1 (pj_aload_n hM (pc := 45) dX12_latest_45 rfl rfl (pj_iload_n hM (pc := 46) dX12_latest_46 rfl (pj_cV hM (pc := 47) (cM_orNone x1 w p2 h3) dX12_latest_47 mf_X12_orNone mv_X12_orNone ml_X12_358 kc_26 rfl rfl (by decide) rfl rfl (pj_ret hM (pc := 50) dX12_latest_50 ⟨_, rfl⟩ (h0 ((p2.1, p2.2)) hr) rfl)))))
  refine pj_tbind (fun p4 h5 => ?_)
  refine pj_map (fun k => pj_ic_ge_f hM (pc := 11) 45 dX12_latest_11 rfl h1 (pj_aload_n hM (pc := 14) dX12_latest_14 rfl rfl (pj_iload_n hM (pc := 15) dX12_latest_15 rfl (pj_cV hM (pc := 16) (cM_manyOn x2 w p4 h5) dX12_latest_16 mf_X12_manyOn mv_X12_manyOn ml_X12_277 kc_26 rfl rfl (by decide) rfl rfl k)))) ?_
  refine pj_tif (fun h6 => ?_) (fun h6 => ?_)
  · refine pj_map (fun k => pj_if_le_t hM (pc := 19) dX12_latest_19 rfl h6 (pj_kill hM [true, true, true] (lls' := [(26, 0), (0, x1), (0, x2)]) rfl k)) ?_
    exact tM_latest_39 hM x1 x2 w _ h0 hk4
  refine pj_tbind (fun p7 h8 => ?_)
  refine pj_tbind (fun p9 h10 => ?_)
  refine pj_map (fun k => pj_if_le_f hM (pc := 19) 39 dX12_latest_19 rfl h6 (pj_iload_n hM (pc := 22) dX12_latest_22 rfl (pj_aload_n hM (pc := 23) dX12_latest_23 rfl rfl (pj_iload_n hM (pc := 24) dX12_latest_24 rfl (pj_aload_n hM (pc := 25) dX12_latest_25 rfl rfl (pj_iload_n hM (pc := 26) dX12_latest_26 rfl (pj_cV hM (pc := 27) (cM_manyOn x2 w p7 h8) dX12_latest_27 mf_X12_manyOn mv_X12_manyOn ml_X12_277 kc_26 rfl rfl (by decide) rfl rfl (pj_iconst hM (pc := 30) dX12_latest_30 (by decide) (pj_isub hM (pc := 31) dX12_latest_31 (pj_cV hM (pc := 32) (cM_minuteAt x2 (pj_wr (p7 - 1)) w p9 h10) dX12_latest_32 mf_X12_minuteAt mv_X12_minuteAt ml_X12_314 kc_26 rfl rfl (by decide) rfl rfl (pj_mmax hM (pc := 35) dX12_latest_35 mf_J9_max_7cf53 ms_J9_max_7cf53 ml_X12_375 rfl (pj_istore_n hM (pc := 38) dX12_latest_38 (by decide) (lls' := [(26, 0), (0, (max x1 p9)), (0, x2)]) rfl (pj_kill hM [true, true, true] (lls' := [(26, 0), (0, (max x1 p9)), (0, x2)]) rfl k))))))))))))) ?_
  exact tM_latest_39 hM (max x1 p9) x2 w _ h0 hk4
theorem tM_latest_4 {Go : pj_C → Prop} (hM : pj_M l yX12_latest cX12_latest 3 (some .int) 2 44 true g n0 o Go)  (w : pj_W)  (R : Int × pj_W → Prop) (h0 : ∀ r, R (r) → ((some (0, r.1) : Option pj_V), r.2) = o) (s : (Int × Int)) : pj_TG R (fM_latest_4  w s) (Go (4, [(26, 0), (0, s.1), (0, s.2)], [], w)) := by
  unfold fM_latest_4
  exact pj_tLp (G := fun s : (Int × Int) => Go (4, [(26, 0), (0, s.1), (0, s.2)], [], w)) (fun s => tM_latest_4b hM  w s.1 s.2  _ (fun r h => h0 r h)  (fun s h => h)) s
theorem tM_latest {Go : pj_C → Prop} (hM : pj_M l yX12_latest cX12_latest 3 (some .int) 2 44 true g n0 o Go)  (w : pj_W)  (R : Int × pj_W → Prop) (h0 : ∀ r, R (r) → ((some (0, r.1) : Option pj_V), r.2) = o) : pj_TG R (fM_latest  w) (Go (0, [(26, 0), (9, 0), (9, 0)], [], w)) := by
  unfold fM_latest
  refine pj_map (fun k => pj_iconst hM (pc := 0) dX12_latest_0 (by decide) (pj_istore_n hM (pc := 1) dX12_latest_1 (by decide) (lls' := [(26, 0), (0, (-1)), (9, 0)]) rfl (pj_iconst hM (pc := 2) dX12_latest_2 (by decide) (pj_istore_n hM (pc := 3) dX12_latest_3 (by decide) (lls' := [(26, 0), (0, (-1)), (0, 0)]) rfl (pj_kill hM [true, true, true] (lls' := [(26, 0), (0, (-1)), (0, 0)]) rfl k))))) ?_
  exact tM_latest_4 hM w _ h0 _
theorem cM_latest   (w : pj_W) (r : Int × pj_W) (h : fM_latest  w = some r) : pj_Cn l yX12_latest cX12_latest 3 (some .int) 2 44 true g [(26, 0)] w ((some (0, r.1) : Option pj_V), r.2) :=
  pj_Cn_of rfl (Nat.le_of_ble_eq_true rfl) (lls := [(26, 0), (9, 0), (9, 0)]) rfl (fun Go hM => tM_latest hM w (fun x => ((some (0, x.1) : Option pj_V), x.2) = ((some (0, r.1) : Option pj_V), r.2)) (fun r h => h) r h rfl)
noncomputable def fM_leader  (w : pj_W) : Option (Int × pj_W) :=
  (fM_atRank 0 w).bind fun p1 => ((fM_orNone p1 w).bind fun p3 => (some ((p3.1, p3.2))))
theorem tM_leader {Go : pj_C → Prop} (hM : pj_M l yX12_leader cX12_leader 1 (some .int) 7 161 true g n0 o Go)  (w : pj_W)  (R : Int × pj_W → Prop) (h0 : ∀ r, R (r) → ((some (0, r.1) : Option pj_V), r.2) = o) : pj_TG R (fM_leader  w) (Go (0, [(26, 0)], [], w)) := by
  unfold fM_leader
  refine pj_tbind (fun p1 h2 => ?_)
  refine pj_tbind (fun p3 h4 => ?_)
  exact pj_tret (fun hr => pj_aload_n hM (pc := 0) dX12_leader_0 rfl rfl (pj_aload_n hM (pc := 1) dX12_leader_1 rfl rfl (pj_iconst hM (pc := 2) dX12_leader_2 (by decide) (pj_cV hM (pc := 3) (cM_atRank 0 w p1 h2) dX12_leader_3 mf_X12_atRank mv_X12_atRank ml_X12_355 kc_26 rfl rfl (by decide) rfl rfl (pj_cV hM (pc := 6) (cM_orNone p1 w p3 h4) dX12_leader_6 mf_X12_orNone mv_X12_orNone ml_X12_358 kc_26 rfl rfl (by decide) rfl rfl (pj_ret hM (pc := 9) dX12_leader_9 ⟨_, rfl⟩ (h0 ((p3.1, p3.2)) hr) rfl))))))
theorem cM_leader   (w : pj_W) (r : Int × pj_W) (h : fM_leader  w = some r) : pj_Cn l yX12_leader cX12_leader 1 (some .int) 7 161 true g [(26, 0)] w ((some (0, r.1) : Option pj_V), r.2) :=
  pj_Cn_of rfl (Nat.le_of_ble_eq_true rfl) (lls := [(26, 0)]) rfl (fun Go hM => tM_leader hM w (fun x => ((some (0, x.1) : Option pj_V), x.2) = ((some (0, r.1) : Option pj_V), r.2)) (fun r h => h) r h rfl)
noncomputable def fM_leads (x1 : Int) (w : pj_W) : Option (Int × pj_W) :=
  (fM_isFinder x1 w).bind fun p1 => (if p1 = 0 then ((fM_refuse 1 w).bind fun p4 => (some ((p4.1, p4.2)))) else ((fM_leadOf x1 w).bind fun p6 => ((fM_gives p6 w).bind fun p8 => (some ((p8.1, p8.2))))))
theorem tM_leads {Go : pj_C → Prop} (hM : pj_M l yX12_leads cX12_leads 2 (some .int) 6 137 true g n0 o Go) (x1 : Int) (w : pj_W)  (R : Int × pj_W → Prop) (h0 : ∀ r, R (r) → ((some (0, r.1) : Option pj_V), r.2) = o) : pj_TG R (fM_leads x1 w) (Go (0, [(26, 0), (0, x1)], [], w)) := by
  unfold fM_leads
  refine pj_tbind (fun p1 h2 => ?_)
  refine pj_map (fun k => pj_aload_n hM (pc := 0) dX12_leads_0 rfl rfl (pj_iload_n hM (pc := 1) dX12_leads_1 rfl (pj_cV hM (pc := 2) (cM_isFinder x1 w p1 h2) dX12_leads_2 mf_X12_isFinder mv_X12_isFinder ml_X12_271 kc_26 rfl rfl (by decide) rfl rfl k))) ?_
  refine pj_tif (fun h3 => ?_) (fun h3 => ?_)
  · refine pj_tbind (fun p4 h5 => ?_)
    exact pj_tret (fun hr => pj_if_eq_t hM (pc := 5) dX12_leads_5 rfl h3 (pj_aload_n hM (pc := 20) dX12_leads_20 rfl rfl (pj_iconst hM (pc := 21) dX12_leads_21 (by decide) (pj_cV hM (pc := 22) (cM_refuse 1 w p4 h5) dX12_leads_22 mf_X12_refuse mv_X12_refuse ml_X12_78 kc_26 rfl rfl (by decide) rfl rfl (pj_ret hM (pc := 25) dX12_leads_25 ⟨_, rfl⟩ (h0 ((p4.1, p4.2)) hr) rfl)))))
  refine pj_tbind (fun p6 h7 => ?_)
  refine pj_tbind (fun p8 h9 => ?_)
  exact pj_tret (fun hr => pj_if_eq_f hM (pc := 5) 20 dX12_leads_5 rfl h3 (pj_aload_n hM (pc := 8) dX12_leads_8 rfl rfl (pj_aload_n hM (pc := 9) dX12_leads_9 rfl rfl (pj_iload_n hM (pc := 10) dX12_leads_10 rfl (pj_cV hM (pc := 11) (cM_leadOf x1 w p6 h7) dX12_leads_11 mf_X12_leadOf mv_X12_leadOf ml_X12_352 kc_26 rfl rfl (by decide) rfl rfl (pj_cV hM (pc := 14) (cM_gives p6 w p8 h9) dX12_leads_14 mf_X12_gives mv_X12_gives ml_X12_82 kc_26 rfl rfl (by decide) rfl rfl (pj_goto hM (pc := 17) dX12_leads_17 rfl (pj_ret hM (pc := 25) dX12_leads_25 ⟨_, rfl⟩ (h0 ((p8.1, p8.2)) hr) rfl))))))))
theorem cM_leads (x1 : Int)  (w : pj_W) (r : Int × pj_W) (h : fM_leads x1 w = some r) : pj_Cn l yX12_leads cX12_leads 2 (some .int) 6 137 true g [(26, 0), (0, x1)] w ((some (0, r.1) : Option pj_V), r.2) :=
  pj_Cn_of rfl (Nat.le_of_ble_eq_true rfl) (lls := [(26, 0), (0, x1)]) rfl (fun Go hM => tM_leads hM x1 w (fun x => ((some (0, x.1) : Option pj_V), x.2) = ((some (0, r.1) : Option pj_V), r.2)) (fun r h => h) r h rfl)
noncomputable def fM_leftOn (x1 : Int) (w : pj_W) : Option (Int) :=
  (fM_manyOn x1 w).bind fun p1 => ((fM_minuteAt x1 (pj_wr (p1 - 1)) w).bind fun p3 => (some ((pj_wr ((w 60 0 3) - p3)))))
theorem tM_leftOn {Go : pj_C → Prop} (hM : pj_M l yX12_leftOn cX12_leftOn 2 (some .int) 2 44 true g n0 o Go) (x1 : Int) (w : pj_W)  (R : Int → Prop) (h0 : ∀ r, R (r) → ((some (0, r) : Option pj_V), w) = o) : pj_TG R (fM_leftOn x1 w) (Go (0, [(26, 0), (0, x1)], [], w)) := by
  unfold fM_leftOn
  refine pj_tbind (fun p1 h2 => ?_)
  refine pj_tbind (fun p3 h4 => ?_)
  exact pj_tret (fun hr => pj_aload_n hM (pc := 0) dX12_leftOn_0 rfl rfl (pj_getF hM (pc := 1) (t := 60) dX12_leftOn_1 fl_X12_7 (by decide) rfl rfl (pj_iconst hM (pc := 4) dX12_leftOn_4 (by decide) (pj_ial hM (pc := 5) dX12_leftOn_5 ki_60 (by decide) (by decide) (pj_aload_n hM (pc := 6) dX12_leftOn_6 rfl rfl (pj_iload_n hM (pc := 7) dX12_leftOn_7 rfl (pj_aload_n hM (pc := 8) dX12_leftOn_8 rfl rfl (pj_iload_n hM (pc := 9) dX12_leftOn_9 rfl (pj_cV hM (pc := 10) (cM_manyOn x1 w p1 h2) dX12_leftOn_10 mf_X12_manyOn mv_X12_manyOn ml_X12_277 kc_26 rfl rfl (by decide) rfl rfl (pj_iconst hM (pc := 13) dX12_leftOn_13 (by decide) (pj_isub hM (pc := 14) dX12_leftOn_14 (pj_cV hM (pc := 15) (cM_minuteAt x1 (pj_wr (p1 - 1)) w p3 h4) dX12_leftOn_15 mf_X12_minuteAt mv_X12_minuteAt ml_X12_314 kc_26 rfl rfl (by decide) rfl rfl (pj_isub hM (pc := 18) dX12_leftOn_18 (pj_ret hM (pc := 19) dX12_leftOn_19 ⟨_, rfl⟩ (h0 ((pj_wr ((w 60 0 3) - p3))) hr) rfl))))))))))))))
theorem cM_leftOn (x1 : Int)  (w : pj_W) (r : Int) (h : fM_leftOn x1 w = some r) : pj_Cn l yX12_leftOn cX12_leftOn 2 (some .int) 2 44 true g [(26, 0), (0, x1)] w ((some (0, r) : Option pj_V), w) :=
  pj_Cn_of rfl (Nat.le_of_ble_eq_true rfl) (lls := [(26, 0), (0, x1)]) rfl (fun Go hM => tM_leftOn hM x1 w (fun x => ((some (0, x) : Option pj_V), w) = ((some (0, r) : Option pj_V), w)) (fun r h => h) r h rfl)
noncomputable def fM_wrongLast (x1 : Int) (w : pj_W) : Option (Int) :=
  (fM_wrongFind x1 w).bind fun p1 => (if p1 ≤ 0 then ((fM_manyOn x1 w).bind fun p4 => (if p4 = 0 then (some (6)) else (some (0)))) else ((fM_wrongFind x1 w).bind fun p7 => (some (p7))))
theorem tM_wrongLast {Go : pj_C → Prop} (hM : pj_M l yX12_wrongLast cX12_wrongLast 2 (some .int) 2 42 true g n0 o Go) (x1 : Int) (w : pj_W)  (R : Int → Prop) (h0 : ∀ r, R (r) → ((some (0, r) : Option pj_V), w) = o) : pj_TG R (fM_wrongLast x1 w) (Go (0, [(26, 0), (0, x1)], [], w)) := by
  unfold fM_wrongLast
  refine pj_tbind (fun p1 h2 => ?_)
  refine pj_map (fun k => pj_aload_n hM (pc := 0) dX12_wrongLast_0 rfl rfl (pj_iload_n hM (pc := 1) dX12_wrongLast_1 rfl (pj_cV hM (pc := 2) (cM_wrongFind x1 w p1 h2) dX12_wrongLast_2 mf_X12_wrongFind mv_X12_wrongFind ml_X12_349 kc_26 rfl rfl (by decide) rfl rfl k))) ?_
  refine pj_tif (fun h3 => ?_) (fun h3 => ?_)
  · refine pj_tbind (fun p4 h5 => ?_)
    refine pj_map (fun k => pj_if_le_t hM (pc := 5) dX12_wrongLast_5 rfl h3 (pj_aload_n hM (pc := 16) dX12_wrongLast_16 rfl rfl (pj_iload_n hM (pc := 17) dX12_wrongLast_17 rfl (pj_cV hM (pc := 18) (cM_manyOn x1 w p4 h5) dX12_wrongLast_18 mf_X12_manyOn mv_X12_manyOn ml_X12_277 kc_26 rfl rfl (by decide) rfl rfl k)))) ?_
    refine pj_tif (fun h6 => ?_) (fun h6 => ?_)
    · exact pj_tret (fun hr => pj_if_ne_f hM (pc := 21) 29 dX12_wrongLast_21 rfl (fun q => q h6) (pj_bipush hM (pc := 24) dX12_wrongLast_24 (by decide) (pj_goto hM (pc := 26) dX12_wrongLast_26 rfl (pj_ret hM (pc := 30) dX12_wrongLast_30 ⟨_, rfl⟩ (h0 (6) hr) rfl))))
    exact pj_tret (fun hr => pj_if_ne_t hM (pc := 21) dX12_wrongLast_21 rfl h6 (pj_iconst hM (pc := 29) dX12_wrongLast_29 (by decide) (pj_ret hM (pc := 30) dX12_wrongLast_30 ⟨_, rfl⟩ (h0 (0) hr) rfl)))
  refine pj_tbind (fun p7 h8 => ?_)
  exact pj_tret (fun hr => pj_if_le_f hM (pc := 5) 16 dX12_wrongLast_5 rfl h3 (pj_aload_n hM (pc := 8) dX12_wrongLast_8 rfl rfl (pj_iload_n hM (pc := 9) dX12_wrongLast_9 rfl (pj_cV hM (pc := 10) (cM_wrongFind x1 w p7 h8) dX12_wrongLast_10 mf_X12_wrongFind mv_X12_wrongFind ml_X12_349 kc_26 rfl rfl (by decide) rfl rfl (pj_goto hM (pc := 13) dX12_wrongLast_13 rfl (pj_ret hM (pc := 30) dX12_wrongLast_30 ⟨_, rfl⟩ (h0 (p7) hr) rfl))))))
theorem cM_wrongLast (x1 : Int)  (w : pj_W) (r : Int) (h : fM_wrongLast x1 w = some r) : pj_Cn l yX12_wrongLast cX12_wrongLast 2 (some .int) 2 42 true g [(26, 0), (0, x1)] w ((some (0, r) : Option pj_V), w) :=
  pj_Cn_of rfl (Nat.le_of_ble_eq_true rfl) (lls := [(26, 0), (0, x1)]) rfl (fun Go hM => tM_wrongLast hM x1 w (fun x => ((some (0, x) : Option pj_V), w) = ((some (0, r) : Option pj_V), w)) (fun r h => h) r h rfl)
noncomputable def fM_left (x1 : Int) (w : pj_W) : Option (Int × pj_W) :=
  (fM_wrongLast x1 w).bind fun p1 => (if p1 ≤ 0 then ((fM_leftOn x1 w).bind fun p4 => ((fM_gives p4 w).bind fun p6 => (some ((p6.1, p6.2))))) else ((fM_refuse p1 w).bind fun p8 => (some ((p8.1, p8.2)))))
theorem tM_left {Go : pj_C → Prop} (hM : pj_M l yX12_left cX12_left 3 (some .int) 3 65 true g n0 o Go) (x1 : Int) (w : pj_W)  (R : Int × pj_W → Prop) (h0 : ∀ r, R (r) → ((some (0, r.1) : Option pj_V), r.2) = o) : pj_TG R (fM_left x1 w) (Go (0, [(26, 0), (0, x1), (9, 0)], [], w)) := by
  unfold fM_left
  refine pj_tbind (fun p1 h2 => ?_)
  refine pj_map (fun k => pj_aload_n hM (pc := 0) dX12_left_0 rfl rfl (pj_iload_n hM (pc := 1) dX12_left_1 rfl (pj_cV hM (pc := 2) (cM_wrongLast x1 w p1 h2) dX12_left_2 mf_X12_wrongLast mv_X12_wrongLast ml_X12_367 kc_26 rfl rfl (by decide) rfl rfl (pj_istore_n hM (pc := 5) dX12_left_5 (by decide) (lls' := [(26, 0), (0, x1), (0, p1)]) rfl (pj_iload_n hM (pc := 6) dX12_left_6 rfl k))))) ?_
  refine pj_tif (fun h3 => ?_) (fun h3 => ?_)
  · refine pj_tbind (fun p4 h5 => ?_)
    refine pj_tbind (fun p6 h7 => ?_)
    exact pj_tret (fun hr => pj_if_le_t hM (pc := 7) dX12_left_7 rfl h3 (pj_aload_n hM (pc := 18) dX12_left_18 rfl rfl (pj_aload_n hM (pc := 19) dX12_left_19 rfl rfl (pj_iload_n hM (pc := 20) dX12_left_20 rfl (pj_cV hM (pc := 21) (cM_leftOn x1 w p4 h5) dX12_left_21 mf_X12_leftOn mv_X12_leftOn ml_X12_370 kc_26 rfl rfl (by decide) rfl rfl (pj_cV hM (pc := 24) (cM_gives p4 w p6 h7) dX12_left_24 mf_X12_gives mv_X12_gives ml_X12_82 kc_26 rfl rfl (by decide) rfl rfl (pj_ret hM (pc := 27) dX12_left_27 ⟨_, rfl⟩ (h0 ((p6.1, p6.2)) hr) rfl)))))))
  refine pj_tbind (fun p8 h9 => ?_)
  exact pj_tret (fun hr => pj_if_le_f hM (pc := 7) 18 dX12_left_7 rfl h3 (pj_aload_n hM (pc := 10) dX12_left_10 rfl rfl (pj_iload_n hM (pc := 11) dX12_left_11 rfl (pj_cV hM (pc := 12) (cM_refuse p1 w p8 h9) dX12_left_12 mf_X12_refuse mv_X12_refuse ml_X12_78 kc_26 rfl rfl (by decide) rfl rfl (pj_goto hM (pc := 15) dX12_left_15 rfl (pj_ret hM (pc := 27) dX12_left_27 ⟨_, rfl⟩ (h0 ((p8.1, p8.2)) hr) rfl))))))
theorem cM_left (x1 : Int)  (w : pj_W) (r : Int × pj_W) (h : fM_left x1 w = some r) : pj_Cn l yX12_left cX12_left 3 (some .int) 3 65 true g [(26, 0), (0, x1)] w ((some (0, r.1) : Option pj_V), r.2) :=
  pj_Cn_of rfl (Nat.le_of_ble_eq_true rfl) (lls := [(26, 0), (0, x1), (9, 0)]) rfl (fun Go hM => tM_left hM x1 w (fun x => ((some (0, x.1) : Option pj_V), x.2) = ((some (0, r.1) : Option pj_V), r.2)) (fun r h => h) r h rfl)
noncomputable def fM_lies_68  (w : pj_W) : Option (Int × pj_W) :=
  (fM_refuse 6 w).bind fun p1 => (some ((p1.1, p1.2)))
noncomputable def fM_lies_19b (x1 : Int) (x2 : Int) (w : pj_W) (x3 : Int) (x4 : Int) : Option ((Int × Int) ⊕ (Int × pj_W)) :=
  if (w 60 0 2) ≤ x4 then ((fM_lies_68 w).map Sum.inr) else (if x2 < 0 then ((fM_lies_68 w).map Sum.inr) else ((fM_ownMany x1 x4 w).bind fun p3 => (if p3 ≤ x3 then ((fM_ownMany x1 x4 w).bind fun p6 => (some (Sum.inl ((pj_wr (x3 - p6)), (pj_wr (x4 + 1)))))) else ((fM_gives x4 w).bind fun p8 => (some (Sum.inr ((p8.1, p8.2))))))))
noncomputable def fM_lies_19 (x1 : Int) (x2 : Int) (w : pj_W) (s : (Int × Int)) : Option (Int × pj_W) := pj_Lp (fun s : (Int × Int) => fM_lies_19b x1 x2 w s.1 s.2) s
noncomputable def fM_lies (x1 : Int) (x2 : Int) (w : pj_W) : Option (Int × pj_W) :=
  (fM_isFinder x1 w).bind fun p1 => (if p1 = 0 then ((fM_refuse 1 w).bind fun p4 => (some ((p4.1, p4.2)))) else (fM_lies_19 x1 x2 w (x2, 0)))
theorem tM_lies_68 {Go : pj_C → Prop} (hM : pj_M l yX12_lies cX12_lies 5 (some .int) 3 68 true g n0 o Go)  (w : pj_W)  (R : Int × pj_W → Prop) (h0 : ∀ r, R (r) → ((some (0, r.1) : Option pj_V), r.2) = o) : pj_TG R (fM_lies_68  w) (Go (68, [(26, 0), (9, 0), (9, 0), (9, 0), (9, 0)], [], w)) := by
  unfold fM_lies_68
  refine pj_tbind (fun p1 h2 => ?_)
  exact pj_tret (fun hr => pj_aload_n hM (pc := 68) dX12_lies_68 rfl rfl (pj_bipush hM (pc := 69) dX12_lies_69 (by decide) (pj_cV hM (pc := 71) (cM_refuse 6 w p1 h2) dX12_lies_71 mf_X12_refuse mv_X12_refuse ml_X12_78 kc_26 rfl rfl (by decide) rfl rfl (pj_ret hM (pc := 74) dX12_lies_74 ⟨_, rfl⟩ (h0 ((p1.1, p1.2)) hr) rfl))))
theorem tM_lies_19b {Go : pj_C → Prop} (hM : pj_M l yX12_lies cX12_lies 5 (some .int) 3 68 true g n0 o Go) (x1 : Int) (x2 : Int) (w : pj_W) (x3 : Int) (x4 : Int)  (R : (Int × Int) ⊕ (Int × pj_W) → Prop) (h0 : ∀ r, R (Sum.inr (r)) → ((some (0, r.1) : Option pj_V), r.2) = o) (hk19 : ∀ s, R (Sum.inl s) → Go (19, [(26, 0), (0, x1), (0, x2), (0, s.1), (0, s.2)], [], w)) : pj_TG R (fM_lies_19b x1 x2 w x3 x4) (Go (19, [(26, 0), (0, x1), (0, x2), (0, x3), (0, x4)], [], w)) := by
  unfold fM_lies_19b
  refine pj_map (fun k => pj_iload hM (pc := 19) dX12_lies_19 rfl (pj_aload_n hM (pc := 21) dX12_lies_21 rfl rfl (pj_getF hM (pc := 22) (t := 60) dX12_lies_22 fl_X12_7 (by decide) rfl rfl (pj_iconst hM (pc := 25) dX12_lies_25 (by decide) (pj_ial hM (pc := 26) dX12_lies_26 ki_60 (by decide) (by decide) k))))) ?_
  refine pj_tif (fun h1 => ?_) (fun h1 => ?_)
  · refine pj_tmap ?_
    refine pj_map (fun k => pj_ic_ge_t hM (pc := 27) dX12_lies_27 rfl h1 (pj_kill hM [true, false, false, false, false] (lls' := [(26, 0), (9, 0), (9, 0), (9, 0), (9, 0)]) rfl k)) ?_
    exact tM_lies_68 hM w _ h0
  refine pj_map (fun k => pj_ic_ge_f hM (pc := 27) 68 dX12_lies_27 rfl h1 (pj_iload_n hM (pc := 30) dX12_lies_30 rfl k)) ?_
  refine pj_tif (fun h2 => ?_) (fun h2 => ?_)
  · refine pj_tmap ?_
    refine pj_map (fun k => pj_if_lt_t hM (pc := 31) dX12_lies_31 rfl h2 (pj_kill hM [true, false, false, false, false] (lls' := [(26, 0), (9, 0), (9, 0), (9, 0), (9, 0)]) rfl k)) ?_
    exact tM_lies_68 hM w _ h0
  refine pj_tbind (fun p3 h4 => ?_)
  refine pj_map (fun k => pj_if_lt_f hM (pc := 31) 68 dX12_lies_31 rfl h2 (pj_iload_n hM (pc := 34) dX12_lies_34 rfl (pj_aload_n hM (pc := 35) dX12_lies_35 rfl rfl (pj_iload_n hM (pc := 36) dX12_lies_36 rfl (pj_iload hM (pc := 37) dX12_lies_37 rfl (pj_cV hM (pc := 39) (cM_ownMany x1 x4 w p3 h4) dX12_lies_39 mf_X12_ownMany mv_X12_ownMany ml_X12_364 kc_26 rfl rfl (by decide) rfl rfl k)))))) ?_
  refine pj_tif (fun h5 => ?_) (fun h5 => ?_)
  · refine pj_tbind (fun p6 h7 => ?_)
    exact pj_tret (fun hr => pj_ic_ge_t hM (pc := 42) dX12_lies_42 rfl h5 (pj_iload_n hM (pc := 52) dX12_lies_52 rfl (pj_aload_n hM (pc := 53) dX12_lies_53 rfl rfl (pj_iload_n hM (pc := 54) dX12_lies_54 rfl (pj_iload hM (pc := 55) dX12_lies_55 rfl (pj_cV hM (pc := 57) (cM_ownMany x1 x4 w p6 h7) dX12_lies_57 mf_X12_ownMany mv_X12_ownMany ml_X12_364 kc_26 rfl rfl (by decide) rfl rfl (pj_isub hM (pc := 60) dX12_lies_60 (pj_istore_n hM (pc := 61) dX12_lies_61 (by decide) (lls' := [(26, 0), (0, x1), (0, x2), (0, (pj_wr (x3 - p6))), (0, x4)]) rfl (pj_iinc hM (pc := 62) dX12_lies_62 rfl (by decide) (lls' := [(26, 0), (0, x1), (0, x2), (0, (pj_wr (x3 - p6))), (0, (pj_wr (x4 + 1)))]) rfl (pj_goto hM (pc := 65) dX12_lies_65 rfl (pj_kill hM [true, true, true, true, true] (lls' := [(26, 0), (0, x1), (0, x2), (0, (pj_wr (x3 - p6))), (0, (pj_wr (x4 + 1)))]) rfl ((hk19 _ hr)))))))))))))
  refine pj_tbind (fun p8 h9 => ?_)
  exact pj_tret (fun hr => pj_ic_ge_f hM (pc := 42) 52 dX12_lies_42 rfl h5 (pj_aload_n hM (pc := 45) dX12_lies_45 rfl rfl (pj_iload hM (pc := 46) dX12_lies_46 rfl (pj_cV hM (pc := 48) (cM_gives x4 w p8 h9) dX12_lies_48 mf_X12_gives mv_X12_gives ml_X12_82 kc_26 rfl rfl (by decide) rfl rfl (pj_ret hM (pc := 51) dX12_lies_51 ⟨_, rfl⟩ (h0 ((p8.1, p8.2)) hr) rfl)))))
theorem tM_lies_19 {Go : pj_C → Prop} (hM : pj_M l yX12_lies cX12_lies 5 (some .int) 3 68 true g n0 o Go) (x1 : Int) (x2 : Int) (w : pj_W)  (R : Int × pj_W → Prop) (h0 : ∀ r, R (r) → ((some (0, r.1) : Option pj_V), r.2) = o) (s : (Int × Int)) : pj_TG R (fM_lies_19 x1 x2 w s) (Go (19, [(26, 0), (0, x1), (0, x2), (0, s.1), (0, s.2)], [], w)) := by
  unfold fM_lies_19
  exact pj_tLp (G := fun s : (Int × Int) => Go (19, [(26, 0), (0, x1), (0, x2), (0, s.1), (0, s.2)], [], w)) (fun s => tM_lies_19b hM x1 x2 w s.1 s.2  _ (fun r h => h0 r h)  (fun s h => h)) s
theorem tM_lies {Go : pj_C → Prop} (hM : pj_M l yX12_lies cX12_lies 5 (some .int) 3 68 true g n0 o Go) (x1 : Int) (x2 : Int) (w : pj_W)  (R : Int × pj_W → Prop) (h0 : ∀ r, R (r) → ((some (0, r.1) : Option pj_V), r.2) = o) : pj_TG R (fM_lies x1 x2 w) (Go (0, [(26, 0), (0, x1), (0, x2), (9, 0), (9, 0)], [], w)) := by
  unfold fM_lies
  refine pj_tbind (fun p1 h2 => ?_)
  refine pj_map (fun k => pj_aload_n hM (pc := 0) dX12_lies_0 rfl rfl (pj_iload_n hM (pc := 1) dX12_lies_1 rfl (pj_cV hM (pc := 2) (cM_isFinder x1 w p1 h2) dX12_lies_2 mf_X12_isFinder mv_X12_isFinder ml_X12_271 kc_26 rfl rfl (by decide) rfl rfl k))) ?_
  refine pj_tif (fun h3 => ?_) (fun h3 => ?_)
  · refine pj_tbind (fun p4 h5 => ?_)
    exact pj_tret (fun hr => pj_if_ne_f hM (pc := 5) 14 dX12_lies_5 rfl (fun q => q h3) (pj_aload_n hM (pc := 8) dX12_lies_8 rfl rfl (pj_iconst hM (pc := 9) dX12_lies_9 (by decide) (pj_cV hM (pc := 10) (cM_refuse 1 w p4 h5) dX12_lies_10 mf_X12_refuse mv_X12_refuse ml_X12_78 kc_26 rfl rfl (by decide) rfl rfl (pj_ret hM (pc := 13) dX12_lies_13 ⟨_, rfl⟩ (h0 ((p4.1, p4.2)) hr) rfl)))))
  refine pj_map (fun k => pj_if_ne_t hM (pc := 5) dX12_lies_5 rfl h3 (pj_iload_n hM (pc := 14) dX12_lies_14 rfl (pj_istore_n hM (pc := 15) dX12_lies_15 (by decide) (lls' := [(26, 0), (0, x1), (0, x2), (0, x2), (9, 0)]) rfl (pj_iconst hM (pc := 16) dX12_lies_16 (by decide) (pj_istore hM (pc := 17) dX12_lies_17 (by decide) (lls' := [(26, 0), (0, x1), (0, x2), (0, x2), (0, 0)]) rfl (pj_kill hM [true, true, true, true, true] (lls' := [(26, 0), (0, x1), (0, x2), (0, x2), (0, 0)]) rfl k)))))) ?_
  exact tM_lies_19 hM x1 x2 w _ h0 _
theorem cM_lies (x1 : Int) (x2 : Int)  (w : pj_W) (r : Int × pj_W) (h : fM_lies x1 x2 w = some r) : pj_Cn l yX12_lies cX12_lies 5 (some .int) 3 68 true g [(26, 0), (0, x1), (0, x2)] w ((some (0, r.1) : Option pj_V), r.2) :=
  pj_Cn_of rfl (Nat.le_of_ble_eq_true rfl) (lls := [(26, 0), (0, x1), (0, x2), (9, 0), (9, 0)]) rfl (fun Go hM => tM_lies hM x1 x2 w (fun x => ((some (0, x.1) : Option pj_V), x.2) = ((some (0, r.1) : Option pj_V), r.2)) (fun r h => h) r h rfl)
noncomputable def fM_ownOn_8b (x1 : Int) (x2 : Int) (w : pj_W) (x3 : Int) : Option ((Int) ⊕ (Int)) :=
  if x3 < 0 then (some (Sum.inr ((-1)))) else ((fM_whoAt x2 x3 w).bind fun p2 => (if p2 = x1 then (some (Sum.inr (x3))) else (some (Sum.inl ((pj_wr (x3 + (-1))))))))
noncomputable def fM_ownOn_8 (x1 : Int) (x2 : Int) (w : pj_W) (s : (Int)) : Option (Int) := pj_Lp (fun s : (Int) => fM_ownOn_8b x1 x2 w s) s
noncomputable def fM_ownOn (x1 : Int) (x2 : Int) (w : pj_W) : Option (Int) :=
  (fM_manyOn x2 w).bind fun p1 => (fM_ownOn_8 x1 x2 w ((pj_wr (p1 - 1))))
theorem tM_ownOn_8b {Go : pj_C → Prop} (hM : pj_M l yX12_ownOn cX12_ownOn 4 (some .int) 2 44 true g n0 o Go) (x1 : Int) (x2 : Int) (w : pj_W) (x3 : Int)  (R : (Int) ⊕ (Int) → Prop) (h0 : ∀ r, R (Sum.inr (r)) → ((some (0, r) : Option pj_V), w) = o) (hk8 : ∀ s, R (Sum.inl s) → Go (8, [(26, 0), (0, x1), (0, x2), (0, s)], [], w)) : pj_TG R (fM_ownOn_8b x1 x2 w x3) (Go (8, [(26, 0), (0, x1), (0, x2), (0, x3)], [], w)) := by
  unfold fM_ownOn_8b
  refine pj_map (fun k => pj_iload_n hM (pc := 8) dX12_ownOn_8 rfl k) ?_
  refine pj_tif (fun h1 => ?_) (fun h1 => ?_)
  · exact pj_tret (fun hr => pj_if_lt_t hM (pc := 9) dX12_ownOn_9 rfl h1 (pj_iconst hM (pc := 30) dX12_ownOn_30 (by decide) (pj_ret hM (pc := 31) dX12_ownOn_31 ⟨_, rfl⟩ (h0 ((-1)) hr) rfl)))
  refine pj_tbind (fun p2 h3 => ?_)
  refine pj_map (fun k => pj_if_lt_f hM (pc := 9) 30 dX12_ownOn_9 rfl h1 (pj_aload_n hM (pc := 12) dX12_ownOn_12 rfl rfl (pj_iload_n hM (pc := 13) dX12_ownOn_13 rfl (pj_iload_n hM (pc := 14) dX12_ownOn_14 rfl (pj_cV hM (pc := 15) (cM_whoAt x2 x3 w p2 h3) dX12_ownOn_15 mf_X12_whoAt mv_X12_whoAt ml_X12_308 kc_26 rfl rfl (by decide) rfl rfl (pj_iload_n hM (pc := 18) dX12_ownOn_18 rfl k)))))) ?_
  refine pj_tif (fun h4 => ?_) (fun h4 => ?_)
  · exact pj_tret (fun hr => pj_ic_ne_f hM (pc := 19) 24 dX12_ownOn_19 rfl (fun q => q h4) (pj_iload_n hM (pc := 22) dX12_ownOn_22 rfl (pj_ret hM (pc := 23) dX12_ownOn_23 ⟨_, rfl⟩ (h0 (x3) hr) rfl)))
  exact pj_tret (fun hr => pj_ic_ne_t hM (pc := 19) dX12_ownOn_19 rfl h4 (pj_iinc hM (pc := 24) dX12_ownOn_24 rfl (by decide) (lls' := [(26, 0), (0, x1), (0, x2), (0, (pj_wr (x3 + (-1))))]) rfl (pj_goto hM (pc := 27) dX12_ownOn_27 rfl (pj_kill hM [true, true, true, true] (lls' := [(26, 0), (0, x1), (0, x2), (0, (pj_wr (x3 + (-1))))]) rfl ((hk8 _ hr))))))
theorem tM_ownOn_8 {Go : pj_C → Prop} (hM : pj_M l yX12_ownOn cX12_ownOn 4 (some .int) 2 44 true g n0 o Go) (x1 : Int) (x2 : Int) (w : pj_W)  (R : Int → Prop) (h0 : ∀ r, R (r) → ((some (0, r) : Option pj_V), w) = o) (s : (Int)) : pj_TG R (fM_ownOn_8 x1 x2 w s) (Go (8, [(26, 0), (0, x1), (0, x2), (0, s)], [], w)) := by
  unfold fM_ownOn_8
  exact pj_tLp (G := fun s : (Int) => Go (8, [(26, 0), (0, x1), (0, x2), (0, s)], [], w)) (fun s => tM_ownOn_8b hM x1 x2 w s  _ (fun r h => h0 r h)  (fun s h => h)) s
theorem tM_ownOn {Go : pj_C → Prop} (hM : pj_M l yX12_ownOn cX12_ownOn 4 (some .int) 2 44 true g n0 o Go) (x1 : Int) (x2 : Int) (w : pj_W)  (R : Int → Prop) (h0 : ∀ r, R (r) → ((some (0, r) : Option pj_V), w) = o) : pj_TG R (fM_ownOn x1 x2 w) (Go (0, [(26, 0), (0, x1), (0, x2), (9, 0)], [], w)) := by
  unfold fM_ownOn
  refine pj_tbind (fun p1 h2 => ?_)
  refine pj_map (fun k => pj_aload_n hM (pc := 0) dX12_ownOn_0 rfl rfl (pj_iload_n hM (pc := 1) dX12_ownOn_1 rfl (pj_cV hM (pc := 2) (cM_manyOn x2 w p1 h2) dX12_ownOn_2 mf_X12_manyOn mv_X12_manyOn ml_X12_277 kc_26 rfl rfl (by decide) rfl rfl (pj_iconst hM (pc := 5) dX12_ownOn_5 (by decide) (pj_isub hM (pc := 6) dX12_ownOn_6 (pj_istore_n hM (pc := 7) dX12_ownOn_7 (by decide) (lls' := [(26, 0), (0, x1), (0, x2), (0, (pj_wr (p1 - 1)))]) rfl (pj_kill hM [true, true, true, true] (lls' := [(26, 0), (0, x1), (0, x2), (0, (pj_wr (p1 - 1)))]) rfl k))))))) ?_
  exact tM_ownOn_8 hM x1 x2 w _ h0 _
theorem cM_ownOn (x1 : Int) (x2 : Int)  (w : pj_W) (r : Int) (h : fM_ownOn x1 x2 w = some r) : pj_Cn l yX12_ownOn cX12_ownOn 4 (some .int) 2 44 true g [(26, 0), (0, x1), (0, x2)] w ((some (0, r) : Option pj_V), w) :=
  pj_Cn_of rfl (Nat.le_of_ble_eq_true rfl) (lls := [(26, 0), (0, x1), (0, x2), (9, 0)]) rfl (fun Go hM => tM_ownOn hM x1 x2 w (fun x => ((some (0, x) : Option pj_V), w) = ((some (0, r) : Option pj_V), w)) (fun r h => h) r h rfl)
noncomputable def fM_lifts (x1 : Int) (x2 : Int) (w : pj_W) : Option (Int × pj_W) :=
  (fM_ownOn x1 x2 w).bind fun p1 => ((fM_minuteAt x2 p1 w).bind fun p3 => ((fM_goes x2 p1 w).bind fun p5 => ((fM_finderRow x1 p5).bind fun p7 => (if 0 ≤ (pj_wr (p7 + 2)) ∧ (pj_wr (p7 + 2)) < 8400 then (some ((p3, (pj_set p5 60 0 (pj_wr (p7 + 2)) (pj_wr ((p5 60 0 (pj_wr (p7 + 2))) + 1)))))) else none))))
theorem tM_lifts {Go : pj_C → Prop} (hM : pj_M l yX12_lifts cX12_lifts 5 (some .int) 3 67 true g n0 o Go) (x1 : Int) (x2 : Int) (w : pj_W)  (R : Int × pj_W → Prop) (h0 : ∀ r, R (r) → ((some (0, r.1) : Option pj_V), r.2) = o) : pj_TG R (fM_lifts x1 x2 w) (Go (0, [(26, 0), (0, x1), (0, x2), (9, 0), (9, 0)], [], w)) := by
  unfold fM_lifts
  refine pj_tbind (fun p1 h2 => ?_)
  refine pj_tbind (fun p3 h4 => ?_)
  refine pj_tbind (fun p5 h6 => ?_)
  refine pj_tbind (fun p7 h8 => ?_)
  refine pj_tgd (fun h9 => ?_)
  exact pj_tret (fun hr => pj_aload_n hM (pc := 0) dX12_lifts_0 rfl rfl (pj_iload_n hM (pc := 1) dX12_lifts_1 rfl (pj_iload_n hM (pc := 2) dX12_lifts_2 rfl (pj_cV hM (pc := 3) (cM_ownOn x1 x2 w p1 h2) dX12_lifts_3 mf_X12_ownOn mv_X12_ownOn ml_X12_311 kc_26 rfl rfl (by decide) rfl rfl (pj_istore_n hM (pc := 6) dX12_lifts_6 (by decide) (lls' := [(26, 0), (0, x1), (0, x2), (0, p1), (9, 0)]) rfl (pj_aload_n hM (pc := 7) dX12_lifts_7 rfl rfl (pj_iload_n hM (pc := 8) dX12_lifts_8 rfl (pj_iload_n hM (pc := 9) dX12_lifts_9 rfl (pj_cV hM (pc := 10) (cM_minuteAt x2 p1 w p3 h4) dX12_lifts_10 mf_X12_minuteAt mv_X12_minuteAt ml_X12_314 kc_26 rfl rfl (by decide) rfl rfl (pj_istore hM (pc := 13) dX12_lifts_13 (by decide) (lls' := [(26, 0), (0, x1), (0, x2), (0, p1), (0, p3)]) rfl (pj_aload_n hM (pc := 15) dX12_lifts_15 rfl rfl (pj_iload_n hM (pc := 16) dX12_lifts_16 rfl (pj_iload_n hM (pc := 17) dX12_lifts_17 rfl (pj_cVv hM (pc := 18) (cM_goes x2 p1 w p5 h6) dX12_lifts_18 mf_X12_goes mv_X12_goes ml_X12_317 kc_26 rfl rfl (by decide) rfl rfl (pj_aload_n hM (pc := 21) dX12_lifts_21 rfl rfl (pj_getF hM (pc := 22) (t := 60) dX12_lifts_22 fl_X12_7 (by decide) rfl rfl (pj_iload_n hM (pc := 25) dX12_lifts_25 rfl (pj_cS hM (pc := 26) (cM_finderRow x1 p5 p7 h8) dX12_lifts_26 mf_X12_finderRow ms_X12_finderRow ml_X12_274 rfl rfl rfl rfl (pj_iconst hM (pc := 29) dX12_lifts_29 (by decide) (pj_iadd hM (pc := 30) dX12_lifts_30 (pj_dup2 hM (pc := 31) dX12_lifts_31 (by decide) (by decide) (pj_ial hM (pc := 32) dX12_lifts_32 ki_60 (by decide) h9 (pj_iconst hM (pc := 33) dX12_lifts_33 (by decide) (pj_iadd hM (pc := 34) dX12_lifts_34 (pj_ias hM (pc := 35) dX12_lifts_35 ki_60 (by decide) h9 (pj_iload hM (pc := 36) dX12_lifts_36 rfl (pj_ret hM (pc := 38) dX12_lifts_38 ⟨_, rfl⟩ (h0 ((p3, (pj_set p5 60 0 (pj_wr (p7 + 2)) (pj_wr ((p5 60 0 (pj_wr (p7 + 2))) + 1))))) hr) rfl)))))))))))))))))))))))))))
theorem cM_lifts (x1 : Int) (x2 : Int)  (w : pj_W) (r : Int × pj_W) (h : fM_lifts x1 x2 w = some r) : pj_Cn l yX12_lifts cX12_lifts 5 (some .int) 3 67 true g [(26, 0), (0, x1), (0, x2)] w ((some (0, r.1) : Option pj_V), r.2) :=
  pj_Cn_of rfl (Nat.le_of_ble_eq_true rfl) (lls := [(26, 0), (0, x1), (0, x2), (9, 0), (9, 0)]) rfl (fun Go hM => tM_lifts hM x1 x2 w (fun x => ((some (0, x.1) : Option pj_V), x.2) = ((some (0, r.1) : Option pj_V), r.2)) (fun r h => h) r h rfl)
noncomputable def fM_wrongLift (x1 : Int) (x2 : Int) (w : pj_W) : Option (Int) :=
  (fM_ownOn x1 x2 w).bind fun p1 => (if p1 = (-1) then (some (6)) else ((fM_finderRow x1 w).bind fun p4 => (if 0 ≤ p4 ∧ p4 < 8400 then ((fM_findRow 0 x2 w).bind fun p7 => (if 0 ≤ p7 ∧ p7 < 8400 then (if (w 60 0 p4) = (w 60 0 p7) then (some (0)) else (some (7))) else none)) else none)))
theorem tM_wrongLift {Go : pj_C → Prop} (hM : pj_M l yX12_wrongLift cX12_wrongLift 3 (some .int) 3 67 true g n0 o Go) (x1 : Int) (x2 : Int) (w : pj_W)  (R : Int → Prop) (h0 : ∀ r, R (r) → ((some (0, r) : Option pj_V), w) = o) : pj_TG R (fM_wrongLift x1 x2 w) (Go (0, [(26, 0), (0, x1), (0, x2)], [], w)) := by
  unfold fM_wrongLift
  refine pj_tbind (fun p1 h2 => ?_)
  refine pj_map (fun k => pj_aload_n hM (pc := 0) dX12_wrongLift_0 rfl rfl (pj_iload_n hM (pc := 1) dX12_wrongLift_1 rfl (pj_iload_n hM (pc := 2) dX12_wrongLift_2 rfl (pj_cV hM (pc := 3) (cM_ownOn x1 x2 w p1 h2) dX12_wrongLift_3 mf_X12_ownOn mv_X12_ownOn ml_X12_311 kc_26 rfl rfl (by decide) rfl rfl (pj_iconst hM (pc := 6) dX12_wrongLift_6 (by decide) k))))) ?_
  refine pj_tif (fun h3 => ?_) (fun h3 => ?_)
  · exact pj_tret (fun hr => pj_ic_ne_f hM (pc := 7) 15 dX12_wrongLift_7 rfl (fun q => q h3) (pj_bipush hM (pc := 10) dX12_wrongLift_10 (by decide) (pj_goto hM (pc := 12) dX12_wrongLift_12 rfl (pj_ret hM (pc := 43) dX12_wrongLift_43 ⟨_, rfl⟩ (h0 (6) hr) rfl))))
  refine pj_tbind (fun p4 h5 => ?_)
  refine pj_tgd (fun h6 => ?_)
  refine pj_tbind (fun p7 h8 => ?_)
  refine pj_tgd (fun h9 => ?_)
  refine pj_map (fun k => pj_ic_ne_t hM (pc := 7) dX12_wrongLift_7 rfl h3 (pj_aload_n hM (pc := 15) dX12_wrongLift_15 rfl rfl (pj_getF hM (pc := 16) (t := 60) dX12_wrongLift_16 fl_X12_7 (by decide) rfl rfl (pj_iload_n hM (pc := 19) dX12_wrongLift_19 rfl (pj_cS hM (pc := 20) (cM_finderRow x1 w p4 h5) dX12_wrongLift_20 mf_X12_finderRow ms_X12_finderRow ml_X12_274 rfl rfl rfl rfl (pj_ial hM (pc := 23) dX12_wrongLift_23 ki_60 (by decide) h6 (pj_aload_n hM (pc := 24) dX12_wrongLift_24 rfl rfl (pj_getF hM (pc := 25) (t := 60) dX12_wrongLift_25 fl_X12_7 (by decide) rfl rfl (pj_iconst hM (pc := 28) dX12_wrongLift_28 (by decide) (pj_iload_n hM (pc := 29) dX12_wrongLift_29 rfl (pj_cS hM (pc := 30) (cM_findRow 0 x2 w p7 h8) dX12_wrongLift_30 mf_X12_findRow ms_X12_findRow ml_X12_171 rfl rfl rfl rfl (pj_ial hM (pc := 33) dX12_wrongLift_33 ki_60 (by decide) h9 k)))))))))))) ?_
  refine pj_tif (fun h10 => ?_) (fun h10 => ?_)
  · exact pj_tret (fun hr => pj_ic_ne_f hM (pc := 34) 41 dX12_wrongLift_34 rfl (fun q => q h10) (pj_iconst hM (pc := 37) dX12_wrongLift_37 (by decide) (pj_goto hM (pc := 38) dX12_wrongLift_38 rfl (pj_ret hM (pc := 43) dX12_wrongLift_43 ⟨_, rfl⟩ (h0 (0) hr) rfl))))
  exact pj_tret (fun hr => pj_ic_ne_t hM (pc := 34) dX12_wrongLift_34 rfl h10 (pj_bipush hM (pc := 41) dX12_wrongLift_41 (by decide) (pj_ret hM (pc := 43) dX12_wrongLift_43 ⟨_, rfl⟩ (h0 (7) hr) rfl)))
theorem cM_wrongLift (x1 : Int) (x2 : Int)  (w : pj_W) (r : Int) (h : fM_wrongLift x1 x2 w = some r) : pj_Cn l yX12_wrongLift cX12_wrongLift 3 (some .int) 3 67 true g [(26, 0), (0, x1), (0, x2)] w ((some (0, r) : Option pj_V), w) :=
  pj_Cn_of rfl (Nat.le_of_ble_eq_true rfl) (lls := [(26, 0), (0, x1), (0, x2)]) rfl (fun Go hM => tM_wrongLift hM x1 x2 w (fun x => ((some (0, x) : Option pj_V), w) = ((some (0, r) : Option pj_V), w)) (fun r h => h) r h rfl)
noncomputable def fM_lift_16  (w : pj_W) : Option (Int × pj_W) :=
  (fM_refuse 1 w).bind fun p1 => (some ((p1.1, p1.2)))
noncomputable def fM_lift (x1 : Int) (x2 : Int) (w : pj_W) : Option (Int × pj_W) :=
  (fM_isFinder x1 w).bind fun p1 => (if p1 = 0 then (fM_lift_16 w) else ((fM_isFind x2 w).bind fun p4 => (if p4 = 0 then (fM_lift_16 w) else ((fM_wrongLift x1 x2 w).bind fun p7 => (if p7 ≤ 0 then ((fM_lifts x1 x2 w).bind fun p10 => ((fM_gives p10.1 p10.2).bind fun p12 => (some ((p12.1, p12.2))))) else ((fM_refuse p7 w).bind fun p14 => (some ((p14.1, p14.2)))))))))
theorem tM_lift_16 {Go : pj_C → Prop} (hM : pj_M l yX12_lift cX12_lift 4 (some .int) 4 91 true g n0 o Go)  (w : pj_W)  (R : Int × pj_W → Prop) (h0 : ∀ r, R (r) → ((some (0, r.1) : Option pj_V), r.2) = o) : pj_TG R (fM_lift_16  w) (Go (16, [(26, 0), (9, 0), (9, 0), (9, 0)], [], w)) := by
  unfold fM_lift_16
  refine pj_tbind (fun p1 h2 => ?_)
  exact pj_tret (fun hr => pj_aload_n hM (pc := 16) dX12_lift_16 rfl rfl (pj_iconst hM (pc := 17) dX12_lift_17 (by decide) (pj_cV hM (pc := 18) (cM_refuse 1 w p1 h2) dX12_lift_18 mf_X12_refuse mv_X12_refuse ml_X12_78 kc_26 rfl rfl (by decide) rfl rfl (pj_ret hM (pc := 21) dX12_lift_21 ⟨_, rfl⟩ (h0 ((p1.1, p1.2)) hr) rfl))))
theorem tM_lift {Go : pj_C → Prop} (hM : pj_M l yX12_lift cX12_lift 4 (some .int) 4 91 true g n0 o Go) (x1 : Int) (x2 : Int) (w : pj_W)  (R : Int × pj_W → Prop) (h0 : ∀ r, R (r) → ((some (0, r.1) : Option pj_V), r.2) = o) : pj_TG R (fM_lift x1 x2 w) (Go (0, [(26, 0), (0, x1), (0, x2), (9, 0)], [], w)) := by
  unfold fM_lift
  refine pj_tbind (fun p1 h2 => ?_)
  refine pj_map (fun k => pj_aload_n hM (pc := 0) dX12_lift_0 rfl rfl (pj_iload_n hM (pc := 1) dX12_lift_1 rfl (pj_cV hM (pc := 2) (cM_isFinder x1 w p1 h2) dX12_lift_2 mf_X12_isFinder mv_X12_isFinder ml_X12_271 kc_26 rfl rfl (by decide) rfl rfl k))) ?_
  refine pj_tif (fun h3 => ?_) (fun h3 => ?_)
  · refine pj_map (fun k => pj_if_eq_t hM (pc := 5) dX12_lift_5 rfl h3 (pj_kill hM [true, false, false, false] (lls' := [(26, 0), (9, 0), (9, 0), (9, 0)]) rfl k)) ?_
    exact tM_lift_16 hM w _ h0
  refine pj_tbind (fun p4 h5 => ?_)
  refine pj_map (fun k => pj_if_eq_f hM (pc := 5) 16 dX12_lift_5 rfl h3 (pj_aload_n hM (pc := 8) dX12_lift_8 rfl rfl (pj_iload_n hM (pc := 9) dX12_lift_9 rfl (pj_cV hM (pc := 10) (cM_isFind x2 w p4 h5) dX12_lift_10 mf_X12_isFind mv_X12_isFind ml_X12_265 kc_26 rfl rfl (by decide) rfl rfl k)))) ?_
  refine pj_tif (fun h6 => ?_) (fun h6 => ?_)
  · refine pj_map (fun k => pj_if_ne_f hM (pc := 13) 22 dX12_lift_13 rfl (fun q => q h6) (pj_kill hM [true, false, false, false] (lls' := [(26, 0), (9, 0), (9, 0), (9, 0)]) rfl k)) ?_
    exact tM_lift_16 hM w _ h0
  refine pj_tbind (fun p7 h8 => ?_)
  refine pj_map (fun k => pj_if_ne_t hM (pc := 13) dX12_lift_13 rfl h6 (pj_aload_n hM (pc := 22) dX12_lift_22 rfl rfl (pj_iload_n hM (pc := 23) dX12_lift_23 rfl (pj_iload_n hM (pc := 24) dX12_lift_24 rfl (pj_cV hM (pc := 25) (cM_wrongLift x1 x2 w p7 h8) dX12_lift_25 mf_X12_wrongLift mv_X12_wrongLift ml_X12_320 kc_26 rfl rfl (by decide) rfl rfl (pj_istore_n hM (pc := 28) dX12_lift_28 (by decide) (lls' := [(26, 0), (0, x1), (0, x2), (0, p7)]) rfl (pj_iload_n hM (pc := 29) dX12_lift_29 rfl k))))))) ?_
  refine pj_tif (fun h9 => ?_) (fun h9 => ?_)
  · refine pj_tbind (fun p10 h11 => ?_)
    refine pj_tbind (fun p12 h13 => ?_)
    exact pj_tret (fun hr => pj_if_le_t hM (pc := 30) dX12_lift_30 rfl h9 (pj_aload_n hM (pc := 41) dX12_lift_41 rfl rfl (pj_aload_n hM (pc := 42) dX12_lift_42 rfl rfl (pj_iload_n hM (pc := 43) dX12_lift_43 rfl (pj_iload_n hM (pc := 44) dX12_lift_44 rfl (pj_cV hM (pc := 45) (cM_lifts x1 x2 w p10 h11) dX12_lift_45 mf_X12_lifts mv_X12_lifts ml_X12_323 kc_26 rfl rfl (by decide) rfl rfl (pj_cV hM (pc := 48) (cM_gives p10.1 p10.2 p12 h13) dX12_lift_48 mf_X12_gives mv_X12_gives ml_X12_82 kc_26 rfl rfl (by decide) rfl rfl (pj_ret hM (pc := 51) dX12_lift_51 ⟨_, rfl⟩ (h0 ((p12.1, p12.2)) hr) rfl))))))))
  refine pj_tbind (fun p14 h15 => ?_)
  exact pj_tret (fun hr => pj_if_le_f hM (pc := 30) 41 dX12_lift_30 rfl h9 (pj_aload_n hM (pc := 33) dX12_lift_33 rfl rfl (pj_iload_n hM (pc := 34) dX12_lift_34 rfl (pj_cV hM (pc := 35) (cM_refuse p7 w p14 h15) dX12_lift_35 mf_X12_refuse mv_X12_refuse ml_X12_78 kc_26 rfl rfl (by decide) rfl rfl (pj_goto hM (pc := 38) dX12_lift_38 rfl (pj_ret hM (pc := 51) dX12_lift_51 ⟨_, rfl⟩ (h0 ((p14.1, p14.2)) hr) rfl))))))
theorem cM_lift (x1 : Int) (x2 : Int)  (w : pj_W) (r : Int × pj_W) (h : fM_lift x1 x2 w = some r) : pj_Cn l yX12_lift cX12_lift 4 (some .int) 4 91 true g [(26, 0), (0, x1), (0, x2)] w ((some (0, r.1) : Option pj_V), r.2) :=
  pj_Cn_of rfl (Nat.le_of_ble_eq_true rfl) (lls := [(26, 0), (0, x1), (0, x2), (9, 0)]) rfl (fun Go hM => tM_lift hM x1 x2 w (fun x => ((some (0, x.1) : Option pj_V), x.2) = ((some (0, r.1) : Option pj_V), r.2)) (fun r h => h) r h rfl)
noncomputable def fM_behindEnds_114 (s0 : Int) (w : pj_W) : Option ((Int × pj_W) ⊕ (Int × pj_W)) :=
  some (Sum.inl (s0, w))
noncomputable def fM_behindEnds_98 (x2 : Int) (x3 : Int) (x4 : Int) (s1 : Int) (s2 : Int) (s3 : Int) (w : pj_W) : Option ((Int × pj_W) ⊕ (Int × pj_W)) :=
  if 0 ≤ s1 ∧ s1 < 80 then (fM_behindEnds_114 (if x4 = 0 then (pj_wr (x2 + 1)) else (pj_wr (x3 + 1))) (pj_set w 72 0 s1 (pj_wr (s2 - s3)))) else none
noncomputable def fM_behindEnds_79 (x2 : Int) (x3 : Int) (s0 : Int) (w : pj_W) : Option ((Int × pj_W) ⊕ (Int × pj_W)) :=
  if 0 ≤ x3 ∧ x3 < 80 then (fM_behindEnds_98 x2 x3 s0 x3 (w 72 0 x3) (if s0 = 0 then (0 : Int) else 1) w) else none
noncomputable def fM_behindEnds_78 (x2 : Int) (x3 : Int) (w : pj_W) : Option ((Int × pj_W) ⊕ (Int × pj_W)) :=
  fM_behindEnds_79 x2 x3 0 w
noncomputable def fM_behindEnds_2b  (x2 : Int) (w : pj_W) : Option ((Int × pj_W) ⊕ (Int × pj_W)) :=
  if (w 60 0 9) ≤ x2 then (some (Sum.inr ((x2, w)))) else (if 0 ≤ (pj_wr (1030 + (pj_wr (6 * x2)))) ∧ (pj_wr (1030 + (pj_wr (6 * x2)))) < 8400 then (if (w 60 0 (pj_wr (1030 + (pj_wr (6 * x2))))) = 26 then (if 0 ≤ (pj_wr ((pj_wr (1030 + (pj_wr (6 * x2)))) + 4)) ∧ (pj_wr ((pj_wr (1030 + (pj_wr (6 * x2)))) + 4)) < 8400 then (if 0 ≤ (pj_wr (1030 + (pj_wr (6 * (w 60 0 (pj_wr ((pj_wr (1030 + (pj_wr (6 * x2)))) + 4))))))) ∧ (pj_wr (1030 + (pj_wr (6 * (w 60 0 (pj_wr ((pj_wr (1030 + (pj_wr (6 * x2)))) + 4))))))) < 8400 then (if (w 60 0 (pj_wr (1030 + (pj_wr (6 * (w 60 0 (pj_wr ((pj_wr (1030 + (pj_wr (6 * x2)))) + 4)))))))) = 25 then (if 0 ≤ (w 60 0 (pj_wr ((pj_wr (1030 + (pj_wr (6 * x2)))) + 4))) ∧ (w 60 0 (pj_wr ((pj_wr (1030 + (pj_wr (6 * x2)))) + 4))) < 80 then (if (w 72 0 (w 60 0 (pj_wr ((pj_wr (1030 + (pj_wr (6 * x2)))) + 4)))) ≤ 0 then (fM_behindEnds_78 x2 (w 60 0 (pj_wr ((pj_wr (1030 + (pj_wr (6 * x2)))) + 4))) w) else (fM_behindEnds_79 x2 (w 60 0 (pj_wr ((pj_wr (1030 + (pj_wr (6 * x2)))) + 4))) 1 w)) else none) else (fM_behindEnds_78 x2 (w 60 0 (pj_wr ((pj_wr (1030 + (pj_wr (6 * x2)))) + 4))) w)) else none) else none) else (some (Sum.inr ((x2, w))))) else none)
noncomputable def fM_behindEnds_2  (s : (Int × pj_W)) : Option (Int × pj_W) := pj_Lp (fun s : (Int × pj_W) => fM_behindEnds_2b  s.1 s.2) s
noncomputable def fM_behindEnds (x1 : Int) (w : pj_W) : Option (Int × pj_W) :=
  fM_behindEnds_2 (x1, w)
theorem tM_behindEnds_114 {Go : pj_C → Prop} (hM : pj_M l yX12_behindEnds cX12_behindEnds 5 (some .int) 0 0 true g n0 o Go) (s0 : Int) (w : pj_W)  (R : (Int × pj_W) ⊕ (Int × pj_W) → Prop) (h0 : ∀ r, R (Sum.inr (r)) → ((some (0, r.1) : Option pj_V), r.2) = o) (hk2 : ∀ s, R (Sum.inl s) → Go (2, [(26, 0), (9, 0), (0, s.1), (9, 0), (9, 0)], [], s.2)) : pj_TG R (fM_behindEnds_114 s0 w) (Go (114, [(26, 0), (9, 0), (9, 0), (9, 0), (9, 0)], [(0, s0)], w)) := by
  unfold fM_behindEnds_114
  exact pj_tret (fun hr => pj_istore_n hM (pc := 114) dX12_behindEnds_114 (by decide) (lls' := [(26, 0), (9, 0), (0, s0), (9, 0), (9, 0)]) rfl (pj_goto hM (pc := 115) dX12_behindEnds_115 rfl (pj_kill hM [true, false, true, false, false] (lls' := [(26, 0), (9, 0), (0, s0), (9, 0), (9, 0)]) rfl ((hk2 _ hr)))))
theorem tM_behindEnds_98 {Go : pj_C → Prop} (hM : pj_M l yX12_behindEnds cX12_behindEnds 5 (some .int) 0 0 true g n0 o Go) (x2 : Int) (x3 : Int) (x4 : Int) (s1 : Int) (s2 : Int) (s3 : Int) (w : pj_W)  (R : (Int × pj_W) ⊕ (Int × pj_W) → Prop) (h0 : ∀ r, R (Sum.inr (r)) → ((some (0, r.1) : Option pj_V), r.2) = o) (hk2 : ∀ s, R (Sum.inl s) → Go (2, [(26, 0), (9, 0), (0, s.1), (9, 0), (9, 0)], [], s.2)) : pj_TG R (fM_behindEnds_98 x2 x3 x4 s1 s2 s3 w) (Go (98, [(26, 0), (9, 0), (0, x2), (0, x3), (0, x4)], [(0, s3), (0, s2), (0, s1), (72, 0)], w)) := by
  unfold fM_behindEnds_98
  refine pj_tgd (fun h1 => ?_)
  refine pj_map (fun k => pj_isub hM (pc := 98) dX12_behindEnds_98 (pj_ias hM (pc := 99) dX12_behindEnds_99 ki_72 (by decide) h1 (pj_iload hM (pc := 100) dX12_behindEnds_100 rfl k))) ?_
  refine pj_tJ (fun v : Int => fM_behindEnds_114 v (pj_set w 72 0 s1 (pj_wr (s2 - s3)))) (fun h2 => ?_) (fun h2 => ?_)
  · refine pj_map (fun k => pj_if_eq_t hM (pc := 102) dX12_behindEnds_102 rfl h2 (pj_iload_n hM (pc := 111) dX12_behindEnds_111 rfl (pj_iconst hM (pc := 112) dX12_behindEnds_112 (by decide) (pj_iadd hM (pc := 113) dX12_behindEnds_113 (pj_kill hM [true, false, false, false, false] (lls' := [(26, 0), (9, 0), (9, 0), (9, 0), (9, 0)]) rfl k))))) ?_
    exact tM_behindEnds_114 hM (pj_wr (x2 + 1)) (pj_set w 72 0 s1 (pj_wr (s2 - s3))) _ h0 hk2
  refine pj_map (fun k => pj_if_eq_f hM (pc := 102) 111 dX12_behindEnds_102 rfl h2 (pj_iload_n hM (pc := 105) dX12_behindEnds_105 rfl (pj_iconst hM (pc := 106) dX12_behindEnds_106 (by decide) (pj_iadd hM (pc := 107) dX12_behindEnds_107 (pj_goto hM (pc := 108) dX12_behindEnds_108 rfl (pj_kill hM [true, false, false, false, false] (lls' := [(26, 0), (9, 0), (9, 0), (9, 0), (9, 0)]) rfl k)))))) ?_
  exact tM_behindEnds_114 hM (pj_wr (x3 + 1)) (pj_set w 72 0 s1 (pj_wr (s2 - s3))) _ h0 hk2
theorem tM_behindEnds_79 {Go : pj_C → Prop} (hM : pj_M l yX12_behindEnds cX12_behindEnds 5 (some .int) 0 0 true g n0 o Go) (x2 : Int) (x3 : Int) (s0 : Int) (w : pj_W)  (R : (Int × pj_W) ⊕ (Int × pj_W) → Prop) (h0 : ∀ r, R (Sum.inr (r)) → ((some (0, r.1) : Option pj_V), r.2) = o) (hk2 : ∀ s, R (Sum.inl s) → Go (2, [(26, 0), (9, 0), (0, s.1), (9, 0), (9, 0)], [], s.2)) : pj_TG R (fM_behindEnds_79 x2 x3 s0 w) (Go (79, [(26, 0), (9, 0), (0, x2), (0, x3), (9, 0)], [(0, s0)], w)) := by
  unfold fM_behindEnds_79
  refine pj_tgd (fun h1 => ?_)
  refine pj_map (fun k => pj_istore hM (pc := 79) dX12_behindEnds_79 (by decide) (lls' := [(26, 0), (9, 0), (0, x2), (0, x3), (0, s0)]) rfl (pj_aload_n hM (pc := 81) dX12_behindEnds_81 rfl rfl (pj_getF hM (pc := 82) (t := 72) dX12_behindEnds_82 fl_X12_59 (by decide) rfl rfl (pj_iload_n hM (pc := 85) dX12_behindEnds_85 rfl (pj_dup2 hM (pc := 86) dX12_behindEnds_86 (by decide) (by decide) (pj_ial hM (pc := 87) dX12_behindEnds_87 ki_72 (by decide) h1 (pj_iload hM (pc := 88) dX12_behindEnds_88 rfl k))))))) ?_
  refine pj_tJ (fun v : Int => fM_behindEnds_98 x2 x3 s0 x3 (w 72 0 x3) v w) (fun h2 => ?_) (fun h2 => ?_)
  · refine pj_map (fun k => pj_if_eq_t hM (pc := 90) dX12_behindEnds_90 rfl h2 (pj_iconst hM (pc := 97) dX12_behindEnds_97 (by decide) (pj_kill hM [true, false, true, true, true] (lls' := [(26, 0), (9, 0), (0, x2), (0, x3), (0, s0)]) rfl k))) ?_
    exact tM_behindEnds_98 hM x2 x3 s0 x3 (w 72 0 x3) 0 w _ h0 hk2
  refine pj_map (fun k => pj_if_eq_f hM (pc := 90) 97 dX12_behindEnds_90 rfl h2 (pj_iconst hM (pc := 93) dX12_behindEnds_93 (by decide) (pj_goto hM (pc := 94) dX12_behindEnds_94 rfl (pj_kill hM [true, false, true, true, true] (lls' := [(26, 0), (9, 0), (0, x2), (0, x3), (0, s0)]) rfl k)))) ?_
  exact tM_behindEnds_98 hM x2 x3 s0 x3 (w 72 0 x3) 1 w _ h0 hk2
theorem tM_behindEnds_78 {Go : pj_C → Prop} (hM : pj_M l yX12_behindEnds cX12_behindEnds 5 (some .int) 0 0 true g n0 o Go) (x2 : Int) (x3 : Int) (w : pj_W)  (R : (Int × pj_W) ⊕ (Int × pj_W) → Prop) (h0 : ∀ r, R (Sum.inr (r)) → ((some (0, r.1) : Option pj_V), r.2) = o) (hk2 : ∀ s, R (Sum.inl s) → Go (2, [(26, 0), (9, 0), (0, s.1), (9, 0), (9, 0)], [], s.2)) : pj_TG R (fM_behindEnds_78 x2 x3 w) (Go (78, [(26, 0), (9, 0), (0, x2), (0, x3), (9, 0)], [], w)) := by
  unfold fM_behindEnds_78
  refine pj_map (fun k => pj_iconst hM (pc := 78) dX12_behindEnds_78 (by decide) (pj_kill hM [true, false, true, true, false] (lls' := [(26, 0), (9, 0), (0, x2), (0, x3), (9, 0)]) rfl k)) ?_
  exact tM_behindEnds_79 hM x2 x3 0 w _ h0 hk2
theorem tM_behindEnds_2b {Go : pj_C → Prop} (hM : pj_M l yX12_behindEnds cX12_behindEnds 5 (some .int) 0 0 true g n0 o Go)  (x2 : Int) (w : pj_W)  (R : (Int × pj_W) ⊕ (Int × pj_W) → Prop) (h0 : ∀ r, R (Sum.inr (r)) → ((some (0, r.1) : Option pj_V), r.2) = o) (hk2 : ∀ s, R (Sum.inl s) → Go (2, [(26, 0), (9, 0), (0, s.1), (9, 0), (9, 0)], [], s.2)) : pj_TG R (fM_behindEnds_2b  x2 w) (Go (2, [(26, 0), (9, 0), (0, x2), (9, 0), (9, 0)], [], w)) := by
  unfold fM_behindEnds_2b
  refine pj_map (fun k => pj_iload_n hM (pc := 2) dX12_behindEnds_2 rfl (pj_aload_n hM (pc := 3) dX12_behindEnds_3 rfl rfl (pj_getF hM (pc := 4) (t := 60) dX12_behindEnds_4 fl_X12_7 (by decide) rfl rfl (pj_bipush hM (pc := 7) dX12_behindEnds_7 (by decide) (pj_ial hM (pc := 9) dX12_behindEnds_9 ki_60 (by decide) (by decide) k))))) ?_
  refine pj_tif (fun h1 => ?_) (fun h1 => ?_)
  · exact pj_tret (fun hr => pj_ic_ge_t hM (pc := 10) dX12_behindEnds_10 rfl h1 (pj_iload_n hM (pc := 118) dX12_behindEnds_118 rfl (pj_ret hM (pc := 119) dX12_behindEnds_119 ⟨_, rfl⟩ (h0 ((x2, w)) hr) rfl)))
  refine pj_tgd (fun h2 => ?_)
  refine pj_map (fun k => pj_ic_ge_f hM (pc := 10) 118 dX12_behindEnds_10 rfl h1 (pj_aload_n hM (pc := 13) dX12_behindEnds_13 rfl rfl (pj_getF hM (pc := 14) (t := 60) dX12_behindEnds_14 fl_X12_7 (by decide) rfl rfl (pj_sipush hM (pc := 17) dX12_behindEnds_17 (by decide) (pj_bipush hM (pc := 20) dX12_behindEnds_20 (by decide) (pj_iload_n hM (pc := 22) dX12_behindEnds_22 rfl (pj_imul hM (pc := 23) dX12_behindEnds_23 (pj_iadd hM (pc := 24) dX12_behindEnds_24 (pj_ial hM (pc := 25) dX12_behindEnds_25 ki_60 (by decide) h2 (pj_bipush hM (pc := 26) dX12_behindEnds_26 (by decide) k)))))))))) ?_
  refine pj_tif (fun h3 => ?_) (fun h3 => ?_)
  · refine pj_tgd (fun h4 => ?_)
    refine pj_tgd (fun h5 => ?_)
    refine pj_map (fun k => pj_ic_ne_f hM (pc := 28) 118 dX12_behindEnds_28 rfl (fun q => q h3) (pj_aload_n hM (pc := 31) dX12_behindEnds_31 rfl rfl (pj_getF hM (pc := 32) (t := 60) dX12_behindEnds_32 fl_X12_7 (by decide) rfl rfl (pj_sipush hM (pc := 35) dX12_behindEnds_35 (by decide) (pj_bipush hM (pc := 38) dX12_behindEnds_38 (by decide) (pj_iload_n hM (pc := 40) dX12_behindEnds_40 rfl (pj_imul hM (pc := 41) dX12_behindEnds_41 (pj_iadd hM (pc := 42) dX12_behindEnds_42 (pj_iconst hM (pc := 43) dX12_behindEnds_43 (by decide) (pj_iadd hM (pc := 44) dX12_behindEnds_44 (pj_ial hM (pc := 45) dX12_behindEnds_45 ki_60 (by decide) h4 (pj_istore_n hM (pc := 46) dX12_behindEnds_46 (by decide) (lls' := [(26, 0), (9, 0), (0, x2), (0, (w 60 0 (pj_wr ((pj_wr (1030 + (pj_wr (6 * x2)))) + 4)))), (9, 0)]) rfl (pj_aload_n hM (pc := 47) dX12_behindEnds_47 rfl rfl (pj_getF hM (pc := 48) (t := 60) dX12_behindEnds_48 fl_X12_7 (by decide) rfl rfl (pj_sipush hM (pc := 51) dX12_behindEnds_51 (by decide) (pj_bipush hM (pc := 54) dX12_behindEnds_54 (by decide) (pj_iload_n hM (pc := 56) dX12_behindEnds_56 rfl (pj_imul hM (pc := 57) dX12_behindEnds_57 (pj_iadd hM (pc := 58) dX12_behindEnds_58 (pj_ial hM (pc := 59) dX12_behindEnds_59 ki_60 (by decide) h5 (pj_bipush hM (pc := 60) dX12_behindEnds_60 (by decide) k))))))))))))))))))))) ?_
    refine pj_tif (fun h6 => ?_) (fun h6 => ?_)
    · refine pj_tgd (fun h7 => ?_)
      refine pj_map (fun k => pj_ic_ne_f hM (pc := 62) 78 dX12_behindEnds_62 rfl (fun q => q h6) (pj_aload_n hM (pc := 65) dX12_behindEnds_65 rfl rfl (pj_getF hM (pc := 66) (t := 72) dX12_behindEnds_66 fl_X12_59 (by decide) rfl rfl (pj_iload_n hM (pc := 69) dX12_behindEnds_69 rfl (pj_ial hM (pc := 70) dX12_behindEnds_70 ki_72 (by decide) h7 k))))) ?_
      refine pj_tif (fun h8 => ?_) (fun h8 => ?_)
      · refine pj_map (fun k => pj_if_le_t hM (pc := 71) dX12_behindEnds_71 rfl h8 (pj_kill hM [true, false, true, true, false] (lls' := [(26, 0), (9, 0), (0, x2), (0, (w 60 0 (pj_wr ((pj_wr (1030 + (pj_wr (6 * x2)))) + 4)))), (9, 0)]) rfl k)) ?_
        exact tM_behindEnds_78 hM x2 (w 60 0 (pj_wr ((pj_wr (1030 + (pj_wr (6 * x2)))) + 4))) w _ h0 hk2
      refine pj_map (fun k => pj_if_le_f hM (pc := 71) 78 dX12_behindEnds_71 rfl h8 (pj_iconst hM (pc := 74) dX12_behindEnds_74 (by decide) (pj_goto hM (pc := 75) dX12_behindEnds_75 rfl (pj_kill hM [true, false, true, true, false] (lls' := [(26, 0), (9, 0), (0, x2), (0, (w 60 0 (pj_wr ((pj_wr (1030 + (pj_wr (6 * x2)))) + 4)))), (9, 0)]) rfl k)))) ?_
      exact tM_behindEnds_79 hM x2 (w 60 0 (pj_wr ((pj_wr (1030 + (pj_wr (6 * x2)))) + 4))) 1 w _ h0 hk2
    refine pj_map (fun k => pj_ic_ne_t hM (pc := 62) dX12_behindEnds_62 rfl h6 (pj_kill hM [true, false, true, true, false] (lls' := [(26, 0), (9, 0), (0, x2), (0, (w 60 0 (pj_wr ((pj_wr (1030 + (pj_wr (6 * x2)))) + 4)))), (9, 0)]) rfl k)) ?_
    exact tM_behindEnds_78 hM x2 (w 60 0 (pj_wr ((pj_wr (1030 + (pj_wr (6 * x2)))) + 4))) w _ h0 hk2
  exact pj_tret (fun hr => pj_ic_ne_t hM (pc := 28) dX12_behindEnds_28 rfl h3 (pj_iload_n hM (pc := 118) dX12_behindEnds_118 rfl (pj_ret hM (pc := 119) dX12_behindEnds_119 ⟨_, rfl⟩ (h0 ((x2, w)) hr) rfl)))
theorem tM_behindEnds_2 {Go : pj_C → Prop} (hM : pj_M l yX12_behindEnds cX12_behindEnds 5 (some .int) 0 0 true g n0 o Go)   (R : Int × pj_W → Prop) (h0 : ∀ r, R (r) → ((some (0, r.1) : Option pj_V), r.2) = o) (s : (Int × pj_W)) : pj_TG R (fM_behindEnds_2  s) (Go (2, [(26, 0), (9, 0), (0, s.1), (9, 0), (9, 0)], [], s.2)) := by
  unfold fM_behindEnds_2
  exact pj_tLp (G := fun s : (Int × pj_W) => Go (2, [(26, 0), (9, 0), (0, s.1), (9, 0), (9, 0)], [], s.2)) (fun s => tM_behindEnds_2b hM  s.1 s.2  _ (fun r h => h0 r h)  (fun s h => h)) s
theorem tM_behindEnds {Go : pj_C → Prop} (hM : pj_M l yX12_behindEnds cX12_behindEnds 5 (some .int) 0 0 true g n0 o Go) (x1 : Int) (w : pj_W)  (R : Int × pj_W → Prop) (h0 : ∀ r, R (r) → ((some (0, r.1) : Option pj_V), r.2) = o) : pj_TG R (fM_behindEnds x1 w) (Go (0, [(26, 0), (0, x1), (9, 0), (9, 0), (9, 0)], [], w)) := by
  unfold fM_behindEnds
  refine pj_map (fun k => pj_iload_n hM (pc := 0) dX12_behindEnds_0 rfl (pj_istore_n hM (pc := 1) dX12_behindEnds_1 (by decide) (lls' := [(26, 0), (0, x1), (0, x1), (9, 0), (9, 0)]) rfl (pj_kill hM [true, false, true, false, false] (lls' := [(26, 0), (9, 0), (0, x1), (9, 0), (9, 0)]) rfl k))) ?_
  exact tM_behindEnds_2 hM _ h0 _
theorem cM_behindEnds (x1 : Int)  (w : pj_W) (r : Int × pj_W) (h : fM_behindEnds x1 w = some r) : pj_Cn l yX12_behindEnds cX12_behindEnds 5 (some .int) 0 0 true g [(26, 0), (0, x1)] w ((some (0, r.1) : Option pj_V), r.2) :=
  pj_Cn_of rfl (Nat.le_of_ble_eq_true rfl) (lls := [(26, 0), (0, x1), (9, 0), (9, 0), (9, 0)]) rfl (fun Go hM => tM_behindEnds hM x1 w (fun x => ((some (0, x.1) : Option pj_V), x.2) = ((some (0, r.1) : Option pj_V), r.2)) (fun r h => h) r h rfl)
noncomputable def fM_floods_112b (x1 : Int) (x2 : Int) (w : pj_W) : Option ((Int × pj_W) ⊕ ((Int × pj_W) ⊕ (pj_W))) :=
  (fM_manyOn x1 w).bind fun p1 => (if p1 ≤ x2 then ((fM_findRow 0 x1 w).bind fun p4 => (if 0 ≤ (pj_wr (p4 + 2)) ∧ (pj_wr (p4 + 2)) < 8400 then (some (Sum.inr (Sum.inl ((pj_wr (x1 + 1)), (pj_set w 60 0 (pj_wr (p4 + 2)) 0))))) else none)) else ((fM_whoAt x1 x2 w).bind fun p7 => ((fM_finderRow p7 w).bind fun p9 => (if 0 ≤ (pj_wr (p9 + 2)) ∧ (pj_wr (p9 + 2)) < 8400 then (some (Sum.inl ((pj_wr (x2 + 1)), (pj_set w 60 0 (pj_wr (p9 + 2)) (pj_wr ((w 60 0 (pj_wr (p9 + 2))) + 1)))))) else none))))
noncomputable def fM_floods_112 (x1 : Int) (s : (Int × pj_W)) : Option ((Int × pj_W) ⊕ (pj_W)) := pj_Lp (fun s : (Int × pj_W) => fM_floods_112b x1 s.1 s.2) s
noncomputable def fM_floods_168b  (x1 : Int) (w : pj_W) : Option ((Int × pj_W) ⊕ (pj_W)) :=
  if (w 60 0 1) ≤ x1 then ((some (pj_set (pj_set (pj_set w 60 0 8 0) 60 0 7 0) 60 0 6 (pj_wr (((pj_set (pj_set w 60 0 8 0) 60 0 7 0) 60 0 6) + 1)))).bind fun w2 => (some (Sum.inr ((pj_set w2 60 0 3 (max 1 (pj_wr ((w2 60 0 3) - (w2 60 0 4))))))))) else ((fM_finderRow x1 w).bind fun p3 => (if 0 ≤ (pj_wr (p3 + 3)) ∧ (pj_wr (p3 + 3)) < 8400 then (some (Sum.inl ((pj_wr (x1 + 1)), (pj_set w 60 0 (pj_wr (p3 + 3)) 0)))) else none))
noncomputable def fM_floods_168  (s : (Int × pj_W)) : Option (pj_W) := pj_Lp (fun s : (Int × pj_W) => fM_floods_168b  s.1 s.2) s
noncomputable def fM_floods_100b  (x1 : Int) (w : pj_W) : Option ((Int × pj_W) ⊕ (pj_W)) :=
  if (w 60 0 2) ≤ x1 then ((fM_floods_168 (0, w)).map Sum.inr) else (fM_floods_112 x1 (0, w))
noncomputable def fM_floods_100  (s : (Int × pj_W)) : Option (pj_W) := pj_Lp (fun s : (Int × pj_W) => fM_floods_100b  s.1 s.2) s
noncomputable def fM_floods_84 (x1 : Int) (x2 : Int) (x3 : Int) (s1 : Int) (s2 : Int) (s3 : Int) (w : pj_W) : Option ((Int × pj_W) ⊕ ((Int × pj_W) ⊕ (pj_W))) :=
  if 0 ≤ s1 ∧ s1 < 8400 then (some (Sum.inl ((pj_wr (x3 + 1)), (pj_set w 60 0 s1 (pj_wr (s2 + s3)))))) else none
noncomputable def fM_floods_32b (x1 : Int) (x2 : Int) (x3 : Int) (w : pj_W) : Option ((Int × pj_W) ⊕ ((Int × pj_W) ⊕ (pj_W))) :=
  if (w 60 0 1) ≤ x3 then (some (Sum.inr (Sum.inl ((pj_wr (x1 + 1)), w)))) else ((fM_finderRow x3 w).bind fun p2 => (if 0 ≤ (pj_wr (p2 + 4)) ∧ (pj_wr (p2 + 4)) < 8400 then (if (pj_and (pj_shr x2 x3) 1) = 1 then ((fM_findRow 0 x1 w).bind fun p6 => (if 0 ≤ (pj_wr (p6 + 1)) ∧ (pj_wr (p6 + 1)) < 8400 then ((fM_bits x2 w).bind fun p9 => (if ¬ p9 = 0 then (fM_floods_84 x1 x2 x3 (pj_wr (p2 + 4)) (w 60 0 (pj_wr (p2 + 4))) (pj_div (w 60 0 (pj_wr (p6 + 1))) p9) w) else none)) else none)) else (fM_floods_84 x1 x2 x3 (pj_wr (p2 + 4)) (w 60 0 (pj_wr (p2 + 4))) 0 w)) else none))
noncomputable def fM_floods_32 (x1 : Int) (x2 : Int) (s : (Int × pj_W)) : Option ((Int × pj_W) ⊕ (pj_W)) := pj_Lp (fun s : (Int × pj_W) => fM_floods_32b x1 x2 s.1 s.2) s
noncomputable def fM_floods_29 (x1 : Int) (s0 : Int) (w : pj_W) : Option ((Int × pj_W) ⊕ (pj_W)) :=
  fM_floods_32 x1 s0 (0, w)
noncomputable def fM_floods_2b  (x1 : Int) (w : pj_W) : Option ((Int × pj_W) ⊕ (pj_W)) :=
  if (w 60 0 2) ≤ x1 then ((fM_floods_100 (0, w)).map Sum.inr) else ((fM_isThere x1 w).bind fun p2 => (if p2 = 0 then (fM_floods_29 x1 0 w) else ((fM_ownersOf x1 w).bind fun p5 => (fM_floods_29 x1 p5 w))))
noncomputable def fM_floods_2  (s : (Int × pj_W)) : Option (pj_W) := pj_Lp (fun s : (Int × pj_W) => fM_floods_2b  s.1 s.2) s
noncomputable def fM_floods  (w : pj_W) : Option (pj_W) :=
  fM_floods_2 (0, w)
theorem tM_floods_112b {Go : pj_C → Prop} (hM : pj_M l yX12_floods cX12_floods 4 none 4 91 true g n0 o Go) (x1 : Int) (x2 : Int) (w : pj_W)  (R : (Int × pj_W) ⊕ ((Int × pj_W) ⊕ (pj_W)) → Prop) (h0 : ∀ r, R (Sum.inr (Sum.inr (r))) → ((none : Option pj_V), r) = o) (hk100 : ∀ s, R (Sum.inr (Sum.inl s)) → Go (100, [(26, 0), (0, s.1), (9, 0), (9, 0)], [], s.2)) (hk112 : ∀ s, R (Sum.inl s) → Go (112, [(26, 0), (0, x1), (0, s.1), (9, 0)], [], s.2)) : pj_TG R (fM_floods_112b x1 x2 w) (Go (112, [(26, 0), (0, x1), (0, x2), (9, 0)], [], w)) := by
  unfold fM_floods_112b
  refine pj_tbind (fun p1 h2 => ?_)
  refine pj_map (fun k => pj_iload_n hM (pc := 112) dX12_floods_112 rfl (pj_aload_n hM (pc := 113) dX12_floods_113 rfl rfl (pj_iload_n hM (pc := 114) dX12_floods_114 rfl (pj_cV hM (pc := 115) (cM_manyOn x1 w p1 h2) dX12_floods_115 mf_X12_manyOn mv_X12_manyOn ml_X12_277 kc_26 rfl rfl (by decide) rfl rfl k)))) ?_
  refine pj_tif (fun h3 => ?_) (fun h3 => ?_)
  · refine pj_tbind (fun p4 h5 => ?_)
    refine pj_tgd (fun h6 => ?_)
    exact pj_tret (fun hr => pj_ic_ge_t hM (pc := 118) dX12_floods_118 rfl h3 (pj_aload_n hM (pc := 147) dX12_floods_147 rfl rfl (pj_getF hM (pc := 148) (t := 60) dX12_floods_148 fl_X12_7 (by decide) rfl rfl (pj_iconst hM (pc := 151) dX12_floods_151 (by decide) (pj_iload_n hM (pc := 152) dX12_floods_152 rfl (pj_cS hM (pc := 153) (cM_findRow 0 x1 w p4 h5) dX12_floods_153 mf_X12_findRow ms_X12_findRow ml_X12_171 rfl rfl rfl rfl (pj_iconst hM (pc := 156) dX12_floods_156 (by decide) (pj_iadd hM (pc := 157) dX12_floods_157 (pj_iconst hM (pc := 158) dX12_floods_158 (by decide) (pj_ias hM (pc := 159) dX12_floods_159 ki_60 (by decide) h6 (pj_iinc hM (pc := 160) dX12_floods_160 rfl (by decide) (lls' := [(26, 0), (0, (pj_wr (x1 + 1))), (0, x2), (9, 0)]) rfl (pj_goto hM (pc := 163) dX12_floods_163 rfl (pj_kill hM [true, true, false, false] (lls' := [(26, 0), (0, (pj_wr (x1 + 1))), (9, 0), (9, 0)]) rfl ((hk100 _ hr)))))))))))))))
  refine pj_tbind (fun p7 h8 => ?_)
  refine pj_tbind (fun p9 h10 => ?_)
  refine pj_tgd (fun h11 => ?_)
  exact pj_tret (fun hr => pj_ic_ge_f hM (pc := 118) 147 dX12_floods_118 rfl h3 (pj_aload_n hM (pc := 121) dX12_floods_121 rfl rfl (pj_getF hM (pc := 122) (t := 60) dX12_floods_122 fl_X12_7 (by decide) rfl rfl (pj_aload_n hM (pc := 125) dX12_floods_125 rfl rfl (pj_iload_n hM (pc := 126) dX12_floods_126 rfl (pj_iload_n hM (pc := 127) dX12_floods_127 rfl (pj_cV hM (pc := 128) (cM_whoAt x1 x2 w p7 h8) dX12_floods_128 mf_X12_whoAt mv_X12_whoAt ml_X12_308 kc_26 rfl rfl (by decide) rfl rfl (pj_cS hM (pc := 131) (cM_finderRow p7 w p9 h10) dX12_floods_131 mf_X12_finderRow ms_X12_finderRow ml_X12_274 rfl rfl rfl rfl (pj_iconst hM (pc := 134) dX12_floods_134 (by decide) (pj_iadd hM (pc := 135) dX12_floods_135 (pj_dup2 hM (pc := 136) dX12_floods_136 (by decide) (by decide) (pj_ial hM (pc := 137) dX12_floods_137 ki_60 (by decide) h11 (pj_iconst hM (pc := 138) dX12_floods_138 (by decide) (pj_iadd hM (pc := 139) dX12_floods_139 (pj_ias hM (pc := 140) dX12_floods_140 ki_60 (by decide) h11 (pj_iinc hM (pc := 141) dX12_floods_141 rfl (by decide) (lls' := [(26, 0), (0, x1), (0, (pj_wr (x2 + 1))), (9, 0)]) rfl (pj_goto hM (pc := 144) dX12_floods_144 rfl (pj_kill hM [true, true, true, false] (lls' := [(26, 0), (0, x1), (0, (pj_wr (x2 + 1))), (9, 0)]) rfl ((hk112 _ hr))))))))))))))))))))
theorem tM_floods_112 {Go : pj_C → Prop} (hM : pj_M l yX12_floods cX12_floods 4 none 4 91 true g n0 o Go) (x1 : Int)  (R : (Int × pj_W) ⊕ (pj_W) → Prop) (h0 : ∀ r, R (Sum.inr (r)) → ((none : Option pj_V), r) = o) (hk100 : ∀ s, R (Sum.inl s) → Go (100, [(26, 0), (0, s.1), (9, 0), (9, 0)], [], s.2)) (s : (Int × pj_W)) : pj_TG R (fM_floods_112 x1 s) (Go (112, [(26, 0), (0, x1), (0, s.1), (9, 0)], [], s.2)) := by
  unfold fM_floods_112
  exact pj_tLp (G := fun s : (Int × pj_W) => Go (112, [(26, 0), (0, x1), (0, s.1), (9, 0)], [], s.2)) (fun s => tM_floods_112b hM x1 s.1 s.2  _ (fun r h => h0 r h) (fun s h => hk100 s h) (fun s h => h)) s
theorem tM_floods_168b {Go : pj_C → Prop} (hM : pj_M l yX12_floods cX12_floods 4 none 4 91 true g n0 o Go)  (x1 : Int) (w : pj_W)  (R : (Int × pj_W) ⊕ (pj_W) → Prop) (h0 : ∀ r, R (Sum.inr (r)) → ((none : Option pj_V), r) = o) (hk168 : ∀ s, R (Sum.inl s) → Go (168, [(26, 0), (0, s.1), (9, 0), (9, 0)], [], s.2)) : pj_TG R (fM_floods_168b  x1 w) (Go (168, [(26, 0), (0, x1), (9, 0), (9, 0)], [], w)) := by
  unfold fM_floods_168b
  refine pj_map (fun k => pj_iload_n hM (pc := 168) dX12_floods_168 rfl (pj_aload_n hM (pc := 169) dX12_floods_169 rfl rfl (pj_getF hM (pc := 170) (t := 60) dX12_floods_170 fl_X12_7 (by decide) rfl rfl (pj_iconst hM (pc := 173) dX12_floods_173 (by decide) (pj_ial hM (pc := 174) dX12_floods_174 ki_60 (by decide) (by decide) k))))) ?_
  refine pj_tif (fun h1 => ?_) (fun h1 => ?_)
  · refine pj_map (fun k => pj_ic_ge_t hM (pc := 175) dX12_floods_175 rfl h1 (pj_aload_n hM (pc := 196) dX12_floods_196 rfl rfl (pj_getF hM (pc := 197) (t := 60) dX12_floods_197 fl_X12_7 (by decide) rfl rfl (pj_bipush hM (pc := 200) dX12_floods_200 (by decide) (pj_iconst hM (pc := 202) dX12_floods_202 (by decide) (pj_ias hM (pc := 203) dX12_floods_203 ki_60 (by decide) (by decide) (pj_aload_n hM (pc := 204) dX12_floods_204 rfl rfl (pj_getF hM (pc := 205) (t := 60) dX12_floods_205 fl_X12_7 (by decide) rfl rfl (pj_bipush hM (pc := 208) dX12_floods_208 (by decide) (pj_iconst hM (pc := 210) dX12_floods_210 (by decide) (pj_ias hM (pc := 211) dX12_floods_211 ki_60 (by decide) (by decide) (pj_aload_n hM (pc := 212) dX12_floods_212 rfl rfl (pj_getF hM (pc := 213) (t := 60) dX12_floods_213 fl_X12_7 (by decide) rfl rfl (pj_bipush hM (pc := 216) dX12_floods_216 (by decide) (pj_dup2 hM (pc := 218) dX12_floods_218 (by decide) (by decide) (pj_ial hM (pc := 219) dX12_floods_219 ki_60 (by decide) (by decide) (pj_iconst hM (pc := 220) dX12_floods_220 (by decide) (pj_iadd hM (pc := 221) dX12_floods_221 (pj_ias hM (pc := 222) dX12_floods_222 ki_60 (by decide) (by decide) k))))))))))))))))))) ?_
    refine pj_tlet (fun w2 => Go (223, [(26, 0), (0, x1), (9, 0), (9, 0)], [], w2)) (fun w2 => ?_)
    exact pj_tret (fun hr => pj_aload_n hM (pc := 223) dX12_floods_223 rfl rfl (pj_getF hM (pc := 224) (t := 60) dX12_floods_224 fl_X12_7 (by decide) rfl rfl (pj_iconst hM (pc := 227) dX12_floods_227 (by decide) (pj_iconst hM (pc := 228) dX12_floods_228 (by decide) (pj_aload_n hM (pc := 229) dX12_floods_229 rfl rfl (pj_getF hM (pc := 230) (t := 60) dX12_floods_230 fl_X12_7 (by decide) rfl rfl (pj_iconst hM (pc := 233) dX12_floods_233 (by decide) (pj_ial hM (pc := 234) dX12_floods_234 ki_60 (by decide) (by decide) (pj_aload_n hM (pc := 235) dX12_floods_235 rfl rfl (pj_getF hM (pc := 236) (t := 60) dX12_floods_236 fl_X12_7 (by decide) rfl rfl (pj_iconst hM (pc := 239) dX12_floods_239 (by decide) (pj_ial hM (pc := 240) dX12_floods_240 ki_60 (by decide) (by decide) (pj_isub hM (pc := 241) dX12_floods_241 (pj_mmax hM (pc := 242) dX12_floods_242 mf_J9_max_7cf53 ms_J9_max_7cf53 ml_X12_375 rfl (pj_ias hM (pc := 245) dX12_floods_245 ki_60 (by decide) (by decide) (pj_ret hM (pc := 246) dX12_floods_246 rfl (h0 ((pj_set w2 60 0 3 (max 1 (pj_wr ((w2 60 0 3) - (w2 60 0 4)))))) hr) rfl))))))))))))))))
  refine pj_tbind (fun p3 h4 => ?_)
  refine pj_tgd (fun h5 => ?_)
  exact pj_tret (fun hr => pj_ic_ge_f hM (pc := 175) 196 dX12_floods_175 rfl h1 (pj_aload_n hM (pc := 178) dX12_floods_178 rfl rfl (pj_getF hM (pc := 179) (t := 60) dX12_floods_179 fl_X12_7 (by decide) rfl rfl (pj_iload_n hM (pc := 182) dX12_floods_182 rfl (pj_cS hM (pc := 183) (cM_finderRow x1 w p3 h4) dX12_floods_183 mf_X12_finderRow ms_X12_finderRow ml_X12_274 rfl rfl rfl rfl (pj_iconst hM (pc := 186) dX12_floods_186 (by decide) (pj_iadd hM (pc := 187) dX12_floods_187 (pj_iconst hM (pc := 188) dX12_floods_188 (by decide) (pj_ias hM (pc := 189) dX12_floods_189 ki_60 (by decide) h5 (pj_iinc hM (pc := 190) dX12_floods_190 rfl (by decide) (lls' := [(26, 0), (0, (pj_wr (x1 + 1))), (9, 0), (9, 0)]) rfl (pj_goto hM (pc := 193) dX12_floods_193 rfl (pj_kill hM [true, true, false, false] (lls' := [(26, 0), (0, (pj_wr (x1 + 1))), (9, 0), (9, 0)]) rfl ((hk168 _ hr))))))))))))))
theorem tM_floods_168 {Go : pj_C → Prop} (hM : pj_M l yX12_floods cX12_floods 4 none 4 91 true g n0 o Go)   (R : pj_W → Prop) (h0 : ∀ r, R (r) → ((none : Option pj_V), r) = o) (s : (Int × pj_W)) : pj_TG R (fM_floods_168  s) (Go (168, [(26, 0), (0, s.1), (9, 0), (9, 0)], [], s.2)) := by
  unfold fM_floods_168
  exact pj_tLp (G := fun s : (Int × pj_W) => Go (168, [(26, 0), (0, s.1), (9, 0), (9, 0)], [], s.2)) (fun s => tM_floods_168b hM  s.1 s.2  _ (fun r h => h0 r h)  (fun s h => h)) s
theorem tM_floods_100b {Go : pj_C → Prop} (hM : pj_M l yX12_floods cX12_floods 4 none 4 91 true g n0 o Go)  (x1 : Int) (w : pj_W)  (R : (Int × pj_W) ⊕ (pj_W) → Prop) (h0 : ∀ r, R (Sum.inr (r)) → ((none : Option pj_V), r) = o) (hk100 : ∀ s, R (Sum.inl s) → Go (100, [(26, 0), (0, s.1), (9, 0), (9, 0)], [], s.2)) : pj_TG R (fM_floods_100b  x1 w) (Go (100, [(26, 0), (0, x1), (9, 0), (9, 0)], [], w)) := by
  unfold fM_floods_100b
  refine pj_map (fun k => pj_iload_n hM (pc := 100) dX12_floods_100 rfl (pj_aload_n hM (pc := 101) dX12_floods_101 rfl rfl (pj_getF hM (pc := 102) (t := 60) dX12_floods_102 fl_X12_7 (by decide) rfl rfl (pj_iconst hM (pc := 105) dX12_floods_105 (by decide) (pj_ial hM (pc := 106) dX12_floods_106 ki_60 (by decide) (by decide) k))))) ?_
  refine pj_tif (fun h1 => ?_) (fun h1 => ?_)
  · refine pj_tmap ?_
    refine pj_map (fun k => pj_ic_ge_t hM (pc := 107) dX12_floods_107 rfl h1 (pj_iconst hM (pc := 166) dX12_floods_166 (by decide) (pj_istore_n hM (pc := 167) dX12_floods_167 (by decide) (lls' := [(26, 0), (0, 0), (9, 0), (9, 0)]) rfl (pj_kill hM [true, true, false, false] (lls' := [(26, 0), (0, 0), (9, 0), (9, 0)]) rfl k)))) ?_
    exact tM_floods_168 hM _ h0 _
  refine pj_map (fun k => pj_ic_ge_f hM (pc := 107) 166 dX12_floods_107 rfl h1 (pj_iconst hM (pc := 110) dX12_floods_110 (by decide) (pj_istore_n hM (pc := 111) dX12_floods_111 (by decide) (lls' := [(26, 0), (0, x1), (0, 0), (9, 0)]) rfl (pj_kill hM [true, true, true, false] (lls' := [(26, 0), (0, x1), (0, 0), (9, 0)]) rfl k)))) ?_
  exact tM_floods_112 hM x1 _ h0 hk100 _
theorem tM_floods_100 {Go : pj_C → Prop} (hM : pj_M l yX12_floods cX12_floods 4 none 4 91 true g n0 o Go)   (R : pj_W → Prop) (h0 : ∀ r, R (r) → ((none : Option pj_V), r) = o) (s : (Int × pj_W)) : pj_TG R (fM_floods_100  s) (Go (100, [(26, 0), (0, s.1), (9, 0), (9, 0)], [], s.2)) := by
  unfold fM_floods_100
  exact pj_tLp (G := fun s : (Int × pj_W) => Go (100, [(26, 0), (0, s.1), (9, 0), (9, 0)], [], s.2)) (fun s => tM_floods_100b hM  s.1 s.2  _ (fun r h => h0 r h)  (fun s h => h)) s
theorem tM_floods_84 {Go : pj_C → Prop} (hM : pj_M l yX12_floods cX12_floods 4 none 4 91 true g n0 o Go) (x1 : Int) (x2 : Int) (x3 : Int) (s1 : Int) (s2 : Int) (s3 : Int) (w : pj_W)  (R : (Int × pj_W) ⊕ ((Int × pj_W) ⊕ (pj_W)) → Prop) (h0 : ∀ r, R (Sum.inr (Sum.inr (r))) → ((none : Option pj_V), r) = o) (hk2 : ∀ s, R (Sum.inr (Sum.inl s)) → Go (2, [(26, 0), (0, s.1), (9, 0), (9, 0)], [], s.2)) (hk32 : ∀ s, R (Sum.inl s) → Go (32, [(26, 0), (0, x1), (0, x2), (0, s.1)], [], s.2)) : pj_TG R (fM_floods_84 x1 x2 x3 s1 s2 s3 w) (Go (84, [(26, 0), (0, x1), (0, x2), (0, x3)], [(0, s3), (0, s2), (0, s1), (60, 0)], w)) := by
  unfold fM_floods_84
  refine pj_tgd (fun h1 => ?_)
  exact pj_tret (fun hr => pj_iadd hM (pc := 84) dX12_floods_84 (pj_ias hM (pc := 85) dX12_floods_85 ki_60 (by decide) h1 (pj_iinc hM (pc := 86) dX12_floods_86 rfl (by decide) (lls' := [(26, 0), (0, x1), (0, x2), (0, (pj_wr (x3 + 1)))]) rfl (pj_goto hM (pc := 89) dX12_floods_89 rfl (pj_kill hM [true, true, true, true] (lls' := [(26, 0), (0, x1), (0, x2), (0, (pj_wr (x3 + 1)))]) rfl ((hk32 _ hr)))))))
theorem tM_floods_32b {Go : pj_C → Prop} (hM : pj_M l yX12_floods cX12_floods 4 none 4 91 true g n0 o Go) (x1 : Int) (x2 : Int) (x3 : Int) (w : pj_W)  (R : (Int × pj_W) ⊕ ((Int × pj_W) ⊕ (pj_W)) → Prop) (h0 : ∀ r, R (Sum.inr (Sum.inr (r))) → ((none : Option pj_V), r) = o) (hk2 : ∀ s, R (Sum.inr (Sum.inl s)) → Go (2, [(26, 0), (0, s.1), (9, 0), (9, 0)], [], s.2)) (hk32 : ∀ s, R (Sum.inl s) → Go (32, [(26, 0), (0, x1), (0, x2), (0, s.1)], [], s.2)) : pj_TG R (fM_floods_32b x1 x2 x3 w) (Go (32, [(26, 0), (0, x1), (0, x2), (0, x3)], [], w)) := by
  unfold fM_floods_32b
  refine pj_map (fun k => pj_iload_n hM (pc := 32) dX12_floods_32 rfl (pj_aload_n hM (pc := 33) dX12_floods_33 rfl rfl (pj_getF hM (pc := 34) (t := 60) dX12_floods_34 fl_X12_7 (by decide) rfl rfl (pj_iconst hM (pc := 37) dX12_floods_37 (by decide) (pj_ial hM (pc := 38) dX12_floods_38 ki_60 (by decide) (by decide) k))))) ?_
  refine pj_tif (fun h1 => ?_) (fun h1 => ?_)
  · exact pj_tret (fun hr => pj_ic_ge_t hM (pc := 39) dX12_floods_39 rfl h1 (pj_iinc hM (pc := 92) dX12_floods_92 rfl (by decide) (lls' := [(26, 0), (0, (pj_wr (x1 + 1))), (0, x2), (0, x3)]) rfl (pj_goto hM (pc := 95) dX12_floods_95 rfl (pj_kill hM [true, true, false, false] (lls' := [(26, 0), (0, (pj_wr (x1 + 1))), (9, 0), (9, 0)]) rfl ((hk2 _ hr))))))
  refine pj_tbind (fun p2 h3 => ?_)
  refine pj_tgd (fun h4 => ?_)
  refine pj_map (fun k => pj_ic_ge_f hM (pc := 39) 92 dX12_floods_39 rfl h1 (pj_aload_n hM (pc := 42) dX12_floods_42 rfl rfl (pj_getF hM (pc := 43) (t := 60) dX12_floods_43 fl_X12_7 (by decide) rfl rfl (pj_iload_n hM (pc := 46) dX12_floods_46 rfl (pj_cS hM (pc := 47) (cM_finderRow x3 w p2 h3) dX12_floods_47 mf_X12_finderRow ms_X12_finderRow ml_X12_274 rfl rfl rfl rfl (pj_iconst hM (pc := 50) dX12_floods_50 (by decide) (pj_iadd hM (pc := 51) dX12_floods_51 (pj_dup2 hM (pc := 52) dX12_floods_52 (by decide) (by decide) (pj_ial hM (pc := 53) dX12_floods_53 ki_60 (by decide) h4 (pj_iload_n hM (pc := 54) dX12_floods_54 rfl (pj_iload_n hM (pc := 55) dX12_floods_55 rfl (pj_ishr hM (pc := 56) dX12_floods_56 (pj_iconst hM (pc := 57) dX12_floods_57 (by decide) (pj_iand hM (pc := 58) dX12_floods_58 (pj_iconst hM (pc := 59) dX12_floods_59 (by decide) k))))))))))))))) ?_
  refine pj_tif (fun h5 => ?_) (fun h5 => ?_)
  · refine pj_tbind (fun p6 h7 => ?_)
    refine pj_tgd (fun h8 => ?_)
    refine pj_tbind (fun p9 h10 => ?_)
    refine pj_tgd (fun h11 => ?_)
    refine pj_map (fun k => pj_ic_ne_f hM (pc := 60) 83 dX12_floods_60 rfl (fun q => q h5) (pj_aload_n hM (pc := 63) dX12_floods_63 rfl rfl (pj_getF hM (pc := 64) (t := 60) dX12_floods_64 fl_X12_7 (by decide) rfl rfl (pj_iconst hM (pc := 67) dX12_floods_67 (by decide) (pj_iload_n hM (pc := 68) dX12_floods_68 rfl (pj_cS hM (pc := 69) (cM_findRow 0 x1 w p6 h7) dX12_floods_69 mf_X12_findRow ms_X12_findRow ml_X12_171 rfl rfl rfl rfl (pj_iconst hM (pc := 72) dX12_floods_72 (by decide) (pj_iadd hM (pc := 73) dX12_floods_73 (pj_ial hM (pc := 74) dX12_floods_74 ki_60 (by decide) h8 (pj_iload_n hM (pc := 75) dX12_floods_75 rfl (pj_cS hM (pc := 76) (cM_bits x2 w p9 h10) dX12_floods_76 mf_X12_bits ms_X12_bits ml_X12_340 rfl rfl rfl rfl (pj_idiv hM (pc := 79) dX12_floods_79 h11 (pj_goto hM (pc := 80) dX12_floods_80 rfl (pj_kill hM [true, true, true, true] (lls' := [(26, 0), (0, x1), (0, x2), (0, x3)]) rfl k)))))))))))))) ?_
    exact tM_floods_84 hM x1 x2 x3 (pj_wr (p2 + 4)) (w 60 0 (pj_wr (p2 + 4))) (pj_div (w 60 0 (pj_wr (p6 + 1))) p9) w _ h0 hk2 hk32
  refine pj_map (fun k => pj_ic_ne_t hM (pc := 60) dX12_floods_60 rfl h5 (pj_iconst hM (pc := 83) dX12_floods_83 (by decide) (pj_kill hM [true, true, true, true] (lls' := [(26, 0), (0, x1), (0, x2), (0, x3)]) rfl k))) ?_
  exact tM_floods_84 hM x1 x2 x3 (pj_wr (p2 + 4)) (w 60 0 (pj_wr (p2 + 4))) 0 w _ h0 hk2 hk32
theorem tM_floods_32 {Go : pj_C → Prop} (hM : pj_M l yX12_floods cX12_floods 4 none 4 91 true g n0 o Go) (x1 : Int) (x2 : Int)  (R : (Int × pj_W) ⊕ (pj_W) → Prop) (h0 : ∀ r, R (Sum.inr (r)) → ((none : Option pj_V), r) = o) (hk2 : ∀ s, R (Sum.inl s) → Go (2, [(26, 0), (0, s.1), (9, 0), (9, 0)], [], s.2)) (s : (Int × pj_W)) : pj_TG R (fM_floods_32 x1 x2 s) (Go (32, [(26, 0), (0, x1), (0, x2), (0, s.1)], [], s.2)) := by
  unfold fM_floods_32
  exact pj_tLp (G := fun s : (Int × pj_W) => Go (32, [(26, 0), (0, x1), (0, x2), (0, s.1)], [], s.2)) (fun s => tM_floods_32b hM x1 x2 s.1 s.2  _ (fun r h => h0 r h) (fun s h => hk2 s h) (fun s h => h)) s
theorem tM_floods_29 {Go : pj_C → Prop} (hM : pj_M l yX12_floods cX12_floods 4 none 4 91 true g n0 o Go) (x1 : Int) (s0 : Int) (w : pj_W)  (R : (Int × pj_W) ⊕ (pj_W) → Prop) (h0 : ∀ r, R (Sum.inr (r)) → ((none : Option pj_V), r) = o) (hk2 : ∀ s, R (Sum.inl s) → Go (2, [(26, 0), (0, s.1), (9, 0), (9, 0)], [], s.2)) : pj_TG R (fM_floods_29 x1 s0 w) (Go (29, [(26, 0), (0, x1), (9, 0), (9, 0)], [(0, s0)], w)) := by
  unfold fM_floods_29
  refine pj_map (fun k => pj_istore_n hM (pc := 29) dX12_floods_29 (by decide) (lls' := [(26, 0), (0, x1), (0, s0), (9, 0)]) rfl (pj_iconst hM (pc := 30) dX12_floods_30 (by decide) (pj_istore_n hM (pc := 31) dX12_floods_31 (by decide) (lls' := [(26, 0), (0, x1), (0, s0), (0, 0)]) rfl (pj_kill hM [true, true, true, true] (lls' := [(26, 0), (0, x1), (0, s0), (0, 0)]) rfl k)))) ?_
  exact tM_floods_32 hM x1 s0 _ h0 hk2 _
theorem tM_floods_2b {Go : pj_C → Prop} (hM : pj_M l yX12_floods cX12_floods 4 none 4 91 true g n0 o Go)  (x1 : Int) (w : pj_W)  (R : (Int × pj_W) ⊕ (pj_W) → Prop) (h0 : ∀ r, R (Sum.inr (r)) → ((none : Option pj_V), r) = o) (hk2 : ∀ s, R (Sum.inl s) → Go (2, [(26, 0), (0, s.1), (9, 0), (9, 0)], [], s.2)) : pj_TG R (fM_floods_2b  x1 w) (Go (2, [(26, 0), (0, x1), (9, 0), (9, 0)], [], w)) := by
  unfold fM_floods_2b
  refine pj_map (fun k => pj_iload_n hM (pc := 2) dX12_floods_2 rfl (pj_aload_n hM (pc := 3) dX12_floods_3 rfl rfl (pj_getF hM (pc := 4) (t := 60) dX12_floods_4 fl_X12_7 (by decide) rfl rfl (pj_iconst hM (pc := 7) dX12_floods_7 (by decide) (pj_ial hM (pc := 8) dX12_floods_8 ki_60 (by decide) (by decide) k))))) ?_
  refine pj_tif (fun h1 => ?_) (fun h1 => ?_)
  · refine pj_tmap ?_
    refine pj_map (fun k => pj_ic_ge_t hM (pc := 9) dX12_floods_9 rfl h1 (pj_iconst hM (pc := 98) dX12_floods_98 (by decide) (pj_istore_n hM (pc := 99) dX12_floods_99 (by decide) (lls' := [(26, 0), (0, 0), (9, 0), (9, 0)]) rfl (pj_kill hM [true, true, false, false] (lls' := [(26, 0), (0, 0), (9, 0), (9, 0)]) rfl k)))) ?_
    exact tM_floods_100 hM _ h0 _
  refine pj_tbind (fun p2 h3 => ?_)
  refine pj_map (fun k => pj_ic_ge_f hM (pc := 9) 98 dX12_floods_9 rfl h1 (pj_aload_n hM (pc := 12) dX12_floods_12 rfl rfl (pj_iload_n hM (pc := 13) dX12_floods_13 rfl (pj_cV hM (pc := 14) (cM_isThere x1 w p2 h3) dX12_floods_14 mf_X12_isThere mv_X12_isThere ml_X12_268 kc_26 rfl rfl (by decide) rfl rfl k)))) ?_
  refine pj_tif (fun h4 => ?_) (fun h4 => ?_)
  · refine pj_map (fun k => pj_if_eq_t hM (pc := 17) dX12_floods_17 rfl h4 (pj_iconst hM (pc := 28) dX12_floods_28 (by decide) (pj_kill hM [true, true, false, false] (lls' := [(26, 0), (0, x1), (9, 0), (9, 0)]) rfl k))) ?_
    exact tM_floods_29 hM x1 0 w _ h0 hk2
  refine pj_tbind (fun p5 h6 => ?_)
  refine pj_map (fun k => pj_if_eq_f hM (pc := 17) 28 dX12_floods_17 rfl h4 (pj_aload_n hM (pc := 20) dX12_floods_20 rfl rfl (pj_iload_n hM (pc := 21) dX12_floods_21 rfl (pj_cV hM (pc := 22) (cM_ownersOf x1 w p5 h6) dX12_floods_22 mf_X12_ownersOf mv_X12_ownersOf ml_X12_343 kc_26 rfl rfl (by decide) rfl rfl (pj_goto hM (pc := 25) dX12_floods_25 rfl (pj_kill hM [true, true, false, false] (lls' := [(26, 0), (0, x1), (9, 0), (9, 0)]) rfl k)))))) ?_
  exact tM_floods_29 hM x1 p5 w _ h0 hk2
theorem tM_floods_2 {Go : pj_C → Prop} (hM : pj_M l yX12_floods cX12_floods 4 none 4 91 true g n0 o Go)   (R : pj_W → Prop) (h0 : ∀ r, R (r) → ((none : Option pj_V), r) = o) (s : (Int × pj_W)) : pj_TG R (fM_floods_2  s) (Go (2, [(26, 0), (0, s.1), (9, 0), (9, 0)], [], s.2)) := by
  unfold fM_floods_2
  exact pj_tLp (G := fun s : (Int × pj_W) => Go (2, [(26, 0), (0, s.1), (9, 0), (9, 0)], [], s.2)) (fun s => tM_floods_2b hM  s.1 s.2  _ (fun r h => h0 r h)  (fun s h => h)) s
theorem tM_floods {Go : pj_C → Prop} (hM : pj_M l yX12_floods cX12_floods 4 none 4 91 true g n0 o Go)  (w : pj_W)  (R : pj_W → Prop) (h0 : ∀ r, R (r) → ((none : Option pj_V), r) = o) : pj_TG R (fM_floods  w) (Go (0, [(26, 0), (9, 0), (9, 0), (9, 0)], [], w)) := by
  unfold fM_floods
  refine pj_map (fun k => pj_iconst hM (pc := 0) dX12_floods_0 (by decide) (pj_istore_n hM (pc := 1) dX12_floods_1 (by decide) (lls' := [(26, 0), (0, 0), (9, 0), (9, 0)]) rfl (pj_kill hM [true, true, false, false] (lls' := [(26, 0), (0, 0), (9, 0), (9, 0)]) rfl k))) ?_
  exact tM_floods_2 hM _ h0 _
theorem cM_floods   (w : pj_W) (r : pj_W) (h : fM_floods  w = some r) : pj_Cn l yX12_floods cX12_floods 4 none 4 91 true g [(26, 0)] w ((none : Option pj_V), r) :=
  pj_Cn_of rfl (Nat.le_of_ble_eq_true rfl) (lls := [(26, 0), (9, 0), (9, 0), (9, 0)]) rfl (fun Go hM => tM_floods hM w (fun x => ((none : Option pj_V), x) = ((none : Option pj_V), r)) (fun r h => h) r h rfl)
noncomputable def fM_draw (x1 : Int) (w : pj_W) : Option (Int × pj_W) :=
  if ¬ x1 = 0 then (some (((Int.tmod (pj_div ((pj_set w 26 0 31 (Int.tmod (pj_wr ((pj_wr ((w 26 0 31) * 2843)) + 10709)) 65536)) 26 0 31) 8) x1), (pj_set w 26 0 31 (Int.tmod (pj_wr ((pj_wr ((w 26 0 31) * 2843)) + 10709)) 65536))))) else none
theorem tM_draw {Go : pj_C → Prop} (hM : pj_M l yX12_draw cX12_draw 2 (some .int) 0 0 ph g n0 o Go) (x1 : Int) (w : pj_W)  (R : Int × pj_W → Prop) (h0 : ∀ r, R (r) → ((some (0, r.1) : Option pj_V), r.2) = o) : pj_TG R (fM_draw x1 w) (Go (0, [(26, 0), (0, x1)], [], w)) := by
  unfold fM_draw
  refine pj_tgd (fun h1 => ?_)
  exact pj_tret (fun hr => pj_aload_n hM (pc := 0) dX12_draw_0 rfl rfl (pj_aload_n hM (pc := 1) dX12_draw_1 rfl rfl (pj_gf hM (pc := 2) (t := 0) dX12_draw_2 fl_X12_419 (by decide) rfl 31 rfl (pj_sipush hM (pc := 5) dX12_draw_5 (by decide) (pj_imul hM (pc := 8) dX12_draw_8 (pj_sipush hM (pc := 9) dX12_draw_9 (by decide) (pj_iadd hM (pc := 12) dX12_draw_12 (pj_ldcw hM (pc := 13) (z := 65536) dX12_draw_13 kn_X12_422 rfl (by decide) (pj_irem hM (pc := 16) dX12_draw_16 (by decide) (pj_pf hM (pc := 17) dX12_draw_17 fl_X12_419 (by decide) rfl (fun h => absurd h (by decide)) (by decide) (fun _ => rfl) 31 rfl (pj_aload_n hM (pc := 20) dX12_draw_20 rfl rfl (pj_gf hM (pc := 21) (t := 0) dX12_draw_21 fl_X12_419 (by decide) rfl 31 rfl (pj_bipush hM (pc := 24) dX12_draw_24 (by decide) (pj_idiv hM (pc := 26) dX12_draw_26 (by decide) (pj_iload_n hM (pc := 27) dX12_draw_27 rfl (pj_irem hM (pc := 28) dX12_draw_28 h1 (pj_ret hM (pc := 29) dX12_draw_29 ⟨_, rfl⟩ (h0 (((Int.tmod (pj_div ((pj_set w 26 0 31 (Int.tmod (pj_wr ((pj_wr ((w 26 0 31) * 2843)) + 10709)) 65536)) 26 0 31) 8) x1), (pj_set w 26 0 31 (Int.tmod (pj_wr ((pj_wr ((w 26 0 31) * 2843)) + 10709)) 65536)))) hr) rfl)))))))))))))))))
theorem cM_draw (x1 : Int)  (w : pj_W) (r : Int × pj_W) (h : fM_draw x1 w = some r) : pj_Cn l yX12_draw cX12_draw 2 (some .int) 0 0 ph g [(26, 0), (0, x1)] w ((some (0, r.1) : Option pj_V), r.2) :=
  pj_Cn_of rfl (Nat.le_of_ble_eq_true rfl) (lls := [(26, 0), (0, x1)]) rfl (fun Go hM => tM_draw hM x1 w (fun x => ((some (0, x.1) : Option pj_V), x.2) = ((some (0, r.1) : Option pj_V), r.2)) (fun r h => h) r h rfl)
noncomputable def fM_gullComes_56 (x2 : Int) (s0 : Int) (s1 : Int) (w : pj_W) : Option (pj_W) :=
  (fM_wrongGull x2 (pj_wr (s0 + s1)) w).bind fun p1 => (if p1 ≤ 0 then ((fM_carries x2 (pj_wr (s0 + s1)) w).bind fun p4 => (some ((pj_set p4.2 73 0 1 (pj_wr ((p4.2 73 0 1) + 1)))))) else (some (w)))
noncomputable def fM_gullComes (x1 : Int) (w : pj_W) : Option (pj_W) :=
  (fM_draw 16 w).bind fun p1 => (if x1 ≤ p1.1 then (some (p1.2)) else (if 2 ≤ (p1.2 60 0 2) then ((fM_draw (p1.2 60 0 2) p1.2).bind fun p5 => ((fM_draw (pj_wr ((p5.2 60 0 2) - 1)) p5.2).bind fun p7 => (fM_gullComes_56 p5.1 p7.1 (if p7.1 < p5.1 then (0 : Int) else 1) p7.2))) else (some (p1.2))))
theorem tM_gullComes_56 {Go : pj_C → Prop} (hM : pj_M l yX12_gullComes cX12_gullComes 4 none 3 72 true g n0 o Go) (x2 : Int) (s0 : Int) (s1 : Int) (w : pj_W)  (R : pj_W → Prop) (h0 : ∀ r, R (r) → ((none : Option pj_V), r) = o) : pj_TG R (fM_gullComes_56 x2 s0 s1 w) (Go (56, [(26, 0), (9, 0), (0, x2), (9, 0)], [(0, s1), (0, s0)], w)) := by
  unfold fM_gullComes_56
  refine pj_tbind (fun p1 h2 => ?_)
  refine pj_map (fun k => pj_iadd hM (pc := 56) dX12_gullComes_56 (pj_istore_n hM (pc := 57) dX12_gullComes_57 (by decide) (lls' := [(26, 0), (9, 0), (0, x2), (0, (pj_wr (s0 + s1)))]) rfl (pj_aload_n hM (pc := 58) dX12_gullComes_58 rfl rfl (pj_iload_n hM (pc := 59) dX12_gullComes_59 rfl (pj_iload_n hM (pc := 60) dX12_gullComes_60 rfl (pj_cV hM (pc := 61) (cM_wrongGull x2 (pj_wr (s0 + s1)) w p1 h2) dX12_gullComes_61 mf_X12_wrongGull mv_X12_wrongGull ml_X12_326 kc_26 rfl rfl (by decide) rfl rfl k)))))) ?_
  refine pj_tif (fun h3 => ?_) (fun h3 => ?_)
  · refine pj_tbind (fun p4 h5 => ?_)
    exact pj_tret (fun hr => pj_if_le_t hM (pc := 64) dX12_gullComes_64 rfl h3 (pj_aload_n hM (pc := 68) dX12_gullComes_68 rfl rfl (pj_iload_n hM (pc := 69) dX12_gullComes_69 rfl (pj_iload_n hM (pc := 70) dX12_gullComes_70 rfl (pj_cV hM (pc := 71) (cM_carries x2 (pj_wr (s0 + s1)) w p4 h5) dX12_gullComes_71 mf_X12_carries mv_X12_carries ml_X12_329 kc_26 rfl rfl (by decide) rfl rfl (pj_pop hM (pc := 74) dX12_gullComes_74 (by decide) (pj_aload_n hM (pc := 75) dX12_gullComes_75 rfl rfl (pj_getF hM (pc := 76) (t := 73) dX12_gullComes_76 fl_X12_62 (by decide) rfl rfl (pj_iconst hM (pc := 79) dX12_gullComes_79 (by decide) (pj_dup2 hM (pc := 80) dX12_gullComes_80 (by decide) (by decide) (pj_ial hM (pc := 81) dX12_gullComes_81 ki_73 (by decide) (by decide) (pj_iconst hM (pc := 82) dX12_gullComes_82 (by decide) (pj_iadd hM (pc := 83) dX12_gullComes_83 (pj_ias hM (pc := 84) dX12_gullComes_84 ki_73 (by decide) (by decide) (pj_ret hM (pc := 85) dX12_gullComes_85 rfl (h0 ((pj_set p4.2 73 0 1 (pj_wr ((p4.2 73 0 1) + 1)))) hr) rfl)))))))))))))))
  exact pj_tret (fun hr => pj_if_le_f hM (pc := 64) 68 dX12_gullComes_64 rfl h3 (pj_ret hM (pc := 67) dX12_gullComes_67 rfl (h0 (w) hr) rfl))
theorem tM_gullComes {Go : pj_C → Prop} (hM : pj_M l yX12_gullComes cX12_gullComes 4 none 3 72 true g n0 o Go) (x1 : Int) (w : pj_W)  (R : pj_W → Prop) (h0 : ∀ r, R (r) → ((none : Option pj_V), r) = o) : pj_TG R (fM_gullComes x1 w) (Go (0, [(26, 0), (0, x1), (9, 0), (9, 0)], [], w)) := by
  unfold fM_gullComes
  refine pj_tbind (fun p1 h2 => ?_)
  refine pj_map (fun k => pj_aload_n hM (pc := 0) dX12_gullComes_0 rfl rfl (pj_bipush hM (pc := 1) dX12_gullComes_1 (by decide) (pj_cV hM (pc := 3) (cM_draw 16 w p1 h2) dX12_gullComes_3 mf_X12_draw mv_X12_draw ml_X12_423 kc_26 rfl rfl (by decide) rfl rfl (pj_iload_n hM (pc := 6) dX12_gullComes_6 rfl k)))) ?_
  refine pj_tif (fun h3 => ?_) (fun h3 => ?_)
  · exact pj_tret (fun hr => pj_ic_ge_t hM (pc := 7) dX12_gullComes_7 rfl h3 (pj_ret hM (pc := 20) dX12_gullComes_20 rfl (h0 (p1.2) hr) rfl))
  refine pj_map (fun k => pj_ic_ge_f hM (pc := 7) 20 dX12_gullComes_7 rfl h3 (pj_aload_n hM (pc := 10) dX12_gullComes_10 rfl rfl (pj_getF hM (pc := 11) (t := 60) dX12_gullComes_11 fl_X12_7 (by decide) rfl rfl (pj_iconst hM (pc := 14) dX12_gullComes_14 (by decide) (pj_ial hM (pc := 15) dX12_gullComes_15 ki_60 (by decide) (by decide) (pj_iconst hM (pc := 16) dX12_gullComes_16 (by decide) k)))))) ?_
  refine pj_tif (fun h4 => ?_) (fun h4 => ?_)
  · refine pj_tbind (fun p5 h6 => ?_)
    refine pj_tbind (fun p7 h8 => ?_)
    refine pj_map (fun k => pj_ic_ge_t hM (pc := 17) dX12_gullComes_17 rfl h4 (pj_aload_n hM (pc := 21) dX12_gullComes_21 rfl rfl (pj_aload_n hM (pc := 22) dX12_gullComes_22 rfl rfl (pj_getF hM (pc := 23) (t := 60) dX12_gullComes_23 fl_X12_7 (by decide) rfl rfl (pj_iconst hM (pc := 26) dX12_gullComes_26 (by decide) (pj_ial hM (pc := 27) dX12_gullComes_27 ki_60 (by decide) (by decide) (pj_cV hM (pc := 28) (cM_draw (p1.2 60 0 2) p1.2 p5 h6) dX12_gullComes_28 mf_X12_draw mv_X12_draw ml_X12_423 kc_26 rfl rfl (by decide) rfl rfl (pj_istore_n hM (pc := 31) dX12_gullComes_31 (by decide) (lls' := [(26, 0), (0, x1), (0, p5.1), (9, 0)]) rfl (pj_aload_n hM (pc := 32) dX12_gullComes_32 rfl rfl (pj_aload_n hM (pc := 33) dX12_gullComes_33 rfl rfl (pj_getF hM (pc := 34) (t := 60) dX12_gullComes_34 fl_X12_7 (by decide) rfl rfl (pj_iconst hM (pc := 37) dX12_gullComes_37 (by decide) (pj_ial hM (pc := 38) dX12_gullComes_38 ki_60 (by decide) (by decide) (pj_iconst hM (pc := 39) dX12_gullComes_39 (by decide) (pj_isub hM (pc := 40) dX12_gullComes_40 (pj_cV hM (pc := 41) (cM_draw (pj_wr ((p5.2 60 0 2) - 1)) p5.2 p7 h8) dX12_gullComes_41 mf_X12_draw mv_X12_draw ml_X12_423 kc_26 rfl rfl (by decide) rfl rfl (pj_istore_n hM (pc := 44) dX12_gullComes_44 (by decide) (lls' := [(26, 0), (0, x1), (0, p5.1), (0, p7.1)]) rfl (pj_iload_n hM (pc := 45) dX12_gullComes_45 rfl (pj_iload_n hM (pc := 46) dX12_gullComes_46 rfl (pj_iload_n hM (pc := 47) dX12_gullComes_47 rfl k)))))))))))))))))))) ?_
    refine pj_tJ (fun v : Int => fM_gullComes_56 p5.1 p7.1 v p7.2) (fun h9 => ?_) (fun h9 => ?_)
    · refine pj_map (fun k => pj_ic_lt_t hM (pc := 48) dX12_gullComes_48 rfl h9 (pj_iconst hM (pc := 55) dX12_gullComes_55 (by decide) (pj_kill hM [true, false, true, false] (lls' := [(26, 0), (9, 0), (0, p5.1), (9, 0)]) rfl k))) ?_
      exact tM_gullComes_56 hM p5.1 p7.1 0 p7.2 _ h0
    refine pj_map (fun k => pj_ic_lt_f hM (pc := 48) 55 dX12_gullComes_48 rfl h9 (pj_iconst hM (pc := 51) dX12_gullComes_51 (by decide) (pj_goto hM (pc := 52) dX12_gullComes_52 rfl (pj_kill hM [true, false, true, false] (lls' := [(26, 0), (9, 0), (0, p5.1), (9, 0)]) rfl k)))) ?_
    exact tM_gullComes_56 hM p5.1 p7.1 1 p7.2 _ h0
  exact pj_tret (fun hr => pj_ic_ge_f hM (pc := 17) 21 dX12_gullComes_17 rfl h4 (pj_ret hM (pc := 20) dX12_gullComes_20 rfl (h0 (p1.2) hr) rfl))
theorem cM_gullComes (x1 : Int)  (w : pj_W) (r : pj_W) (h : fM_gullComes x1 w = some r) : pj_Cn l yX12_gullComes cX12_gullComes 4 none 3 72 true g [(26, 0), (0, x1)] w ((none : Option pj_V), r) :=
  pj_Cn_of rfl (Nat.le_of_ble_eq_true rfl) (lls := [(26, 0), (0, x1), (9, 0), (9, 0)]) rfl (fun Go hM => tM_gullComes hM x1 w (fun x => ((none : Option pj_V), x) = ((none : Option pj_V), r)) (fun r h => h) r h rfl)
noncomputable def fM_sets (x1 : Int) (x2 : Int) (w : pj_W) : Option (pj_W) :=
  (fM_finderRow x1 w).bind fun p1 => (if 0 ≤ (pj_wr (p1 + 2)) ∧ (pj_wr (p1 + 2)) < 8400 then ((fM_finderRow x1 (pj_set w 60 0 (pj_wr (p1 + 2)) (pj_wr ((w 60 0 (pj_wr (p1 + 2))) - 1)))).bind fun p4 => (if 0 ≤ (pj_wr (p4 + 3)) ∧ (pj_wr (p4 + 3)) < 8400 then ((fM_comes 0 x2 x1 ((pj_set w 60 0 (pj_wr (p1 + 2)) (pj_wr ((w 60 0 (pj_wr (p1 + 2))) - 1))) 60 0 (pj_wr (p4 + 3))) (pj_set w 60 0 (pj_wr (p1 + 2)) (pj_wr ((w 60 0 (pj_wr (p1 + 2))) - 1)))).bind fun p7 => (some (p7))) else none)) else none)
theorem tM_sets {Go : pj_C → Prop} (hM : pj_M l yX12_sets cX12_sets 3 none 2 47 true g n0 o Go) (x1 : Int) (x2 : Int) (w : pj_W)  (R : pj_W → Prop) (h0 : ∀ r, R (r) → ((none : Option pj_V), r) = o) : pj_TG R (fM_sets x1 x2 w) (Go (0, [(26, 0), (0, x1), (0, x2)], [], w)) := by
  unfold fM_sets
  refine pj_tbind (fun p1 h2 => ?_)
  refine pj_tgd (fun h3 => ?_)
  refine pj_tbind (fun p4 h5 => ?_)
  refine pj_tgd (fun h6 => ?_)
  refine pj_tbind (fun p7 h8 => ?_)
  exact pj_tret (fun hr => pj_aload_n hM (pc := 0) dX12_sets_0 rfl rfl (pj_getF hM (pc := 1) (t := 60) dX12_sets_1 fl_X12_7 (by decide) rfl rfl (pj_iload_n hM (pc := 4) dX12_sets_4 rfl (pj_cS hM (pc := 5) (cM_finderRow x1 w p1 h2) dX12_sets_5 mf_X12_finderRow ms_X12_finderRow ml_X12_274 rfl rfl rfl rfl (pj_iconst hM (pc := 8) dX12_sets_8 (by decide) (pj_iadd hM (pc := 9) dX12_sets_9 (pj_dup2 hM (pc := 10) dX12_sets_10 (by decide) (by decide) (pj_ial hM (pc := 11) dX12_sets_11 ki_60 (by decide) h3 (pj_iconst hM (pc := 12) dX12_sets_12 (by decide) (pj_isub hM (pc := 13) dX12_sets_13 (pj_ias hM (pc := 14) dX12_sets_14 ki_60 (by decide) h3 (pj_aload_n hM (pc := 15) dX12_sets_15 rfl rfl (pj_iconst hM (pc := 16) dX12_sets_16 (by decide) (pj_iload_n hM (pc := 17) dX12_sets_17 rfl (pj_iload_n hM (pc := 18) dX12_sets_18 rfl (pj_aload_n hM (pc := 19) dX12_sets_19 rfl rfl (pj_getF hM (pc := 20) (t := 60) dX12_sets_20 fl_X12_7 (by decide) rfl rfl (pj_iload_n hM (pc := 23) dX12_sets_23 rfl (pj_cS hM (pc := 24) (cM_finderRow x1 (pj_set w 60 0 (pj_wr (p1 + 2)) (pj_wr ((w 60 0 (pj_wr (p1 + 2))) - 1))) p4 h5) dX12_sets_24 mf_X12_finderRow ms_X12_finderRow ml_X12_274 rfl rfl rfl rfl (pj_iconst hM (pc := 27) dX12_sets_27 (by decide) (pj_iadd hM (pc := 28) dX12_sets_28 (pj_ial hM (pc := 29) dX12_sets_29 ki_60 (by decide) h6 (pj_cVv hM (pc := 30) (cM_comes 0 x2 x1 ((pj_set w 60 0 (pj_wr (p1 + 2)) (pj_wr ((w 60 0 (pj_wr (p1 + 2))) - 1))) 60 0 (pj_wr (p4 + 3))) (pj_set w 60 0 (pj_wr (p1 + 2)) (pj_wr ((w 60 0 (pj_wr (p1 + 2))) - 1))) p7 h8) dX12_sets_30 mf_X12_comes mv_X12_comes ml_X12_210 kc_26 rfl rfl (by decide) rfl rfl (pj_ret hM (pc := 33) dX12_sets_33 rfl (h0 (p7) hr) rfl))))))))))))))))))))))))
theorem cM_sets (x1 : Int) (x2 : Int)  (w : pj_W) (r : pj_W) (h : fM_sets x1 x2 w = some r) : pj_Cn l yX12_sets cX12_sets 3 none 2 47 true g [(26, 0), (0, x1), (0, x2)] w ((none : Option pj_V), r) :=
  pj_Cn_of rfl (Nat.le_of_ble_eq_true rfl) (lls := [(26, 0), (0, x1), (0, x2)]) rfl (fun Go hM => tM_sets hM x1 x2 w (fun x => ((none : Option pj_V), x) = ((none : Option pj_V), r)) (fun r h => h) r h rfl)
noncomputable def fM_waited (x1 : Int) (x2 : Int) (w : pj_W) : Option (Int × pj_W) :=
  (fM_mayTo x1 x2 w).bind fun p1 => (if p1 = 0 then (some ((0, w))) else ((fM_finderRow x1 w).bind fun p4 => (if 0 ≤ (pj_wr (p4 + 3)) ∧ (pj_wr (p4 + 3)) < 8400 then (some ((1, (pj_set w 60 0 (pj_wr (p4 + 3)) (pj_wr ((w 60 0 (pj_wr (p4 + 3))) + x2)))))) else none)))
theorem tM_waited {Go : pj_C → Prop} (hM : pj_M l yX12_waited cX12_waited 3 (some .boolean) 2 42 true g n0 o Go) (x1 : Int) (x2 : Int) (w : pj_W)  (R : Int × pj_W → Prop) (h0 : ∀ r, R (r) → ((some (0, r.1) : Option pj_V), r.2) = o) : pj_TG R (fM_waited x1 x2 w) (Go (0, [(26, 0), (0, x1), (0, x2)], [], w)) := by
  unfold fM_waited
  refine pj_tbind (fun p1 h2 => ?_)
  refine pj_map (fun k => pj_aload_n hM (pc := 0) dX12_waited_0 rfl rfl (pj_iload_n hM (pc := 1) dX12_waited_1 rfl (pj_iload_n hM (pc := 2) dX12_waited_2 rfl (pj_cV hM (pc := 3) (cM_mayTo x1 x2 w p1 h2) dX12_waited_3 mf_X12_mayTo mv_X12_mayTo ml_X12_286 kc_26 rfl rfl (by decide) rfl rfl k)))) ?_
  refine pj_tif (fun h3 => ?_) (fun h3 => ?_)
  · exact pj_tret (fun hr => pj_if_ne_f hM (pc := 6) 11 dX12_waited_6 rfl (fun q => q h3) (pj_iconst hM (pc := 9) dX12_waited_9 (by decide) (pj_ret hM (pc := 10) dX12_waited_10 ⟨_, rfl, Or.inl rfl⟩ (h0 ((0, w)) hr) rfl)))
  refine pj_tbind (fun p4 h5 => ?_)
  refine pj_tgd (fun h6 => ?_)
  exact pj_tret (fun hr => pj_if_ne_t hM (pc := 6) dX12_waited_6 rfl h3 (pj_aload_n hM (pc := 11) dX12_waited_11 rfl rfl (pj_getF hM (pc := 12) (t := 60) dX12_waited_12 fl_X12_7 (by decide) rfl rfl (pj_iload_n hM (pc := 15) dX12_waited_15 rfl (pj_cS hM (pc := 16) (cM_finderRow x1 w p4 h5) dX12_waited_16 mf_X12_finderRow ms_X12_finderRow ml_X12_274 rfl rfl rfl rfl (pj_iconst hM (pc := 19) dX12_waited_19 (by decide) (pj_iadd hM (pc := 20) dX12_waited_20 (pj_dup2 hM (pc := 21) dX12_waited_21 (by decide) (by decide) (pj_ial hM (pc := 22) dX12_waited_22 ki_60 (by decide) h6 (pj_iload_n hM (pc := 23) dX12_waited_23 rfl (pj_iadd hM (pc := 24) dX12_waited_24 (pj_ias hM (pc := 25) dX12_waited_25 ki_60 (by decide) h6 (pj_iconst hM (pc := 26) dX12_waited_26 (by decide) (pj_ret hM (pc := 27) dX12_waited_27 ⟨_, rfl, Or.inr rfl⟩ (h0 ((1, (pj_set w 60 0 (pj_wr (p4 + 3)) (pj_wr ((w 60 0 (pj_wr (p4 + 3))) + x2))))) hr) rfl))))))))))))))
theorem cM_waited (x1 : Int) (x2 : Int)  (w : pj_W) (r : Int × pj_W) (h : fM_waited x1 x2 w = some r) : pj_Cn l yX12_waited cX12_waited 3 (some .boolean) 2 42 true g [(26, 0), (0, x1), (0, x2)] w ((some (0, r.1) : Option pj_V), r.2) :=
  pj_Cn_of rfl (Nat.le_of_ble_eq_true rfl) (lls := [(26, 0), (0, x1), (0, x2)]) rfl (fun Go hM => tM_waited hM x1 x2 w (fun x => ((some (0, x.1) : Option pj_V), x.2) = ((some (0, r.1) : Option pj_V), r.2)) (fun r h => h) r h rfl)
noncomputable def fM_washes_67 (x1 : Int) (x2 : Int) (x3 : Int) (w : pj_W) : Option ((Int × Int × pj_W) ⊕ (Int × pj_W)) :=
  some (Sum.inl (x2, (pj_wr (x3 + 1)), w))
noncomputable def fM_washes_4b (x1 : Int) (x2 : Int) (x3 : Int) (w : pj_W) : Option ((Int × Int × pj_W) ⊕ (Int × pj_W)) :=
  if (w 60 0 2) ≤ x3 then (some (Sum.inr ((x2, w)))) else ((fM_findRow 0 x3 w).bind fun p2 => (if 0 ≤ p2 ∧ p2 < 8400 then (if (w 60 0 p2) < x1 then ((fM_manyOn x3 w).bind fun p6 => ((fM_manyOn x3 w).bind fun p8 => ((fM_findRow 0 x3 (pj_set w 60 0 8 (pj_wr ((w 60 0 8) - p8)))).bind fun p10 => (if 0 ≤ (pj_wr (p10 + 2)) ∧ (pj_wr (p10 + 2)) < 8400 then (fM_washes_67 x1 (pj_wr (x2 + p6)) x3 (pj_set (pj_set w 60 0 8 (pj_wr ((w 60 0 8) - p8))) 60 0 (pj_wr (p10 + 2)) 0)) else none)))) else (fM_washes_67 x1 x2 x3 w)) else none))
noncomputable def fM_washes_4 (x1 : Int) (s : (Int × Int × pj_W)) : Option (Int × pj_W) := pj_Lp (fun s : (Int × Int × pj_W) => fM_washes_4b x1 s.1 s.2.1 s.2.2) s
noncomputable def fM_washes (x1 : Int) (w : pj_W) : Option (Int × pj_W) :=
  fM_washes_4 x1 (0, 0, w)
theorem tM_washes_67 {Go : pj_C → Prop} (hM : pj_M l yX12_washes cX12_washes 4 (some .int) 2 42 true g n0 o Go) (x1 : Int) (x2 : Int) (x3 : Int) (w : pj_W)  (R : (Int × Int × pj_W) ⊕ (Int × pj_W) → Prop) (h0 : ∀ r, R (Sum.inr (r)) → ((some (0, r.1) : Option pj_V), r.2) = o) (hk4 : ∀ s, R (Sum.inl s) → Go (4, [(26, 0), (0, x1), (0, s.1), (0, s.2.1)], [], s.2.2)) : pj_TG R (fM_washes_67 x1 x2 x3 w) (Go (67, [(26, 0), (0, x1), (0, x2), (0, x3)], [], w)) := by
  unfold fM_washes_67
  exact pj_tret (fun hr => pj_iinc hM (pc := 67) dX12_washes_67 rfl (by decide) (lls' := [(26, 0), (0, x1), (0, x2), (0, (pj_wr (x3 + 1)))]) rfl (pj_goto hM (pc := 70) dX12_washes_70 rfl (pj_kill hM [true, true, true, true] (lls' := [(26, 0), (0, x1), (0, x2), (0, (pj_wr (x3 + 1)))]) rfl ((hk4 _ hr)))))
theorem tM_washes_4b {Go : pj_C → Prop} (hM : pj_M l yX12_washes cX12_washes 4 (some .int) 2 42 true g n0 o Go) (x1 : Int) (x2 : Int) (x3 : Int) (w : pj_W)  (R : (Int × Int × pj_W) ⊕ (Int × pj_W) → Prop) (h0 : ∀ r, R (Sum.inr (r)) → ((some (0, r.1) : Option pj_V), r.2) = o) (hk4 : ∀ s, R (Sum.inl s) → Go (4, [(26, 0), (0, x1), (0, s.1), (0, s.2.1)], [], s.2.2)) : pj_TG R (fM_washes_4b x1 x2 x3 w) (Go (4, [(26, 0), (0, x1), (0, x2), (0, x3)], [], w)) := by
  unfold fM_washes_4b
  refine pj_map (fun k => pj_iload_n hM (pc := 4) dX12_washes_4 rfl (pj_aload_n hM (pc := 5) dX12_washes_5 rfl rfl (pj_getF hM (pc := 6) (t := 60) dX12_washes_6 fl_X12_7 (by decide) rfl rfl (pj_iconst hM (pc := 9) dX12_washes_9 (by decide) (pj_ial hM (pc := 10) dX12_washes_10 ki_60 (by decide) (by decide) k))))) ?_
  refine pj_tif (fun h1 => ?_) (fun h1 => ?_)
  · exact pj_tret (fun hr => pj_ic_ge_t hM (pc := 11) dX12_washes_11 rfl h1 (pj_iload_n hM (pc := 73) dX12_washes_73 rfl (pj_ret hM (pc := 74) dX12_washes_74 ⟨_, rfl⟩ (h0 ((x2, w)) hr) rfl)))
  refine pj_tbind (fun p2 h3 => ?_)
  refine pj_tgd (fun h4 => ?_)
  refine pj_map (fun k => pj_ic_ge_f hM (pc := 11) 73 dX12_washes_11 rfl h1 (pj_aload_n hM (pc := 14) dX12_washes_14 rfl rfl (pj_getF hM (pc := 15) (t := 60) dX12_washes_15 fl_X12_7 (by decide) rfl rfl (pj_iconst hM (pc := 18) dX12_washes_18 (by decide) (pj_iload_n hM (pc := 19) dX12_washes_19 rfl (pj_cS hM (pc := 20) (cM_findRow 0 x3 w p2 h3) dX12_washes_20 mf_X12_findRow ms_X12_findRow ml_X12_171 rfl rfl rfl rfl (pj_ial hM (pc := 23) dX12_washes_23 ki_60 (by decide) h4 (pj_iload_n hM (pc := 24) dX12_washes_24 rfl k)))))))) ?_
  refine pj_tif (fun h5 => ?_) (fun h5 => ?_)
  · refine pj_tbind (fun p6 h7 => ?_)
    refine pj_tbind (fun p8 h9 => ?_)
    refine pj_tbind (fun p10 h11 => ?_)
    refine pj_tgd (fun h12 => ?_)
    refine pj_map (fun k => pj_ic_lt_t hM (pc := 25) dX12_washes_25 rfl h5 (pj_iload_n hM (pc := 31) dX12_washes_31 rfl (pj_aload_n hM (pc := 32) dX12_washes_32 rfl rfl (pj_iload_n hM (pc := 33) dX12_washes_33 rfl (pj_cV hM (pc := 34) (cM_manyOn x3 w p6 h7) dX12_washes_34 mf_X12_manyOn mv_X12_manyOn ml_X12_277 kc_26 rfl rfl (by decide) rfl rfl (pj_iadd hM (pc := 37) dX12_washes_37 (pj_istore_n hM (pc := 38) dX12_washes_38 (by decide) (lls' := [(26, 0), (0, x1), (0, (pj_wr (x2 + p6))), (0, x3)]) rfl (pj_aload_n hM (pc := 39) dX12_washes_39 rfl rfl (pj_getF hM (pc := 40) (t := 60) dX12_washes_40 fl_X12_7 (by decide) rfl rfl (pj_bipush hM (pc := 43) dX12_washes_43 (by decide) (pj_dup2 hM (pc := 45) dX12_washes_45 (by decide) (by decide) (pj_ial hM (pc := 46) dX12_washes_46 ki_60 (by decide) (by decide) (pj_aload_n hM (pc := 47) dX12_washes_47 rfl rfl (pj_iload_n hM (pc := 48) dX12_washes_48 rfl (pj_cV hM (pc := 49) (cM_manyOn x3 w p8 h9) dX12_washes_49 mf_X12_manyOn mv_X12_manyOn ml_X12_277 kc_26 rfl rfl (by decide) rfl rfl (pj_isub hM (pc := 52) dX12_washes_52 (pj_ias hM (pc := 53) dX12_washes_53 ki_60 (by decide) (by decide) (pj_aload_n hM (pc := 54) dX12_washes_54 rfl rfl (pj_getF hM (pc := 55) (t := 60) dX12_washes_55 fl_X12_7 (by decide) rfl rfl (pj_iconst hM (pc := 58) dX12_washes_58 (by decide) (pj_iload_n hM (pc := 59) dX12_washes_59 rfl (pj_cS hM (pc := 60) (cM_findRow 0 x3 (pj_set w 60 0 8 (pj_wr ((w 60 0 8) - p8))) p10 h11) dX12_washes_60 mf_X12_findRow ms_X12_findRow ml_X12_171 rfl rfl rfl rfl (pj_iconst hM (pc := 63) dX12_washes_63 (by decide) (pj_iadd hM (pc := 64) dX12_washes_64 (pj_iconst hM (pc := 65) dX12_washes_65 (by decide) (pj_ias hM (pc := 66) dX12_washes_66 ki_60 (by decide) h12 (pj_kill hM [true, true, true, true] (lls' := [(26, 0), (0, x1), (0, (pj_wr (x2 + p6))), (0, x3)]) rfl k))))))))))))))))))))))))))) ?_
    exact tM_washes_67 hM x1 (pj_wr (x2 + p6)) x3 (pj_set (pj_set w 60 0 8 (pj_wr ((w 60 0 8) - p8))) 60 0 (pj_wr (p10 + 2)) 0) _ h0 hk4
  refine pj_map (fun k => pj_ic_lt_f hM (pc := 25) 31 dX12_washes_25 rfl h5 (pj_goto hM (pc := 28) dX12_washes_28 rfl (pj_kill hM [true, true, true, true] (lls' := [(26, 0), (0, x1), (0, x2), (0, x3)]) rfl k))) ?_
  exact tM_washes_67 hM x1 x2 x3 w _ h0 hk4
theorem tM_washes_4 {Go : pj_C → Prop} (hM : pj_M l yX12_washes cX12_washes 4 (some .int) 2 42 true g n0 o Go) (x1 : Int)  (R : Int × pj_W → Prop) (h0 : ∀ r, R (r) → ((some (0, r.1) : Option pj_V), r.2) = o) (s : (Int × Int × pj_W)) : pj_TG R (fM_washes_4 x1 s) (Go (4, [(26, 0), (0, x1), (0, s.1), (0, s.2.1)], [], s.2.2)) := by
  unfold fM_washes_4
  exact pj_tLp (G := fun s : (Int × Int × pj_W) => Go (4, [(26, 0), (0, x1), (0, s.1), (0, s.2.1)], [], s.2.2)) (fun s => tM_washes_4b hM x1 s.1 s.2.1 s.2.2  _ (fun r h => h0 r h)  (fun s h => h)) s
theorem tM_washes {Go : pj_C → Prop} (hM : pj_M l yX12_washes cX12_washes 4 (some .int) 2 42 true g n0 o Go) (x1 : Int) (w : pj_W)  (R : Int × pj_W → Prop) (h0 : ∀ r, R (r) → ((some (0, r.1) : Option pj_V), r.2) = o) : pj_TG R (fM_washes x1 w) (Go (0, [(26, 0), (0, x1), (9, 0), (9, 0)], [], w)) := by
  unfold fM_washes
  refine pj_map (fun k => pj_iconst hM (pc := 0) dX12_washes_0 (by decide) (pj_istore_n hM (pc := 1) dX12_washes_1 (by decide) (lls' := [(26, 0), (0, x1), (0, 0), (9, 0)]) rfl (pj_iconst hM (pc := 2) dX12_washes_2 (by decide) (pj_istore_n hM (pc := 3) dX12_washes_3 (by decide) (lls' := [(26, 0), (0, x1), (0, 0), (0, 0)]) rfl (pj_kill hM [true, true, true, true] (lls' := [(26, 0), (0, x1), (0, 0), (0, 0)]) rfl k))))) ?_
  exact tM_washes_4 hM x1 _ h0 _
theorem cM_washes (x1 : Int)  (w : pj_W) (r : Int × pj_W) (h : fM_washes x1 w = some r) : pj_Cn l yX12_washes cX12_washes 4 (some .int) 2 42 true g [(26, 0), (0, x1)] w ((some (0, r.1) : Option pj_V), r.2) :=
  pj_Cn_of rfl (Nat.le_of_ble_eq_true rfl) (lls := [(26, 0), (0, x1), (9, 0), (9, 0)]) rfl (fun Go hM => tM_washes hM x1 w (fun x => ((some (0, x.1) : Option pj_V), x.2) = ((some (0, r.1) : Option pj_V), r.2)) (fun r h => h) r h rfl)
noncomputable def fM_wrongSet (x1 : Int) (x2 : Int) (w : pj_W) : Option (Int) :=
  if (w 60 0 8) = 60 then (some (4)) else ((fM_finderRow x1 w).bind fun p2 => (if 0 ≤ (pj_wr (p2 + 2)) ∧ (pj_wr (p2 + 2)) < 8400 then (if (w 60 0 (pj_wr (p2 + 2))) = 0 then (some (6)) else ((fM_isThere x2 w).bind fun p6 => (if p6 = 0 then (some (7)) else ((fM_finderRow x1 w).bind fun p9 => (if 0 ≤ p9 ∧ p9 < 8400 then ((fM_findRow 0 x2 w).bind fun p12 => (if 0 ≤ p12 ∧ p12 < 8400 then (if (w 60 0 p9) = (w 60 0 p12) then (some (0)) else (some (7))) else none)) else none))))) else none))
theorem tM_wrongSet {Go : pj_C → Prop} (hM : pj_M l yX12_wrongSet cX12_wrongSet 3 (some .int) 1 21 true g n0 o Go) (x1 : Int) (x2 : Int) (w : pj_W)  (R : Int → Prop) (h0 : ∀ r, R (r) → ((some (0, r) : Option pj_V), w) = o) : pj_TG R (fM_wrongSet x1 x2 w) (Go (0, [(26, 0), (0, x1), (0, x2)], [], w)) := by
  unfold fM_wrongSet
  refine pj_map (fun k => pj_aload_n hM (pc := 0) dX12_wrongSet_0 rfl rfl (pj_getF hM (pc := 1) (t := 60) dX12_wrongSet_1 fl_X12_7 (by decide) rfl rfl (pj_bipush hM (pc := 4) dX12_wrongSet_4 (by decide) (pj_ial hM (pc := 6) dX12_wrongSet_6 ki_60 (by decide) (by decide) (pj_bipush hM (pc := 7) dX12_wrongSet_7 (by decide) k))))) ?_
  refine pj_tif (fun h1 => ?_) (fun h1 => ?_)
  · exact pj_tret (fun hr => pj_ic_ne_f hM (pc := 9) 14 dX12_wrongSet_9 rfl (fun q => q h1) (pj_iconst hM (pc := 12) dX12_wrongSet_12 (by decide) (pj_ret hM (pc := 13) dX12_wrongSet_13 ⟨_, rfl⟩ (h0 (4) hr) rfl)))
  refine pj_tbind (fun p2 h3 => ?_)
  refine pj_tgd (fun h4 => ?_)
  refine pj_map (fun k => pj_ic_ne_t hM (pc := 9) dX12_wrongSet_9 rfl h1 (pj_aload_n hM (pc := 14) dX12_wrongSet_14 rfl rfl (pj_getF hM (pc := 15) (t := 60) dX12_wrongSet_15 fl_X12_7 (by decide) rfl rfl (pj_iload_n hM (pc := 18) dX12_wrongSet_18 rfl (pj_cS hM (pc := 19) (cM_finderRow x1 w p2 h3) dX12_wrongSet_19 mf_X12_finderRow ms_X12_finderRow ml_X12_274 rfl rfl rfl rfl (pj_iconst hM (pc := 22) dX12_wrongSet_22 (by decide) (pj_iadd hM (pc := 23) dX12_wrongSet_23 (pj_ial hM (pc := 24) dX12_wrongSet_24 ki_60 (by decide) h4 k)))))))) ?_
  refine pj_tif (fun h5 => ?_) (fun h5 => ?_)
  · exact pj_tret (fun hr => pj_if_ne_f hM (pc := 25) 31 dX12_wrongSet_25 rfl (fun q => q h5) (pj_bipush hM (pc := 28) dX12_wrongSet_28 (by decide) (pj_ret hM (pc := 30) dX12_wrongSet_30 ⟨_, rfl⟩ (h0 (6) hr) rfl)))
  refine pj_tbind (fun p6 h7 => ?_)
  refine pj_map (fun k => pj_if_ne_t hM (pc := 25) dX12_wrongSet_25 rfl h5 (pj_aload_n hM (pc := 31) dX12_wrongSet_31 rfl rfl (pj_iload_n hM (pc := 32) dX12_wrongSet_32 rfl (pj_cV hM (pc := 33) (cM_isThere x2 w p6 h7) dX12_wrongSet_33 mf_X12_isThere mv_X12_isThere ml_X12_268 kc_26 rfl rfl (by decide) rfl rfl k)))) ?_
  refine pj_tif (fun h8 => ?_) (fun h8 => ?_)
  · exact pj_tret (fun hr => pj_if_eq_t hM (pc := 36) dX12_wrongSet_36 rfl h8 (pj_bipush hM (pc := 65) dX12_wrongSet_65 (by decide) (pj_ret hM (pc := 67) dX12_wrongSet_67 ⟨_, rfl⟩ (h0 (7) hr) rfl)))
  refine pj_tbind (fun p9 h10 => ?_)
  refine pj_tgd (fun h11 => ?_)
  refine pj_tbind (fun p12 h13 => ?_)
  refine pj_tgd (fun h14 => ?_)
  refine pj_map (fun k => pj_if_eq_f hM (pc := 36) 65 dX12_wrongSet_36 rfl h8 (pj_aload_n hM (pc := 39) dX12_wrongSet_39 rfl rfl (pj_getF hM (pc := 40) (t := 60) dX12_wrongSet_40 fl_X12_7 (by decide) rfl rfl (pj_iload_n hM (pc := 43) dX12_wrongSet_43 rfl (pj_cS hM (pc := 44) (cM_finderRow x1 w p9 h10) dX12_wrongSet_44 mf_X12_finderRow ms_X12_finderRow ml_X12_274 rfl rfl rfl rfl (pj_ial hM (pc := 47) dX12_wrongSet_47 ki_60 (by decide) h11 (pj_aload_n hM (pc := 48) dX12_wrongSet_48 rfl rfl (pj_getF hM (pc := 49) (t := 60) dX12_wrongSet_49 fl_X12_7 (by decide) rfl rfl (pj_iconst hM (pc := 52) dX12_wrongSet_52 (by decide) (pj_iload_n hM (pc := 53) dX12_wrongSet_53 rfl (pj_cS hM (pc := 54) (cM_findRow 0 x2 w p12 h13) dX12_wrongSet_54 mf_X12_findRow ms_X12_findRow ml_X12_171 rfl rfl rfl rfl (pj_ial hM (pc := 57) dX12_wrongSet_57 ki_60 (by decide) h14 k)))))))))))) ?_
  refine pj_tif (fun h15 => ?_) (fun h15 => ?_)
  · exact pj_tret (fun hr => pj_ic_ne_f hM (pc := 58) 65 dX12_wrongSet_58 rfl (fun q => q h15) (pj_iconst hM (pc := 61) dX12_wrongSet_61 (by decide) (pj_goto hM (pc := 62) dX12_wrongSet_62 rfl (pj_ret hM (pc := 67) dX12_wrongSet_67 ⟨_, rfl⟩ (h0 (0) hr) rfl))))
  exact pj_tret (fun hr => pj_ic_ne_t hM (pc := 58) dX12_wrongSet_58 rfl h15 (pj_bipush hM (pc := 65) dX12_wrongSet_65 (by decide) (pj_ret hM (pc := 67) dX12_wrongSet_67 ⟨_, rfl⟩ (h0 (7) hr) rfl)))
theorem cM_wrongSet (x1 : Int) (x2 : Int)  (w : pj_W) (r : Int) (h : fM_wrongSet x1 x2 w = some r) : pj_Cn l yX12_wrongSet cX12_wrongSet 3 (some .int) 1 21 true g [(26, 0), (0, x1), (0, x2)] w ((some (0, r) : Option pj_V), w) :=
  pj_Cn_of rfl (Nat.le_of_ble_eq_true rfl) (lls := [(26, 0), (0, x1), (0, x2)]) rfl (fun Go hM => tM_wrongSet hM x1 x2 w (fun x => ((some (0, x) : Option pj_V), w) = ((some (0, r) : Option pj_V), w)) (fun r h => h) r h rfl)
noncomputable def fM_does (x1 : Int) (w : pj_W) : Option (Int × pj_W) :=
  if 0 ≤ (pj_wr (x1 + 1)) ∧ (pj_wr (x1 + 1)) < 8400 then (if 0 ≤ (pj_wr (x1 + 2)) ∧ (pj_wr (x1 + 2)) < 8400 then (if 0 ≤ x1 ∧ x1 < 8400 then (if (w 60 0 x1) = 1 then (if (w 60 0 6) = 99 then (some ((0, w))) else (if (w 60 0 7) = 0 then (some ((0, w))) else ((fM_floods w).bind fun p7 => ((fM_dawns p7).bind fun p9 => (some ((1, (pj_set p9 73 0 3 (pj_wr ((p9 73 0 3) + 1)))))))))) else if (w 60 0 x1) = 2 then (some ((1, w))) else if (w 60 0 x1) = 3 then (some ((1, w))) else if (w 60 0 x1) = 4 then (some ((1, w))) else if (w 60 0 x1) = 5 then (some ((1, w))) else if (w 60 0 x1) = 6 then (some ((1, w))) else if (w 60 0 x1) = 7 then (some ((1, w))) else if (w 60 0 x1) = 8 then (some ((1, w))) else if (w 60 0 x1) = 9 then (some ((1, w))) else if (w 60 0 x1) = 10 then (some ((1, w))) else if (w 60 0 x1) = 11 then (some ((1, w))) else if (w 60 0 x1) = 12 then (some ((1, w))) else if (w 60 0 x1) = 13 then (some ((1, w))) else if (w 60 0 x1) = 14 then (some ((1, w))) else if (w 60 0 x1) = 15 then (some ((1, w))) else if (w 60 0 x1) = 16 then (some ((1, w))) else if (w 60 0 x1) = 17 then (some ((1, w))) else if (w 60 0 x1) = 18 then ((fM_went (w 60 0 (pj_wr (x1 + 1))) (w 60 0 (pj_wr (x1 + 2))) w).bind fun p28 => (if p28.1 = 0 ∨ p28.1 = 1 then (some ((p28.1, p28.2))) else none)) else if (w 60 0 x1) = 19 then ((fM_wrongSet (w 60 0 (pj_wr (x1 + 1))) (w 60 0 (pj_wr (x1 + 2))) w).bind fun p32 => (if p32 ≤ 0 then ((fM_sets (w 60 0 (pj_wr (x1 + 1))) (w 60 0 (pj_wr (x1 + 2))) w).bind fun p35 => (some ((1, p35)))) else (some ((0, w))))) else if (w 60 0 x1) = 20 then ((fM_waited (w 60 0 (pj_wr (x1 + 1))) (w 60 0 (pj_wr (x1 + 2))) w).bind fun p38 => (if p38.1 = 0 ∨ p38.1 = 1 then (some ((p38.1, p38.2))) else none)) else if (w 60 0 x1) = 21 then ((fM_wrongLift (w 60 0 (pj_wr (x1 + 1))) (w 60 0 (pj_wr (x1 + 2))) w).bind fun p42 => (if p42 = 0 then ((fM_lifts (w 60 0 (pj_wr (x1 + 1))) (w 60 0 (pj_wr (x1 + 2))) w).bind fun p45 => (if p45.1 < 0 then (some ((0, p45.2))) else (some ((1, p45.2))))) else (some ((0, w))))) else if (w 60 0 x1) = 22 then ((fM_gullComes (w 60 0 (pj_wr (x1 + 1))) w).bind fun p49 => (some ((1, p49)))) else if (w 60 0 x1) = 23 then ((fM_washes (w 60 0 (pj_wr (x1 + 1))) w).bind fun p52 => (some ((1, (pj_set p52.2 73 0 2 (pj_wr ((w 73 0 2) + p52.1))))))) else (some ((1, w)))) else none) else none) else none
theorem tM_does {Go : pj_C → Prop} (hM : pj_M l yX12_does cX12_does 4 (some .boolean) 5 114 true g n0 o Go) (x1 : Int) (w : pj_W)  (R : Int × pj_W → Prop) (h0 : ∀ r, R (r) → ((some (0, r.1) : Option pj_V), r.2) = o) : pj_TG R (fM_does x1 w) (Go (0, [(26, 0), (0, x1), (9, 0), (9, 0)], [], w)) := by
  unfold fM_does
  refine pj_tgd (fun h1 => ?_)
  refine pj_tgd (fun h2 => ?_)
  refine pj_tgd (fun h3 => ?_)
  refine pj_map (fun k => pj_aload_n hM (pc := 0) dX12_does_0 rfl rfl (pj_getF hM (pc := 1) (t := 60) dX12_does_1 fl_X12_7 (by decide) rfl rfl (pj_iload_n hM (pc := 4) dX12_does_4 rfl (pj_iconst hM (pc := 5) dX12_does_5 (by decide) (pj_iadd hM (pc := 6) dX12_does_6 (pj_ial hM (pc := 7) dX12_does_7 ki_60 (by decide) h1 (pj_istore_n hM (pc := 8) dX12_does_8 (by decide) (lls' := [(26, 0), (0, x1), (0, (w 60 0 (pj_wr (x1 + 1)))), (9, 0)]) rfl (pj_aload_n hM (pc := 9) dX12_does_9 rfl rfl (pj_getF hM (pc := 10) (t := 60) dX12_does_10 fl_X12_7 (by decide) rfl rfl (pj_iload_n hM (pc := 13) dX12_does_13 rfl (pj_iconst hM (pc := 14) dX12_does_14 (by decide) (pj_iadd hM (pc := 15) dX12_does_15 (pj_ial hM (pc := 16) dX12_does_16 ki_60 (by decide) h2 (pj_istore_n hM (pc := 17) dX12_does_17 (by decide) (lls' := [(26, 0), (0, x1), (0, (w 60 0 (pj_wr (x1 + 1)))), (0, (w 60 0 (pj_wr (x1 + 2))))]) rfl (pj_aload_n hM (pc := 18) dX12_does_18 rfl rfl (pj_getF hM (pc := 19) (t := 60) dX12_does_19 fl_X12_7 (by decide) rfl rfl (pj_iload_n hM (pc := 22) dX12_does_22 rfl (pj_ial hM (pc := 23) dX12_does_23 ki_60 (by decide) h3 k)))))))))))))))))) ?_
  refine pj_tif (fun h4 => ?_) (fun h4 => ?_)
  · refine pj_map (fun k => pj_table hM (pc := 24) (tgt := 212) dX12_does_24 (by decide) (by rw [h4]; decide) (pj_aload_n hM (pc := 212) dX12_does_212 rfl rfl (pj_getF hM (pc := 213) (t := 60) dX12_does_213 fl_X12_7 (by decide) rfl rfl (pj_bipush hM (pc := 216) dX12_does_216 (by decide) (pj_ial hM (pc := 218) dX12_does_218 ki_60 (by decide) (by decide) (pj_bipush hM (pc := 219) dX12_does_219 (by decide) k)))))) ?_
    refine pj_tif (fun h5 => ?_) (fun h5 => ?_)
    · exact pj_tret (fun hr => pj_ic_eq_t hM (pc := 221) dX12_does_221 rfl h5 (pj_iconst hM (pc := 234) dX12_does_234 (by decide) (pj_ret hM (pc := 235) dX12_does_235 ⟨_, rfl, Or.inl rfl⟩ (h0 ((0, w)) hr) rfl)))
    refine pj_map (fun k => pj_ic_eq_f hM (pc := 221) 234 dX12_does_221 rfl h5 (pj_aload_n hM (pc := 224) dX12_does_224 rfl rfl (pj_getF hM (pc := 225) (t := 60) dX12_does_225 fl_X12_7 (by decide) rfl rfl (pj_bipush hM (pc := 228) dX12_does_228 (by decide) (pj_ial hM (pc := 230) dX12_does_230 ki_60 (by decide) (by decide) k))))) ?_
    refine pj_tif (fun h6 => ?_) (fun h6 => ?_)
    · exact pj_tret (fun hr => pj_if_ne_f hM (pc := 231) 236 dX12_does_231 rfl (fun q => q h6) (pj_iconst hM (pc := 234) dX12_does_234 (by decide) (pj_ret hM (pc := 235) dX12_does_235 ⟨_, rfl, Or.inl rfl⟩ (h0 ((0, w)) hr) rfl)))
    refine pj_tbind (fun p7 h8 => ?_)
    refine pj_tbind (fun p9 h10 => ?_)
    exact pj_tret (fun hr => pj_if_ne_t hM (pc := 231) dX12_does_231 rfl h6 (pj_aload_n hM (pc := 236) dX12_does_236 rfl rfl (pj_cVv hM (pc := 237) (cM_floods w p7 h8) dX12_does_237 mf_X12_floods mv_X12_floods ml_X12_381 kc_26 rfl rfl (by decide) rfl rfl (pj_aload_n hM (pc := 240) dX12_does_240 rfl rfl (pj_cVv hM (pc := 241) (cM_dawns p7 p9 h10) dX12_does_241 mf_X12_dawns mv_X12_dawns ml_X12_384 kc_26 rfl rfl (by decide) rfl rfl (pj_aload_n hM (pc := 244) dX12_does_244 rfl rfl (pj_getF hM (pc := 245) (t := 73) dX12_does_245 fl_X12_62 (by decide) rfl rfl (pj_iconst hM (pc := 248) dX12_does_248 (by decide) (pj_dup2 hM (pc := 249) dX12_does_249 (by decide) (by decide) (pj_ial hM (pc := 250) dX12_does_250 ki_73 (by decide) (by decide) (pj_iconst hM (pc := 251) dX12_does_251 (by decide) (pj_iadd hM (pc := 252) dX12_does_252 (pj_ias hM (pc := 253) dX12_does_253 ki_73 (by decide) (by decide) (pj_iconst hM (pc := 254) dX12_does_254 (by decide) (pj_ret hM (pc := 255) dX12_does_255 ⟨_, rfl, Or.inr rfl⟩ (h0 ((1, (pj_set p9 73 0 3 (pj_wr ((p9 73 0 3) + 1))))) hr) rfl)))))))))))))))
  refine pj_tif (fun h11 => ?_) (fun h11 => ?_)
  · exact pj_tret (fun hr => pj_table hM (pc := 24) (tgt := 256) dX12_does_24 (by decide) (by rw [h11]; decide) (pj_iconst hM (pc := 256) dX12_does_256 (by decide) (pj_ret hM (pc := 257) dX12_does_257 ⟨_, rfl, Or.inr rfl⟩ (h0 ((1, w)) hr) rfl)))
  refine pj_tif (fun h12 => ?_) (fun h12 => ?_)
  · exact pj_tret (fun hr => pj_table hM (pc := 24) (tgt := 256) dX12_does_24 (by decide) (by rw [h12]; decide) (pj_iconst hM (pc := 256) dX12_does_256 (by decide) (pj_ret hM (pc := 257) dX12_does_257 ⟨_, rfl, Or.inr rfl⟩ (h0 ((1, w)) hr) rfl)))
  refine pj_tif (fun h13 => ?_) (fun h13 => ?_)
  · exact pj_tret (fun hr => pj_table hM (pc := 24) (tgt := 256) dX12_does_24 (by decide) (by rw [h13]; decide) (pj_iconst hM (pc := 256) dX12_does_256 (by decide) (pj_ret hM (pc := 257) dX12_does_257 ⟨_, rfl, Or.inr rfl⟩ (h0 ((1, w)) hr) rfl)))
  refine pj_tif (fun h14 => ?_) (fun h14 => ?_)
  · exact pj_tret (fun hr => pj_table hM (pc := 24) (tgt := 256) dX12_does_24 (by decide) (by rw [h14]; decide) (pj_iconst hM (pc := 256) dX12_does_256 (by decide) (pj_ret hM (pc := 257) dX12_does_257 ⟨_, rfl, Or.inr rfl⟩ (h0 ((1, w)) hr) rfl)))
  refine pj_tif (fun h15 => ?_) (fun h15 => ?_)
  · exact pj_tret (fun hr => pj_table hM (pc := 24) (tgt := 256) dX12_does_24 (by decide) (by rw [h15]; decide) (pj_iconst hM (pc := 256) dX12_does_256 (by decide) (pj_ret hM (pc := 257) dX12_does_257 ⟨_, rfl, Or.inr rfl⟩ (h0 ((1, w)) hr) rfl)))
  refine pj_tif (fun h16 => ?_) (fun h16 => ?_)
  · exact pj_tret (fun hr => pj_table hM (pc := 24) (tgt := 256) dX12_does_24 (by decide) (by rw [h16]; decide) (pj_iconst hM (pc := 256) dX12_does_256 (by decide) (pj_ret hM (pc := 257) dX12_does_257 ⟨_, rfl, Or.inr rfl⟩ (h0 ((1, w)) hr) rfl)))
  refine pj_tif (fun h17 => ?_) (fun h17 => ?_)
  · exact pj_tret (fun hr => pj_table hM (pc := 24) (tgt := 256) dX12_does_24 (by decide) (by rw [h17]; decide) (pj_iconst hM (pc := 256) dX12_does_256 (by decide) (pj_ret hM (pc := 257) dX12_does_257 ⟨_, rfl, Or.inr rfl⟩ (h0 ((1, w)) hr) rfl)))
  refine pj_tif (fun h18 => ?_) (fun h18 => ?_)
  · exact pj_tret (fun hr => pj_table hM (pc := 24) (tgt := 256) dX12_does_24 (by decide) (by rw [h18]; decide) (pj_iconst hM (pc := 256) dX12_does_256 (by decide) (pj_ret hM (pc := 257) dX12_does_257 ⟨_, rfl, Or.inr rfl⟩ (h0 ((1, w)) hr) rfl)))
  refine pj_tif (fun h19 => ?_) (fun h19 => ?_)
  · exact pj_tret (fun hr => pj_table hM (pc := 24) (tgt := 256) dX12_does_24 (by decide) (by rw [h19]; decide) (pj_iconst hM (pc := 256) dX12_does_256 (by decide) (pj_ret hM (pc := 257) dX12_does_257 ⟨_, rfl, Or.inr rfl⟩ (h0 ((1, w)) hr) rfl)))
  refine pj_tif (fun h20 => ?_) (fun h20 => ?_)
  · exact pj_tret (fun hr => pj_table hM (pc := 24) (tgt := 256) dX12_does_24 (by decide) (by rw [h20]; decide) (pj_iconst hM (pc := 256) dX12_does_256 (by decide) (pj_ret hM (pc := 257) dX12_does_257 ⟨_, rfl, Or.inr rfl⟩ (h0 ((1, w)) hr) rfl)))
  refine pj_tif (fun h21 => ?_) (fun h21 => ?_)
  · exact pj_tret (fun hr => pj_table hM (pc := 24) (tgt := 256) dX12_does_24 (by decide) (by rw [h21]; decide) (pj_iconst hM (pc := 256) dX12_does_256 (by decide) (pj_ret hM (pc := 257) dX12_does_257 ⟨_, rfl, Or.inr rfl⟩ (h0 ((1, w)) hr) rfl)))
  refine pj_tif (fun h22 => ?_) (fun h22 => ?_)
  · exact pj_tret (fun hr => pj_table hM (pc := 24) (tgt := 256) dX12_does_24 (by decide) (by rw [h22]; decide) (pj_iconst hM (pc := 256) dX12_does_256 (by decide) (pj_ret hM (pc := 257) dX12_does_257 ⟨_, rfl, Or.inr rfl⟩ (h0 ((1, w)) hr) rfl)))
  refine pj_tif (fun h23 => ?_) (fun h23 => ?_)
  · exact pj_tret (fun hr => pj_table hM (pc := 24) (tgt := 256) dX12_does_24 (by decide) (by rw [h23]; decide) (pj_iconst hM (pc := 256) dX12_does_256 (by decide) (pj_ret hM (pc := 257) dX12_does_257 ⟨_, rfl, Or.inr rfl⟩ (h0 ((1, w)) hr) rfl)))
  refine pj_tif (fun h24 => ?_) (fun h24 => ?_)
  · exact pj_tret (fun hr => pj_table hM (pc := 24) (tgt := 256) dX12_does_24 (by decide) (by rw [h24]; decide) (pj_iconst hM (pc := 256) dX12_does_256 (by decide) (pj_ret hM (pc := 257) dX12_does_257 ⟨_, rfl, Or.inr rfl⟩ (h0 ((1, w)) hr) rfl)))
  refine pj_tif (fun h25 => ?_) (fun h25 => ?_)
  · exact pj_tret (fun hr => pj_table hM (pc := 24) (tgt := 256) dX12_does_24 (by decide) (by rw [h25]; decide) (pj_iconst hM (pc := 256) dX12_does_256 (by decide) (pj_ret hM (pc := 257) dX12_does_257 ⟨_, rfl, Or.inr rfl⟩ (h0 ((1, w)) hr) rfl)))
  refine pj_tif (fun h26 => ?_) (fun h26 => ?_)
  · exact pj_tret (fun hr => pj_table hM (pc := 24) (tgt := 256) dX12_does_24 (by decide) (by rw [h26]; decide) (pj_iconst hM (pc := 256) dX12_does_256 (by decide) (pj_ret hM (pc := 257) dX12_does_257 ⟨_, rfl, Or.inr rfl⟩ (h0 ((1, w)) hr) rfl)))
  refine pj_tif (fun h27 => ?_) (fun h27 => ?_)
  · refine pj_tbind (fun p28 h29 => ?_)
    refine pj_tgd (fun h30 => ?_)
    exact pj_tret (fun hr => pj_table hM (pc := 24) (tgt := 132) dX12_does_24 (by decide) (by rw [h27]; decide) (pj_aload_n hM (pc := 132) dX12_does_132 rfl rfl (pj_iload_n hM (pc := 133) dX12_does_133 rfl (pj_iload_n hM (pc := 134) dX12_does_134 rfl (pj_cV hM (pc := 135) (cM_went (w 60 0 (pj_wr (x1 + 1))) (w 60 0 (pj_wr (x1 + 2))) w p28 h29) dX12_does_135 mf_X12_went mv_X12_went ml_X12_293 kc_26 rfl rfl (by decide) rfl rfl (pj_ret hM (pc := 138) dX12_does_138 ⟨_, rfl, h30⟩ (h0 ((p28.1, p28.2)) hr) rfl))))))
  refine pj_tif (fun h31 => ?_) (fun h31 => ?_)
  · refine pj_tbind (fun p32 h33 => ?_)
    refine pj_map (fun k => pj_table hM (pc := 24) (tgt := 146) dX12_does_24 (by decide) (by rw [h31]; decide) (pj_aload_n hM (pc := 146) dX12_does_146 rfl rfl (pj_iload_n hM (pc := 147) dX12_does_147 rfl (pj_iload_n hM (pc := 148) dX12_does_148 rfl (pj_cV hM (pc := 149) (cM_wrongSet (w 60 0 (pj_wr (x1 + 1))) (w 60 0 (pj_wr (x1 + 2))) w p32 h33) dX12_does_149 mf_X12_wrongSet mv_X12_wrongSet ml_X12_301 kc_26 rfl rfl (by decide) rfl rfl k))))) ?_
    refine pj_tif (fun h34 => ?_) (fun h34 => ?_)
    · refine pj_tbind (fun p35 h36 => ?_)
      exact pj_tret (fun hr => pj_if_le_t hM (pc := 152) dX12_does_152 rfl h34 (pj_aload_n hM (pc := 157) dX12_does_157 rfl rfl (pj_iload_n hM (pc := 158) dX12_does_158 rfl (pj_iload_n hM (pc := 159) dX12_does_159 rfl (pj_cVv hM (pc := 160) (cM_sets (w 60 0 (pj_wr (x1 + 1))) (w 60 0 (pj_wr (x1 + 2))) w p35 h36) dX12_does_160 mf_X12_sets mv_X12_sets ml_X12_304 kc_26 rfl rfl (by decide) rfl rfl (pj_iconst hM (pc := 163) dX12_does_163 (by decide) (pj_ret hM (pc := 164) dX12_does_164 ⟨_, rfl, Or.inr rfl⟩ (h0 ((1, p35)) hr) rfl)))))))
    exact pj_tret (fun hr => pj_if_le_f hM (pc := 152) 157 dX12_does_152 rfl h34 (pj_iconst hM (pc := 155) dX12_does_155 (by decide) (pj_ret hM (pc := 156) dX12_does_156 ⟨_, rfl, Or.inl rfl⟩ (h0 ((0, w)) hr) rfl)))
  refine pj_tif (fun h37 => ?_) (fun h37 => ?_)
  · refine pj_tbind (fun p38 h39 => ?_)
    refine pj_tgd (fun h40 => ?_)
    exact pj_tret (fun hr => pj_table hM (pc := 24) (tgt := 139) dX12_does_24 (by decide) (by rw [h37]; decide) (pj_aload_n hM (pc := 139) dX12_does_139 rfl rfl (pj_iload_n hM (pc := 140) dX12_does_140 rfl (pj_iload_n hM (pc := 141) dX12_does_141 rfl (pj_cV hM (pc := 142) (cM_waited (w 60 0 (pj_wr (x1 + 1))) (w 60 0 (pj_wr (x1 + 2))) w p38 h39) dX12_does_142 mf_X12_waited mv_X12_waited ml_X12_298 kc_26 rfl rfl (by decide) rfl rfl (pj_ret hM (pc := 145) dX12_does_145 ⟨_, rfl, h40⟩ (h0 ((p38.1, p38.2)) hr) rfl))))))
  refine pj_tif (fun h41 => ?_) (fun h41 => ?_)
  · refine pj_tbind (fun p42 h43 => ?_)
    refine pj_map (fun k => pj_table hM (pc := 24) (tgt := 165) dX12_does_24 (by decide) (by rw [h41]; decide) (pj_aload_n hM (pc := 165) dX12_does_165 rfl rfl (pj_iload_n hM (pc := 166) dX12_does_166 rfl (pj_iload_n hM (pc := 167) dX12_does_167 rfl (pj_cV hM (pc := 168) (cM_wrongLift (w 60 0 (pj_wr (x1 + 1))) (w 60 0 (pj_wr (x1 + 2))) w p42 h43) dX12_does_168 mf_X12_wrongLift mv_X12_wrongLift ml_X12_320 kc_26 rfl rfl (by decide) rfl rfl k))))) ?_
    refine pj_tif (fun h44 => ?_) (fun h44 => ?_)
    · refine pj_tbind (fun p45 h46 => ?_)
      refine pj_map (fun k => pj_if_ne_f hM (pc := 171) 187 dX12_does_171 rfl (fun q => q h44) (pj_aload_n hM (pc := 174) dX12_does_174 rfl rfl (pj_iload_n hM (pc := 175) dX12_does_175 rfl (pj_iload_n hM (pc := 176) dX12_does_176 rfl (pj_cV hM (pc := 177) (cM_lifts (w 60 0 (pj_wr (x1 + 1))) (w 60 0 (pj_wr (x1 + 2))) w p45 h46) dX12_does_177 mf_X12_lifts mv_X12_lifts ml_X12_323 kc_26 rfl rfl (by decide) rfl rfl k))))) ?_
      refine pj_tif (fun h47 => ?_) (fun h47 => ?_)
      · exact pj_tret (fun hr => pj_if_lt_t hM (pc := 180) dX12_does_180 rfl h47 (pj_iconst hM (pc := 187) dX12_does_187 (by decide) (pj_ret hM (pc := 188) dX12_does_188 ⟨_, rfl, Or.inl rfl⟩ (h0 ((0, p45.2)) hr) rfl)))
      exact pj_tret (fun hr => pj_if_lt_f hM (pc := 180) 187 dX12_does_180 rfl h47 (pj_iconst hM (pc := 183) dX12_does_183 (by decide) (pj_goto hM (pc := 184) dX12_does_184 rfl (pj_ret hM (pc := 188) dX12_does_188 ⟨_, rfl, Or.inr rfl⟩ (h0 ((1, p45.2)) hr) rfl))))
    exact pj_tret (fun hr => pj_if_ne_t hM (pc := 171) dX12_does_171 rfl h44 (pj_iconst hM (pc := 187) dX12_does_187 (by decide) (pj_ret hM (pc := 188) dX12_does_188 ⟨_, rfl, Or.inl rfl⟩ (h0 ((0, w)) hr) rfl)))
  refine pj_tif (fun h48 => ?_) (fun h48 => ?_)
  · refine pj_tbind (fun p49 h50 => ?_)
    exact pj_tret (fun hr => pj_table hM (pc := 24) (tgt := 189) dX12_does_24 (by decide) (by rw [h48]; decide) (pj_aload_n hM (pc := 189) dX12_does_189 rfl rfl (pj_iload_n hM (pc := 190) dX12_does_190 rfl (pj_cVv hM (pc := 191) (cM_gullComes (w 60 0 (pj_wr (x1 + 1))) w p49 h50) dX12_does_191 mf_X12_gullComes mv_X12_gullComes ml_X12_426 kc_26 rfl rfl (by decide) rfl rfl (pj_iconst hM (pc := 194) dX12_does_194 (by decide) (pj_ret hM (pc := 195) dX12_does_195 ⟨_, rfl, Or.inr rfl⟩ (h0 ((1, p49)) hr) rfl))))))
  refine pj_tif (fun h51 => ?_) (fun h51 => ?_)
  · refine pj_tbind (fun p52 h53 => ?_)
    exact pj_tret (fun hr => pj_table hM (pc := 24) (tgt := 196) dX12_does_24 (by decide) (by rw [h51]; decide) (pj_aload_n hM (pc := 196) dX12_does_196 rfl rfl (pj_getF hM (pc := 197) (t := 73) dX12_does_197 fl_X12_62 (by decide) rfl rfl (pj_iconst hM (pc := 200) dX12_does_200 (by decide) (pj_dup2 hM (pc := 201) dX12_does_201 (by decide) (by decide) (pj_ial hM (pc := 202) dX12_does_202 ki_73 (by decide) (by decide) (pj_aload_n hM (pc := 203) dX12_does_203 rfl rfl (pj_iload_n hM (pc := 204) dX12_does_204 rfl (pj_cV hM (pc := 205) (cM_washes (w 60 0 (pj_wr (x1 + 1))) w p52 h53) dX12_does_205 mf_X12_washes mv_X12_washes ml_X12_334 kc_26 rfl rfl (by decide) rfl rfl (pj_iadd hM (pc := 208) dX12_does_208 (pj_ias hM (pc := 209) dX12_does_209 ki_73 (by decide) (by decide) (pj_iconst hM (pc := 210) dX12_does_210 (by decide) (pj_ret hM (pc := 211) dX12_does_211 ⟨_, rfl, Or.inr rfl⟩ (h0 ((1, (pj_set p52.2 73 0 2 (pj_wr ((w 73 0 2) + p52.1))))) hr) rfl)))))))))))))
  exact pj_tret (fun hr => pj_table hM (pc := 24) (tgt := 256) dX12_does_24 (by decide) (by have e9 : (w 60 0 x1) < 1 ∨ 23 < (w 60 0 x1) := (by omega); unfold pj_tab; rw [if_pos e9]; decide) (pj_iconst hM (pc := 256) dX12_does_256 (by decide) (pj_ret hM (pc := 257) dX12_does_257 ⟨_, rfl, Or.inr rfl⟩ (h0 ((1, w)) hr) rfl)))
theorem cM_does (x1 : Int)  (w : pj_W) (r : Int × pj_W) (h : fM_does x1 w = some r) : pj_Cn l yX12_does cX12_does 4 (some .boolean) 5 114 true g [(26, 0), (0, x1)] w ((some (0, r.1) : Option pj_V), r.2) :=
  pj_Cn_of rfl (Nat.le_of_ble_eq_true rfl) (lls := [(26, 0), (0, x1), (9, 0), (9, 0)]) rfl (fun Go hM => tM_does hM x1 w (fun x => ((some (0, x.1) : Option pj_V), x.2) = ((some (0, r.1) : Option pj_V), r.2)) (fun r h => h) r h rfl)
noncomputable def fM_holds (x1 : Int) (w : pj_W) : Option (Int) :=
  if 0 ≤ x1 ∧ x1 < 8400 then (if 0 ≤ (pj_wr (x1 + 1)) ∧ (pj_wr (x1 + 1)) < 8400 then (if 0 ≤ (pj_wr (x1 + 2)) ∧ (pj_wr (x1 + 2)) < 8400 then (if (pj_wr ((w 60 0 x1) - 2400)) = 29 then ((fM_isThere (w 60 0 (pj_wr (x1 + 1))) w).bind fun p5 => (if p5 = 0 then (some (0)) else ((fM_manyOn (w 60 0 (pj_wr (x1 + 1))) w).bind fun p8 => (if p8 = 0 then (some (1)) else (some (0)))))) else (if (pj_wr ((w 60 0 x1) - 2400)) = 15 then ((fM_lastOn (w 60 0 (pj_wr (x1 + 2))) w).bind fun p12 => (if (pj_and (pj_shr p12 (w 60 0 (pj_wr (x1 + 1)))) 1) = 1 then (some (1)) else (some (0)))) else ((fM_leadOf (w 60 0 (pj_wr (x1 + 1))) w).bind fun p15 => (if 0 ≤ (pj_wr (x1 + 5)) ∧ (pj_wr (x1 + 5)) < 8400 then (if (w 60 0 (pj_wr (x1 + 5))) = 60 then (if (w 60 0 (pj_wr (x1 + 2))) ≤ p15 then (some (0)) else (some (1))) else (if (w 60 0 (pj_wr (x1 + 5))) = 62 then (if p15 ≤ (w 60 0 (pj_wr (x1 + 2))) then (some (0)) else (some (1))) else (if p15 = (w 60 0 (pj_wr (x1 + 2))) then (some (1)) else (some (0))))) else none)))) else none) else none) else none
theorem tM_holds {Go : pj_C → Prop} (hM : pj_M l yX12_holds cX12_holds 6 (some .boolean) 6 137 true g n0 o Go) (x1 : Int) (w : pj_W)  (R : Int → Prop) (h0 : ∀ r, R (r) → ((some (0, r) : Option pj_V), w) = o) : pj_TG R (fM_holds x1 w) (Go (0, [(26, 0), (0, x1), (9, 0), (9, 0), (9, 0), (9, 0)], [], w)) := by
  unfold fM_holds
  refine pj_tgd (fun h1 => ?_)
  refine pj_tgd (fun h2 => ?_)
  refine pj_tgd (fun h3 => ?_)
  refine pj_map (fun k => pj_aload_n hM (pc := 0) dX12_holds_0 rfl rfl (pj_getF hM (pc := 1) (t := 60) dX12_holds_1 fl_X12_7 (by decide) rfl rfl (pj_iload_n hM (pc := 4) dX12_holds_4 rfl (pj_ial hM (pc := 5) dX12_holds_5 ki_60 (by decide) h1 (pj_sipush hM (pc := 6) dX12_holds_6 (by decide) (pj_isub hM (pc := 9) dX12_holds_9 (pj_istore_n hM (pc := 10) dX12_holds_10 (by decide) (lls' := [(26, 0), (0, x1), (0, (pj_wr ((w 60 0 x1) - 2400))), (9, 0), (9, 0), (9, 0)]) rfl (pj_aload_n hM (pc := 11) dX12_holds_11 rfl rfl (pj_getF hM (pc := 12) (t := 60) dX12_holds_12 fl_X12_7 (by decide) rfl rfl (pj_iload_n hM (pc := 15) dX12_holds_15 rfl (pj_iconst hM (pc := 16) dX12_holds_16 (by decide) (pj_iadd hM (pc := 17) dX12_holds_17 (pj_ial hM (pc := 18) dX12_holds_18 ki_60 (by decide) h2 (pj_istore_n hM (pc := 19) dX12_holds_19 (by decide) (lls' := [(26, 0), (0, x1), (0, (pj_wr ((w 60 0 x1) - 2400))), (0, (w 60 0 (pj_wr (x1 + 1)))), (9, 0), (9, 0)]) rfl (pj_aload_n hM (pc := 20) dX12_holds_20 rfl rfl (pj_getF hM (pc := 21) (t := 60) dX12_holds_21 fl_X12_7 (by decide) rfl rfl (pj_iload_n hM (pc := 24) dX12_holds_24 rfl (pj_iconst hM (pc := 25) dX12_holds_25 (by decide) (pj_iadd hM (pc := 26) dX12_holds_26 (pj_ial hM (pc := 27) dX12_holds_27 ki_60 (by decide) h3 (pj_istore hM (pc := 28) dX12_holds_28 (by decide) (lls' := [(26, 0), (0, x1), (0, (pj_wr ((w 60 0 x1) - 2400))), (0, (w 60 0 (pj_wr (x1 + 1)))), (0, (w 60 0 (pj_wr (x1 + 2)))), (9, 0)]) rfl (pj_iload_n hM (pc := 30) dX12_holds_30 rfl (pj_bipush hM (pc := 31) dX12_holds_31 (by decide) k))))))))))))))))))))))) ?_
  refine pj_tif (fun h4 => ?_) (fun h4 => ?_)
  · refine pj_tbind (fun p5 h6 => ?_)
    refine pj_map (fun k => pj_ic_ne_f hM (pc := 33) 58 dX12_holds_33 rfl (fun q => q h4) (pj_aload_n hM (pc := 36) dX12_holds_36 rfl rfl (pj_iload_n hM (pc := 37) dX12_holds_37 rfl (pj_cV hM (pc := 38) (cM_isThere (w 60 0 (pj_wr (x1 + 1))) w p5 h6) dX12_holds_38 mf_X12_isThere mv_X12_isThere ml_X12_268 kc_26 rfl rfl (by decide) rfl rfl k)))) ?_
    refine pj_tif (fun h7 => ?_) (fun h7 => ?_)
    · exact pj_tret (fun hr => pj_if_eq_t hM (pc := 41) dX12_holds_41 rfl h7 (pj_iconst hM (pc := 56) dX12_holds_56 (by decide) (pj_ret hM (pc := 57) dX12_holds_57 ⟨_, rfl, Or.inl rfl⟩ (h0 (0) hr) rfl)))
    refine pj_tbind (fun p8 h9 => ?_)
    refine pj_map (fun k => pj_if_eq_f hM (pc := 41) 56 dX12_holds_41 rfl h7 (pj_aload_n hM (pc := 44) dX12_holds_44 rfl rfl (pj_iload_n hM (pc := 45) dX12_holds_45 rfl (pj_cV hM (pc := 46) (cM_manyOn (w 60 0 (pj_wr (x1 + 1))) w p8 h9) dX12_holds_46 mf_X12_manyOn mv_X12_manyOn ml_X12_277 kc_26 rfl rfl (by decide) rfl rfl k)))) ?_
    refine pj_tif (fun h10 => ?_) (fun h10 => ?_)
    · exact pj_tret (fun hr => pj_if_ne_f hM (pc := 49) 56 dX12_holds_49 rfl (fun q => q h10) (pj_iconst hM (pc := 52) dX12_holds_52 (by decide) (pj_goto hM (pc := 53) dX12_holds_53 rfl (pj_ret hM (pc := 57) dX12_holds_57 ⟨_, rfl, Or.inr rfl⟩ (h0 (1) hr) rfl))))
    exact pj_tret (fun hr => pj_if_ne_t hM (pc := 49) dX12_holds_49 rfl h10 (pj_iconst hM (pc := 56) dX12_holds_56 (by decide) (pj_ret hM (pc := 57) dX12_holds_57 ⟨_, rfl, Or.inl rfl⟩ (h0 (0) hr) rfl)))
  refine pj_map (fun k => pj_ic_ne_t hM (pc := 33) dX12_holds_33 rfl h4 (pj_iload_n hM (pc := 58) dX12_holds_58 rfl (pj_bipush hM (pc := 59) dX12_holds_59 (by decide) k))) ?_
  refine pj_tif (fun h11 => ?_) (fun h11 => ?_)
  · refine pj_tbind (fun p12 h13 => ?_)
    refine pj_map (fun k => pj_ic_ne_f hM (pc := 61) 84 dX12_holds_61 rfl (fun q => q h11) (pj_aload_n hM (pc := 64) dX12_holds_64 rfl rfl (pj_iload hM (pc := 65) dX12_holds_65 rfl (pj_cV hM (pc := 67) (cM_lastOn (w 60 0 (pj_wr (x1 + 2))) w p12 h13) dX12_holds_67 mf_X12_lastOn mv_X12_lastOn ml_X12_337 kc_26 rfl rfl (by decide) rfl rfl (pj_iload_n hM (pc := 70) dX12_holds_70 rfl (pj_ishr hM (pc := 71) dX12_holds_71 (pj_iconst hM (pc := 72) dX12_holds_72 (by decide) (pj_iand hM (pc := 73) dX12_holds_73 (pj_iconst hM (pc := 74) dX12_holds_74 (by decide) k))))))))) ?_
    refine pj_tif (fun h14 => ?_) (fun h14 => ?_)
    · exact pj_tret (fun hr => pj_ic_ne_f hM (pc := 75) 82 dX12_holds_75 rfl (fun q => q h14) (pj_iconst hM (pc := 78) dX12_holds_78 (by decide) (pj_goto hM (pc := 79) dX12_holds_79 rfl (pj_ret hM (pc := 83) dX12_holds_83 ⟨_, rfl, Or.inr rfl⟩ (h0 (1) hr) rfl))))
    exact pj_tret (fun hr => pj_ic_ne_t hM (pc := 75) dX12_holds_75 rfl h14 (pj_iconst hM (pc := 82) dX12_holds_82 (by decide) (pj_ret hM (pc := 83) dX12_holds_83 ⟨_, rfl, Or.inl rfl⟩ (h0 (0) hr) rfl)))
  refine pj_tbind (fun p15 h16 => ?_)
  refine pj_tgd (fun h17 => ?_)
  refine pj_map (fun k => pj_ic_ne_t hM (pc := 61) dX12_holds_61 rfl h11 (pj_aload_n hM (pc := 84) dX12_holds_84 rfl rfl (pj_iload_n hM (pc := 85) dX12_holds_85 rfl (pj_cV hM (pc := 86) (cM_leadOf (w 60 0 (pj_wr (x1 + 1))) w p15 h16) dX12_holds_86 mf_X12_leadOf mv_X12_leadOf ml_X12_352 kc_26 rfl rfl (by decide) rfl rfl (pj_istore hM (pc := 89) dX12_holds_89 (by decide) (lls' := [(26, 0), (0, x1), (0, (pj_wr ((w 60 0 x1) - 2400))), (0, (w 60 0 (pj_wr (x1 + 1)))), (0, (w 60 0 (pj_wr (x1 + 2)))), (0, p15)]) rfl (pj_aload_n hM (pc := 91) dX12_holds_91 rfl rfl (pj_getF hM (pc := 92) (t := 60) dX12_holds_92 fl_X12_7 (by decide) rfl rfl (pj_iload_n hM (pc := 95) dX12_holds_95 rfl (pj_iconst hM (pc := 96) dX12_holds_96 (by decide) (pj_iadd hM (pc := 97) dX12_holds_97 (pj_ial hM (pc := 98) dX12_holds_98 ki_60 (by decide) h17 (pj_bipush hM (pc := 99) dX12_holds_99 (by decide) k)))))))))))) ?_
  refine pj_tif (fun h18 => ?_) (fun h18 => ?_)
  · refine pj_map (fun k => pj_ic_ne_f hM (pc := 101) 119 dX12_holds_101 rfl (fun q => q h18) (pj_iload hM (pc := 104) dX12_holds_104 rfl (pj_iload hM (pc := 106) dX12_holds_106 rfl k))) ?_
    refine pj_tif (fun h19 => ?_) (fun h19 => ?_)
    · exact pj_tret (fun hr => pj_ic_ge_t hM (pc := 108) dX12_holds_108 rfl h19 (pj_iconst hM (pc := 115) dX12_holds_115 (by decide) (pj_goto hM (pc := 116) dX12_holds_116 rfl (pj_ret hM (pc := 159) dX12_holds_159 ⟨_, rfl, Or.inl rfl⟩ (h0 (0) hr) rfl))))
    exact pj_tret (fun hr => pj_ic_ge_f hM (pc := 108) 115 dX12_holds_108 rfl h19 (pj_iconst hM (pc := 111) dX12_holds_111 (by decide) (pj_goto hM (pc := 112) dX12_holds_112 rfl (pj_ret hM (pc := 159) dX12_holds_159 ⟨_, rfl, Or.inr rfl⟩ (h0 (1) hr) rfl))))
  refine pj_map (fun k => pj_ic_ne_t hM (pc := 101) dX12_holds_101 rfl h18 (pj_aload_n hM (pc := 119) dX12_holds_119 rfl rfl (pj_getF hM (pc := 120) (t := 60) dX12_holds_120 fl_X12_7 (by decide) rfl rfl (pj_iload_n hM (pc := 123) dX12_holds_123 rfl (pj_iconst hM (pc := 124) dX12_holds_124 (by decide) (pj_iadd hM (pc := 125) dX12_holds_125 (pj_ial hM (pc := 126) dX12_holds_126 ki_60 (by decide) h17 (pj_bipush hM (pc := 127) dX12_holds_127 (by decide) k)))))))) ?_
  refine pj_tif (fun h20 => ?_) (fun h20 => ?_)
  · refine pj_map (fun k => pj_ic_ne_f hM (pc := 129) 147 dX12_holds_129 rfl (fun q => q h20) (pj_iload hM (pc := 132) dX12_holds_132 rfl (pj_iload hM (pc := 134) dX12_holds_134 rfl k))) ?_
    refine pj_tif (fun h21 => ?_) (fun h21 => ?_)
    · exact pj_tret (fun hr => pj_ic_le_t hM (pc := 136) dX12_holds_136 rfl h21 (pj_iconst hM (pc := 143) dX12_holds_143 (by decide) (pj_goto hM (pc := 144) dX12_holds_144 rfl (pj_ret hM (pc := 159) dX12_holds_159 ⟨_, rfl, Or.inl rfl⟩ (h0 (0) hr) rfl))))
    exact pj_tret (fun hr => pj_ic_le_f hM (pc := 136) 143 dX12_holds_136 rfl h21 (pj_iconst hM (pc := 139) dX12_holds_139 (by decide) (pj_goto hM (pc := 140) dX12_holds_140 rfl (pj_ret hM (pc := 159) dX12_holds_159 ⟨_, rfl, Or.inr rfl⟩ (h0 (1) hr) rfl))))
  refine pj_map (fun k => pj_ic_ne_t hM (pc := 129) dX12_holds_129 rfl h20 (pj_iload hM (pc := 147) dX12_holds_147 rfl (pj_iload hM (pc := 149) dX12_holds_149 rfl k))) ?_
  refine pj_tif (fun h22 => ?_) (fun h22 => ?_)
  · exact pj_tret (fun hr => pj_ic_ne_f hM (pc := 151) 158 dX12_holds_151 rfl (fun q => q h22) (pj_iconst hM (pc := 154) dX12_holds_154 (by decide) (pj_goto hM (pc := 155) dX12_holds_155 rfl (pj_ret hM (pc := 159) dX12_holds_159 ⟨_, rfl, Or.inr rfl⟩ (h0 (1) hr) rfl))))
  exact pj_tret (fun hr => pj_ic_ne_t hM (pc := 151) dX12_holds_151 rfl h22 (pj_iconst hM (pc := 158) dX12_holds_158 (by decide) (pj_ret hM (pc := 159) dX12_holds_159 ⟨_, rfl, Or.inl rfl⟩ (h0 (0) hr) rfl)))
theorem cM_holds (x1 : Int)  (w : pj_W) (r : Int) (h : fM_holds x1 w = some r) : pj_Cn l yX12_holds cX12_holds 6 (some .boolean) 6 137 true g [(26, 0), (0, x1)] w ((some (0, r) : Option pj_V), w) :=
  pj_Cn_of rfl (Nat.le_of_ble_eq_true rfl) (lls := [(26, 0), (0, x1), (9, 0), (9, 0), (9, 0), (9, 0)]) rfl (fun Go hM => tM_holds hM x1 w (fun x => ((some (0, x) : Option pj_V), w) = ((some (0, r) : Option pj_V), w)) (fun r h => h) r h rfl)
noncomputable def fM_lives_178 (s1 : Int) (w : pj_W) : Option ((Int × pj_W) ⊕ (pj_W)) :=
  (fM_behindEnds s1 w).bind fun p1 => (some (Sum.inl (p1.1, p1.2)))
noncomputable def fM_lives_175 (x2 : Int) (w : pj_W) : Option ((Int × pj_W) ⊕ (pj_W)) :=
  fM_lives_178 (pj_wr (x2 + 1)) w
noncomputable def fM_lives_141 (x2 : Int) (x3 : Int) (w : pj_W) : Option ((Int × pj_W) ⊕ (pj_W)) :=
  if 0 ≤ x3 ∧ x3 < 8400 then (if (w 60 0 x3) < 2400 then (fM_lives_175 x2 w) else ((fM_holds x3 w).bind fun p3 => (if p3 = 0 then (if 0 ≤ (pj_wr (x3 + 4)) ∧ (pj_wr (x3 + 4)) < 8400 then (fM_lives_178 (pj_wr ((w 60 0 (pj_wr (x3 + 4))) + 1)) w) else none) else (fM_lives_175 x2 w)))) else none
noncomputable def fM_lives_112 (x2 : Int) (x3 : Int) (s1 : Int) (s2 : Int) (s3 : Int) (w : pj_W) : Option ((Int × pj_W) ⊕ (pj_W)) :=
  if 0 ≤ s1 ∧ s1 < 5 then (if 0 ≤ x3 ∧ x3 < 8400 then (if ((pj_set w 73 0 s1 (pj_wr (s2 + s3))) 60 0 x3) = 25 then (if 0 ≤ (pj_wr (x3 + 1)) ∧ (pj_wr (x3 + 1)) < 8400 then (if 0 ≤ x2 ∧ x2 < 80 then ((some (pj_set (pj_set w 73 0 s1 (pj_wr (s2 + s3))) 72 0 x2 (pj_wr (((pj_set w 73 0 s1 (pj_wr (s2 + s3))) 60 0 (pj_wr (x3 + 1))) - 1)))).bind fun w6 => (fM_lives_141 x2 x3 w6)) else none) else none) else (fM_lives_141 x2 x3 (pj_set w 73 0 s1 (pj_wr (s2 + s3))))) else none) else none
noncomputable def fM_lives_32b  (x2 : Int) (w : pj_W) : Option ((Int × pj_W) ⊕ (pj_W)) :=
  if (w 60 0 9) ≤ x2 then (some (Sum.inr (w))) else (if (w 26 0 32) = 300 then (some (Sum.inr ((pj_set w 73 0 4 1)))) else (if 0 ≤ (pj_wr (1030 + (pj_wr (6 * x2)))) ∧ (pj_wr (1030 + (pj_wr (6 * x2)))) < 8400 then (if ((pj_set w 26 0 32 (pj_wr ((w 26 0 32) + 1))) 60 0 (pj_wr (1030 + (pj_wr (6 * x2))))) = 27 then (some (Sum.inr ((pj_set w 26 0 32 (pj_wr ((w 26 0 32) + 1)))))) else ((fM_does (pj_wr (1030 + (pj_wr (6 * x2)))) (pj_set w 26 0 32 (pj_wr ((w 26 0 32) + 1)))).bind fun p5 => (fM_lives_112 x2 (pj_wr (1030 + (pj_wr (6 * x2)))) 0 ((pj_set w 26 0 32 (pj_wr ((w 26 0 32) + 1))) 73 0 0) (if p5.1 = 0 then (1 : Int) else 0) p5.2))) else none))
noncomputable def fM_lives_32  (s : (Int × pj_W)) : Option (pj_W) := pj_Lp (fun s : (Int × pj_W) => fM_lives_32b  s.1 s.2) s
noncomputable def fM_lives_12b  (x2 : Int) (w : pj_W) : Option ((Int × pj_W) ⊕ (pj_W)) :=
  if 5 ≤ x2 then ((fM_lives_32 (0, w)).map Sum.inr) else (if 0 ≤ x2 ∧ x2 < 5 then (some (Sum.inl ((pj_wr (x2 + 1)), (pj_set w 73 0 x2 0)))) else none)
noncomputable def fM_lives_12  (s : (Int × pj_W)) : Option (pj_W) := pj_Lp (fun s : (Int × pj_W) => fM_lives_12b  s.1 s.2) s
noncomputable def fM_lives (x1 : Int) (w : pj_W) : Option (pj_W) :=
  fM_lives_12 (0, (pj_set (pj_set w 26 0 31 x1) 26 0 32 0))
theorem tM_lives_178 {Go : pj_C → Prop} (hM : pj_M l yX12_lives cX12_lives 4 none 7 162 true g n0 o Go) (s1 : Int) (w : pj_W)  (R : (Int × pj_W) ⊕ (pj_W) → Prop) (h0 : ∀ r, R (Sum.inr (r)) → ((none : Option pj_V), r) = o) (hk32 : ∀ s, R (Sum.inl s) → Go (32, [(26, 0), (9, 0), (0, s.1), (9, 0)], [], s.2)) : pj_TG R (fM_lives_178 s1 w) (Go (178, [(26, 0), (9, 0), (9, 0), (9, 0)], [(0, s1), (26, 0)], w)) := by
  unfold fM_lives_178
  refine pj_tbind (fun p1 h2 => ?_)
  exact pj_tret (fun hr => pj_cV hM (pc := 178) (cM_behindEnds s1 w p1 h2) dX12_lives_178 mf_X12_behindEnds mv_X12_behindEnds ml_X12_438 kc_26 rfl rfl (by decide) rfl rfl (pj_istore_n hM (pc := 181) dX12_lives_181 (by decide) (lls' := [(26, 0), (9, 0), (0, p1.1), (9, 0)]) rfl (pj_goto hM (pc := 182) dX12_lives_182 rfl (pj_kill hM [true, false, true, false] (lls' := [(26, 0), (9, 0), (0, p1.1), (9, 0)]) rfl ((hk32 _ hr))))))
theorem tM_lives_175 {Go : pj_C → Prop} (hM : pj_M l yX12_lives cX12_lives 4 none 7 162 true g n0 o Go) (x2 : Int) (w : pj_W)  (R : (Int × pj_W) ⊕ (pj_W) → Prop) (h0 : ∀ r, R (Sum.inr (r)) → ((none : Option pj_V), r) = o) (hk32 : ∀ s, R (Sum.inl s) → Go (32, [(26, 0), (9, 0), (0, s.1), (9, 0)], [], s.2)) : pj_TG R (fM_lives_175 x2 w) (Go (175, [(26, 0), (9, 0), (0, x2), (9, 0)], [(26, 0)], w)) := by
  unfold fM_lives_175
  refine pj_map (fun k => pj_iload_n hM (pc := 175) dX12_lives_175 rfl (pj_iconst hM (pc := 176) dX12_lives_176 (by decide) (pj_iadd hM (pc := 177) dX12_lives_177 (pj_kill hM [true, false, false, false] (lls' := [(26, 0), (9, 0), (9, 0), (9, 0)]) rfl k)))) ?_
  exact tM_lives_178 hM (pj_wr (x2 + 1)) w _ h0 hk32
theorem tM_lives_141 {Go : pj_C → Prop} (hM : pj_M l yX12_lives cX12_lives 4 none 7 162 true g n0 o Go) (x2 : Int) (x3 : Int) (w : pj_W)  (R : (Int × pj_W) ⊕ (pj_W) → Prop) (h0 : ∀ r, R (Sum.inr (r)) → ((none : Option pj_V), r) = o) (hk32 : ∀ s, R (Sum.inl s) → Go (32, [(26, 0), (9, 0), (0, s.1), (9, 0)], [], s.2)) : pj_TG R (fM_lives_141 x2 x3 w) (Go (141, [(26, 0), (9, 0), (0, x2), (0, x3)], [], w)) := by
  unfold fM_lives_141
  refine pj_tgd (fun h1 => ?_)
  refine pj_map (fun k => pj_aload_n hM (pc := 141) dX12_lives_141 rfl rfl (pj_aload_n hM (pc := 142) dX12_lives_142 rfl rfl (pj_getF hM (pc := 143) (t := 60) dX12_lives_143 fl_X12_7 (by decide) rfl rfl (pj_iload_n hM (pc := 146) dX12_lives_146 rfl (pj_ial hM (pc := 147) dX12_lives_147 ki_60 (by decide) h1 (pj_sipush hM (pc := 148) dX12_lives_148 (by decide) k)))))) ?_
  refine pj_tif (fun h2 => ?_) (fun h2 => ?_)
  · refine pj_map (fun k => pj_ic_lt_t hM (pc := 151) dX12_lives_151 rfl h2 (pj_kill hM [true, false, true, false] (lls' := [(26, 0), (9, 0), (0, x2), (9, 0)]) rfl k)) ?_
    exact tM_lives_175 hM x2 w _ h0 hk32
  refine pj_tbind (fun p3 h4 => ?_)
  refine pj_map (fun k => pj_ic_lt_f hM (pc := 151) 175 dX12_lives_151 rfl h2 (pj_aload_n hM (pc := 154) dX12_lives_154 rfl rfl (pj_iload_n hM (pc := 155) dX12_lives_155 rfl (pj_cV hM (pc := 156) (cM_holds x3 w p3 h4) dX12_lives_156 mf_X12_holds mv_X12_holds ml_X12_435 kc_26 rfl rfl (by decide) rfl rfl k)))) ?_
  refine pj_tif (fun h5 => ?_) (fun h5 => ?_)
  · refine pj_tgd (fun h6 => ?_)
    refine pj_map (fun k => pj_if_ne_f hM (pc := 159) 175 dX12_lives_159 rfl (fun q => q h5) (pj_aload_n hM (pc := 162) dX12_lives_162 rfl rfl (pj_getF hM (pc := 163) (t := 60) dX12_lives_163 fl_X12_7 (by decide) rfl rfl (pj_iload_n hM (pc := 166) dX12_lives_166 rfl (pj_iconst hM (pc := 167) dX12_lives_167 (by decide) (pj_iadd hM (pc := 168) dX12_lives_168 (pj_ial hM (pc := 169) dX12_lives_169 ki_60 (by decide) h6 (pj_iconst hM (pc := 170) dX12_lives_170 (by decide) (pj_iadd hM (pc := 171) dX12_lives_171 (pj_goto hM (pc := 172) dX12_lives_172 rfl (pj_kill hM [true, false, false, false] (lls' := [(26, 0), (9, 0), (9, 0), (9, 0)]) rfl k))))))))))) ?_
    exact tM_lives_178 hM (pj_wr ((w 60 0 (pj_wr (x3 + 4))) + 1)) w _ h0 hk32
  refine pj_map (fun k => pj_if_ne_t hM (pc := 159) dX12_lives_159 rfl h5 (pj_kill hM [true, false, true, false] (lls' := [(26, 0), (9, 0), (0, x2), (9, 0)]) rfl k)) ?_
  exact tM_lives_175 hM x2 w _ h0 hk32
theorem tM_lives_112 {Go : pj_C → Prop} (hM : pj_M l yX12_lives cX12_lives 4 none 7 162 true g n0 o Go) (x2 : Int) (x3 : Int) (s1 : Int) (s2 : Int) (s3 : Int) (w : pj_W)  (R : (Int × pj_W) ⊕ (pj_W) → Prop) (h0 : ∀ r, R (Sum.inr (r)) → ((none : Option pj_V), r) = o) (hk32 : ∀ s, R (Sum.inl s) → Go (32, [(26, 0), (9, 0), (0, s.1), (9, 0)], [], s.2)) : pj_TG R (fM_lives_112 x2 x3 s1 s2 s3 w) (Go (112, [(26, 0), (9, 0), (0, x2), (0, x3)], [(0, s3), (0, s2), (0, s1), (73, 0)], w)) := by
  unfold fM_lives_112
  refine pj_tgd (fun h1 => ?_)
  refine pj_tgd (fun h2 => ?_)
  refine pj_map (fun k => pj_iadd hM (pc := 112) dX12_lives_112 (pj_ias hM (pc := 113) dX12_lives_113 ki_73 (by decide) h1 (pj_aload_n hM (pc := 114) dX12_lives_114 rfl rfl (pj_getF hM (pc := 115) (t := 60) dX12_lives_115 fl_X12_7 (by decide) rfl rfl (pj_iload_n hM (pc := 118) dX12_lives_118 rfl (pj_ial hM (pc := 119) dX12_lives_119 ki_60 (by decide) h2 (pj_bipush hM (pc := 120) dX12_lives_120 (by decide) k))))))) ?_
  refine pj_tif (fun h3 => ?_) (fun h3 => ?_)
  · refine pj_tgd (fun h4 => ?_)
    refine pj_tgd (fun h5 => ?_)
    refine pj_map (fun k => pj_ic_ne_f hM (pc := 122) 141 dX12_lives_122 rfl (fun q => q h3) (pj_aload_n hM (pc := 125) dX12_lives_125 rfl rfl (pj_getF hM (pc := 126) (t := 72) dX12_lives_126 fl_X12_59 (by decide) rfl rfl (pj_iload_n hM (pc := 129) dX12_lives_129 rfl (pj_aload_n hM (pc := 130) dX12_lives_130 rfl rfl (pj_getF hM (pc := 131) (t := 60) dX12_lives_131 fl_X12_7 (by decide) rfl rfl (pj_iload_n hM (pc := 134) dX12_lives_134 rfl (pj_iconst hM (pc := 135) dX12_lives_135 (by decide) (pj_iadd hM (pc := 136) dX12_lives_136 (pj_ial hM (pc := 137) dX12_lives_137 ki_60 (by decide) h4 (pj_iconst hM (pc := 138) dX12_lives_138 (by decide) (pj_isub hM (pc := 139) dX12_lives_139 (pj_ias hM (pc := 140) dX12_lives_140 ki_72 (by decide) h5 k))))))))))))) ?_
    refine pj_tlet (fun w6 => Go (141, [(26, 0), (9, 0), (0, x2), (0, x3)], [], w6)) (fun w6 => ?_)
    refine pj_map (fun k => pj_kill hM [true, false, true, true] (lls' := [(26, 0), (9, 0), (0, x2), (0, x3)]) rfl k) ?_
    exact tM_lives_141 hM x2 x3 w6 _ h0 hk32
  refine pj_map (fun k => pj_ic_ne_t hM (pc := 122) dX12_lives_122 rfl h3 (pj_kill hM [true, false, true, true] (lls' := [(26, 0), (9, 0), (0, x2), (0, x3)]) rfl k)) ?_
  exact tM_lives_141 hM x2 x3 (pj_set w 73 0 s1 (pj_wr (s2 + s3))) _ h0 hk32
theorem tM_lives_32b {Go : pj_C → Prop} (hM : pj_M l yX12_lives cX12_lives 4 none 7 162 true g n0 o Go)  (x2 : Int) (w : pj_W)  (R : (Int × pj_W) ⊕ (pj_W) → Prop) (h0 : ∀ r, R (Sum.inr (r)) → ((none : Option pj_V), r) = o) (hk32 : ∀ s, R (Sum.inl s) → Go (32, [(26, 0), (9, 0), (0, s.1), (9, 0)], [], s.2)) : pj_TG R (fM_lives_32b  x2 w) (Go (32, [(26, 0), (9, 0), (0, x2), (9, 0)], [], w)) := by
  unfold fM_lives_32b
  refine pj_map (fun k => pj_iload_n hM (pc := 32) dX12_lives_32 rfl (pj_aload_n hM (pc := 33) dX12_lives_33 rfl rfl (pj_getF hM (pc := 34) (t := 60) dX12_lives_34 fl_X12_7 (by decide) rfl rfl (pj_bipush hM (pc := 37) dX12_lives_37 (by decide) (pj_ial hM (pc := 39) dX12_lives_39 ki_60 (by decide) (by decide) k))))) ?_
  refine pj_tif (fun h1 => ?_) (fun h1 => ?_)
  · exact pj_tret (fun hr => pj_ic_ge_t hM (pc := 40) dX12_lives_40 rfl h1 (pj_ret hM (pc := 185) dX12_lives_185 rfl (h0 (w) hr) rfl))
  refine pj_map (fun k => pj_ic_ge_f hM (pc := 40) 185 dX12_lives_40 rfl h1 (pj_aload_n hM (pc := 43) dX12_lives_43 rfl rfl (pj_gf hM (pc := 44) (t := 0) dX12_lives_44 fl_X12_429 (by decide) rfl 32 rfl (pj_sipush hM (pc := 47) dX12_lives_47 (by decide) k)))) ?_
  refine pj_tif (fun h2 => ?_) (fun h2 => ?_)
  · exact pj_tret (fun hr => pj_ic_ne_f hM (pc := 50) 61 dX12_lives_50 rfl (fun q => q h2) (pj_aload_n hM (pc := 53) dX12_lives_53 rfl rfl (pj_getF hM (pc := 54) (t := 73) dX12_lives_54 fl_X12_62 (by decide) rfl rfl (pj_iconst hM (pc := 57) dX12_lives_57 (by decide) (pj_iconst hM (pc := 58) dX12_lives_58 (by decide) (pj_ias hM (pc := 59) dX12_lives_59 ki_73 (by decide) (by decide) (pj_ret hM (pc := 60) dX12_lives_60 rfl (h0 ((pj_set w 73 0 4 1)) hr) rfl)))))))
  refine pj_tgd (fun h3 => ?_)
  refine pj_map (fun k => pj_ic_ne_t hM (pc := 50) dX12_lives_50 rfl h2 (pj_sipush hM (pc := 61) dX12_lives_61 (by decide) (pj_bipush hM (pc := 64) dX12_lives_64 (by decide) (pj_iload_n hM (pc := 66) dX12_lives_66 rfl (pj_imul hM (pc := 67) dX12_lives_67 (pj_iadd hM (pc := 68) dX12_lives_68 (pj_istore_n hM (pc := 69) dX12_lives_69 (by decide) (lls' := [(26, 0), (9, 0), (0, x2), (0, (pj_wr (1030 + (pj_wr (6 * x2)))))]) rfl (pj_aload_n hM (pc := 70) dX12_lives_70 rfl rfl (pj_dup hM (pc := 71) dX12_lives_71 (by decide) (pj_gf hM (pc := 72) (t := 0) dX12_lives_72 fl_X12_429 (by decide) rfl 32 rfl (pj_iconst hM (pc := 75) dX12_lives_75 (by decide) (pj_iadd hM (pc := 76) dX12_lives_76 (pj_pf hM (pc := 77) dX12_lives_77 fl_X12_429 (by decide) rfl (fun h => absurd h (by decide)) (by decide) (fun _ => rfl) 32 rfl (pj_aload_n hM (pc := 80) dX12_lives_80 rfl rfl (pj_getF hM (pc := 81) (t := 60) dX12_lives_81 fl_X12_7 (by decide) rfl rfl (pj_iload_n hM (pc := 84) dX12_lives_84 rfl (pj_ial hM (pc := 85) dX12_lives_85 ki_60 (by decide) h3 (pj_bipush hM (pc := 86) dX12_lives_86 (by decide) k)))))))))))))))))) ?_
  refine pj_tif (fun h4 => ?_) (fun h4 => ?_)
  · exact pj_tret (fun hr => pj_ic_ne_f hM (pc := 88) 92 dX12_lives_88 rfl (fun q => q h4) (pj_ret hM (pc := 91) dX12_lives_91 rfl (h0 ((pj_set w 26 0 32 (pj_wr ((w 26 0 32) + 1)))) hr) rfl))
  refine pj_tbind (fun p5 h6 => ?_)
  refine pj_map (fun k => pj_ic_ne_t hM (pc := 88) dX12_lives_88 rfl h4 (pj_aload_n hM (pc := 92) dX12_lives_92 rfl rfl (pj_getF hM (pc := 93) (t := 73) dX12_lives_93 fl_X12_62 (by decide) rfl rfl (pj_iconst hM (pc := 96) dX12_lives_96 (by decide) (pj_dup2 hM (pc := 97) dX12_lives_97 (by decide) (by decide) (pj_ial hM (pc := 98) dX12_lives_98 ki_73 (by decide) (by decide) (pj_aload_n hM (pc := 99) dX12_lives_99 rfl rfl (pj_iload_n hM (pc := 100) dX12_lives_100 rfl (pj_cV hM (pc := 101) (cM_does (pj_wr (1030 + (pj_wr (6 * x2)))) (pj_set w 26 0 32 (pj_wr ((w 26 0 32) + 1))) p5 h6) dX12_lives_101 mf_X12_does mv_X12_does ml_X12_432 kc_26 rfl rfl (by decide) rfl rfl k))))))))) ?_
  refine pj_tJ (fun v : Int => fM_lives_112 x2 (pj_wr (1030 + (pj_wr (6 * x2)))) 0 ((pj_set w 26 0 32 (pj_wr ((w 26 0 32) + 1))) 73 0 0) v p5.2) (fun h7 => ?_) (fun h7 => ?_)
  · refine pj_map (fun k => pj_if_eq_t hM (pc := 104) dX12_lives_104 rfl h7 (pj_iconst hM (pc := 111) dX12_lives_111 (by decide) (pj_kill hM [true, false, true, true] (lls' := [(26, 0), (9, 0), (0, x2), (0, (pj_wr (1030 + (pj_wr (6 * x2)))))]) rfl k))) ?_
    exact tM_lives_112 hM x2 (pj_wr (1030 + (pj_wr (6 * x2)))) 0 ((pj_set w 26 0 32 (pj_wr ((w 26 0 32) + 1))) 73 0 0) 1 p5.2 _ h0 hk32
  refine pj_map (fun k => pj_if_eq_f hM (pc := 104) 111 dX12_lives_104 rfl h7 (pj_iconst hM (pc := 107) dX12_lives_107 (by decide) (pj_goto hM (pc := 108) dX12_lives_108 rfl (pj_kill hM [true, false, true, true] (lls' := [(26, 0), (9, 0), (0, x2), (0, (pj_wr (1030 + (pj_wr (6 * x2)))))]) rfl k)))) ?_
  exact tM_lives_112 hM x2 (pj_wr (1030 + (pj_wr (6 * x2)))) 0 ((pj_set w 26 0 32 (pj_wr ((w 26 0 32) + 1))) 73 0 0) 0 p5.2 _ h0 hk32
theorem tM_lives_32 {Go : pj_C → Prop} (hM : pj_M l yX12_lives cX12_lives 4 none 7 162 true g n0 o Go)   (R : pj_W → Prop) (h0 : ∀ r, R (r) → ((none : Option pj_V), r) = o) (s : (Int × pj_W)) : pj_TG R (fM_lives_32  s) (Go (32, [(26, 0), (9, 0), (0, s.1), (9, 0)], [], s.2)) := by
  unfold fM_lives_32
  exact pj_tLp (G := fun s : (Int × pj_W) => Go (32, [(26, 0), (9, 0), (0, s.1), (9, 0)], [], s.2)) (fun s => tM_lives_32b hM  s.1 s.2  _ (fun r h => h0 r h)  (fun s h => h)) s
theorem tM_lives_12b {Go : pj_C → Prop} (hM : pj_M l yX12_lives cX12_lives 4 none 7 162 true g n0 o Go)  (x2 : Int) (w : pj_W)  (R : (Int × pj_W) ⊕ (pj_W) → Prop) (h0 : ∀ r, R (Sum.inr (r)) → ((none : Option pj_V), r) = o) (hk12 : ∀ s, R (Sum.inl s) → Go (12, [(26, 0), (9, 0), (0, s.1), (9, 0)], [], s.2)) : pj_TG R (fM_lives_12b  x2 w) (Go (12, [(26, 0), (9, 0), (0, x2), (9, 0)], [], w)) := by
  unfold fM_lives_12b
  refine pj_map (fun k => pj_iload_n hM (pc := 12) dX12_lives_12 rfl (pj_iconst hM (pc := 13) dX12_lives_13 (by decide) k)) ?_
  refine pj_tif (fun h1 => ?_) (fun h1 => ?_)
  · refine pj_tmap ?_
    refine pj_map (fun k => pj_ic_ge_t hM (pc := 14) dX12_lives_14 rfl h1 (pj_iconst hM (pc := 30) dX12_lives_30 (by decide) (pj_istore_n hM (pc := 31) dX12_lives_31 (by decide) (lls' := [(26, 0), (9, 0), (0, 0), (9, 0)]) rfl (pj_kill hM [true, false, true, false] (lls' := [(26, 0), (9, 0), (0, 0), (9, 0)]) rfl k)))) ?_
    exact tM_lives_32 hM _ h0 _
  refine pj_tgd (fun h2 => ?_)
  exact pj_tret (fun hr => pj_ic_ge_f hM (pc := 14) 30 dX12_lives_14 rfl h1 (pj_aload_n hM (pc := 17) dX12_lives_17 rfl rfl (pj_getF hM (pc := 18) (t := 73) dX12_lives_18 fl_X12_62 (by decide) rfl rfl (pj_iload_n hM (pc := 21) dX12_lives_21 rfl (pj_iconst hM (pc := 22) dX12_lives_22 (by decide) (pj_ias hM (pc := 23) dX12_lives_23 ki_73 (by decide) h2 (pj_iinc hM (pc := 24) dX12_lives_24 rfl (by decide) (lls' := [(26, 0), (9, 0), (0, (pj_wr (x2 + 1))), (9, 0)]) rfl (pj_goto hM (pc := 27) dX12_lives_27 rfl (pj_kill hM [true, false, true, false] (lls' := [(26, 0), (9, 0), (0, (pj_wr (x2 + 1))), (9, 0)]) rfl ((hk12 _ hr)))))))))))
theorem tM_lives_12 {Go : pj_C → Prop} (hM : pj_M l yX12_lives cX12_lives 4 none 7 162 true g n0 o Go)   (R : pj_W → Prop) (h0 : ∀ r, R (r) → ((none : Option pj_V), r) = o) (s : (Int × pj_W)) : pj_TG R (fM_lives_12  s) (Go (12, [(26, 0), (9, 0), (0, s.1), (9, 0)], [], s.2)) := by
  unfold fM_lives_12
  exact pj_tLp (G := fun s : (Int × pj_W) => Go (12, [(26, 0), (9, 0), (0, s.1), (9, 0)], [], s.2)) (fun s => tM_lives_12b hM  s.1 s.2  _ (fun r h => h0 r h)  (fun s h => h)) s
theorem tM_lives {Go : pj_C → Prop} (hM : pj_M l yX12_lives cX12_lives 4 none 7 162 true g n0 o Go) (x1 : Int) (w : pj_W)  (R : pj_W → Prop) (h0 : ∀ r, R (r) → ((none : Option pj_V), r) = o) : pj_TG R (fM_lives x1 w) (Go (0, [(26, 0), (0, x1), (9, 0), (9, 0)], [], w)) := by
  unfold fM_lives
  refine pj_map (fun k => pj_aload_n hM (pc := 0) dX12_lives_0 rfl rfl (pj_iload_n hM (pc := 1) dX12_lives_1 rfl (pj_pf hM (pc := 2) dX12_lives_2 fl_X12_419 (by decide) rfl (fun h => absurd h (by decide)) (by decide) (fun _ => rfl) 31 rfl (pj_aload_n hM (pc := 5) dX12_lives_5 rfl rfl (pj_iconst hM (pc := 6) dX12_lives_6 (by decide) (pj_pf hM (pc := 7) dX12_lives_7 fl_X12_429 (by decide) rfl (fun h => absurd h (by decide)) (by decide) (fun _ => rfl) 32 rfl (pj_iconst hM (pc := 10) dX12_lives_10 (by decide) (pj_istore_n hM (pc := 11) dX12_lives_11 (by decide) (lls' := [(26, 0), (0, x1), (0, 0), (9, 0)]) rfl (pj_kill hM [true, false, true, false] (lls' := [(26, 0), (9, 0), (0, 0), (9, 0)]) rfl k))))))))) ?_
  exact tM_lives_12 hM _ h0 _
theorem cM_lives (x1 : Int)  (w : pj_W) (r : pj_W) (h : fM_lives x1 w = some r) : pj_Cn l yX12_lives cX12_lives 4 none 7 162 true g [(26, 0), (0, x1)] w ((none : Option pj_V), r) :=
  pj_Cn_of rfl (Nat.le_of_ble_eq_true rfl) (lls := [(26, 0), (0, x1), (9, 0), (9, 0)]) rfl (fun Go hM => tM_lives hM x1 w (fun x => ((none : Option pj_V), x) = ((none : Option pj_V), r)) (fun r h => h) r h rfl)
noncomputable def fM_live_43b  (x2 : Int) (w : pj_W) : Option ((Int × pj_W) ⊕ (Int × pj_W)) :=
  if 5 ≤ x2 then ((fM_gives ((pj_set w 26 0 36 1) 26 0 32) (pj_set w 26 0 36 1)).bind fun p2 => (some (Sum.inr ((p2.1, p2.2))))) else (if 0 ≤ x2 ∧ x2 < 5 then (some (Sum.inl ((pj_wr (x2 + 1)), (pj_set w 74 0 x2 (w 73 0 x2))))) else none)
noncomputable def fM_live_43  (s : (Int × pj_W)) : Option (Int × pj_W) := pj_Lp (fun s : (Int × pj_W) => fM_live_43b  s.1 s.2) s
noncomputable def fM_live (x1 : Int) (w : pj_W) : Option (Int × pj_W) :=
  (fM_isFrom x1 0 9999 w).bind fun p1 => (if p1 = 0 then ((fM_refuse 1 w).bind fun p4 => (some ((p4.1, p4.2)))) else (if (w 60 0 9) = (-1) then ((fM_refuse 6 w).bind fun p7 => (some ((p7.1, p7.2)))) else ((fM_lives x1 w).bind fun p9 => (fM_live_43 (0, p9)))))
theorem tM_live_43b {Go : pj_C → Prop} (hM : pj_M l yX12_live cX12_live 3 (some .int) 8 185 true g n0 o Go)  (x2 : Int) (w : pj_W)  (R : (Int × pj_W) ⊕ (Int × pj_W) → Prop) (h0 : ∀ r, R (Sum.inr (r)) → ((some (0, r.1) : Option pj_V), r.2) = o) (hk43 : ∀ s, R (Sum.inl s) → Go (43, [(26, 0), (9, 0), (0, s.1)], [], s.2)) : pj_TG R (fM_live_43b  x2 w) (Go (43, [(26, 0), (9, 0), (0, x2)], [], w)) := by
  unfold fM_live_43b
  refine pj_map (fun k => pj_iload_n hM (pc := 43) dX12_live_43 rfl (pj_iconst hM (pc := 44) dX12_live_44 (by decide) k)) ?_
  refine pj_tif (fun h1 => ?_) (fun h1 => ?_)
  · refine pj_tbind (fun p2 h3 => ?_)
    exact pj_tret (fun hr => pj_ic_ge_t hM (pc := 45) dX12_live_45 rfl h1 (pj_aload_n hM (pc := 66) dX12_live_66 rfl rfl (pj_iconst hM (pc := 67) dX12_live_67 (by decide) (pj_pf hM (pc := 68) dX12_live_68 fl_X12_446 (by decide) rfl (fun _ => Or.inr rfl) (by decide) (fun _ => rfl) 36 rfl (pj_aload_n hM (pc := 71) dX12_live_71 rfl rfl (pj_aload_n hM (pc := 72) dX12_live_72 rfl rfl (pj_gf hM (pc := 73) (t := 0) dX12_live_73 fl_X12_429 (by decide) rfl 32 rfl (pj_cV hM (pc := 76) (cM_gives ((pj_set w 26 0 36 1) 26 0 32) (pj_set w 26 0 36 1) p2 h3) dX12_live_76 mf_X12_gives mv_X12_gives ml_X12_82 kc_26 rfl rfl (by decide) rfl rfl (pj_ret hM (pc := 79) dX12_live_79 ⟨_, rfl⟩ (h0 ((p2.1, p2.2)) hr) rfl)))))))))
  refine pj_tgd (fun h4 => ?_)
  exact pj_tret (fun hr => pj_ic_ge_f hM (pc := 45) 66 dX12_live_45 rfl h1 (pj_aload_n hM (pc := 48) dX12_live_48 rfl rfl (pj_getF hM (pc := 49) (t := 74) dX12_live_49 fl_X12_65 (by decide) rfl rfl (pj_iload_n hM (pc := 52) dX12_live_52 rfl (pj_aload_n hM (pc := 53) dX12_live_53 rfl rfl (pj_getF hM (pc := 54) (t := 73) dX12_live_54 fl_X12_62 (by decide) rfl rfl (pj_iload_n hM (pc := 57) dX12_live_57 rfl (pj_ial hM (pc := 58) dX12_live_58 ki_73 (by decide) h4 (pj_ias hM (pc := 59) dX12_live_59 ki_74 (by decide) h4 (pj_iinc hM (pc := 60) dX12_live_60 rfl (by decide) (lls' := [(26, 0), (9, 0), (0, (pj_wr (x2 + 1)))]) rfl (pj_goto hM (pc := 63) dX12_live_63 rfl (pj_kill hM [true, false, true] (lls' := [(26, 0), (9, 0), (0, (pj_wr (x2 + 1)))]) rfl ((hk43 _ hr))))))))))))))
theorem tM_live_43 {Go : pj_C → Prop} (hM : pj_M l yX12_live cX12_live 3 (some .int) 8 185 true g n0 o Go)   (R : Int × pj_W → Prop) (h0 : ∀ r, R (r) → ((some (0, r.1) : Option pj_V), r.2) = o) (s : (Int × pj_W)) : pj_TG R (fM_live_43  s) (Go (43, [(26, 0), (9, 0), (0, s.1)], [], s.2)) := by
  unfold fM_live_43
  exact pj_tLp (G := fun s : (Int × pj_W) => Go (43, [(26, 0), (9, 0), (0, s.1)], [], s.2)) (fun s => tM_live_43b hM  s.1 s.2  _ (fun r h => h0 r h)  (fun s h => h)) s
theorem tM_live {Go : pj_C → Prop} (hM : pj_M l yX12_live cX12_live 3 (some .int) 8 185 true g n0 o Go) (x1 : Int) (w : pj_W)  (R : Int × pj_W → Prop) (h0 : ∀ r, R (r) → ((some (0, r.1) : Option pj_V), r.2) = o) : pj_TG R (fM_live x1 w) (Go (0, [(26, 0), (0, x1), (9, 0)], [], w)) := by
  unfold fM_live
  refine pj_tbind (fun p1 h2 => ?_)
  refine pj_map (fun k => pj_iload_n hM (pc := 0) dX12_live_0 rfl (pj_i2l hM (pc := 1) dX12_live_1 (pj_lconst hM (pc := 2) (z := 0) dX12_live_2 rfl (by decide) (pj_ldc2 hM (pc := 3) (z := 9999) dX12_live_3 kn_X12_441 rfl (by decide) (pj_cS hM (pc := 6) (cM_isFrom x1 0 9999 w p1 h2) dX12_live_6 mf_X12_isFrom ms_X12_isFrom ml_X12_289 rfl rfl rfl rfl k))))) ?_
  refine pj_tif (fun h3 => ?_) (fun h3 => ?_)
  · refine pj_tbind (fun p4 h5 => ?_)
    exact pj_tret (fun hr => pj_if_ne_f hM (pc := 9) 18 dX12_live_9 rfl (fun q => q h3) (pj_aload_n hM (pc := 12) dX12_live_12 rfl rfl (pj_iconst hM (pc := 13) dX12_live_13 (by decide) (pj_cV hM (pc := 14) (cM_refuse 1 w p4 h5) dX12_live_14 mf_X12_refuse mv_X12_refuse ml_X12_78 kc_26 rfl rfl (by decide) rfl rfl (pj_ret hM (pc := 17) dX12_live_17 ⟨_, rfl⟩ (h0 ((p4.1, p4.2)) hr) rfl)))))
  refine pj_map (fun k => pj_if_ne_t hM (pc := 9) dX12_live_9 rfl h3 (pj_aload_n hM (pc := 18) dX12_live_18 rfl rfl (pj_getF hM (pc := 19) (t := 60) dX12_live_19 fl_X12_7 (by decide) rfl rfl (pj_bipush hM (pc := 22) dX12_live_22 (by decide) (pj_ial hM (pc := 24) dX12_live_24 ki_60 (by decide) (by decide) (pj_iconst hM (pc := 25) dX12_live_25 (by decide) k)))))) ?_
  refine pj_tif (fun h6 => ?_) (fun h6 => ?_)
  · refine pj_tbind (fun p7 h8 => ?_)
    exact pj_tret (fun hr => pj_ic_ne_f hM (pc := 26) 36 dX12_live_26 rfl (fun q => q h6) (pj_aload_n hM (pc := 29) dX12_live_29 rfl rfl (pj_bipush hM (pc := 30) dX12_live_30 (by decide) (pj_cV hM (pc := 32) (cM_refuse 6 w p7 h8) dX12_live_32 mf_X12_refuse mv_X12_refuse ml_X12_78 kc_26 rfl rfl (by decide) rfl rfl (pj_ret hM (pc := 35) dX12_live_35 ⟨_, rfl⟩ (h0 ((p7.1, p7.2)) hr) rfl)))))
  refine pj_tbind (fun p9 h10 => ?_)
  refine pj_map (fun k => pj_ic_ne_t hM (pc := 26) dX12_live_26 rfl h6 (pj_aload_n hM (pc := 36) dX12_live_36 rfl rfl (pj_iload_n hM (pc := 37) dX12_live_37 rfl (pj_cVv hM (pc := 38) (cM_lives x1 w p9 h10) dX12_live_38 mf_X12_lives mv_X12_lives ml_X12_443 kc_26 rfl rfl (by decide) rfl rfl (pj_iconst hM (pc := 41) dX12_live_41 (by decide) (pj_istore_n hM (pc := 42) dX12_live_42 (by decide) (lls' := [(26, 0), (0, x1), (0, 0)]) rfl (pj_kill hM [true, false, true] (lls' := [(26, 0), (9, 0), (0, 0)]) rfl k))))))) ?_
  exact tM_live_43 hM _ h0 _
theorem cM_live (x1 : Int)  (w : pj_W) (r : Int × pj_W) (h : fM_live x1 w = some r) : pj_Cn l yX12_live cX12_live 3 (some .int) 8 185 true g [(26, 0), (0, x1)] w ((some (0, r.1) : Option pj_V), r.2) :=
  pj_Cn_of rfl (Nat.le_of_ble_eq_true rfl) (lls := [(26, 0), (0, x1), (9, 0)]) rfl (fun Go hM => tM_live hM x1 w (fun x => ((some (0, x.1) : Option pj_V), x.2) = ((some (0, r.1) : Option pj_V), r.2)) (fun r h => h) r h rfl)
noncomputable def fM_lived_9  (w : pj_W) : Option (Int × pj_W) :=
  (fM_refuse 1 w).bind fun p1 => (some ((p1.1, p1.2)))
noncomputable def fM_lived (x1 : Int) (w : pj_W) : Option (Int × pj_W) :=
  if x1 < 0 then (fM_lived_9 w) else (if x1 ≤ 4 then (if (w 26 0 36) = 0 then ((fM_refuse 6 w).bind fun p4 => (some ((p4.1, p4.2)))) else (if 0 ≤ x1 ∧ x1 < 5 then ((fM_gives (w 74 0 x1) w).bind fun p7 => (some ((p7.1, p7.2)))) else none)) else (fM_lived_9 w))
theorem tM_lived_9 {Go : pj_C → Prop} (hM : pj_M l yX12_lived cX12_lived 2 (some .int) 1 21 true g n0 o Go)  (w : pj_W)  (R : Int × pj_W → Prop) (h0 : ∀ r, R (r) → ((some (0, r.1) : Option pj_V), r.2) = o) : pj_TG R (fM_lived_9  w) (Go (9, [(26, 0), (9, 0)], [], w)) := by
  unfold fM_lived_9
  refine pj_tbind (fun p1 h2 => ?_)
  exact pj_tret (fun hr => pj_aload_n hM (pc := 9) dX12_lived_9 rfl rfl (pj_iconst hM (pc := 10) dX12_lived_10 (by decide) (pj_cV hM (pc := 11) (cM_refuse 1 w p1 h2) dX12_lived_11 mf_X12_refuse mv_X12_refuse ml_X12_78 kc_26 rfl rfl (by decide) rfl rfl (pj_goto hM (pc := 14) dX12_lived_14 rfl (pj_ret hM (pc := 43) dX12_lived_43 ⟨_, rfl⟩ (h0 ((p1.1, p1.2)) hr) rfl)))))
theorem tM_lived {Go : pj_C → Prop} (hM : pj_M l yX12_lived cX12_lived 2 (some .int) 1 21 true g n0 o Go) (x1 : Int) (w : pj_W)  (R : Int × pj_W → Prop) (h0 : ∀ r, R (r) → ((some (0, r.1) : Option pj_V), r.2) = o) : pj_TG R (fM_lived x1 w) (Go (0, [(26, 0), (0, x1)], [], w)) := by
  unfold fM_lived
  refine pj_map (fun k => pj_iload_n hM (pc := 0) dX12_lived_0 rfl k) ?_
  refine pj_tif (fun h1 => ?_) (fun h1 => ?_)
  · refine pj_map (fun k => pj_if_lt_t hM (pc := 1) dX12_lived_1 rfl h1 (pj_kill hM [true, false] (lls' := [(26, 0), (9, 0)]) rfl k)) ?_
    exact tM_lived_9 hM w _ h0
  refine pj_map (fun k => pj_if_lt_f hM (pc := 1) 9 dX12_lived_1 rfl h1 (pj_iload_n hM (pc := 4) dX12_lived_4 rfl (pj_iconst hM (pc := 5) dX12_lived_5 (by decide) k))) ?_
  refine pj_tif (fun h2 => ?_) (fun h2 => ?_)
  · refine pj_map (fun k => pj_ic_le_t hM (pc := 6) dX12_lived_6 rfl h2 (pj_aload_n hM (pc := 17) dX12_lived_17 rfl rfl (pj_gf hM (pc := 18) (t := 0) dX12_lived_18 fl_X12_446 (by decide) rfl 36 rfl k))) ?_
    refine pj_tif (fun h3 => ?_) (fun h3 => ?_)
    · refine pj_tbind (fun p4 h5 => ?_)
      exact pj_tret (fun hr => pj_if_eq_t hM (pc := 21) dX12_lived_21 rfl h3 (pj_aload_n hM (pc := 37) dX12_lived_37 rfl rfl (pj_bipush hM (pc := 38) dX12_lived_38 (by decide) (pj_cV hM (pc := 40) (cM_refuse 6 w p4 h5) dX12_lived_40 mf_X12_refuse mv_X12_refuse ml_X12_78 kc_26 rfl rfl (by decide) rfl rfl (pj_ret hM (pc := 43) dX12_lived_43 ⟨_, rfl⟩ (h0 ((p4.1, p4.2)) hr) rfl)))))
    refine pj_tgd (fun h6 => ?_)
    refine pj_tbind (fun p7 h8 => ?_)
    exact pj_tret (fun hr => pj_if_eq_f hM (pc := 21) 37 dX12_lived_21 rfl h3 (pj_aload_n hM (pc := 24) dX12_lived_24 rfl rfl (pj_aload_n hM (pc := 25) dX12_lived_25 rfl rfl (pj_getF hM (pc := 26) (t := 74) dX12_lived_26 fl_X12_65 (by decide) rfl rfl (pj_iload_n hM (pc := 29) dX12_lived_29 rfl (pj_ial hM (pc := 30) dX12_lived_30 ki_74 (by decide) h6 (pj_cV hM (pc := 31) (cM_gives (w 74 0 x1) w p7 h8) dX12_lived_31 mf_X12_gives mv_X12_gives ml_X12_82 kc_26 rfl rfl (by decide) rfl rfl (pj_goto hM (pc := 34) dX12_lived_34 rfl (pj_ret hM (pc := 43) dX12_lived_43 ⟨_, rfl⟩ (h0 ((p7.1, p7.2)) hr) rfl)))))))))
  refine pj_map (fun k => pj_ic_le_f hM (pc := 6) 17 dX12_lived_6 rfl h2 (pj_kill hM [true, false] (lls' := [(26, 0), (9, 0)]) rfl k)) ?_
  exact tM_lived_9 hM w _ h0
theorem cM_lived (x1 : Int)  (w : pj_W) (r : Int × pj_W) (h : fM_lived x1 w = some r) : pj_Cn l yX12_lived cX12_lived 2 (some .int) 1 21 true g [(26, 0), (0, x1)] w ((some (0, r.1) : Option pj_V), r.2) :=
  pj_Cn_of rfl (Nat.le_of_ble_eq_true rfl) (lls := [(26, 0), (0, x1)]) rfl (fun Go hM => tM_lived hM x1 w (fun x => ((some (0, x.1) : Option pj_V), x.2) = ((some (0, r.1) : Option pj_V), r.2)) (fun r h => h) r h rfl)
noncomputable def fM_mark  (w : pj_W) : Option (Int × pj_W) :=
  if (w 26 0 37) = 3 then ((fM_refuse 4 w).bind fun p2 => (some ((p2.1, p2.2)))) else ((fM_copies 0 ((pj_set w 26 0 37 (pj_wr ((w 26 0 37) + 1))) 26 0 37) (pj_set w 26 0 37 (pj_wr ((w 26 0 37) + 1)))).bind fun p4 => ((fM_gives (p4 26 0 37) p4).bind fun p6 => (some ((p6.1, p6.2)))))
theorem tM_mark {Go : pj_C → Prop} (hM : pj_M l yX12_mark cX12_mark 1 (some .int) 1 23 true g n0 o Go)  (w : pj_W)  (R : Int × pj_W → Prop) (h0 : ∀ r, R (r) → ((some (0, r.1) : Option pj_V), r.2) = o) : pj_TG R (fM_mark  w) (Go (0, [(26, 0)], [], w)) := by
  unfold fM_mark
  refine pj_map (fun k => pj_aload_n hM (pc := 0) dX12_mark_0 rfl rfl (pj_gf hM (pc := 1) (t := 0) dX12_mark_1 fl_X12_451 (by decide) rfl 37 rfl (pj_iconst hM (pc := 4) dX12_mark_4 (by decide) k))) ?_
  refine pj_tif (fun h1 => ?_) (fun h1 => ?_)
  · refine pj_tbind (fun p2 h3 => ?_)
    exact pj_tret (fun hr => pj_ic_ne_f hM (pc := 5) 14 dX12_mark_5 rfl (fun q => q h1) (pj_aload_n hM (pc := 8) dX12_mark_8 rfl rfl (pj_iconst hM (pc := 9) dX12_mark_9 (by decide) (pj_cV hM (pc := 10) (cM_refuse 4 w p2 h3) dX12_mark_10 mf_X12_refuse mv_X12_refuse ml_X12_78 kc_26 rfl rfl (by decide) rfl rfl (pj_ret hM (pc := 13) dX12_mark_13 ⟨_, rfl⟩ (h0 ((p2.1, p2.2)) hr) rfl)))))
  refine pj_tbind (fun p4 h5 => ?_)
  refine pj_tbind (fun p6 h7 => ?_)
  exact pj_tret (fun hr => pj_ic_ne_t hM (pc := 5) dX12_mark_5 rfl h1 (pj_aload_n hM (pc := 14) dX12_mark_14 rfl rfl (pj_dup hM (pc := 15) dX12_mark_15 (by decide) (pj_gf hM (pc := 16) (t := 0) dX12_mark_16 fl_X12_451 (by decide) rfl 37 rfl (pj_iconst hM (pc := 19) dX12_mark_19 (by decide) (pj_iadd hM (pc := 20) dX12_mark_20 (pj_pf hM (pc := 21) dX12_mark_21 fl_X12_451 (by decide) rfl (fun h => absurd h (by decide)) (by decide) (fun _ => rfl) 37 rfl (pj_aload_n hM (pc := 24) dX12_mark_24 rfl rfl (pj_iconst hM (pc := 25) dX12_mark_25 (by decide) (pj_aload_n hM (pc := 26) dX12_mark_26 rfl rfl (pj_gf hM (pc := 27) (t := 0) dX12_mark_27 fl_X12_451 (by decide) rfl 37 rfl (pj_cVv hM (pc := 30) (cM_copies 0 ((pj_set w 26 0 37 (pj_wr ((w 26 0 37) + 1))) 26 0 37) (pj_set w 26 0 37 (pj_wr ((w 26 0 37) + 1))) p4 h5) dX12_mark_30 mf_X12_copies mv_X12_copies ml_X12_454 kc_26 rfl rfl (by decide) rfl rfl (pj_aload_n hM (pc := 33) dX12_mark_33 rfl rfl (pj_aload_n hM (pc := 34) dX12_mark_34 rfl rfl (pj_gf hM (pc := 35) (t := 0) dX12_mark_35 fl_X12_451 (by decide) rfl 37 rfl (pj_cV hM (pc := 38) (cM_gives (p4 26 0 37) p4 p6 h7) dX12_mark_38 mf_X12_gives mv_X12_gives ml_X12_82 kc_26 rfl rfl (by decide) rfl rfl (pj_ret hM (pc := 41) dX12_mark_41 ⟨_, rfl⟩ (h0 ((p6.1, p6.2)) hr) rfl)))))))))))))))))
theorem cM_mark   (w : pj_W) (r : Int × pj_W) (h : fM_mark  w = some r) : pj_Cn l yX12_mark cX12_mark 1 (some .int) 1 23 true g [(26, 0)] w ((some (0, r.1) : Option pj_V), r.2) :=
  pj_Cn_of rfl (Nat.le_of_ble_eq_true rfl) (lls := [(26, 0)]) rfl (fun Go hM => tM_mark hM w (fun x => ((some (0, x.1) : Option pj_V), x.2) = ((some (0, r.1) : Option pj_V), r.2)) (fun r h => h) r h rfl)
noncomputable def fM_is (x1 : Int) (w : pj_W) : Option (Int × pj_W) :=
  if x1 = 0 then (some ((1, (pj_set w 26 0 2 x1)))) else (some ((0, (pj_set w 26 0 2 x1))))
theorem tM_is {Go : pj_C → Prop} (hM : pj_M l yX12_is cX12_is 2 (some .boolean) 0 0 ph g n0 o Go) (x1 : Int) (w : pj_W)  (R : Int × pj_W → Prop) (h0 : ∀ r, R (r) → ((some (0, r.1) : Option pj_V), r.2) = o) : pj_TG R (fM_is x1 w) (Go (0, [(26, 0), (0, x1)], [], w)) := by
  unfold fM_is
  refine pj_map (fun k => pj_aload_n hM (pc := 0) dX12_is_0 rfl rfl (pj_iload_n hM (pc := 1) dX12_is_1 rfl (pj_pf hM (pc := 2) dX12_is_2 fl_X12_72 (by decide) rfl (fun h => absurd h (by decide)) (by decide) (fun _ => rfl) 2 rfl (pj_iload_n hM (pc := 5) dX12_is_5 rfl k)))) ?_
  refine pj_tif (fun h1 => ?_) (fun h1 => ?_)
  · exact pj_tret (fun hr => pj_if_ne_f hM (pc := 6) 13 dX12_is_6 rfl (fun q => q h1) (pj_iconst hM (pc := 9) dX12_is_9 (by decide) (pj_goto hM (pc := 10) dX12_is_10 rfl (pj_ret hM (pc := 14) dX12_is_14 ⟨_, rfl, Or.inr rfl⟩ (h0 ((1, (pj_set w 26 0 2 x1))) hr) rfl))))
  exact pj_tret (fun hr => pj_if_ne_t hM (pc := 6) dX12_is_6 rfl h1 (pj_iconst hM (pc := 13) dX12_is_13 (by decide) (pj_ret hM (pc := 14) dX12_is_14 ⟨_, rfl, Or.inl rfl⟩ (h0 ((0, (pj_set w 26 0 2 x1))) hr) rfl)))
theorem cM_is (x1 : Int)  (w : pj_W) (r : Int × pj_W) (h : fM_is x1 w = some r) : pj_Cn l yX12_is cX12_is 2 (some .boolean) 0 0 ph g [(26, 0), (0, x1)] w ((some (0, r.1) : Option pj_V), r.2) :=
  pj_Cn_of rfl (Nat.le_of_ble_eq_true rfl) (lls := [(26, 0), (0, x1)]) rfl (fun Go hM => tM_is hM x1 w (fun x => ((some (0, x.1) : Option pj_V), x.2) = ((some (0, r.1) : Option pj_V), r.2)) (fun r h => h) r h rfl)
noncomputable def fM_tellsBy_6b (x1 : Int) (x3 : Int) (w : pj_W) (x5 : Int) (x7 : Int) : Option ((Int × Int) ⊕ (Int × pj_W)) :=
  if (pj_cmp x7 0) = 0 then (if ¬ x5 = 0 then ((fM_is 0 (pj_set (pj_set w 26 0 3 (pj_divl x1 x5)) 26 0 4 (pj_divl x3 x5))).bind fun p3 => (if p3.1 = 0 ∨ p3.1 = 1 then (some (Sum.inr ((p3.1, p3.2)))) else none)) else none) else (if ¬ x7 = 0 then (some (Sum.inl (x7, (Int.tmod x5 x7)))) else none)
noncomputable def fM_tellsBy_6 (x1 : Int) (x3 : Int) (w : pj_W) (s : (Int × Int)) : Option (Int × pj_W) := pj_Lp (fun s : (Int × Int) => fM_tellsBy_6b x1 x3 w s.1 s.2) s
noncomputable def fM_tellsBy (x1 : Int) (x3 : Int) (w : pj_W) : Option (Int × pj_W) :=
  fM_tellsBy_6 x1 x3 w (x1, x3)
theorem tM_tellsBy_6b {Go : pj_C → Prop} (hM : pj_M l yX12_tellsBy cX12_tellsBy 11 (some .boolean) 1 21 ph g n0 o Go) (x1 : Int) (x3 : Int) (w : pj_W) (x5 : Int) (x7 : Int)  (R : (Int × Int) ⊕ (Int × pj_W) → Prop) (h0 : ∀ r, R (Sum.inr (r)) → ((some (0, r.1) : Option pj_V), r.2) = o) (hk6 : ∀ s, R (Sum.inl s) → Go (6, [(26, 0), (1, x1), (9, 0), (1, x3), (9, 0), (1, s.1), (9, 0), (1, s.2), (9, 0), (9, 0), (9, 0)], [], w)) : pj_TG R (fM_tellsBy_6b x1 x3 w x5 x7) (Go (6, [(26, 0), (1, x1), (9, 0), (1, x3), (9, 0), (1, x5), (9, 0), (1, x7), (9, 0), (9, 0), (9, 0)], [], w)) := by
  unfold fM_tellsBy_6b
  refine pj_map (fun k => pj_lload hM (pc := 6) dX12_tellsBy_6 rfl (pj_lconst hM (pc := 8) (z := 0) dX12_tellsBy_8 rfl (by decide) (pj_lcmp hM (pc := 9) dX12_tellsBy_9 k))) ?_
  refine pj_tif (fun h1 => ?_) (fun h1 => ?_)
  · refine pj_tgd (fun h2 => ?_)
    refine pj_tbind (fun p3 h4 => ?_)
    refine pj_tgd (fun h5 => ?_)
    exact pj_tret (fun hr => pj_if_eq_t hM (pc := 10) dX12_tellsBy_10 rfl h1 (pj_aload_n hM (pc := 31) dX12_tellsBy_31 rfl rfl (pj_lload_n hM (pc := 32) dX12_tellsBy_32 rfl (pj_lload hM (pc := 33) dX12_tellsBy_33 rfl (pj_ldiv hM (pc := 35) dX12_tellsBy_35 h2 (pj_pf hM (pc := 36) dX12_tellsBy_36 fl_X12_75 (by decide) rfl (fun h => absurd h (by decide)) (by decide) (fun _ => rfl) 3 rfl (pj_aload_n hM (pc := 39) dX12_tellsBy_39 rfl rfl (pj_lload_n hM (pc := 40) dX12_tellsBy_40 rfl (pj_lload hM (pc := 41) dX12_tellsBy_41 rfl (pj_ldiv hM (pc := 43) dX12_tellsBy_43 h2 (pj_pf hM (pc := 44) dX12_tellsBy_44 fl_X12_17 (by decide) rfl (fun h => absurd h (by decide)) (by decide) (fun _ => rfl) 4 rfl (pj_aload_n hM (pc := 47) dX12_tellsBy_47 rfl rfl (pj_iconst hM (pc := 48) dX12_tellsBy_48 (by decide) (pj_cV hM (pc := 49) (cM_is 0 (pj_set (pj_set w 26 0 3 (pj_divl x1 x5)) 26 0 4 (pj_divl x3 x5)) p3 h4) dX12_tellsBy_49 mf_X12_is mv_X12_is ml_X12_85 kc_26 rfl rfl (by decide) rfl rfl (pj_ret hM (pc := 52) dX12_tellsBy_52 ⟨_, rfl, h5⟩ (h0 ((p3.1, p3.2)) hr) rfl)))))))))))))))
  refine pj_tgd (fun h6 => ?_)
  exact pj_tret (fun hr => pj_if_eq_f hM (pc := 10) 31 dX12_tellsBy_10 rfl h1 (pj_lload hM (pc := 13) dX12_tellsBy_13 rfl (pj_lload hM (pc := 15) dX12_tellsBy_15 rfl (pj_lrem hM (pc := 17) dX12_tellsBy_17 h6 (pj_lstore hM (pc := 18) dX12_tellsBy_18 (by decide) (lls' := [(26, 0), (1, x1), (9, 0), (1, x3), (9, 0), (1, x5), (9, 0), (1, x7), (9, 0), (1, (Int.tmod x5 x7)), (9, 0)]) rfl (pj_lload hM (pc := 20) dX12_tellsBy_20 rfl (pj_lstore hM (pc := 22) dX12_tellsBy_22 (by decide) (lls' := [(26, 0), (1, x1), (9, 0), (1, x3), (9, 0), (1, x7), (9, 0), (1, x7), (9, 0), (1, (Int.tmod x5 x7)), (9, 0)]) rfl (pj_lload hM (pc := 24) dX12_tellsBy_24 rfl (pj_lstore hM (pc := 26) dX12_tellsBy_26 (by decide) (lls' := [(26, 0), (1, x1), (9, 0), (1, x3), (9, 0), (1, x7), (9, 0), (1, (Int.tmod x5 x7)), (9, 0), (1, (Int.tmod x5 x7)), (9, 0)]) rfl (pj_goto hM (pc := 28) dX12_tellsBy_28 rfl (pj_kill hM [true, true, false, true, false, true, false, true, false, false, false] (lls' := [(26, 0), (1, x1), (9, 0), (1, x3), (9, 0), (1, x7), (9, 0), (1, (Int.tmod x5 x7)), (9, 0), (9, 0), (9, 0)]) rfl ((hk6 _ hr)))))))))))))
theorem tM_tellsBy_6 {Go : pj_C → Prop} (hM : pj_M l yX12_tellsBy cX12_tellsBy 11 (some .boolean) 1 21 ph g n0 o Go) (x1 : Int) (x3 : Int) (w : pj_W)  (R : Int × pj_W → Prop) (h0 : ∀ r, R (r) → ((some (0, r.1) : Option pj_V), r.2) = o) (s : (Int × Int)) : pj_TG R (fM_tellsBy_6 x1 x3 w s) (Go (6, [(26, 0), (1, x1), (9, 0), (1, x3), (9, 0), (1, s.1), (9, 0), (1, s.2), (9, 0), (9, 0), (9, 0)], [], w)) := by
  unfold fM_tellsBy_6
  exact pj_tLp (G := fun s : (Int × Int) => Go (6, [(26, 0), (1, x1), (9, 0), (1, x3), (9, 0), (1, s.1), (9, 0), (1, s.2), (9, 0), (9, 0), (9, 0)], [], w)) (fun s => tM_tellsBy_6b hM x1 x3 w s.1 s.2  _ (fun r h => h0 r h)  (fun s h => h)) s
theorem tM_tellsBy {Go : pj_C → Prop} (hM : pj_M l yX12_tellsBy cX12_tellsBy 11 (some .boolean) 1 21 ph g n0 o Go) (x1 : Int) (x3 : Int) (w : pj_W)  (R : Int × pj_W → Prop) (h0 : ∀ r, R (r) → ((some (0, r.1) : Option pj_V), r.2) = o) : pj_TG R (fM_tellsBy x1 x3 w) (Go (0, [(26, 0), (1, x1), (9, 0), (1, x3), (9, 0), (9, 0), (9, 0), (9, 0), (9, 0), (9, 0), (9, 0)], [], w)) := by
  unfold fM_tellsBy
  refine pj_map (fun k => pj_lload_n hM (pc := 0) dX12_tellsBy_0 rfl (pj_lstore hM (pc := 1) dX12_tellsBy_1 (by decide) (lls' := [(26, 0), (1, x1), (9, 0), (1, x3), (9, 0), (1, x1), (9, 0), (9, 0), (9, 0), (9, 0), (9, 0)]) rfl (pj_lload_n hM (pc := 3) dX12_tellsBy_3 rfl (pj_lstore hM (pc := 4) dX12_tellsBy_4 (by decide) (lls' := [(26, 0), (1, x1), (9, 0), (1, x3), (9, 0), (1, x1), (9, 0), (1, x3), (9, 0), (9, 0), (9, 0)]) rfl (pj_kill hM [true, true, false, true, false, true, false, true, false, false, false] (lls' := [(26, 0), (1, x1), (9, 0), (1, x3), (9, 0), (1, x1), (9, 0), (1, x3), (9, 0), (9, 0), (9, 0)]) rfl k))))) ?_
  exact tM_tellsBy_6 hM x1 x3 w _ h0 _
theorem cM_tellsBy (x1 : Int) (x3 : Int)  (w : pj_W) (r : Int × pj_W) (h : fM_tellsBy x1 x3 w = some r) : pj_Cn l yX12_tellsBy cX12_tellsBy 11 (some .boolean) 1 21 ph g [(26, 0), (1, x1), (1, x3)] w ((some (0, r.1) : Option pj_V), r.2) :=
  pj_Cn_of rfl (Nat.le_of_ble_eq_true rfl) (lls := [(26, 0), (1, x1), (9, 0), (1, x3), (9, 0), (9, 0), (9, 0), (9, 0), (9, 0), (9, 0), (9, 0)]) rfl (fun Go hM => tM_tellsBy hM x1 x3 w (fun x => ((some (0, x.1) : Option pj_V), x.2) = ((some (0, r.1) : Option pj_V), r.2)) (fun r h => h) r h rfl)
noncomputable def fM_mean_43  (w : pj_W) : Option (Int × pj_W) :=
  (fM_is 1 w).bind fun p1 => (if p1.1 = 0 ∨ p1.1 = 1 then (some ((p1.1, p1.2))) else none)
noncomputable def fM_mean_142b (x1 : Int) (x2 : Int) (x3 : Int) (x4 : Int) (x6 : Int) (x7 : Int) (w : pj_W) : Option ((Int × pj_W) ⊕ ((Int × Int × pj_W) ⊕ (Int × pj_W))) :=
  if 1030 ≤ x7 then (some (Sum.inr (Sum.inl (x4, (pj_wr (x6 + 1)), w)))) else (if 0 ≤ (pj_wr (7000 + x7)) ∧ (pj_wr (7000 + x7)) < 8400 then (if 0 ≤ x7 ∧ x7 < 8400 then (some (Sum.inl ((pj_wr (x7 + 1)), (pj_set w 60 0 x7 (w 60 0 (pj_wr (7000 + x7))))))) else none) else none)
noncomputable def fM_mean_142 (x1 : Int) (x2 : Int) (x3 : Int) (x4 : Int) (x6 : Int) (s : (Int × pj_W)) : Option ((Int × Int × pj_W) ⊕ (Int × pj_W)) := pj_Lp (fun s : (Int × pj_W) => fM_mean_142b x1 x2 x3 x4 x6 s.1 s.2) s
noncomputable def fM_mean_108b (x1 : Int) (x2 : Int) (x3 : Int) (x4 : Int) (x6 : Int) (w : pj_W) : Option ((Int × Int × pj_W) ⊕ (Int × pj_W)) :=
  if x3 ≤ x6 then ((fM_tellsBy x4 x3 w).bind fun p2 => (if p2.1 = 0 ∨ p2.1 = 1 then (some (Sum.inr ((p2.1, p2.2)))) else none)) else ((fM_lives (pj_wr (x2 + x6)) w).bind fun p5 => ((fM_finderRow x1 p5).bind fun p7 => (if 0 ≤ (pj_wr (p7 + 4)) ∧ (pj_wr (p7 + 4)) < 8400 then (fM_mean_142 x1 x2 x3 (pj_wl (x4 + (p5 60 0 (pj_wr (p7 + 4))))) x6 (0, p5)) else none)))
noncomputable def fM_mean_108 (x1 : Int) (x2 : Int) (x3 : Int) (s : (Int × Int × pj_W)) : Option (Int × pj_W) := pj_Lp (fun s : (Int × Int × pj_W) => fM_mean_108b x1 x2 x3 s.1 s.2.1 s.2.2) s
noncomputable def fM_mean_70b (x1 : Int) (x2 : Int) (x3 : Int) (x4 : Int) (w : pj_W) : Option ((Int × pj_W) ⊕ (Int × pj_W)) :=
  if 1030 ≤ x4 then ((fM_mean_108 x1 x2 x3 (0, 0, w)).map Sum.inr) else (if 0 ≤ x4 ∧ x4 < 8400 then (if 0 ≤ (pj_wr (7000 + x4)) ∧ (pj_wr (7000 + x4)) < 8400 then (some (Sum.inl ((pj_wr (x4 + 1)), (pj_set w 60 0 (pj_wr (7000 + x4)) (w 60 0 x4))))) else none) else none)
noncomputable def fM_mean_70 (x1 : Int) (x2 : Int) (x3 : Int) (s : (Int × pj_W)) : Option (Int × pj_W) := pj_Lp (fun s : (Int × pj_W) => fM_mean_70b x1 x2 x3 s.1 s.2) s
noncomputable def fM_mean (x1 : Int) (x2 : Int) (x3 : Int) (w : pj_W) : Option (Int × pj_W) :=
  (fM_isFinder x1 w).bind fun p1 => (if p1 = 0 then (fM_mean_43 w) else ((fM_isFrom x2 0 9999 w).bind fun p4 => (if p4 = 0 then (fM_mean_43 w) else ((fM_isFrom x3 1 20 w).bind fun p7 => (if p7 = 0 then (fM_mean_43 w) else (if (pj_wr ((pj_wr (x2 + x3)) - 1)) ≤ 9999 then (if (w 60 0 9) = (-1) then ((fM_is 6 w).bind fun p12 => (if p12.1 = 0 ∨ p12.1 = 1 then (some ((p12.1, p12.2))) else none)) else (fM_mean_70 x1 x2 x3 (0, w))) else (fM_mean_43 w)))))))
theorem tM_mean_43 {Go : pj_C → Prop} (hM : pj_M l yX12_mean cX12_mean 8 (some .boolean) 8 185 true g n0 o Go)  (w : pj_W)  (R : Int × pj_W → Prop) (h0 : ∀ r, R (r) → ((some (0, r.1) : Option pj_V), r.2) = o) : pj_TG R (fM_mean_43  w) (Go (43, [(26, 0), (9, 0), (9, 0), (9, 0), (9, 0), (9, 0), (9, 0), (9, 0)], [], w)) := by
  unfold fM_mean_43
  refine pj_tbind (fun p1 h2 => ?_)
  refine pj_tgd (fun h3 => ?_)
  exact pj_tret (fun hr => pj_aload_n hM (pc := 43) dX12_mean_43 rfl rfl (pj_iconst hM (pc := 44) dX12_mean_44 (by decide) (pj_cV hM (pc := 45) (cM_is 1 w p1 h2) dX12_mean_45 mf_X12_is mv_X12_is ml_X12_85 kc_26 rfl rfl (by decide) rfl rfl (pj_ret hM (pc := 48) dX12_mean_48 ⟨_, rfl, h3⟩ (h0 ((p1.1, p1.2)) hr) rfl))))
theorem tM_mean_142b {Go : pj_C → Prop} (hM : pj_M l yX12_mean cX12_mean 8 (some .boolean) 8 185 true g n0 o Go) (x1 : Int) (x2 : Int) (x3 : Int) (x4 : Int) (x6 : Int) (x7 : Int) (w : pj_W)  (R : (Int × pj_W) ⊕ ((Int × Int × pj_W) ⊕ (Int × pj_W)) → Prop) (h0 : ∀ r, R (Sum.inr (Sum.inr (r))) → ((some (0, r.1) : Option pj_V), r.2) = o) (hk108 : ∀ s, R (Sum.inr (Sum.inl s)) → Go (108, [(26, 0), (0, x1), (0, x2), (0, x3), (1, s.1), (9, 0), (0, s.2.1), (9, 0)], [], s.2.2)) (hk142 : ∀ s, R (Sum.inl s) → Go (142, [(26, 0), (0, x1), (0, x2), (0, x3), (1, x4), (9, 0), (0, x6), (0, s.1)], [], s.2)) : pj_TG R (fM_mean_142b x1 x2 x3 x4 x6 x7 w) (Go (142, [(26, 0), (0, x1), (0, x2), (0, x3), (1, x4), (9, 0), (0, x6), (0, x7)], [], w)) := by
  unfold fM_mean_142b
  refine pj_map (fun k => pj_iload hM (pc := 142) dX12_mean_142 rfl (pj_sipush hM (pc := 144) dX12_mean_144 (by decide) k)) ?_
  refine pj_tif (fun h1 => ?_) (fun h1 => ?_)
  · exact pj_tret (fun hr => pj_ic_ge_t hM (pc := 147) dX12_mean_147 rfl h1 (pj_iinc hM (pc := 174) dX12_mean_174 rfl (by decide) (lls' := [(26, 0), (0, x1), (0, x2), (0, x3), (1, x4), (9, 0), (0, (pj_wr (x6 + 1))), (0, x7)]) rfl (pj_goto hM (pc := 177) dX12_mean_177 rfl (pj_kill hM [true, true, true, true, true, false, true, false] (lls' := [(26, 0), (0, x1), (0, x2), (0, x3), (1, x4), (9, 0), (0, (pj_wr (x6 + 1))), (9, 0)]) rfl ((hk108 _ hr))))))
  refine pj_tgd (fun h2 => ?_)
  refine pj_tgd (fun h3 => ?_)
  exact pj_tret (fun hr => pj_ic_ge_f hM (pc := 147) 174 dX12_mean_147 rfl h1 (pj_aload_n hM (pc := 150) dX12_mean_150 rfl rfl (pj_getF hM (pc := 151) (t := 60) dX12_mean_151 fl_X12_7 (by decide) rfl rfl (pj_iload hM (pc := 154) dX12_mean_154 rfl (pj_aload_n hM (pc := 156) dX12_mean_156 rfl rfl (pj_getF hM (pc := 157) (t := 60) dX12_mean_157 fl_X12_7 (by decide) rfl rfl (pj_sipush hM (pc := 160) dX12_mean_160 (by decide) (pj_iload hM (pc := 163) dX12_mean_163 rfl (pj_iadd hM (pc := 165) dX12_mean_165 (pj_ial hM (pc := 166) dX12_mean_166 ki_60 (by decide) h2 (pj_ias hM (pc := 167) dX12_mean_167 ki_60 (by decide) h3 (pj_iinc hM (pc := 168) dX12_mean_168 rfl (by decide) (lls' := [(26, 0), (0, x1), (0, x2), (0, x3), (1, x4), (9, 0), (0, x6), (0, (pj_wr (x7 + 1)))]) rfl (pj_goto hM (pc := 171) dX12_mean_171 rfl (pj_kill hM [true, true, true, true, true, false, true, true] (lls' := [(26, 0), (0, x1), (0, x2), (0, x3), (1, x4), (9, 0), (0, x6), (0, (pj_wr (x7 + 1)))]) rfl ((hk142 _ hr))))))))))))))))
theorem tM_mean_142 {Go : pj_C → Prop} (hM : pj_M l yX12_mean cX12_mean 8 (some .boolean) 8 185 true g n0 o Go) (x1 : Int) (x2 : Int) (x3 : Int) (x4 : Int) (x6 : Int)  (R : (Int × Int × pj_W) ⊕ (Int × pj_W) → Prop) (h0 : ∀ r, R (Sum.inr (r)) → ((some (0, r.1) : Option pj_V), r.2) = o) (hk108 : ∀ s, R (Sum.inl s) → Go (108, [(26, 0), (0, x1), (0, x2), (0, x3), (1, s.1), (9, 0), (0, s.2.1), (9, 0)], [], s.2.2)) (s : (Int × pj_W)) : pj_TG R (fM_mean_142 x1 x2 x3 x4 x6 s) (Go (142, [(26, 0), (0, x1), (0, x2), (0, x3), (1, x4), (9, 0), (0, x6), (0, s.1)], [], s.2)) := by
  unfold fM_mean_142
  exact pj_tLp (G := fun s : (Int × pj_W) => Go (142, [(26, 0), (0, x1), (0, x2), (0, x3), (1, x4), (9, 0), (0, x6), (0, s.1)], [], s.2)) (fun s => tM_mean_142b hM x1 x2 x3 x4 x6 s.1 s.2  _ (fun r h => h0 r h) (fun s h => hk108 s h) (fun s h => h)) s
theorem tM_mean_108b {Go : pj_C → Prop} (hM : pj_M l yX12_mean cX12_mean 8 (some .boolean) 8 185 true g n0 o Go) (x1 : Int) (x2 : Int) (x3 : Int) (x4 : Int) (x6 : Int) (w : pj_W)  (R : (Int × Int × pj_W) ⊕ (Int × pj_W) → Prop) (h0 : ∀ r, R (Sum.inr (r)) → ((some (0, r.1) : Option pj_V), r.2) = o) (hk108 : ∀ s, R (Sum.inl s) → Go (108, [(26, 0), (0, x1), (0, x2), (0, x3), (1, s.1), (9, 0), (0, s.2.1), (9, 0)], [], s.2.2)) : pj_TG R (fM_mean_108b x1 x2 x3 x4 x6 w) (Go (108, [(26, 0), (0, x1), (0, x2), (0, x3), (1, x4), (9, 0), (0, x6), (9, 0)], [], w)) := by
  unfold fM_mean_108b
  refine pj_map (fun k => pj_iload hM (pc := 108) dX12_mean_108 rfl (pj_iload_n hM (pc := 110) dX12_mean_110 rfl k)) ?_
  refine pj_tif (fun h1 => ?_) (fun h1 => ?_)
  · refine pj_tbind (fun p2 h3 => ?_)
    refine pj_tgd (fun h4 => ?_)
    exact pj_tret (fun hr => pj_ic_ge_t hM (pc := 111) dX12_mean_111 rfl h1 (pj_aload_n hM (pc := 180) dX12_mean_180 rfl rfl (pj_lload hM (pc := 181) dX12_mean_181 rfl (pj_iload_n hM (pc := 183) dX12_mean_183 rfl (pj_i2l hM (pc := 184) dX12_mean_184 (pj_cV hM (pc := 185) (cM_tellsBy x4 x3 w p2 h3) dX12_mean_185 mf_X12_tellsBy mv_X12_tellsBy ml_X12_413 kc_26 rfl rfl (by decide) rfl rfl (pj_ret hM (pc := 188) dX12_mean_188 ⟨_, rfl, h4⟩ (h0 ((p2.1, p2.2)) hr) rfl)))))))
  refine pj_tbind (fun p5 h6 => ?_)
  refine pj_tbind (fun p7 h8 => ?_)
  refine pj_tgd (fun h9 => ?_)
  refine pj_map (fun k => pj_ic_ge_f hM (pc := 111) 180 dX12_mean_111 rfl h1 (pj_aload_n hM (pc := 114) dX12_mean_114 rfl rfl (pj_iload_n hM (pc := 115) dX12_mean_115 rfl (pj_iload hM (pc := 116) dX12_mean_116 rfl (pj_iadd hM (pc := 118) dX12_mean_118 (pj_cVv hM (pc := 119) (cM_lives (pj_wr (x2 + x6)) w p5 h6) dX12_mean_119 mf_X12_lives mv_X12_lives ml_X12_443 kc_26 rfl rfl (by decide) rfl rfl (pj_lload hM (pc := 122) dX12_mean_122 rfl (pj_aload_n hM (pc := 124) dX12_mean_124 rfl rfl (pj_getF hM (pc := 125) (t := 60) dX12_mean_125 fl_X12_7 (by decide) rfl rfl (pj_iload_n hM (pc := 128) dX12_mean_128 rfl (pj_cS hM (pc := 129) (cM_finderRow x1 p5 p7 h8) dX12_mean_129 mf_X12_finderRow ms_X12_finderRow ml_X12_274 rfl rfl rfl rfl (pj_iconst hM (pc := 132) dX12_mean_132 (by decide) (pj_iadd hM (pc := 133) dX12_mean_133 (pj_ial hM (pc := 134) dX12_mean_134 ki_60 (by decide) h9 (pj_i2l hM (pc := 135) dX12_mean_135 (pj_ladd hM (pc := 136) dX12_mean_136 (pj_lstore hM (pc := 137) dX12_mean_137 (by decide) (lls' := [(26, 0), (0, x1), (0, x2), (0, x3), (1, (pj_wl (x4 + (p5 60 0 (pj_wr (p7 + 4)))))), (9, 0), (0, x6), (9, 0)]) rfl (pj_iconst hM (pc := 139) dX12_mean_139 (by decide) (pj_istore hM (pc := 140) dX12_mean_140 (by decide) (lls' := [(26, 0), (0, x1), (0, x2), (0, x3), (1, (pj_wl (x4 + (p5 60 0 (pj_wr (p7 + 4)))))), (9, 0), (0, x6), (0, 0)]) rfl (pj_kill hM [true, true, true, true, true, false, true, true] (lls' := [(26, 0), (0, x1), (0, x2), (0, x3), (1, (pj_wl (x4 + (p5 60 0 (pj_wr (p7 + 4)))))), (9, 0), (0, x6), (0, 0)]) rfl k)))))))))))))))))))) ?_
  exact tM_mean_142 hM x1 x2 x3 (pj_wl (x4 + (p5 60 0 (pj_wr (p7 + 4))))) x6 _ h0 hk108 _
theorem tM_mean_108 {Go : pj_C → Prop} (hM : pj_M l yX12_mean cX12_mean 8 (some .boolean) 8 185 true g n0 o Go) (x1 : Int) (x2 : Int) (x3 : Int)  (R : Int × pj_W → Prop) (h0 : ∀ r, R (r) → ((some (0, r.1) : Option pj_V), r.2) = o) (s : (Int × Int × pj_W)) : pj_TG R (fM_mean_108 x1 x2 x3 s) (Go (108, [(26, 0), (0, x1), (0, x2), (0, x3), (1, s.1), (9, 0), (0, s.2.1), (9, 0)], [], s.2.2)) := by
  unfold fM_mean_108
  exact pj_tLp (G := fun s : (Int × Int × pj_W) => Go (108, [(26, 0), (0, x1), (0, x2), (0, x3), (1, s.1), (9, 0), (0, s.2.1), (9, 0)], [], s.2.2)) (fun s => tM_mean_108b hM x1 x2 x3 s.1 s.2.1 s.2.2  _ (fun r h => h0 r h)  (fun s h => h)) s
theorem tM_mean_70b {Go : pj_C → Prop} (hM : pj_M l yX12_mean cX12_mean 8 (some .boolean) 8 185 true g n0 o Go) (x1 : Int) (x2 : Int) (x3 : Int) (x4 : Int) (w : pj_W)  (R : (Int × pj_W) ⊕ (Int × pj_W) → Prop) (h0 : ∀ r, R (Sum.inr (r)) → ((some (0, r.1) : Option pj_V), r.2) = o) (hk70 : ∀ s, R (Sum.inl s) → Go (70, [(26, 0), (0, x1), (0, x2), (0, x3), (0, s.1), (9, 0), (9, 0), (9, 0)], [], s.2)) : pj_TG R (fM_mean_70b x1 x2 x3 x4 w) (Go (70, [(26, 0), (0, x1), (0, x2), (0, x3), (0, x4), (9, 0), (9, 0), (9, 0)], [], w)) := by
  unfold fM_mean_70b
  refine pj_map (fun k => pj_iload hM (pc := 70) dX12_mean_70 rfl (pj_sipush hM (pc := 72) dX12_mean_72 (by decide) k)) ?_
  refine pj_tif (fun h1 => ?_) (fun h1 => ?_)
  · refine pj_tmap ?_
    refine pj_map (fun k => pj_ic_ge_t hM (pc := 75) dX12_mean_75 rfl h1 (pj_lconst hM (pc := 102) (z := 0) dX12_mean_102 rfl (by decide) (pj_lstore hM (pc := 103) dX12_mean_103 (by decide) (lls' := [(26, 0), (0, x1), (0, x2), (0, x3), (1, 0), (9, 0), (9, 0), (9, 0)]) rfl (pj_iconst hM (pc := 105) dX12_mean_105 (by decide) (pj_istore hM (pc := 106) dX12_mean_106 (by decide) (lls' := [(26, 0), (0, x1), (0, x2), (0, x3), (1, 0), (9, 0), (0, 0), (9, 0)]) rfl (pj_kill hM [true, true, true, true, true, false, true, false] (lls' := [(26, 0), (0, x1), (0, x2), (0, x3), (1, 0), (9, 0), (0, 0), (9, 0)]) rfl k)))))) ?_
    exact tM_mean_108 hM x1 x2 x3 _ h0 _
  refine pj_tgd (fun h2 => ?_)
  refine pj_tgd (fun h3 => ?_)
  exact pj_tret (fun hr => pj_ic_ge_f hM (pc := 75) 102 dX12_mean_75 rfl h1 (pj_aload_n hM (pc := 78) dX12_mean_78 rfl rfl (pj_getF hM (pc := 79) (t := 60) dX12_mean_79 fl_X12_7 (by decide) rfl rfl (pj_sipush hM (pc := 82) dX12_mean_82 (by decide) (pj_iload hM (pc := 85) dX12_mean_85 rfl (pj_iadd hM (pc := 87) dX12_mean_87 (pj_aload_n hM (pc := 88) dX12_mean_88 rfl rfl (pj_getF hM (pc := 89) (t := 60) dX12_mean_89 fl_X12_7 (by decide) rfl rfl (pj_iload hM (pc := 92) dX12_mean_92 rfl (pj_ial hM (pc := 94) dX12_mean_94 ki_60 (by decide) h2 (pj_ias hM (pc := 95) dX12_mean_95 ki_60 (by decide) h3 (pj_iinc hM (pc := 96) dX12_mean_96 rfl (by decide) (lls' := [(26, 0), (0, x1), (0, x2), (0, x3), (0, (pj_wr (x4 + 1))), (9, 0), (9, 0), (9, 0)]) rfl (pj_goto hM (pc := 99) dX12_mean_99 rfl (pj_kill hM [true, true, true, true, true, false, false, false] (lls' := [(26, 0), (0, x1), (0, x2), (0, x3), (0, (pj_wr (x4 + 1))), (9, 0), (9, 0), (9, 0)]) rfl ((hk70 _ hr))))))))))))))))
theorem tM_mean_70 {Go : pj_C → Prop} (hM : pj_M l yX12_mean cX12_mean 8 (some .boolean) 8 185 true g n0 o Go) (x1 : Int) (x2 : Int) (x3 : Int)  (R : Int × pj_W → Prop) (h0 : ∀ r, R (r) → ((some (0, r.1) : Option pj_V), r.2) = o) (s : (Int × pj_W)) : pj_TG R (fM_mean_70 x1 x2 x3 s) (Go (70, [(26, 0), (0, x1), (0, x2), (0, x3), (0, s.1), (9, 0), (9, 0), (9, 0)], [], s.2)) := by
  unfold fM_mean_70
  exact pj_tLp (G := fun s : (Int × pj_W) => Go (70, [(26, 0), (0, x1), (0, x2), (0, x3), (0, s.1), (9, 0), (9, 0), (9, 0)], [], s.2)) (fun s => tM_mean_70b hM x1 x2 x3 s.1 s.2  _ (fun r h => h0 r h)  (fun s h => h)) s
theorem tM_mean {Go : pj_C → Prop} (hM : pj_M l yX12_mean cX12_mean 8 (some .boolean) 8 185 true g n0 o Go) (x1 : Int) (x2 : Int) (x3 : Int) (w : pj_W)  (R : Int × pj_W → Prop) (h0 : ∀ r, R (r) → ((some (0, r.1) : Option pj_V), r.2) = o) : pj_TG R (fM_mean x1 x2 x3 w) (Go (0, [(26, 0), (0, x1), (0, x2), (0, x3), (9, 0), (9, 0), (9, 0), (9, 0)], [], w)) := by
  unfold fM_mean
  refine pj_tbind (fun p1 h2 => ?_)
  refine pj_map (fun k => pj_aload_n hM (pc := 0) dX12_mean_0 rfl rfl (pj_iload_n hM (pc := 1) dX12_mean_1 rfl (pj_cV hM (pc := 2) (cM_isFinder x1 w p1 h2) dX12_mean_2 mf_X12_isFinder mv_X12_isFinder ml_X12_271 kc_26 rfl rfl (by decide) rfl rfl k))) ?_
  refine pj_tif (fun h3 => ?_) (fun h3 => ?_)
  · refine pj_map (fun k => pj_if_eq_t hM (pc := 5) dX12_mean_5 rfl h3 (pj_kill hM [true, false, false, false, false, false, false, false] (lls' := [(26, 0), (9, 0), (9, 0), (9, 0), (9, 0), (9, 0), (9, 0), (9, 0)]) rfl k)) ?_
    exact tM_mean_43 hM w _ h0
  refine pj_tbind (fun p4 h5 => ?_)
  refine pj_map (fun k => pj_if_eq_f hM (pc := 5) 43 dX12_mean_5 rfl h3 (pj_iload_n hM (pc := 8) dX12_mean_8 rfl (pj_i2l hM (pc := 9) dX12_mean_9 (pj_lconst hM (pc := 10) (z := 0) dX12_mean_10 rfl (by decide) (pj_ldc2 hM (pc := 11) (z := 9999) dX12_mean_11 kn_X12_441 rfl (by decide) (pj_cS hM (pc := 14) (cM_isFrom x2 0 9999 w p4 h5) dX12_mean_14 mf_X12_isFrom ms_X12_isFrom ml_X12_289 rfl rfl rfl rfl k)))))) ?_
  refine pj_tif (fun h6 => ?_) (fun h6 => ?_)
  · refine pj_map (fun k => pj_if_eq_t hM (pc := 17) dX12_mean_17 rfl h6 (pj_kill hM [true, false, false, false, false, false, false, false] (lls' := [(26, 0), (9, 0), (9, 0), (9, 0), (9, 0), (9, 0), (9, 0), (9, 0)]) rfl k)) ?_
    exact tM_mean_43 hM w _ h0
  refine pj_tbind (fun p7 h8 => ?_)
  refine pj_map (fun k => pj_if_eq_f hM (pc := 17) 43 dX12_mean_17 rfl h6 (pj_iload_n hM (pc := 20) dX12_mean_20 rfl (pj_i2l hM (pc := 21) dX12_mean_21 (pj_lconst hM (pc := 22) (z := 1) dX12_mean_22 rfl (by decide) (pj_ldc2 hM (pc := 23) (z := 20) dX12_mean_23 kn_X12_449 rfl (by decide) (pj_cS hM (pc := 26) (cM_isFrom x3 1 20 w p7 h8) dX12_mean_26 mf_X12_isFrom ms_X12_isFrom ml_X12_289 rfl rfl rfl rfl k)))))) ?_
  refine pj_tif (fun h9 => ?_) (fun h9 => ?_)
  · refine pj_map (fun k => pj_if_eq_t hM (pc := 29) dX12_mean_29 rfl h9 (pj_kill hM [true, false, false, false, false, false, false, false] (lls' := [(26, 0), (9, 0), (9, 0), (9, 0), (9, 0), (9, 0), (9, 0), (9, 0)]) rfl k)) ?_
    exact tM_mean_43 hM w _ h0
  refine pj_map (fun k => pj_if_eq_f hM (pc := 29) 43 dX12_mean_29 rfl h9 (pj_iload_n hM (pc := 32) dX12_mean_32 rfl (pj_iload_n hM (pc := 33) dX12_mean_33 rfl (pj_iadd hM (pc := 34) dX12_mean_34 (pj_iconst hM (pc := 35) dX12_mean_35 (by decide) (pj_isub hM (pc := 36) dX12_mean_36 (pj_sipush hM (pc := 37) dX12_mean_37 (by decide) k))))))) ?_
  refine pj_tif (fun h10 => ?_) (fun h10 => ?_)
  · refine pj_map (fun k => pj_ic_le_t hM (pc := 40) dX12_mean_40 rfl h10 (pj_aload_n hM (pc := 49) dX12_mean_49 rfl rfl (pj_getF hM (pc := 50) (t := 60) dX12_mean_50 fl_X12_7 (by decide) rfl rfl (pj_bipush hM (pc := 53) dX12_mean_53 (by decide) (pj_ial hM (pc := 55) dX12_mean_55 ki_60 (by decide) (by decide) (pj_iconst hM (pc := 56) dX12_mean_56 (by decide) k)))))) ?_
    refine pj_tif (fun h11 => ?_) (fun h11 => ?_)
    · refine pj_tbind (fun p12 h13 => ?_)
      refine pj_tgd (fun h14 => ?_)
      exact pj_tret (fun hr => pj_ic_ne_f hM (pc := 57) 67 dX12_mean_57 rfl (fun q => q h11) (pj_aload_n hM (pc := 60) dX12_mean_60 rfl rfl (pj_bipush hM (pc := 61) dX12_mean_61 (by decide) (pj_cV hM (pc := 63) (cM_is 6 w p12 h13) dX12_mean_63 mf_X12_is mv_X12_is ml_X12_85 kc_26 rfl rfl (by decide) rfl rfl (pj_ret hM (pc := 66) dX12_mean_66 ⟨_, rfl, h14⟩ (h0 ((p12.1, p12.2)) hr) rfl)))))
    refine pj_map (fun k => pj_ic_ne_t hM (pc := 57) dX12_mean_57 rfl h11 (pj_iconst hM (pc := 67) dX12_mean_67 (by decide) (pj_istore hM (pc := 68) dX12_mean_68 (by decide) (lls' := [(26, 0), (0, x1), (0, x2), (0, x3), (0, 0), (9, 0), (9, 0), (9, 0)]) rfl (pj_kill hM [true, true, true, true, true, false, false, false] (lls' := [(26, 0), (0, x1), (0, x2), (0, x3), (0, 0), (9, 0), (9, 0), (9, 0)]) rfl k)))) ?_
    exact tM_mean_70 hM x1 x2 x3 _ h0 _
  refine pj_map (fun k => pj_ic_le_f hM (pc := 40) 49 dX12_mean_40 rfl h10 (pj_kill hM [true, false, false, false, false, false, false, false] (lls' := [(26, 0), (9, 0), (9, 0), (9, 0), (9, 0), (9, 0), (9, 0), (9, 0)]) rfl k)) ?_
  exact tM_mean_43 hM w _ h0
theorem cM_mean (x1 : Int) (x2 : Int) (x3 : Int)  (w : pj_W) (r : Int × pj_W) (h : fM_mean x1 x2 x3 w = some r) : pj_Cn l yX12_mean cX12_mean 8 (some .boolean) 8 185 true g [(26, 0), (0, x1), (0, x2), (0, x3)] w ((some (0, r.1) : Option pj_V), r.2) :=
  pj_Cn_of rfl (Nat.le_of_ble_eq_true rfl) (lls := [(26, 0), (0, x1), (0, x2), (0, x3), (9, 0), (9, 0), (9, 0), (9, 0)]) rfl (fun Go hM => tM_mean hM x1 x2 x3 w (fun x => ((some (0, x.1) : Option pj_V), x.2) = ((some (0, r.1) : Option pj_V), r.2)) (fun r h => h) r h rfl)
noncomputable def fM_needs_53 (x1 : Int) (x3 : Int) (s0 : Int) (s1 : Int) (w : pj_W) : Option ((Int × Int) ⊕ (Int × pj_W)) :=
  some (Sum.inl ((pj_wr (s0 + s1)), (pj_wr (x3 + 1))))
noncomputable def fM_needs_52 (x1 : Int) (x3 : Int) (s0 : Int) (w : pj_W) : Option ((Int × Int) ⊕ (Int × pj_W)) :=
  fM_needs_53 x1 x3 s0 0 w
noncomputable def fM_needs_18b (x1 : Int) (w : pj_W) (x2 : Int) (x3 : Int) : Option ((Int × Int) ⊕ (Int × pj_W)) :=
  if (w 60 0 2) ≤ x3 then ((fM_gives x2 w).bind fun p2 => (some (Sum.inr ((p2.1, p2.2))))) else ((fM_isThere x3 w).bind fun p4 => (if p4 = 0 then (fM_needs_52 x1 x3 x2 w) else ((fM_lastOn x3 w).bind fun p7 => (if p7 = (pj_shl 1 x1) then (fM_needs_52 x1 x3 x2 w) else (fM_needs_53 x1 x3 x2 1 w)))))
noncomputable def fM_needs_18 (x1 : Int) (w : pj_W) (s : (Int × Int)) : Option (Int × pj_W) := pj_Lp (fun s : (Int × Int) => fM_needs_18b x1 w s.1 s.2) s
noncomputable def fM_needs (x1 : Int) (w : pj_W) : Option (Int × pj_W) :=
  (fM_isFinder x1 w).bind fun p1 => (if p1 = 0 then ((fM_refuse 1 w).bind fun p4 => (some ((p4.1, p4.2)))) else (fM_needs_18 x1 w (0, 0)))
theorem tM_needs_53 {Go : pj_C → Prop} (hM : pj_M l yX12_needs cX12_needs 4 (some .int) 3 67 true g n0 o Go) (x1 : Int) (x3 : Int) (s0 : Int) (s1 : Int) (w : pj_W)  (R : (Int × Int) ⊕ (Int × pj_W) → Prop) (h0 : ∀ r, R (Sum.inr (r)) → ((some (0, r.1) : Option pj_V), r.2) = o) (hk18 : ∀ s, R (Sum.inl s) → Go (18, [(26, 0), (0, x1), (0, s.1), (0, s.2)], [], w)) : pj_TG R (fM_needs_53 x1 x3 s0 s1 w) (Go (53, [(26, 0), (0, x1), (9, 0), (0, x3)], [(0, s1), (0, s0)], w)) := by
  unfold fM_needs_53
  exact pj_tret (fun hr => pj_iadd hM (pc := 53) dX12_needs_53 (pj_istore_n hM (pc := 54) dX12_needs_54 (by decide) (lls' := [(26, 0), (0, x1), (0, (pj_wr (s0 + s1))), (0, x3)]) rfl (pj_iinc hM (pc := 55) dX12_needs_55 rfl (by decide) (lls' := [(26, 0), (0, x1), (0, (pj_wr (s0 + s1))), (0, (pj_wr (x3 + 1)))]) rfl (pj_goto hM (pc := 58) dX12_needs_58 rfl (pj_kill hM [true, true, true, true] (lls' := [(26, 0), (0, x1), (0, (pj_wr (s0 + s1))), (0, (pj_wr (x3 + 1)))]) rfl ((hk18 _ hr)))))))
theorem tM_needs_52 {Go : pj_C → Prop} (hM : pj_M l yX12_needs cX12_needs 4 (some .int) 3 67 true g n0 o Go) (x1 : Int) (x3 : Int) (s0 : Int) (w : pj_W)  (R : (Int × Int) ⊕ (Int × pj_W) → Prop) (h0 : ∀ r, R (Sum.inr (r)) → ((some (0, r.1) : Option pj_V), r.2) = o) (hk18 : ∀ s, R (Sum.inl s) → Go (18, [(26, 0), (0, x1), (0, s.1), (0, s.2)], [], w)) : pj_TG R (fM_needs_52 x1 x3 s0 w) (Go (52, [(26, 0), (0, x1), (9, 0), (0, x3)], [(0, s0)], w)) := by
  unfold fM_needs_52
  refine pj_map (fun k => pj_iconst hM (pc := 52) dX12_needs_52 (by decide) (pj_kill hM [true, true, false, true] (lls' := [(26, 0), (0, x1), (9, 0), (0, x3)]) rfl k)) ?_
  exact tM_needs_53 hM x1 x3 s0 0 w _ h0 hk18
theorem tM_needs_18b {Go : pj_C → Prop} (hM : pj_M l yX12_needs cX12_needs 4 (some .int) 3 67 true g n0 o Go) (x1 : Int) (w : pj_W) (x2 : Int) (x3 : Int)  (R : (Int × Int) ⊕ (Int × pj_W) → Prop) (h0 : ∀ r, R (Sum.inr (r)) → ((some (0, r.1) : Option pj_V), r.2) = o) (hk18 : ∀ s, R (Sum.inl s) → Go (18, [(26, 0), (0, x1), (0, s.1), (0, s.2)], [], w)) : pj_TG R (fM_needs_18b x1 w x2 x3) (Go (18, [(26, 0), (0, x1), (0, x2), (0, x3)], [], w)) := by
  unfold fM_needs_18b
  refine pj_map (fun k => pj_iload_n hM (pc := 18) dX12_needs_18 rfl (pj_aload_n hM (pc := 19) dX12_needs_19 rfl rfl (pj_getF hM (pc := 20) (t := 60) dX12_needs_20 fl_X12_7 (by decide) rfl rfl (pj_iconst hM (pc := 23) dX12_needs_23 (by decide) (pj_ial hM (pc := 24) dX12_needs_24 ki_60 (by decide) (by decide) k))))) ?_
  refine pj_tif (fun h1 => ?_) (fun h1 => ?_)
  · refine pj_tbind (fun p2 h3 => ?_)
    exact pj_tret (fun hr => pj_ic_ge_t hM (pc := 25) dX12_needs_25 rfl h1 (pj_aload_n hM (pc := 61) dX12_needs_61 rfl rfl (pj_iload_n hM (pc := 62) dX12_needs_62 rfl (pj_cV hM (pc := 63) (cM_gives x2 w p2 h3) dX12_needs_63 mf_X12_gives mv_X12_gives ml_X12_82 kc_26 rfl rfl (by decide) rfl rfl (pj_ret hM (pc := 66) dX12_needs_66 ⟨_, rfl⟩ (h0 ((p2.1, p2.2)) hr) rfl)))))
  refine pj_tbind (fun p4 h5 => ?_)
  refine pj_map (fun k => pj_ic_ge_f hM (pc := 25) 61 dX12_needs_25 rfl h1 (pj_iload_n hM (pc := 28) dX12_needs_28 rfl (pj_aload_n hM (pc := 29) dX12_needs_29 rfl rfl (pj_iload_n hM (pc := 30) dX12_needs_30 rfl (pj_cV hM (pc := 31) (cM_isThere x3 w p4 h5) dX12_needs_31 mf_X12_isThere mv_X12_isThere ml_X12_268 kc_26 rfl rfl (by decide) rfl rfl k))))) ?_
  refine pj_tif (fun h6 => ?_) (fun h6 => ?_)
  · refine pj_map (fun k => pj_if_eq_t hM (pc := 34) dX12_needs_34 rfl h6 (pj_kill hM [true, true, false, true] (lls' := [(26, 0), (0, x1), (9, 0), (0, x3)]) rfl k)) ?_
    exact tM_needs_52 hM x1 x3 x2 w _ h0 hk18
  refine pj_tbind (fun p7 h8 => ?_)
  refine pj_map (fun k => pj_if_eq_f hM (pc := 34) 52 dX12_needs_34 rfl h6 (pj_aload_n hM (pc := 37) dX12_needs_37 rfl rfl (pj_iload_n hM (pc := 38) dX12_needs_38 rfl (pj_cV hM (pc := 39) (cM_lastOn x3 w p7 h8) dX12_needs_39 mf_X12_lastOn mv_X12_lastOn ml_X12_337 kc_26 rfl rfl (by decide) rfl rfl (pj_iconst hM (pc := 42) dX12_needs_42 (by decide) (pj_iload_n hM (pc := 43) dX12_needs_43 rfl (pj_ishl hM (pc := 44) dX12_needs_44 k))))))) ?_
  refine pj_tif (fun h9 => ?_) (fun h9 => ?_)
  · refine pj_map (fun k => pj_ic_eq_t hM (pc := 45) dX12_needs_45 rfl h9 (pj_kill hM [true, true, false, true] (lls' := [(26, 0), (0, x1), (9, 0), (0, x3)]) rfl k)) ?_
    exact tM_needs_52 hM x1 x3 x2 w _ h0 hk18
  refine pj_map (fun k => pj_ic_eq_f hM (pc := 45) 52 dX12_needs_45 rfl h9 (pj_iconst hM (pc := 48) dX12_needs_48 (by decide) (pj_goto hM (pc := 49) dX12_needs_49 rfl (pj_kill hM [true, true, false, true] (lls' := [(26, 0), (0, x1), (9, 0), (0, x3)]) rfl k)))) ?_
  exact tM_needs_53 hM x1 x3 x2 1 w _ h0 hk18
theorem tM_needs_18 {Go : pj_C → Prop} (hM : pj_M l yX12_needs cX12_needs 4 (some .int) 3 67 true g n0 o Go) (x1 : Int) (w : pj_W)  (R : Int × pj_W → Prop) (h0 : ∀ r, R (r) → ((some (0, r.1) : Option pj_V), r.2) = o) (s : (Int × Int)) : pj_TG R (fM_needs_18 x1 w s) (Go (18, [(26, 0), (0, x1), (0, s.1), (0, s.2)], [], w)) := by
  unfold fM_needs_18
  exact pj_tLp (G := fun s : (Int × Int) => Go (18, [(26, 0), (0, x1), (0, s.1), (0, s.2)], [], w)) (fun s => tM_needs_18b hM x1 w s.1 s.2  _ (fun r h => h0 r h)  (fun s h => h)) s
theorem tM_needs {Go : pj_C → Prop} (hM : pj_M l yX12_needs cX12_needs 4 (some .int) 3 67 true g n0 o Go) (x1 : Int) (w : pj_W)  (R : Int × pj_W → Prop) (h0 : ∀ r, R (r) → ((some (0, r.1) : Option pj_V), r.2) = o) : pj_TG R (fM_needs x1 w) (Go (0, [(26, 0), (0, x1), (9, 0), (9, 0)], [], w)) := by
  unfold fM_needs
  refine pj_tbind (fun p1 h2 => ?_)
  refine pj_map (fun k => pj_aload_n hM (pc := 0) dX12_needs_0 rfl rfl (pj_iload_n hM (pc := 1) dX12_needs_1 rfl (pj_cV hM (pc := 2) (cM_isFinder x1 w p1 h2) dX12_needs_2 mf_X12_isFinder mv_X12_isFinder ml_X12_271 kc_26 rfl rfl (by decide) rfl rfl k))) ?_
  refine pj_tif (fun h3 => ?_) (fun h3 => ?_)
  · refine pj_tbind (fun p4 h5 => ?_)
    exact pj_tret (fun hr => pj_if_ne_f hM (pc := 5) 14 dX12_needs_5 rfl (fun q => q h3) (pj_aload_n hM (pc := 8) dX12_needs_8 rfl rfl (pj_iconst hM (pc := 9) dX12_needs_9 (by decide) (pj_cV hM (pc := 10) (cM_refuse 1 w p4 h5) dX12_needs_10 mf_X12_refuse mv_X12_refuse ml_X12_78 kc_26 rfl rfl (by decide) rfl rfl (pj_ret hM (pc := 13) dX12_needs_13 ⟨_, rfl⟩ (h0 ((p4.1, p4.2)) hr) rfl)))))
  refine pj_map (fun k => pj_if_ne_t hM (pc := 5) dX12_needs_5 rfl h3 (pj_iconst hM (pc := 14) dX12_needs_14 (by decide) (pj_istore_n hM (pc := 15) dX12_needs_15 (by decide) (lls' := [(26, 0), (0, x1), (0, 0), (9, 0)]) rfl (pj_iconst hM (pc := 16) dX12_needs_16 (by decide) (pj_istore_n hM (pc := 17) dX12_needs_17 (by decide) (lls' := [(26, 0), (0, x1), (0, 0), (0, 0)]) rfl (pj_kill hM [true, true, true, true] (lls' := [(26, 0), (0, x1), (0, 0), (0, 0)]) rfl k)))))) ?_
  exact tM_needs_18 hM x1 w _ h0 _
theorem cM_needs (x1 : Int)  (w : pj_W) (r : Int × pj_W) (h : fM_needs x1 w = some r) : pj_Cn l yX12_needs cX12_needs 4 (some .int) 3 67 true g [(26, 0), (0, x1)] w ((some (0, r.1) : Option pj_V), r.2) :=
  pj_Cn_of rfl (Nat.le_of_ble_eq_true rfl) (lls := [(26, 0), (0, x1), (9, 0), (9, 0)]) rfl (fun Go hM => tM_needs hM x1 w (fun x => ((some (0, x.1) : Option pj_V), x.2) = ((some (0, r.1) : Option pj_V), r.2)) (fun r h => h) r h rfl)
noncomputable def fM_odds_100b (x1 : Int) (x2 : Int) (w : pj_W) (x5 : Int) (x7 : Int) (x9 : Int) : Option ((Int × Int × Int) ⊕ (Int × pj_W)) :=
  (fM_leftOn x1 w).bind fun p1 => (if p1 ≤ x9 then ((fM_tellsBy x5 x7 w).bind fun p4 => (if p4.1 = 0 ∨ p4.1 = 1 then (some (Sum.inr ((p4.1, p4.2)))) else none)) else (some (Sum.inl ((pj_wl (x5 * (pj_wl (16 - x2)))), (pj_wl (x7 * 16)), (pj_wr (x9 + 1))))))
noncomputable def fM_odds_100 (x1 : Int) (x2 : Int) (w : pj_W) (s : (Int × Int × Int)) : Option (Int × pj_W) := pj_Lp (fun s : (Int × Int × Int) => fM_odds_100b x1 x2 w s.1 s.2.1 s.2.2) s
noncomputable def fM_odds_92 (x1 : Int) (x2 : Int) (s0 : Int) (w : pj_W) : Option (Int × pj_W) :=
  fM_odds_100 x1 x2 w (s0, 1, 0)
noncomputable def fM_odds_29  (w : pj_W) : Option (Int × pj_W) :=
  (fM_is 1 w).bind fun p1 => (if p1.1 = 0 ∨ p1.1 = 1 then (some ((p1.1, p1.2))) else none)
noncomputable def fM_odds (x1 : Int) (x2 : Int) (x3 : Int) (w : pj_W) : Option (Int × pj_W) :=
  (fM_isFind x1 w).bind fun p1 => (if p1 = 0 then (fM_odds_29 w) else ((fM_isFrom x2 0 16 w).bind fun p4 => (if p4 = 0 then (fM_odds_29 w) else (if x3 < 0 then (fM_odds_29 w) else (if x3 ≤ 1 then ((fM_wrongLast x1 w).bind fun p9 => (if p9 ≤ 0 then ((fM_leftOn x1 w).bind fun p12 => (if p12 ≤ 12 then (if x3 = 0 then (fM_odds_92 x1 x2 1 w) else ((fM_findRow 0 x1 w).bind fun p16 => (if 0 ≤ (pj_wr (p16 + 1)) ∧ (pj_wr (p16 + 1)) < 8400 then (fM_odds_92 x1 x2 (w 60 0 (pj_wr (p16 + 1))) w) else none))) else ((fM_is 7 w).bind fun p19 => (if p19.1 = 0 ∨ p19.1 = 1 then (some ((p19.1, p19.2))) else none)))) else ((fM_is p9 w).bind fun p22 => (if p22.1 = 0 ∨ p22.1 = 1 then (some ((p22.1, p22.2))) else none)))) else (fM_odds_29 w))))))
theorem tM_odds_100b {Go : pj_C → Prop} (hM : pj_M l yX12_odds cX12_odds 10 (some .boolean) 3 65 true g n0 o Go) (x1 : Int) (x2 : Int) (w : pj_W) (x5 : Int) (x7 : Int) (x9 : Int)  (R : (Int × Int × Int) ⊕ (Int × pj_W) → Prop) (h0 : ∀ r, R (Sum.inr (r)) → ((some (0, r.1) : Option pj_V), r.2) = o) (hk100 : ∀ s, R (Sum.inl s) → Go (100, [(26, 0), (0, x1), (0, x2), (9, 0), (9, 0), (1, s.1), (9, 0), (1, s.2.1), (9, 0), (0, s.2.2)], [], w)) : pj_TG R (fM_odds_100b x1 x2 w x5 x7 x9) (Go (100, [(26, 0), (0, x1), (0, x2), (9, 0), (9, 0), (1, x5), (9, 0), (1, x7), (9, 0), (0, x9)], [], w)) := by
  unfold fM_odds_100b
  refine pj_tbind (fun p1 h2 => ?_)
  refine pj_map (fun k => pj_iload hM (pc := 100) dX12_odds_100 rfl (pj_aload_n hM (pc := 102) dX12_odds_102 rfl rfl (pj_iload_n hM (pc := 103) dX12_odds_103 rfl (pj_cV hM (pc := 104) (cM_leftOn x1 w p1 h2) dX12_odds_104 mf_X12_leftOn mv_X12_leftOn ml_X12_370 kc_26 rfl rfl (by decide) rfl rfl k)))) ?_
  refine pj_tif (fun h3 => ?_) (fun h3 => ?_)
  · refine pj_tbind (fun p4 h5 => ?_)
    refine pj_tgd (fun h6 => ?_)
    exact pj_tret (fun hr => pj_ic_ge_t hM (pc := 107) dX12_odds_107 rfl h3 (pj_aload_n hM (pc := 135) dX12_odds_135 rfl rfl (pj_lload hM (pc := 136) dX12_odds_136 rfl (pj_lload hM (pc := 138) dX12_odds_138 rfl (pj_cV hM (pc := 140) (cM_tellsBy x5 x7 w p4 h5) dX12_odds_140 mf_X12_tellsBy mv_X12_tellsBy ml_X12_413 kc_26 rfl rfl (by decide) rfl rfl (pj_ret hM (pc := 143) dX12_odds_143 ⟨_, rfl, h6⟩ (h0 ((p4.1, p4.2)) hr) rfl))))))
  exact pj_tret (fun hr => pj_ic_ge_f hM (pc := 107) 135 dX12_odds_107 rfl h3 (pj_lload hM (pc := 110) dX12_odds_110 rfl (pj_ldc2 hM (pc := 112) (z := 16) dX12_odds_112 kn_X12_411 rfl (by decide) (pj_iload_n hM (pc := 115) dX12_odds_115 rfl (pj_i2l hM (pc := 116) dX12_odds_116 (pj_lsub hM (pc := 117) dX12_odds_117 (pj_lmul hM (pc := 118) dX12_odds_118 (pj_lstore hM (pc := 119) dX12_odds_119 (by decide) (lls' := [(26, 0), (0, x1), (0, x2), (9, 0), (9, 0), (1, (pj_wl (x5 * (pj_wl (16 - x2))))), (9, 0), (1, x7), (9, 0), (0, x9)]) rfl (pj_lload hM (pc := 121) dX12_odds_121 rfl (pj_ldc2 hM (pc := 123) (z := 16) dX12_odds_123 kn_X12_411 rfl (by decide) (pj_lmul hM (pc := 126) dX12_odds_126 (pj_lstore hM (pc := 127) dX12_odds_127 (by decide) (lls' := [(26, 0), (0, x1), (0, x2), (9, 0), (9, 0), (1, (pj_wl (x5 * (pj_wl (16 - x2))))), (9, 0), (1, (pj_wl (x7 * 16))), (9, 0), (0, x9)]) rfl (pj_iinc hM (pc := 129) dX12_odds_129 rfl (by decide) (lls' := [(26, 0), (0, x1), (0, x2), (9, 0), (9, 0), (1, (pj_wl (x5 * (pj_wl (16 - x2))))), (9, 0), (1, (pj_wl (x7 * 16))), (9, 0), (0, (pj_wr (x9 + 1)))]) rfl (pj_goto hM (pc := 132) dX12_odds_132 rfl (pj_kill hM [true, true, true, false, false, true, false, true, false, true] (lls' := [(26, 0), (0, x1), (0, x2), (9, 0), (9, 0), (1, (pj_wl (x5 * (pj_wl (16 - x2))))), (9, 0), (1, (pj_wl (x7 * 16))), (9, 0), (0, (pj_wr (x9 + 1)))]) rfl ((hk100 _ hr)))))))))))))))))
theorem tM_odds_100 {Go : pj_C → Prop} (hM : pj_M l yX12_odds cX12_odds 10 (some .boolean) 3 65 true g n0 o Go) (x1 : Int) (x2 : Int) (w : pj_W)  (R : Int × pj_W → Prop) (h0 : ∀ r, R (r) → ((some (0, r.1) : Option pj_V), r.2) = o) (s : (Int × Int × Int)) : pj_TG R (fM_odds_100 x1 x2 w s) (Go (100, [(26, 0), (0, x1), (0, x2), (9, 0), (9, 0), (1, s.1), (9, 0), (1, s.2.1), (9, 0), (0, s.2.2)], [], w)) := by
  unfold fM_odds_100
  exact pj_tLp (G := fun s : (Int × Int × Int) => Go (100, [(26, 0), (0, x1), (0, x2), (9, 0), (9, 0), (1, s.1), (9, 0), (1, s.2.1), (9, 0), (0, s.2.2)], [], w)) (fun s => tM_odds_100b hM x1 x2 w s.1 s.2.1 s.2.2  _ (fun r h => h0 r h)  (fun s h => h)) s
theorem tM_odds_92 {Go : pj_C → Prop} (hM : pj_M l yX12_odds cX12_odds 10 (some .boolean) 3 65 true g n0 o Go) (x1 : Int) (x2 : Int) (s0 : Int) (w : pj_W)  (R : Int × pj_W → Prop) (h0 : ∀ r, R (r) → ((some (0, r.1) : Option pj_V), r.2) = o) : pj_TG R (fM_odds_92 x1 x2 s0 w) (Go (92, [(26, 0), (0, x1), (0, x2), (9, 0), (9, 0), (9, 0), (9, 0), (9, 0), (9, 0), (9, 0)], [(1, s0)], w)) := by
  unfold fM_odds_92
  refine pj_map (fun k => pj_lstore hM (pc := 92) dX12_odds_92 (by decide) (lls' := [(26, 0), (0, x1), (0, x2), (9, 0), (9, 0), (1, s0), (9, 0), (9, 0), (9, 0), (9, 0)]) rfl (pj_lconst hM (pc := 94) (z := 1) dX12_odds_94 rfl (by decide) (pj_lstore hM (pc := 95) dX12_odds_95 (by decide) (lls' := [(26, 0), (0, x1), (0, x2), (9, 0), (9, 0), (1, s0), (9, 0), (1, 1), (9, 0), (9, 0)]) rfl (pj_iconst hM (pc := 97) dX12_odds_97 (by decide) (pj_istore hM (pc := 98) dX12_odds_98 (by decide) (lls' := [(26, 0), (0, x1), (0, x2), (9, 0), (9, 0), (1, s0), (9, 0), (1, 1), (9, 0), (0, 0)]) rfl (pj_kill hM [true, true, true, false, false, true, false, true, false, true] (lls' := [(26, 0), (0, x1), (0, x2), (9, 0), (9, 0), (1, s0), (9, 0), (1, 1), (9, 0), (0, 0)]) rfl k)))))) ?_
  exact tM_odds_100 hM x1 x2 w _ h0 _
theorem tM_odds_29 {Go : pj_C → Prop} (hM : pj_M l yX12_odds cX12_odds 10 (some .boolean) 3 65 true g n0 o Go)  (w : pj_W)  (R : Int × pj_W → Prop) (h0 : ∀ r, R (r) → ((some (0, r.1) : Option pj_V), r.2) = o) : pj_TG R (fM_odds_29  w) (Go (29, [(26, 0), (9, 0), (9, 0), (9, 0), (9, 0), (9, 0), (9, 0), (9, 0), (9, 0), (9, 0)], [], w)) := by
  unfold fM_odds_29
  refine pj_tbind (fun p1 h2 => ?_)
  refine pj_tgd (fun h3 => ?_)
  exact pj_tret (fun hr => pj_aload_n hM (pc := 29) dX12_odds_29 rfl rfl (pj_iconst hM (pc := 30) dX12_odds_30 (by decide) (pj_cV hM (pc := 31) (cM_is 1 w p1 h2) dX12_odds_31 mf_X12_is mv_X12_is ml_X12_85 kc_26 rfl rfl (by decide) rfl rfl (pj_ret hM (pc := 34) dX12_odds_34 ⟨_, rfl, h3⟩ (h0 ((p1.1, p1.2)) hr) rfl))))
theorem tM_odds {Go : pj_C → Prop} (hM : pj_M l yX12_odds cX12_odds 10 (some .boolean) 3 65 true g n0 o Go) (x1 : Int) (x2 : Int) (x3 : Int) (w : pj_W)  (R : Int × pj_W → Prop) (h0 : ∀ r, R (r) → ((some (0, r.1) : Option pj_V), r.2) = o) : pj_TG R (fM_odds x1 x2 x3 w) (Go (0, [(26, 0), (0, x1), (0, x2), (0, x3), (9, 0), (9, 0), (9, 0), (9, 0), (9, 0), (9, 0)], [], w)) := by
  unfold fM_odds
  refine pj_tbind (fun p1 h2 => ?_)
  refine pj_map (fun k => pj_aload_n hM (pc := 0) dX12_odds_0 rfl rfl (pj_iload_n hM (pc := 1) dX12_odds_1 rfl (pj_cV hM (pc := 2) (cM_isFind x1 w p1 h2) dX12_odds_2 mf_X12_isFind mv_X12_isFind ml_X12_265 kc_26 rfl rfl (by decide) rfl rfl k))) ?_
  refine pj_tif (fun h3 => ?_) (fun h3 => ?_)
  · refine pj_map (fun k => pj_if_eq_t hM (pc := 5) dX12_odds_5 rfl h3 (pj_kill hM [true, false, false, false, false, false, false, false, false, false] (lls' := [(26, 0), (9, 0), (9, 0), (9, 0), (9, 0), (9, 0), (9, 0), (9, 0), (9, 0), (9, 0)]) rfl k)) ?_
    exact tM_odds_29 hM w _ h0
  refine pj_tbind (fun p4 h5 => ?_)
  refine pj_map (fun k => pj_if_eq_f hM (pc := 5) 29 dX12_odds_5 rfl h3 (pj_iload_n hM (pc := 8) dX12_odds_8 rfl (pj_i2l hM (pc := 9) dX12_odds_9 (pj_lconst hM (pc := 10) (z := 0) dX12_odds_10 rfl (by decide) (pj_ldc2 hM (pc := 11) (z := 16) dX12_odds_11 kn_X12_411 rfl (by decide) (pj_cS hM (pc := 14) (cM_isFrom x2 0 16 w p4 h5) dX12_odds_14 mf_X12_isFrom ms_X12_isFrom ml_X12_289 rfl rfl rfl rfl k)))))) ?_
  refine pj_tif (fun h6 => ?_) (fun h6 => ?_)
  · refine pj_map (fun k => pj_if_eq_t hM (pc := 17) dX12_odds_17 rfl h6 (pj_kill hM [true, false, false, false, false, false, false, false, false, false] (lls' := [(26, 0), (9, 0), (9, 0), (9, 0), (9, 0), (9, 0), (9, 0), (9, 0), (9, 0), (9, 0)]) rfl k)) ?_
    exact tM_odds_29 hM w _ h0
  refine pj_map (fun k => pj_if_eq_f hM (pc := 17) 29 dX12_odds_17 rfl h6 (pj_iload_n hM (pc := 20) dX12_odds_20 rfl k)) ?_
  refine pj_tif (fun h7 => ?_) (fun h7 => ?_)
  · refine pj_map (fun k => pj_if_lt_t hM (pc := 21) dX12_odds_21 rfl h7 (pj_kill hM [true, false, false, false, false, false, false, false, false, false] (lls' := [(26, 0), (9, 0), (9, 0), (9, 0), (9, 0), (9, 0), (9, 0), (9, 0), (9, 0), (9, 0)]) rfl k)) ?_
    exact tM_odds_29 hM w _ h0
  refine pj_map (fun k => pj_if_lt_f hM (pc := 21) 29 dX12_odds_21 rfl h7 (pj_iload_n hM (pc := 24) dX12_odds_24 rfl (pj_iconst hM (pc := 25) dX12_odds_25 (by decide) k))) ?_
  refine pj_tif (fun h8 => ?_) (fun h8 => ?_)
  · refine pj_tbind (fun p9 h10 => ?_)
    refine pj_map (fun k => pj_ic_le_t hM (pc := 26) dX12_odds_26 rfl h8 (pj_aload_n hM (pc := 35) dX12_odds_35 rfl rfl (pj_iload_n hM (pc := 36) dX12_odds_36 rfl (pj_cV hM (pc := 37) (cM_wrongLast x1 w p9 h10) dX12_odds_37 mf_X12_wrongLast mv_X12_wrongLast ml_X12_367 kc_26 rfl rfl (by decide) rfl rfl (pj_istore hM (pc := 40) dX12_odds_40 (by decide) (lls' := [(26, 0), (0, x1), (0, x2), (0, x3), (0, p9), (9, 0), (9, 0), (9, 0), (9, 0), (9, 0)]) rfl (pj_iload hM (pc := 42) dX12_odds_42 rfl k)))))) ?_
    refine pj_tif (fun h11 => ?_) (fun h11 => ?_)
    · refine pj_tbind (fun p12 h13 => ?_)
      refine pj_map (fun k => pj_if_le_t hM (pc := 44) dX12_odds_44 rfl h11 (pj_aload_n hM (pc := 54) dX12_odds_54 rfl rfl (pj_iload_n hM (pc := 55) dX12_odds_55 rfl (pj_cV hM (pc := 56) (cM_leftOn x1 w p12 h13) dX12_odds_56 mf_X12_leftOn mv_X12_leftOn ml_X12_370 kc_26 rfl rfl (by decide) rfl rfl (pj_bipush hM (pc := 59) dX12_odds_59 (by decide) k))))) ?_
      refine pj_tif (fun h14 => ?_) (fun h14 => ?_)
      · refine pj_map (fun k => pj_ic_le_t hM (pc := 61) dX12_odds_61 rfl h14 (pj_iload_n hM (pc := 71) dX12_odds_71 rfl k)) ?_
        refine pj_tif (fun h15 => ?_) (fun h15 => ?_)
        · refine pj_map (fun k => pj_if_ne_f hM (pc := 72) 79 dX12_odds_72 rfl (fun q => q h15) (pj_lconst hM (pc := 75) (z := 1) dX12_odds_75 rfl (by decide) (pj_goto hM (pc := 76) dX12_odds_76 rfl (pj_kill hM [true, true, true, false, false, false, false, false, false, false] (lls' := [(26, 0), (0, x1), (0, x2), (9, 0), (9, 0), (9, 0), (9, 0), (9, 0), (9, 0), (9, 0)]) rfl k)))) ?_
          exact tM_odds_92 hM x1 x2 1 w _ h0
        refine pj_tbind (fun p16 h17 => ?_)
        refine pj_tgd (fun h18 => ?_)
        refine pj_map (fun k => pj_if_ne_t hM (pc := 72) dX12_odds_72 rfl h15 (pj_aload_n hM (pc := 79) dX12_odds_79 rfl rfl (pj_getF hM (pc := 80) (t := 60) dX12_odds_80 fl_X12_7 (by decide) rfl rfl (pj_iconst hM (pc := 83) dX12_odds_83 (by decide) (pj_iload_n hM (pc := 84) dX12_odds_84 rfl (pj_cS hM (pc := 85) (cM_findRow 0 x1 w p16 h17) dX12_odds_85 mf_X12_findRow ms_X12_findRow ml_X12_171 rfl rfl rfl rfl (pj_iconst hM (pc := 88) dX12_odds_88 (by decide) (pj_iadd hM (pc := 89) dX12_odds_89 (pj_ial hM (pc := 90) dX12_odds_90 ki_60 (by decide) h18 (pj_i2l hM (pc := 91) dX12_odds_91 (pj_kill hM [true, true, true, false, false, false, false, false, false, false] (lls' := [(26, 0), (0, x1), (0, x2), (9, 0), (9, 0), (9, 0), (9, 0), (9, 0), (9, 0), (9, 0)]) rfl k))))))))))) ?_
        exact tM_odds_92 hM x1 x2 (w 60 0 (pj_wr (p16 + 1))) w _ h0
      refine pj_tbind (fun p19 h20 => ?_)
      refine pj_tgd (fun h21 => ?_)
      exact pj_tret (fun hr => pj_ic_le_f hM (pc := 61) 71 dX12_odds_61 rfl h14 (pj_aload_n hM (pc := 64) dX12_odds_64 rfl rfl (pj_bipush hM (pc := 65) dX12_odds_65 (by decide) (pj_cV hM (pc := 67) (cM_is 7 w p19 h20) dX12_odds_67 mf_X12_is mv_X12_is ml_X12_85 kc_26 rfl rfl (by decide) rfl rfl (pj_ret hM (pc := 70) dX12_odds_70 ⟨_, rfl, h21⟩ (h0 ((p19.1, p19.2)) hr) rfl)))))
    refine pj_tbind (fun p22 h23 => ?_)
    refine pj_tgd (fun h24 => ?_)
    exact pj_tret (fun hr => pj_if_le_f hM (pc := 44) 54 dX12_odds_44 rfl h11 (pj_aload_n hM (pc := 47) dX12_odds_47 rfl rfl (pj_iload hM (pc := 48) dX12_odds_48 rfl (pj_cV hM (pc := 50) (cM_is p9 w p22 h23) dX12_odds_50 mf_X12_is mv_X12_is ml_X12_85 kc_26 rfl rfl (by decide) rfl rfl (pj_ret hM (pc := 53) dX12_odds_53 ⟨_, rfl, h24⟩ (h0 ((p22.1, p22.2)) hr) rfl)))))
  refine pj_map (fun k => pj_ic_le_f hM (pc := 26) 35 dX12_odds_26 rfl h8 (pj_kill hM [true, false, false, false, false, false, false, false, false, false] (lls' := [(26, 0), (9, 0), (9, 0), (9, 0), (9, 0), (9, 0), (9, 0), (9, 0), (9, 0), (9, 0)]) rfl k)) ?_
  exact tM_odds_29 hM w _ h0
theorem cM_odds (x1 : Int) (x2 : Int) (x3 : Int)  (w : pj_W) (r : Int × pj_W) (h : fM_odds x1 x2 x3 w = some r) : pj_Cn l yX12_odds cX12_odds 10 (some .boolean) 3 65 true g [(26, 0), (0, x1), (0, x2), (0, x3)] w ((some (0, r.1) : Option pj_V), r.2) :=
  pj_Cn_of rfl (Nat.le_of_ble_eq_true rfl) (lls := [(26, 0), (0, x1), (0, x2), (0, x3), (9, 0), (9, 0), (9, 0), (9, 0), (9, 0), (9, 0)]) rfl (fun Go hM => tM_odds hM x1 x2 x3 w (fun x => ((some (0, x.1) : Option pj_V), x.2) = ((some (0, r.1) : Option pj_V), r.2)) (fun r h => h) r h rfl)
noncomputable def fM_open_47 (x2 : Int) (s0 : Int) (s1 : Int) (w : pj_W) : Option ((Int × Int) ⊕ (Int × pj_W)) :=
  some (Sum.inl ((pj_wr (s0 + s1)), (pj_wr (x2 + 1))))
noncomputable def fM_open_46 (x2 : Int) (s0 : Int) (w : pj_W) : Option ((Int × Int) ⊕ (Int × pj_W)) :=
  fM_open_47 x2 s0 0 w
noncomputable def fM_open_4b  (w : pj_W) (x1 : Int) (x2 : Int) : Option ((Int × Int) ⊕ (Int × pj_W)) :=
  if (w 60 0 2) ≤ x2 then ((fM_gives x1 w).bind fun p2 => (some (Sum.inr ((p2.1, p2.2))))) else ((fM_isThere x2 w).bind fun p4 => (if p4 = 0 then (fM_open_46 x2 x1 w) else ((fM_ownersOf x2 w).bind fun p7 => (if p7 = 0 then ((fM_findRow 0 x2 w).bind fun p10 => (if 0 ≤ (pj_wr (p10 + 1)) ∧ (pj_wr (p10 + 1)) < 8400 then (fM_open_47 x2 x1 (w 60 0 (pj_wr (p10 + 1))) w) else none)) else (fM_open_46 x2 x1 w)))))
noncomputable def fM_open_4  (w : pj_W) (s : (Int × Int)) : Option (Int × pj_W) := pj_Lp (fun s : (Int × Int) => fM_open_4b  w s.1 s.2) s
noncomputable def fM_open  (w : pj_W) : Option (Int × pj_W) :=
  fM_open_4 w (0, 0)
theorem tM_open_47 {Go : pj_C → Prop} (hM : pj_M l yX12_open cX12_open 3 (some .int) 4 91 true g n0 o Go) (x2 : Int) (s0 : Int) (s1 : Int) (w : pj_W)  (R : (Int × Int) ⊕ (Int × pj_W) → Prop) (h0 : ∀ r, R (Sum.inr (r)) → ((some (0, r.1) : Option pj_V), r.2) = o) (hk4 : ∀ s, R (Sum.inl s) → Go (4, [(26, 0), (0, s.1), (0, s.2)], [], w)) : pj_TG R (fM_open_47 x2 s0 s1 w) (Go (47, [(26, 0), (9, 0), (0, x2)], [(0, s1), (0, s0)], w)) := by
  unfold fM_open_47
  exact pj_tret (fun hr => pj_iadd hM (pc := 47) dX12_open_47 (pj_istore_n hM (pc := 48) dX12_open_48 (by decide) (lls' := [(26, 0), (0, (pj_wr (s0 + s1))), (0, x2)]) rfl (pj_iinc hM (pc := 49) dX12_open_49 rfl (by decide) (lls' := [(26, 0), (0, (pj_wr (s0 + s1))), (0, (pj_wr (x2 + 1)))]) rfl (pj_goto hM (pc := 52) dX12_open_52 rfl (pj_kill hM [true, true, true] (lls' := [(26, 0), (0, (pj_wr (s0 + s1))), (0, (pj_wr (x2 + 1)))]) rfl ((hk4 _ hr)))))))
theorem tM_open_46 {Go : pj_C → Prop} (hM : pj_M l yX12_open cX12_open 3 (some .int) 4 91 true g n0 o Go) (x2 : Int) (s0 : Int) (w : pj_W)  (R : (Int × Int) ⊕ (Int × pj_W) → Prop) (h0 : ∀ r, R (Sum.inr (r)) → ((some (0, r.1) : Option pj_V), r.2) = o) (hk4 : ∀ s, R (Sum.inl s) → Go (4, [(26, 0), (0, s.1), (0, s.2)], [], w)) : pj_TG R (fM_open_46 x2 s0 w) (Go (46, [(26, 0), (9, 0), (0, x2)], [(0, s0)], w)) := by
  unfold fM_open_46
  refine pj_map (fun k => pj_iconst hM (pc := 46) dX12_open_46 (by decide) (pj_kill hM [true, false, true] (lls' := [(26, 0), (9, 0), (0, x2)]) rfl k)) ?_
  exact tM_open_47 hM x2 s0 0 w _ h0 hk4
theorem tM_open_4b {Go : pj_C → Prop} (hM : pj_M l yX12_open cX12_open 3 (some .int) 4 91 true g n0 o Go)  (w : pj_W) (x1 : Int) (x2 : Int)  (R : (Int × Int) ⊕ (Int × pj_W) → Prop) (h0 : ∀ r, R (Sum.inr (r)) → ((some (0, r.1) : Option pj_V), r.2) = o) (hk4 : ∀ s, R (Sum.inl s) → Go (4, [(26, 0), (0, s.1), (0, s.2)], [], w)) : pj_TG R (fM_open_4b  w x1 x2) (Go (4, [(26, 0), (0, x1), (0, x2)], [], w)) := by
  unfold fM_open_4b
  refine pj_map (fun k => pj_iload_n hM (pc := 4) dX12_open_4 rfl (pj_aload_n hM (pc := 5) dX12_open_5 rfl rfl (pj_getF hM (pc := 6) (t := 60) dX12_open_6 fl_X12_7 (by decide) rfl rfl (pj_iconst hM (pc := 9) dX12_open_9 (by decide) (pj_ial hM (pc := 10) dX12_open_10 ki_60 (by decide) (by decide) k))))) ?_
  refine pj_tif (fun h1 => ?_) (fun h1 => ?_)
  · refine pj_tbind (fun p2 h3 => ?_)
    exact pj_tret (fun hr => pj_ic_ge_t hM (pc := 11) dX12_open_11 rfl h1 (pj_aload_n hM (pc := 55) dX12_open_55 rfl rfl (pj_iload_n hM (pc := 56) dX12_open_56 rfl (pj_cV hM (pc := 57) (cM_gives x1 w p2 h3) dX12_open_57 mf_X12_gives mv_X12_gives ml_X12_82 kc_26 rfl rfl (by decide) rfl rfl (pj_ret hM (pc := 60) dX12_open_60 ⟨_, rfl⟩ (h0 ((p2.1, p2.2)) hr) rfl)))))
  refine pj_tbind (fun p4 h5 => ?_)
  refine pj_map (fun k => pj_ic_ge_f hM (pc := 11) 55 dX12_open_11 rfl h1 (pj_iload_n hM (pc := 14) dX12_open_14 rfl (pj_aload_n hM (pc := 15) dX12_open_15 rfl rfl (pj_iload_n hM (pc := 16) dX12_open_16 rfl (pj_cV hM (pc := 17) (cM_isThere x2 w p4 h5) dX12_open_17 mf_X12_isThere mv_X12_isThere ml_X12_268 kc_26 rfl rfl (by decide) rfl rfl k))))) ?_
  refine pj_tif (fun h6 => ?_) (fun h6 => ?_)
  · refine pj_map (fun k => pj_if_eq_t hM (pc := 20) dX12_open_20 rfl h6 (pj_kill hM [true, false, true] (lls' := [(26, 0), (9, 0), (0, x2)]) rfl k)) ?_
    exact tM_open_46 hM x2 x1 w _ h0 hk4
  refine pj_tbind (fun p7 h8 => ?_)
  refine pj_map (fun k => pj_if_eq_f hM (pc := 20) 46 dX12_open_20 rfl h6 (pj_aload_n hM (pc := 23) dX12_open_23 rfl rfl (pj_iload_n hM (pc := 24) dX12_open_24 rfl (pj_cV hM (pc := 25) (cM_ownersOf x2 w p7 h8) dX12_open_25 mf_X12_ownersOf mv_X12_ownersOf ml_X12_343 kc_26 rfl rfl (by decide) rfl rfl k)))) ?_
  refine pj_tif (fun h9 => ?_) (fun h9 => ?_)
  · refine pj_tbind (fun p10 h11 => ?_)
    refine pj_tgd (fun h12 => ?_)
    refine pj_map (fun k => pj_if_ne_f hM (pc := 28) 46 dX12_open_28 rfl (fun q => q h9) (pj_aload_n hM (pc := 31) dX12_open_31 rfl rfl (pj_getF hM (pc := 32) (t := 60) dX12_open_32 fl_X12_7 (by decide) rfl rfl (pj_iconst hM (pc := 35) dX12_open_35 (by decide) (pj_iload_n hM (pc := 36) dX12_open_36 rfl (pj_cS hM (pc := 37) (cM_findRow 0 x2 w p10 h11) dX12_open_37 mf_X12_findRow ms_X12_findRow ml_X12_171 rfl rfl rfl rfl (pj_iconst hM (pc := 40) dX12_open_40 (by decide) (pj_iadd hM (pc := 41) dX12_open_41 (pj_ial hM (pc := 42) dX12_open_42 ki_60 (by decide) h12 (pj_goto hM (pc := 43) dX12_open_43 rfl (pj_kill hM [true, false, true] (lls' := [(26, 0), (9, 0), (0, x2)]) rfl k))))))))))) ?_
    exact tM_open_47 hM x2 x1 (w 60 0 (pj_wr (p10 + 1))) w _ h0 hk4
  refine pj_map (fun k => pj_if_ne_t hM (pc := 28) dX12_open_28 rfl h9 (pj_kill hM [true, false, true] (lls' := [(26, 0), (9, 0), (0, x2)]) rfl k)) ?_
  exact tM_open_46 hM x2 x1 w _ h0 hk4
theorem tM_open_4 {Go : pj_C → Prop} (hM : pj_M l yX12_open cX12_open 3 (some .int) 4 91 true g n0 o Go)  (w : pj_W)  (R : Int × pj_W → Prop) (h0 : ∀ r, R (r) → ((some (0, r.1) : Option pj_V), r.2) = o) (s : (Int × Int)) : pj_TG R (fM_open_4  w s) (Go (4, [(26, 0), (0, s.1), (0, s.2)], [], w)) := by
  unfold fM_open_4
  exact pj_tLp (G := fun s : (Int × Int) => Go (4, [(26, 0), (0, s.1), (0, s.2)], [], w)) (fun s => tM_open_4b hM  w s.1 s.2  _ (fun r h => h0 r h)  (fun s h => h)) s
theorem tM_open {Go : pj_C → Prop} (hM : pj_M l yX12_open cX12_open 3 (some .int) 4 91 true g n0 o Go)  (w : pj_W)  (R : Int × pj_W → Prop) (h0 : ∀ r, R (r) → ((some (0, r.1) : Option pj_V), r.2) = o) : pj_TG R (fM_open  w) (Go (0, [(26, 0), (9, 0), (9, 0)], [], w)) := by
  unfold fM_open
  refine pj_map (fun k => pj_iconst hM (pc := 0) dX12_open_0 (by decide) (pj_istore_n hM (pc := 1) dX12_open_1 (by decide) (lls' := [(26, 0), (0, 0), (9, 0)]) rfl (pj_iconst hM (pc := 2) dX12_open_2 (by decide) (pj_istore_n hM (pc := 3) dX12_open_3 (by decide) (lls' := [(26, 0), (0, 0), (0, 0)]) rfl (pj_kill hM [true, true, true] (lls' := [(26, 0), (0, 0), (0, 0)]) rfl k))))) ?_
  exact tM_open_4 hM w _ h0 _
theorem cM_open   (w : pj_W) (r : Int × pj_W) (h : fM_open  w = some r) : pj_Cn l yX12_open cX12_open 3 (some .int) 4 91 true g [(26, 0)] w ((some (0, r.1) : Option pj_V), r.2) :=
  pj_Cn_of rfl (Nat.le_of_ble_eq_true rfl) (lls := [(26, 0), (9, 0), (9, 0)]) rfl (fun Go hM => tM_open hM w (fun x => ((some (0, x.1) : Option pj_V), x.2) = ((some (0, r.1) : Option pj_V), r.2)) (fun r h => h) r h rfl)
noncomputable def fM_part_69 (x1 : Int) (x4 : Int) (x5 : Int) (w : pj_W) : Option ((Int × Int) ⊕ (Int × pj_W)) :=
  some (Sum.inl (x4, (pj_wr (x5 + 1))))
noncomputable def fM_part_22b (x1 : Int) (w : pj_W) (x4 : Int) (x5 : Int) : Option ((Int × Int) ⊕ (Int × pj_W)) :=
  if (w 60 0 1) ≤ x5 then ((fM_refuse 6 w).bind fun p2 => (some (Sum.inr ((p2.1, p2.2))))) else ((fM_lastOn x1 w).bind fun p4 => (if (pj_and (pj_shr p4 x5) 1) = 0 then (fM_part_69 x1 x4 x5 w) else (if x4 = 0 then ((fM_shareOf x5 x1 w).bind fun p8 => ((fM_gives p8 w).bind fun p10 => (some (Sum.inr ((p10.1, p10.2)))))) else (fM_part_69 x1 (pj_wr (x4 + (-1))) x5 w))))
noncomputable def fM_part_22 (x1 : Int) (w : pj_W) (s : (Int × Int)) : Option (Int × pj_W) := pj_Lp (fun s : (Int × Int) => fM_part_22b x1 w s.1 s.2) s
noncomputable def fM_part (x1 : Int) (x2 : Int) (w : pj_W) : Option (Int × pj_W) :=
  (fM_wrongFind x1 w).bind fun p1 => (if p1 ≤ 0 then (fM_part_22 x1 w (x2, 0)) else ((fM_refuse p1 w).bind fun p4 => (some ((p4.1, p4.2)))))
theorem tM_part_69 {Go : pj_C → Prop} (hM : pj_M l yX12_part cX12_part 6 (some .int) 5 114 true g n0 o Go) (x1 : Int) (x4 : Int) (x5 : Int) (w : pj_W)  (R : (Int × Int) ⊕ (Int × pj_W) → Prop) (h0 : ∀ r, R (Sum.inr (r)) → ((some (0, r.1) : Option pj_V), r.2) = o) (hk22 : ∀ s, R (Sum.inl s) → Go (22, [(26, 0), (0, x1), (9, 0), (9, 0), (0, s.1), (0, s.2)], [], w)) : pj_TG R (fM_part_69 x1 x4 x5 w) (Go (69, [(26, 0), (0, x1), (9, 0), (9, 0), (0, x4), (0, x5)], [], w)) := by
  unfold fM_part_69
  exact pj_tret (fun hr => pj_iinc hM (pc := 69) dX12_part_69 rfl (by decide) (lls' := [(26, 0), (0, x1), (9, 0), (9, 0), (0, x4), (0, (pj_wr (x5 + 1)))]) rfl (pj_goto hM (pc := 72) dX12_part_72 rfl (pj_kill hM [true, true, false, false, true, true] (lls' := [(26, 0), (0, x1), (9, 0), (9, 0), (0, x4), (0, (pj_wr (x5 + 1)))]) rfl ((hk22 _ hr)))))
theorem tM_part_22b {Go : pj_C → Prop} (hM : pj_M l yX12_part cX12_part 6 (some .int) 5 114 true g n0 o Go) (x1 : Int) (w : pj_W) (x4 : Int) (x5 : Int)  (R : (Int × Int) ⊕ (Int × pj_W) → Prop) (h0 : ∀ r, R (Sum.inr (r)) → ((some (0, r.1) : Option pj_V), r.2) = o) (hk22 : ∀ s, R (Sum.inl s) → Go (22, [(26, 0), (0, x1), (9, 0), (9, 0), (0, s.1), (0, s.2)], [], w)) : pj_TG R (fM_part_22b x1 w x4 x5) (Go (22, [(26, 0), (0, x1), (9, 0), (9, 0), (0, x4), (0, x5)], [], w)) := by
  unfold fM_part_22b
  refine pj_map (fun k => pj_iload hM (pc := 22) dX12_part_22 rfl (pj_aload_n hM (pc := 24) dX12_part_24 rfl rfl (pj_getF hM (pc := 25) (t := 60) dX12_part_25 fl_X12_7 (by decide) rfl rfl (pj_iconst hM (pc := 28) dX12_part_28 (by decide) (pj_ial hM (pc := 29) dX12_part_29 ki_60 (by decide) (by decide) k))))) ?_
  refine pj_tif (fun h1 => ?_) (fun h1 => ?_)
  · refine pj_tbind (fun p2 h3 => ?_)
    exact pj_tret (fun hr => pj_ic_ge_t hM (pc := 30) dX12_part_30 rfl h1 (pj_aload_n hM (pc := 75) dX12_part_75 rfl rfl (pj_bipush hM (pc := 76) dX12_part_76 (by decide) (pj_cV hM (pc := 78) (cM_refuse 6 w p2 h3) dX12_part_78 mf_X12_refuse mv_X12_refuse ml_X12_78 kc_26 rfl rfl (by decide) rfl rfl (pj_ret hM (pc := 81) dX12_part_81 ⟨_, rfl⟩ (h0 ((p2.1, p2.2)) hr) rfl)))))
  refine pj_tbind (fun p4 h5 => ?_)
  refine pj_map (fun k => pj_ic_ge_f hM (pc := 30) 75 dX12_part_30 rfl h1 (pj_aload_n hM (pc := 33) dX12_part_33 rfl rfl (pj_iload_n hM (pc := 34) dX12_part_34 rfl (pj_cV hM (pc := 35) (cM_lastOn x1 w p4 h5) dX12_part_35 mf_X12_lastOn mv_X12_lastOn ml_X12_337 kc_26 rfl rfl (by decide) rfl rfl (pj_iload hM (pc := 38) dX12_part_38 rfl (pj_ishr hM (pc := 40) dX12_part_40 (pj_iconst hM (pc := 41) dX12_part_41 (by decide) (pj_iand hM (pc := 42) dX12_part_42 k)))))))) ?_
  refine pj_tif (fun h6 => ?_) (fun h6 => ?_)
  · refine pj_map (fun k => pj_if_ne_f hM (pc := 43) 49 dX12_part_43 rfl (fun q => q h6) (pj_goto hM (pc := 46) dX12_part_46 rfl (pj_kill hM [true, true, false, false, true, true] (lls' := [(26, 0), (0, x1), (9, 0), (9, 0), (0, x4), (0, x5)]) rfl k))) ?_
    exact tM_part_69 hM x1 x4 x5 w _ h0 hk22
  refine pj_map (fun k => pj_if_ne_t hM (pc := 43) dX12_part_43 rfl h6 (pj_iload hM (pc := 49) dX12_part_49 rfl k)) ?_
  refine pj_tif (fun h7 => ?_) (fun h7 => ?_)
  · refine pj_tbind (fun p8 h9 => ?_)
    refine pj_tbind (fun p10 h11 => ?_)
    exact pj_tret (fun hr => pj_if_ne_f hM (pc := 51) 66 dX12_part_51 rfl (fun q => q h7) (pj_aload_n hM (pc := 54) dX12_part_54 rfl rfl (pj_aload_n hM (pc := 55) dX12_part_55 rfl rfl (pj_iload hM (pc := 56) dX12_part_56 rfl (pj_iload_n hM (pc := 58) dX12_part_58 rfl (pj_cV hM (pc := 59) (cM_shareOf x5 x1 w p8 h9) dX12_part_59 mf_X12_shareOf mv_X12_shareOf ml_X12_346 kc_26 rfl rfl (by decide) rfl rfl (pj_cV hM (pc := 62) (cM_gives p8 w p10 h11) dX12_part_62 mf_X12_gives mv_X12_gives ml_X12_82 kc_26 rfl rfl (by decide) rfl rfl (pj_ret hM (pc := 65) dX12_part_65 ⟨_, rfl⟩ (h0 ((p10.1, p10.2)) hr) rfl))))))))
  refine pj_map (fun k => pj_if_ne_t hM (pc := 51) dX12_part_51 rfl h7 (pj_iinc hM (pc := 66) dX12_part_66 rfl (by decide) (lls' := [(26, 0), (0, x1), (9, 0), (9, 0), (0, (pj_wr (x4 + (-1)))), (0, x5)]) rfl (pj_kill hM [true, true, false, false, true, true] (lls' := [(26, 0), (0, x1), (9, 0), (9, 0), (0, (pj_wr (x4 + (-1)))), (0, x5)]) rfl k))) ?_
  exact tM_part_69 hM x1 (pj_wr (x4 + (-1))) x5 w _ h0 hk22
theorem tM_part_22 {Go : pj_C → Prop} (hM : pj_M l yX12_part cX12_part 6 (some .int) 5 114 true g n0 o Go) (x1 : Int) (w : pj_W)  (R : Int × pj_W → Prop) (h0 : ∀ r, R (r) → ((some (0, r.1) : Option pj_V), r.2) = o) (s : (Int × Int)) : pj_TG R (fM_part_22 x1 w s) (Go (22, [(26, 0), (0, x1), (9, 0), (9, 0), (0, s.1), (0, s.2)], [], w)) := by
  unfold fM_part_22
  exact pj_tLp (G := fun s : (Int × Int) => Go (22, [(26, 0), (0, x1), (9, 0), (9, 0), (0, s.1), (0, s.2)], [], w)) (fun s => tM_part_22b hM x1 w s.1 s.2  _ (fun r h => h0 r h)  (fun s h => h)) s
theorem tM_part {Go : pj_C → Prop} (hM : pj_M l yX12_part cX12_part 6 (some .int) 5 114 true g n0 o Go) (x1 : Int) (x2 : Int) (w : pj_W)  (R : Int × pj_W → Prop) (h0 : ∀ r, R (r) → ((some (0, r.1) : Option pj_V), r.2) = o) : pj_TG R (fM_part x1 x2 w) (Go (0, [(26, 0), (0, x1), (0, x2), (9, 0), (9, 0), (9, 0)], [], w)) := by
  unfold fM_part
  refine pj_tbind (fun p1 h2 => ?_)
  refine pj_map (fun k => pj_aload_n hM (pc := 0) dX12_part_0 rfl rfl (pj_iload_n hM (pc := 1) dX12_part_1 rfl (pj_cV hM (pc := 2) (cM_wrongFind x1 w p1 h2) dX12_part_2 mf_X12_wrongFind mv_X12_wrongFind ml_X12_349 kc_26 rfl rfl (by decide) rfl rfl (pj_istore_n hM (pc := 5) dX12_part_5 (by decide) (lls' := [(26, 0), (0, x1), (0, x2), (0, p1), (9, 0), (9, 0)]) rfl (pj_iload_n hM (pc := 6) dX12_part_6 rfl k))))) ?_
  refine pj_tif (fun h3 => ?_) (fun h3 => ?_)
  · refine pj_map (fun k => pj_if_le_t hM (pc := 7) dX12_part_7 rfl h3 (pj_iload_n hM (pc := 16) dX12_part_16 rfl (pj_istore hM (pc := 17) dX12_part_17 (by decide) (lls' := [(26, 0), (0, x1), (0, x2), (0, p1), (0, x2), (9, 0)]) rfl (pj_iconst hM (pc := 19) dX12_part_19 (by decide) (pj_istore hM (pc := 20) dX12_part_20 (by decide) (lls' := [(26, 0), (0, x1), (0, x2), (0, p1), (0, x2), (0, 0)]) rfl (pj_kill hM [true, true, false, false, true, true] (lls' := [(26, 0), (0, x1), (9, 0), (9, 0), (0, x2), (0, 0)]) rfl k)))))) ?_
    exact tM_part_22 hM x1 w _ h0 _
  refine pj_tbind (fun p4 h5 => ?_)
  exact pj_tret (fun hr => pj_if_le_f hM (pc := 7) 16 dX12_part_7 rfl h3 (pj_aload_n hM (pc := 10) dX12_part_10 rfl rfl (pj_iload_n hM (pc := 11) dX12_part_11 rfl (pj_cV hM (pc := 12) (cM_refuse p1 w p4 h5) dX12_part_12 mf_X12_refuse mv_X12_refuse ml_X12_78 kc_26 rfl rfl (by decide) rfl rfl (pj_ret hM (pc := 15) dX12_part_15 ⟨_, rfl⟩ (h0 ((p4.1, p4.2)) hr) rfl)))))
theorem cM_part (x1 : Int) (x2 : Int)  (w : pj_W) (r : Int × pj_W) (h : fM_part x1 x2 w = some r) : pj_Cn l yX12_part cX12_part 6 (some .int) 5 114 true g [(26, 0), (0, x1), (0, x2)] w ((some (0, r.1) : Option pj_V), r.2) :=
  pj_Cn_of rfl (Nat.le_of_ble_eq_true rfl) (lls := [(26, 0), (0, x1), (0, x2), (9, 0), (9, 0), (9, 0)]) rfl (fun Go hM => tM_part hM x1 x2 w (fun x => ((some (0, x.1) : Option pj_V), x.2) = ((some (0, r.1) : Option pj_V), r.2)) (fun r h => h) r h rfl)
noncomputable def fM_pass_20  (w : pj_W) : Option (Int × pj_W) :=
  (fM_refuse 1 w).bind fun p1 => (some ((p1.1, p1.2)))
noncomputable def fM_pass (x1 : Int) (x2 : Int) (w : pj_W) : Option (Int × pj_W) :=
  (fM_isFinder x1 w).bind fun p1 => (if p1 = 0 then (fM_pass_20 w) else ((fM_isFrom x2 1 240 w).bind fun p4 => (if p4 = 0 then (fM_pass_20 w) else ((fM_waited x1 x2 w).bind fun p7 => (if p7.1 = 0 then ((fM_refuse 7 p7.2).bind fun p10 => (some ((p10.1, p10.2)))) else ((fM_finderRow x1 p7.2).bind fun p12 => (if 0 ≤ (pj_wr (p12 + 3)) ∧ (pj_wr (p12 + 3)) < 8400 then ((fM_gives (p7.2 60 0 (pj_wr (p12 + 3))) p7.2).bind fun p15 => (some ((p15.1, p15.2)))) else none)))))))
theorem tM_pass_20 {Go : pj_C → Prop} (hM : pj_M l yX12_pass cX12_pass 3 (some .int) 3 64 true g n0 o Go)  (w : pj_W)  (R : Int × pj_W → Prop) (h0 : ∀ r, R (r) → ((some (0, r.1) : Option pj_V), r.2) = o) : pj_TG R (fM_pass_20  w) (Go (20, [(26, 0), (9, 0), (9, 0)], [], w)) := by
  unfold fM_pass_20
  refine pj_tbind (fun p1 h2 => ?_)
  exact pj_tret (fun hr => pj_aload_n hM (pc := 20) dX12_pass_20 rfl rfl (pj_iconst hM (pc := 21) dX12_pass_21 (by decide) (pj_cV hM (pc := 22) (cM_refuse 1 w p1 h2) dX12_pass_22 mf_X12_refuse mv_X12_refuse ml_X12_78 kc_26 rfl rfl (by decide) rfl rfl (pj_ret hM (pc := 25) dX12_pass_25 ⟨_, rfl⟩ (h0 ((p1.1, p1.2)) hr) rfl))))
theorem tM_pass {Go : pj_C → Prop} (hM : pj_M l yX12_pass cX12_pass 3 (some .int) 3 64 true g n0 o Go) (x1 : Int) (x2 : Int) (w : pj_W)  (R : Int × pj_W → Prop) (h0 : ∀ r, R (r) → ((some (0, r.1) : Option pj_V), r.2) = o) : pj_TG R (fM_pass x1 x2 w) (Go (0, [(26, 0), (0, x1), (0, x2)], [], w)) := by
  unfold fM_pass
  refine pj_tbind (fun p1 h2 => ?_)
  refine pj_map (fun k => pj_aload_n hM (pc := 0) dX12_pass_0 rfl rfl (pj_iload_n hM (pc := 1) dX12_pass_1 rfl (pj_cV hM (pc := 2) (cM_isFinder x1 w p1 h2) dX12_pass_2 mf_X12_isFinder mv_X12_isFinder ml_X12_271 kc_26 rfl rfl (by decide) rfl rfl k))) ?_
  refine pj_tif (fun h3 => ?_) (fun h3 => ?_)
  · refine pj_map (fun k => pj_if_eq_t hM (pc := 5) dX12_pass_5 rfl h3 (pj_kill hM [true, false, false] (lls' := [(26, 0), (9, 0), (9, 0)]) rfl k)) ?_
    exact tM_pass_20 hM w _ h0
  refine pj_tbind (fun p4 h5 => ?_)
  refine pj_map (fun k => pj_if_eq_f hM (pc := 5) 20 dX12_pass_5 rfl h3 (pj_iload_n hM (pc := 8) dX12_pass_8 rfl (pj_i2l hM (pc := 9) dX12_pass_9 (pj_lconst hM (pc := 10) (z := 1) dX12_pass_10 rfl (by decide) (pj_ldc2 hM (pc := 11) (z := 240) dX12_pass_11 kn_X12_296 rfl (by decide) (pj_cS hM (pc := 14) (cM_isFrom x2 1 240 w p4 h5) dX12_pass_14 mf_X12_isFrom ms_X12_isFrom ml_X12_289 rfl rfl rfl rfl k)))))) ?_
  refine pj_tif (fun h6 => ?_) (fun h6 => ?_)
  · refine pj_map (fun k => pj_if_ne_f hM (pc := 17) 26 dX12_pass_17 rfl (fun q => q h6) (pj_kill hM [true, false, false] (lls' := [(26, 0), (9, 0), (9, 0)]) rfl k)) ?_
    exact tM_pass_20 hM w _ h0
  refine pj_tbind (fun p7 h8 => ?_)
  refine pj_map (fun k => pj_if_ne_t hM (pc := 17) dX12_pass_17 rfl h6 (pj_aload_n hM (pc := 26) dX12_pass_26 rfl rfl (pj_iload_n hM (pc := 27) dX12_pass_27 rfl (pj_iload_n hM (pc := 28) dX12_pass_28 rfl (pj_cV hM (pc := 29) (cM_waited x1 x2 w p7 h8) dX12_pass_29 mf_X12_waited mv_X12_waited ml_X12_298 kc_26 rfl rfl (by decide) rfl rfl k))))) ?_
  refine pj_tif (fun h9 => ?_) (fun h9 => ?_)
  · refine pj_tbind (fun p10 h11 => ?_)
    exact pj_tret (fun hr => pj_if_eq_t hM (pc := 32) dX12_pass_32 rfl h9 (pj_aload_n hM (pc := 53) dX12_pass_53 rfl rfl (pj_bipush hM (pc := 54) dX12_pass_54 (by decide) (pj_cV hM (pc := 56) (cM_refuse 7 p7.2 p10 h11) dX12_pass_56 mf_X12_refuse mv_X12_refuse ml_X12_78 kc_26 rfl rfl (by decide) rfl rfl (pj_ret hM (pc := 59) dX12_pass_59 ⟨_, rfl⟩ (h0 ((p10.1, p10.2)) hr) rfl)))))
  refine pj_tbind (fun p12 h13 => ?_)
  refine pj_tgd (fun h14 => ?_)
  refine pj_tbind (fun p15 h16 => ?_)
  exact pj_tret (fun hr => pj_if_eq_f hM (pc := 32) 53 dX12_pass_32 rfl h9 (pj_aload_n hM (pc := 35) dX12_pass_35 rfl rfl (pj_aload_n hM (pc := 36) dX12_pass_36 rfl rfl (pj_getF hM (pc := 37) (t := 60) dX12_pass_37 fl_X12_7 (by decide) rfl rfl (pj_iload_n hM (pc := 40) dX12_pass_40 rfl (pj_cS hM (pc := 41) (cM_finderRow x1 p7.2 p12 h13) dX12_pass_41 mf_X12_finderRow ms_X12_finderRow ml_X12_274 rfl rfl rfl rfl (pj_iconst hM (pc := 44) dX12_pass_44 (by decide) (pj_iadd hM (pc := 45) dX12_pass_45 (pj_ial hM (pc := 46) dX12_pass_46 ki_60 (by decide) h14 (pj_cV hM (pc := 47) (cM_gives (p7.2 60 0 (pj_wr (p12 + 3))) p7.2 p15 h16) dX12_pass_47 mf_X12_gives mv_X12_gives ml_X12_82 kc_26 rfl rfl (by decide) rfl rfl (pj_goto hM (pc := 50) dX12_pass_50 rfl (pj_ret hM (pc := 59) dX12_pass_59 ⟨_, rfl⟩ (h0 ((p15.1, p15.2)) hr) rfl))))))))))))
theorem cM_pass (x1 : Int) (x2 : Int)  (w : pj_W) (r : Int × pj_W) (h : fM_pass x1 x2 w = some r) : pj_Cn l yX12_pass cX12_pass 3 (some .int) 3 64 true g [(26, 0), (0, x1), (0, x2)] w ((some (0, r.1) : Option pj_V), r.2) :=
  pj_Cn_of rfl (Nat.le_of_ble_eq_true rfl) (lls := [(26, 0), (0, x1), (0, x2)]) rfl (fun Go hM => tM_pass hM x1 x2 w (fun x => ((some (0, x.1) : Option pj_V), x.2) = ((some (0, r.1) : Option pj_V), r.2)) (fun r h => h) r h rfl)
end
