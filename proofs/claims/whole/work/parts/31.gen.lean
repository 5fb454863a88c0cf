/-! printed by wip/whole/gen.py: each method as a function of numbers and worlds, and its contract -/
section
variable {l : Launch} {g : pj_G} {n0 : Nat} {o : Option pj_V × pj_W} {ph : Bool}
noncomputable def fO_chooseRow_90 (x1 : Int) (x2 : Int) (x3 : Int) (x4 : Int) (w : pj_W) : Option ((Int × Int × pj_W) ⊕ (pj_W)) :=
  some (Sum.inl (x3, (pj_wr (x4 + 1)), w))
noncomputable def fO_chooseRow_74 (x1 : Int) (x2 : Int) (x4 : Int) (w : pj_W) : Option ((Int × Int × pj_W) ⊕ (pj_W)) :=
  if ((0 : Int) ≤ 0 ∧ (0 : Int) ≤ 0 ∧ (0 : Int) ≤ x2) ∧ (0 : Int) + x2 ≤ 8 ∧ (0 : Int) + x2 ≤ 8 then (fO_chooseRow_90 x1 x2 1 x4 (pj_cpy w 40 0 0 41 0 0 x2)) else none
noncomputable def fO_chooseRow_16b (x1 : Int) (x2 : Int) (x3 : Int) (x4 : Int) (w : pj_W) : Option ((Int × Int × pj_W) ⊕ (pj_W)) :=
  if (pj_shl 1 (w 17 0 7)) ≤ x4 then (some (Sum.inr ((pj_set w 17 0 6 x2)))) else ((fO_fits x4 w).bind fun p2 => (if p2 = 0 then (fO_chooseRow_90 x1 x2 x3 x4 w) else ((fO_worthOf x4 w).bind fun p5 => (if p5 = x1 then ((fInt_bitCount x4 w).bind fun p8 => (if p8 = x2 then ((fO_layTrial x4 x2 w).bind fun p11 => (if x3 = 0 then (fO_chooseRow_74 x1 x2 x4 p11) else ((fO_trialIsAhead x2 p11).bind fun p14 => (if p14 = 0 then (fO_chooseRow_90 x1 x2 x3 x4 p11) else (fO_chooseRow_74 x1 x2 x4 p11))))) else (fO_chooseRow_90 x1 x2 x3 x4 w))) else (fO_chooseRow_90 x1 x2 x3 x4 w)))))
noncomputable def fO_chooseRow_16 (x1 : Int) (x2 : Int) (s : (Int × Int × pj_W)) : Option (pj_W) := pj_Lp (fun s : (Int × Int × pj_W) => fO_chooseRow_16b x1 x2 s.1 s.2.1 s.2.2) s
noncomputable def fO_chooseRow  (w : pj_W) : Option (pj_W) :=
  (fO_bestWorth w).bind fun p1 => ((fO_fewestFor p1 w).bind fun p3 => (fO_chooseRow_16 p1 p3 (0, 0, w)))
theorem tO_chooseRow_90 {Go : pj_C → Prop} (hM : pj_M l yX8_chooseRow cX8_chooseRow 5 none 5 117 true g n0 o Go) (x1 : Int) (x2 : Int) (x3 : Int) (x4 : Int) (w : pj_W)  (R : (Int × Int × pj_W) ⊕ (pj_W) → Prop) (h0 : ∀ r, R (Sum.inr (r)) → ((none : Option pj_V), r) = o) (hk16 : ∀ s, R (Sum.inl s) → Go (16, [(17, 0), (0, x1), (0, x2), (0, s.1), (0, s.2.1)], [], s.2.2)) : pj_TG R (fO_chooseRow_90 x1 x2 x3 x4 w) (Go (90, [(17, 0), (0, x1), (0, x2), (0, x3), (0, x4)], [], w)) := by
  unfold fO_chooseRow_90
  exact pj_tret (fun hr => pj_iinc hM (pc := 90) dX8_chooseRow_90 rfl (by decide) (lls' := [(17, 0), (0, x1), (0, x2), (0, x3), (0, (pj_wr (x4 + 1)))]) rfl (pj_goto hM (pc := 93) dX8_chooseRow_93 rfl (pj_kill hM [true, true, true, true, true] (lls' := [(17, 0), (0, x1), (0, x2), (0, x3), (0, (pj_wr (x4 + 1)))]) rfl ((hk16 _ hr)))))
theorem tO_chooseRow_74 {Go : pj_C → Prop} (hM : pj_M l yX8_chooseRow cX8_chooseRow 5 none 5 117 true g n0 o Go) (x1 : Int) (x2 : Int) (x4 : Int) (w : pj_W)  (R : (Int × Int × pj_W) ⊕ (pj_W) → Prop) (h0 : ∀ r, R (Sum.inr (r)) → ((none : Option pj_V), r) = o) (hk16 : ∀ s, R (Sum.inl s) → Go (16, [(17, 0), (0, x1), (0, x2), (0, s.1), (0, s.2.1)], [], s.2.2)) : pj_TG R (fO_chooseRow_74 x1 x2 x4 w) (Go (74, [(17, 0), (0, x1), (0, x2), (9, 0), (0, x4)], [], w)) := by
  unfold fO_chooseRow_74
  refine pj_tgd (fun h1 => ?_)
  refine pj_map (fun k => pj_aload_n hM (pc := 74) dX8_chooseRow_74 rfl rfl (pj_getF hM (pc := 75) (t := 40) dX8_chooseRow_75 fl_X8_24 (by decide) rfl rfl (pj_iconst hM (pc := 78) dX8_chooseRow_78 (by decide) (pj_aload_n hM (pc := 79) dX8_chooseRow_79 rfl rfl (pj_getF hM (pc := 80) (t := 41) dX8_chooseRow_80 fl_X8_27 (by decide) rfl rfl (pj_iconst hM (pc := 83) dX8_chooseRow_83 (by decide) (pj_iload_n hM (pc := 84) dX8_chooseRow_84 rfl (pj_cpi hM (pc := 85) dX8_chooseRow_85 ml_X8_126 mo_A ki_40 ki_41 (by decide) (by decide) h1 rfl (pj_iconst hM (pc := 88) dX8_chooseRow_88 (by decide) (pj_istore_n hM (pc := 89) dX8_chooseRow_89 (by decide) (lls' := [(17, 0), (0, x1), (0, x2), (0, 1), (0, x4)]) rfl (pj_kill hM [true, true, true, true, true] (lls' := [(17, 0), (0, x1), (0, x2), (0, 1), (0, x4)]) rfl k))))))))))) ?_
  exact tO_chooseRow_90 hM x1 x2 1 x4 (pj_cpy w 40 0 0 41 0 0 x2) _ h0 hk16
theorem tO_chooseRow_16b {Go : pj_C → Prop} (hM : pj_M l yX8_chooseRow cX8_chooseRow 5 none 5 117 true g n0 o Go) (x1 : Int) (x2 : Int) (x3 : Int) (x4 : Int) (w : pj_W)  (R : (Int × Int × pj_W) ⊕ (pj_W) → Prop) (h0 : ∀ r, R (Sum.inr (r)) → ((none : Option pj_V), r) = o) (hk16 : ∀ s, R (Sum.inl s) → Go (16, [(17, 0), (0, x1), (0, x2), (0, s.1), (0, s.2.1)], [], s.2.2)) : pj_TG R (fO_chooseRow_16b x1 x2 x3 x4 w) (Go (16, [(17, 0), (0, x1), (0, x2), (0, x3), (0, x4)], [], w)) := by
  unfold fO_chooseRow_16b
  refine pj_map (fun k => pj_iload hM (pc := 16) dX8_chooseRow_16 rfl (pj_iconst hM (pc := 18) dX8_chooseRow_18 (by decide) (pj_aload_n hM (pc := 19) dX8_chooseRow_19 rfl rfl (pj_gf hM (pc := 20) (t := 0) dX8_chooseRow_20 fl_X8_38 (by decide) rfl 7 rfl (pj_ishl hM (pc := 23) dX8_chooseRow_23 k))))) ?_
  refine pj_tif (fun h1 => ?_) (fun h1 => ?_)
  · exact pj_tret (fun hr => pj_ic_ge_t hM (pc := 24) dX8_chooseRow_24 rfl h1 (pj_aload_n hM (pc := 96) dX8_chooseRow_96 rfl rfl (pj_iload_n hM (pc := 97) dX8_chooseRow_97 rfl (pj_pf hM (pc := 98) dX8_chooseRow_98 fl_X8_132 (by decide) rfl (fun h => absurd h (by decide)) (by decide) (fun _ => rfl) 6 rfl (pj_ret hM (pc := 101) dX8_chooseRow_101 rfl (h0 ((pj_set w 17 0 6 x2)) hr) rfl)))))
  refine pj_tbind (fun p2 h3 => ?_)
  refine pj_map (fun k => pj_ic_ge_f hM (pc := 24) 96 dX8_chooseRow_24 rfl h1 (pj_aload_n hM (pc := 27) dX8_chooseRow_27 rfl rfl (pj_iload hM (pc := 28) dX8_chooseRow_28 rfl (pj_cV hM (pc := 30) (cO_fits x4 w p2 h3) dX8_chooseRow_30 mf_X8_fits mv_X8_fits ml_X8_105 kc_17 rfl rfl (by decide) rfl rfl k)))) ?_
  refine pj_tif (fun h4 => ?_) (fun h4 => ?_)
  · refine pj_map (fun k => pj_if_eq_t hM (pc := 33) dX8_chooseRow_33 rfl h4 (pj_kill hM [true, true, true, true, true] (lls' := [(17, 0), (0, x1), (0, x2), (0, x3), (0, x4)]) rfl k)) ?_
    exact tO_chooseRow_90 hM x1 x2 x3 x4 w _ h0 hk16
  refine pj_tbind (fun p5 h6 => ?_)
  refine pj_map (fun k => pj_if_eq_f hM (pc := 33) 90 dX8_chooseRow_33 rfl h4 (pj_aload_n hM (pc := 36) dX8_chooseRow_36 rfl rfl (pj_iload hM (pc := 37) dX8_chooseRow_37 rfl (pj_cV hM (pc := 39) (cO_worthOf x4 w p5 h6) dX8_chooseRow_39 mf_X8_worthOf mv_X8_worthOf ml_X8_109 kc_17 rfl rfl (by decide) rfl rfl (pj_iload_n hM (pc := 42) dX8_chooseRow_42 rfl k))))) ?_
  refine pj_tif (fun h7 => ?_) (fun h7 => ?_)
  · refine pj_tbind (fun p8 h9 => ?_)
    refine pj_map (fun k => pj_ic_ne_f hM (pc := 43) 90 dX8_chooseRow_43 rfl (fun q => q h7) (pj_iload hM (pc := 46) dX8_chooseRow_46 rfl (pj_cS hM (pc := 48) (cInt_bitCount x4 w p8 h9) dX8_chooseRow_48 mf_J6_bitCount_0f7a4 ms_J6_bitCount_0f7a4 ml_X8_100 rfl rfl rfl rfl (pj_iload_n hM (pc := 51) dX8_chooseRow_51 rfl k)))) ?_
    refine pj_tif (fun h10 => ?_) (fun h10 => ?_)
    · refine pj_tbind (fun p11 h12 => ?_)
      refine pj_map (fun k => pj_ic_ne_f hM (pc := 52) 90 dX8_chooseRow_52 rfl (fun q => q h10) (pj_aload_n hM (pc := 55) dX8_chooseRow_55 rfl rfl (pj_iload hM (pc := 56) dX8_chooseRow_56 rfl (pj_iload_n hM (pc := 58) dX8_chooseRow_58 rfl (pj_cVv hM (pc := 59) (cO_layTrial x4 x2 w p11 h12) dX8_chooseRow_59 mf_X8_layTrial mv_X8_layTrial ml_X8_119 kc_17 rfl rfl (by decide) rfl rfl (pj_iload_n hM (pc := 62) dX8_chooseRow_62 rfl k)))))) ?_
      refine pj_tif (fun h13 => ?_) (fun h13 => ?_)
      · refine pj_map (fun k => pj_if_eq_t hM (pc := 63) dX8_chooseRow_63 rfl h13 (pj_kill hM [true, true, true, false, true] (lls' := [(17, 0), (0, x1), (0, x2), (9, 0), (0, x4)]) rfl k)) ?_
        exact tO_chooseRow_74 hM x1 x2 x4 p11 _ h0 hk16
      refine pj_tbind (fun p14 h15 => ?_)
      refine pj_map (fun k => pj_if_eq_f hM (pc := 63) 74 dX8_chooseRow_63 rfl h13 (pj_aload_n hM (pc := 66) dX8_chooseRow_66 rfl rfl (pj_iload_n hM (pc := 67) dX8_chooseRow_67 rfl (pj_cV hM (pc := 68) (cO_trialIsAhead x2 p11 p14 h15) dX8_chooseRow_68 mf_X8_trialIsAhead mv_X8_trialIsAhead ml_X8_123 kc_17 rfl rfl (by decide) rfl rfl k)))) ?_
      refine pj_tif (fun h16 => ?_) (fun h16 => ?_)
      · refine pj_map (fun k => pj_if_eq_t hM (pc := 71) dX8_chooseRow_71 rfl h16 (pj_kill hM [true, true, true, true, true] (lls' := [(17, 0), (0, x1), (0, x2), (0, x3), (0, x4)]) rfl k)) ?_
        exact tO_chooseRow_90 hM x1 x2 x3 x4 p11 _ h0 hk16
      refine pj_map (fun k => pj_if_eq_f hM (pc := 71) 90 dX8_chooseRow_71 rfl h16 (pj_kill hM [true, true, true, false, true] (lls' := [(17, 0), (0, x1), (0, x2), (9, 0), (0, x4)]) rfl k)) ?_
      exact tO_chooseRow_74 hM x1 x2 x4 p11 _ h0 hk16
    refine pj_map (fun k => pj_ic_ne_t hM (pc := 52) dX8_chooseRow_52 rfl h10 (pj_kill hM [true, true, true, true, true] (lls' := [(17, 0), (0, x1), (0, x2), (0, x3), (0, x4)]) rfl k)) ?_
    exact tO_chooseRow_90 hM x1 x2 x3 x4 w _ h0 hk16
  refine pj_map (fun k => pj_ic_ne_t hM (pc := 43) dX8_chooseRow_43 rfl h7 (pj_kill hM [true, true, true, true, true] (lls' := [(17, 0), (0, x1), (0, x2), (0, x3), (0, x4)]) rfl k)) ?_
  exact tO_chooseRow_90 hM x1 x2 x3 x4 w _ h0 hk16
theorem tO_chooseRow_16 {Go : pj_C → Prop} (hM : pj_M l yX8_chooseRow cX8_chooseRow 5 none 5 117 true g n0 o Go) (x1 : Int) (x2 : Int)  (R : pj_W → Prop) (h0 : ∀ r, R (r) → ((none : Option pj_V), r) = o) (s : (Int × Int × pj_W)) : pj_TG R (fO_chooseRow_16 x1 x2 s) (Go (16, [(17, 0), (0, x1), (0, x2), (0, s.1), (0, s.2.1)], [], s.2.2)) := by
  unfold fO_chooseRow_16
  exact pj_tLp (G := fun s : (Int × Int × pj_W) => Go (16, [(17, 0), (0, x1), (0, x2), (0, s.1), (0, s.2.1)], [], s.2.2)) (fun s => tO_chooseRow_16b hM x1 x2 s.1 s.2.1 s.2.2  _ (fun r h => h0 r h)  (fun s h => h)) s
theorem tO_chooseRow {Go : pj_C → Prop} (hM : pj_M l yX8_chooseRow cX8_chooseRow 5 none 5 117 true g n0 o Go)  (w : pj_W)  (R : pj_W → Prop) (h0 : ∀ r, R (r) → ((none : Option pj_V), r) = o) : pj_TG R (fO_chooseRow  w) (Go (0, [(17, 0), (9, 0), (9, 0), (9, 0), (9, 0)], [], w)) := by
  unfold fO_chooseRow
  refine pj_tbind (fun p1 h2 => ?_)
  refine pj_tbind (fun p3 h4 => ?_)
  refine pj_map (fun k => pj_aload_n hM (pc := 0) dX8_chooseRow_0 rfl rfl (pj_cV hM (pc := 1) (cO_bestWorth w p1 h2) dX8_chooseRow_1 mf_X8_bestWorth mv_X8_bestWorth ml_X8_112 kc_17 rfl rfl (by decide) rfl rfl (pj_istore_n hM (pc := 4) dX8_chooseRow_4 (by decide) (lls' := [(17, 0), (0, p1), (9, 0), (9, 0), (9, 0)]) rfl (pj_aload_n hM (pc := 5) dX8_chooseRow_5 rfl rfl (pj_iload_n hM (pc := 6) dX8_chooseRow_6 rfl (pj_cV hM (pc := 7) (cO_fewestFor p1 w p3 h4) dX8_chooseRow_7 mf_X8_fewestFor mv_X8_fewestFor ml_X8_116 kc_17 rfl rfl (by decide) rfl rfl (pj_istore_n hM (pc := 10) dX8_chooseRow_10 (by decide) (lls' := [(17, 0), (0, p1), (0, p3), (9, 0), (9, 0)]) rfl (pj_iconst hM (pc := 11) dX8_chooseRow_11 (by decide) (pj_istore_n hM (pc := 12) dX8_chooseRow_12 (by decide) (lls' := [(17, 0), (0, p1), (0, p3), (0, 0), (9, 0)]) rfl (pj_iconst hM (pc := 13) dX8_chooseRow_13 (by decide) (pj_istore hM (pc := 14) dX8_chooseRow_14 (by decide) (lls' := [(17, 0), (0, p1), (0, p3), (0, 0), (0, 0)]) rfl (pj_kill hM [true, true, true, true, true] (lls' := [(17, 0), (0, p1), (0, p3), (0, 0), (0, 0)]) rfl k)))))))))))) ?_
  exact tO_chooseRow_16 hM p1 p3 _ h0 _
theorem cO_chooseRow   (w : pj_W) (r : pj_W) (h : fO_chooseRow  w = some r) : pj_Cn l yX8_chooseRow cX8_chooseRow 5 none 5 117 true g [(17, 0)] w ((none : Option pj_V), r) :=
  pj_Cn_of rfl (Nat.le_of_ble_eq_true rfl) (lls := [(17, 0), (9, 0), (9, 0), (9, 0), (9, 0)]) rfl (fun Go hM => tO_chooseRow hM w (fun x => ((none : Option pj_V), x) = ((none : Option pj_V), r)) (fun r h => h) r h rfl)
noncomputable def fN_behindOthers_7b (i0 : Int) (x1 : Int) (w : pj_W) (x2 : Int) : Option ((Int) ⊕ (Int)) :=
  if x2 < 0 then (some (Sum.inr (0))) else (if 0 ≤ x2 ∧ x2 < 60 then (if (w 45 i0 x2) = x1 then (some (Sum.inl ((pj_wr (x2 + (-1)))))) else (some (Sum.inr ((pj_wr ((w 46 i0 x2) + 1)))))) else none)
noncomputable def fN_behindOthers_7 (i0 : Int) (x1 : Int) (w : pj_W) (s : (Int)) : Option (Int) := pj_Lp (fun s : (Int) => fN_behindOthers_7b i0 x1 w s) s
noncomputable def fN_behindOthers (i0 : Int) (x1 : Int) (w : pj_W) : Option (Int) :=
  fN_behindOthers_7 i0 x1 w ((pj_wr ((w 23 i0 6) - 1)))
theorem tN_behindOthers_7b {Go : pj_C → Prop} (hM : pj_M l yX4_behindOthers cX4_behindOthers 3 (some .int) 0 0 true g n0 o Go) (i0 : Int) (x1 : Int) (w : pj_W) (x2 : Int) (hn0 : 0 ≤ i0) (R : (Int) ⊕ (Int) → Prop) (h0 : ∀ r, R (Sum.inr (r)) → ((some (0, r) : Option pj_V), w) = o) (hk7 : ∀ s, R (Sum.inl s) → Go (7, [(23, i0), (0, x1), (0, s)], [], w)) : pj_TG R (fN_behindOthers_7b i0 x1 w x2) (Go (7, [(23, i0), (0, x1), (0, x2)], [], w)) := by
  unfold fN_behindOthers_7b
  refine pj_map (fun k => pj_iload_n hM (pc := 7) dX4_behindOthers_7 rfl k) ?_
  refine pj_tif (fun h1 => ?_) (fun h1 => ?_)
  · exact pj_tret (fun hr => pj_if_lt_t hM (pc := 8) dX4_behindOthers_8 rfl h1 (pj_iconst hM (pc := 36) dX4_behindOthers_36 (by decide) (pj_ret hM (pc := 37) dX4_behindOthers_37 ⟨_, rfl⟩ (h0 (0) hr) rfl)))
  refine pj_tgd (fun h2 => ?_)
  refine pj_map (fun k => pj_if_lt_f hM (pc := 8) 36 dX4_behindOthers_8 rfl h1 (pj_aload_n hM (pc := 11) dX4_behindOthers_11 rfl rfl (pj_getF hM (pc := 12) (t := 45) dX4_behindOthers_12 fl_X4_11 hn0 rfl rfl (pj_iload_n hM (pc := 15) dX4_behindOthers_15 rfl (pj_ial hM (pc := 16) dX4_behindOthers_16 ki_45 hn0 h2 (pj_iload_n hM (pc := 17) dX4_behindOthers_17 rfl k)))))) ?_
  refine pj_tif (fun h3 => ?_) (fun h3 => ?_)
  · exact pj_tret (fun hr => pj_ic_eq_t hM (pc := 18) dX4_behindOthers_18 rfl h3 (pj_iinc hM (pc := 30) dX4_behindOthers_30 rfl (by decide) (lls' := [(23, i0), (0, x1), (0, (pj_wr (x2 + (-1))))]) rfl (pj_goto hM (pc := 33) dX4_behindOthers_33 rfl (pj_kill hM [true, true, true] (lls' := [(23, i0), (0, x1), (0, (pj_wr (x2 + (-1))))]) rfl ((hk7 _ hr))))))
  exact pj_tret (fun hr => pj_ic_eq_f hM (pc := 18) 30 dX4_behindOthers_18 rfl h3 (pj_aload_n hM (pc := 21) dX4_behindOthers_21 rfl rfl (pj_getF hM (pc := 22) (t := 46) dX4_behindOthers_22 fl_X4_17 hn0 rfl rfl (pj_iload_n hM (pc := 25) dX4_behindOthers_25 rfl (pj_ial hM (pc := 26) dX4_behindOthers_26 ki_46 hn0 h2 (pj_iconst hM (pc := 27) dX4_behindOthers_27 (by decide) (pj_iadd hM (pc := 28) dX4_behindOthers_28 (pj_ret hM (pc := 29) dX4_behindOthers_29 ⟨_, rfl⟩ (h0 ((pj_wr ((w 46 i0 x2) + 1))) hr) rfl))))))))
theorem tN_behindOthers_7 {Go : pj_C → Prop} (hM : pj_M l yX4_behindOthers cX4_behindOthers 3 (some .int) 0 0 true g n0 o Go) (i0 : Int) (x1 : Int) (w : pj_W) (hn0 : 0 ≤ i0) (R : Int → Prop) (h0 : ∀ r, R (r) → ((some (0, r) : Option pj_V), w) = o) (s : (Int)) : pj_TG R (fN_behindOthers_7 i0 x1 w s) (Go (7, [(23, i0), (0, x1), (0, s)], [], w)) := by
  unfold fN_behindOthers_7
  exact pj_tLp (G := fun s : (Int) => Go (7, [(23, i0), (0, x1), (0, s)], [], w)) (fun s => tN_behindOthers_7b hM i0 x1 w s hn0 _ (fun r h => h0 r h)  (fun s h => h)) s
theorem tN_behindOthers {Go : pj_C → Prop} (hM : pj_M l yX4_behindOthers cX4_behindOthers 3 (some .int) 0 0 true g n0 o Go) (i0 : Int) (x1 : Int) (w : pj_W) (hn0 : 0 ≤ i0) (R : Int → Prop) (h0 : ∀ r, R (r) → ((some (0, r) : Option pj_V), w) = o) : pj_TG R (fN_behindOthers i0 x1 w) (Go (0, [(23, i0), (0, x1), (9, 0)], [], w)) := by
  unfold fN_behindOthers
  refine pj_map (fun k => pj_aload_n hM (pc := 0) dX4_behindOthers_0 rfl rfl (pj_gf hM (pc := 1) (t := 0) dX4_behindOthers_1 fl_X4_35 hn0 rfl 6 rfl (pj_iconst hM (pc := 4) dX4_behindOthers_4 (by decide) (pj_isub hM (pc := 5) dX4_behindOthers_5 (pj_istore_n hM (pc := 6) dX4_behindOthers_6 (by decide) (lls' := [(23, i0), (0, x1), (0, (pj_wr ((w 23 i0 6) - 1)))]) rfl (pj_kill hM [true, true, true] (lls' := [(23, i0), (0, x1), (0, (pj_wr ((w 23 i0 6) - 1)))]) rfl k)))))) ?_
  exact tN_behindOthers_7 hM i0 x1 w hn0 _ h0 _
theorem cN_behindOthers (i0 : Int) (x1 : Int) (hn0 : 0 ≤ i0) (w : pj_W) (r : Int) (h : fN_behindOthers i0 x1 w = some r) : pj_Cn l yX4_behindOthers cX4_behindOthers 3 (some .int) 0 0 true g [(23, i0), (0, x1)] w ((some (0, r) : Option pj_V), w) :=
  pj_Cn_of rfl (Nat.le_of_ble_eq_true rfl) (lls := [(23, i0), (0, x1), (9, 0)]) rfl (fun Go hM => tN_behindOthers hM i0 x1 w hn0 (fun x => ((some (0, x) : Option pj_V), w) = ((some (0, r) : Option pj_V), w)) (fun r h => h) r h rfl)
noncomputable def fO_latestFor_70 (x1 : Int) (x2 : Int) (x4 : Int) (x5 : Int) (w : pj_W) : Option ((Int × Int) ⊕ (Int)) :=
  some (Sum.inl (x4, (pj_wr (x5 + 1))))
noncomputable def fO_latestFor_13b (x1 : Int) (x2 : Int) (w : pj_W) (x4 : Int) (x5 : Int) : Option ((Int × Int) ⊕ (Int)) :=
  if (w 17 0 7) ≤ x5 then (some (Sum.inr (x4))) else (if (pj_and (pj_shr x1 x5) 1) = 1 then ((fO_dueAt x1 x5 w).bind fun p3 => (if 0 ≤ x5 ∧ x5 < 8 then (if p3 < (w 38 0 x5) then (fO_latestFor_70 x1 x2 x4 x5 w) else ((fO_minutesBetween x2 x5 w).bind fun p7 => (fO_latestFor_70 x1 x2 (max x4 (pj_wr (p3 - p7))) x5 w))) else none)) else (fO_latestFor_70 x1 x2 x4 x5 w))
noncomputable def fO_latestFor_13 (x1 : Int) (x2 : Int) (w : pj_W) (s : (Int × Int)) : Option (Int) := pj_Lp (fun s : (Int × Int) => fO_latestFor_13b x1 x2 w s.1 s.2) s
noncomputable def fO_latestFor (x1 : Int) (x2 : Int) (x3 : Int) (w : pj_W) : Option (Int) :=
  if x1 = 0 then (some (x3)) else (fO_latestFor_13 x1 x2 w ((-1000000), 0))
theorem tO_latestFor_70 {Go : pj_C → Prop} (hM : pj_M l yX8_latestFor cX8_latestFor 7 (some .int) 2 43 true g n0 o Go) (x1 : Int) (x2 : Int) (x4 : Int) (x5 : Int) (w : pj_W)  (R : (Int × Int) ⊕ (Int) → Prop) (h0 : ∀ r, R (Sum.inr (r)) → ((some (0, r) : Option pj_V), w) = o) (hk13 : ∀ s, R (Sum.inl s) → Go (13, [(17, 0), (0, x1), (0, x2), (9, 0), (0, s.1), (0, s.2), (9, 0)], [], w)) : pj_TG R (fO_latestFor_70 x1 x2 x4 x5 w) (Go (70, [(17, 0), (0, x1), (0, x2), (9, 0), (0, x4), (0, x5), (9, 0)], [], w)) := by
  unfold fO_latestFor_70
  exact pj_tret (fun hr => pj_iinc hM (pc := 70) dX8_latestFor_70 rfl (by decide) (lls' := [(17, 0), (0, x1), (0, x2), (9, 0), (0, x4), (0, (pj_wr (x5 + 1))), (9, 0)]) rfl (pj_goto hM (pc := 73) dX8_latestFor_73 rfl (pj_kill hM [true, true, true, false, true, true, false] (lls' := [(17, 0), (0, x1), (0, x2), (9, 0), (0, x4), (0, (pj_wr (x5 + 1))), (9, 0)]) rfl ((hk13 _ hr)))))
theorem tO_latestFor_13b {Go : pj_C → Prop} (hM : pj_M l yX8_latestFor cX8_latestFor 7 (some .int) 2 43 true g n0 o Go) (x1 : Int) (x2 : Int) (w : pj_W) (x4 : Int) (x5 : Int)  (R : (Int × Int) ⊕ (Int) → Prop) (h0 : ∀ r, R (Sum.inr (r)) → ((some (0, r) : Option pj_V), w) = o) (hk13 : ∀ s, R (Sum.inl s) → Go (13, [(17, 0), (0, x1), (0, x2), (9, 0), (0, s.1), (0, s.2), (9, 0)], [], w)) : pj_TG R (fO_latestFor_13b x1 x2 w x4 x5) (Go (13, [(17, 0), (0, x1), (0, x2), (9, 0), (0, x4), (0, x5), (9, 0)], [], w)) := by
  unfold fO_latestFor_13b
  refine pj_map (fun k => pj_iload hM (pc := 13) dX8_latestFor_13 rfl (pj_aload_n hM (pc := 15) dX8_latestFor_15 rfl rfl (pj_gf hM (pc := 16) (t := 0) dX8_latestFor_16 fl_X8_38 (by decide) rfl 7 rfl k))) ?_
  refine pj_tif (fun h1 => ?_) (fun h1 => ?_)
  · exact pj_tret (fun hr => pj_ic_ge_t hM (pc := 19) dX8_latestFor_19 rfl h1 (pj_iload hM (pc := 76) dX8_latestFor_76 rfl (pj_ret hM (pc := 78) dX8_latestFor_78 ⟨_, rfl⟩ (h0 (x4) hr) rfl)))
  refine pj_map (fun k => pj_ic_ge_f hM (pc := 19) 76 dX8_latestFor_19 rfl h1 (pj_iload_n hM (pc := 22) dX8_latestFor_22 rfl (pj_iload hM (pc := 23) dX8_latestFor_23 rfl (pj_ishr hM (pc := 25) dX8_latestFor_25 (pj_iconst hM (pc := 26) dX8_latestFor_26 (by decide) (pj_iand hM (pc := 27) dX8_latestFor_27 (pj_iconst hM (pc := 28) dX8_latestFor_28 (by decide) k))))))) ?_
  refine pj_tif (fun h2 => ?_) (fun h2 => ?_)
  · refine pj_tbind (fun p3 h4 => ?_)
    refine pj_tgd (fun h5 => ?_)
    refine pj_map (fun k => pj_ic_ne_f hM (pc := 29) 70 dX8_latestFor_29 rfl (fun q => q h2) (pj_aload_n hM (pc := 32) dX8_latestFor_32 rfl rfl (pj_iload_n hM (pc := 33) dX8_latestFor_33 rfl (pj_iload hM (pc := 34) dX8_latestFor_34 rfl (pj_cV hM (pc := 36) (cO_dueAt x1 x5 w p3 h4) dX8_latestFor_36 mf_X8_dueAt mv_X8_dueAt ml_X8_85 kc_17 rfl rfl (by decide) rfl rfl (pj_istore hM (pc := 39) dX8_latestFor_39 (by decide) (lls' := [(17, 0), (0, x1), (0, x2), (9, 0), (0, x4), (0, x5), (0, p3)]) rfl (pj_aload_n hM (pc := 41) dX8_latestFor_41 rfl rfl (pj_getF hM (pc := 42) (t := 38) dX8_latestFor_42 fl_X8_18 (by decide) rfl rfl (pj_iload hM (pc := 45) dX8_latestFor_45 rfl (pj_ial hM (pc := 47) dX8_latestFor_47 ki_38 (by decide) h5 (pj_iload hM (pc := 48) dX8_latestFor_48 rfl k))))))))))) ?_
    refine pj_tif (fun h6 => ?_) (fun h6 => ?_)
    · refine pj_map (fun k => pj_ic_gt_t hM (pc := 50) dX8_latestFor_50 rfl h6 (pj_kill hM [true, true, true, false, true, true, false] (lls' := [(17, 0), (0, x1), (0, x2), (9, 0), (0, x4), (0, x5), (9, 0)]) rfl k)) ?_
      exact tO_latestFor_70 hM x1 x2 x4 x5 w _ h0 hk13
    refine pj_tbind (fun p7 h8 => ?_)
    refine pj_map (fun k => pj_ic_gt_f hM (pc := 50) 70 dX8_latestFor_50 rfl h6 (pj_iload hM (pc := 53) dX8_latestFor_53 rfl (pj_iload hM (pc := 55) dX8_latestFor_55 rfl (pj_aload_n hM (pc := 57) dX8_latestFor_57 rfl rfl (pj_iload_n hM (pc := 58) dX8_latestFor_58 rfl (pj_iload hM (pc := 59) dX8_latestFor_59 rfl (pj_cV hM (pc := 61) (cO_minutesBetween x2 x5 w p7 h8) dX8_latestFor_61 mf_X8_minutesBetween mv_X8_minutesBetween ml_X8_89 kc_17 rfl rfl (by decide) rfl rfl (pj_isub hM (pc := 64) dX8_latestFor_64 (pj_mmax hM (pc := 65) dX8_latestFor_65 mf_J9_max_7cf53 ms_J9_max_7cf53 ml_X8_92 rfl (pj_istore hM (pc := 68) dX8_latestFor_68 (by decide) (lls' := [(17, 0), (0, x1), (0, x2), (9, 0), (0, (max x4 (pj_wr (p3 - p7)))), (0, x5), (0, p3)]) rfl (pj_kill hM [true, true, true, false, true, true, false] (lls' := [(17, 0), (0, x1), (0, x2), (9, 0), (0, (max x4 (pj_wr (p3 - p7)))), (0, x5), (9, 0)]) rfl k))))))))))) ?_
    exact tO_latestFor_70 hM x1 x2 (max x4 (pj_wr (p3 - p7))) x5 w _ h0 hk13
  refine pj_map (fun k => pj_ic_ne_t hM (pc := 29) dX8_latestFor_29 rfl h2 (pj_kill hM [true, true, true, false, true, true, false] (lls' := [(17, 0), (0, x1), (0, x2), (9, 0), (0, x4), (0, x5), (9, 0)]) rfl k)) ?_
  exact tO_latestFor_70 hM x1 x2 x4 x5 w _ h0 hk13
theorem tO_latestFor_13 {Go : pj_C → Prop} (hM : pj_M l yX8_latestFor cX8_latestFor 7 (some .int) 2 43 true g n0 o Go) (x1 : Int) (x2 : Int) (w : pj_W)  (R : Int → Prop) (h0 : ∀ r, R (r) → ((some (0, r) : Option pj_V), w) = o) (s : (Int × Int)) : pj_TG R (fO_latestFor_13 x1 x2 w s) (Go (13, [(17, 0), (0, x1), (0, x2), (9, 0), (0, s.1), (0, s.2), (9, 0)], [], w)) := by
  unfold fO_latestFor_13
  exact pj_tLp (G := fun s : (Int × Int) => Go (13, [(17, 0), (0, x1), (0, x2), (9, 0), (0, s.1), (0, s.2), (9, 0)], [], w)) (fun s => tO_latestFor_13b hM x1 x2 w s.1 s.2  _ (fun r h => h0 r h)  (fun s h => h)) s
theorem tO_latestFor {Go : pj_C → Prop} (hM : pj_M l yX8_latestFor cX8_latestFor 7 (some .int) 2 43 true g n0 o Go) (x1 : Int) (x2 : Int) (x3 : Int) (w : pj_W)  (R : Int → Prop) (h0 : ∀ r, R (r) → ((some (0, r) : Option pj_V), w) = o) : pj_TG R (fO_latestFor x1 x2 x3 w) (Go (0, [(17, 0), (0, x1), (0, x2), (0, x3), (9, 0), (9, 0), (9, 0)], [], w)) := by
  unfold fO_latestFor
  refine pj_map (fun k => pj_iload_n hM (pc := 0) dX8_latestFor_0 rfl k) ?_
  refine pj_tif (fun h1 => ?_) (fun h1 => ?_)
  · exact pj_tret (fun hr => pj_if_ne_f hM (pc := 1) 6 dX8_latestFor_1 rfl (fun q => q h1) (pj_iload_n hM (pc := 4) dX8_latestFor_4 rfl (pj_ret hM (pc := 5) dX8_latestFor_5 ⟨_, rfl⟩ (h0 (x3) hr) rfl)))
  refine pj_map (fun k => pj_if_ne_t hM (pc := 1) dX8_latestFor_1 rfl h1 (pj_ldc hM (pc := 6) (z := (-1000000)) dX8_latestFor_6 kn_X8_84 rfl (by decide) (pj_istore hM (pc := 8) dX8_latestFor_8 (by decide) (lls' := [(17, 0), (0, x1), (0, x2), (0, x3), (0, (-1000000)), (9, 0), (9, 0)]) rfl (pj_iconst hM (pc := 10) dX8_latestFor_10 (by decide) (pj_istore hM (pc := 11) dX8_latestFor_11 (by decide) (lls' := [(17, 0), (0, x1), (0, x2), (0, x3), (0, (-1000000)), (0, 0), (9, 0)]) rfl (pj_kill hM [true, true, true, false, true, true, false] (lls' := [(17, 0), (0, x1), (0, x2), (9, 0), (0, (-1000000)), (0, 0), (9, 0)]) rfl k)))))) ?_
  exact tO_latestFor_13 hM x1 x2 w _ h0 _
theorem cO_latestFor (x1 : Int) (x2 : Int) (x3 : Int)  (w : pj_W) (r : Int) (h : fO_latestFor x1 x2 x3 w = some r) : pj_Cn l yX8_latestFor cX8_latestFor 7 (some .int) 2 43 true g [(17, 0), (0, x1), (0, x2), (0, x3)] w ((some (0, r) : Option pj_V), w) :=
  pj_Cn_of rfl (Nat.le_of_ble_eq_true rfl) (lls := [(17, 0), (0, x1), (0, x2), (0, x3), (9, 0), (9, 0), (9, 0)]) rfl (fun Go hM => tO_latestFor hM x1 x2 x3 w (fun x => ((some (0, x) : Option pj_V), w) = ((some (0, r) : Option pj_V), w)) (fun r h => h) r h rfl)
noncomputable def fO_prepare_130 (x1 : Int) (x2 : Int) (x3 : Int) (x5 : Int) (s1 : Int) (s2 : Int) (w : pj_W) : Option ((Int × pj_W) ⊕ (pj_W)) :=
  if 0 ≤ s1 ∧ s1 < 8 then (some (Sum.inl ((pj_wr (x5 + 1)), (pj_set w 38 0 s1 s2)))) else none
noncomputable def fO_prepare_154b (x1 : Int) (x3 : Int) (x5 : Int) (x6 : Int) (w : pj_W) : Option ((Int × pj_W) ⊕ ((Int × pj_W) ⊕ (pj_W))) :=
  if 9 ≤ x6 then (some (Sum.inr (Sum.inl ((pj_wr (x5 + 1)), w)))) else ((fO_latestFor x5 x6 (pj_wr ((w 19 x1 3) + x3)) w).bind fun p2 => (if 0 ≤ (pj_wr ((pj_wr (x5 * 9)) + x6)) ∧ (pj_wr ((pj_wr (x5 * 9)) + x6)) < 2304 then (some (Sum.inl ((pj_wr (x6 + 1)), (pj_set w 36 0 (pj_wr ((pj_wr (x5 * 9)) + x6)) p2)))) else none))
noncomputable def fO_prepare_154 (x1 : Int) (x3 : Int) (x5 : Int) (s : (Int × pj_W)) : Option ((Int × pj_W) ⊕ (pj_W)) := pj_Lp (fun s : (Int × pj_W) => fO_prepare_154b x1 x3 x5 s.1 s.2) s
noncomputable def fO_prepare_140b (x1 : Int) (x3 : Int) (x5 : Int) (w : pj_W) : Option ((Int × pj_W) ⊕ (pj_W)) :=
  if (pj_shl 1 (w 17 0 7)) ≤ x5 then (some (Sum.inr (w))) else (fO_prepare_154 x1 x3 x5 (0, w))
noncomputable def fO_prepare_140 (x1 : Int) (x3 : Int) (s : (Int × pj_W)) : Option (pj_W) := pj_Lp (fun s : (Int × pj_W) => fO_prepare_140b x1 x3 s.1 s.2) s
noncomputable def fO_prepare_63b (x1 : Int) (x2 : Int) (x3 : Int) (x5 : Int) (w : pj_W) : Option ((Int × pj_W) ⊕ (pj_W)) :=
  if (w 17 0 7) ≤ x5 then ((fO_prepare_140 x1 x3 (0, w)).map Sum.inr) else (if 0 ≤ x5 ∧ x5 < 8 then (if 0 ≤ x5 ∧ x5 < 9 then ((some (pj_set (pj_set w 37 0 x5 (w 23 (8 * x1 + x5) 3)) 39 0 x5 ((pj_set w 37 0 x5 (w 23 (8 * x1 + x5) 3)) 23 (8 * x1 + x5) 4))).bind fun w4 => (if (w4 23 (8 * x1 + x5) 5) = 0 then (fO_prepare_130 x1 x2 x3 x5 x5 1000000 w4) else ((fN_behindOthers (8 * x1 + x5) x2 w4).bind fun p6 => (fO_prepare_130 x1 x2 x3 x5 x5 p6 w4)))) else none) else none)
noncomputable def fO_prepare_63 (x1 : Int) (x2 : Int) (x3 : Int) (s : (Int × pj_W)) : Option (pj_W) := pj_Lp (fun s : (Int × pj_W) => fO_prepare_63b x1 x2 x3 s.1 s.2) s
noncomputable def fO_prepare (x1 : Int) (x2 : Int) (x3 : Int) (w : pj_W) : Option (pj_W) :=
  if 0 ≤ x1 then ((fB_finderAt x1 x2 w).bind fun p2 => (if p2 < 0 then (some (w)) else ((some (pj_set (pj_set (pj_set w 17 0 7 (w 19 x1 8)) 17 0 8 ((pj_set w 17 0 7 (w 19 x1 8)) 22 p2 2)) 17 0 9 ((pj_set (pj_set w 17 0 7 (w 19 x1 8)) 17 0 8 ((pj_set w 17 0 7 (w 19 x1 8)) 22 p2 2)) 22 p2 4))).bind fun w5 => ((some (pj_set (pj_set w5 17 0 10 (w5 22 p2 3)) 37 0 8 ((pj_set w5 17 0 10 (w5 22 p2 3)) 22 p2 1))).bind fun w6 => (fO_prepare_63 x1 x2 x3 (0, w6)))))) else none
theorem tO_prepare_130 {Go : pj_C → Prop} (hM : pj_M l yX8_prepare cX8_prepare 7 none 3 69 true g n0 o Go) (x1 : Int) (x2 : Int) (x3 : Int) (x5 : Int) (s1 : Int) (s2 : Int) (w : pj_W) (hn1 : 0 ≤ x1) (R : (Int × pj_W) ⊕ (pj_W) → Prop) (h0 : ∀ r, R (Sum.inr (r)) → ((none : Option pj_V), r) = o) (hk63 : ∀ s, R (Sum.inl s) → Go (63, [(17, 0), (19, x1), (0, x2), (0, x3), (9, 0), (0, s.1), (9, 0)], [], s.2)) : pj_TG R (fO_prepare_130 x1 x2 x3 x5 s1 s2 w) (Go (130, [(17, 0), (19, x1), (0, x2), (0, x3), (9, 0), (0, x5), (9, 0)], [(0, s2), (0, s1), (38, 0)], w)) := by
  unfold fO_prepare_130
  refine pj_tgd (fun h1 => ?_)
  exact pj_tret (fun hr => pj_ias hM (pc := 130) dX8_prepare_130 ki_38 (by decide) h1 (pj_iinc hM (pc := 131) dX8_prepare_131 rfl (by decide) (lls' := [(17, 0), (19, x1), (0, x2), (0, x3), (9, 0), (0, (pj_wr (x5 + 1))), (9, 0)]) rfl (pj_goto hM (pc := 134) dX8_prepare_134 rfl (pj_kill hM [true, true, true, true, false, true, false] (lls' := [(17, 0), (19, x1), (0, x2), (0, x3), (9, 0), (0, (pj_wr (x5 + 1))), (9, 0)]) rfl ((hk63 _ hr))))))
theorem tO_prepare_154b {Go : pj_C → Prop} (hM : pj_M l yX8_prepare cX8_prepare 7 none 3 69 true g n0 o Go) (x1 : Int) (x3 : Int) (x5 : Int) (x6 : Int) (w : pj_W) (hn1 : 0 ≤ x1) (R : (Int × pj_W) ⊕ ((Int × pj_W) ⊕ (pj_W)) → Prop) (h0 : ∀ r, R (Sum.inr (Sum.inr (r))) → ((none : Option pj_V), r) = o) (hk140 : ∀ s, R (Sum.inr (Sum.inl s)) → Go (140, [(17, 0), (19, x1), (9, 0), (0, x3), (9, 0), (0, s.1), (9, 0)], [], s.2)) (hk154 : ∀ s, R (Sum.inl s) → Go (154, [(17, 0), (19, x1), (9, 0), (0, x3), (9, 0), (0, x5), (0, s.1)], [], s.2)) : pj_TG R (fO_prepare_154b x1 x3 x5 x6 w) (Go (154, [(17, 0), (19, x1), (9, 0), (0, x3), (9, 0), (0, x5), (0, x6)], [], w)) := by
  unfold fO_prepare_154b
  refine pj_map (fun k => pj_iload hM (pc := 154) dX8_prepare_154 rfl (pj_bipush hM (pc := 156) dX8_prepare_156 (by decide) k)) ?_
  refine pj_tif (fun h1 => ?_) (fun h1 => ?_)
  · exact pj_tret (fun hr => pj_ic_ge_t hM (pc := 158) dX8_prepare_158 rfl h1 (pj_iinc hM (pc := 194) dX8_prepare_194 rfl (by decide) (lls' := [(17, 0), (19, x1), (9, 0), (0, x3), (9, 0), (0, (pj_wr (x5 + 1))), (0, x6)]) rfl (pj_goto hM (pc := 197) dX8_prepare_197 rfl (pj_kill hM [true, true, false, true, false, true, false] (lls' := [(17, 0), (19, x1), (9, 0), (0, x3), (9, 0), (0, (pj_wr (x5 + 1))), (9, 0)]) rfl ((hk140 _ hr))))))
  refine pj_tbind (fun p2 h3 => ?_)
  refine pj_tgd (fun h4 => ?_)
  exact pj_tret (fun hr => pj_ic_ge_f hM (pc := 158) 194 dX8_prepare_158 rfl h1 (pj_aload_n hM (pc := 161) dX8_prepare_161 rfl rfl (pj_getF hM (pc := 162) (t := 36) dX8_prepare_162 fl_X8_11 (by decide) rfl rfl (pj_iload hM (pc := 165) dX8_prepare_165 rfl (pj_bipush hM (pc := 167) dX8_prepare_167 (by decide) (pj_imul hM (pc := 169) dX8_prepare_169 (pj_iload hM (pc := 170) dX8_prepare_170 rfl (pj_iadd hM (pc := 172) dX8_prepare_172 (pj_aload_n hM (pc := 173) dX8_prepare_173 rfl rfl (pj_iload hM (pc := 174) dX8_prepare_174 rfl (pj_iload hM (pc := 176) dX8_prepare_176 rfl (pj_aload_n hM (pc := 178) dX8_prepare_178 rfl rfl (pj_gf hM (pc := 179) (t := 0) dX8_prepare_179 fl_X8_77 hn1 rfl 3 rfl (pj_iload_n hM (pc := 182) dX8_prepare_182 rfl (pj_iadd hM (pc := 183) dX8_prepare_183 (pj_cV hM (pc := 184) (cO_latestFor x5 x6 (pj_wr ((w 19 x1 3) + x3)) w p2 h3) dX8_prepare_184 mf_X8_latestFor mv_X8_latestFor ml_X8_80 kc_17 rfl rfl (by decide) rfl rfl (pj_ias hM (pc := 187) dX8_prepare_187 ki_36 (by decide) h4 (pj_iinc hM (pc := 188) dX8_prepare_188 rfl (by decide) (lls' := [(17, 0), (19, x1), (9, 0), (0, x3), (9, 0), (0, x5), (0, (pj_wr (x6 + 1)))]) rfl (pj_goto hM (pc := 191) dX8_prepare_191 rfl (pj_kill hM [true, true, false, true, false, true, true] (lls' := [(17, 0), (19, x1), (9, 0), (0, x3), (9, 0), (0, x5), (0, (pj_wr (x6 + 1)))]) rfl ((hk154 _ hr))))))))))))))))))))))
theorem tO_prepare_154 {Go : pj_C → Prop} (hM : pj_M l yX8_prepare cX8_prepare 7 none 3 69 true g n0 o Go) (x1 : Int) (x3 : Int) (x5 : Int) (hn1 : 0 ≤ x1) (R : (Int × pj_W) ⊕ (pj_W) → Prop) (h0 : ∀ r, R (Sum.inr (r)) → ((none : Option pj_V), r) = o) (hk140 : ∀ s, R (Sum.inl s) → Go (140, [(17, 0), (19, x1), (9, 0), (0, x3), (9, 0), (0, s.1), (9, 0)], [], s.2)) (s : (Int × pj_W)) : pj_TG R (fO_prepare_154 x1 x3 x5 s) (Go (154, [(17, 0), (19, x1), (9, 0), (0, x3), (9, 0), (0, x5), (0, s.1)], [], s.2)) := by
  unfold fO_prepare_154
  exact pj_tLp (G := fun s : (Int × pj_W) => Go (154, [(17, 0), (19, x1), (9, 0), (0, x3), (9, 0), (0, x5), (0, s.1)], [], s.2)) (fun s => tO_prepare_154b hM x1 x3 x5 s.1 s.2 hn1 _ (fun r h => h0 r h) (fun s h => hk140 s h) (fun s h => h)) s
theorem tO_prepare_140b {Go : pj_C → Prop} (hM : pj_M l yX8_prepare cX8_prepare 7 none 3 69 true g n0 o Go) (x1 : Int) (x3 : Int) (x5 : Int) (w : pj_W) (hn1 : 0 ≤ x1) (R : (Int × pj_W) ⊕ (pj_W) → Prop) (h0 : ∀ r, R (Sum.inr (r)) → ((none : Option pj_V), r) = o) (hk140 : ∀ s, R (Sum.inl s) → Go (140, [(17, 0), (19, x1), (9, 0), (0, x3), (9, 0), (0, s.1), (9, 0)], [], s.2)) : pj_TG R (fO_prepare_140b x1 x3 x5 w) (Go (140, [(17, 0), (19, x1), (9, 0), (0, x3), (9, 0), (0, x5), (9, 0)], [], w)) := by
  unfold fO_prepare_140b
  refine pj_map (fun k => pj_iload hM (pc := 140) dX8_prepare_140 rfl (pj_iconst hM (pc := 142) dX8_prepare_142 (by decide) (pj_aload_n hM (pc := 143) dX8_prepare_143 rfl rfl (pj_gf hM (pc := 144) (t := 0) dX8_prepare_144 fl_X8_38 (by decide) rfl 7 rfl (pj_ishl hM (pc := 147) dX8_prepare_147 k))))) ?_
  refine pj_tif (fun h1 => ?_) (fun h1 => ?_)
  · exact pj_tret (fun hr => pj_ic_ge_t hM (pc := 148) dX8_prepare_148 rfl h1 (pj_ret hM (pc := 200) dX8_prepare_200 rfl (h0 (w) hr) rfl))
  refine pj_map (fun k => pj_ic_ge_f hM (pc := 148) 200 dX8_prepare_148 rfl h1 (pj_iconst hM (pc := 151) dX8_prepare_151 (by decide) (pj_istore hM (pc := 152) dX8_prepare_152 (by decide) (lls' := [(17, 0), (19, x1), (9, 0), (0, x3), (9, 0), (0, x5), (0, 0)]) rfl (pj_kill hM [true, true, false, true, false, true, true] (lls' := [(17, 0), (19, x1), (9, 0), (0, x3), (9, 0), (0, x5), (0, 0)]) rfl k)))) ?_
  exact tO_prepare_154 hM x1 x3 x5 hn1 _ h0 hk140 _
theorem tO_prepare_140 {Go : pj_C → Prop} (hM : pj_M l yX8_prepare cX8_prepare 7 none 3 69 true g n0 o Go) (x1 : Int) (x3 : Int) (hn1 : 0 ≤ x1) (R : pj_W → Prop) (h0 : ∀ r, R (r) → ((none : Option pj_V), r) = o) (s : (Int × pj_W)) : pj_TG R (fO_prepare_140 x1 x3 s) (Go (140, [(17, 0), (19, x1), (9, 0), (0, x3), (9, 0), (0, s.1), (9, 0)], [], s.2)) := by
  unfold fO_prepare_140
  exact pj_tLp (G := fun s : (Int × pj_W) => Go (140, [(17, 0), (19, x1), (9, 0), (0, x3), (9, 0), (0, s.1), (9, 0)], [], s.2)) (fun s => tO_prepare_140b hM x1 x3 s.1 s.2 hn1 _ (fun r h => h0 r h)  (fun s h => h)) s
theorem tO_prepare_63b {Go : pj_C → Prop} (hM : pj_M l yX8_prepare cX8_prepare 7 none 3 69 true g n0 o Go) (x1 : Int) (x2 : Int) (x3 : Int) (x5 : Int) (w : pj_W) (hn1 : 0 ≤ x1) (R : (Int × pj_W) ⊕ (pj_W) → Prop) (h0 : ∀ r, R (Sum.inr (r)) → ((none : Option pj_V), r) = o) (hk63 : ∀ s, R (Sum.inl s) → Go (63, [(17, 0), (19, x1), (0, x2), (0, x3), (9, 0), (0, s.1), (9, 0)], [], s.2)) : pj_TG R (fO_prepare_63b x1 x2 x3 x5 w) (Go (63, [(17, 0), (19, x1), (0, x2), (0, x3), (9, 0), (0, x5), (9, 0)], [], w)) := by
  unfold fO_prepare_63b
  refine pj_map (fun k => pj_iload hM (pc := 63) dX8_prepare_63 rfl (pj_aload_n hM (pc := 65) dX8_prepare_65 rfl rfl (pj_gf hM (pc := 66) (t := 0) dX8_prepare_66 fl_X8_38 (by decide) rfl 7 rfl k))) ?_
  refine pj_tif (fun h1 => ?_) (fun h1 => ?_)
  · refine pj_tmap ?_
    refine pj_map (fun k => pj_ic_ge_t hM (pc := 69) dX8_prepare_69 rfl h1 (pj_iconst hM (pc := 137) dX8_prepare_137 (by decide) (pj_istore hM (pc := 138) dX8_prepare_138 (by decide) (lls' := [(17, 0), (19, x1), (0, x2), (0, x3), (9, 0), (0, 0), (9, 0)]) rfl (pj_kill hM [true, true, false, true, false, true, false] (lls' := [(17, 0), (19, x1), (9, 0), (0, x3), (9, 0), (0, 0), (9, 0)]) rfl k)))) ?_
    exact tO_prepare_140 hM x1 x3 hn1 _ h0 _
  refine pj_tgd (fun h2 => ?_)
  refine pj_tgd (fun h3 => ?_)
  refine pj_map (fun k => pj_ic_ge_f hM (pc := 69) 137 dX8_prepare_69 rfl h1 (pj_aload_n hM (pc := 72) dX8_prepare_72 rfl rfl (pj_getF hM (pc := 73) (t := 21) dX8_prepare_73 fl_X8_58 hn1 rfl rfl (pj_iload hM (pc := 76) dX8_prepare_76 rfl (pj_aald hM (pc := 78) (fun s : Int => 8 * x1 + s) dX8_prepare_78 (by decide) rfl (fun _ => rfl) ⟨_, rfl⟩ (by decide) hn1 h2 (fun _ => rfl) (by show (0 : Int) ≤ (8 * x1 + x5); omega) (pj_astore hM (pc := 79) dX8_prepare_79 (by decide) (by decide) (lls' := [(17, 0), (19, x1), (0, x2), (0, x3), (9, 0), (0, x5), (23, (8 * x1 + x5))]) rfl (pj_aload_n hM (pc := 81) dX8_prepare_81 rfl rfl (pj_getF hM (pc := 82) (t := 37) dX8_prepare_82 fl_X8_15 (by decide) rfl rfl (pj_iload hM (pc := 85) dX8_prepare_85 rfl (pj_aload hM (pc := 87) dX8_prepare_87 rfl rfl (pj_gf hM (pc := 89) (t := 0) dX8_prepare_89 fl_X8_62 (by show (0 : Int) ≤ (8 * x1 + x5); omega) rfl 3 rfl (pj_ias hM (pc := 92) dX8_prepare_92 ki_37 (by decide) h3 (pj_aload_n hM (pc := 93) dX8_prepare_93 rfl rfl (pj_getF hM (pc := 94) (t := 39) dX8_prepare_94 fl_X8_21 (by decide) rfl rfl (pj_iload hM (pc := 97) dX8_prepare_97 rfl (pj_aload hM (pc := 99) dX8_prepare_99 rfl rfl (pj_gf hM (pc := 101) (t := 0) dX8_prepare_101 fl_X8_65 (by show (0 : Int) ≤ (8 * x1 + x5); omega) rfl 4 rfl (pj_ias hM (pc := 104) dX8_prepare_104 ki_39 (by decide) h2 k)))))))))))))))))) ?_
  refine pj_tlet (fun w4 => Go (105, [(17, 0), (19, x1), (0, x2), (0, x3), (9, 0), (0, x5), (23, (8 * x1 + x5))], [], w4)) (fun w4 => ?_)
  refine pj_map (fun k => pj_aload_n hM (pc := 105) dX8_prepare_105 rfl rfl (pj_getF hM (pc := 106) (t := 38) dX8_prepare_106 fl_X8_18 (by decide) rfl rfl (pj_iload hM (pc := 109) dX8_prepare_109 rfl (pj_aload hM (pc := 111) dX8_prepare_111 rfl rfl (pj_gf hM (pc := 113) (t := 0) dX8_prepare_113 fl_X8_68 (by show (0 : Int) ≤ (8 * x1 + x5); omega) rfl 5 rfl k))))) ?_
  refine pj_tif (fun h5 => ?_) (fun h5 => ?_)
  · refine pj_map (fun k => pj_if_eq_t hM (pc := 116) dX8_prepare_116 rfl h5 (pj_ldc hM (pc := 128) (z := 1000000) dX8_prepare_128 kn_X8_76 rfl (by decide) (pj_kill hM [true, true, true, true, false, true, false] (lls' := [(17, 0), (19, x1), (0, x2), (0, x3), (9, 0), (0, x5), (9, 0)]) rfl k))) ?_
    exact tO_prepare_130 hM x1 x2 x3 x5 x5 1000000 w4 hn1 _ h0 hk63
  refine pj_tbind (fun p6 h7 => ?_)
  refine pj_map (fun k => pj_if_eq_f hM (pc := 116) 128 dX8_prepare_116 rfl h5 (pj_aload hM (pc := 119) dX8_prepare_119 rfl rfl (pj_iload_n hM (pc := 121) dX8_prepare_121 rfl (pj_cV hM (pc := 122) (cN_behindOthers (8 * x1 + x5) x2 (by show (0 : Int) ≤ (8 * x1 + x5); omega) w4 p6 h7) dX8_prepare_122 mf_X4_behindOthers mv_X4_behindOthers ml_X8_72 kc_23 rfl rfl (by show (0 : Int) ≤ (8 * x1 + x5); omega) rfl rfl (pj_goto hM (pc := 125) dX8_prepare_125 rfl (pj_kill hM [true, true, true, true, false, true, false] (lls' := [(17, 0), (19, x1), (0, x2), (0, x3), (9, 0), (0, x5), (9, 0)]) rfl k)))))) ?_
  exact tO_prepare_130 hM x1 x2 x3 x5 x5 p6 w4 hn1 _ h0 hk63
theorem tO_prepare_63 {Go : pj_C → Prop} (hM : pj_M l yX8_prepare cX8_prepare 7 none 3 69 true g n0 o Go) (x1 : Int) (x2 : Int) (x3 : Int) (hn1 : 0 ≤ x1) (R : pj_W → Prop) (h0 : ∀ r, R (r) → ((none : Option pj_V), r) = o) (s : (Int × pj_W)) : pj_TG R (fO_prepare_63 x1 x2 x3 s) (Go (63, [(17, 0), (19, x1), (0, x2), (0, x3), (9, 0), (0, s.1), (9, 0)], [], s.2)) := by
  unfold fO_prepare_63
  exact pj_tLp (G := fun s : (Int × pj_W) => Go (63, [(17, 0), (19, x1), (0, x2), (0, x3), (9, 0), (0, s.1), (9, 0)], [], s.2)) (fun s => tO_prepare_63b hM x1 x2 x3 s.1 s.2 hn1 _ (fun r h => h0 r h)  (fun s h => h)) s
theorem tO_prepare {Go : pj_C → Prop} (hM : pj_M l yX8_prepare cX8_prepare 7 none 3 69 true g n0 o Go) (x1 : Int) (x2 : Int) (x3 : Int) (w : pj_W)  (R : pj_W → Prop) (h0 : ∀ r, R (r) → ((none : Option pj_V), r) = o) : pj_TG R (fO_prepare x1 x2 x3 w) (Go (0, [(17, 0), (19, x1), (0, x2), (0, x3), (9, 0), (9, 0), (9, 0)], [], w)) := by
  unfold fO_prepare
  refine pj_tgd (fun h1 => ?_)
  refine pj_tbind (fun p2 h3 => ?_)
  refine pj_map (fun k => pj_aload_n hM (pc := 0) dX8_prepare_0 rfl rfl (pj_iload_n hM (pc := 1) dX8_prepare_1 rfl (pj_cV hM (pc := 2) (cB_finderAt x1 x2 h1 w p2 h3) dX8_prepare_2 mf_X0_finderAt mv_X0_finderAt ml_X8_30 kc_19 rfl rfl h1 rfl rfl (pj_astore hM (pc := 5) dX8_prepare_5 (by decide) (by decide) (lls' := [(17, 0), (19, x1), (0, x2), (0, x3), (22, p2), (9, 0), (9, 0)]) rfl (pj_aload hM (pc := 7) dX8_prepare_7 rfl rfl k))))) ?_
  refine pj_tif (fun h4 => ?_) (fun h4 => ?_)
  · exact pj_tret (fun hr => pj_nonnull_f hM (pc := 9) 13 dX8_prepare_9 rfl (by decide) h4 (pj_ret hM (pc := 12) dX8_prepare_12 rfl (h0 (w) hr) rfl))
  refine pj_map (fun k => pj_nonnull_t hM (pc := 9) dX8_prepare_9 rfl (by decide) h4 (pj_aload_n hM (pc := 13) dX8_prepare_13 rfl rfl (pj_aload_n hM (pc := 14) dX8_prepare_14 rfl rfl (pj_gf hM (pc := 15) (t := 0) dX8_prepare_15 fl_X8_34 h1 rfl 8 rfl (pj_pf hM (pc := 18) dX8_prepare_18 fl_X8_38 (by decide) rfl (fun h => absurd h (by decide)) (by decide) (fun _ => rfl) 7 rfl (pj_aload_n hM (pc := 21) dX8_prepare_21 rfl rfl (pj_aload hM (pc := 22) dX8_prepare_22 rfl rfl (pj_gf hM (pc := 24) (t := 0) dX8_prepare_24 fl_X8_41 (Int.not_lt.mp h4) rfl 2 rfl (pj_pf hM (pc := 27) dX8_prepare_27 fl_X8_46 (by decide) rfl (fun h => absurd h (by decide)) (by decide) (fun _ => rfl) 8 rfl (pj_aload_n hM (pc := 30) dX8_prepare_30 rfl rfl (pj_aload hM (pc := 31) dX8_prepare_31 rfl rfl (pj_gf hM (pc := 33) (t := 0) dX8_prepare_33 fl_X8_47 (Int.not_lt.mp h4) rfl 4 rfl (pj_pf hM (pc := 36) dX8_prepare_36 fl_X8_50 (by decide) rfl (fun h => absurd h (by decide)) (by decide) (fun _ => rfl) 9 rfl k))))))))))))) ?_
  refine pj_tlet (fun w5 => Go (39, [(17, 0), (19, x1), (0, x2), (0, x3), (22, p2), (9, 0), (9, 0)], [], w5)) (fun w5 => ?_)
  refine pj_map (fun k => pj_aload_n hM (pc := 39) dX8_prepare_39 rfl rfl (pj_aload hM (pc := 40) dX8_prepare_40 rfl rfl (pj_gf hM (pc := 42) (t := 0) dX8_prepare_42 fl_X8_51 (Int.not_lt.mp h4) rfl 3 rfl (pj_pf hM (pc := 45) dX8_prepare_45 fl_X8_54 (by decide) rfl (fun h => absurd h (by decide)) (by decide) (fun _ => rfl) 10 rfl (pj_aload_n hM (pc := 48) dX8_prepare_48 rfl rfl (pj_getF hM (pc := 49) (t := 37) dX8_prepare_49 fl_X8_15 (by decide) rfl rfl (pj_bipush hM (pc := 52) dX8_prepare_52 (by decide) (pj_aload hM (pc := 54) dX8_prepare_54 rfl rfl (pj_gf hM (pc := 56) (t := 0) dX8_prepare_56 fl_X8_55 (Int.not_lt.mp h4) rfl 1 rfl (pj_ias hM (pc := 59) dX8_prepare_59 ki_37 (by decide) (by decide) k)))))))))) ?_
  refine pj_tlet (fun w6 => Go (60, [(17, 0), (19, x1), (0, x2), (0, x3), (22, p2), (9, 0), (9, 0)], [], w6)) (fun w6 => ?_)
  refine pj_map (fun k => pj_iconst hM (pc := 60) dX8_prepare_60 (by decide) (pj_istore hM (pc := 61) dX8_prepare_61 (by decide) (lls' := [(17, 0), (19, x1), (0, x2), (0, x3), (22, p2), (0, 0), (9, 0)]) rfl (pj_kill hM [true, true, true, true, false, true, false] (lls' := [(17, 0), (19, x1), (0, x2), (0, x3), (9, 0), (0, 0), (9, 0)]) rfl k))) ?_
  exact tO_prepare_63 hM x1 x2 x3 h1 _ h0 _
theorem cO_prepare (x1 : Int) (x2 : Int) (x3 : Int)  (w : pj_W) (r : pj_W) (h : fO_prepare x1 x2 x3 w = some r) : pj_Cn l yX8_prepare cX8_prepare 7 none 3 69 true g [(17, 0), (19, x1), (0, x2), (0, x3)] w ((none : Option pj_V), r) :=
  pj_Cn_of rfl (Nat.le_of_ble_eq_true rfl) (lls := [(17, 0), (19, x1), (0, x2), (0, x3), (9, 0), (9, 0), (9, 0)]) rfl (fun Go hM => tO_prepare hM x1 x2 x3 w (fun x => ((none : Option pj_V), x) = ((none : Option pj_V), r)) (fun r h => h) r h rfl)
noncomputable def fX_best (x1 : Int) (w : pj_W) : Option (Int × pj_W) :=
  if 0 ≤ (w 10 0 10) then ((fB_finderAt (w 10 0 10) x1 w).bind fun p2 => (if p2 < 0 then ((fX_refuse 1 w).bind fun p5 => (some ((p5.1, p5.2)))) else ((fO_prepare (w 10 0 10) x1 0 w).bind fun p7 => ((fO_chooseRow p7).bind fun p9 => ((fO_bestWorth p9).bind fun p11 => ((fX_answer p11 p9).bind fun p13 => (some ((p13.1, p13.2))))))))) else none
theorem tX_best {Go : pj_C → Prop} (hM : pj_M l yX11_best cX11_best 2 (some .int) 6 141 true g n0 o Go) (x1 : Int) (w : pj_W)  (R : Int × pj_W → Prop) (h0 : ∀ r, R (r) → ((some (0, r.1) : Option pj_V), r.2) = o) : pj_TG R (fX_best x1 w) (Go (0, [(10, 0), (0, x1)], [], w)) := by
  unfold fX_best
  refine pj_tgd (fun h1 => ?_)
  refine pj_tbind (fun p2 h3 => ?_)
  refine pj_map (fun k => pj_aload_n hM (pc := 0) dX11_best_0 rfl rfl (pj_gf hM (pc := 1) (t := 19) dX11_best_1 fl_X11_69 (by decide) rfl 10 rfl (pj_iload_n hM (pc := 4) dX11_best_4 rfl (pj_cV hM (pc := 5) (cB_finderAt (w 10 0 10) x1 h1 w p2 h3) dX11_best_5 mf_X0_finderAt mv_X0_finderAt ml_X11_216 kc_19 rfl rfl h1 rfl rfl k)))) ?_
  refine pj_tif (fun h4 => ?_) (fun h4 => ?_)
  · refine pj_tbind (fun p5 h6 => ?_)
    exact pj_tret (fun hr => pj_nonnull_f hM (pc := 8) 17 dX11_best_8 rfl (by decide) h4 (pj_aload_n hM (pc := 11) dX11_best_11 rfl rfl (pj_iconst hM (pc := 12) dX11_best_12 (by decide) (pj_cV hM (pc := 13) (cX_refuse 1 w p5 h6) dX11_best_13 mf_X11_refuse mv_X11_refuse ml_X11_100 kc_10 rfl rfl (by decide) rfl rfl (pj_ret hM (pc := 16) dX11_best_16 ⟨_, rfl⟩ (h0 ((p5.1, p5.2)) hr) rfl)))))
  refine pj_tbind (fun p7 h8 => ?_)
  refine pj_tbind (fun p9 h10 => ?_)
  refine pj_tbind (fun p11 h12 => ?_)
  refine pj_tbind (fun p13 h14 => ?_)
  exact pj_tret (fun hr => pj_nonnull_t hM (pc := 8) dX11_best_8 rfl (by decide) h4 (pj_aload_n hM (pc := 17) dX11_best_17 rfl rfl (pj_getF hM (pc := 18) (t := 17) dX11_best_18 fl_X11_53 (by decide) rfl rfl (pj_aload_n hM (pc := 21) dX11_best_21 rfl rfl (pj_gf hM (pc := 22) (t := 19) dX11_best_22 fl_X11_69 (by decide) rfl 10 rfl (pj_iload_n hM (pc := 25) dX11_best_25 rfl (pj_iconst hM (pc := 26) dX11_best_26 (by decide) (pj_cVv hM (pc := 27) (cO_prepare (w 10 0 10) x1 0 w p7 h8) dX11_best_27 mf_X8_prepare mv_X8_prepare ml_X11_322 kc_17 rfl rfl (by decide) rfl rfl (pj_aload_n hM (pc := 30) dX11_best_30 rfl rfl (pj_getF hM (pc := 31) (t := 17) dX11_best_31 fl_X11_53 (by decide) rfl rfl (pj_cVv hM (pc := 34) (cO_chooseRow p7 p9 h10) dX11_best_34 mf_X8_chooseRow mv_X8_chooseRow ml_X11_326 kc_17 rfl rfl (by decide) rfl rfl (pj_aload_n hM (pc := 37) dX11_best_37 rfl rfl (pj_aload_n hM (pc := 38) dX11_best_38 rfl rfl (pj_getF hM (pc := 39) (t := 17) dX11_best_39 fl_X11_53 (by decide) rfl rfl (pj_cV hM (pc := 42) (cO_bestWorth p9 p11 h12) dX11_best_42 mf_X8_bestWorth mv_X8_bestWorth ml_X11_329 kc_17 rfl rfl (by decide) rfl rfl (pj_cV hM (pc := 45) (cX_answer p11 p9 p13 h14) dX11_best_45 mf_X11_answer mv_X11_answer ml_X11_96 kc_10 rfl rfl (by decide) rfl rfl (pj_ret hM (pc := 48) dX11_best_48 ⟨_, rfl⟩ (h0 ((p13.1, p13.2)) hr) rfl)))))))))))))))))
theorem cX_best (x1 : Int)  (w : pj_W) (r : Int × pj_W) (h : fX_best x1 w = some r) : pj_Cn l yX11_best cX11_best 2 (some .int) 6 141 true g [(10, 0), (0, x1)] w ((some (0, r.1) : Option pj_V), r.2) :=
  pj_Cn_of rfl (Nat.le_of_ble_eq_true rfl) (lls := [(10, 0), (0, x1)]) rfl (fun Go hM => tX_best hM x1 w (fun x => ((some (0, x.1) : Option pj_V), x.2) = ((some (0, r.1) : Option pj_V), r.2)) (fun r h => h) r h rfl)
noncomputable def fX_bestAt_31  (w : pj_W) : Option (Int × pj_W) :=
  (fX_refuse 6 w).bind fun p1 => (some ((p1.1, p1.2)))
noncomputable def fX_bestAt (x1 : Int) (w : pj_W) : Option (Int × pj_W) :=
  if x1 < 0 then (fX_bestAt_31 w) else (if (w 17 0 6) ≤ x1 then (fX_bestAt_31 w) else (if 0 ≤ x1 ∧ x1 < 8 then ((fX_answer (w 41 0 x1) w).bind fun p4 => (some ((p4.1, p4.2)))) else none))
theorem tX_bestAt_31 {Go : pj_C → Prop} (hM : pj_M l yX11_bestAt cX11_bestAt 2 (some .int) 1 21 true g n0 o Go)  (w : pj_W)  (R : Int × pj_W → Prop) (h0 : ∀ r, R (r) → ((some (0, r.1) : Option pj_V), r.2) = o) : pj_TG R (fX_bestAt_31  w) (Go (31, [(10, 0), (9, 0)], [], w)) := by
  unfold fX_bestAt_31
  refine pj_tbind (fun p1 h2 => ?_)
  exact pj_tret (fun hr => pj_aload_n hM (pc := 31) dX11_bestAt_31 rfl rfl (pj_bipush hM (pc := 32) dX11_bestAt_32 (by decide) (pj_cV hM (pc := 34) (cX_refuse 6 w p1 h2) dX11_bestAt_34 mf_X11_refuse mv_X11_refuse ml_X11_100 kc_10 rfl rfl (by decide) rfl rfl (pj_ret hM (pc := 37) dX11_bestAt_37 ⟨_, rfl⟩ (h0 ((p1.1, p1.2)) hr) rfl))))
theorem tX_bestAt {Go : pj_C → Prop} (hM : pj_M l yX11_bestAt cX11_bestAt 2 (some .int) 1 21 true g n0 o Go) (x1 : Int) (w : pj_W)  (R : Int × pj_W → Prop) (h0 : ∀ r, R (r) → ((some (0, r.1) : Option pj_V), r.2) = o) : pj_TG R (fX_bestAt x1 w) (Go (0, [(10, 0), (0, x1)], [], w)) := by
  unfold fX_bestAt
  refine pj_map (fun k => pj_iload_n hM (pc := 0) dX11_bestAt_0 rfl k) ?_
  refine pj_tif (fun h1 => ?_) (fun h1 => ?_)
  · refine pj_map (fun k => pj_if_lt_t hM (pc := 1) dX11_bestAt_1 rfl h1 (pj_kill hM [true, false] (lls' := [(10, 0), (9, 0)]) rfl k)) ?_
    exact tX_bestAt_31 hM w _ h0
  refine pj_map (fun k => pj_if_lt_f hM (pc := 1) 31 dX11_bestAt_1 rfl h1 (pj_iload_n hM (pc := 4) dX11_bestAt_4 rfl (pj_aload_n hM (pc := 5) dX11_bestAt_5 rfl rfl (pj_getF hM (pc := 6) (t := 17) dX11_bestAt_6 fl_X11_53 (by decide) rfl rfl (pj_gf hM (pc := 9) (t := 0) dX11_bestAt_9 fl_X11_332 (by decide) rfl 6 rfl k))))) ?_
  refine pj_tif (fun h2 => ?_) (fun h2 => ?_)
  · refine pj_map (fun k => pj_ic_ge_t hM (pc := 12) dX11_bestAt_12 rfl h2 (pj_kill hM [true, false] (lls' := [(10, 0), (9, 0)]) rfl k)) ?_
    exact tX_bestAt_31 hM w _ h0
  refine pj_tgd (fun h3 => ?_)
  refine pj_tbind (fun p4 h5 => ?_)
  exact pj_tret (fun hr => pj_ic_ge_f hM (pc := 12) 31 dX11_bestAt_12 rfl h2 (pj_aload_n hM (pc := 15) dX11_bestAt_15 rfl rfl (pj_aload_n hM (pc := 16) dX11_bestAt_16 rfl rfl (pj_getF hM (pc := 17) (t := 17) dX11_bestAt_17 fl_X11_53 (by decide) rfl rfl (pj_getF hM (pc := 20) (t := 41) dX11_bestAt_20 fl_X11_335 (by decide) rfl rfl (pj_iload_n hM (pc := 23) dX11_bestAt_23 rfl (pj_ial hM (pc := 24) dX11_bestAt_24 ki_41 (by decide) h3 (pj_cV hM (pc := 25) (cX_answer (w 41 0 x1) w p4 h5) dX11_bestAt_25 mf_X11_answer mv_X11_answer ml_X11_96 kc_10 rfl rfl (by decide) rfl rfl (pj_goto hM (pc := 28) dX11_bestAt_28 rfl (pj_ret hM (pc := 37) dX11_bestAt_37 ⟨_, rfl⟩ (h0 ((p4.1, p4.2)) hr) rfl))))))))))
theorem cX_bestAt (x1 : Int)  (w : pj_W) (r : Int × pj_W) (h : fX_bestAt x1 w = some r) : pj_Cn l yX11_bestAt cX11_bestAt 2 (some .int) 1 21 true g [(10, 0), (0, x1)] w ((some (0, r.1) : Option pj_V), r.2) :=
  pj_Cn_of rfl (Nat.le_of_ble_eq_true rfl) (lls := [(10, 0), (0, x1)]) rfl (fun Go hM => tX_bestAt hM x1 w (fun x => ((some (0, x.1) : Option pj_V), x.2) = ((some (0, r.1) : Option pj_V), r.2)) (fun r h => h) r h rfl)
noncomputable def fB_sightOf_56 (i0 : Int) (x1 : Int) (x2 : Int) (x3 : Int) (x4 : Int) (w : pj_W) : Option ((Int × Int) ⊕ (Int)) :=
  some (Sum.inl (x3, (pj_wr (x4 + 1))))
noncomputable def fB_sightOf_5b (i0 : Int) (x1 : Int) (x2 : Int) (w : pj_W) (x3 : Int) (x4 : Int) : Option ((Int × Int) ⊕ (Int)) :=
  if (w 19 i0 8) ≤ x4 then (some (Sum.inr (x3))) else (if 0 ≤ x4 ∧ x4 < 8 then (if (w 23 (8 * i0 + x4) 5) = 0 then (fB_sightOf_56 i0 x1 x2 x3 x4 w) else (if 0 ≤ x1 then (fB_sightOf_56 i0 x1 x2 (if x2 < (pj_abs (pj_wr ((w 23 (8 * i0 + x4) 3) - (w 22 x1 1)))) then x3 else (pj_or x3 (pj_shl 1 x4))) x4 w) else none)) else none)
noncomputable def fB_sightOf_5 (i0 : Int) (x1 : Int) (x2 : Int) (w : pj_W) (s : (Int × Int)) : Option (Int) := pj_Lp (fun s : (Int × Int) => fB_sightOf_5b i0 x1 x2 w s.1 s.2) s
noncomputable def fB_sightOf (i0 : Int) (x1 : Int) (x2 : Int) (w : pj_W) : Option (Int) :=
  fB_sightOf_5 i0 x1 x2 w (0, 0)
theorem tB_sightOf_56 {Go : pj_C → Prop} (hM : pj_M l yX0_sightOf cX0_sightOf 5 (some .int) 1 21 true g n0 o Go) (i0 : Int) (x1 : Int) (x2 : Int) (x3 : Int) (x4 : Int) (w : pj_W) (hn0 : 0 ≤ i0) (R : (Int × Int) ⊕ (Int) → Prop) (h0 : ∀ r, R (Sum.inr (r)) → ((some (0, r) : Option pj_V), w) = o) (hk5 : ∀ s, R (Sum.inl s) → Go (5, [(19, i0), (22, x1), (0, x2), (0, s.1), (0, s.2)], [], w)) : pj_TG R (fB_sightOf_56 i0 x1 x2 x3 x4 w) (Go (56, [(19, i0), (22, x1), (0, x2), (0, x3), (0, x4)], [], w)) := by
  unfold fB_sightOf_56
  exact pj_tret (fun hr => pj_iinc hM (pc := 56) dX0_sightOf_56 rfl (by decide) (lls' := [(19, i0), (22, x1), (0, x2), (0, x3), (0, (pj_wr (x4 + 1)))]) rfl (pj_goto hM (pc := 59) dX0_sightOf_59 rfl (pj_kill hM [true, true, true, true, true] (lls' := [(19, i0), (22, x1), (0, x2), (0, x3), (0, (pj_wr (x4 + 1)))]) rfl ((hk5 _ hr)))))
theorem tB_sightOf_5b {Go : pj_C → Prop} (hM : pj_M l yX0_sightOf cX0_sightOf 5 (some .int) 1 21 true g n0 o Go) (i0 : Int) (x1 : Int) (x2 : Int) (w : pj_W) (x3 : Int) (x4 : Int) (hn0 : 0 ≤ i0) (R : (Int × Int) ⊕ (Int) → Prop) (h0 : ∀ r, R (Sum.inr (r)) → ((some (0, r) : Option pj_V), w) = o) (hk5 : ∀ s, R (Sum.inl s) → Go (5, [(19, i0), (22, x1), (0, x2), (0, s.1), (0, s.2)], [], w)) : pj_TG R (fB_sightOf_5b i0 x1 x2 w x3 x4) (Go (5, [(19, i0), (22, x1), (0, x2), (0, x3), (0, x4)], [], w)) := by
  unfold fB_sightOf_5b
  refine pj_map (fun k => pj_iload hM (pc := 5) dX0_sightOf_5 rfl (pj_aload_n hM (pc := 7) dX0_sightOf_7 rfl rfl (pj_gf hM (pc := 8) (t := 0) dX0_sightOf_8 fl_X0_47 hn0 rfl 8 rfl k))) ?_
  refine pj_tif (fun h1 => ?_) (fun h1 => ?_)
  · exact pj_tret (fun hr => pj_ic_ge_t hM (pc := 11) dX0_sightOf_11 rfl h1 (pj_iload_n hM (pc := 62) dX0_sightOf_62 rfl (pj_ret hM (pc := 63) dX0_sightOf_63 ⟨_, rfl⟩ (h0 (x3) hr) rfl)))
  refine pj_tgd (fun h2 => ?_)
  refine pj_map (fun k => pj_ic_ge_f hM (pc := 11) 62 dX0_sightOf_11 rfl h1 (pj_aload_n hM (pc := 14) dX0_sightOf_14 rfl rfl (pj_getF hM (pc := 15) (t := 21) dX0_sightOf_15 fl_X0_19 hn0 rfl rfl (pj_iload hM (pc := 18) dX0_sightOf_18 rfl (pj_aald hM (pc := 20) (fun s : Int => 8 * i0 + s) dX0_sightOf_20 (by decide) rfl (fun _ => rfl) ⟨_, rfl⟩ (by decide) hn0 h2 (fun _ => rfl) (by show (0 : Int) ≤ (8 * i0 + x4); omega) (pj_gf hM (pc := 21) (t := 0) dX0_sightOf_21 fl_X0_84 (by show (0 : Int) ≤ (8 * i0 + x4); omega) rfl 5 rfl k)))))) ?_
  refine pj_tif (fun h3 => ?_) (fun h3 => ?_)
  · refine pj_map (fun k => pj_if_eq_t hM (pc := 24) dX0_sightOf_24 rfl h3 (pj_kill hM [true, true, true, true, true] (lls' := [(19, i0), (22, x1), (0, x2), (0, x3), (0, x4)]) rfl k)) ?_
    exact tB_sightOf_56 hM i0 x1 x2 x3 x4 w hn0 _ h0 hk5
  refine pj_tgd (fun h4 => ?_)
  refine pj_map (fun k => pj_if_eq_f hM (pc := 24) 56 dX0_sightOf_24 rfl h3 (pj_aload_n hM (pc := 27) dX0_sightOf_27 rfl rfl (pj_getF hM (pc := 28) (t := 21) dX0_sightOf_28 fl_X0_19 hn0 rfl rfl (pj_iload hM (pc := 31) dX0_sightOf_31 rfl (pj_aald hM (pc := 33) (fun s : Int => 8 * i0 + s) dX0_sightOf_33 (by decide) rfl (fun _ => rfl) ⟨_, rfl⟩ (by decide) hn0 h2 (fun _ => rfl) (by show (0 : Int) ≤ (8 * i0 + x4); omega) (pj_gf hM (pc := 34) (t := 0) dX0_sightOf_34 fl_X0_80 (by show (0 : Int) ≤ (8 * i0 + x4); omega) rfl 3 rfl (pj_aload_n hM (pc := 37) dX0_sightOf_37 rfl rfl (pj_gf hM (pc := 38) (t := 0) dX0_sightOf_38 fl_X0_64 h4 rfl 1 rfl (pj_isub hM (pc := 41) dX0_sightOf_41 (pj_mabs hM (pc := 42) dX0_sightOf_42 mf_J9_abs_0f7a4 ms_J9_abs_0f7a4 ml_X0_191 rfl (pj_iload_n hM (pc := 45) dX0_sightOf_45 rfl k))))))))))) ?_
  refine pj_tJ (fun v : Int => fB_sightOf_56 i0 x1 x2 v x4 w) (fun h5 => ?_) (fun h5 => ?_)
  · refine pj_map (fun k => pj_ic_gt_t hM (pc := 46) dX0_sightOf_46 rfl h5 (pj_kill hM [true, true, true, true, true] (lls' := [(19, i0), (22, x1), (0, x2), (0, x3), (0, x4)]) rfl k)) ?_
    exact tB_sightOf_56 hM i0 x1 x2 x3 x4 w hn0 _ h0 hk5
  refine pj_map (fun k => pj_ic_gt_f hM (pc := 46) 56 dX0_sightOf_46 rfl h5 (pj_iload_n hM (pc := 49) dX0_sightOf_49 rfl (pj_iconst hM (pc := 50) dX0_sightOf_50 (by decide) (pj_iload hM (pc := 51) dX0_sightOf_51 rfl (pj_ishl hM (pc := 53) dX0_sightOf_53 (pj_ior hM (pc := 54) dX0_sightOf_54 (pj_istore_n hM (pc := 55) dX0_sightOf_55 (by decide) (lls' := [(19, i0), (22, x1), (0, x2), (0, (pj_or x3 (pj_shl 1 x4))), (0, x4)]) rfl (pj_kill hM [true, true, true, true, true] (lls' := [(19, i0), (22, x1), (0, x2), (0, (pj_or x3 (pj_shl 1 x4))), (0, x4)]) rfl k)))))))) ?_
  exact tB_sightOf_56 hM i0 x1 x2 (pj_or x3 (pj_shl 1 x4)) x4 w hn0 _ h0 hk5
theorem tB_sightOf_5 {Go : pj_C → Prop} (hM : pj_M l yX0_sightOf cX0_sightOf 5 (some .int) 1 21 true g n0 o Go) (i0 : Int) (x1 : Int) (x2 : Int) (w : pj_W) (hn0 : 0 ≤ i0) (R : Int → Prop) (h0 : ∀ r, R (r) → ((some (0, r) : Option pj_V), w) = o) (s : (Int × Int)) : pj_TG R (fB_sightOf_5 i0 x1 x2 w s) (Go (5, [(19, i0), (22, x1), (0, x2), (0, s.1), (0, s.2)], [], w)) := by
  unfold fB_sightOf_5
  exact pj_tLp (G := fun s : (Int × Int) => Go (5, [(19, i0), (22, x1), (0, x2), (0, s.1), (0, s.2)], [], w)) (fun s => tB_sightOf_5b hM i0 x1 x2 w s.1 s.2 hn0 _ (fun r h => h0 r h)  (fun s h => h)) s
theorem tB_sightOf {Go : pj_C → Prop} (hM : pj_M l yX0_sightOf cX0_sightOf 5 (some .int) 1 21 true g n0 o Go) (i0 : Int) (x1 : Int) (x2 : Int) (w : pj_W) (hn0 : 0 ≤ i0) (R : Int → Prop) (h0 : ∀ r, R (r) → ((some (0, r) : Option pj_V), w) = o) : pj_TG R (fB_sightOf i0 x1 x2 w) (Go (0, [(19, i0), (22, x1), (0, x2), (9, 0), (9, 0)], [], w)) := by
  unfold fB_sightOf
  refine pj_map (fun k => pj_iconst hM (pc := 0) dX0_sightOf_0 (by decide) (pj_istore_n hM (pc := 1) dX0_sightOf_1 (by decide) (lls' := [(19, i0), (22, x1), (0, x2), (0, 0), (9, 0)]) rfl (pj_iconst hM (pc := 2) dX0_sightOf_2 (by decide) (pj_istore hM (pc := 3) dX0_sightOf_3 (by decide) (lls' := [(19, i0), (22, x1), (0, x2), (0, 0), (0, 0)]) rfl (pj_kill hM [true, true, true, true, true] (lls' := [(19, i0), (22, x1), (0, x2), (0, 0), (0, 0)]) rfl k))))) ?_
  exact tB_sightOf_5 hM i0 x1 x2 w hn0 _ h0 _
theorem cB_sightOf (i0 : Int) (x1 : Int) (x2 : Int) (hn0 : 0 ≤ i0) (w : pj_W) (r : Int) (h : fB_sightOf i0 x1 x2 w = some r) : pj_Cn l yX0_sightOf cX0_sightOf 5 (some .int) 1 21 true g [(19, i0), (22, x1), (0, x2)] w ((some (0, r) : Option pj_V), w) :=
  pj_Cn_of rfl (Nat.le_of_ble_eq_true rfl) (lls := [(19, i0), (22, x1), (0, x2), (9, 0), (9, 0)]) rfl (fun Go hM => tB_sightOf hM i0 x1 x2 w hn0 (fun x => ((some (0, x) : Option pj_V), w) = ((some (0, r) : Option pj_V), w)) (fun r h => h) r h rfl)
noncomputable def fX_both_45  (w : pj_W) : Option (Int × pj_W) :=
  (fX_refuse 1 w).bind fun p1 => (some ((p1.1, p1.2)))
noncomputable def fX_both (x1 : Int) (x2 : Int) (x3 : Int) (w : pj_W) : Option (Int × pj_W) :=
  if 0 ≤ (w 10 0 10) then ((fB_finderAt (w 10 0 10) x1 w).bind fun p2 => ((fB_finderAt (w 10 0 10) x2 w).bind fun p4 => (if p2 < 0 then (fX_both_45 w) else (if p4 < 0 then (fX_both_45 w) else (if x1 = x2 then (fX_both_45 w) else (if x3 < 0 then (fX_both_45 w) else (if x3 ≤ 40 then ((fB_sightOf (w 10 0 10) p2 x3 w).bind fun p11 => ((fB_sightOf (w 10 0 10) p4 x3 w).bind fun p13 => ((fX_answer (pj_and p11 p13) w).bind fun p15 => (some ((p15.1, p15.2)))))) else (fX_both_45 w)))))))) else none
theorem tX_both_45 {Go : pj_C → Prop} (hM : pj_M l yX11_both cX11_both 6 (some .int) 2 45 true g n0 o Go)  (w : pj_W)  (R : Int × pj_W → Prop) (h0 : ∀ r, R (r) → ((some (0, r.1) : Option pj_V), r.2) = o) : pj_TG R (fX_both_45  w) (Go (45, [(10, 0), (9, 0), (9, 0), (9, 0), (9, 0), (9, 0)], [], w)) := by
  unfold fX_both_45
  refine pj_tbind (fun p1 h2 => ?_)
  exact pj_tret (fun hr => pj_aload_n hM (pc := 45) dX11_both_45 rfl rfl (pj_iconst hM (pc := 46) dX11_both_46 (by decide) (pj_cV hM (pc := 47) (cX_refuse 1 w p1 h2) dX11_both_47 mf_X11_refuse mv_X11_refuse ml_X11_100 kc_10 rfl rfl (by decide) rfl rfl (pj_ret hM (pc := 50) dX11_both_50 ⟨_, rfl⟩ (h0 ((p1.1, p1.2)) hr) rfl))))
theorem tX_both {Go : pj_C → Prop} (hM : pj_M l yX11_both cX11_both 6 (some .int) 2 45 true g n0 o Go) (x1 : Int) (x2 : Int) (x3 : Int) (w : pj_W)  (R : Int × pj_W → Prop) (h0 : ∀ r, R (r) → ((some (0, r.1) : Option pj_V), r.2) = o) : pj_TG R (fX_both x1 x2 x3 w) (Go (0, [(10, 0), (0, x1), (0, x2), (0, x3), (9, 0), (9, 0)], [], w)) := by
  unfold fX_both
  refine pj_tgd (fun h1 => ?_)
  refine pj_tbind (fun p2 h3 => ?_)
  refine pj_tbind (fun p4 h5 => ?_)
  refine pj_map (fun k => pj_aload_n hM (pc := 0) dX11_both_0 rfl rfl (pj_gf hM (pc := 1) (t := 19) dX11_both_1 fl_X11_69 (by decide) rfl 10 rfl (pj_iload_n hM (pc := 4) dX11_both_4 rfl (pj_cV hM (pc := 5) (cB_finderAt (w 10 0 10) x1 h1 w p2 h3) dX11_both_5 mf_X0_finderAt mv_X0_finderAt ml_X11_216 kc_19 rfl rfl h1 rfl rfl (pj_astore hM (pc := 8) dX11_both_8 (by decide) (by decide) (lls' := [(10, 0), (0, x1), (0, x2), (0, x3), (22, p2), (9, 0)]) rfl (pj_aload_n hM (pc := 10) dX11_both_10 rfl rfl (pj_gf hM (pc := 11) (t := 19) dX11_both_11 fl_X11_69 (by decide) rfl 10 rfl (pj_iload_n hM (pc := 14) dX11_both_14 rfl (pj_cV hM (pc := 15) (cB_finderAt (w 10 0 10) x2 h1 w p4 h5) dX11_both_15 mf_X0_finderAt mv_X0_finderAt ml_X11_216 kc_19 rfl rfl h1 rfl rfl (pj_astore hM (pc := 18) dX11_both_18 (by decide) (by decide) (lls' := [(10, 0), (0, x1), (0, x2), (0, x3), (22, p2), (22, p4)]) rfl (pj_aload hM (pc := 20) dX11_both_20 rfl rfl k))))))))))) ?_
  refine pj_tif (fun h6 => ?_) (fun h6 => ?_)
  · refine pj_map (fun k => pj_null_t hM (pc := 22) dX11_both_22 rfl (by decide) h6 (pj_kill hM [true, false, false, false, false, false] (lls' := [(10, 0), (9, 0), (9, 0), (9, 0), (9, 0), (9, 0)]) rfl k)) ?_
    exact tX_both_45 hM w _ h0
  refine pj_map (fun k => pj_null_f hM (pc := 22) 45 dX11_both_22 rfl (by decide) h6 (pj_aload hM (pc := 25) dX11_both_25 rfl rfl k)) ?_
  refine pj_tif (fun h7 => ?_) (fun h7 => ?_)
  · refine pj_map (fun k => pj_null_t hM (pc := 27) dX11_both_27 rfl (by decide) h7 (pj_kill hM [true, false, false, false, false, false] (lls' := [(10, 0), (9, 0), (9, 0), (9, 0), (9, 0), (9, 0)]) rfl k)) ?_
    exact tX_both_45 hM w _ h0
  refine pj_map (fun k => pj_null_f hM (pc := 27) 45 dX11_both_27 rfl (by decide) h7 (pj_iload_n hM (pc := 30) dX11_both_30 rfl (pj_iload_n hM (pc := 31) dX11_both_31 rfl k))) ?_
  refine pj_tif (fun h8 => ?_) (fun h8 => ?_)
  · refine pj_map (fun k => pj_ic_eq_t hM (pc := 32) dX11_both_32 rfl h8 (pj_kill hM [true, false, false, false, false, false] (lls' := [(10, 0), (9, 0), (9, 0), (9, 0), (9, 0), (9, 0)]) rfl k)) ?_
    exact tX_both_45 hM w _ h0
  refine pj_map (fun k => pj_ic_eq_f hM (pc := 32) 45 dX11_both_32 rfl h8 (pj_iload_n hM (pc := 35) dX11_both_35 rfl k)) ?_
  refine pj_tif (fun h9 => ?_) (fun h9 => ?_)
  · refine pj_map (fun k => pj_if_lt_t hM (pc := 36) dX11_both_36 rfl h9 (pj_kill hM [true, false, false, false, false, false] (lls' := [(10, 0), (9, 0), (9, 0), (9, 0), (9, 0), (9, 0)]) rfl k)) ?_
    exact tX_both_45 hM w _ h0
  refine pj_map (fun k => pj_if_lt_f hM (pc := 36) 45 dX11_both_36 rfl h9 (pj_iload_n hM (pc := 39) dX11_both_39 rfl (pj_bipush hM (pc := 40) dX11_both_40 (by decide) k))) ?_
  refine pj_tif (fun h10 => ?_) (fun h10 => ?_)
  · refine pj_tbind (fun p11 h12 => ?_)
    refine pj_tbind (fun p13 h14 => ?_)
    refine pj_tbind (fun p15 h16 => ?_)
    exact pj_tret (fun hr => pj_ic_le_t hM (pc := 42) dX11_both_42 rfl h10 (pj_aload_n hM (pc := 51) dX11_both_51 rfl rfl (pj_aload_n hM (pc := 52) dX11_both_52 rfl rfl (pj_gf hM (pc := 53) (t := 19) dX11_both_53 fl_X11_69 (by decide) rfl 10 rfl (pj_aload hM (pc := 56) dX11_both_56 rfl rfl (pj_iload_n hM (pc := 58) dX11_both_58 rfl (pj_cV hM (pc := 59) (cB_sightOf (w 10 0 10) p2 x3 h1 w p11 h12) dX11_both_59 mf_X0_sightOf mv_X0_sightOf ml_X11_338 kc_19 rfl rfl h1 rfl rfl (pj_aload_n hM (pc := 62) dX11_both_62 rfl rfl (pj_gf hM (pc := 63) (t := 19) dX11_both_63 fl_X11_69 (by decide) rfl 10 rfl (pj_aload hM (pc := 66) dX11_both_66 rfl rfl (pj_iload_n hM (pc := 68) dX11_both_68 rfl (pj_cV hM (pc := 69) (cB_sightOf (w 10 0 10) p4 x3 h1 w p13 h14) dX11_both_69 mf_X0_sightOf mv_X0_sightOf ml_X11_338 kc_19 rfl rfl h1 rfl rfl (pj_iand hM (pc := 72) dX11_both_72 (pj_cV hM (pc := 73) (cX_answer (pj_and p11 p13) w p15 h16) dX11_both_73 mf_X11_answer mv_X11_answer ml_X11_96 kc_10 rfl rfl (by decide) rfl rfl (pj_ret hM (pc := 76) dX11_both_76 ⟨_, rfl⟩ (h0 ((p15.1, p15.2)) hr) rfl)))))))))))))))
  refine pj_map (fun k => pj_ic_le_f hM (pc := 42) 51 dX11_both_42 rfl h10 (pj_kill hM [true, false, false, false, false, false] (lls' := [(10, 0), (9, 0), (9, 0), (9, 0), (9, 0), (9, 0)]) rfl k)) ?_
  exact tX_both_45 hM w _ h0
theorem cX_both (x1 : Int) (x2 : Int) (x3 : Int)  (w : pj_W) (r : Int × pj_W) (h : fX_both x1 x2 x3 w = some r) : pj_Cn l yX11_both cX11_both 6 (some .int) 2 45 true g [(10, 0), (0, x1), (0, x2), (0, x3)] w ((some (0, r.1) : Option pj_V), r.2) :=
  pj_Cn_of rfl (Nat.le_of_ble_eq_true rfl) (lls := [(10, 0), (0, x1), (0, x2), (0, x3), (9, 0), (9, 0)]) rfl (fun Go hM => tX_both hM x1 x2 x3 w (fun x => ((some (0, x.1) : Option pj_V), x.2) = ((some (0, r.1) : Option pj_V), r.2)) (fun r h => h) r h rfl)
noncomputable def fX_bottom  (w : pj_W) : Option (Int) :=
  some ((w 10 0 17))
theorem tX_bottom {Go : pj_C → Prop} (hM : pj_M l yX11_bottom cX11_bottom 1 (some .long) 0 0 ph g n0 o Go)  (w : pj_W)  (R : Int → Prop) (h0 : ∀ r, R (r) → ((some (1, r) : Option pj_V), w) = o) : pj_TG R (fX_bottom  w) (Go (0, [(10, 0)], [], w)) := by
  unfold fX_bottom
  exact pj_tret (fun hr => pj_aload_n hM (pc := 0) dX11_bottom_0 rfl rfl (pj_gf hM (pc := 1) (t := 1) dX11_bottom_1 fl_X11_84 (by decide) rfl 17 rfl (pj_ret hM (pc := 4) dX11_bottom_4 ⟨_, rfl⟩ (h0 ((w 10 0 17)) hr) rfl)))
theorem cX_bottom   (w : pj_W) (r : Int) (h : fX_bottom  w = some r) : pj_Cn l yX11_bottom cX11_bottom 1 (some .long) 0 0 ph g [(10, 0)] w ((some (1, r) : Option pj_V), w) :=
  pj_Cn_of rfl (Nat.le_of_ble_eq_true rfl) (lls := [(10, 0)]) rfl (fun Go hM => tX_bottom hM w (fun x => ((some (1, x) : Option pj_V), w) = ((some (1, r) : Option pj_V), w)) (fun r h => h) r h rfl)
noncomputable def fB_leftmostFrom_57 (i0 : Int) (x1 : Int) (x2 : Int) (x3 : Int) (w : pj_W) : Option ((Int × Int) ⊕ (Int)) :=
  some (Sum.inl (x2, (pj_wr (x3 + 1))))
noncomputable def fB_leftmostFrom_51 (i0 : Int) (x1 : Int) (x3 : Int) (x4 : Int) (w : pj_W) : Option ((Int × Int) ⊕ (Int)) :=
  fB_leftmostFrom_57 i0 x1 (w 23 x4 3) x3 w
noncomputable def fB_leftmostFrom_4b (i0 : Int) (x1 : Int) (w : pj_W) (x2 : Int) (x3 : Int) : Option ((Int × Int) ⊕ (Int)) :=
  if (w 19 i0 8) ≤ x3 then (some (Sum.inr (x2))) else (if 0 ≤ x3 ∧ x3 < 8 then (if (w 23 (8 * i0 + x3) 5) = 0 then (fB_leftmostFrom_57 i0 x1 x2 x3 w) else (if (w 23 (8 * i0 + x3) 3) < x1 then (fB_leftmostFrom_57 i0 x1 x2 x3 w) else (if x2 = (-1) then (fB_leftmostFrom_51 i0 x1 x3 (8 * i0 + x3) w) else (if x2 ≤ (w 23 (8 * i0 + x3) 3) then (fB_leftmostFrom_57 i0 x1 x2 x3 w) else (fB_leftmostFrom_51 i0 x1 x3 (8 * i0 + x3) w))))) else none)
noncomputable def fB_leftmostFrom_4 (i0 : Int) (x1 : Int) (w : pj_W) (s : (Int × Int)) : Option (Int) := pj_Lp (fun s : (Int × Int) => fB_leftmostFrom_4b i0 x1 w s.1 s.2) s
noncomputable def fB_leftmostFrom (i0 : Int) (x1 : Int) (w : pj_W) : Option (Int) :=
  fB_leftmostFrom_4 i0 x1 w ((-1), 0)
theorem tB_leftmostFrom_57 {Go : pj_C → Prop} (hM : pj_M l yX0_leftmostFrom cX0_leftmostFrom 5 (some .int) 0 0 true g n0 o Go) (i0 : Int) (x1 : Int) (x2 : Int) (x3 : Int) (w : pj_W) (hn0 : 0 ≤ i0) (R : (Int × Int) ⊕ (Int) → Prop) (h0 : ∀ r, R (Sum.inr (r)) → ((some (0, r) : Option pj_V), w) = o) (hk4 : ∀ s, R (Sum.inl s) → Go (4, [(19, i0), (0, x1), (0, s.1), (0, s.2), (9, 0)], [], w)) : pj_TG R (fB_leftmostFrom_57 i0 x1 x2 x3 w) (Go (57, [(19, i0), (0, x1), (0, x2), (0, x3), (9, 0)], [], w)) := by
  unfold fB_leftmostFrom_57
  exact pj_tret (fun hr => pj_iinc hM (pc := 57) dX0_leftmostFrom_57 rfl (by decide) (lls' := [(19, i0), (0, x1), (0, x2), (0, (pj_wr (x3 + 1))), (9, 0)]) rfl (pj_goto hM (pc := 60) dX0_leftmostFrom_60 rfl (pj_kill hM [true, true, true, true, false] (lls' := [(19, i0), (0, x1), (0, x2), (0, (pj_wr (x3 + 1))), (9, 0)]) rfl ((hk4 _ hr)))))
theorem tB_leftmostFrom_51 {Go : pj_C → Prop} (hM : pj_M l yX0_leftmostFrom cX0_leftmostFrom 5 (some .int) 0 0 true g n0 o Go) (i0 : Int) (x1 : Int) (x3 : Int) (x4 : Int) (w : pj_W) (hn0 : 0 ≤ i0) (hn4 : 0 ≤ x4) (R : (Int × Int) ⊕ (Int) → Prop) (h0 : ∀ r, R (Sum.inr (r)) → ((some (0, r) : Option pj_V), w) = o) (hk4 : ∀ s, R (Sum.inl s) → Go (4, [(19, i0), (0, x1), (0, s.1), (0, s.2), (9, 0)], [], w)) : pj_TG R (fB_leftmostFrom_51 i0 x1 x3 x4 w) (Go (51, [(19, i0), (0, x1), (9, 0), (0, x3), (23, x4)], [], w)) := by
  unfold fB_leftmostFrom_51
  refine pj_map (fun k => pj_aload hM (pc := 51) dX0_leftmostFrom_51 rfl rfl (pj_gf hM (pc := 53) (t := 0) dX0_leftmostFrom_53 fl_X0_80 hn4 rfl 3 rfl (pj_istore_n hM (pc := 56) dX0_leftmostFrom_56 (by decide) (lls' := [(19, i0), (0, x1), (0, (w 23 x4 3)), (0, x3), (23, x4)]) rfl (pj_kill hM [true, true, true, true, false] (lls' := [(19, i0), (0, x1), (0, (w 23 x4 3)), (0, x3), (9, 0)]) rfl k)))) ?_
  exact tB_leftmostFrom_57 hM i0 x1 (w 23 x4 3) x3 w hn0 _ h0 hk4
theorem tB_leftmostFrom_4b {Go : pj_C → Prop} (hM : pj_M l yX0_leftmostFrom cX0_leftmostFrom 5 (some .int) 0 0 true g n0 o Go) (i0 : Int) (x1 : Int) (w : pj_W) (x2 : Int) (x3 : Int) (hn0 : 0 ≤ i0) (R : (Int × Int) ⊕ (Int) → Prop) (h0 : ∀ r, R (Sum.inr (r)) → ((some (0, r) : Option pj_V), w) = o) (hk4 : ∀ s, R (Sum.inl s) → Go (4, [(19, i0), (0, x1), (0, s.1), (0, s.2), (9, 0)], [], w)) : pj_TG R (fB_leftmostFrom_4b i0 x1 w x2 x3) (Go (4, [(19, i0), (0, x1), (0, x2), (0, x3), (9, 0)], [], w)) := by
  unfold fB_leftmostFrom_4b
  refine pj_map (fun k => pj_iload_n hM (pc := 4) dX0_leftmostFrom_4 rfl (pj_aload_n hM (pc := 5) dX0_leftmostFrom_5 rfl rfl (pj_gf hM (pc := 6) (t := 0) dX0_leftmostFrom_6 fl_X0_47 hn0 rfl 8 rfl k))) ?_
  refine pj_tif (fun h1 => ?_) (fun h1 => ?_)
  · exact pj_tret (fun hr => pj_ic_ge_t hM (pc := 9) dX0_leftmostFrom_9 rfl h1 (pj_iload_n hM (pc := 63) dX0_leftmostFrom_63 rfl (pj_ret hM (pc := 64) dX0_leftmostFrom_64 ⟨_, rfl⟩ (h0 (x2) hr) rfl)))
  refine pj_tgd (fun h2 => ?_)
  refine pj_map (fun k => pj_ic_ge_f hM (pc := 9) 63 dX0_leftmostFrom_9 rfl h1 (pj_aload_n hM (pc := 12) dX0_leftmostFrom_12 rfl rfl (pj_getF hM (pc := 13) (t := 21) dX0_leftmostFrom_13 fl_X0_19 hn0 rfl rfl (pj_iload_n hM (pc := 16) dX0_leftmostFrom_16 rfl (pj_aald hM (pc := 17) (fun s : Int => 8 * i0 + s) dX0_leftmostFrom_17 (by decide) rfl (fun _ => rfl) ⟨_, rfl⟩ (by decide) hn0 h2 (fun _ => rfl) (by show (0 : Int) ≤ (8 * i0 + x3); omega) (pj_astore hM (pc := 18) dX0_leftmostFrom_18 (by decide) (by decide) (lls' := [(19, i0), (0, x1), (0, x2), (0, x3), (23, (8 * i0 + x3))]) rfl (pj_aload hM (pc := 20) dX0_leftmostFrom_20 rfl rfl (pj_gf hM (pc := 22) (t := 0) dX0_leftmostFrom_22 fl_X0_84 (by show (0 : Int) ≤ (8 * i0 + x3); omega) rfl 5 rfl k)))))))) ?_
  refine pj_tif (fun h3 => ?_) (fun h3 => ?_)
  · refine pj_map (fun k => pj_if_eq_t hM (pc := 25) dX0_leftmostFrom_25 rfl h3 (pj_kill hM [true, true, true, true, false] (lls' := [(19, i0), (0, x1), (0, x2), (0, x3), (9, 0)]) rfl k)) ?_
    exact tB_leftmostFrom_57 hM i0 x1 x2 x3 w hn0 _ h0 hk4
  refine pj_map (fun k => pj_if_eq_f hM (pc := 25) 57 dX0_leftmostFrom_25 rfl h3 (pj_aload hM (pc := 28) dX0_leftmostFrom_28 rfl rfl (pj_gf hM (pc := 30) (t := 0) dX0_leftmostFrom_30 fl_X0_80 (by show (0 : Int) ≤ (8 * i0 + x3); omega) rfl 3 rfl (pj_iload_n hM (pc := 33) dX0_leftmostFrom_33 rfl k)))) ?_
  refine pj_tif (fun h4 => ?_) (fun h4 => ?_)
  · refine pj_map (fun k => pj_ic_lt_t hM (pc := 34) dX0_leftmostFrom_34 rfl h4 (pj_kill hM [true, true, true, true, false] (lls' := [(19, i0), (0, x1), (0, x2), (0, x3), (9, 0)]) rfl k)) ?_
    exact tB_leftmostFrom_57 hM i0 x1 x2 x3 w hn0 _ h0 hk4
  refine pj_map (fun k => pj_ic_lt_f hM (pc := 34) 57 dX0_leftmostFrom_34 rfl h4 (pj_iload_n hM (pc := 37) dX0_leftmostFrom_37 rfl (pj_iconst hM (pc := 38) dX0_leftmostFrom_38 (by decide) k))) ?_
  refine pj_tif (fun h5 => ?_) (fun h5 => ?_)
  · refine pj_map (fun k => pj_ic_eq_t hM (pc := 39) dX0_leftmostFrom_39 rfl h5 (pj_kill hM [true, true, false, true, true] (lls' := [(19, i0), (0, x1), (9, 0), (0, x3), (23, (8 * i0 + x3))]) rfl k)) ?_
    exact tB_leftmostFrom_51 hM i0 x1 x3 (8 * i0 + x3) w hn0 (by show (0 : Int) ≤ (8 * i0 + x3); omega) _ h0 hk4
  refine pj_map (fun k => pj_ic_eq_f hM (pc := 39) 51 dX0_leftmostFrom_39 rfl h5 (pj_aload hM (pc := 42) dX0_leftmostFrom_42 rfl rfl (pj_gf hM (pc := 44) (t := 0) dX0_leftmostFrom_44 fl_X0_80 (by show (0 : Int) ≤ (8 * i0 + x3); omega) rfl 3 rfl (pj_iload_n hM (pc := 47) dX0_leftmostFrom_47 rfl k)))) ?_
  refine pj_tif (fun h6 => ?_) (fun h6 => ?_)
  · refine pj_map (fun k => pj_ic_ge_t hM (pc := 48) dX0_leftmostFrom_48 rfl h6 (pj_kill hM [true, true, true, true, false] (lls' := [(19, i0), (0, x1), (0, x2), (0, x3), (9, 0)]) rfl k)) ?_
    exact tB_leftmostFrom_57 hM i0 x1 x2 x3 w hn0 _ h0 hk4
  refine pj_map (fun k => pj_ic_ge_f hM (pc := 48) 57 dX0_leftmostFrom_48 rfl h6 (pj_kill hM [true, true, false, true, true] (lls' := [(19, i0), (0, x1), (9, 0), (0, x3), (23, (8 * i0 + x3))]) rfl k)) ?_
  exact tB_leftmostFrom_51 hM i0 x1 x3 (8 * i0 + x3) w hn0 (by show (0 : Int) ≤ (8 * i0 + x3); omega) _ h0 hk4
theorem tB_leftmostFrom_4 {Go : pj_C → Prop} (hM : pj_M l yX0_leftmostFrom cX0_leftmostFrom 5 (some .int) 0 0 true g n0 o Go) (i0 : Int) (x1 : Int) (w : pj_W) (hn0 : 0 ≤ i0) (R : Int → Prop) (h0 : ∀ r, R (r) → ((some (0, r) : Option pj_V), w) = o) (s : (Int × Int)) : pj_TG R (fB_leftmostFrom_4 i0 x1 w s) (Go (4, [(19, i0), (0, x1), (0, s.1), (0, s.2), (9, 0)], [], w)) := by
  unfold fB_leftmostFrom_4
  exact pj_tLp (G := fun s : (Int × Int) => Go (4, [(19, i0), (0, x1), (0, s.1), (0, s.2), (9, 0)], [], w)) (fun s => tB_leftmostFrom_4b hM i0 x1 w s.1 s.2 hn0 _ (fun r h => h0 r h)  (fun s h => h)) s
theorem tB_leftmostFrom {Go : pj_C → Prop} (hM : pj_M l yX0_leftmostFrom cX0_leftmostFrom 5 (some .int) 0 0 true g n0 o Go) (i0 : Int) (x1 : Int) (w : pj_W) (hn0 : 0 ≤ i0) (R : Int → Prop) (h0 : ∀ r, R (r) → ((some (0, r) : Option pj_V), w) = o) : pj_TG R (fB_leftmostFrom i0 x1 w) (Go (0, [(19, i0), (0, x1), (9, 0), (9, 0), (9, 0)], [], w)) := by
  unfold fB_leftmostFrom
  refine pj_map (fun k => pj_iconst hM (pc := 0) dX0_leftmostFrom_0 (by decide) (pj_istore_n hM (pc := 1) dX0_leftmostFrom_1 (by decide) (lls' := [(19, i0), (0, x1), (0, (-1)), (9, 0), (9, 0)]) rfl (pj_iconst hM (pc := 2) dX0_leftmostFrom_2 (by decide) (pj_istore_n hM (pc := 3) dX0_leftmostFrom_3 (by decide) (lls' := [(19, i0), (0, x1), (0, (-1)), (0, 0), (9, 0)]) rfl (pj_kill hM [true, true, true, true, false] (lls' := [(19, i0), (0, x1), (0, (-1)), (0, 0), (9, 0)]) rfl k))))) ?_
  exact tB_leftmostFrom_4 hM i0 x1 w hn0 _ h0 _
theorem cB_leftmostFrom (i0 : Int) (x1 : Int) (hn0 : 0 ≤ i0) (w : pj_W) (r : Int) (h : fB_leftmostFrom i0 x1 w = some r) : pj_Cn l yX0_leftmostFrom cX0_leftmostFrom 5 (some .int) 0 0 true g [(19, i0), (0, x1)] w ((some (0, r) : Option pj_V), w) :=
  pj_Cn_of rfl (Nat.le_of_ble_eq_true rfl) (lls := [(19, i0), (0, x1), (9, 0), (9, 0), (9, 0)]) rfl (fun Go hM => tB_leftmostFrom hM i0 x1 w hn0 (fun x => ((some (0, x) : Option pj_V), w) = ((some (0, r) : Option pj_V), w)) (fun r h => h) r h rfl)
noncomputable def fB_boyCell_8b (i0 : Int) (x1 : Int) (x2 : Int) (w : pj_W) (x3 : Int) (x4 : Int) (x5 : Int) : Option ((Int × Int × Int) ⊕ (Int)) :=
  if x2 < x5 then (some (Sum.inr (x3))) else (if 8 < x5 then (some (Sum.inr (x3))) else ((fB_leftmostFrom i0 x4 w).bind fun p3 => (if p3 = (-1) then (some (Sum.inr ((-1)))) else ((some ((pj_wr ((pj_wr ((min (pj_wr (p3 + x1)) (pj_wr ((w 19 i0 2) - 1))) + x1)) + 1)))).bind fun y6 => (some (Sum.inl ((min (pj_wr (p3 + x1)) (pj_wr ((w 19 i0 2) - 1))), y6, (pj_wr (x5 + 1)))))))))
noncomputable def fB_boyCell_8 (i0 : Int) (x1 : Int) (x2 : Int) (w : pj_W) (s : (Int × Int × Int)) : Option (Int) := pj_Lp (fun s : (Int × Int × Int) => fB_boyCell_8b i0 x1 x2 w s.1 s.2.1 s.2.2) s
noncomputable def fB_boyCell (i0 : Int) (x1 : Int) (x2 : Int) (w : pj_W) : Option (Int) :=
  fB_boyCell_8 i0 x1 x2 w ((-1), 0, 0)
theorem tB_boyCell_8b {Go : pj_C → Prop} (hM : pj_M l yX0_boyCell cX0_boyCell 7 (some .int) 1 24 true g n0 o Go) (i0 : Int) (x1 : Int) (x2 : Int) (w : pj_W) (x3 : Int) (x4 : Int) (x5 : Int) (hn0 : 0 ≤ i0) (R : (Int × Int × Int) ⊕ (Int) → Prop) (h0 : ∀ r, R (Sum.inr (r)) → ((some (0, r) : Option pj_V), w) = o) (hk8 : ∀ s, R (Sum.inl s) → Go (8, [(19, i0), (0, x1), (0, x2), (0, s.1), (0, s.2.1), (0, s.2.2), (9, 0)], [], w)) : pj_TG R (fB_boyCell_8b i0 x1 x2 w x3 x4 x5) (Go (8, [(19, i0), (0, x1), (0, x2), (0, x3), (0, x4), (0, x5), (9, 0)], [], w)) := by
  unfold fB_boyCell_8b
  refine pj_map (fun k => pj_iload hM (pc := 8) dX0_boyCell_8 rfl (pj_iload_n hM (pc := 10) dX0_boyCell_10 rfl k)) ?_
  refine pj_tif (fun h1 => ?_) (fun h1 => ?_)
  · exact pj_tret (fun hr => pj_ic_gt_t hM (pc := 11) dX0_boyCell_11 rfl h1 (pj_iload_n hM (pc := 64) dX0_boyCell_64 rfl (pj_ret hM (pc := 65) dX0_boyCell_65 ⟨_, rfl⟩ (h0 (x3) hr) rfl)))
  refine pj_map (fun k => pj_ic_gt_f hM (pc := 11) 64 dX0_boyCell_11 rfl h1 (pj_iload hM (pc := 14) dX0_boyCell_14 rfl (pj_bipush hM (pc := 16) dX0_boyCell_16 (by decide) k))) ?_
  refine pj_tif (fun h2 => ?_) (fun h2 => ?_)
  · exact pj_tret (fun hr => pj_ic_gt_t hM (pc := 18) dX0_boyCell_18 rfl h2 (pj_iload_n hM (pc := 64) dX0_boyCell_64 rfl (pj_ret hM (pc := 65) dX0_boyCell_65 ⟨_, rfl⟩ (h0 (x3) hr) rfl)))
  refine pj_tbind (fun p3 h4 => ?_)
  refine pj_map (fun k => pj_ic_gt_f hM (pc := 18) 64 dX0_boyCell_18 rfl h2 (pj_aload_n hM (pc := 21) dX0_boyCell_21 rfl rfl (pj_iload hM (pc := 22) dX0_boyCell_22 rfl (pj_cV hM (pc := 24) (cB_leftmostFrom i0 x4 hn0 w p3 h4) dX0_boyCell_24 mf_X0_leftmostFrom mv_X0_leftmostFrom ml_X0_194 kc_19 rfl rfl hn0 rfl rfl (pj_istore hM (pc := 27) dX0_boyCell_27 (by decide) (lls' := [(19, i0), (0, x1), (0, x2), (0, x3), (0, x4), (0, x5), (0, p3)]) rfl (pj_iload hM (pc := 29) dX0_boyCell_29 rfl (pj_iconst hM (pc := 31) dX0_boyCell_31 (by decide) k))))))) ?_
  refine pj_tif (fun h5 => ?_) (fun h5 => ?_)
  · exact pj_tret (fun hr => pj_ic_ne_f hM (pc := 32) 37 dX0_boyCell_32 rfl (fun q => q h5) (pj_iconst hM (pc := 35) dX0_boyCell_35 (by decide) (pj_ret hM (pc := 36) dX0_boyCell_36 ⟨_, rfl⟩ (h0 ((-1)) hr) rfl)))
  refine pj_map (fun k => pj_ic_ne_t hM (pc := 32) dX0_boyCell_32 rfl h5 (pj_iload hM (pc := 37) dX0_boyCell_37 rfl (pj_iload_n hM (pc := 39) dX0_boyCell_39 rfl (pj_iadd hM (pc := 40) dX0_boyCell_40 (pj_aload_n hM (pc := 41) dX0_boyCell_41 rfl rfl (pj_gf hM (pc := 42) (t := 0) dX0_boyCell_42 fl_X0_28 hn0 rfl 2 rfl (pj_iconst hM (pc := 45) dX0_boyCell_45 (by decide) (pj_isub hM (pc := 46) dX0_boyCell_46 (pj_mmin hM (pc := 47) dX0_boyCell_47 mf_J9_min_7cf53 ms_J9_min_7cf53 ml_X0_197 rfl (pj_istore_n hM (pc := 50) dX0_boyCell_50 (by decide) (lls' := [(19, i0), (0, x1), (0, x2), (0, (min (pj_wr (p3 + x1)) (pj_wr ((w 19 i0 2) - 1)))), (0, x4), (0, x5), (0, p3)]) rfl (pj_iload_n hM (pc := 51) dX0_boyCell_51 rfl (pj_iload_n hM (pc := 52) dX0_boyCell_52 rfl (pj_iadd hM (pc := 53) dX0_boyCell_53 (pj_iconst hM (pc := 54) dX0_boyCell_54 (by decide) (pj_iadd hM (pc := 55) dX0_boyCell_55 (pj_istore hM (pc := 56) dX0_boyCell_56 (by decide) (lls' := [(19, i0), (0, x1), (0, x2), (0, (min (pj_wr (p3 + x1)) (pj_wr ((w 19 i0 2) - 1)))), (0, (pj_wr ((pj_wr ((min (pj_wr (p3 + x1)) (pj_wr ((w 19 i0 2) - 1))) + x1)) + 1))), (0, x5), (0, p3)]) rfl k)))))))))))))))) ?_
  refine pj_tlet (fun y6 => Go (58, [(19, i0), (0, x1), (0, x2), (0, (min (pj_wr (p3 + x1)) (pj_wr ((w 19 i0 2) - 1)))), (0, y6), (0, x5), (0, p3)], [], w)) (fun y6 => ?_)
  exact pj_tret (fun hr => pj_iinc hM (pc := 58) dX0_boyCell_58 rfl (by decide) (lls' := [(19, i0), (0, x1), (0, x2), (0, (min (pj_wr (p3 + x1)) (pj_wr ((w 19 i0 2) - 1)))), (0, y6), (0, (pj_wr (x5 + 1))), (0, p3)]) rfl (pj_goto hM (pc := 61) dX0_boyCell_61 rfl (pj_kill hM [true, true, true, true, true, true, false] (lls' := [(19, i0), (0, x1), (0, x2), (0, (min (pj_wr (p3 + x1)) (pj_wr ((w 19 i0 2) - 1)))), (0, y6), (0, (pj_wr (x5 + 1))), (9, 0)]) rfl ((hk8 _ hr)))))
theorem tB_boyCell_8 {Go : pj_C → Prop} (hM : pj_M l yX0_boyCell cX0_boyCell 7 (some .int) 1 24 true g n0 o Go) (i0 : Int) (x1 : Int) (x2 : Int) (w : pj_W) (hn0 : 0 ≤ i0) (R : Int → Prop) (h0 : ∀ r, R (r) → ((some (0, r) : Option pj_V), w) = o) (s : (Int × Int × Int)) : pj_TG R (fB_boyCell_8 i0 x1 x2 w s) (Go (8, [(19, i0), (0, x1), (0, x2), (0, s.1), (0, s.2.1), (0, s.2.2), (9, 0)], [], w)) := by
  unfold fB_boyCell_8
  exact pj_tLp (G := fun s : (Int × Int × Int) => Go (8, [(19, i0), (0, x1), (0, x2), (0, s.1), (0, s.2.1), (0, s.2.2), (9, 0)], [], w)) (fun s => tB_boyCell_8b hM i0 x1 x2 w s.1 s.2.1 s.2.2 hn0 _ (fun r h => h0 r h)  (fun s h => h)) s
theorem tB_boyCell {Go : pj_C → Prop} (hM : pj_M l yX0_boyCell cX0_boyCell 7 (some .int) 1 24 true g n0 o Go) (i0 : Int) (x1 : Int) (x2 : Int) (w : pj_W) (hn0 : 0 ≤ i0) (R : Int → Prop) (h0 : ∀ r, R (r) → ((some (0, r) : Option pj_V), w) = o) : pj_TG R (fB_boyCell i0 x1 x2 w) (Go (0, [(19, i0), (0, x1), (0, x2), (9, 0), (9, 0), (9, 0), (9, 0)], [], w)) := by
  unfold fB_boyCell
  refine pj_map (fun k => pj_iconst hM (pc := 0) dX0_boyCell_0 (by decide) (pj_istore_n hM (pc := 1) dX0_boyCell_1 (by decide) (lls' := [(19, i0), (0, x1), (0, x2), (0, (-1)), (9, 0), (9, 0), (9, 0)]) rfl (pj_iconst hM (pc := 2) dX0_boyCell_2 (by decide) (pj_istore hM (pc := 3) dX0_boyCell_3 (by decide) (lls' := [(19, i0), (0, x1), (0, x2), (0, (-1)), (0, 0), (9, 0), (9, 0)]) rfl (pj_iconst hM (pc := 5) dX0_boyCell_5 (by decide) (pj_istore hM (pc := 6) dX0_boyCell_6 (by decide) (lls' := [(19, i0), (0, x1), (0, x2), (0, (-1)), (0, 0), (0, 0), (9, 0)]) rfl (pj_kill hM [true, true, true, true, true, true, false] (lls' := [(19, i0), (0, x1), (0, x2), (0, (-1)), (0, 0), (0, 0), (9, 0)]) rfl k))))))) ?_
  exact tB_boyCell_8 hM i0 x1 x2 w hn0 _ h0 _
theorem cB_boyCell (i0 : Int) (x1 : Int) (x2 : Int) (hn0 : 0 ≤ i0) (w : pj_W) (r : Int) (h : fB_boyCell i0 x1 x2 w = some r) : pj_Cn l yX0_boyCell cX0_boyCell 7 (some .int) 1 24 true g [(19, i0), (0, x1), (0, x2)] w ((some (0, r) : Option pj_V), w) :=
  pj_Cn_of rfl (Nat.le_of_ble_eq_true rfl) (lls := [(19, i0), (0, x1), (0, x2), (9, 0), (9, 0), (9, 0), (9, 0)]) rfl (fun Go hM => tB_boyCell hM i0 x1 x2 w hn0 (fun x => ((some (0, x) : Option pj_V), w) = ((some (0, r) : Option pj_V), w)) (fun r h => h) r h rfl)
noncomputable def fX_boyAt_10  (w : pj_W) : Option (Int × pj_W) :=
  (fX_refuse 1 w).bind fun p1 => (some ((p1.1, p1.2)))
noncomputable def fX_boyAt (x1 : Int) (x2 : Int) (w : pj_W) : Option (Int × pj_W) :=
  if x1 < 0 then (fX_boyAt_10 w) else (if x1 ≤ 40 then (if 0 ≤ (w 10 0 10) then ((fB_boyCell (w 10 0 10) x1 x2 w).bind fun p4 => (if p4 = (-1) then ((fX_refuse 6 w).bind fun p7 => (some ((p7.1, p7.2)))) else ((fX_answer p4 w).bind fun p9 => (some ((p9.1, p9.2)))))) else none) else (fX_boyAt_10 w))
theorem tX_boyAt_10 {Go : pj_C → Prop} (hM : pj_M l yX11_boyAt cX11_boyAt 4 (some .int) 2 50 true g n0 o Go)  (w : pj_W)  (R : Int × pj_W → Prop) (h0 : ∀ r, R (r) → ((some (0, r.1) : Option pj_V), r.2) = o) : pj_TG R (fX_boyAt_10  w) (Go (10, [(10, 0), (9, 0), (9, 0), (9, 0)], [], w)) := by
  unfold fX_boyAt_10
  refine pj_tbind (fun p1 h2 => ?_)
  exact pj_tret (fun hr => pj_aload_n hM (pc := 10) dX11_boyAt_10 rfl rfl (pj_iconst hM (pc := 11) dX11_boyAt_11 (by decide) (pj_cV hM (pc := 12) (cX_refuse 1 w p1 h2) dX11_boyAt_12 mf_X11_refuse mv_X11_refuse ml_X11_100 kc_10 rfl rfl (by decide) rfl rfl (pj_ret hM (pc := 15) dX11_boyAt_15 ⟨_, rfl⟩ (h0 ((p1.1, p1.2)) hr) rfl))))
theorem tX_boyAt {Go : pj_C → Prop} (hM : pj_M l yX11_boyAt cX11_boyAt 4 (some .int) 2 50 true g n0 o Go) (x1 : Int) (x2 : Int) (w : pj_W)  (R : Int × pj_W → Prop) (h0 : ∀ r, R (r) → ((some (0, r.1) : Option pj_V), r.2) = o) : pj_TG R (fX_boyAt x1 x2 w) (Go (0, [(10, 0), (0, x1), (0, x2), (9, 0)], [], w)) := by
  unfold fX_boyAt
  refine pj_map (fun k => pj_iload_n hM (pc := 0) dX11_boyAt_0 rfl k) ?_
  refine pj_tif (fun h1 => ?_) (fun h1 => ?_)
  · refine pj_map (fun k => pj_if_lt_t hM (pc := 1) dX11_boyAt_1 rfl h1 (pj_kill hM [true, false, false, false] (lls' := [(10, 0), (9, 0), (9, 0), (9, 0)]) rfl k)) ?_
    exact tX_boyAt_10 hM w _ h0
  refine pj_map (fun k => pj_if_lt_f hM (pc := 1) 10 dX11_boyAt_1 rfl h1 (pj_iload_n hM (pc := 4) dX11_boyAt_4 rfl (pj_bipush hM (pc := 5) dX11_boyAt_5 (by decide) k))) ?_
  refine pj_tif (fun h2 => ?_) (fun h2 => ?_)
  · refine pj_tgd (fun h3 => ?_)
    refine pj_tbind (fun p4 h5 => ?_)
    refine pj_map (fun k => pj_ic_le_t hM (pc := 7) dX11_boyAt_7 rfl h2 (pj_aload_n hM (pc := 16) dX11_boyAt_16 rfl rfl (pj_gf hM (pc := 17) (t := 19) dX11_boyAt_17 fl_X11_69 (by decide) rfl 10 rfl (pj_iload_n hM (pc := 20) dX11_boyAt_20 rfl (pj_iload_n hM (pc := 21) dX11_boyAt_21 rfl (pj_cV hM (pc := 22) (cB_boyCell (w 10 0 10) x1 x2 h3 w p4 h5) dX11_boyAt_22 mf_X0_boyCell mv_X0_boyCell ml_X11_342 kc_19 rfl rfl h3 rfl rfl (pj_istore_n hM (pc := 25) dX11_boyAt_25 (by decide) (lls' := [(10, 0), (0, x1), (0, x2), (0, p4)]) rfl (pj_iload_n hM (pc := 26) dX11_boyAt_26 rfl (pj_iconst hM (pc := 27) dX11_boyAt_27 (by decide) k))))))))) ?_
    refine pj_tif (fun h6 => ?_) (fun h6 => ?_)
    · refine pj_tbind (fun p7 h8 => ?_)
      exact pj_tret (fun hr => pj_ic_ne_f hM (pc := 28) 40 dX11_boyAt_28 rfl (fun q => q h6) (pj_aload_n hM (pc := 31) dX11_boyAt_31 rfl rfl (pj_bipush hM (pc := 32) dX11_boyAt_32 (by decide) (pj_cV hM (pc := 34) (cX_refuse 6 w p7 h8) dX11_boyAt_34 mf_X11_refuse mv_X11_refuse ml_X11_100 kc_10 rfl rfl (by decide) rfl rfl (pj_goto hM (pc := 37) dX11_boyAt_37 rfl (pj_ret hM (pc := 45) dX11_boyAt_45 ⟨_, rfl⟩ (h0 ((p7.1, p7.2)) hr) rfl))))))
    refine pj_tbind (fun p9 h10 => ?_)
    exact pj_tret (fun hr => pj_ic_ne_t hM (pc := 28) dX11_boyAt_28 rfl h6 (pj_aload_n hM (pc := 40) dX11_boyAt_40 rfl rfl (pj_iload_n hM (pc := 41) dX11_boyAt_41 rfl (pj_cV hM (pc := 42) (cX_answer p4 w p9 h10) dX11_boyAt_42 mf_X11_answer mv_X11_answer ml_X11_96 kc_10 rfl rfl (by decide) rfl rfl (pj_ret hM (pc := 45) dX11_boyAt_45 ⟨_, rfl⟩ (h0 ((p9.1, p9.2)) hr) rfl)))))
  refine pj_map (fun k => pj_ic_le_f hM (pc := 7) 16 dX11_boyAt_7 rfl h2 (pj_kill hM [true, false, false, false] (lls' := [(10, 0), (9, 0), (9, 0), (9, 0)]) rfl k)) ?_
  exact tX_boyAt_10 hM w _ h0
theorem cX_boyAt (x1 : Int) (x2 : Int)  (w : pj_W) (r : Int × pj_W) (h : fX_boyAt x1 x2 w = some r) : pj_Cn l yX11_boyAt cX11_boyAt 4 (some .int) 2 50 true g [(10, 0), (0, x1), (0, x2)] w ((some (0, r.1) : Option pj_V), r.2) :=
  pj_Cn_of rfl (Nat.le_of_ble_eq_true rfl) (lls := [(10, 0), (0, x1), (0, x2), (9, 0)]) rfl (fun Go hM => tX_boyAt hM x1 x2 w (fun x => ((some (0, x.1) : Option pj_V), x.2) = ((some (0, r.1) : Option pj_V), r.2)) (fun r h => h) r h rfl)
noncomputable def fX_boys_43 (x2 : Int) (w : pj_W) : Option (Int × pj_W) :=
  (fX_answer x2 w).bind fun p1 => (some ((p1.1, p1.2)))
noncomputable def fX_boys_18b (x1 : Int) (w : pj_W) (x2 : Int) : Option ((Int) ⊕ (Int × pj_W)) :=
  if 8 ≤ x2 then ((fX_boys_43 x2 w).map Sum.inr) else (if 0 ≤ (w 10 0 10) then ((fB_boyCell (w 10 0 10) x1 x2 w).bind fun p3 => (if p3 = (-1) then ((fX_boys_43 x2 w).map Sum.inr) else (some (Sum.inl ((pj_wr (x2 + 1))))))) else none)
noncomputable def fX_boys_18 (x1 : Int) (w : pj_W) (s : (Int)) : Option (Int × pj_W) := pj_Lp (fun s : (Int) => fX_boys_18b x1 w s) s
noncomputable def fX_boys_10  (w : pj_W) : Option (Int × pj_W) :=
  (fX_refuse 1 w).bind fun p1 => (some ((p1.1, p1.2)))
noncomputable def fX_boys (x1 : Int) (w : pj_W) : Option (Int × pj_W) :=
  if x1 < 0 then (fX_boys_10 w) else (if x1 ≤ 40 then (fX_boys_18 x1 w (0)) else (fX_boys_10 w))
theorem tX_boys_43 {Go : pj_C → Prop} (hM : pj_M l yX11_boys cX11_boys 3 (some .int) 2 50 true g n0 o Go) (x2 : Int) (w : pj_W)  (R : Int × pj_W → Prop) (h0 : ∀ r, R (r) → ((some (0, r.1) : Option pj_V), r.2) = o) : pj_TG R (fX_boys_43 x2 w) (Go (43, [(10, 0), (9, 0), (0, x2)], [], w)) := by
  unfold fX_boys_43
  refine pj_tbind (fun p1 h2 => ?_)
  exact pj_tret (fun hr => pj_aload_n hM (pc := 43) dX11_boys_43 rfl rfl (pj_iload_n hM (pc := 44) dX11_boys_44 rfl (pj_cV hM (pc := 45) (cX_answer x2 w p1 h2) dX11_boys_45 mf_X11_answer mv_X11_answer ml_X11_96 kc_10 rfl rfl (by decide) rfl rfl (pj_ret hM (pc := 48) dX11_boys_48 ⟨_, rfl⟩ (h0 ((p1.1, p1.2)) hr) rfl))))
theorem tX_boys_18b {Go : pj_C → Prop} (hM : pj_M l yX11_boys cX11_boys 3 (some .int) 2 50 true g n0 o Go) (x1 : Int) (w : pj_W) (x2 : Int)  (R : (Int) ⊕ (Int × pj_W) → Prop) (h0 : ∀ r, R (Sum.inr (r)) → ((some (0, r.1) : Option pj_V), r.2) = o) (hk18 : ∀ s, R (Sum.inl s) → Go (18, [(10, 0), (0, x1), (0, s)], [], w)) : pj_TG R (fX_boys_18b x1 w x2) (Go (18, [(10, 0), (0, x1), (0, x2)], [], w)) := by
  unfold fX_boys_18b
  refine pj_map (fun k => pj_iload_n hM (pc := 18) dX11_boys_18 rfl (pj_bipush hM (pc := 19) dX11_boys_19 (by decide) k)) ?_
  refine pj_tif (fun h1 => ?_) (fun h1 => ?_)
  · refine pj_tmap ?_
    refine pj_map (fun k => pj_ic_ge_t hM (pc := 21) dX11_boys_21 rfl h1 (pj_kill hM [true, false, true] (lls' := [(10, 0), (9, 0), (0, x2)]) rfl k)) ?_
    exact tX_boys_43 hM x2 w _ h0
  refine pj_tgd (fun h2 => ?_)
  refine pj_tbind (fun p3 h4 => ?_)
  refine pj_map (fun k => pj_ic_ge_f hM (pc := 21) 43 dX11_boys_21 rfl h1 (pj_aload_n hM (pc := 24) dX11_boys_24 rfl rfl (pj_gf hM (pc := 25) (t := 19) dX11_boys_25 fl_X11_69 (by decide) rfl 10 rfl (pj_iload_n hM (pc := 28) dX11_boys_28 rfl (pj_iload_n hM (pc := 29) dX11_boys_29 rfl (pj_cV hM (pc := 30) (cB_boyCell (w 10 0 10) x1 x2 h2 w p3 h4) dX11_boys_30 mf_X0_boyCell mv_X0_boyCell ml_X11_342 kc_19 rfl rfl h2 rfl rfl (pj_iconst hM (pc := 33) dX11_boys_33 (by decide) k))))))) ?_
  refine pj_tif (fun h5 => ?_) (fun h5 => ?_)
  · refine pj_tmap ?_
    refine pj_map (fun k => pj_ic_eq_t hM (pc := 34) dX11_boys_34 rfl h5 (pj_kill hM [true, false, true] (lls' := [(10, 0), (9, 0), (0, x2)]) rfl k)) ?_
    exact tX_boys_43 hM x2 w _ h0
  exact pj_tret (fun hr => pj_ic_eq_f hM (pc := 34) 43 dX11_boys_34 rfl h5 (pj_iinc hM (pc := 37) dX11_boys_37 rfl (by decide) (lls' := [(10, 0), (0, x1), (0, (pj_wr (x2 + 1)))]) rfl (pj_goto hM (pc := 40) dX11_boys_40 rfl (pj_kill hM [true, true, true] (lls' := [(10, 0), (0, x1), (0, (pj_wr (x2 + 1)))]) rfl ((hk18 _ hr))))))
theorem tX_boys_18 {Go : pj_C → Prop} (hM : pj_M l yX11_boys cX11_boys 3 (some .int) 2 50 true g n0 o Go) (x1 : Int) (w : pj_W)  (R : Int × pj_W → Prop) (h0 : ∀ r, R (r) → ((some (0, r.1) : Option pj_V), r.2) = o) (s : (Int)) : pj_TG R (fX_boys_18 x1 w s) (Go (18, [(10, 0), (0, x1), (0, s)], [], w)) := by
  unfold fX_boys_18
  exact pj_tLp (G := fun s : (Int) => Go (18, [(10, 0), (0, x1), (0, s)], [], w)) (fun s => tX_boys_18b hM x1 w s  _ (fun r h => h0 r h)  (fun s h => h)) s
theorem tX_boys_10 {Go : pj_C → Prop} (hM : pj_M l yX11_boys cX11_boys 3 (some .int) 2 50 true g n0 o Go)  (w : pj_W)  (R : Int × pj_W → Prop) (h0 : ∀ r, R (r) → ((some (0, r.1) : Option pj_V), r.2) = o) : pj_TG R (fX_boys_10  w) (Go (10, [(10, 0), (9, 0), (9, 0)], [], w)) := by
  unfold fX_boys_10
  refine pj_tbind (fun p1 h2 => ?_)
  exact pj_tret (fun hr => pj_aload_n hM (pc := 10) dX11_boys_10 rfl rfl (pj_iconst hM (pc := 11) dX11_boys_11 (by decide) (pj_cV hM (pc := 12) (cX_refuse 1 w p1 h2) dX11_boys_12 mf_X11_refuse mv_X11_refuse ml_X11_100 kc_10 rfl rfl (by decide) rfl rfl (pj_ret hM (pc := 15) dX11_boys_15 ⟨_, rfl⟩ (h0 ((p1.1, p1.2)) hr) rfl))))
theorem tX_boys {Go : pj_C → Prop} (hM : pj_M l yX11_boys cX11_boys 3 (some .int) 2 50 true g n0 o Go) (x1 : Int) (w : pj_W)  (R : Int × pj_W → Prop) (h0 : ∀ r, R (r) → ((some (0, r.1) : Option pj_V), r.2) = o) : pj_TG R (fX_boys x1 w) (Go (0, [(10, 0), (0, x1), (9, 0)], [], w)) := by
  unfold fX_boys
  refine pj_map (fun k => pj_iload_n hM (pc := 0) dX11_boys_0 rfl k) ?_
  refine pj_tif (fun h1 => ?_) (fun h1 => ?_)
  · refine pj_map (fun k => pj_if_lt_t hM (pc := 1) dX11_boys_1 rfl h1 (pj_kill hM [true, false, false] (lls' := [(10, 0), (9, 0), (9, 0)]) rfl k)) ?_
    exact tX_boys_10 hM w _ h0
  refine pj_map (fun k => pj_if_lt_f hM (pc := 1) 10 dX11_boys_1 rfl h1 (pj_iload_n hM (pc := 4) dX11_boys_4 rfl (pj_bipush hM (pc := 5) dX11_boys_5 (by decide) k))) ?_
  refine pj_tif (fun h2 => ?_) (fun h2 => ?_)
  · refine pj_map (fun k => pj_ic_le_t hM (pc := 7) dX11_boys_7 rfl h2 (pj_iconst hM (pc := 16) dX11_boys_16 (by decide) (pj_istore_n hM (pc := 17) dX11_boys_17 (by decide) (lls' := [(10, 0), (0, x1), (0, 0)]) rfl (pj_kill hM [true, true, true] (lls' := [(10, 0), (0, x1), (0, 0)]) rfl k)))) ?_
    exact tX_boys_18 hM x1 w _ h0 _
  refine pj_map (fun k => pj_ic_le_f hM (pc := 7) 16 dX11_boys_7 rfl h2 (pj_kill hM [true, false, false] (lls' := [(10, 0), (9, 0), (9, 0)]) rfl k)) ?_
  exact tX_boys_10 hM w _ h0
theorem cX_boys (x1 : Int)  (w : pj_W) (r : Int × pj_W) (h : fX_boys x1 w = some r) : pj_Cn l yX11_boys cX11_boys 3 (some .int) 2 50 true g [(10, 0), (0, x1)] w ((some (0, r.1) : Option pj_V), r.2) :=
  pj_Cn_of rfl (Nat.le_of_ble_eq_true rfl) (lls := [(10, 0), (0, x1), (9, 0)]) rfl (fun Go hM => tX_boys hM x1 w (fun x => ((some (0, x.1) : Option pj_V), x.2) = ((some (0, r.1) : Option pj_V), r.2)) (fun r h => h) r h rfl)
noncomputable def fN_tallyOf_25 (i0 : Int) (x1 : Int) (x2 : Int) (x3 : Int) (w : pj_W) : Option ((Int × Int) ⊕ (Int)) :=
  some (Sum.inl (x2, (pj_wr (x3 + 1))))
noncomputable def fN_tallyOf_4b (i0 : Int) (x1 : Int) (w : pj_W) (x2 : Int) (x3 : Int) : Option ((Int × Int) ⊕ (Int)) :=
  if (w 23 i0 6) ≤ x3 then (some (Sum.inr (x2))) else (if 0 ≤ x3 ∧ x3 < 60 then (fN_tallyOf_25 i0 x1 (if (w 45 i0 x3) = x1 then (pj_wr (x2 + 1)) else x2) x3 w) else none)
noncomputable def fN_tallyOf_4 (i0 : Int) (x1 : Int) (w : pj_W) (s : (Int × Int)) : Option (Int) := pj_Lp (fun s : (Int × Int) => fN_tallyOf_4b i0 x1 w s.1 s.2) s
noncomputable def fN_tallyOf (i0 : Int) (x1 : Int) (w : pj_W) : Option (Int) :=
  fN_tallyOf_4 i0 x1 w (0, 0)
theorem tN_tallyOf_25 {Go : pj_C → Prop} (hM : pj_M l yX4_tallyOf cX4_tallyOf 4 (some .int) 0 0 true g n0 o Go) (i0 : Int) (x1 : Int) (x2 : Int) (x3 : Int) (w : pj_W) (hn0 : 0 ≤ i0) (R : (Int × Int) ⊕ (Int) → Prop) (h0 : ∀ r, R (Sum.inr (r)) → ((some (0, r) : Option pj_V), w) = o) (hk4 : ∀ s, R (Sum.inl s) → Go (4, [(23, i0), (0, x1), (0, s.1), (0, s.2)], [], w)) : pj_TG R (fN_tallyOf_25 i0 x1 x2 x3 w) (Go (25, [(23, i0), (0, x1), (0, x2), (0, x3)], [], w)) := by
  unfold fN_tallyOf_25
  exact pj_tret (fun hr => pj_iinc hM (pc := 25) dX4_tallyOf_25 rfl (by decide) (lls' := [(23, i0), (0, x1), (0, x2), (0, (pj_wr (x3 + 1)))]) rfl (pj_goto hM (pc := 28) dX4_tallyOf_28 rfl (pj_kill hM [true, true, true, true] (lls' := [(23, i0), (0, x1), (0, x2), (0, (pj_wr (x3 + 1)))]) rfl ((hk4 _ hr)))))
theorem tN_tallyOf_4b {Go : pj_C → Prop} (hM : pj_M l yX4_tallyOf cX4_tallyOf 4 (some .int) 0 0 true g n0 o Go) (i0 : Int) (x1 : Int) (w : pj_W) (x2 : Int) (x3 : Int) (hn0 : 0 ≤ i0) (R : (Int × Int) ⊕ (Int) → Prop) (h0 : ∀ r, R (Sum.inr (r)) → ((some (0, r) : Option pj_V), w) = o) (hk4 : ∀ s, R (Sum.inl s) → Go (4, [(23, i0), (0, x1), (0, s.1), (0, s.2)], [], w)) : pj_TG R (fN_tallyOf_4b i0 x1 w x2 x3) (Go (4, [(23, i0), (0, x1), (0, x2), (0, x3)], [], w)) := by
  unfold fN_tallyOf_4b
  refine pj_map (fun k => pj_iload_n hM (pc := 4) dX4_tallyOf_4 rfl (pj_aload_n hM (pc := 5) dX4_tallyOf_5 rfl rfl (pj_gf hM (pc := 6) (t := 0) dX4_tallyOf_6 fl_X4_35 hn0 rfl 6 rfl k))) ?_
  refine pj_tif (fun h1 => ?_) (fun h1 => ?_)
  · exact pj_tret (fun hr => pj_ic_ge_t hM (pc := 9) dX4_tallyOf_9 rfl h1 (pj_iload_n hM (pc := 31) dX4_tallyOf_31 rfl (pj_ret hM (pc := 32) dX4_tallyOf_32 ⟨_, rfl⟩ (h0 (x2) hr) rfl)))
  refine pj_tgd (fun h2 => ?_)
  refine pj_map (fun k => pj_ic_ge_f hM (pc := 9) 31 dX4_tallyOf_9 rfl h1 (pj_aload_n hM (pc := 12) dX4_tallyOf_12 rfl rfl (pj_getF hM (pc := 13) (t := 45) dX4_tallyOf_13 fl_X4_11 hn0 rfl rfl (pj_iload_n hM (pc := 16) dX4_tallyOf_16 rfl (pj_ial hM (pc := 17) dX4_tallyOf_17 ki_45 hn0 h2 (pj_iload_n hM (pc := 18) dX4_tallyOf_18 rfl k)))))) ?_
  refine pj_tJ (fun v : Int => fN_tallyOf_25 i0 x1 v x3 w) (fun h3 => ?_) (fun h3 => ?_)
  · refine pj_map (fun k => pj_ic_ne_f hM (pc := 19) 25 dX4_tallyOf_19 rfl (fun q => q h3) (pj_iinc hM (pc := 22) dX4_tallyOf_22 rfl (by decide) (lls' := [(23, i0), (0, x1), (0, (pj_wr (x2 + 1))), (0, x3)]) rfl (pj_kill hM [true, true, true, true] (lls' := [(23, i0), (0, x1), (0, (pj_wr (x2 + 1))), (0, x3)]) rfl k))) ?_
    exact tN_tallyOf_25 hM i0 x1 (pj_wr (x2 + 1)) x3 w hn0 _ h0 hk4
  refine pj_map (fun k => pj_ic_ne_t hM (pc := 19) dX4_tallyOf_19 rfl h3 (pj_kill hM [true, true, true, true] (lls' := [(23, i0), (0, x1), (0, x2), (0, x3)]) rfl k)) ?_
  exact tN_tallyOf_25 hM i0 x1 x2 x3 w hn0 _ h0 hk4
theorem tN_tallyOf_4 {Go : pj_C → Prop} (hM : pj_M l yX4_tallyOf cX4_tallyOf 4 (some .int) 0 0 true g n0 o Go) (i0 : Int) (x1 : Int) (w : pj_W) (hn0 : 0 ≤ i0) (R : Int → Prop) (h0 : ∀ r, R (r) → ((some (0, r) : Option pj_V), w) = o) (s : (Int × Int)) : pj_TG R (fN_tallyOf_4 i0 x1 w s) (Go (4, [(23, i0), (0, x1), (0, s.1), (0, s.2)], [], w)) := by
  unfold fN_tallyOf_4
  exact pj_tLp (G := fun s : (Int × Int) => Go (4, [(23, i0), (0, x1), (0, s.1), (0, s.2)], [], w)) (fun s => tN_tallyOf_4b hM i0 x1 w s.1 s.2 hn0 _ (fun r h => h0 r h)  (fun s h => h)) s
theorem tN_tallyOf {Go : pj_C → Prop} (hM : pj_M l yX4_tallyOf cX4_tallyOf 4 (some .int) 0 0 true g n0 o Go) (i0 : Int) (x1 : Int) (w : pj_W) (hn0 : 0 ≤ i0) (R : Int → Prop) (h0 : ∀ r, R (r) → ((some (0, r) : Option pj_V), w) = o) : pj_TG R (fN_tallyOf i0 x1 w) (Go (0, [(23, i0), (0, x1), (9, 0), (9, 0)], [], w)) := by
  unfold fN_tallyOf
  refine pj_map (fun k => pj_iconst hM (pc := 0) dX4_tallyOf_0 (by decide) (pj_istore_n hM (pc := 1) dX4_tallyOf_1 (by decide) (lls' := [(23, i0), (0, x1), (0, 0), (9, 0)]) rfl (pj_iconst hM (pc := 2) dX4_tallyOf_2 (by decide) (pj_istore_n hM (pc := 3) dX4_tallyOf_3 (by decide) (lls' := [(23, i0), (0, x1), (0, 0), (0, 0)]) rfl (pj_kill hM [true, true, true, true] (lls' := [(23, i0), (0, x1), (0, 0), (0, 0)]) rfl k))))) ?_
  exact tN_tallyOf_4 hM i0 x1 w hn0 _ h0 _
theorem cN_tallyOf (i0 : Int) (x1 : Int) (hn0 : 0 ≤ i0) (w : pj_W) (r : Int) (h : fN_tallyOf i0 x1 w = some r) : pj_Cn l yX4_tallyOf cX4_tallyOf 4 (some .int) 0 0 true g [(23, i0), (0, x1)] w ((some (0, r) : Option pj_V), w) :=
  pj_Cn_of rfl (Nat.le_of_ble_eq_true rfl) (lls := [(23, i0), (0, x1), (9, 0), (9, 0)]) rfl (fun Go hM => tN_tallyOf hM i0 x1 w hn0 (fun x => ((some (0, x) : Option pj_V), w) = ((some (0, r) : Option pj_V), w)) (fun r h => h) r h rfl)
noncomputable def fB_strewnBy_4b (i0 : Int) (x1 : Int) (w : pj_W) (x2 : Int) (x3 : Int) : Option ((Int × Int) ⊕ (Int)) :=
  if (w 19 i0 8) ≤ x3 then (some (Sum.inr (x2))) else (if 0 ≤ x3 ∧ x3 < 8 then ((fN_tallyOf (8 * i0 + x3) x1 w).bind fun p3 => (some (Sum.inl ((pj_wr (x2 + p3)), (pj_wr (x3 + 1)))))) else none)
noncomputable def fB_strewnBy_4 (i0 : Int) (x1 : Int) (w : pj_W) (s : (Int × Int)) : Option (Int) := pj_Lp (fun s : (Int × Int) => fB_strewnBy_4b i0 x1 w s.1 s.2) s
noncomputable def fB_strewnBy (i0 : Int) (x1 : Int) (w : pj_W) : Option (Int) :=
  fB_strewnBy_4 i0 x1 w (0, 0)
theorem tB_strewnBy_4b {Go : pj_C → Prop} (hM : pj_M l yX0_strewnBy cX0_strewnBy 4 (some .int) 1 23 true g n0 o Go) (i0 : Int) (x1 : Int) (w : pj_W) (x2 : Int) (x3 : Int) (hn0 : 0 ≤ i0) (R : (Int × Int) ⊕ (Int) → Prop) (h0 : ∀ r, R (Sum.inr (r)) → ((some (0, r) : Option pj_V), w) = o) (hk4 : ∀ s, R (Sum.inl s) → Go (4, [(19, i0), (0, x1), (0, s.1), (0, s.2)], [], w)) : pj_TG R (fB_strewnBy_4b i0 x1 w x2 x3) (Go (4, [(19, i0), (0, x1), (0, x2), (0, x3)], [], w)) := by
  unfold fB_strewnBy_4b
  refine pj_map (fun k => pj_iload_n hM (pc := 4) dX0_strewnBy_4 rfl (pj_aload_n hM (pc := 5) dX0_strewnBy_5 rfl rfl (pj_gf hM (pc := 6) (t := 0) dX0_strewnBy_6 fl_X0_47 hn0 rfl 8 rfl k))) ?_
  refine pj_tif (fun h1 => ?_) (fun h1 => ?_)
  · exact pj_tret (fun hr => pj_ic_ge_t hM (pc := 9) dX0_strewnBy_9 rfl h1 (pj_iload_n hM (pc := 31) dX0_strewnBy_31 rfl (pj_ret hM (pc := 32) dX0_strewnBy_32 ⟨_, rfl⟩ (h0 (x2) hr) rfl)))
  refine pj_tgd (fun h2 => ?_)
  refine pj_tbind (fun p3 h4 => ?_)
  exact pj_tret (fun hr => pj_ic_ge_f hM (pc := 9) 31 dX0_strewnBy_9 rfl h1 (pj_iload_n hM (pc := 12) dX0_strewnBy_12 rfl (pj_aload_n hM (pc := 13) dX0_strewnBy_13 rfl rfl (pj_getF hM (pc := 14) (t := 21) dX0_strewnBy_14 fl_X0_19 hn0 rfl rfl (pj_iload_n hM (pc := 17) dX0_strewnBy_17 rfl (pj_aald hM (pc := 18) (fun s : Int => 8 * i0 + s) dX0_strewnBy_18 (by decide) rfl (fun _ => rfl) ⟨_, rfl⟩ (by decide) hn0 h2 (fun _ => rfl) (by show (0 : Int) ≤ (8 * i0 + x3); omega) (pj_iload_n hM (pc := 19) dX0_strewnBy_19 rfl (pj_cV hM (pc := 20) (cN_tallyOf (8 * i0 + x3) x1 (by show (0 : Int) ≤ (8 * i0 + x3); omega) w p3 h4) dX0_strewnBy_20 mf_X4_tallyOf mv_X4_tallyOf ml_X0_182 kc_23 rfl rfl (by show (0 : Int) ≤ (8 * i0 + x3); omega) rfl rfl (pj_iadd hM (pc := 23) dX0_strewnBy_23 (pj_istore_n hM (pc := 24) dX0_strewnBy_24 (by decide) (lls' := [(19, i0), (0, x1), (0, (pj_wr (x2 + p3))), (0, x3)]) rfl (pj_iinc hM (pc := 25) dX0_strewnBy_25 rfl (by decide) (lls' := [(19, i0), (0, x1), (0, (pj_wr (x2 + p3))), (0, (pj_wr (x3 + 1)))]) rfl (pj_goto hM (pc := 28) dX0_strewnBy_28 rfl (pj_kill hM [true, true, true, true] (lls' := [(19, i0), (0, x1), (0, (pj_wr (x2 + p3))), (0, (pj_wr (x3 + 1)))]) rfl ((hk4 _ hr)))))))))))))))
theorem tB_strewnBy_4 {Go : pj_C → Prop} (hM : pj_M l yX0_strewnBy cX0_strewnBy 4 (some .int) 1 23 true g n0 o Go) (i0 : Int) (x1 : Int) (w : pj_W) (hn0 : 0 ≤ i0) (R : Int → Prop) (h0 : ∀ r, R (r) → ((some (0, r) : Option pj_V), w) = o) (s : (Int × Int)) : pj_TG R (fB_strewnBy_4 i0 x1 w s) (Go (4, [(19, i0), (0, x1), (0, s.1), (0, s.2)], [], w)) := by
  unfold fB_strewnBy_4
  exact pj_tLp (G := fun s : (Int × Int) => Go (4, [(19, i0), (0, x1), (0, s.1), (0, s.2)], [], w)) (fun s => tB_strewnBy_4b hM i0 x1 w s.1 s.2 hn0 _ (fun r h => h0 r h)  (fun s h => h)) s
theorem tB_strewnBy {Go : pj_C → Prop} (hM : pj_M l yX0_strewnBy cX0_strewnBy 4 (some .int) 1 23 true g n0 o Go) (i0 : Int) (x1 : Int) (w : pj_W) (hn0 : 0 ≤ i0) (R : Int → Prop) (h0 : ∀ r, R (r) → ((some (0, r) : Option pj_V), w) = o) : pj_TG R (fB_strewnBy i0 x1 w) (Go (0, [(19, i0), (0, x1), (9, 0), (9, 0)], [], w)) := by
  unfold fB_strewnBy
  refine pj_map (fun k => pj_iconst hM (pc := 0) dX0_strewnBy_0 (by decide) (pj_istore_n hM (pc := 1) dX0_strewnBy_1 (by decide) (lls' := [(19, i0), (0, x1), (0, 0), (9, 0)]) rfl (pj_iconst hM (pc := 2) dX0_strewnBy_2 (by decide) (pj_istore_n hM (pc := 3) dX0_strewnBy_3 (by decide) (lls' := [(19, i0), (0, x1), (0, 0), (0, 0)]) rfl (pj_kill hM [true, true, true, true] (lls' := [(19, i0), (0, x1), (0, 0), (0, 0)]) rfl k))))) ?_
  exact tB_strewnBy_4 hM i0 x1 w hn0 _ h0 _
theorem cB_strewnBy (i0 : Int) (x1 : Int) (hn0 : 0 ≤ i0) (w : pj_W) (r : Int) (h : fB_strewnBy i0 x1 w = some r) : pj_Cn l yX0_strewnBy cX0_strewnBy 4 (some .int) 1 23 true g [(19, i0), (0, x1)] w ((some (0, r) : Option pj_V), w) :=
  pj_Cn_of rfl (Nat.le_of_ble_eq_true rfl) (lls := [(19, i0), (0, x1), (9, 0), (9, 0)]) rfl (fun Go hM => tB_strewnBy hM i0 x1 w hn0 (fun x => ((some (0, x) : Option pj_V), w) = ((some (0, r) : Option pj_V), w)) (fun r h => h) r h rfl)
noncomputable def fX_busiest_38 (x1 : Int) (x2 : Int) (x3 : Int) (w : pj_W) : Option ((Int × Int × Int) ⊕ (Int × pj_W)) :=
  some (Sum.inl (x1, x2, (pj_wr (x3 + 1))))
noncomputable def fX_busiest_6b  (w : pj_W) (x1 : Int) (x2 : Int) (x3 : Int) : Option ((Int × Int × Int) ⊕ (Int × pj_W)) :=
  if 0 ≤ (w 10 0 10) then (if (w 19 (w 10 0 10) 7) ≤ x3 then (if x1 = (-1) then ((fX_refuse 6 w).bind fun p4 => (some (Sum.inr ((p4.1, p4.2))))) else ((fX_answer x1 w).bind fun p6 => (some (Sum.inr ((p6.1, p6.2)))))) else ((fB_strewnBy (w 10 0 10) x3 w).bind fun p8 => (if p8 ≤ x2 then (fX_busiest_38 x1 x2 x3 w) else (fX_busiest_38 x3 p8 x3 w)))) else none
noncomputable def fX_busiest_6  (w : pj_W) (s : (Int × Int × Int)) : Option (Int × pj_W) := pj_Lp (fun s : (Int × Int × Int) => fX_busiest_6b  w s.1 s.2.1 s.2.2) s
noncomputable def fX_busiest  (w : pj_W) : Option (Int × pj_W) :=
  fX_busiest_6 w ((-1), (-1), 0)
theorem tX_busiest_38 {Go : pj_C → Prop} (hM : pj_M l yX11_busiest cX11_busiest 5 (some .int) 2 46 true g n0 o Go) (x1 : Int) (x2 : Int) (x3 : Int) (w : pj_W)  (R : (Int × Int × Int) ⊕ (Int × pj_W) → Prop) (h0 : ∀ r, R (Sum.inr (r)) → ((some (0, r.1) : Option pj_V), r.2) = o) (hk6 : ∀ s, R (Sum.inl s) → Go (6, [(10, 0), (0, s.1), (0, s.2.1), (0, s.2.2), (9, 0)], [], w)) : pj_TG R (fX_busiest_38 x1 x2 x3 w) (Go (38, [(10, 0), (0, x1), (0, x2), (0, x3), (9, 0)], [], w)) := by
  unfold fX_busiest_38
  exact pj_tret (fun hr => pj_iinc hM (pc := 38) dX11_busiest_38 rfl (by decide) (lls' := [(10, 0), (0, x1), (0, x2), (0, (pj_wr (x3 + 1))), (9, 0)]) rfl (pj_goto hM (pc := 41) dX11_busiest_41 rfl (pj_kill hM [true, true, true, true, false] (lls' := [(10, 0), (0, x1), (0, x2), (0, (pj_wr (x3 + 1))), (9, 0)]) rfl ((hk6 _ hr)))))
theorem tX_busiest_6b {Go : pj_C → Prop} (hM : pj_M l yX11_busiest cX11_busiest 5 (some .int) 2 46 true g n0 o Go)  (w : pj_W) (x1 : Int) (x2 : Int) (x3 : Int)  (R : (Int × Int × Int) ⊕ (Int × pj_W) → Prop) (h0 : ∀ r, R (Sum.inr (r)) → ((some (0, r.1) : Option pj_V), r.2) = o) (hk6 : ∀ s, R (Sum.inl s) → Go (6, [(10, 0), (0, s.1), (0, s.2.1), (0, s.2.2), (9, 0)], [], w)) : pj_TG R (fX_busiest_6b  w x1 x2 x3) (Go (6, [(10, 0), (0, x1), (0, x2), (0, x3), (9, 0)], [], w)) := by
  unfold fX_busiest_6b
  refine pj_tgd (fun h1 => ?_)
  refine pj_map (fun k => pj_iload_n hM (pc := 6) dX11_busiest_6 rfl (pj_aload_n hM (pc := 7) dX11_busiest_7 rfl rfl (pj_gf hM (pc := 8) (t := 19) dX11_busiest_8 fl_X11_69 (by decide) rfl 10 rfl (pj_gf hM (pc := 11) (t := 0) dX11_busiest_11 fl_X11_194 h1 rfl 7 rfl k)))) ?_
  refine pj_tif (fun h2 => ?_) (fun h2 => ?_)
  · refine pj_map (fun k => pj_ic_ge_t hM (pc := 14) dX11_busiest_14 rfl h2 (pj_iload_n hM (pc := 44) dX11_busiest_44 rfl (pj_iconst hM (pc := 45) dX11_busiest_45 (by decide) k))) ?_
    refine pj_tif (fun h3 => ?_) (fun h3 => ?_)
    · refine pj_tbind (fun p4 h5 => ?_)
      exact pj_tret (fun hr => pj_ic_ne_f hM (pc := 46) 58 dX11_busiest_46 rfl (fun q => q h3) (pj_aload_n hM (pc := 49) dX11_busiest_49 rfl rfl (pj_bipush hM (pc := 50) dX11_busiest_50 (by decide) (pj_cV hM (pc := 52) (cX_refuse 6 w p4 h5) dX11_busiest_52 mf_X11_refuse mv_X11_refuse ml_X11_100 kc_10 rfl rfl (by decide) rfl rfl (pj_goto hM (pc := 55) dX11_busiest_55 rfl (pj_ret hM (pc := 63) dX11_busiest_63 ⟨_, rfl⟩ (h0 ((p4.1, p4.2)) hr) rfl))))))
    refine pj_tbind (fun p6 h7 => ?_)
    exact pj_tret (fun hr => pj_ic_ne_t hM (pc := 46) dX11_busiest_46 rfl h3 (pj_aload_n hM (pc := 58) dX11_busiest_58 rfl rfl (pj_iload_n hM (pc := 59) dX11_busiest_59 rfl (pj_cV hM (pc := 60) (cX_answer x1 w p6 h7) dX11_busiest_60 mf_X11_answer mv_X11_answer ml_X11_96 kc_10 rfl rfl (by decide) rfl rfl (pj_ret hM (pc := 63) dX11_busiest_63 ⟨_, rfl⟩ (h0 ((p6.1, p6.2)) hr) rfl)))))
  refine pj_tbind (fun p8 h9 => ?_)
  refine pj_map (fun k => pj_ic_ge_f hM (pc := 14) 44 dX11_busiest_14 rfl h2 (pj_aload_n hM (pc := 17) dX11_busiest_17 rfl rfl (pj_gf hM (pc := 18) (t := 19) dX11_busiest_18 fl_X11_69 (by decide) rfl 10 rfl (pj_iload_n hM (pc := 21) dX11_busiest_21 rfl (pj_cV hM (pc := 22) (cB_strewnBy (w 10 0 10) x3 h1 w p8 h9) dX11_busiest_22 mf_X0_strewnBy mv_X0_strewnBy ml_X11_312 kc_19 rfl rfl h1 rfl rfl (pj_istore hM (pc := 25) dX11_busiest_25 (by decide) (lls' := [(10, 0), (0, x1), (0, x2), (0, x3), (0, p8)]) rfl (pj_iload hM (pc := 27) dX11_busiest_27 rfl (pj_iload_n hM (pc := 29) dX11_busiest_29 rfl k)))))))) ?_
  refine pj_tif (fun h10 => ?_) (fun h10 => ?_)
  · refine pj_map (fun k => pj_ic_le_t hM (pc := 30) dX11_busiest_30 rfl h10 (pj_kill hM [true, true, true, true, false] (lls' := [(10, 0), (0, x1), (0, x2), (0, x3), (9, 0)]) rfl k)) ?_
    exact tX_busiest_38 hM x1 x2 x3 w _ h0 hk6
  refine pj_map (fun k => pj_ic_le_f hM (pc := 30) 38 dX11_busiest_30 rfl h10 (pj_iload hM (pc := 33) dX11_busiest_33 rfl (pj_istore_n hM (pc := 35) dX11_busiest_35 (by decide) (lls' := [(10, 0), (0, x1), (0, p8), (0, x3), (0, p8)]) rfl (pj_iload_n hM (pc := 36) dX11_busiest_36 rfl (pj_istore_n hM (pc := 37) dX11_busiest_37 (by decide) (lls' := [(10, 0), (0, x3), (0, p8), (0, x3), (0, p8)]) rfl (pj_kill hM [true, true, true, true, false] (lls' := [(10, 0), (0, x3), (0, p8), (0, x3), (9, 0)]) rfl k)))))) ?_
  exact tX_busiest_38 hM x3 p8 x3 w _ h0 hk6
theorem tX_busiest_6 {Go : pj_C → Prop} (hM : pj_M l yX11_busiest cX11_busiest 5 (some .int) 2 46 true g n0 o Go)  (w : pj_W)  (R : Int × pj_W → Prop) (h0 : ∀ r, R (r) → ((some (0, r.1) : Option pj_V), r.2) = o) (s : (Int × Int × Int)) : pj_TG R (fX_busiest_6  w s) (Go (6, [(10, 0), (0, s.1), (0, s.2.1), (0, s.2.2), (9, 0)], [], w)) := by
  unfold fX_busiest_6
  exact pj_tLp (G := fun s : (Int × Int × Int) => Go (6, [(10, 0), (0, s.1), (0, s.2.1), (0, s.2.2), (9, 0)], [], w)) (fun s => tX_busiest_6b hM  w s.1 s.2.1 s.2.2  _ (fun r h => h0 r h)  (fun s h => h)) s
theorem tX_busiest {Go : pj_C → Prop} (hM : pj_M l yX11_busiest cX11_busiest 5 (some .int) 2 46 true g n0 o Go)  (w : pj_W)  (R : Int × pj_W → Prop) (h0 : ∀ r, R (r) → ((some (0, r.1) : Option pj_V), r.2) = o) : pj_TG R (fX_busiest  w) (Go (0, [(10, 0), (9, 0), (9, 0), (9, 0), (9, 0)], [], w)) := by
  unfold fX_busiest
  refine pj_map (fun k => pj_iconst hM (pc := 0) dX11_busiest_0 (by decide) (pj_istore_n hM (pc := 1) dX11_busiest_1 (by decide) (lls' := [(10, 0), (0, (-1)), (9, 0), (9, 0), (9, 0)]) rfl (pj_iconst hM (pc := 2) dX11_busiest_2 (by decide) (pj_istore_n hM (pc := 3) dX11_busiest_3 (by decide) (lls' := [(10, 0), (0, (-1)), (0, (-1)), (9, 0), (9, 0)]) rfl (pj_iconst hM (pc := 4) dX11_busiest_4 (by decide) (pj_istore_n hM (pc := 5) dX11_busiest_5 (by decide) (lls' := [(10, 0), (0, (-1)), (0, (-1)), (0, 0), (9, 0)]) rfl (pj_kill hM [true, true, true, true, false] (lls' := [(10, 0), (0, (-1)), (0, (-1)), (0, 0), (9, 0)]) rfl k))))))) ?_
  exact tX_busiest_6 hM w _ h0 _
theorem cX_busiest   (w : pj_W) (r : Int × pj_W) (h : fX_busiest  w = some r) : pj_Cn l yX11_busiest cX11_busiest 5 (some .int) 2 46 true g [(10, 0)] w ((some (0, r.1) : Option pj_V), r.2) :=
  pj_Cn_of rfl (Nat.le_of_ble_eq_true rfl) (lls := [(10, 0), (9, 0), (9, 0), (9, 0), (9, 0)]) rfl (fun Go hM => tX_busiest hM w (fun x => ((some (0, x.1) : Option pj_V), x.2) = ((some (0, r.1) : Option pj_V), r.2)) (fun r h => h) r h rfl)
noncomputable def fB_findersIn_47 (i0 : Int) (x1 : Int) (x2 : Int) (x3 : Int) (x4 : Int) (w : pj_W) : Option ((Int × Int) ⊕ (Int)) :=
  some (Sum.inl (x3, (pj_wr (x4 + 1))))
noncomputable def fB_findersIn_5b (i0 : Int) (x1 : Int) (x2 : Int) (w : pj_W) (x3 : Int) (x4 : Int) : Option ((Int × Int) ⊕ (Int)) :=
  if (w 19 i0 7) ≤ x4 then (some (Sum.inr (x3))) else (if 0 ≤ x4 ∧ x4 < 6 then (fB_findersIn_47 i0 x1 x2 (if (w 22 (6 * i0 + x4) 1) < x1 then x3 else (if (pj_wr (x1 + x2)) ≤ (w 22 (6 * i0 + x4) 1) then x3 else (pj_wr (x3 + 1)))) x4 w) else none)
noncomputable def fB_findersIn_5 (i0 : Int) (x1 : Int) (x2 : Int) (w : pj_W) (s : (Int × Int)) : Option (Int) := pj_Lp (fun s : (Int × Int) => fB_findersIn_5b i0 x1 x2 w s.1 s.2) s
noncomputable def fB_findersIn (i0 : Int) (x1 : Int) (x2 : Int) (w : pj_W) : Option (Int) :=
  fB_findersIn_5 i0 x1 x2 w (0, 0)
theorem tB_findersIn_47 {Go : pj_C → Prop} (hM : pj_M l yX0_findersIn cX0_findersIn 5 (some .int) 0 0 true g n0 o Go) (i0 : Int) (x1 : Int) (x2 : Int) (x3 : Int) (x4 : Int) (w : pj_W) (hn0 : 0 ≤ i0) (R : (Int × Int) ⊕ (Int) → Prop) (h0 : ∀ r, R (Sum.inr (r)) → ((some (0, r) : Option pj_V), w) = o) (hk5 : ∀ s, R (Sum.inl s) → Go (5, [(19, i0), (0, x1), (0, x2), (0, s.1), (0, s.2)], [], w)) : pj_TG R (fB_findersIn_47 i0 x1 x2 x3 x4 w) (Go (47, [(19, i0), (0, x1), (0, x2), (0, x3), (0, x4)], [], w)) := by
  unfold fB_findersIn_47
  exact pj_tret (fun hr => pj_iinc hM (pc := 47) dX0_findersIn_47 rfl (by decide) (lls' := [(19, i0), (0, x1), (0, x2), (0, x3), (0, (pj_wr (x4 + 1)))]) rfl (pj_goto hM (pc := 50) dX0_findersIn_50 rfl (pj_kill hM [true, true, true, true, true] (lls' := [(19, i0), (0, x1), (0, x2), (0, x3), (0, (pj_wr (x4 + 1)))]) rfl ((hk5 _ hr)))))
theorem tB_findersIn_5b {Go : pj_C → Prop} (hM : pj_M l yX0_findersIn cX0_findersIn 5 (some .int) 0 0 true g n0 o Go) (i0 : Int) (x1 : Int) (x2 : Int) (w : pj_W) (x3 : Int) (x4 : Int) (hn0 : 0 ≤ i0) (R : (Int × Int) ⊕ (Int) → Prop) (h0 : ∀ r, R (Sum.inr (r)) → ((some (0, r) : Option pj_V), w) = o) (hk5 : ∀ s, R (Sum.inl s) → Go (5, [(19, i0), (0, x1), (0, x2), (0, s.1), (0, s.2)], [], w)) : pj_TG R (fB_findersIn_5b i0 x1 x2 w x3 x4) (Go (5, [(19, i0), (0, x1), (0, x2), (0, x3), (0, x4)], [], w)) := by
  unfold fB_findersIn_5b
  refine pj_map (fun k => pj_iload hM (pc := 5) dX0_findersIn_5 rfl (pj_aload_n hM (pc := 7) dX0_findersIn_7 rfl rfl (pj_gf hM (pc := 8) (t := 0) dX0_findersIn_8 fl_X0_44 hn0 rfl 7 rfl k))) ?_
  refine pj_tif (fun h1 => ?_) (fun h1 => ?_)
  · exact pj_tret (fun hr => pj_ic_ge_t hM (pc := 11) dX0_findersIn_11 rfl h1 (pj_iload_n hM (pc := 53) dX0_findersIn_53 rfl (pj_ret hM (pc := 54) dX0_findersIn_54 ⟨_, rfl⟩ (h0 (x3) hr) rfl)))
  refine pj_tgd (fun h2 => ?_)
  refine pj_map (fun k => pj_ic_ge_f hM (pc := 11) 53 dX0_findersIn_11 rfl h1 (pj_aload_n hM (pc := 14) dX0_findersIn_14 rfl rfl (pj_getF hM (pc := 15) (t := 20) dX0_findersIn_15 fl_X0_13 hn0 rfl rfl (pj_iload hM (pc := 18) dX0_findersIn_18 rfl (pj_aald hM (pc := 20) (fun s : Int => 6 * i0 + s) dX0_findersIn_20 (by decide) rfl (fun _ => rfl) ⟨_, rfl⟩ (by decide) hn0 h2 (fun _ => rfl) (by show (0 : Int) ≤ (6 * i0 + x4); omega) (pj_gf hM (pc := 21) (t := 0) dX0_findersIn_21 fl_X0_64 (by show (0 : Int) ≤ (6 * i0 + x4); omega) rfl 1 rfl (pj_iload_n hM (pc := 24) dX0_findersIn_24 rfl k))))))) ?_
  refine pj_tJ (fun v : Int => fB_findersIn_47 i0 x1 x2 v x4 w) (fun h3 => ?_) (fun h3 => ?_)
  · refine pj_map (fun k => pj_ic_lt_t hM (pc := 25) dX0_findersIn_25 rfl h3 (pj_kill hM [true, true, true, true, true] (lls' := [(19, i0), (0, x1), (0, x2), (0, x3), (0, x4)]) rfl k)) ?_
    exact tB_findersIn_47 hM i0 x1 x2 x3 x4 w hn0 _ h0 hk5
  refine pj_map (fun k => pj_ic_lt_f hM (pc := 25) 47 dX0_findersIn_25 rfl h3 (pj_aload_n hM (pc := 28) dX0_findersIn_28 rfl rfl (pj_getF hM (pc := 29) (t := 20) dX0_findersIn_29 fl_X0_13 hn0 rfl rfl (pj_iload hM (pc := 32) dX0_findersIn_32 rfl (pj_aald hM (pc := 34) (fun s : Int => 6 * i0 + s) dX0_findersIn_34 (by decide) rfl (fun _ => rfl) ⟨_, rfl⟩ (by decide) hn0 h2 (fun _ => rfl) (by show (0 : Int) ≤ (6 * i0 + x4); omega) (pj_gf hM (pc := 35) (t := 0) dX0_findersIn_35 fl_X0_64 (by show (0 : Int) ≤ (6 * i0 + x4); omega) rfl 1 rfl (pj_iload_n hM (pc := 38) dX0_findersIn_38 rfl (pj_iload_n hM (pc := 39) dX0_findersIn_39 rfl (pj_iadd hM (pc := 40) dX0_findersIn_40 k))))))))) ?_
  refine pj_tJ (fun v : Int => fB_findersIn_47 i0 x1 x2 v x4 w) (fun h4 => ?_) (fun h4 => ?_)
  · refine pj_map (fun k => pj_ic_ge_t hM (pc := 41) dX0_findersIn_41 rfl h4 (pj_kill hM [true, true, true, true, true] (lls' := [(19, i0), (0, x1), (0, x2), (0, x3), (0, x4)]) rfl k)) ?_
    exact tB_findersIn_47 hM i0 x1 x2 x3 x4 w hn0 _ h0 hk5
  refine pj_map (fun k => pj_ic_ge_f hM (pc := 41) 47 dX0_findersIn_41 rfl h4 (pj_iinc hM (pc := 44) dX0_findersIn_44 rfl (by decide) (lls' := [(19, i0), (0, x1), (0, x2), (0, (pj_wr (x3 + 1))), (0, x4)]) rfl (pj_kill hM [true, true, true, true, true] (lls' := [(19, i0), (0, x1), (0, x2), (0, (pj_wr (x3 + 1))), (0, x4)]) rfl k))) ?_
  exact tB_findersIn_47 hM i0 x1 x2 (pj_wr (x3 + 1)) x4 w hn0 _ h0 hk5
theorem tB_findersIn_5 {Go : pj_C → Prop} (hM : pj_M l yX0_findersIn cX0_findersIn 5 (some .int) 0 0 true g n0 o Go) (i0 : Int) (x1 : Int) (x2 : Int) (w : pj_W) (hn0 : 0 ≤ i0) (R : Int → Prop) (h0 : ∀ r, R (r) → ((some (0, r) : Option pj_V), w) = o) (s : (Int × Int)) : pj_TG R (fB_findersIn_5 i0 x1 x2 w s) (Go (5, [(19, i0), (0, x1), (0, x2), (0, s.1), (0, s.2)], [], w)) := by
  unfold fB_findersIn_5
  exact pj_tLp (G := fun s : (Int × Int) => Go (5, [(19, i0), (0, x1), (0, x2), (0, s.1), (0, s.2)], [], w)) (fun s => tB_findersIn_5b hM i0 x1 x2 w s.1 s.2 hn0 _ (fun r h => h0 r h)  (fun s h => h)) s
theorem tB_findersIn {Go : pj_C → Prop} (hM : pj_M l yX0_findersIn cX0_findersIn 5 (some .int) 0 0 true g n0 o Go) (i0 : Int) (x1 : Int) (x2 : Int) (w : pj_W) (hn0 : 0 ≤ i0) (R : Int → Prop) (h0 : ∀ r, R (r) → ((some (0, r) : Option pj_V), w) = o) : pj_TG R (fB_findersIn i0 x1 x2 w) (Go (0, [(19, i0), (0, x1), (0, x2), (9, 0), (9, 0)], [], w)) := by
  unfold fB_findersIn
  refine pj_map (fun k => pj_iconst hM (pc := 0) dX0_findersIn_0 (by decide) (pj_istore_n hM (pc := 1) dX0_findersIn_1 (by decide) (lls' := [(19, i0), (0, x1), (0, x2), (0, 0), (9, 0)]) rfl (pj_iconst hM (pc := 2) dX0_findersIn_2 (by decide) (pj_istore hM (pc := 3) dX0_findersIn_3 (by decide) (lls' := [(19, i0), (0, x1), (0, x2), (0, 0), (0, 0)]) rfl (pj_kill hM [true, true, true, true, true] (lls' := [(19, i0), (0, x1), (0, x2), (0, 0), (0, 0)]) rfl k))))) ?_
  exact tB_findersIn_5 hM i0 x1 x2 w hn0 _ h0 _
theorem cB_findersIn (i0 : Int) (x1 : Int) (x2 : Int) (hn0 : 0 ≤ i0) (w : pj_W) (r : Int) (h : fB_findersIn i0 x1 x2 w = some r) : pj_Cn l yX0_findersIn cX0_findersIn 5 (some .int) 0 0 true g [(19, i0), (0, x1), (0, x2)] w ((some (0, r) : Option pj_V), w) :=
  pj_Cn_of rfl (Nat.le_of_ble_eq_true rfl) (lls := [(19, i0), (0, x1), (0, x2), (9, 0), (9, 0)]) rfl (fun Go hM => tB_findersIn hM i0 x1 x2 w hn0 (fun x => ((some (0, x) : Option pj_V), w) = ((some (0, r) : Option pj_V), w)) (fun r h => h) r h rfl)
noncomputable def fX_crowd_11  (w : pj_W) : Option (Int × pj_W) :=
  (fX_refuse 1 w).bind fun p1 => (some ((p1.1, p1.2)))
noncomputable def fX_crowd_21b (x1 : Int) (w : pj_W) (x2 : Int) (x3 : Int) : Option ((Int × Int) ⊕ (Int × pj_W)) :=
  if 0 ≤ (w 10 0 10) then (if (w 19 (w 10 0 10) 2) ≤ x3 then ((fX_answer x2 w).bind fun p3 => (some (Sum.inr ((p3.1, p3.2))))) else ((fB_findersIn (w 10 0 10) x3 x1 w).bind fun p5 => (some (Sum.inl ((max x2 p5), (pj_wr (x3 + 1))))))) else none
noncomputable def fX_crowd_21 (x1 : Int) (w : pj_W) (s : (Int × Int)) : Option (Int × pj_W) := pj_Lp (fun s : (Int × Int) => fX_crowd_21b x1 w s.1 s.2) s
noncomputable def fX_crowd (x1 : Int) (w : pj_W) : Option (Int × pj_W) :=
  if x1 < 1 then (fX_crowd_11 w) else (if x1 ≤ 40 then (fX_crowd_21 x1 w (0, 0)) else (fX_crowd_11 w))
theorem tX_crowd_11 {Go : pj_C → Prop} (hM : pj_M l yX11_crowd cX11_crowd 4 (some .int) 1 24 true g n0 o Go)  (w : pj_W)  (R : Int × pj_W → Prop) (h0 : ∀ r, R (r) → ((some (0, r.1) : Option pj_V), r.2) = o) : pj_TG R (fX_crowd_11  w) (Go (11, [(10, 0), (9, 0), (9, 0), (9, 0)], [], w)) := by
  unfold fX_crowd_11
  refine pj_tbind (fun p1 h2 => ?_)
  exact pj_tret (fun hr => pj_aload_n hM (pc := 11) dX11_crowd_11 rfl rfl (pj_iconst hM (pc := 12) dX11_crowd_12 (by decide) (pj_cV hM (pc := 13) (cX_refuse 1 w p1 h2) dX11_crowd_13 mf_X11_refuse mv_X11_refuse ml_X11_100 kc_10 rfl rfl (by decide) rfl rfl (pj_ret hM (pc := 16) dX11_crowd_16 ⟨_, rfl⟩ (h0 ((p1.1, p1.2)) hr) rfl))))
theorem tX_crowd_21b {Go : pj_C → Prop} (hM : pj_M l yX11_crowd cX11_crowd 4 (some .int) 1 24 true g n0 o Go) (x1 : Int) (w : pj_W) (x2 : Int) (x3 : Int)  (R : (Int × Int) ⊕ (Int × pj_W) → Prop) (h0 : ∀ r, R (Sum.inr (r)) → ((some (0, r.1) : Option pj_V), r.2) = o) (hk21 : ∀ s, R (Sum.inl s) → Go (21, [(10, 0), (0, x1), (0, s.1), (0, s.2)], [], w)) : pj_TG R (fX_crowd_21b x1 w x2 x3) (Go (21, [(10, 0), (0, x1), (0, x2), (0, x3)], [], w)) := by
  unfold fX_crowd_21b
  refine pj_tgd (fun h1 => ?_)
  refine pj_map (fun k => pj_iload_n hM (pc := 21) dX11_crowd_21 rfl (pj_aload_n hM (pc := 22) dX11_crowd_22 rfl rfl (pj_gf hM (pc := 23) (t := 19) dX11_crowd_23 fl_X11_69 (by decide) rfl 10 rfl (pj_gf hM (pc := 26) (t := 0) dX11_crowd_26 fl_X11_191 h1 rfl 2 rfl k)))) ?_
  refine pj_tif (fun h2 => ?_) (fun h2 => ?_)
  · refine pj_tbind (fun p3 h4 => ?_)
    exact pj_tret (fun hr => pj_ic_ge_t hM (pc := 29) dX11_crowd_29 rfl h2 (pj_aload_n hM (pc := 52) dX11_crowd_52 rfl rfl (pj_iload_n hM (pc := 53) dX11_crowd_53 rfl (pj_cV hM (pc := 54) (cX_answer x2 w p3 h4) dX11_crowd_54 mf_X11_answer mv_X11_answer ml_X11_96 kc_10 rfl rfl (by decide) rfl rfl (pj_ret hM (pc := 57) dX11_crowd_57 ⟨_, rfl⟩ (h0 ((p3.1, p3.2)) hr) rfl)))))
  refine pj_tbind (fun p5 h6 => ?_)
  exact pj_tret (fun hr => pj_ic_ge_f hM (pc := 29) 52 dX11_crowd_29 rfl h2 (pj_iload_n hM (pc := 32) dX11_crowd_32 rfl (pj_aload_n hM (pc := 33) dX11_crowd_33 rfl rfl (pj_gf hM (pc := 34) (t := 19) dX11_crowd_34 fl_X11_69 (by decide) rfl 10 rfl (pj_iload_n hM (pc := 37) dX11_crowd_37 rfl (pj_iload_n hM (pc := 38) dX11_crowd_38 rfl (pj_cV hM (pc := 39) (cB_findersIn (w 10 0 10) x3 x1 h1 w p5 h6) dX11_crowd_39 mf_X0_findersIn mv_X0_findersIn ml_X11_380 kc_19 rfl rfl h1 rfl rfl (pj_mmax hM (pc := 42) dX11_crowd_42 mf_J9_max_7cf53 ms_J9_max_7cf53 ml_X11_360 rfl (pj_istore_n hM (pc := 45) dX11_crowd_45 (by decide) (lls' := [(10, 0), (0, x1), (0, (max x2 p5)), (0, x3)]) rfl (pj_iinc hM (pc := 46) dX11_crowd_46 rfl (by decide) (lls' := [(10, 0), (0, x1), (0, (max x2 p5)), (0, (pj_wr (x3 + 1)))]) rfl (pj_goto hM (pc := 49) dX11_crowd_49 rfl (pj_kill hM [true, true, true, true] (lls' := [(10, 0), (0, x1), (0, (max x2 p5)), (0, (pj_wr (x3 + 1)))]) rfl ((hk21 _ hr))))))))))))))
theorem tX_crowd_21 {Go : pj_C → Prop} (hM : pj_M l yX11_crowd cX11_crowd 4 (some .int) 1 24 true g n0 o Go) (x1 : Int) (w : pj_W)  (R : Int × pj_W → Prop) (h0 : ∀ r, R (r) → ((some (0, r.1) : Option pj_V), r.2) = o) (s : (Int × Int)) : pj_TG R (fX_crowd_21 x1 w s) (Go (21, [(10, 0), (0, x1), (0, s.1), (0, s.2)], [], w)) := by
  unfold fX_crowd_21
  exact pj_tLp (G := fun s : (Int × Int) => Go (21, [(10, 0), (0, x1), (0, s.1), (0, s.2)], [], w)) (fun s => tX_crowd_21b hM x1 w s.1 s.2  _ (fun r h => h0 r h)  (fun s h => h)) s
theorem tX_crowd {Go : pj_C → Prop} (hM : pj_M l yX11_crowd cX11_crowd 4 (some .int) 1 24 true g n0 o Go) (x1 : Int) (w : pj_W)  (R : Int × pj_W → Prop) (h0 : ∀ r, R (r) → ((some (0, r.1) : Option pj_V), r.2) = o) : pj_TG R (fX_crowd x1 w) (Go (0, [(10, 0), (0, x1), (9, 0), (9, 0)], [], w)) := by
  unfold fX_crowd
  refine pj_map (fun k => pj_iload_n hM (pc := 0) dX11_crowd_0 rfl (pj_iconst hM (pc := 1) dX11_crowd_1 (by decide) k)) ?_
  refine pj_tif (fun h1 => ?_) (fun h1 => ?_)
  · refine pj_map (fun k => pj_ic_lt_t hM (pc := 2) dX11_crowd_2 rfl h1 (pj_kill hM [true, false, false, false] (lls' := [(10, 0), (9, 0), (9, 0), (9, 0)]) rfl k)) ?_
    exact tX_crowd_11 hM w _ h0
  refine pj_map (fun k => pj_ic_lt_f hM (pc := 2) 11 dX11_crowd_2 rfl h1 (pj_iload_n hM (pc := 5) dX11_crowd_5 rfl (pj_bipush hM (pc := 6) dX11_crowd_6 (by decide) k))) ?_
  refine pj_tif (fun h2 => ?_) (fun h2 => ?_)
  · refine pj_map (fun k => pj_ic_le_t hM (pc := 8) dX11_crowd_8 rfl h2 (pj_iconst hM (pc := 17) dX11_crowd_17 (by decide) (pj_istore_n hM (pc := 18) dX11_crowd_18 (by decide) (lls' := [(10, 0), (0, x1), (0, 0), (9, 0)]) rfl (pj_iconst hM (pc := 19) dX11_crowd_19 (by decide) (pj_istore_n hM (pc := 20) dX11_crowd_20 (by decide) (lls' := [(10, 0), (0, x1), (0, 0), (0, 0)]) rfl (pj_kill hM [true, true, true, true] (lls' := [(10, 0), (0, x1), (0, 0), (0, 0)]) rfl k)))))) ?_
    exact tX_crowd_21 hM x1 w _ h0 _
  refine pj_map (fun k => pj_ic_le_f hM (pc := 8) 17 dX11_crowd_8 rfl h2 (pj_kill hM [true, false, false, false] (lls' := [(10, 0), (9, 0), (9, 0), (9, 0)]) rfl k)) ?_
  exact tX_crowd_11 hM w _ h0
theorem cX_crowd (x1 : Int)  (w : pj_W) (r : Int × pj_W) (h : fX_crowd x1 w = some r) : pj_Cn l yX11_crowd cX11_crowd 4 (some .int) 1 24 true g [(10, 0), (0, x1)] w ((some (0, r.1) : Option pj_V), r.2) :=
  pj_Cn_of rfl (Nat.le_of_ble_eq_true rfl) (lls := [(10, 0), (0, x1), (9, 0), (9, 0)]) rfl (fun Go hM => tX_crowd hM x1 w (fun x => ((some (0, x.1) : Option pj_V), x.2) = ((some (0, r.1) : Option pj_V), r.2)) (fun r h => h) r h rfl)
noncomputable def fB_done (i0 : Int) (x1 : Int) (w : pj_W) : Option (Int × pj_W) :=
  some ((0, (pj_set w 19 i0 9 x1)))
theorem tB_done {Go : pj_C → Prop} (hM : pj_M l yX0_done cX0_done 2 (some .int) 0 0 ph g n0 o Go) (i0 : Int) (x1 : Int) (w : pj_W) (hn0 : 0 ≤ i0) (R : Int × pj_W → Prop) (h0 : ∀ r, R (r) → ((some (0, r.1) : Option pj_V), r.2) = o) : pj_TG R (fB_done i0 x1 w) (Go (0, [(19, i0), (0, x1)], [], w)) := by
  unfold fB_done
  exact pj_tret (fun hr => pj_aload_n hM (pc := 0) dX0_done_0 rfl rfl (pj_iload_n hM (pc := 1) dX0_done_1 rfl (pj_pf hM (pc := 2) dX0_done_2 fl_X0_50 hn0 rfl (fun h => absurd h (by decide)) (by decide) (fun _ => rfl) 9 rfl (pj_iconst hM (pc := 5) dX0_done_5 (by decide) (pj_ret hM (pc := 6) dX0_done_6 ⟨_, rfl⟩ (h0 ((0, (pj_set w 19 i0 9 x1))) hr) rfl)))))
theorem cB_done (i0 : Int) (x1 : Int) (hn0 : 0 ≤ i0) (w : pj_W) (r : Int × pj_W) (h : fB_done i0 x1 w = some r) : pj_Cn l yX0_done cX0_done 2 (some .int) 0 0 ph g [(19, i0), (0, x1)] w ((some (0, r.1) : Option pj_V), r.2) :=
  pj_Cn_of rfl (Nat.le_of_ble_eq_true rfl) (lls := [(19, i0), (0, x1)]) rfl (fun Go hM => tB_done hM i0 x1 w hn0 (fun x => ((some (0, x.1) : Option pj_V), x.2) = ((some (0, r.1) : Option pj_V), r.2)) (fun r h => h) r h rfl)
noncomputable def fB_thereSet_30 (i0 : Int) (x1 : Int) (x2 : Int) (w : pj_W) : Option ((Int × Int) ⊕ (Int)) :=
  some (Sum.inl (x1, (pj_wr (x2 + 1))))
noncomputable def fB_thereSet_4b (i0 : Int) (w : pj_W) (x1 : Int) (x2 : Int) : Option ((Int × Int) ⊕ (Int)) :=
  if (w 19 i0 8) ≤ x2 then (some (Sum.inr (x1))) else (if 0 ≤ x2 ∧ x2 < 8 then (fB_thereSet_30 i0 (if (w 23 (8 * i0 + x2) 5) = 0 then x1 else (pj_or x1 (pj_shl 1 x2))) x2 w) else none)
noncomputable def fB_thereSet_4 (i0 : Int) (w : pj_W) (s : (Int × Int)) : Option (Int) := pj_Lp (fun s : (Int × Int) => fB_thereSet_4b i0 w s.1 s.2) s
noncomputable def fB_thereSet (i0 : Int) (w : pj_W) : Option (Int) :=
  fB_thereSet_4 i0 w (0, 0)
theorem tB_thereSet_30 {Go : pj_C → Prop} (hM : pj_M l yX0_thereSet cX0_thereSet 3 (some .int) 0 0 true g n0 o Go) (i0 : Int) (x1 : Int) (x2 : Int) (w : pj_W) (hn0 : 0 ≤ i0) (R : (Int × Int) ⊕ (Int) → Prop) (h0 : ∀ r, R (Sum.inr (r)) → ((some (0, r) : Option pj_V), w) = o) (hk4 : ∀ s, R (Sum.inl s) → Go (4, [(19, i0), (0, s.1), (0, s.2)], [], w)) : pj_TG R (fB_thereSet_30 i0 x1 x2 w) (Go (30, [(19, i0), (0, x1), (0, x2)], [], w)) := by
  unfold fB_thereSet_30
  exact pj_tret (fun hr => pj_iinc hM (pc := 30) dX0_thereSet_30 rfl (by decide) (lls' := [(19, i0), (0, x1), (0, (pj_wr (x2 + 1)))]) rfl (pj_goto hM (pc := 33) dX0_thereSet_33 rfl (pj_kill hM [true, true, true] (lls' := [(19, i0), (0, x1), (0, (pj_wr (x2 + 1)))]) rfl ((hk4 _ hr)))))
theorem tB_thereSet_4b {Go : pj_C → Prop} (hM : pj_M l yX0_thereSet cX0_thereSet 3 (some .int) 0 0 true g n0 o Go) (i0 : Int) (w : pj_W) (x1 : Int) (x2 : Int) (hn0 : 0 ≤ i0) (R : (Int × Int) ⊕ (Int) → Prop) (h0 : ∀ r, R (Sum.inr (r)) → ((some (0, r) : Option pj_V), w) = o) (hk4 : ∀ s, R (Sum.inl s) → Go (4, [(19, i0), (0, s.1), (0, s.2)], [], w)) : pj_TG R (fB_thereSet_4b i0 w x1 x2) (Go (4, [(19, i0), (0, x1), (0, x2)], [], w)) := by
  unfold fB_thereSet_4b
  refine pj_map (fun k => pj_iload_n hM (pc := 4) dX0_thereSet_4 rfl (pj_aload_n hM (pc := 5) dX0_thereSet_5 rfl rfl (pj_gf hM (pc := 6) (t := 0) dX0_thereSet_6 fl_X0_47 hn0 rfl 8 rfl k))) ?_
  refine pj_tif (fun h1 => ?_) (fun h1 => ?_)
  · exact pj_tret (fun hr => pj_ic_ge_t hM (pc := 9) dX0_thereSet_9 rfl h1 (pj_iload_n hM (pc := 36) dX0_thereSet_36 rfl (pj_ret hM (pc := 37) dX0_thereSet_37 ⟨_, rfl⟩ (h0 (x1) hr) rfl)))
  refine pj_tgd (fun h2 => ?_)
  refine pj_map (fun k => pj_ic_ge_f hM (pc := 9) 36 dX0_thereSet_9 rfl h1 (pj_aload_n hM (pc := 12) dX0_thereSet_12 rfl rfl (pj_getF hM (pc := 13) (t := 21) dX0_thereSet_13 fl_X0_19 hn0 rfl rfl (pj_iload_n hM (pc := 16) dX0_thereSet_16 rfl (pj_aald hM (pc := 17) (fun s : Int => 8 * i0 + s) dX0_thereSet_17 (by decide) rfl (fun _ => rfl) ⟨_, rfl⟩ (by decide) hn0 h2 (fun _ => rfl) (by show (0 : Int) ≤ (8 * i0 + x2); omega) (pj_gf hM (pc := 18) (t := 0) dX0_thereSet_18 fl_X0_84 (by show (0 : Int) ≤ (8 * i0 + x2); omega) rfl 5 rfl k)))))) ?_
  refine pj_tJ (fun v : Int => fB_thereSet_30 i0 v x2 w) (fun h3 => ?_) (fun h3 => ?_)
  · refine pj_map (fun k => pj_if_eq_t hM (pc := 21) dX0_thereSet_21 rfl h3 (pj_kill hM [true, true, true] (lls' := [(19, i0), (0, x1), (0, x2)]) rfl k)) ?_
    exact tB_thereSet_30 hM i0 x1 x2 w hn0 _ h0 hk4
  refine pj_map (fun k => pj_if_eq_f hM (pc := 21) 30 dX0_thereSet_21 rfl h3 (pj_iload_n hM (pc := 24) dX0_thereSet_24 rfl (pj_iconst hM (pc := 25) dX0_thereSet_25 (by decide) (pj_iload_n hM (pc := 26) dX0_thereSet_26 rfl (pj_ishl hM (pc := 27) dX0_thereSet_27 (pj_ior hM (pc := 28) dX0_thereSet_28 (pj_istore_n hM (pc := 29) dX0_thereSet_29 (by decide) (lls' := [(19, i0), (0, (pj_or x1 (pj_shl 1 x2))), (0, x2)]) rfl (pj_kill hM [true, true, true] (lls' := [(19, i0), (0, (pj_or x1 (pj_shl 1 x2))), (0, x2)]) rfl k)))))))) ?_
  exact tB_thereSet_30 hM i0 (pj_or x1 (pj_shl 1 x2)) x2 w hn0 _ h0 hk4
theorem tB_thereSet_4 {Go : pj_C → Prop} (hM : pj_M l yX0_thereSet cX0_thereSet 3 (some .int) 0 0 true g n0 o Go) (i0 : Int) (w : pj_W) (hn0 : 0 ≤ i0) (R : Int → Prop) (h0 : ∀ r, R (r) → ((some (0, r) : Option pj_V), w) = o) (s : (Int × Int)) : pj_TG R (fB_thereSet_4 i0 w s) (Go (4, [(19, i0), (0, s.1), (0, s.2)], [], w)) := by
  unfold fB_thereSet_4
  exact pj_tLp (G := fun s : (Int × Int) => Go (4, [(19, i0), (0, s.1), (0, s.2)], [], w)) (fun s => tB_thereSet_4b hM i0 w s.1 s.2 hn0 _ (fun r h => h0 r h)  (fun s h => h)) s
theorem tB_thereSet {Go : pj_C → Prop} (hM : pj_M l yX0_thereSet cX0_thereSet 3 (some .int) 0 0 true g n0 o Go) (i0 : Int) (w : pj_W) (hn0 : 0 ≤ i0) (R : Int → Prop) (h0 : ∀ r, R (r) → ((some (0, r) : Option pj_V), w) = o) : pj_TG R (fB_thereSet i0 w) (Go (0, [(19, i0), (9, 0), (9, 0)], [], w)) := by
  unfold fB_thereSet
  refine pj_map (fun k => pj_iconst hM (pc := 0) dX0_thereSet_0 (by decide) (pj_istore_n hM (pc := 1) dX0_thereSet_1 (by decide) (lls' := [(19, i0), (0, 0), (9, 0)]) rfl (pj_iconst hM (pc := 2) dX0_thereSet_2 (by decide) (pj_istore_n hM (pc := 3) dX0_thereSet_3 (by decide) (lls' := [(19, i0), (0, 0), (0, 0)]) rfl (pj_kill hM [true, true, true] (lls' := [(19, i0), (0, 0), (0, 0)]) rfl k))))) ?_
  exact tB_thereSet_4 hM i0 w hn0 _ h0 _
theorem cB_thereSet (i0 : Int) (hn0 : 0 ≤ i0) (w : pj_W) (r : Int) (h : fB_thereSet i0 w = some r) : pj_Cn l yX0_thereSet cX0_thereSet 3 (some .int) 0 0 true g [(19, i0)] w ((some (0, r) : Option pj_V), w) :=
  pj_Cn_of rfl (Nat.le_of_ble_eq_true rfl) (lls := [(19, i0), (9, 0), (9, 0)]) rfl (fun Go hM => tB_thereSet hM i0 w hn0 (fun x => ((some (0, x) : Option pj_V), w) = ((some (0, r) : Option pj_V), w)) (fun r h => h) r h rfl)
noncomputable def fB_comeDawn_12b (i0 : Int) (x1 : Int) (w : pj_W) : Option ((Int × pj_W) ⊕ (Int × pj_W)) :=
  if (w 19 i0 8) ≤ x1 then ((fB_done i0 (w 19 i0 8) w).bind fun p2 => (some (Sum.inr ((p2.1, p2.2))))) else (if 0 ≤ x1 ∧ x1 < 8 then (some (Sum.inl ((pj_wr (x1 + 1)), (pj_set w 23 (8 * i0 + x1) 5 1)))) else none)
noncomputable def fB_comeDawn_12 (i0 : Int) (s : (Int × pj_W)) : Option (Int × pj_W) := pj_Lp (fun s : (Int × pj_W) => fB_comeDawn_12b i0 s.1 s.2) s
noncomputable def fB_comeDawn (i0 : Int) (w : pj_W) : Option (Int × pj_W) :=
  (fB_thereSet i0 w).bind fun p1 => (if p1 = 0 then (fB_comeDawn_12 i0 (0, w)) else (some ((7, w))))
theorem tB_comeDawn_12b {Go : pj_C → Prop} (hM : pj_M l yX0_comeDawn cX0_comeDawn 2 (some .int) 1 22 true g n0 o Go) (i0 : Int) (x1 : Int) (w : pj_W) (hn0 : 0 ≤ i0) (R : (Int × pj_W) ⊕ (Int × pj_W) → Prop) (h0 : ∀ r, R (Sum.inr (r)) → ((some (0, r.1) : Option pj_V), r.2) = o) (hk12 : ∀ s, R (Sum.inl s) → Go (12, [(19, i0), (0, s.1)], [], s.2)) : pj_TG R (fB_comeDawn_12b i0 x1 w) (Go (12, [(19, i0), (0, x1)], [], w)) := by
  unfold fB_comeDawn_12b
  refine pj_map (fun k => pj_iload_n hM (pc := 12) dX0_comeDawn_12 rfl (pj_aload_n hM (pc := 13) dX0_comeDawn_13 rfl rfl (pj_gf hM (pc := 14) (t := 0) dX0_comeDawn_14 fl_X0_47 hn0 rfl 8 rfl k))) ?_
  refine pj_tif (fun h1 => ?_) (fun h1 => ?_)
  · refine pj_tbind (fun p2 h3 => ?_)
    exact pj_tret (fun hr => pj_ic_ge_t hM (pc := 17) dX0_comeDawn_17 rfl h1 (pj_aload_n hM (pc := 36) dX0_comeDawn_36 rfl rfl (pj_aload_n hM (pc := 37) dX0_comeDawn_37 rfl rfl (pj_gf hM (pc := 38) (t := 0) dX0_comeDawn_38 fl_X0_47 hn0 rfl 8 rfl (pj_cV hM (pc := 41) (cB_done i0 (w 19 i0 8) hn0 w p2 h3) dX0_comeDawn_41 mf_X0_done mv_X0_done ml_X0_91 kc_19 rfl rfl hn0 rfl rfl (pj_ret hM (pc := 44) dX0_comeDawn_44 ⟨_, rfl⟩ (h0 ((p2.1, p2.2)) hr) rfl))))))
  refine pj_tgd (fun h4 => ?_)
  exact pj_tret (fun hr => pj_ic_ge_f hM (pc := 17) 36 dX0_comeDawn_17 rfl h1 (pj_aload_n hM (pc := 20) dX0_comeDawn_20 rfl rfl (pj_getF hM (pc := 21) (t := 21) dX0_comeDawn_21 fl_X0_19 hn0 rfl rfl (pj_iload_n hM (pc := 24) dX0_comeDawn_24 rfl (pj_aald hM (pc := 25) (fun s : Int => 8 * i0 + s) dX0_comeDawn_25 (by decide) rfl (fun _ => rfl) ⟨_, rfl⟩ (by decide) hn0 h4 (fun _ => rfl) (by show (0 : Int) ≤ (8 * i0 + x1); omega) (pj_iconst hM (pc := 26) dX0_comeDawn_26 (by decide) (pj_pf hM (pc := 27) dX0_comeDawn_27 fl_X0_84 (by show (0 : Int) ≤ (8 * i0 + x1); omega) rfl (fun _ => Or.inr rfl) (by decide) (fun _ => rfl) 5 rfl (pj_iinc hM (pc := 30) dX0_comeDawn_30 rfl (by decide) (lls' := [(19, i0), (0, (pj_wr (x1 + 1)))]) rfl (pj_goto hM (pc := 33) dX0_comeDawn_33 rfl (pj_kill hM [true, true] (lls' := [(19, i0), (0, (pj_wr (x1 + 1)))]) rfl ((hk12 _ hr))))))))))))
theorem tB_comeDawn_12 {Go : pj_C → Prop} (hM : pj_M l yX0_comeDawn cX0_comeDawn 2 (some .int) 1 22 true g n0 o Go) (i0 : Int) (hn0 : 0 ≤ i0) (R : Int × pj_W → Prop) (h0 : ∀ r, R (r) → ((some (0, r.1) : Option pj_V), r.2) = o) (s : (Int × pj_W)) : pj_TG R (fB_comeDawn_12 i0 s) (Go (12, [(19, i0), (0, s.1)], [], s.2)) := by
  unfold fB_comeDawn_12
  exact pj_tLp (G := fun s : (Int × pj_W) => Go (12, [(19, i0), (0, s.1)], [], s.2)) (fun s => tB_comeDawn_12b hM i0 s.1 s.2 hn0 _ (fun r h => h0 r h)  (fun s h => h)) s
theorem tB_comeDawn {Go : pj_C → Prop} (hM : pj_M l yX0_comeDawn cX0_comeDawn 2 (some .int) 1 22 true g n0 o Go) (i0 : Int) (w : pj_W) (hn0 : 0 ≤ i0) (R : Int × pj_W → Prop) (h0 : ∀ r, R (r) → ((some (0, r.1) : Option pj_V), r.2) = o) : pj_TG R (fB_comeDawn i0 w) (Go (0, [(19, i0), (9, 0)], [], w)) := by
  unfold fB_comeDawn
  refine pj_tbind (fun p1 h2 => ?_)
  refine pj_map (fun k => pj_aload_n hM (pc := 0) dX0_comeDawn_0 rfl rfl (pj_cV hM (pc := 1) (cB_thereSet i0 hn0 w p1 h2) dX0_comeDawn_1 mf_X0_thereSet mv_X0_thereSet ml_X0_136 kc_19 rfl rfl hn0 rfl rfl k)) ?_
  refine pj_tif (fun h3 => ?_) (fun h3 => ?_)
  · refine pj_map (fun k => pj_if_eq_t hM (pc := 4) dX0_comeDawn_4 rfl h3 (pj_iconst hM (pc := 10) dX0_comeDawn_10 (by decide) (pj_istore_n hM (pc := 11) dX0_comeDawn_11 (by decide) (lls' := [(19, i0), (0, 0)]) rfl (pj_kill hM [true, true] (lls' := [(19, i0), (0, 0)]) rfl k)))) ?_
    exact tB_comeDawn_12 hM i0 hn0 _ h0 _
  exact pj_tret (fun hr => pj_if_eq_f hM (pc := 4) 10 dX0_comeDawn_4 rfl h3 (pj_bipush hM (pc := 7) dX0_comeDawn_7 (by decide) (pj_ret hM (pc := 9) dX0_comeDawn_9 ⟨_, rfl⟩ (h0 ((7, w)) hr) rfl)))
theorem cB_comeDawn (i0 : Int) (hn0 : 0 ≤ i0) (w : pj_W) (r : Int × pj_W) (h : fB_comeDawn i0 w = some r) : pj_Cn l yX0_comeDawn cX0_comeDawn 2 (some .int) 1 22 true g [(19, i0)] w ((some (0, r.1) : Option pj_V), r.2) :=
  pj_Cn_of rfl (Nat.le_of_ble_eq_true rfl) (lls := [(19, i0), (9, 0)]) rfl (fun Go hM => tB_comeDawn hM i0 w hn0 (fun x => ((some (0, x.1) : Option pj_V), x.2) = ((some (0, r.1) : Option pj_V), r.2)) (fun r h => h) r h rfl)
noncomputable def fX_settle (x1 : Int) (w : pj_W) : Option (Int × pj_W) :=
  if x1 = 0 then (if 0 ≤ (w 10 0 10) then ((fX_answer (w 19 (w 10 0 10) 9) w).bind fun p3 => (some ((p3.1, p3.2)))) else none) else ((fX_refuse x1 w).bind fun p5 => (some ((p5.1, p5.2))))
theorem tX_settle {Go : pj_C → Prop} (hM : pj_M l yX11_settle cX11_settle 2 (some .int) 1 21 ph g n0 o Go) (x1 : Int) (w : pj_W)  (R : Int × pj_W → Prop) (h0 : ∀ r, R (r) → ((some (0, r.1) : Option pj_V), r.2) = o) : pj_TG R (fX_settle x1 w) (Go (0, [(10, 0), (0, x1)], [], w)) := by
  unfold fX_settle
  refine pj_map (fun k => pj_iload_n hM (pc := 0) dX11_settle_0 rfl k) ?_
  refine pj_tif (fun h1 => ?_) (fun h1 => ?_)
  · refine pj_tgd (fun h2 => ?_)
    refine pj_tbind (fun p3 h4 => ?_)
    exact pj_tret (fun hr => pj_if_ne_f hM (pc := 1) 18 dX11_settle_1 rfl (fun q => q h1) (pj_aload_n hM (pc := 4) dX11_settle_4 rfl rfl (pj_aload_n hM (pc := 5) dX11_settle_5 rfl rfl (pj_gf hM (pc := 6) (t := 19) dX11_settle_6 fl_X11_69 (by decide) rfl 10 rfl (pj_gf hM (pc := 9) (t := 0) dX11_settle_9 fl_X11_93 h2 rfl 9 rfl (pj_cV hM (pc := 12) (cX_answer (w 19 (w 10 0 10) 9) w p3 h4) dX11_settle_12 mf_X11_answer mv_X11_answer ml_X11_96 kc_10 rfl rfl (by decide) rfl rfl (pj_goto hM (pc := 15) dX11_settle_15 rfl (pj_ret hM (pc := 23) dX11_settle_23 ⟨_, rfl⟩ (h0 ((p3.1, p3.2)) hr) rfl))))))))
  refine pj_tbind (fun p5 h6 => ?_)
  exact pj_tret (fun hr => pj_if_ne_t hM (pc := 1) dX11_settle_1 rfl h1 (pj_aload_n hM (pc := 18) dX11_settle_18 rfl rfl (pj_iload_n hM (pc := 19) dX11_settle_19 rfl (pj_cV hM (pc := 20) (cX_refuse x1 w p5 h6) dX11_settle_20 mf_X11_refuse mv_X11_refuse ml_X11_100 kc_10 rfl rfl (by decide) rfl rfl (pj_ret hM (pc := 23) dX11_settle_23 ⟨_, rfl⟩ (h0 ((p5.1, p5.2)) hr) rfl)))))
theorem cX_settle (x1 : Int)  (w : pj_W) (r : Int × pj_W) (h : fX_settle x1 w = some r) : pj_Cn l yX11_settle cX11_settle 2 (some .int) 1 21 ph g [(10, 0), (0, x1)] w ((some (0, r.1) : Option pj_V), r.2) :=
  pj_Cn_of rfl (Nat.le_of_ble_eq_true rfl) (lls := [(10, 0), (0, x1)]) rfl (fun Go hM => tX_settle hM x1 w (fun x => ((some (0, x.1) : Option pj_V), x.2) = ((some (0, r.1) : Option pj_V), r.2)) (fun r h => h) r h rfl)
noncomputable def fX_dawn  (w : pj_W) : Option (Int × pj_W) :=
  if 0 ≤ (w 10 0 10) then ((fB_comeDawn (w 10 0 10) w).bind fun p2 => ((fX_settle p2.1 p2.2).bind fun p4 => (some ((p4.1, p4.2))))) else none
theorem tX_dawn {Go : pj_C → Prop} (hM : pj_M l yX11_dawn cX11_dawn 1 (some .int) 2 43 true g n0 o Go)  (w : pj_W)  (R : Int × pj_W → Prop) (h0 : ∀ r, R (r) → ((some (0, r.1) : Option pj_V), r.2) = o) : pj_TG R (fX_dawn  w) (Go (0, [(10, 0)], [], w)) := by
  unfold fX_dawn
  refine pj_tgd (fun h1 => ?_)
  refine pj_tbind (fun p2 h3 => ?_)
  refine pj_tbind (fun p4 h5 => ?_)
  exact pj_tret (fun hr => pj_aload_n hM (pc := 0) dX11_dawn_0 rfl rfl (pj_aload_n hM (pc := 1) dX11_dawn_1 rfl rfl (pj_gf hM (pc := 2) (t := 19) dX11_dawn_2 fl_X11_69 (by decide) rfl 10 rfl (pj_cV hM (pc := 5) (cB_comeDawn (w 10 0 10) h1 w p2 h3) dX11_dawn_5 mf_X0_comeDawn mv_X0_comeDawn ml_X11_284 kc_19 rfl rfl h1 rfl rfl (pj_cV hM (pc := 8) (cX_settle p2.1 p2.2 p4 h5) dX11_dawn_8 mf_X11_settle mv_X11_settle ml_X11_263 kc_10 rfl rfl (by decide) rfl rfl (pj_ret hM (pc := 11) dX11_dawn_11 ⟨_, rfl⟩ (h0 ((p4.1, p4.2)) hr) rfl))))))
theorem cX_dawn   (w : pj_W) (r : Int × pj_W) (h : fX_dawn  w = some r) : pj_Cn l yX11_dawn cX11_dawn 1 (some .int) 2 43 true g [(10, 0)] w ((some (0, r.1) : Option pj_V), r.2) :=
  pj_Cn_of rfl (Nat.le_of_ble_eq_true rfl) (lls := [(10, 0)]) rfl (fun Go hM => tX_dawn hM w (fun x => ((some (0, x.1) : Option pj_V), x.2) = ((some (0, r.1) : Option pj_V), r.2)) (fun r h => h) r h rfl)
noncomputable def fDT_beginTest_37 (x1 : Int) (w : pj_W) : Option (Int × pj_W) :=
  (fR_takeWord x1 w).bind fun p1 => (some ((x1, p1.2)))
noncomputable def fDT_beginTest  (w : pj_W) : Option (Int × pj_W) :=
  (fR_wordHere w).bind fun p1 => (if p1 = 25 then (fDT_beginTest_37 p1 w) else (if p1 = 15 then (fDT_beginTest_37 p1 w) else (if p1 = 26 then (fDT_beginTest_37 p1 w) else ((fR_fail 2 w).bind fun p6 => (some (((-1), p6.2)))))))
theorem tDT_beginTest_37 {Go : pj_C → Prop} (hM : pj_M l yX3_beginTest cX3_beginTest 2 (some .int) 2 42 true g n0 o Go) (x1 : Int) (w : pj_W)  (R : Int × pj_W → Prop) (h0 : ∀ r, R (r) → ((some (0, r.1) : Option pj_V), r.2) = o) : pj_TG R (fDT_beginTest_37 x1 w) (Go (37, [(14, 0), (0, x1)], [], w)) := by
  unfold fDT_beginTest_37
  refine pj_tbind (fun p1 h2 => ?_)
  exact pj_tret (fun hr => pj_aload_n hM (pc := 37) dX3_beginTest_37 rfl rfl (pj_getF hM (pc := 38) (t := 12) dX3_beginTest_38 fl_X3_15 (by decide) rfl rfl (pj_iload_n hM (pc := 41) dX3_beginTest_41 rfl (pj_cV hM (pc := 42) (cR_takeWord x1 w p1 h2) dX3_beginTest_42 mf_X7_takeWord mv_X7_takeWord ml_X3_69 kc_12 rfl rfl (by decide) rfl rfl (pj_pop hM (pc := 45) dX3_beginTest_45 (by decide) (pj_iload_n hM (pc := 46) dX3_beginTest_46 rfl (pj_ret hM (pc := 47) dX3_beginTest_47 ⟨_, rfl⟩ (h0 ((x1, p1.2)) hr) rfl)))))))
theorem tDT_beginTest {Go : pj_C → Prop} (hM : pj_M l yX3_beginTest cX3_beginTest 2 (some .int) 2 42 true g n0 o Go)  (w : pj_W)  (R : Int × pj_W → Prop) (h0 : ∀ r, R (r) → ((some (0, r.1) : Option pj_V), r.2) = o) : pj_TG R (fDT_beginTest  w) (Go (0, [(14, 0), (9, 0)], [], w)) := by
  unfold fDT_beginTest
  refine pj_tbind (fun p1 h2 => ?_)
  refine pj_map (fun k => pj_aload_n hM (pc := 0) dX3_beginTest_0 rfl rfl (pj_getF hM (pc := 1) (t := 12) dX3_beginTest_1 fl_X3_15 (by decide) rfl rfl (pj_cV hM (pc := 4) (cR_wordHere w p1 h2) dX3_beginTest_4 mf_X7_wordHere mv_X7_wordHere ml_X3_42 kc_12 rfl rfl (by decide) rfl rfl (pj_istore_n hM (pc := 7) dX3_beginTest_7 (by decide) (lls' := [(14, 0), (0, p1)]) rfl (pj_iload_n hM (pc := 8) dX3_beginTest_8 rfl (pj_bipush hM (pc := 9) dX3_beginTest_9 (by decide) k)))))) ?_
  refine pj_tif (fun h3 => ?_) (fun h3 => ?_)
  · refine pj_map (fun k => pj_ic_eq_t hM (pc := 11) dX3_beginTest_11 rfl h3 (pj_kill hM [true, true] (lls' := [(14, 0), (0, p1)]) rfl k)) ?_
    exact tDT_beginTest_37 hM p1 w _ h0
  refine pj_map (fun k => pj_ic_eq_f hM (pc := 11) 37 dX3_beginTest_11 rfl h3 (pj_iload_n hM (pc := 14) dX3_beginTest_14 rfl (pj_bipush hM (pc := 15) dX3_beginTest_15 (by decide) k))) ?_
  refine pj_tif (fun h4 => ?_) (fun h4 => ?_)
  · refine pj_map (fun k => pj_ic_eq_t hM (pc := 17) dX3_beginTest_17 rfl h4 (pj_kill hM [true, true] (lls' := [(14, 0), (0, p1)]) rfl k)) ?_
    exact tDT_beginTest_37 hM p1 w _ h0
  refine pj_map (fun k => pj_ic_eq_f hM (pc := 17) 37 dX3_beginTest_17 rfl h4 (pj_iload_n hM (pc := 20) dX3_beginTest_20 rfl (pj_bipush hM (pc := 21) dX3_beginTest_21 (by decide) k))) ?_
  refine pj_tif (fun h5 => ?_) (fun h5 => ?_)
  · refine pj_map (fun k => pj_ic_eq_t hM (pc := 23) dX3_beginTest_23 rfl h5 (pj_kill hM [true, true] (lls' := [(14, 0), (0, p1)]) rfl k)) ?_
    exact tDT_beginTest_37 hM p1 w _ h0
  refine pj_tbind (fun p6 h7 => ?_)
  exact pj_tret (fun hr => pj_ic_eq_f hM (pc := 23) 37 dX3_beginTest_23 rfl h5 (pj_aload_n hM (pc := 26) dX3_beginTest_26 rfl rfl (pj_getF hM (pc := 27) (t := 12) dX3_beginTest_27 fl_X3_15 (by decide) rfl rfl (pj_iconst hM (pc := 30) dX3_beginTest_30 (by decide) (pj_cV hM (pc := 31) (cR_fail 2 w p6 h7) dX3_beginTest_31 mf_X7_fail mv_X7_fail ml_X3_62 kc_12 rfl rfl (by decide) rfl rfl (pj_pop hM (pc := 34) dX3_beginTest_34 (by decide) (pj_iconst hM (pc := 35) dX3_beginTest_35 (by decide) (pj_ret hM (pc := 36) dX3_beginTest_36 ⟨_, rfl⟩ (h0 (((-1), p6.2)) hr) rfl))))))))
theorem cDT_beginTest   (w : pj_W) (r : Int × pj_W) (h : fDT_beginTest  w = some r) : pj_Cn l yX3_beginTest cX3_beginTest 2 (some .int) 2 42 true g [(14, 0)] w ((some (0, r.1) : Option pj_V), r.2) :=
  pj_Cn_of rfl (Nat.le_of_ble_eq_true rfl) (lls := [(14, 0), (9, 0)]) rfl (fun Go hM => tDT_beginTest hM w (fun x => ((some (0, x.1) : Option pj_V), x.2) = ((some (0, r.1) : Option pj_V), r.2)) (fun r h => h) r h rfl)
noncomputable def fDT_isPlain_23  (w : pj_W) : Option (Int) :=
  some (1)
noncomputable def fDT_isPlain_12 (x0 : Int) (w : pj_W) : Option (Int) :=
  if x0 = 1 then (fDT_isPlain_23 w) else (if x0 = 29 then (fDT_isPlain_23 w) else (some (0)))
noncomputable def fDT_isPlain (x0 : Int) (w : pj_W) : Option (Int) :=
  if x0 < 18 then (fDT_isPlain_12 x0 w) else (if x0 ≤ 23 then (fDT_isPlain_23 w) else (fDT_isPlain_12 x0 w))
theorem tDT_isPlain_23 {Go : pj_C → Prop} (hM : pj_M l yX3_isPlain cX3_isPlain 1 (some .boolean) 0 0 ph g n0 o Go)  (w : pj_W)  (R : Int → Prop) (h0 : ∀ r, R (r) → ((some (0, r) : Option pj_V), w) = o) : pj_TG R (fDT_isPlain_23  w) (Go (23, [(9, 0)], [], w)) := by
  unfold fDT_isPlain_23
  exact pj_tret (fun hr => pj_iconst hM (pc := 23) dX3_isPlain_23 (by decide) (pj_goto hM (pc := 24) dX3_isPlain_24 rfl (pj_ret hM (pc := 28) dX3_isPlain_28 ⟨_, rfl, Or.inr rfl⟩ (h0 (1) hr) rfl)))
theorem tDT_isPlain_12 {Go : pj_C → Prop} (hM : pj_M l yX3_isPlain cX3_isPlain 1 (some .boolean) 0 0 ph g n0 o Go) (x0 : Int) (w : pj_W)  (R : Int → Prop) (h0 : ∀ r, R (r) → ((some (0, r) : Option pj_V), w) = o) : pj_TG R (fDT_isPlain_12 x0 w) (Go (12, [(0, x0)], [], w)) := by
  unfold fDT_isPlain_12
  refine pj_map (fun k => pj_iload_n hM (pc := 12) dX3_isPlain_12 rfl (pj_iconst hM (pc := 13) dX3_isPlain_13 (by decide) k)) ?_
  refine pj_tif (fun h1 => ?_) (fun h1 => ?_)
  · refine pj_map (fun k => pj_ic_eq_t hM (pc := 14) dX3_isPlain_14 rfl h1 (pj_kill hM [false] (lls' := [(9, 0)]) rfl k)) ?_
    exact tDT_isPlain_23 hM w _ h0
  refine pj_map (fun k => pj_ic_eq_f hM (pc := 14) 23 dX3_isPlain_14 rfl h1 (pj_iload_n hM (pc := 17) dX3_isPlain_17 rfl (pj_bipush hM (pc := 18) dX3_isPlain_18 (by decide) k))) ?_
  refine pj_tif (fun h2 => ?_) (fun h2 => ?_)
  · refine pj_map (fun k => pj_ic_ne_f hM (pc := 20) 27 dX3_isPlain_20 rfl (fun q => q h2) (pj_kill hM [false] (lls' := [(9, 0)]) rfl k)) ?_
    exact tDT_isPlain_23 hM w _ h0
  exact pj_tret (fun hr => pj_ic_ne_t hM (pc := 20) dX3_isPlain_20 rfl h2 (pj_iconst hM (pc := 27) dX3_isPlain_27 (by decide) (pj_ret hM (pc := 28) dX3_isPlain_28 ⟨_, rfl, Or.inl rfl⟩ (h0 (0) hr) rfl)))
theorem tDT_isPlain {Go : pj_C → Prop} (hM : pj_M l yX3_isPlain cX3_isPlain 1 (some .boolean) 0 0 ph g n0 o Go) (x0 : Int) (w : pj_W)  (R : Int → Prop) (h0 : ∀ r, R (r) → ((some (0, r) : Option pj_V), w) = o) : pj_TG R (fDT_isPlain x0 w) (Go (0, [(0, x0)], [], w)) := by
  unfold fDT_isPlain
  refine pj_map (fun k => pj_iload_n hM (pc := 0) dX3_isPlain_0 rfl (pj_bipush hM (pc := 1) dX3_isPlain_1 (by decide) k)) ?_
  refine pj_tif (fun h1 => ?_) (fun h1 => ?_)
  · refine pj_map (fun k => pj_ic_lt_t hM (pc := 3) dX3_isPlain_3 rfl h1 (pj_kill hM [true] (lls' := [(0, x0)]) rfl k)) ?_
    exact tDT_isPlain_12 hM x0 w _ h0
  refine pj_map (fun k => pj_ic_lt_f hM (pc := 3) 12 dX3_isPlain_3 rfl h1 (pj_iload_n hM (pc := 6) dX3_isPlain_6 rfl (pj_bipush hM (pc := 7) dX3_isPlain_7 (by decide) k))) ?_
  refine pj_tif (fun h2 => ?_) (fun h2 => ?_)
  · refine pj_map (fun k => pj_ic_le_t hM (pc := 9) dX3_isPlain_9 rfl h2 (pj_kill hM [false] (lls' := [(9, 0)]) rfl k)) ?_
    exact tDT_isPlain_23 hM w _ h0
  refine pj_map (fun k => pj_ic_le_f hM (pc := 9) 23 dX3_isPlain_9 rfl h2 (pj_kill hM [true] (lls' := [(0, x0)]) rfl k)) ?_
  exact tDT_isPlain_12 hM x0 w _ h0
theorem cDT_isPlain (x0 : Int)  (w : pj_W) (r : Int) (h : fDT_isPlain x0 w = some r) : pj_Cn l yX3_isPlain cX3_isPlain 1 (some .boolean) 0 0 ph g [(0, x0)] w ((some (0, r) : Option pj_V), w) :=
  pj_Cn_of rfl (Nat.le_of_ble_eq_true rfl) (lls := [(0, x0)]) rfl (fun Go hM => tDT_isPlain hM x0 w (fun x => ((some (0, x) : Option pj_V), w) = ((some (0, r) : Option pj_V), w)) (fun r h => h) r h rfl)
noncomputable def fDT_beginStep_148 (x1 : Int) (w : pj_W) : Option (Int × pj_W) :=
  if x1 = 24 then ((fDT_beginTest w).bind fun p2 => (some ((p2.1, p2.2)))) else (some ((x1, w)))
noncomputable def fDT_beginStep_96 (x1 : Int) (x2 : Int) (w : pj_W) : Option (Int × pj_W) :=
  (fR_takeWord x1 w).bind fun p1 => (if 0 ≤ (p1.2 14 0 4) then (if x2 = 0 then (fDT_beginStep_148 x1 (pj_set p1.2 24 (p1.2 14 0 4) 6 (pj_wr ((p1.2 24 (p1.2 14 0 4) 6) + 1)))) else (if 0 ≤ ((pj_set p1.2 24 (p1.2 14 0 4) 6 (pj_wr ((p1.2 24 (p1.2 14 0 4) 6) + 1))) 14 0 4) then (if 0 ≤ ((pj_set p1.2 24 (p1.2 14 0 4) 6 (pj_wr ((p1.2 24 (p1.2 14 0 4) 6) + 1))) 14 0 2) ∧ ((pj_set p1.2 24 (p1.2 14 0 4) 6 (pj_wr ((p1.2 24 (p1.2 14 0 4) 6) + 1))) 14 0 2) < 3 then ((some (pj_set (pj_set p1.2 24 (p1.2 14 0 4) 6 (pj_wr ((p1.2 24 (p1.2 14 0 4) 6) + 1))) 35 0 ((pj_set p1.2 24 (p1.2 14 0 4) 6 (pj_wr ((p1.2 24 (p1.2 14 0 4) 6) + 1))) 14 0 2) ((pj_set p1.2 24 (p1.2 14 0 4) 6 (pj_wr ((p1.2 24 (p1.2 14 0 4) 6) + 1))) 24 ((pj_set p1.2 24 (p1.2 14 0 4) 6 (pj_wr ((p1.2 24 (p1.2 14 0 4) 6) + 1))) 14 0 4) 7))).bind fun w7 => (fDT_beginStep_148 x1 (pj_set w7 14 0 2 (pj_wr ((w7 14 0 2) + 1))))) else none) else none)) else none)
noncomputable def fDT_beginStep_48 (x1 : Int) (x2 : Int) (w : pj_W) : Option (Int × pj_W) :=
  if 0 ≤ (w 14 0 4) then (if (w 24 (w 14 0 4) 6) < 30 then (if x2 = 0 then (fDT_beginStep_96 x1 x2 w) else (if (w 14 0 2) < 3 then (fDT_beginStep_96 x1 x2 w) else ((fR_fail 7 w).bind fun p5 => (some (((-1), p5.2)))))) else ((fR_fail 6 w).bind fun p7 => (some (((-1), p7.2))))) else none
noncomputable def fDT_beginStep_25 (x1 : Int) (s0 : Int) (w : pj_W) : Option (Int × pj_W) :=
  if s0 = 0 then ((fDT_isPlain x1 w).bind fun p2 => (if p2 = 0 then ((fR_fail 2 w).bind fun p5 => (some (((-1), p5.2)))) else (fDT_beginStep_48 x1 s0 w))) else (fDT_beginStep_48 x1 s0 w)
noncomputable def fDT_beginStep_20 (x1 : Int) (w : pj_W) : Option (Int × pj_W) :=
  fDT_beginStep_25 x1 1 w
noncomputable def fDT_beginStep  (w : pj_W) : Option (Int × pj_W) :=
  (fR_wordHere w).bind fun p1 => (if p1 = 24 then (fDT_beginStep_20 p1 w) else (if p1 = 27 then (fDT_beginStep_20 p1 w) else (fDT_beginStep_25 p1 0 w)))
theorem tDT_beginStep_148 {Go : pj_C → Prop} (hM : pj_M l yX3_beginStep cX3_beginStep 3 (some .int) 3 63 true g n0 o Go) (x1 : Int) (w : pj_W)  (R : Int × pj_W → Prop) (h0 : ∀ r, R (r) → ((some (0, r.1) : Option pj_V), r.2) = o) : pj_TG R (fDT_beginStep_148 x1 w) (Go (148, [(14, 0), (0, x1), (9, 0)], [], w)) := by
  unfold fDT_beginStep_148
  refine pj_map (fun k => pj_iload_n hM (pc := 148) dX3_beginStep_148 rfl (pj_bipush hM (pc := 149) dX3_beginStep_149 (by decide) k)) ?_
  refine pj_tif (fun h1 => ?_) (fun h1 => ?_)
  · refine pj_tbind (fun p2 h3 => ?_)
    exact pj_tret (fun hr => pj_ic_ne_f hM (pc := 151) 161 dX3_beginStep_151 rfl (fun q => q h1) (pj_aload_n hM (pc := 154) dX3_beginStep_154 rfl rfl (pj_cV hM (pc := 155) (cDT_beginTest w p2 h3) dX3_beginStep_155 mf_X3_beginTest mv_X3_beginTest ml_X3_85 kc_14 rfl rfl (by decide) rfl rfl (pj_goto hM (pc := 158) dX3_beginStep_158 rfl (pj_ret hM (pc := 162) dX3_beginStep_162 ⟨_, rfl⟩ (h0 ((p2.1, p2.2)) hr) rfl)))))
  exact pj_tret (fun hr => pj_ic_ne_t hM (pc := 151) dX3_beginStep_151 rfl h1 (pj_iload_n hM (pc := 161) dX3_beginStep_161 rfl (pj_ret hM (pc := 162) dX3_beginStep_162 ⟨_, rfl⟩ (h0 ((x1, w)) hr) rfl)))
theorem tDT_beginStep_96 {Go : pj_C → Prop} (hM : pj_M l yX3_beginStep cX3_beginStep 3 (some .int) 3 63 true g n0 o Go) (x1 : Int) (x2 : Int) (w : pj_W)  (R : Int × pj_W → Prop) (h0 : ∀ r, R (r) → ((some (0, r.1) : Option pj_V), r.2) = o) : pj_TG R (fDT_beginStep_96 x1 x2 w) (Go (96, [(14, 0), (0, x1), (0, x2)], [], w)) := by
  unfold fDT_beginStep_96
  refine pj_tbind (fun p1 h2 => ?_)
  refine pj_tgd (fun h3 => ?_)
  refine pj_map (fun k => pj_aload_n hM (pc := 96) dX3_beginStep_96 rfl rfl (pj_getF hM (pc := 97) (t := 12) dX3_beginStep_97 fl_X3_15 (by decide) rfl rfl (pj_iload_n hM (pc := 100) dX3_beginStep_100 rfl (pj_cV hM (pc := 101) (cR_takeWord x1 w p1 h2) dX3_beginStep_101 mf_X7_takeWord mv_X7_takeWord ml_X3_69 kc_12 rfl rfl (by decide) rfl rfl (pj_pop hM (pc := 104) dX3_beginStep_104 (by decide) (pj_aload_n hM (pc := 105) dX3_beginStep_105 rfl rfl (pj_gf hM (pc := 106) (t := 24) dX3_beginStep_106 fl_X3_23 (by decide) rfl 4 rfl (pj_dup hM (pc := 109) dX3_beginStep_109 (by decide) (pj_gf hM (pc := 110) (t := 0) dX3_beginStep_110 fl_X3_79 h3 rfl 6 rfl (pj_iconst hM (pc := 113) dX3_beginStep_113 (by decide) (pj_iadd hM (pc := 114) dX3_beginStep_114 (pj_pf hM (pc := 115) dX3_beginStep_115 fl_X3_79 h3 rfl (fun h => absurd h (by decide)) (by decide) (fun _ => rfl) 6 rfl (pj_iload_n hM (pc := 118) dX3_beginStep_118 rfl k))))))))))))) ?_
  refine pj_tif (fun h4 => ?_) (fun h4 => ?_)
  · refine pj_map (fun k => pj_if_eq_t hM (pc := 119) dX3_beginStep_119 rfl h4 (pj_kill hM [true, true, false] (lls' := [(14, 0), (0, x1), (9, 0)]) rfl k)) ?_
    exact tDT_beginStep_148 hM x1 (pj_set p1.2 24 (p1.2 14 0 4) 6 (pj_wr ((p1.2 24 (p1.2 14 0 4) 6) + 1))) _ h0
  refine pj_tgd (fun h5 => ?_)
  refine pj_tgd (fun h6 => ?_)
  refine pj_map (fun k => pj_if_eq_f hM (pc := 119) 148 dX3_beginStep_119 rfl h4 (pj_aload_n hM (pc := 122) dX3_beginStep_122 rfl rfl (pj_getF hM (pc := 123) (t := 35) dX3_beginStep_123 fl_X3_11 (by decide) rfl rfl (pj_aload_n hM (pc := 126) dX3_beginStep_126 rfl rfl (pj_gf hM (pc := 127) (t := 0) dX3_beginStep_127 fl_X3_32 (by decide) rfl 2 rfl (pj_aload_n hM (pc := 130) dX3_beginStep_130 rfl rfl (pj_gf hM (pc := 131) (t := 24) dX3_beginStep_131 fl_X3_23 (by decide) rfl 4 rfl (pj_gf hM (pc := 134) (t := 0) dX3_beginStep_134 fl_X3_82 h5 rfl 7 rfl (pj_ias hM (pc := 137) dX3_beginStep_137 ki_35 (by decide) h6 k))))))))) ?_
  refine pj_tlet (fun w7 => Go (138, [(14, 0), (0, x1), (0, x2)], [], w7)) (fun w7 => ?_)
  refine pj_map (fun k => pj_aload_n hM (pc := 138) dX3_beginStep_138 rfl rfl (pj_dup hM (pc := 139) dX3_beginStep_139 (by decide) (pj_gf hM (pc := 140) (t := 0) dX3_beginStep_140 fl_X3_32 (by decide) rfl 2 rfl (pj_iconst hM (pc := 143) dX3_beginStep_143 (by decide) (pj_iadd hM (pc := 144) dX3_beginStep_144 (pj_pf hM (pc := 145) dX3_beginStep_145 fl_X3_32 (by decide) rfl (fun h => absurd h (by decide)) (by decide) (fun _ => rfl) 2 rfl (pj_kill hM [true, true, false] (lls' := [(14, 0), (0, x1), (9, 0)]) rfl k))))))) ?_
  exact tDT_beginStep_148 hM x1 (pj_set w7 14 0 2 (pj_wr ((w7 14 0 2) + 1))) _ h0
theorem tDT_beginStep_48 {Go : pj_C → Prop} (hM : pj_M l yX3_beginStep cX3_beginStep 3 (some .int) 3 63 true g n0 o Go) (x1 : Int) (x2 : Int) (w : pj_W)  (R : Int × pj_W → Prop) (h0 : ∀ r, R (r) → ((some (0, r.1) : Option pj_V), r.2) = o) : pj_TG R (fDT_beginStep_48 x1 x2 w) (Go (48, [(14, 0), (0, x1), (0, x2)], [], w)) := by
  unfold fDT_beginStep_48
  refine pj_tgd (fun h1 => ?_)
  refine pj_map (fun k => pj_aload_n hM (pc := 48) dX3_beginStep_48 rfl rfl (pj_gf hM (pc := 49) (t := 24) dX3_beginStep_49 fl_X3_23 (by decide) rfl 4 rfl (pj_gf hM (pc := 52) (t := 0) dX3_beginStep_52 fl_X3_79 h1 rfl 6 rfl (pj_bipush hM (pc := 55) dX3_beginStep_55 (by decide) k)))) ?_
  refine pj_tif (fun h2 => ?_) (fun h2 => ?_)
  · refine pj_map (fun k => pj_ic_lt_t hM (pc := 57) dX3_beginStep_57 rfl h2 (pj_iload_n hM (pc := 72) dX3_beginStep_72 rfl k)) ?_
    refine pj_tif (fun h3 => ?_) (fun h3 => ?_)
    · refine pj_map (fun k => pj_if_eq_t hM (pc := 73) dX3_beginStep_73 rfl h3 (pj_kill hM [true, true, true] (lls' := [(14, 0), (0, x1), (0, x2)]) rfl k)) ?_
      exact tDT_beginStep_96 hM x1 x2 w _ h0
    refine pj_map (fun k => pj_if_eq_f hM (pc := 73) 96 dX3_beginStep_73 rfl h3 (pj_aload_n hM (pc := 76) dX3_beginStep_76 rfl rfl (pj_gf hM (pc := 77) (t := 0) dX3_beginStep_77 fl_X3_32 (by decide) rfl 2 rfl (pj_iconst hM (pc := 80) dX3_beginStep_80 (by decide) k)))) ?_
    refine pj_tif (fun h4 => ?_) (fun h4 => ?_)
    · refine pj_map (fun k => pj_ic_lt_t hM (pc := 81) dX3_beginStep_81 rfl h4 (pj_kill hM [true, true, true] (lls' := [(14, 0), (0, x1), (0, x2)]) rfl k)) ?_
      exact tDT_beginStep_96 hM x1 x2 w _ h0
    refine pj_tbind (fun p5 h6 => ?_)
    exact pj_tret (fun hr => pj_ic_lt_f hM (pc := 81) 96 dX3_beginStep_81 rfl h4 (pj_aload_n hM (pc := 84) dX3_beginStep_84 rfl rfl (pj_getF hM (pc := 85) (t := 12) dX3_beginStep_85 fl_X3_15 (by decide) rfl rfl (pj_bipush hM (pc := 88) dX3_beginStep_88 (by decide) (pj_cV hM (pc := 90) (cR_fail 7 w p5 h6) dX3_beginStep_90 mf_X7_fail mv_X7_fail ml_X3_62 kc_12 rfl rfl (by decide) rfl rfl (pj_pop hM (pc := 93) dX3_beginStep_93 (by decide) (pj_iconst hM (pc := 94) dX3_beginStep_94 (by decide) (pj_ret hM (pc := 95) dX3_beginStep_95 ⟨_, rfl⟩ (h0 (((-1), p5.2)) hr) rfl))))))))
  refine pj_tbind (fun p7 h8 => ?_)
  exact pj_tret (fun hr => pj_ic_lt_f hM (pc := 57) 72 dX3_beginStep_57 rfl h2 (pj_aload_n hM (pc := 60) dX3_beginStep_60 rfl rfl (pj_getF hM (pc := 61) (t := 12) dX3_beginStep_61 fl_X3_15 (by decide) rfl rfl (pj_bipush hM (pc := 64) dX3_beginStep_64 (by decide) (pj_cV hM (pc := 66) (cR_fail 6 w p7 h8) dX3_beginStep_66 mf_X7_fail mv_X7_fail ml_X3_62 kc_12 rfl rfl (by decide) rfl rfl (pj_pop hM (pc := 69) dX3_beginStep_69 (by decide) (pj_iconst hM (pc := 70) dX3_beginStep_70 (by decide) (pj_ret hM (pc := 71) dX3_beginStep_71 ⟨_, rfl⟩ (h0 (((-1), p7.2)) hr) rfl))))))))
theorem tDT_beginStep_25 {Go : pj_C → Prop} (hM : pj_M l yX3_beginStep cX3_beginStep 3 (some .int) 3 63 true g n0 o Go) (x1 : Int) (s0 : Int) (w : pj_W)  (R : Int × pj_W → Prop) (h0 : ∀ r, R (r) → ((some (0, r.1) : Option pj_V), r.2) = o) : pj_TG R (fDT_beginStep_25 x1 s0 w) (Go (25, [(14, 0), (0, x1), (9, 0)], [(0, s0)], w)) := by
  unfold fDT_beginStep_25
  refine pj_map (fun k => pj_istore_n hM (pc := 25) dX3_beginStep_25 (by decide) (lls' := [(14, 0), (0, x1), (0, s0)]) rfl (pj_iload_n hM (pc := 26) dX3_beginStep_26 rfl k)) ?_
  refine pj_tif (fun h1 => ?_) (fun h1 => ?_)
  · refine pj_tbind (fun p2 h3 => ?_)
    refine pj_map (fun k => pj_if_ne_f hM (pc := 27) 48 dX3_beginStep_27 rfl (fun q => q h1) (pj_iload_n hM (pc := 30) dX3_beginStep_30 rfl (pj_cS hM (pc := 31) (cDT_isPlain x1 w p2 h3) dX3_beginStep_31 mf_X3_isPlain ms_X3_isPlain ml_X3_76 rfl rfl rfl rfl k))) ?_
    refine pj_tif (fun h4 => ?_) (fun h4 => ?_)
    · refine pj_tbind (fun p5 h6 => ?_)
      exact pj_tret (fun hr => pj_if_ne_f hM (pc := 34) 48 dX3_beginStep_34 rfl (fun q => q h4) (pj_aload_n hM (pc := 37) dX3_beginStep_37 rfl rfl (pj_getF hM (pc := 38) (t := 12) dX3_beginStep_38 fl_X3_15 (by decide) rfl rfl (pj_iconst hM (pc := 41) dX3_beginStep_41 (by decide) (pj_cV hM (pc := 42) (cR_fail 2 w p5 h6) dX3_beginStep_42 mf_X7_fail mv_X7_fail ml_X3_62 kc_12 rfl rfl (by decide) rfl rfl (pj_pop hM (pc := 45) dX3_beginStep_45 (by decide) (pj_iconst hM (pc := 46) dX3_beginStep_46 (by decide) (pj_ret hM (pc := 47) dX3_beginStep_47 ⟨_, rfl⟩ (h0 (((-1), p5.2)) hr) rfl))))))))
    refine pj_map (fun k => pj_if_ne_t hM (pc := 34) dX3_beginStep_34 rfl h4 (pj_kill hM [true, true, true] (lls' := [(14, 0), (0, x1), (0, s0)]) rfl k)) ?_
    exact tDT_beginStep_48 hM x1 s0 w _ h0
  refine pj_map (fun k => pj_if_ne_t hM (pc := 27) dX3_beginStep_27 rfl h1 (pj_kill hM [true, true, true] (lls' := [(14, 0), (0, x1), (0, s0)]) rfl k)) ?_
  exact tDT_beginStep_48 hM x1 s0 w _ h0
theorem tDT_beginStep_20 {Go : pj_C → Prop} (hM : pj_M l yX3_beginStep cX3_beginStep 3 (some .int) 3 63 true g n0 o Go) (x1 : Int) (w : pj_W)  (R : Int × pj_W → Prop) (h0 : ∀ r, R (r) → ((some (0, r.1) : Option pj_V), r.2) = o) : pj_TG R (fDT_beginStep_20 x1 w) (Go (20, [(14, 0), (0, x1), (9, 0)], [], w)) := by
  unfold fDT_beginStep_20
  refine pj_map (fun k => pj_iconst hM (pc := 20) dX3_beginStep_20 (by decide) (pj_goto hM (pc := 21) dX3_beginStep_21 rfl (pj_kill hM [true, true, false] (lls' := [(14, 0), (0, x1), (9, 0)]) rfl k))) ?_
  exact tDT_beginStep_25 hM x1 1 w _ h0
theorem tDT_beginStep {Go : pj_C → Prop} (hM : pj_M l yX3_beginStep cX3_beginStep 3 (some .int) 3 63 true g n0 o Go)  (w : pj_W)  (R : Int × pj_W → Prop) (h0 : ∀ r, R (r) → ((some (0, r.1) : Option pj_V), r.2) = o) : pj_TG R (fDT_beginStep  w) (Go (0, [(14, 0), (9, 0), (9, 0)], [], w)) := by
  unfold fDT_beginStep
  refine pj_tbind (fun p1 h2 => ?_)
  refine pj_map (fun k => pj_aload_n hM (pc := 0) dX3_beginStep_0 rfl rfl (pj_getF hM (pc := 1) (t := 12) dX3_beginStep_1 fl_X3_15 (by decide) rfl rfl (pj_cV hM (pc := 4) (cR_wordHere w p1 h2) dX3_beginStep_4 mf_X7_wordHere mv_X7_wordHere ml_X3_42 kc_12 rfl rfl (by decide) rfl rfl (pj_istore_n hM (pc := 7) dX3_beginStep_7 (by decide) (lls' := [(14, 0), (0, p1), (9, 0)]) rfl (pj_iload_n hM (pc := 8) dX3_beginStep_8 rfl (pj_bipush hM (pc := 9) dX3_beginStep_9 (by decide) k)))))) ?_
  refine pj_tif (fun h3 => ?_) (fun h3 => ?_)
  · refine pj_map (fun k => pj_ic_eq_t hM (pc := 11) dX3_beginStep_11 rfl h3 (pj_kill hM [true, true, false] (lls' := [(14, 0), (0, p1), (9, 0)]) rfl k)) ?_
    exact tDT_beginStep_20 hM p1 w _ h0
  refine pj_map (fun k => pj_ic_eq_f hM (pc := 11) 20 dX3_beginStep_11 rfl h3 (pj_iload_n hM (pc := 14) dX3_beginStep_14 rfl (pj_bipush hM (pc := 15) dX3_beginStep_15 (by decide) k))) ?_
  refine pj_tif (fun h4 => ?_) (fun h4 => ?_)
  · refine pj_map (fun k => pj_ic_ne_f hM (pc := 17) 24 dX3_beginStep_17 rfl (fun q => q h4) (pj_kill hM [true, true, false] (lls' := [(14, 0), (0, p1), (9, 0)]) rfl k)) ?_
    exact tDT_beginStep_20 hM p1 w _ h0
  refine pj_map (fun k => pj_ic_ne_t hM (pc := 17) dX3_beginStep_17 rfl h4 (pj_iconst hM (pc := 24) dX3_beginStep_24 (by decide) (pj_kill hM [true, true, false] (lls' := [(14, 0), (0, p1), (9, 0)]) rfl k))) ?_
  exact tDT_beginStep_25 hM p1 0 w _ h0
theorem cDT_beginStep   (w : pj_W) (r : Int × pj_W) (h : fDT_beginStep  w = some r) : pj_Cn l yX3_beginStep cX3_beginStep 3 (some .int) 3 63 true g [(14, 0)] w ((some (0, r.1) : Option pj_V), r.2) :=
  pj_Cn_of rfl (Nat.le_of_ble_eq_true rfl) (lls := [(14, 0), (9, 0), (9, 0)]) rfl (fun Go hM => tDT_beginStep hM w (fun x => ((some (0, x.1) : Option pj_V), x.2) = ((some (0, r.1) : Option pj_V), r.2)) (fun r h => h) r h rfl)
noncomputable def fD_append (i0 : Int) (x1 : Int) (x2 : Int) (x3 : Int) (x4 : Int) (w : pj_W) : Option (pj_W) :=
  if (w 24 i0 7) < 60 then (if 0 ≤ (w 24 i0 7) ∧ (w 24 i0 7) < 60 then (if 0 ≤ ((pj_set w 47 i0 (w 24 i0 7) x1) 24 i0 7) ∧ ((pj_set w 47 i0 (w 24 i0 7) x1) 24 i0 7) < 60 then ((some (pj_set (pj_set w 47 i0 (w 24 i0 7) x1) 48 i0 ((pj_set w 47 i0 (w 24 i0 7) x1) 24 i0 7) x2)).bind fun w4 => (if 0 ≤ (w4 24 i0 7) ∧ (w4 24 i0 7) < 60 then (if 0 ≤ ((pj_set w4 49 i0 (w4 24 i0 7) x3) 24 i0 7) ∧ ((pj_set w4 49 i0 (w4 24 i0 7) x3) 24 i0 7) < 60 then ((some (pj_set (pj_set w4 49 i0 (w4 24 i0 7) x3) 50 i0 ((pj_set w4 49 i0 (w4 24 i0 7) x3) 24 i0 7) x4)).bind fun w7 => (if 0 ≤ (w7 24 i0 7) ∧ (w7 24 i0 7) < 60 then (some ((pj_set (pj_set w7 51 i0 (w7 24 i0 7) (-1)) 24 i0 7 (pj_wr (((pj_set w7 51 i0 (w7 24 i0 7) (-1)) 24 i0 7) + 1))))) else none)) else none) else none)) else none) else none) else (some (w))
theorem tD_append {Go : pj_C → Prop} (hM : pj_M l yX2_append cX2_append 5 none 0 0 true g n0 o Go) (i0 : Int) (x1 : Int) (x2 : Int) (x3 : Int) (x4 : Int) (w : pj_W) (hn0 : 0 ≤ i0) (R : pj_W → Prop) (h0 : ∀ r, R (r) → ((none : Option pj_V), r) = o) : pj_TG R (fD_append i0 x1 x2 x3 x4 w) (Go (0, [(24, i0), (0, x1), (0, x2), (0, x3), (0, x4)], [], w)) := by
  unfold fD_append
  refine pj_map (fun k => pj_aload_n hM (pc := 0) dX2_append_0 rfl rfl (pj_gf hM (pc := 1) (t := 0) dX2_append_1 fl_X2_35 hn0 rfl 7 rfl (pj_bipush hM (pc := 4) dX2_append_4 (by decide) k))) ?_
  refine pj_tif (fun h1 => ?_) (fun h1 => ?_)
  · refine pj_tgd (fun h2 => ?_)
    refine pj_tgd (fun h3 => ?_)
    refine pj_map (fun k => pj_ic_lt_t hM (pc := 6) dX2_append_6 rfl h1 (pj_aload_n hM (pc := 10) dX2_append_10 rfl rfl (pj_getF hM (pc := 11) (t := 47) dX2_append_11 fl_X2_11 hn0 rfl rfl (pj_aload_n hM (pc := 14) dX2_append_14 rfl rfl (pj_gf hM (pc := 15) (t := 0) dX2_append_15 fl_X2_35 hn0 rfl 7 rfl (pj_iload_n hM (pc := 18) dX2_append_18 rfl (pj_ias hM (pc := 19) dX2_append_19 ki_47 hn0 h2 (pj_aload_n hM (pc := 20) dX2_append_20 rfl rfl (pj_getF hM (pc := 21) (t := 48) dX2_append_21 fl_X2_15 hn0 rfl rfl (pj_aload_n hM (pc := 24) dX2_append_24 rfl rfl (pj_gf hM (pc := 25) (t := 0) dX2_append_25 fl_X2_35 hn0 rfl 7 rfl (pj_iload_n hM (pc := 28) dX2_append_28 rfl (pj_ias hM (pc := 29) dX2_append_29 ki_48 hn0 h3 k))))))))))))) ?_
    refine pj_tlet (fun w4 => Go (30, [(24, i0), (0, x1), (0, x2), (0, x3), (0, x4)], [], w4)) (fun w4 => ?_)
    refine pj_tgd (fun h5 => ?_)
    refine pj_tgd (fun h6 => ?_)
    refine pj_map (fun k => pj_aload_n hM (pc := 30) dX2_append_30 rfl rfl (pj_getF hM (pc := 31) (t := 49) dX2_append_31 fl_X2_18 hn0 rfl rfl (pj_aload_n hM (pc := 34) dX2_append_34 rfl rfl (pj_gf hM (pc := 35) (t := 0) dX2_append_35 fl_X2_35 hn0 rfl 7 rfl (pj_iload_n hM (pc := 38) dX2_append_38 rfl (pj_ias hM (pc := 39) dX2_append_39 ki_49 hn0 h5 (pj_aload_n hM (pc := 40) dX2_append_40 rfl rfl (pj_getF hM (pc := 41) (t := 50) dX2_append_41 fl_X2_21 hn0 rfl rfl (pj_aload_n hM (pc := 44) dX2_append_44 rfl rfl (pj_gf hM (pc := 45) (t := 0) dX2_append_45 fl_X2_35 hn0 rfl 7 rfl (pj_iload hM (pc := 48) dX2_append_48 rfl (pj_ias hM (pc := 50) dX2_append_50 ki_50 hn0 h6 k)))))))))))) ?_
    refine pj_tlet (fun w7 => Go (51, [(24, i0), (0, x1), (0, x2), (0, x3), (0, x4)], [], w7)) (fun w7 => ?_)
    refine pj_tgd (fun h8 => ?_)
    exact pj_tret (fun hr => pj_aload_n hM (pc := 51) dX2_append_51 rfl rfl (pj_getF hM (pc := 52) (t := 51) dX2_append_52 fl_X2_24 hn0 rfl rfl (pj_aload_n hM (pc := 55) dX2_append_55 rfl rfl (pj_gf hM (pc := 56) (t := 0) dX2_append_56 fl_X2_35 hn0 rfl 7 rfl (pj_iconst hM (pc := 59) dX2_append_59 (by decide) (pj_ias hM (pc := 60) dX2_append_60 ki_51 hn0 h8 (pj_aload_n hM (pc := 61) dX2_append_61 rfl rfl (pj_dup hM (pc := 62) dX2_append_62 (by decide) (pj_gf hM (pc := 63) (t := 0) dX2_append_63 fl_X2_35 hn0 rfl 7 rfl (pj_iconst hM (pc := 66) dX2_append_66 (by decide) (pj_iadd hM (pc := 67) dX2_append_67 (pj_pf hM (pc := 68) dX2_append_68 fl_X2_35 hn0 rfl (fun h => absurd h (by decide)) (by decide) (fun _ => rfl) 7 rfl (pj_ret hM (pc := 71) dX2_append_71 rfl (h0 ((pj_set (pj_set w7 51 i0 (w7 24 i0 7) (-1)) 24 i0 7 (pj_wr (((pj_set w7 51 i0 (w7 24 i0 7) (-1)) 24 i0 7) + 1)))) hr) rfl)))))))))))))
  exact pj_tret (fun hr => pj_ic_lt_f hM (pc := 6) 10 dX2_append_6 rfl h1 (pj_ret hM (pc := 9) dX2_append_9 rfl (h0 (w) hr) rfl))
theorem cD_append (i0 : Int) (x1 : Int) (x2 : Int) (x3 : Int) (x4 : Int) (hn0 : 0 ≤ i0) (w : pj_W) (r : pj_W) (h : fD_append i0 x1 x2 x3 x4 w = some r) : pj_Cn l yX2_append cX2_append 5 none 0 0 true g [(24, i0), (0, x1), (0, x2), (0, x3), (0, x4)] w ((none : Option pj_V), r) :=
  pj_Cn_of rfl (Nat.le_of_ble_eq_true rfl) (lls := [(24, i0), (0, x1), (0, x2), (0, x3), (0, x4)]) rfl (fun Go hM => tD_append hM i0 x1 x2 x3 x4 w hn0 (fun x => ((none : Option pj_V), x) = ((none : Option pj_V), r)) (fun r h => h) r h rfl)
noncomputable def fD_appendEnd (i0 : Int) (x1 : Int) (w : pj_W) : Option (pj_W) :=
  if 60 ≤ (w 24 i0 7) then (some (w)) else (if x1 < 0 then (some (w)) else (if x1 < (w 24 i0 7) then ((fD_append i0 28 0 0 0 w).bind fun p4 => (if 0 ≤ (w 24 i0 7) ∧ (w 24 i0 7) < 60 then (if 0 ≤ x1 ∧ x1 < 60 then (some ((pj_set (pj_set p4 51 i0 (w 24 i0 7) x1) 51 i0 x1 (w 24 i0 7)))) else none) else none)) else (some (w))))
theorem tD_appendEnd {Go : pj_C → Prop} (hM : pj_M l yX2_appendEnd cX2_appendEnd 3 none 1 24 true g n0 o Go) (i0 : Int) (x1 : Int) (w : pj_W) (hn0 : 0 ≤ i0) (R : pj_W → Prop) (h0 : ∀ r, R (r) → ((none : Option pj_V), r) = o) : pj_TG R (fD_appendEnd i0 x1 w) (Go (0, [(24, i0), (0, x1), (9, 0)], [], w)) := by
  unfold fD_appendEnd
  refine pj_map (fun k => pj_aload_n hM (pc := 0) dX2_appendEnd_0 rfl rfl (pj_gf hM (pc := 1) (t := 0) dX2_appendEnd_1 fl_X2_35 hn0 rfl 7 rfl (pj_bipush hM (pc := 4) dX2_appendEnd_4 (by decide) k))) ?_
  refine pj_tif (fun h1 => ?_) (fun h1 => ?_)
  · exact pj_tret (fun hr => pj_ic_ge_t hM (pc := 6) dX2_appendEnd_6 rfl h1 (pj_ret hM (pc := 21) dX2_appendEnd_21 rfl (h0 (w) hr) rfl))
  refine pj_map (fun k => pj_ic_ge_f hM (pc := 6) 21 dX2_appendEnd_6 rfl h1 (pj_iload_n hM (pc := 9) dX2_appendEnd_9 rfl k)) ?_
  refine pj_tif (fun h2 => ?_) (fun h2 => ?_)
  · exact pj_tret (fun hr => pj_if_lt_t hM (pc := 10) dX2_appendEnd_10 rfl h2 (pj_ret hM (pc := 21) dX2_appendEnd_21 rfl (h0 (w) hr) rfl))
  refine pj_map (fun k => pj_if_lt_f hM (pc := 10) 21 dX2_appendEnd_10 rfl h2 (pj_iload_n hM (pc := 13) dX2_appendEnd_13 rfl (pj_aload_n hM (pc := 14) dX2_appendEnd_14 rfl rfl (pj_gf hM (pc := 15) (t := 0) dX2_appendEnd_15 fl_X2_35 hn0 rfl 7 rfl k)))) ?_
  refine pj_tif (fun h3 => ?_) (fun h3 => ?_)
  · refine pj_tbind (fun p4 h5 => ?_)
    refine pj_tgd (fun h6 => ?_)
    refine pj_tgd (fun h7 => ?_)
    exact pj_tret (fun hr => pj_ic_lt_t hM (pc := 18) dX2_appendEnd_18 rfl h3 (pj_aload_n hM (pc := 22) dX2_appendEnd_22 rfl rfl (pj_gf hM (pc := 23) (t := 0) dX2_appendEnd_23 fl_X2_35 hn0 rfl 7 rfl (pj_istore_n hM (pc := 26) dX2_appendEnd_26 (by decide) (lls' := [(24, i0), (0, x1), (0, (w 24 i0 7))]) rfl (pj_aload_n hM (pc := 27) dX2_appendEnd_27 rfl rfl (pj_bipush hM (pc := 28) dX2_appendEnd_28 (by decide) (pj_iconst hM (pc := 30) dX2_appendEnd_30 (by decide) (pj_iconst hM (pc := 31) dX2_appendEnd_31 (by decide) (pj_iconst hM (pc := 32) dX2_appendEnd_32 (by decide) (pj_cVv hM (pc := 33) (cD_append i0 28 0 0 0 hn0 w p4 h5) dX2_appendEnd_33 mf_X2_append mv_X2_append ml_X2_46 kc_24 rfl rfl hn0 rfl rfl (pj_aload_n hM (pc := 36) dX2_appendEnd_36 rfl rfl (pj_getF hM (pc := 37) (t := 51) dX2_appendEnd_37 fl_X2_24 hn0 rfl rfl (pj_iload_n hM (pc := 40) dX2_appendEnd_40 rfl (pj_iload_n hM (pc := 41) dX2_appendEnd_41 rfl (pj_ias hM (pc := 42) dX2_appendEnd_42 ki_51 hn0 h6 (pj_aload_n hM (pc := 43) dX2_appendEnd_43 rfl rfl (pj_getF hM (pc := 44) (t := 51) dX2_appendEnd_44 fl_X2_24 hn0 rfl rfl (pj_iload_n hM (pc := 47) dX2_appendEnd_47 rfl (pj_iload_n hM (pc := 48) dX2_appendEnd_48 rfl (pj_ias hM (pc := 49) dX2_appendEnd_49 ki_51 hn0 h7 (pj_ret hM (pc := 50) dX2_appendEnd_50 rfl (h0 ((pj_set (pj_set p4 51 i0 (w 24 i0 7) x1) 51 i0 x1 (w 24 i0 7))) hr) rfl)))))))))))))))))))))
  exact pj_tret (fun hr => pj_ic_lt_f hM (pc := 18) 22 dX2_appendEnd_18 rfl h3 (pj_ret hM (pc := 21) dX2_appendEnd_21 rfl (h0 (w) hr) rfl))
theorem cD_appendEnd (i0 : Int) (x1 : Int) (hn0 : 0 ≤ i0) (w : pj_W) (r : pj_W) (h : fD_appendEnd i0 x1 w = some r) : pj_Cn l yX2_appendEnd cX2_appendEnd 3 none 1 24 true g [(24, i0), (0, x1)] w ((none : Option pj_V), r) :=
  pj_Cn_of rfl (Nat.le_of_ble_eq_true rfl) (lls := [(24, i0), (0, x1), (9, 0)]) rfl (fun Go hM => tD_appendEnd hM i0 x1 w hn0 (fun x => ((none : Option pj_V), x) = ((none : Option pj_V), r)) (fun r h => h) r h rfl)
noncomputable def fDT_takeEnd_15  (w : pj_W) : Option (Int × pj_W) :=
  (fR_fail 2 w).bind fun p1 => (if p1.1 = 0 ∨ p1.1 = 1 then (some ((p1.1, p1.2))) else none)
noncomputable def fDT_takeEnd  (w : pj_W) : Option (Int × pj_W) :=
  if (w 14 0 2) ≤ 0 then (fDT_takeEnd_15 w) else (if (w 14 0 2) ≤ 3 then ((fR_takeWord 28 w).bind fun p3 => (if 0 ≤ ((pj_set p3.2 14 0 2 (pj_wr ((p3.2 14 0 2) - 1))) 14 0 2) ∧ ((pj_set p3.2 14 0 2 (pj_wr ((p3.2 14 0 2) - 1))) 14 0 2) < 3 then (if 0 ≤ ((pj_set p3.2 14 0 2 (pj_wr ((p3.2 14 0 2) - 1))) 14 0 4) then ((fD_appendEnd ((pj_set p3.2 14 0 2 (pj_wr ((p3.2 14 0 2) - 1))) 14 0 4) ((pj_set p3.2 14 0 2 (pj_wr ((p3.2 14 0 2) - 1))) 35 0 ((pj_set p3.2 14 0 2 (pj_wr ((p3.2 14 0 2) - 1))) 14 0 2)) (pj_set p3.2 14 0 2 (pj_wr ((p3.2 14 0 2) - 1)))).bind fun p7 => (some ((1, p7)))) else none) else none)) else (fDT_takeEnd_15 w))
theorem tDT_takeEnd_15 {Go : pj_C → Prop} (hM : pj_M l yX3_takeEnd cX3_takeEnd 1 (some .boolean) 2 46 true g n0 o Go)  (w : pj_W)  (R : Int × pj_W → Prop) (h0 : ∀ r, R (r) → ((some (0, r.1) : Option pj_V), r.2) = o) : pj_TG R (fDT_takeEnd_15  w) (Go (15, [(14, 0)], [], w)) := by
  unfold fDT_takeEnd_15
  refine pj_tbind (fun p1 h2 => ?_)
  refine pj_tgd (fun h3 => ?_)
  exact pj_tret (fun hr => pj_aload_n hM (pc := 15) dX3_takeEnd_15 rfl rfl (pj_getF hM (pc := 16) (t := 12) dX3_takeEnd_16 fl_X3_15 (by decide) rfl rfl (pj_iconst hM (pc := 19) dX3_takeEnd_19 (by decide) (pj_cV hM (pc := 20) (cR_fail 2 w p1 h2) dX3_takeEnd_20 mf_X7_fail mv_X7_fail ml_X3_62 kc_12 rfl rfl (by decide) rfl rfl (pj_ret hM (pc := 23) dX3_takeEnd_23 ⟨_, rfl, h3⟩ (h0 ((p1.1, p1.2)) hr) rfl)))))
theorem tDT_takeEnd {Go : pj_C → Prop} (hM : pj_M l yX3_takeEnd cX3_takeEnd 1 (some .boolean) 2 46 true g n0 o Go)  (w : pj_W)  (R : Int × pj_W → Prop) (h0 : ∀ r, R (r) → ((some (0, r.1) : Option pj_V), r.2) = o) : pj_TG R (fDT_takeEnd  w) (Go (0, [(14, 0)], [], w)) := by
  unfold fDT_takeEnd
  refine pj_map (fun k => pj_aload_n hM (pc := 0) dX3_takeEnd_0 rfl rfl (pj_gf hM (pc := 1) (t := 0) dX3_takeEnd_1 fl_X3_32 (by decide) rfl 2 rfl k)) ?_
  refine pj_tif (fun h1 => ?_) (fun h1 => ?_)
  · refine pj_map (fun k => pj_if_le_t hM (pc := 4) dX3_takeEnd_4 rfl h1 (pj_kill hM [true] (lls' := [(14, 0)]) rfl k)) ?_
    exact tDT_takeEnd_15 hM w _ h0
  refine pj_map (fun k => pj_if_le_f hM (pc := 4) 15 dX3_takeEnd_4 rfl h1 (pj_aload_n hM (pc := 7) dX3_takeEnd_7 rfl rfl (pj_gf hM (pc := 8) (t := 0) dX3_takeEnd_8 fl_X3_32 (by decide) rfl 2 rfl (pj_iconst hM (pc := 11) dX3_takeEnd_11 (by decide) k)))) ?_
  refine pj_tif (fun h2 => ?_) (fun h2 => ?_)
  · refine pj_tbind (fun p3 h4 => ?_)
    refine pj_tgd (fun h5 => ?_)
    refine pj_tgd (fun h6 => ?_)
    refine pj_tbind (fun p7 h8 => ?_)
    exact pj_tret (fun hr => pj_ic_le_t hM (pc := 12) dX3_takeEnd_12 rfl h2 (pj_aload_n hM (pc := 24) dX3_takeEnd_24 rfl rfl (pj_getF hM (pc := 25) (t := 12) dX3_takeEnd_25 fl_X3_15 (by decide) rfl rfl (pj_bipush hM (pc := 28) dX3_takeEnd_28 (by decide) (pj_cV hM (pc := 30) (cR_takeWord 28 w p3 h4) dX3_takeEnd_30 mf_X7_takeWord mv_X7_takeWord ml_X3_69 kc_12 rfl rfl (by decide) rfl rfl (pj_pop hM (pc := 33) dX3_takeEnd_33 (by decide) (pj_aload_n hM (pc := 34) dX3_takeEnd_34 rfl rfl (pj_dup hM (pc := 35) dX3_takeEnd_35 (by decide) (pj_gf hM (pc := 36) (t := 0) dX3_takeEnd_36 fl_X3_32 (by decide) rfl 2 rfl (pj_iconst hM (pc := 39) dX3_takeEnd_39 (by decide) (pj_isub hM (pc := 40) dX3_takeEnd_40 (pj_pf hM (pc := 41) dX3_takeEnd_41 fl_X3_32 (by decide) rfl (fun h => absurd h (by decide)) (by decide) (fun _ => rfl) 2 rfl (pj_aload_n hM (pc := 44) dX3_takeEnd_44 rfl rfl (pj_gf hM (pc := 45) (t := 24) dX3_takeEnd_45 fl_X3_23 (by decide) rfl 4 rfl (pj_aload_n hM (pc := 48) dX3_takeEnd_48 rfl rfl (pj_getF hM (pc := 49) (t := 35) dX3_takeEnd_49 fl_X3_11 (by decide) rfl rfl (pj_aload_n hM (pc := 52) dX3_takeEnd_52 rfl rfl (pj_gf hM (pc := 53) (t := 0) dX3_takeEnd_53 fl_X3_32 (by decide) rfl 2 rfl (pj_ial hM (pc := 56) dX3_takeEnd_56 ki_35 (by decide) h5 (pj_cVv hM (pc := 57) (cD_appendEnd ((pj_set p3.2 14 0 2 (pj_wr ((p3.2 14 0 2) - 1))) 14 0 4) ((pj_set p3.2 14 0 2 (pj_wr ((p3.2 14 0 2) - 1))) 35 0 ((pj_set p3.2 14 0 2 (pj_wr ((p3.2 14 0 2) - 1))) 14 0 2)) h6 (pj_set p3.2 14 0 2 (pj_wr ((p3.2 14 0 2) - 1))) p7 h8) dX3_takeEnd_57 mf_X2_appendEnd mv_X2_appendEnd ml_X3_72 kc_24 rfl rfl h6 rfl rfl (pj_iconst hM (pc := 60) dX3_takeEnd_60 (by decide) (pj_ret hM (pc := 61) dX3_takeEnd_61 ⟨_, rfl, Or.inr rfl⟩ (h0 ((1, p7)) hr) rfl))))))))))))))))))))))
  refine pj_map (fun k => pj_ic_le_f hM (pc := 12) 24 dX3_takeEnd_12 rfl h2 (pj_kill hM [true] (lls' := [(14, 0)]) rfl k)) ?_
  exact tDT_takeEnd_15 hM w _ h0
theorem cDT_takeEnd   (w : pj_W) (r : Int × pj_W) (h : fDT_takeEnd  w = some r) : pj_Cn l yX3_takeEnd cX3_takeEnd 1 (some .boolean) 2 46 true g [(14, 0)] w ((some (0, r.1) : Option pj_V), r.2) :=
  pj_Cn_of rfl (Nat.le_of_ble_eq_true rfl) (lls := [(14, 0)]) rfl (fun Go hM => tDT_takeEnd hM w (fun x => ((some (0, x.1) : Option pj_V), x.2) = ((some (0, r.1) : Option pj_V), r.2)) (fun r h => h) r h rfl)
noncomputable def fDT_add (x1 : Int) (x2 : Int) (x3 : Int) (x4 : Int) (w : pj_W) : Option (Int × pj_W) :=
  if 0 ≤ (w 14 0 4) then ((fD_append (w 14 0 4) x1 x2 x3 x4 w).bind fun p2 => (some ((1, p2)))) else none
theorem tDT_add {Go : pj_C → Prop} (hM : pj_M l yX3_add cX3_add 5 (some .boolean) 1 24 true g n0 o Go) (x1 : Int) (x2 : Int) (x3 : Int) (x4 : Int) (w : pj_W)  (R : Int × pj_W → Prop) (h0 : ∀ r, R (r) → ((some (0, r.1) : Option pj_V), r.2) = o) : pj_TG R (fDT_add x1 x2 x3 x4 w) (Go (0, [(14, 0), (0, x1), (0, x2), (0, x3), (0, x4)], [], w)) := by
  unfold fDT_add
  refine pj_tgd (fun h1 => ?_)
  refine pj_tbind (fun p2 h3 => ?_)
  exact pj_tret (fun hr => pj_aload_n hM (pc := 0) dX3_add_0 rfl rfl (pj_gf hM (pc := 1) (t := 24) dX3_add_1 fl_X3_23 (by decide) rfl 4 rfl (pj_iload_n hM (pc := 4) dX3_add_4 rfl (pj_iload_n hM (pc := 5) dX3_add_5 rfl (pj_iload_n hM (pc := 6) dX3_add_6 rfl (pj_iload hM (pc := 7) dX3_add_7 rfl (pj_cVv hM (pc := 9) (cD_append (w 14 0 4) x1 x2 x3 x4 h1 w p2 h3) dX3_add_9 mf_X2_append mv_X2_append ml_X3_111 kc_24 rfl rfl h1 rfl rfl (pj_iconst hM (pc := 12) dX3_add_12 (by decide) (pj_ret hM (pc := 13) dX3_add_13 ⟨_, rfl, Or.inr rfl⟩ (h0 ((1, p2)) hr) rfl)))))))))
theorem cDT_add (x1 : Int) (x2 : Int) (x3 : Int) (x4 : Int)  (w : pj_W) (r : Int × pj_W) (h : fDT_add x1 x2 x3 x4 w = some r) : pj_Cn l yX3_add cX3_add 5 (some .boolean) 1 24 true g [(14, 0), (0, x1), (0, x2), (0, x3), (0, x4)] w ((some (0, r.1) : Option pj_V), r.2) :=
  pj_Cn_of rfl (Nat.le_of_ble_eq_true rfl) (lls := [(14, 0), (0, x1), (0, x2), (0, x3), (0, x4)]) rfl (fun Go hM => tDT_add hM x1 x2 x3 x4 w (fun x => ((some (0, x.1) : Option pj_V), x.2) = ((some (0, r.1) : Option pj_V), r.2)) (fun r h => h) r h rfl)
noncomputable def fDT_takeFree  (w : pj_W) : Option (Int × pj_W) :=
  (fR_takeFind (w 14 0 3) w).bind fun p1 => (if p1.1 = (-1) then (some ((0, p1.2))) else ((fDT_add 26 0 p1.1 0 p1.2).bind fun p4 => (if p4.1 = 0 then (some ((0, p4.2))) else (some ((1, p4.2))))))
theorem tDT_takeFree {Go : pj_C → Prop} (hM : pj_M l yX3_takeFree cX3_takeFree 2 (some .boolean) 3 63 true g n0 o Go)  (w : pj_W)  (R : Int × pj_W → Prop) (h0 : ∀ r, R (r) → ((some (0, r.1) : Option pj_V), r.2) = o) : pj_TG R (fDT_takeFree  w) (Go (0, [(14, 0), (9, 0)], [], w)) := by
  unfold fDT_takeFree
  refine pj_tbind (fun p1 h2 => ?_)
  refine pj_map (fun k => pj_aload_n hM (pc := 0) dX3_takeFree_0 rfl rfl (pj_getF hM (pc := 1) (t := 12) dX3_takeFree_1 fl_X3_15 (by decide) rfl rfl (pj_aload_n hM (pc := 4) dX3_takeFree_4 rfl rfl (pj_gf hM (pc := 5) (t := 19) dX3_takeFree_5 fl_X3_19 (by decide) rfl 3 rfl (pj_cV hM (pc := 8) (cR_takeFind (w 14 0 3) w p1 h2) dX3_takeFree_8 mf_X7_takeFind mv_X7_takeFind ml_X3_136 kc_12 rfl rfl (by decide) rfl rfl (pj_istore_n hM (pc := 11) dX3_takeFree_11 (by decide) (lls' := [(14, 0), (0, p1.1)]) rfl (pj_iload_n hM (pc := 12) dX3_takeFree_12 rfl (pj_iconst hM (pc := 13) dX3_takeFree_13 (by decide) k)))))))) ?_
  refine pj_tif (fun h3 => ?_) (fun h3 => ?_)
  · exact pj_tret (fun hr => pj_ic_eq_t hM (pc := 14) dX3_takeFree_14 rfl h3 (pj_iconst hM (pc := 33) dX3_takeFree_33 (by decide) (pj_ret hM (pc := 34) dX3_takeFree_34 ⟨_, rfl, Or.inl rfl⟩ (h0 ((0, p1.2)) hr) rfl)))
  refine pj_tbind (fun p4 h5 => ?_)
  refine pj_map (fun k => pj_ic_eq_f hM (pc := 14) 33 dX3_takeFree_14 rfl h3 (pj_aload_n hM (pc := 17) dX3_takeFree_17 rfl rfl (pj_bipush hM (pc := 18) dX3_takeFree_18 (by decide) (pj_iconst hM (pc := 20) dX3_takeFree_20 (by decide) (pj_iload_n hM (pc := 21) dX3_takeFree_21 rfl (pj_iconst hM (pc := 22) dX3_takeFree_22 (by decide) (pj_cV hM (pc := 23) (cDT_add 26 0 p1.1 0 p1.2 p4 h5) dX3_takeFree_23 mf_X3_add mv_X3_add ml_X3_107 kc_14 rfl rfl (by decide) rfl rfl k))))))) ?_
  refine pj_tif (fun h6 => ?_) (fun h6 => ?_)
  · exact pj_tret (fun hr => pj_if_eq_t hM (pc := 26) dX3_takeFree_26 rfl h6 (pj_iconst hM (pc := 33) dX3_takeFree_33 (by decide) (pj_ret hM (pc := 34) dX3_takeFree_34 ⟨_, rfl, Or.inl rfl⟩ (h0 ((0, p4.2)) hr) rfl)))
  exact pj_tret (fun hr => pj_if_eq_f hM (pc := 26) 33 dX3_takeFree_26 rfl h6 (pj_iconst hM (pc := 29) dX3_takeFree_29 (by decide) (pj_goto hM (pc := 30) dX3_takeFree_30 rfl (pj_ret hM (pc := 34) dX3_takeFree_34 ⟨_, rfl, Or.inr rfl⟩ (h0 ((1, p4.2)) hr) rfl))))
theorem cDT_takeFree   (w : pj_W) (r : Int × pj_W) (h : fDT_takeFree  w = some r) : pj_Cn l yX3_takeFree cX3_takeFree 2 (some .boolean) 3 63 true g [(14, 0)] w ((some (0, r.1) : Option pj_V), r.2) :=
  pj_Cn_of rfl (Nat.le_of_ble_eq_true rfl) (lls := [(14, 0), (9, 0)]) rfl (fun Go hM => tDT_takeFree hM w (fun x => ((some (0, x.1) : Option pj_V), x.2) = ((some (0, r.1) : Option pj_V), r.2)) (fun r h => h) r h rfl)
noncomputable def fDT_takeGo  (w : pj_W) : Option (Int × pj_W) :=
  (fR_takeFinder (w 14 0 3) w).bind fun p1 => (if p1.1 = (-1) then (some ((0, p1.2))) else (if 0 ≤ (p1.2 14 0 3) then ((fR_takeNumberBehind 17 0 (pj_wr ((p1.2 19 (p1.2 14 0 3) 2) - 1)) p1.2).bind fun p5 => (if p5.1 = (-1) then (some ((0, p5.2))) else ((fDT_add 18 p1.1 p5.1 0 p5.2).bind fun p8 => (if p8.1 = 0 then (some ((0, p8.2))) else (some ((1, p8.2))))))) else none))
theorem tDT_takeGo {Go : pj_C → Prop} (hM : pj_M l yX3_takeGo cX3_takeGo 3 (some .boolean) 3 67 true g n0 o Go)  (w : pj_W)  (R : Int × pj_W → Prop) (h0 : ∀ r, R (r) → ((some (0, r.1) : Option pj_V), r.2) = o) : pj_TG R (fDT_takeGo  w) (Go (0, [(14, 0), (9, 0), (9, 0)], [], w)) := by
  unfold fDT_takeGo
  refine pj_tbind (fun p1 h2 => ?_)
  refine pj_map (fun k => pj_aload_n hM (pc := 0) dX3_takeGo_0 rfl rfl (pj_getF hM (pc := 1) (t := 12) dX3_takeGo_1 fl_X3_15 (by decide) rfl rfl (pj_aload_n hM (pc := 4) dX3_takeGo_4 rfl rfl (pj_gf hM (pc := 5) (t := 19) dX3_takeGo_5 fl_X3_19 (by decide) rfl 3 rfl (pj_cV hM (pc := 8) (cR_takeFinder (w 14 0 3) w p1 h2) dX3_takeGo_8 mf_X7_takeFinder mv_X7_takeFinder ml_X3_115 kc_12 rfl rfl (by decide) rfl rfl (pj_istore_n hM (pc := 11) dX3_takeGo_11 (by decide) (lls' := [(14, 0), (0, p1.1), (9, 0)]) rfl (pj_iload_n hM (pc := 12) dX3_takeGo_12 rfl (pj_iconst hM (pc := 13) dX3_takeGo_13 (by decide) k)))))))) ?_
  refine pj_tif (fun h3 => ?_) (fun h3 => ?_)
  · exact pj_tret (fun hr => pj_ic_ne_f hM (pc := 14) 19 dX3_takeGo_14 rfl (fun q => q h3) (pj_iconst hM (pc := 17) dX3_takeGo_17 (by decide) (pj_ret hM (pc := 18) dX3_takeGo_18 ⟨_, rfl, Or.inl rfl⟩ (h0 ((0, p1.2)) hr) rfl)))
  refine pj_tgd (fun h4 => ?_)
  refine pj_tbind (fun p5 h6 => ?_)
  refine pj_map (fun k => pj_ic_ne_t hM (pc := 14) dX3_takeGo_14 rfl h3 (pj_aload_n hM (pc := 19) dX3_takeGo_19 rfl rfl (pj_getF hM (pc := 20) (t := 12) dX3_takeGo_20 fl_X3_15 (by decide) rfl rfl (pj_bipush hM (pc := 23) dX3_takeGo_23 (by decide) (pj_iconst hM (pc := 25) dX3_takeGo_25 (by decide) (pj_aload_n hM (pc := 26) dX3_takeGo_26 rfl rfl (pj_gf hM (pc := 27) (t := 19) dX3_takeGo_27 fl_X3_19 (by decide) rfl 3 rfl (pj_gf hM (pc := 30) (t := 0) dX3_takeGo_30 fl_X3_119 h4 rfl 2 rfl (pj_iconst hM (pc := 33) dX3_takeGo_33 (by decide) (pj_isub hM (pc := 34) dX3_takeGo_34 (pj_cV hM (pc := 35) (cR_takeNumberBehind 17 0 (pj_wr ((p1.2 19 (p1.2 14 0 3) 2) - 1)) p1.2 p5 h6) dX3_takeGo_35 mf_X7_takeNumberBehind mv_X7_takeNumberBehind ml_X3_124 kc_12 rfl rfl (by decide) rfl rfl (pj_istore_n hM (pc := 38) dX3_takeGo_38 (by decide) (lls' := [(14, 0), (0, p1.1), (0, p5.1)]) rfl (pj_iload_n hM (pc := 39) dX3_takeGo_39 rfl (pj_iconst hM (pc := 40) dX3_takeGo_40 (by decide) k)))))))))))))) ?_
  refine pj_tif (fun h7 => ?_) (fun h7 => ?_)
  · exact pj_tret (fun hr => pj_ic_eq_t hM (pc := 41) dX3_takeGo_41 rfl h7 (pj_iconst hM (pc := 60) dX3_takeGo_60 (by decide) (pj_ret hM (pc := 61) dX3_takeGo_61 ⟨_, rfl, Or.inl rfl⟩ (h0 ((0, p5.2)) hr) rfl)))
  refine pj_tbind (fun p8 h9 => ?_)
  refine pj_map (fun k => pj_ic_eq_f hM (pc := 41) 60 dX3_takeGo_41 rfl h7 (pj_aload_n hM (pc := 44) dX3_takeGo_44 rfl rfl (pj_bipush hM (pc := 45) dX3_takeGo_45 (by decide) (pj_iload_n hM (pc := 47) dX3_takeGo_47 rfl (pj_iload_n hM (pc := 48) dX3_takeGo_48 rfl (pj_iconst hM (pc := 49) dX3_takeGo_49 (by decide) (pj_cV hM (pc := 50) (cDT_add 18 p1.1 p5.1 0 p5.2 p8 h9) dX3_takeGo_50 mf_X3_add mv_X3_add ml_X3_107 kc_14 rfl rfl (by decide) rfl rfl k))))))) ?_
  refine pj_tif (fun h10 => ?_) (fun h10 => ?_)
  · exact pj_tret (fun hr => pj_if_eq_t hM (pc := 53) dX3_takeGo_53 rfl h10 (pj_iconst hM (pc := 60) dX3_takeGo_60 (by decide) (pj_ret hM (pc := 61) dX3_takeGo_61 ⟨_, rfl, Or.inl rfl⟩ (h0 ((0, p8.2)) hr) rfl)))
  exact pj_tret (fun hr => pj_if_eq_f hM (pc := 53) 60 dX3_takeGo_53 rfl h10 (pj_iconst hM (pc := 56) dX3_takeGo_56 (by decide) (pj_goto hM (pc := 57) dX3_takeGo_57 rfl (pj_ret hM (pc := 61) dX3_takeGo_61 ⟨_, rfl, Or.inr rfl⟩ (h0 ((1, p8.2)) hr) rfl))))
theorem cDT_takeGo   (w : pj_W) (r : Int × pj_W) (h : fDT_takeGo  w = some r) : pj_Cn l yX3_takeGo cX3_takeGo 3 (some .boolean) 3 67 true g [(14, 0)] w ((some (0, r.1) : Option pj_V), r.2) :=
  pj_Cn_of rfl (Nat.le_of_ble_eq_true rfl) (lls := [(14, 0), (9, 0), (9, 0)]) rfl (fun Go hM => tDT_takeGo hM w (fun x => ((some (0, x.1) : Option pj_V), x.2) = ((some (0, r.1) : Option pj_V), r.2)) (fun r h => h) r h rfl)
noncomputable def fR_takeCompares_29  (w : pj_W) : Option (Int × pj_W) :=
  (fR_fail 2 w).bind fun p1 => (some (((-1), p1.2)))
noncomputable def fR_takeCompares  (w : pj_W) : Option (Int × pj_W) :=
  if 0 ≤ (w 12 0 11) ∧ (w 12 0 11) < 901 then (if (w 31 0 (w 12 0 11)) = 2 then (if (pj_cmp (w 33 0 (w 12 0 11)) 59) = 0 then (fR_takeCompares_29 w) else ((fR_advance w).bind fun p4 => (some (((pj_wr (w 33 0 (w 12 0 11))), p4))))) else (fR_takeCompares_29 w)) else none
theorem tR_takeCompares_29 {Go : pj_C → Prop} (hM : pj_M l yX7_takeCompares cX7_takeCompares 2 (some .int) 1 21 true g n0 o Go)  (w : pj_W)  (R : Int × pj_W → Prop) (h0 : ∀ r, R (r) → ((some (0, r.1) : Option pj_V), r.2) = o) : pj_TG R (fR_takeCompares_29  w) (Go (29, [(12, 0), (9, 0)], [], w)) := by
  unfold fR_takeCompares_29
  refine pj_tbind (fun p1 h2 => ?_)
  exact pj_tret (fun hr => pj_aload_n hM (pc := 29) dX7_takeCompares_29 rfl rfl (pj_iconst hM (pc := 30) dX7_takeCompares_30 (by decide) (pj_cV hM (pc := 31) (cR_fail 2 w p1 h2) dX7_takeCompares_31 mf_X7_fail mv_X7_fail ml_X7_103 kc_12 rfl rfl (by decide) rfl rfl (pj_pop hM (pc := 34) dX7_takeCompares_34 (by decide) (pj_iconst hM (pc := 35) dX7_takeCompares_35 (by decide) (pj_ret hM (pc := 36) dX7_takeCompares_36 ⟨_, rfl⟩ (h0 (((-1), p1.2)) hr) rfl))))))
theorem tR_takeCompares {Go : pj_C → Prop} (hM : pj_M l yX7_takeCompares cX7_takeCompares 2 (some .int) 1 21 true g n0 o Go)  (w : pj_W)  (R : Int × pj_W → Prop) (h0 : ∀ r, R (r) → ((some (0, r.1) : Option pj_V), r.2) = o) : pj_TG R (fR_takeCompares  w) (Go (0, [(12, 0), (9, 0)], [], w)) := by
  unfold fR_takeCompares
  refine pj_tgd (fun h1 => ?_)
  refine pj_map (fun k => pj_aload_n hM (pc := 0) dX7_takeCompares_0 rfl rfl (pj_getF hM (pc := 1) (t := 31) dX7_takeCompares_1 fl_X7_15 (by decide) rfl rfl (pj_aload_n hM (pc := 4) dX7_takeCompares_4 rfl rfl (pj_gf hM (pc := 5) (t := 0) dX7_takeCompares_5 fl_X7_73 (by decide) rfl 11 rfl (pj_ial hM (pc := 8) dX7_takeCompares_8 ki_31 (by decide) h1 (pj_iconst hM (pc := 9) dX7_takeCompares_9 (by decide) k)))))) ?_
  refine pj_tif (fun h2 => ?_) (fun h2 => ?_)
  · refine pj_map (fun k => pj_ic_ne_f hM (pc := 10) 29 dX7_takeCompares_10 rfl (fun q => q h2) (pj_aload_n hM (pc := 13) dX7_takeCompares_13 rfl rfl (pj_getF hM (pc := 14) (t := 33) dX7_takeCompares_14 fl_X7_22 (by decide) rfl rfl (pj_aload_n hM (pc := 17) dX7_takeCompares_17 rfl rfl (pj_gf hM (pc := 18) (t := 0) dX7_takeCompares_18 fl_X7_73 (by decide) rfl 11 rfl (pj_lal hM (pc := 21) dX7_takeCompares_21 kl_33 (by decide) h1 (pj_ldc2 hM (pc := 22) (z := 59) dX7_takeCompares_22 kn_X7_109 rfl (by decide) (pj_lcmp hM (pc := 25) dX7_takeCompares_25 k)))))))) ?_
    refine pj_tif (fun h3 => ?_) (fun h3 => ?_)
    · refine pj_map (fun k => pj_if_ne_f hM (pc := 26) 37 dX7_takeCompares_26 rfl (fun q => q h3) (pj_kill hM [true, false] (lls' := [(12, 0), (9, 0)]) rfl k)) ?_
      exact tR_takeCompares_29 hM w _ h0
    refine pj_tbind (fun p4 h5 => ?_)
    exact pj_tret (fun hr => pj_if_ne_t hM (pc := 26) dX7_takeCompares_26 rfl h3 (pj_aload_n hM (pc := 37) dX7_takeCompares_37 rfl rfl (pj_getF hM (pc := 38) (t := 33) dX7_takeCompares_38 fl_X7_22 (by decide) rfl rfl (pj_aload_n hM (pc := 41) dX7_takeCompares_41 rfl rfl (pj_gf hM (pc := 42) (t := 0) dX7_takeCompares_42 fl_X7_73 (by decide) rfl 11 rfl (pj_lal hM (pc := 45) dX7_takeCompares_45 kl_33 (by decide) h1 (pj_l2i hM (pc := 46) dX7_takeCompares_46 (pj_istore_n hM (pc := 47) dX7_takeCompares_47 (by decide) (lls' := [(12, 0), (0, (pj_wr (w 33 0 (w 12 0 11))))]) rfl (pj_aload_n hM (pc := 48) dX7_takeCompares_48 rfl rfl (pj_cVv hM (pc := 49) (cR_advance w p4 h5) dX7_takeCompares_49 mf_X7_advance mv_X7_advance ml_X7_106 kc_12 rfl rfl (by decide) rfl rfl (pj_iload_n hM (pc := 52) dX7_takeCompares_52 rfl (pj_ret hM (pc := 53) dX7_takeCompares_53 ⟨_, rfl⟩ (h0 (((pj_wr (w 33 0 (w 12 0 11))), p4)) hr) rfl))))))))))))
  refine pj_map (fun k => pj_ic_ne_t hM (pc := 10) dX7_takeCompares_10 rfl h2 (pj_kill hM [true, false] (lls' := [(12, 0), (9, 0)]) rfl k)) ?_
  exact tR_takeCompares_29 hM w _ h0
theorem cR_takeCompares   (w : pj_W) (r : Int × pj_W) (h : fR_takeCompares  w = some r) : pj_Cn l yX7_takeCompares cX7_takeCompares 2 (some .int) 1 21 true g [(12, 0)] w ((some (0, r.1) : Option pj_V), r.2) :=
  pj_Cn_of rfl (Nat.le_of_ble_eq_true rfl) (lls := [(12, 0), (9, 0)]) rfl (fun Go hM => tR_takeCompares hM w (fun x => ((some (0, x.1) : Option pj_V), x.2) = ((some (0, r.1) : Option pj_V), r.2)) (fun r h => h) r h rfl)
noncomputable def fDT_takeLeads  (w : pj_W) : Option (Int × pj_W) :=
  (fR_takeFinder (w 14 0 3) w).bind fun p1 => (if p1.1 = (-1) then (some ((0, p1.2))) else ((fR_takeCompares p1.2).bind fun p4 => (if p4.1 = (-1) then (some ((0, p4.2))) else ((fR_takeNumber 0 9999 p4.2).bind fun p7 => (if p7.1 = (-1) then (some ((0, p7.2))) else ((fDT_add 25 p1.1 p7.1 p4.1 p7.2).bind fun p10 => (if p10.1 = 0 then (some ((0, p10.2))) else (some ((1, p10.2))))))))))
theorem tDT_takeLeads {Go : pj_C → Prop} (hM : pj_M l yX3_takeLeads cX3_takeLeads 4 (some .boolean) 3 63 true g n0 o Go)  (w : pj_W)  (R : Int × pj_W → Prop) (h0 : ∀ r, R (r) → ((some (0, r.1) : Option pj_V), r.2) = o) : pj_TG R (fDT_takeLeads  w) (Go (0, [(14, 0), (9, 0), (9, 0), (9, 0)], [], w)) := by
  unfold fDT_takeLeads
  refine pj_tbind (fun p1 h2 => ?_)
  refine pj_map (fun k => pj_aload_n hM (pc := 0) dX3_takeLeads_0 rfl rfl (pj_getF hM (pc := 1) (t := 12) dX3_takeLeads_1 fl_X3_15 (by decide) rfl rfl (pj_aload_n hM (pc := 4) dX3_takeLeads_4 rfl rfl (pj_gf hM (pc := 5) (t := 19) dX3_takeLeads_5 fl_X3_19 (by decide) rfl 3 rfl (pj_cV hM (pc := 8) (cR_takeFinder (w 14 0 3) w p1 h2) dX3_takeLeads_8 mf_X7_takeFinder mv_X7_takeFinder ml_X3_115 kc_12 rfl rfl (by decide) rfl rfl (pj_istore_n hM (pc := 11) dX3_takeLeads_11 (by decide) (lls' := [(14, 0), (0, p1.1), (9, 0), (9, 0)]) rfl (pj_iload_n hM (pc := 12) dX3_takeLeads_12 rfl (pj_iconst hM (pc := 13) dX3_takeLeads_13 (by decide) k)))))))) ?_
  refine pj_tif (fun h3 => ?_) (fun h3 => ?_)
  · exact pj_tret (fun hr => pj_ic_ne_f hM (pc := 14) 19 dX3_takeLeads_14 rfl (fun q => q h3) (pj_iconst hM (pc := 17) dX3_takeLeads_17 (by decide) (pj_ret hM (pc := 18) dX3_takeLeads_18 ⟨_, rfl, Or.inl rfl⟩ (h0 ((0, p1.2)) hr) rfl)))
  refine pj_tbind (fun p4 h5 => ?_)
  refine pj_map (fun k => pj_ic_ne_t hM (pc := 14) dX3_takeLeads_14 rfl h3 (pj_aload_n hM (pc := 19) dX3_takeLeads_19 rfl rfl (pj_getF hM (pc := 20) (t := 12) dX3_takeLeads_20 fl_X3_15 (by decide) rfl rfl (pj_cV hM (pc := 23) (cR_takeCompares p1.2 p4 h5) dX3_takeLeads_23 mf_X7_takeCompares mv_X7_takeCompares ml_X3_139 kc_12 rfl rfl (by decide) rfl rfl (pj_istore_n hM (pc := 26) dX3_takeLeads_26 (by decide) (lls' := [(14, 0), (0, p1.1), (0, p4.1), (9, 0)]) rfl (pj_iload_n hM (pc := 27) dX3_takeLeads_27 rfl (pj_iconst hM (pc := 28) dX3_takeLeads_28 (by decide) k))))))) ?_
  refine pj_tif (fun h6 => ?_) (fun h6 => ?_)
  · exact pj_tret (fun hr => pj_ic_ne_f hM (pc := 29) 34 dX3_takeLeads_29 rfl (fun q => q h6) (pj_iconst hM (pc := 32) dX3_takeLeads_32 (by decide) (pj_ret hM (pc := 33) dX3_takeLeads_33 ⟨_, rfl, Or.inl rfl⟩ (h0 ((0, p4.2)) hr) rfl)))
  refine pj_tbind (fun p7 h8 => ?_)
  refine pj_map (fun k => pj_ic_ne_t hM (pc := 29) dX3_takeLeads_29 rfl h6 (pj_aload_n hM (pc := 34) dX3_takeLeads_34 rfl rfl (pj_getF hM (pc := 35) (t := 12) dX3_takeLeads_35 fl_X3_15 (by decide) rfl rfl (pj_iconst hM (pc := 38) dX3_takeLeads_38 (by decide) (pj_sipush hM (pc := 39) dX3_takeLeads_39 (by decide) (pj_cV hM (pc := 42) (cR_takeNumber 0 9999 p4.2 p7 h8) dX3_takeLeads_42 mf_X7_takeNumber mv_X7_takeNumber ml_X3_128 kc_12 rfl rfl (by decide) rfl rfl (pj_istore_n hM (pc := 45) dX3_takeLeads_45 (by decide) (lls' := [(14, 0), (0, p1.1), (0, p4.1), (0, p7.1)]) rfl (pj_iload_n hM (pc := 46) dX3_takeLeads_46 rfl (pj_iconst hM (pc := 47) dX3_takeLeads_47 (by decide) k))))))))) ?_
  refine pj_tif (fun h9 => ?_) (fun h9 => ?_)
  · exact pj_tret (fun hr => pj_ic_eq_t hM (pc := 48) dX3_takeLeads_48 rfl h9 (pj_iconst hM (pc := 67) dX3_takeLeads_67 (by decide) (pj_ret hM (pc := 68) dX3_takeLeads_68 ⟨_, rfl, Or.inl rfl⟩ (h0 ((0, p7.2)) hr) rfl)))
  refine pj_tbind (fun p10 h11 => ?_)
  refine pj_map (fun k => pj_ic_eq_f hM (pc := 48) 67 dX3_takeLeads_48 rfl h9 (pj_aload_n hM (pc := 51) dX3_takeLeads_51 rfl rfl (pj_bipush hM (pc := 52) dX3_takeLeads_52 (by decide) (pj_iload_n hM (pc := 54) dX3_takeLeads_54 rfl (pj_iload_n hM (pc := 55) dX3_takeLeads_55 rfl (pj_iload_n hM (pc := 56) dX3_takeLeads_56 rfl (pj_cV hM (pc := 57) (cDT_add 25 p1.1 p7.1 p4.1 p7.2 p10 h11) dX3_takeLeads_57 mf_X3_add mv_X3_add ml_X3_107 kc_14 rfl rfl (by decide) rfl rfl k))))))) ?_
  refine pj_tif (fun h12 => ?_) (fun h12 => ?_)
  · exact pj_tret (fun hr => pj_if_eq_t hM (pc := 60) dX3_takeLeads_60 rfl h12 (pj_iconst hM (pc := 67) dX3_takeLeads_67 (by decide) (pj_ret hM (pc := 68) dX3_takeLeads_68 ⟨_, rfl, Or.inl rfl⟩ (h0 ((0, p10.2)) hr) rfl)))
  exact pj_tret (fun hr => pj_if_eq_f hM (pc := 60) 67 dX3_takeLeads_60 rfl h12 (pj_iconst hM (pc := 63) dX3_takeLeads_63 (by decide) (pj_goto hM (pc := 64) dX3_takeLeads_64 rfl (pj_ret hM (pc := 68) dX3_takeLeads_68 ⟨_, rfl, Or.inr rfl⟩ (h0 ((1, p10.2)) hr) rfl))))
theorem cDT_takeLeads   (w : pj_W) (r : Int × pj_W) (h : fDT_takeLeads  w = some r) : pj_Cn l yX3_takeLeads cX3_takeLeads 4 (some .boolean) 3 63 true g [(14, 0)] w ((some (0, r.1) : Option pj_V), r.2) :=
  pj_Cn_of rfl (Nat.le_of_ble_eq_true rfl) (lls := [(14, 0), (9, 0), (9, 0), (9, 0)]) rfl (fun Go hM => tDT_takeLeads hM w (fun x => ((some (0, x.1) : Option pj_V), x.2) = ((some (0, r.1) : Option pj_V), r.2)) (fun r h => h) r h rfl)
noncomputable def fDT_takeOnFind (x1 : Int) (w : pj_W) : Option (Int × pj_W) :=
  (fR_takeFinder (w 14 0 3) w).bind fun p1 => (if p1.1 = (-1) then (some ((0, p1.2))) else ((fR_takeFindBehind 11 (p1.2 14 0 3) p1.2).bind fun p4 => (if p4.1 = (-1) then (some ((0, p4.2))) else ((fDT_add x1 p1.1 p4.1 0 p4.2).bind fun p7 => (if p7.1 = 0 then (some ((0, p7.2))) else (some ((1, p7.2))))))))
theorem tDT_takeOnFind {Go : pj_C → Prop} (hM : pj_M l yX3_takeOnFind cX3_takeOnFind 4 (some .boolean) 4 85 true g n0 o Go) (x1 : Int) (w : pj_W)  (R : Int × pj_W → Prop) (h0 : ∀ r, R (r) → ((some (0, r.1) : Option pj_V), r.2) = o) : pj_TG R (fDT_takeOnFind x1 w) (Go (0, [(14, 0), (0, x1), (9, 0), (9, 0)], [], w)) := by
  unfold fDT_takeOnFind
  refine pj_tbind (fun p1 h2 => ?_)
  refine pj_map (fun k => pj_aload_n hM (pc := 0) dX3_takeOnFind_0 rfl rfl (pj_getF hM (pc := 1) (t := 12) dX3_takeOnFind_1 fl_X3_15 (by decide) rfl rfl (pj_aload_n hM (pc := 4) dX3_takeOnFind_4 rfl rfl (pj_gf hM (pc := 5) (t := 19) dX3_takeOnFind_5 fl_X3_19 (by decide) rfl 3 rfl (pj_cV hM (pc := 8) (cR_takeFinder (w 14 0 3) w p1 h2) dX3_takeOnFind_8 mf_X7_takeFinder mv_X7_takeFinder ml_X3_115 kc_12 rfl rfl (by decide) rfl rfl (pj_istore_n hM (pc := 11) dX3_takeOnFind_11 (by decide) (lls' := [(14, 0), (0, x1), (0, p1.1), (9, 0)]) rfl (pj_iload_n hM (pc := 12) dX3_takeOnFind_12 rfl (pj_iconst hM (pc := 13) dX3_takeOnFind_13 (by decide) k)))))))) ?_
  refine pj_tif (fun h3 => ?_) (fun h3 => ?_)
  · exact pj_tret (fun hr => pj_ic_ne_f hM (pc := 14) 19 dX3_takeOnFind_14 rfl (fun q => q h3) (pj_iconst hM (pc := 17) dX3_takeOnFind_17 (by decide) (pj_ret hM (pc := 18) dX3_takeOnFind_18 ⟨_, rfl, Or.inl rfl⟩ (h0 ((0, p1.2)) hr) rfl)))
  refine pj_tbind (fun p4 h5 => ?_)
  refine pj_map (fun k => pj_ic_ne_t hM (pc := 14) dX3_takeOnFind_14 rfl h3 (pj_aload_n hM (pc := 19) dX3_takeOnFind_19 rfl rfl (pj_getF hM (pc := 20) (t := 12) dX3_takeOnFind_20 fl_X3_15 (by decide) rfl rfl (pj_bipush hM (pc := 23) dX3_takeOnFind_23 (by decide) (pj_aload_n hM (pc := 25) dX3_takeOnFind_25 rfl rfl (pj_gf hM (pc := 26) (t := 19) dX3_takeOnFind_26 fl_X3_19 (by decide) rfl 3 rfl (pj_cV hM (pc := 29) (cR_takeFindBehind 11 (p1.2 14 0 3) p1.2 p4 h5) dX3_takeOnFind_29 mf_X7_takeFindBehind mv_X7_takeFindBehind ml_X3_132 kc_12 rfl rfl (by decide) rfl rfl (pj_istore_n hM (pc := 32) dX3_takeOnFind_32 (by decide) (lls' := [(14, 0), (0, x1), (0, p1.1), (0, p4.1)]) rfl (pj_iload_n hM (pc := 33) dX3_takeOnFind_33 rfl (pj_iconst hM (pc := 34) dX3_takeOnFind_34 (by decide) k)))))))))) ?_
  refine pj_tif (fun h6 => ?_) (fun h6 => ?_)
  · exact pj_tret (fun hr => pj_ic_eq_t hM (pc := 35) dX3_takeOnFind_35 rfl h6 (pj_iconst hM (pc := 53) dX3_takeOnFind_53 (by decide) (pj_ret hM (pc := 54) dX3_takeOnFind_54 ⟨_, rfl, Or.inl rfl⟩ (h0 ((0, p4.2)) hr) rfl)))
  refine pj_tbind (fun p7 h8 => ?_)
  refine pj_map (fun k => pj_ic_eq_f hM (pc := 35) 53 dX3_takeOnFind_35 rfl h6 (pj_aload_n hM (pc := 38) dX3_takeOnFind_38 rfl rfl (pj_iload_n hM (pc := 39) dX3_takeOnFind_39 rfl (pj_iload_n hM (pc := 40) dX3_takeOnFind_40 rfl (pj_iload_n hM (pc := 41) dX3_takeOnFind_41 rfl (pj_iconst hM (pc := 42) dX3_takeOnFind_42 (by decide) (pj_cV hM (pc := 43) (cDT_add x1 p1.1 p4.1 0 p4.2 p7 h8) dX3_takeOnFind_43 mf_X3_add mv_X3_add ml_X3_107 kc_14 rfl rfl (by decide) rfl rfl k))))))) ?_
  refine pj_tif (fun h9 => ?_) (fun h9 => ?_)
  · exact pj_tret (fun hr => pj_if_eq_t hM (pc := 46) dX3_takeOnFind_46 rfl h9 (pj_iconst hM (pc := 53) dX3_takeOnFind_53 (by decide) (pj_ret hM (pc := 54) dX3_takeOnFind_54 ⟨_, rfl, Or.inl rfl⟩ (h0 ((0, p7.2)) hr) rfl)))
  exact pj_tret (fun hr => pj_if_eq_f hM (pc := 46) 53 dX3_takeOnFind_46 rfl h9 (pj_iconst hM (pc := 49) dX3_takeOnFind_49 (by decide) (pj_goto hM (pc := 50) dX3_takeOnFind_50 rfl (pj_ret hM (pc := 54) dX3_takeOnFind_54 ⟨_, rfl, Or.inr rfl⟩ (h0 ((1, p7.2)) hr) rfl))))
theorem cDT_takeOnFind (x1 : Int)  (w : pj_W) (r : Int × pj_W) (h : fDT_takeOnFind x1 w = some r) : pj_Cn l yX3_takeOnFind cX3_takeOnFind 4 (some .boolean) 4 85 true g [(14, 0), (0, x1)] w ((some (0, r.1) : Option pj_V), r.2) :=
  pj_Cn_of rfl (Nat.le_of_ble_eq_true rfl) (lls := [(14, 0), (0, x1), (9, 0), (9, 0)]) rfl (fun Go hM => tDT_takeOnFind hM x1 w (fun x => ((some (0, x.1) : Option pj_V), x.2) = ((some (0, r.1) : Option pj_V), r.2)) (fun r h => h) r h rfl)
noncomputable def fDT_takeOnlyNumber (x1 : Int) (x2 : Int) (x3 : Int) (w : pj_W) : Option (Int × pj_W) :=
  (fR_takeNumber x2 x3 w).bind fun p1 => (if p1.1 = (-1) then (some ((0, p1.2))) else ((fDT_add x1 p1.1 0 0 p1.2).bind fun p4 => (if p4.1 = 0 then (some ((0, p4.2))) else (some ((1, p4.2))))))
theorem tDT_takeOnlyNumber {Go : pj_C → Prop} (hM : pj_M l yX3_takeOnlyNumber cX3_takeOnlyNumber 5 (some .boolean) 2 48 true g n0 o Go) (x1 : Int) (x2 : Int) (x3 : Int) (w : pj_W)  (R : Int × pj_W → Prop) (h0 : ∀ r, R (r) → ((some (0, r.1) : Option pj_V), r.2) = o) : pj_TG R (fDT_takeOnlyNumber x1 x2 x3 w) (Go (0, [(14, 0), (0, x1), (0, x2), (0, x3), (9, 0)], [], w)) := by
  unfold fDT_takeOnlyNumber
  refine pj_tbind (fun p1 h2 => ?_)
  refine pj_map (fun k => pj_aload_n hM (pc := 0) dX3_takeOnlyNumber_0 rfl rfl (pj_getF hM (pc := 1) (t := 12) dX3_takeOnlyNumber_1 fl_X3_15 (by decide) rfl rfl (pj_iload_n hM (pc := 4) dX3_takeOnlyNumber_4 rfl (pj_iload_n hM (pc := 5) dX3_takeOnlyNumber_5 rfl (pj_cV hM (pc := 6) (cR_takeNumber x2 x3 w p1 h2) dX3_takeOnlyNumber_6 mf_X7_takeNumber mv_X7_takeNumber ml_X3_128 kc_12 rfl rfl (by decide) rfl rfl (pj_istore hM (pc := 9) dX3_takeOnlyNumber_9 (by decide) (lls' := [(14, 0), (0, x1), (0, x2), (0, x3), (0, p1.1)]) rfl (pj_iload hM (pc := 11) dX3_takeOnlyNumber_11 rfl (pj_iconst hM (pc := 13) dX3_takeOnlyNumber_13 (by decide) k)))))))) ?_
  refine pj_tif (fun h3 => ?_) (fun h3 => ?_)
  · exact pj_tret (fun hr => pj_ic_eq_t hM (pc := 14) dX3_takeOnlyNumber_14 rfl h3 (pj_iconst hM (pc := 33) dX3_takeOnlyNumber_33 (by decide) (pj_ret hM (pc := 34) dX3_takeOnlyNumber_34 ⟨_, rfl, Or.inl rfl⟩ (h0 ((0, p1.2)) hr) rfl)))
  refine pj_tbind (fun p4 h5 => ?_)
  refine pj_map (fun k => pj_ic_eq_f hM (pc := 14) 33 dX3_takeOnlyNumber_14 rfl h3 (pj_aload_n hM (pc := 17) dX3_takeOnlyNumber_17 rfl rfl (pj_iload_n hM (pc := 18) dX3_takeOnlyNumber_18 rfl (pj_iload hM (pc := 19) dX3_takeOnlyNumber_19 rfl (pj_iconst hM (pc := 21) dX3_takeOnlyNumber_21 (by decide) (pj_iconst hM (pc := 22) dX3_takeOnlyNumber_22 (by decide) (pj_cV hM (pc := 23) (cDT_add x1 p1.1 0 0 p1.2 p4 h5) dX3_takeOnlyNumber_23 mf_X3_add mv_X3_add ml_X3_107 kc_14 rfl rfl (by decide) rfl rfl k))))))) ?_
  refine pj_tif (fun h6 => ?_) (fun h6 => ?_)
  · exact pj_tret (fun hr => pj_if_eq_t hM (pc := 26) dX3_takeOnlyNumber_26 rfl h6 (pj_iconst hM (pc := 33) dX3_takeOnlyNumber_33 (by decide) (pj_ret hM (pc := 34) dX3_takeOnlyNumber_34 ⟨_, rfl, Or.inl rfl⟩ (h0 ((0, p4.2)) hr) rfl)))
  exact pj_tret (fun hr => pj_if_eq_f hM (pc := 26) 33 dX3_takeOnlyNumber_26 rfl h6 (pj_iconst hM (pc := 29) dX3_takeOnlyNumber_29 (by decide) (pj_goto hM (pc := 30) dX3_takeOnlyNumber_30 rfl (pj_ret hM (pc := 34) dX3_takeOnlyNumber_34 ⟨_, rfl, Or.inr rfl⟩ (h0 ((1, p4.2)) hr) rfl))))
theorem cDT_takeOnlyNumber (x1 : Int) (x2 : Int) (x3 : Int)  (w : pj_W) (r : Int × pj_W) (h : fDT_takeOnlyNumber x1 x2 x3 w = some r) : pj_Cn l yX3_takeOnlyNumber cX3_takeOnlyNumber 5 (some .boolean) 2 48 true g [(14, 0), (0, x1), (0, x2), (0, x3)] w ((some (0, r.1) : Option pj_V), r.2) :=
  pj_Cn_of rfl (Nat.le_of_ble_eq_true rfl) (lls := [(14, 0), (0, x1), (0, x2), (0, x3), (9, 0)]) rfl (fun Go hM => tDT_takeOnlyNumber hM x1 x2 x3 w (fun x => ((some (0, x.1) : Option pj_V), x.2) = ((some (0, r.1) : Option pj_V), r.2)) (fun r h => h) r h rfl)
noncomputable def fDT_takeWait  (w : pj_W) : Option (Int × pj_W) :=
  (fR_takeFinder (w 14 0 3) w).bind fun p1 => (if p1.1 = (-1) then (some ((0, p1.2))) else ((fR_takeNumber 1 240 p1.2).bind fun p4 => (if p4.1 = (-1) then (some ((0, p4.2))) else ((fDT_add 20 p1.1 p4.1 0 p4.2).bind fun p7 => (if p7.1 = 0 then (some ((0, p7.2))) else (some ((1, p7.2))))))))
theorem tDT_takeWait {Go : pj_C → Prop} (hM : pj_M l yX3_takeWait cX3_takeWait 3 (some .boolean) 3 63 true g n0 o Go)  (w : pj_W)  (R : Int × pj_W → Prop) (h0 : ∀ r, R (r) → ((some (0, r.1) : Option pj_V), r.2) = o) : pj_TG R (fDT_takeWait  w) (Go (0, [(14, 0), (9, 0), (9, 0)], [], w)) := by
  unfold fDT_takeWait
  refine pj_tbind (fun p1 h2 => ?_)
  refine pj_map (fun k => pj_aload_n hM (pc := 0) dX3_takeWait_0 rfl rfl (pj_getF hM (pc := 1) (t := 12) dX3_takeWait_1 fl_X3_15 (by decide) rfl rfl (pj_aload_n hM (pc := 4) dX3_takeWait_4 rfl rfl (pj_gf hM (pc := 5) (t := 19) dX3_takeWait_5 fl_X3_19 (by decide) rfl 3 rfl (pj_cV hM (pc := 8) (cR_takeFinder (w 14 0 3) w p1 h2) dX3_takeWait_8 mf_X7_takeFinder mv_X7_takeFinder ml_X3_115 kc_12 rfl rfl (by decide) rfl rfl (pj_istore_n hM (pc := 11) dX3_takeWait_11 (by decide) (lls' := [(14, 0), (0, p1.1), (9, 0)]) rfl (pj_iload_n hM (pc := 12) dX3_takeWait_12 rfl (pj_iconst hM (pc := 13) dX3_takeWait_13 (by decide) k)))))))) ?_
  refine pj_tif (fun h3 => ?_) (fun h3 => ?_)
  · exact pj_tret (fun hr => pj_ic_ne_f hM (pc := 14) 19 dX3_takeWait_14 rfl (fun q => q h3) (pj_iconst hM (pc := 17) dX3_takeWait_17 (by decide) (pj_ret hM (pc := 18) dX3_takeWait_18 ⟨_, rfl, Or.inl rfl⟩ (h0 ((0, p1.2)) hr) rfl)))
  refine pj_tbind (fun p4 h5 => ?_)
  refine pj_map (fun k => pj_ic_ne_t hM (pc := 14) dX3_takeWait_14 rfl h3 (pj_aload_n hM (pc := 19) dX3_takeWait_19 rfl rfl (pj_getF hM (pc := 20) (t := 12) dX3_takeWait_20 fl_X3_15 (by decide) rfl rfl (pj_iconst hM (pc := 23) dX3_takeWait_23 (by decide) (pj_sipush hM (pc := 24) dX3_takeWait_24 (by decide) (pj_cV hM (pc := 27) (cR_takeNumber 1 240 p1.2 p4 h5) dX3_takeWait_27 mf_X7_takeNumber mv_X7_takeNumber ml_X3_128 kc_12 rfl rfl (by decide) rfl rfl (pj_istore_n hM (pc := 30) dX3_takeWait_30 (by decide) (lls' := [(14, 0), (0, p1.1), (0, p4.1)]) rfl (pj_iload_n hM (pc := 31) dX3_takeWait_31 rfl (pj_iconst hM (pc := 32) dX3_takeWait_32 (by decide) k))))))))) ?_
  refine pj_tif (fun h6 => ?_) (fun h6 => ?_)
  · exact pj_tret (fun hr => pj_ic_eq_t hM (pc := 33) dX3_takeWait_33 rfl h6 (pj_iconst hM (pc := 52) dX3_takeWait_52 (by decide) (pj_ret hM (pc := 53) dX3_takeWait_53 ⟨_, rfl, Or.inl rfl⟩ (h0 ((0, p4.2)) hr) rfl)))
  refine pj_tbind (fun p7 h8 => ?_)
  refine pj_map (fun k => pj_ic_eq_f hM (pc := 33) 52 dX3_takeWait_33 rfl h6 (pj_aload_n hM (pc := 36) dX3_takeWait_36 rfl rfl (pj_bipush hM (pc := 37) dX3_takeWait_37 (by decide) (pj_iload_n hM (pc := 39) dX3_takeWait_39 rfl (pj_iload_n hM (pc := 40) dX3_takeWait_40 rfl (pj_iconst hM (pc := 41) dX3_takeWait_41 (by decide) (pj_cV hM (pc := 42) (cDT_add 20 p1.1 p4.1 0 p4.2 p7 h8) dX3_takeWait_42 mf_X3_add mv_X3_add ml_X3_107 kc_14 rfl rfl (by decide) rfl rfl k))))))) ?_
  refine pj_tif (fun h9 => ?_) (fun h9 => ?_)
  · exact pj_tret (fun hr => pj_if_eq_t hM (pc := 45) dX3_takeWait_45 rfl h9 (pj_iconst hM (pc := 52) dX3_takeWait_52 (by decide) (pj_ret hM (pc := 53) dX3_takeWait_53 ⟨_, rfl, Or.inl rfl⟩ (h0 ((0, p7.2)) hr) rfl)))
  exact pj_tret (fun hr => pj_if_eq_f hM (pc := 45) 52 dX3_takeWait_45 rfl h9 (pj_iconst hM (pc := 48) dX3_takeWait_48 (by decide) (pj_goto hM (pc := 49) dX3_takeWait_49 rfl (pj_ret hM (pc := 53) dX3_takeWait_53 ⟨_, rfl, Or.inr rfl⟩ (h0 ((1, p7.2)) hr) rfl))))
theorem cDT_takeWait   (w : pj_W) (r : Int × pj_W) (h : fDT_takeWait  w = some r) : pj_Cn l yX3_takeWait cX3_takeWait 3 (some .boolean) 3 63 true g [(14, 0)] w ((some (0, r.1) : Option pj_V), r.2) :=
  pj_Cn_of rfl (Nat.le_of_ble_eq_true rfl) (lls := [(14, 0), (9, 0), (9, 0)]) rfl (fun Go hM => tDT_takeWait hM w (fun x => ((some (0, x.1) : Option pj_V), x.2) = ((some (0, r.1) : Option pj_V), r.2)) (fun r h => h) r h rfl)
noncomputable def fDT_takeStep_205 (x1 : Int) (w : pj_W) : Option (Int × pj_W) :=
  (fDT_add x1 0 0 0 w).bind fun p1 => (if p1.1 = 0 ∨ p1.1 = 1 then (some ((p1.1, p1.2))) else none)
noncomputable def fDT_takeStep (x1 : Int) (w : pj_W) : Option (Int × pj_W) :=
  if x1 = (-1) then (some ((0, w))) else if x1 = 0 then (fDT_takeStep_205 x1 w) else if x1 = 1 then (fDT_takeStep_205 x1 w) else if x1 = 2 then (fDT_takeStep_205 x1 w) else if x1 = 3 then (fDT_takeStep_205 x1 w) else if x1 = 4 then (fDT_takeStep_205 x1 w) else if x1 = 5 then (fDT_takeStep_205 x1 w) else if x1 = 6 then (fDT_takeStep_205 x1 w) else if x1 = 7 then (fDT_takeStep_205 x1 w) else if x1 = 8 then (fDT_takeStep_205 x1 w) else if x1 = 9 then (fDT_takeStep_205 x1 w) else if x1 = 10 then (fDT_takeStep_205 x1 w) else if x1 = 11 then (fDT_takeStep_205 x1 w) else if x1 = 12 then (fDT_takeStep_205 x1 w) else if x1 = 13 then (fDT_takeStep_205 x1 w) else if x1 = 14 then (fDT_takeStep_205 x1 w) else if x1 = 15 then ((fDT_takeOnFind 15 w).bind fun p18 => (if p18.1 = 0 ∨ p18.1 = 1 then (some ((p18.1, p18.2))) else none)) else if x1 = 16 then (fDT_takeStep_205 x1 w) else if x1 = 17 then (fDT_takeStep_205 x1 w) else if x1 = 18 then ((fDT_takeGo w).bind fun p24 => (if p24.1 = 0 ∨ p24.1 = 1 then (some ((p24.1, p24.2))) else none)) else if x1 = 19 then ((fDT_takeOnFind 19 w).bind fun p28 => (if p28.1 = 0 ∨ p28.1 = 1 then (some ((p28.1, p28.2))) else none)) else if x1 = 20 then ((fDT_takeWait w).bind fun p32 => (if p32.1 = 0 ∨ p32.1 = 1 then (some ((p32.1, p32.2))) else none)) else if x1 = 21 then ((fDT_takeOnFind 21 w).bind fun p36 => (if p36.1 = 0 ∨ p36.1 = 1 then (some ((p36.1, p36.2))) else none)) else if x1 = 22 then ((fDT_takeOnlyNumber 22 0 16 w).bind fun p40 => (if p40.1 = 0 ∨ p40.1 = 1 then (some ((p40.1, p40.2))) else none)) else if x1 = 23 then ((fDT_takeOnlyNumber 23 0 40 w).bind fun p44 => (if p44.1 = 0 ∨ p44.1 = 1 then (some ((p44.1, p44.2))) else none)) else if x1 = 24 then (fDT_takeStep_205 x1 w) else if x1 = 25 then ((fDT_takeLeads w).bind fun p49 => (if p49.1 = 0 ∨ p49.1 = 1 then (some ((p49.1, p49.2))) else none)) else if x1 = 26 then ((fDT_takeFree w).bind fun p53 => (if p53.1 = 0 ∨ p53.1 = 1 then (some ((p53.1, p53.2))) else none)) else if x1 = 27 then ((fDT_takeOnlyNumber 27 1 99 w).bind fun p57 => (if p57.1 = 0 ∨ p57.1 = 1 then (some ((p57.1, p57.2))) else none)) else (fDT_takeStep_205 x1 w)
theorem tDT_takeStep_205 {Go : pj_C → Prop} (hM : pj_M l yX3_takeStep cX3_takeStep 2 (some .boolean) 5 108 true g n0 o Go) (x1 : Int) (w : pj_W)  (R : Int × pj_W → Prop) (h0 : ∀ r, R (r) → ((some (0, r.1) : Option pj_V), r.2) = o) : pj_TG R (fDT_takeStep_205 x1 w) (Go (205, [(14, 0), (0, x1)], [], w)) := by
  unfold fDT_takeStep_205
  refine pj_tbind (fun p1 h2 => ?_)
  refine pj_tgd (fun h3 => ?_)
  exact pj_tret (fun hr => pj_aload_n hM (pc := 205) dX3_takeStep_205 rfl rfl (pj_iload_n hM (pc := 206) dX3_takeStep_206 rfl (pj_iconst hM (pc := 207) dX3_takeStep_207 (by decide) (pj_iconst hM (pc := 208) dX3_takeStep_208 (by decide) (pj_iconst hM (pc := 209) dX3_takeStep_209 (by decide) (pj_cV hM (pc := 210) (cDT_add x1 0 0 0 w p1 h2) dX3_takeStep_210 mf_X3_add mv_X3_add ml_X3_107 kc_14 rfl rfl (by decide) rfl rfl (pj_ret hM (pc := 213) dX3_takeStep_213 ⟨_, rfl, h3⟩ (h0 ((p1.1, p1.2)) hr) rfl)))))))
theorem tDT_takeStep {Go : pj_C → Prop} (hM : pj_M l yX3_takeStep cX3_takeStep 2 (some .boolean) 5 108 true g n0 o Go) (x1 : Int) (w : pj_W)  (R : Int × pj_W → Prop) (h0 : ∀ r, R (r) → ((some (0, r.1) : Option pj_V), r.2) = o) : pj_TG R (fDT_takeStep x1 w) (Go (0, [(14, 0), (0, x1)], [], w)) := by
  unfold fDT_takeStep
  refine pj_map (fun k => pj_iload_n hM (pc := 0) dX3_takeStep_0 rfl k) ?_
  refine pj_tif (fun h1 => ?_) (fun h1 => ?_)
  · exact pj_tret (fun hr => pj_table hM (pc := 1) (tgt := 132) dX3_takeStep_1 (by decide) (by rw [h1]; decide) (pj_iconst hM (pc := 132) dX3_takeStep_132 (by decide) (pj_ret hM (pc := 133) dX3_takeStep_133 ⟨_, rfl, Or.inl rfl⟩ (h0 ((0, w)) hr) rfl)))
  refine pj_tif (fun h2 => ?_) (fun h2 => ?_)
  · refine pj_map (fun k => pj_table hM (pc := 1) (tgt := 205) dX3_takeStep_1 (by decide) (by rw [h2]; decide) (pj_kill hM [true, true] (lls' := [(14, 0), (0, x1)]) rfl k)) ?_
    exact tDT_takeStep_205 hM x1 w _ h0
  refine pj_tif (fun h3 => ?_) (fun h3 => ?_)
  · refine pj_map (fun k => pj_table hM (pc := 1) (tgt := 205) dX3_takeStep_1 (by decide) (by rw [h3]; decide) (pj_kill hM [true, true] (lls' := [(14, 0), (0, x1)]) rfl k)) ?_
    exact tDT_takeStep_205 hM x1 w _ h0
  refine pj_tif (fun h4 => ?_) (fun h4 => ?_)
  · refine pj_map (fun k => pj_table hM (pc := 1) (tgt := 205) dX3_takeStep_1 (by decide) (by rw [h4]; decide) (pj_kill hM [true, true] (lls' := [(14, 0), (0, x1)]) rfl k)) ?_
    exact tDT_takeStep_205 hM x1 w _ h0
  refine pj_tif (fun h5 => ?_) (fun h5 => ?_)
  · refine pj_map (fun k => pj_table hM (pc := 1) (tgt := 205) dX3_takeStep_1 (by decide) (by rw [h5]; decide) (pj_kill hM [true, true] (lls' := [(14, 0), (0, x1)]) rfl k)) ?_
    exact tDT_takeStep_205 hM x1 w _ h0
  refine pj_tif (fun h6 => ?_) (fun h6 => ?_)
  · refine pj_map (fun k => pj_table hM (pc := 1) (tgt := 205) dX3_takeStep_1 (by decide) (by rw [h6]; decide) (pj_kill hM [true, true] (lls' := [(14, 0), (0, x1)]) rfl k)) ?_
    exact tDT_takeStep_205 hM x1 w _ h0
  refine pj_tif (fun h7 => ?_) (fun h7 => ?_)
  · refine pj_map (fun k => pj_table hM (pc := 1) (tgt := 205) dX3_takeStep_1 (by decide) (by rw [h7]; decide) (pj_kill hM [true, true] (lls' := [(14, 0), (0, x1)]) rfl k)) ?_
    exact tDT_takeStep_205 hM x1 w _ h0
  refine pj_tif (fun h8 => ?_) (fun h8 => ?_)
  · refine pj_map (fun k => pj_table hM (pc := 1) (tgt := 205) dX3_takeStep_1 (by decide) (by rw [h8]; decide) (pj_kill hM [true, true] (lls' := [(14, 0), (0, x1)]) rfl k)) ?_
    exact tDT_takeStep_205 hM x1 w _ h0
  refine pj_tif (fun h9 => ?_) (fun h9 => ?_)
  · refine pj_map (fun k => pj_table hM (pc := 1) (tgt := 205) dX3_takeStep_1 (by decide) (by rw [h9]; decide) (pj_kill hM [true, true] (lls' := [(14, 0), (0, x1)]) rfl k)) ?_
    exact tDT_takeStep_205 hM x1 w _ h0
  refine pj_tif (fun h10 => ?_) (fun h10 => ?_)
  · refine pj_map (fun k => pj_table hM (pc := 1) (tgt := 205) dX3_takeStep_1 (by decide) (by rw [h10]; decide) (pj_kill hM [true, true] (lls' := [(14, 0), (0, x1)]) rfl k)) ?_
    exact tDT_takeStep_205 hM x1 w _ h0
  refine pj_tif (fun h11 => ?_) (fun h11 => ?_)
  · refine pj_map (fun k => pj_table hM (pc := 1) (tgt := 205) dX3_takeStep_1 (by decide) (by rw [h11]; decide) (pj_kill hM [true, true] (lls' := [(14, 0), (0, x1)]) rfl k)) ?_
    exact tDT_takeStep_205 hM x1 w _ h0
  refine pj_tif (fun h12 => ?_) (fun h12 => ?_)
  · refine pj_map (fun k => pj_table hM (pc := 1) (tgt := 205) dX3_takeStep_1 (by decide) (by rw [h12]; decide) (pj_kill hM [true, true] (lls' := [(14, 0), (0, x1)]) rfl k)) ?_
    exact tDT_takeStep_205 hM x1 w _ h0
  refine pj_tif (fun h13 => ?_) (fun h13 => ?_)
  · refine pj_map (fun k => pj_table hM (pc := 1) (tgt := 205) dX3_takeStep_1 (by decide) (by rw [h13]; decide) (pj_kill hM [true, true] (lls' := [(14, 0), (0, x1)]) rfl k)) ?_
    exact tDT_takeStep_205 hM x1 w _ h0
  refine pj_tif (fun h14 => ?_) (fun h14 => ?_)
  · refine pj_map (fun k => pj_table hM (pc := 1) (tgt := 205) dX3_takeStep_1 (by decide) (by rw [h14]; decide) (pj_kill hM [true, true] (lls' := [(14, 0), (0, x1)]) rfl k)) ?_
    exact tDT_takeStep_205 hM x1 w _ h0
  refine pj_tif (fun h15 => ?_) (fun h15 => ?_)
  · refine pj_map (fun k => pj_table hM (pc := 1) (tgt := 205) dX3_takeStep_1 (by decide) (by rw [h15]; decide) (pj_kill hM [true, true] (lls' := [(14, 0), (0, x1)]) rfl k)) ?_
    exact tDT_takeStep_205 hM x1 w _ h0
  refine pj_tif (fun h16 => ?_) (fun h16 => ?_)
  · refine pj_map (fun k => pj_table hM (pc := 1) (tgt := 205) dX3_takeStep_1 (by decide) (by rw [h16]; decide) (pj_kill hM [true, true] (lls' := [(14, 0), (0, x1)]) rfl k)) ?_
    exact tDT_takeStep_205 hM x1 w _ h0
  refine pj_tif (fun h17 => ?_) (fun h17 => ?_)
  · refine pj_tbind (fun p18 h19 => ?_)
    refine pj_tgd (fun h20 => ?_)
    exact pj_tret (fun hr => pj_table hM (pc := 1) (tgt := 193) dX3_takeStep_1 (by decide) (by rw [h17]; decide) (pj_aload_n hM (pc := 193) dX3_takeStep_193 rfl rfl (pj_bipush hM (pc := 194) dX3_takeStep_194 (by decide) (pj_cV hM (pc := 196) (cDT_takeOnFind 15 w p18 h19) dX3_takeStep_196 mf_X3_takeOnFind mv_X3_takeOnFind ml_X3_91 kc_14 rfl rfl (by decide) rfl rfl (pj_ret hM (pc := 199) dX3_takeStep_199 ⟨_, rfl, h20⟩ (h0 ((p18.1, p18.2)) hr) rfl)))))
  refine pj_tif (fun h21 => ?_) (fun h21 => ?_)
  · refine pj_map (fun k => pj_table hM (pc := 1) (tgt := 205) dX3_takeStep_1 (by decide) (by rw [h21]; decide) (pj_kill hM [true, true] (lls' := [(14, 0), (0, x1)]) rfl k)) ?_
    exact tDT_takeStep_205 hM x1 w _ h0
  refine pj_tif (fun h22 => ?_) (fun h22 => ?_)
  · refine pj_map (fun k => pj_table hM (pc := 1) (tgt := 205) dX3_takeStep_1 (by decide) (by rw [h22]; decide) (pj_kill hM [true, true] (lls' := [(14, 0), (0, x1)]) rfl k)) ?_
    exact tDT_takeStep_205 hM x1 w _ h0
  refine pj_tif (fun h23 => ?_) (fun h23 => ?_)
  · refine pj_tbind (fun p24 h25 => ?_)
    refine pj_tgd (fun h26 => ?_)
    exact pj_tret (fun hr => pj_table hM (pc := 1) (tgt := 134) dX3_takeStep_1 (by decide) (by rw [h23]; decide) (pj_aload_n hM (pc := 134) dX3_takeStep_134 rfl rfl (pj_cV hM (pc := 135) (cDT_takeGo w p24 h25) dX3_takeStep_135 mf_X3_takeGo mv_X3_takeGo ml_X3_88 kc_14 rfl rfl (by decide) rfl rfl (pj_ret hM (pc := 138) dX3_takeStep_138 ⟨_, rfl, h26⟩ (h0 ((p24.1, p24.2)) hr) rfl))))
  refine pj_tif (fun h27 => ?_) (fun h27 => ?_)
  · refine pj_tbind (fun p28 h29 => ?_)
    refine pj_tgd (fun h30 => ?_)
    exact pj_tret (fun hr => pj_table hM (pc := 1) (tgt := 139) dX3_takeStep_1 (by decide) (by rw [h27]; decide) (pj_aload_n hM (pc := 139) dX3_takeStep_139 rfl rfl (pj_bipush hM (pc := 140) dX3_takeStep_140 (by decide) (pj_cV hM (pc := 142) (cDT_takeOnFind 19 w p28 h29) dX3_takeStep_142 mf_X3_takeOnFind mv_X3_takeOnFind ml_X3_91 kc_14 rfl rfl (by decide) rfl rfl (pj_ret hM (pc := 145) dX3_takeStep_145 ⟨_, rfl, h30⟩ (h0 ((p28.1, p28.2)) hr) rfl)))))
  refine pj_tif (fun h31 => ?_) (fun h31 => ?_)
  · refine pj_tbind (fun p32 h33 => ?_)
    refine pj_tgd (fun h34 => ?_)
    exact pj_tret (fun hr => pj_table hM (pc := 1) (tgt := 146) dX3_takeStep_1 (by decide) (by rw [h31]; decide) (pj_aload_n hM (pc := 146) dX3_takeStep_146 rfl rfl (pj_cV hM (pc := 147) (cDT_takeWait w p32 h33) dX3_takeStep_147 mf_X3_takeWait mv_X3_takeWait ml_X3_94 kc_14 rfl rfl (by decide) rfl rfl (pj_ret hM (pc := 150) dX3_takeStep_150 ⟨_, rfl, h34⟩ (h0 ((p32.1, p32.2)) hr) rfl))))
  refine pj_tif (fun h35 => ?_) (fun h35 => ?_)
  · refine pj_tbind (fun p36 h37 => ?_)
    refine pj_tgd (fun h38 => ?_)
    exact pj_tret (fun hr => pj_table hM (pc := 1) (tgt := 151) dX3_takeStep_1 (by decide) (by rw [h35]; decide) (pj_aload_n hM (pc := 151) dX3_takeStep_151 rfl rfl (pj_bipush hM (pc := 152) dX3_takeStep_152 (by decide) (pj_cV hM (pc := 154) (cDT_takeOnFind 21 w p36 h37) dX3_takeStep_154 mf_X3_takeOnFind mv_X3_takeOnFind ml_X3_91 kc_14 rfl rfl (by decide) rfl rfl (pj_ret hM (pc := 157) dX3_takeStep_157 ⟨_, rfl, h38⟩ (h0 ((p36.1, p36.2)) hr) rfl)))))
  refine pj_tif (fun h39 => ?_) (fun h39 => ?_)
  · refine pj_tbind (fun p40 h41 => ?_)
    refine pj_tgd (fun h42 => ?_)
    exact pj_tret (fun hr => pj_table hM (pc := 1) (tgt := 158) dX3_takeStep_1 (by decide) (by rw [h39]; decide) (pj_aload_n hM (pc := 158) dX3_takeStep_158 rfl rfl (pj_bipush hM (pc := 159) dX3_takeStep_159 (by decide) (pj_iconst hM (pc := 161) dX3_takeStep_161 (by decide) (pj_bipush hM (pc := 162) dX3_takeStep_162 (by decide) (pj_cV hM (pc := 164) (cDT_takeOnlyNumber 22 0 16 w p40 h41) dX3_takeStep_164 mf_X3_takeOnlyNumber mv_X3_takeOnlyNumber ml_X3_97 kc_14 rfl rfl (by decide) rfl rfl (pj_ret hM (pc := 167) dX3_takeStep_167 ⟨_, rfl, h42⟩ (h0 ((p40.1, p40.2)) hr) rfl)))))))
  refine pj_tif (fun h43 => ?_) (fun h43 => ?_)
  · refine pj_tbind (fun p44 h45 => ?_)
    refine pj_tgd (fun h46 => ?_)
    exact pj_tret (fun hr => pj_table hM (pc := 1) (tgt := 168) dX3_takeStep_1 (by decide) (by rw [h43]; decide) (pj_aload_n hM (pc := 168) dX3_takeStep_168 rfl rfl (pj_bipush hM (pc := 169) dX3_takeStep_169 (by decide) (pj_iconst hM (pc := 171) dX3_takeStep_171 (by decide) (pj_bipush hM (pc := 172) dX3_takeStep_172 (by decide) (pj_cV hM (pc := 174) (cDT_takeOnlyNumber 23 0 40 w p44 h45) dX3_takeStep_174 mf_X3_takeOnlyNumber mv_X3_takeOnlyNumber ml_X3_97 kc_14 rfl rfl (by decide) rfl rfl (pj_ret hM (pc := 177) dX3_takeStep_177 ⟨_, rfl, h46⟩ (h0 ((p44.1, p44.2)) hr) rfl)))))))
  refine pj_tif (fun h47 => ?_) (fun h47 => ?_)
  · refine pj_map (fun k => pj_table hM (pc := 1) (tgt := 205) dX3_takeStep_1 (by decide) (by rw [h47]; decide) (pj_kill hM [true, true] (lls' := [(14, 0), (0, x1)]) rfl k)) ?_
    exact tDT_takeStep_205 hM x1 w _ h0
  refine pj_tif (fun h48 => ?_) (fun h48 => ?_)
  · refine pj_tbind (fun p49 h50 => ?_)
    refine pj_tgd (fun h51 => ?_)
    exact pj_tret (fun hr => pj_table hM (pc := 1) (tgt := 188) dX3_takeStep_1 (by decide) (by rw [h48]; decide) (pj_aload_n hM (pc := 188) dX3_takeStep_188 rfl rfl (pj_cV hM (pc := 189) (cDT_takeLeads w p49 h50) dX3_takeStep_189 mf_X3_takeLeads mv_X3_takeLeads ml_X3_101 kc_14 rfl rfl (by decide) rfl rfl (pj_ret hM (pc := 192) dX3_takeStep_192 ⟨_, rfl, h51⟩ (h0 ((p49.1, p49.2)) hr) rfl))))
  refine pj_tif (fun h52 => ?_) (fun h52 => ?_)
  · refine pj_tbind (fun p53 h54 => ?_)
    refine pj_tgd (fun h55 => ?_)
    exact pj_tret (fun hr => pj_table hM (pc := 1) (tgt := 200) dX3_takeStep_1 (by decide) (by rw [h52]; decide) (pj_aload_n hM (pc := 200) dX3_takeStep_200 rfl rfl (pj_cV hM (pc := 201) (cDT_takeFree w p53 h54) dX3_takeStep_201 mf_X3_takeFree mv_X3_takeFree ml_X3_104 kc_14 rfl rfl (by decide) rfl rfl (pj_ret hM (pc := 204) dX3_takeStep_204 ⟨_, rfl, h55⟩ (h0 ((p53.1, p53.2)) hr) rfl))))
  refine pj_tif (fun h56 => ?_) (fun h56 => ?_)
  · refine pj_tbind (fun p57 h58 => ?_)
    refine pj_tgd (fun h59 => ?_)
    exact pj_tret (fun hr => pj_table hM (pc := 1) (tgt := 178) dX3_takeStep_1 (by decide) (by rw [h56]; decide) (pj_aload_n hM (pc := 178) dX3_takeStep_178 rfl rfl (pj_bipush hM (pc := 179) dX3_takeStep_179 (by decide) (pj_iconst hM (pc := 181) dX3_takeStep_181 (by decide) (pj_bipush hM (pc := 182) dX3_takeStep_182 (by decide) (pj_cV hM (pc := 184) (cDT_takeOnlyNumber 27 1 99 w p57 h58) dX3_takeStep_184 mf_X3_takeOnlyNumber mv_X3_takeOnlyNumber ml_X3_97 kc_14 rfl rfl (by decide) rfl rfl (pj_ret hM (pc := 187) dX3_takeStep_187 ⟨_, rfl, h59⟩ (h0 ((p57.1, p57.2)) hr) rfl)))))))
  refine pj_map (fun k => pj_table hM (pc := 1) (tgt := 205) dX3_takeStep_1 (by decide) (by have e9 : x1 < (-1) ∨ 27 < x1 := (by omega); unfold pj_tab; rw [if_pos e9]; decide) (pj_kill hM [true, true] (lls' := [(14, 0), (0, x1)]) rfl k)) ?_
  exact tDT_takeStep_205 hM x1 w _ h0
theorem cDT_takeStep (x1 : Int)  (w : pj_W) (r : Int × pj_W) (h : fDT_takeStep x1 w = some r) : pj_Cn l yX3_takeStep cX3_takeStep 2 (some .boolean) 5 108 true g [(14, 0), (0, x1)] w ((some (0, r.1) : Option pj_V), r.2) :=
  pj_Cn_of rfl (Nat.le_of_ble_eq_true rfl) (lls := [(14, 0), (0, x1)]) rfl (fun Go hM => tDT_takeStep hM x1 w (fun x => ((some (0, x.1) : Option pj_V), x.2) = ((some (0, r.1) : Option pj_V), r.2)) (fun r h => h) r h rfl)
noncomputable def fDT_takeDays_99 (x4 : Int) (s0 : Int) (w : pj_W) : Option ((Int × Int × pj_W) ⊕ (Int × pj_W)) :=
  some (Sum.inl (s0, (pj_wr (x4 + 1)), w))
noncomputable def fDT_takeDays_98 (x4 : Int) (w : pj_W) : Option ((Int × Int × pj_W) ⊕ (Int × pj_W)) :=
  fDT_takeDays_99 x4 0 w
noncomputable def fDT_takeDays_82 (x4 : Int) (w : pj_W) : Option ((Int × Int × pj_W) ⊕ (Int × pj_W)) :=
  (fR_takeSign 59 w).bind fun p1 => (if p1.1 = 0 then (fDT_takeDays_98 x4 p1.2) else (fDT_takeDays_99 x4 1 p1.2))
noncomputable def fDT_takeDays_126 (x3 : Int) (w : pj_W) : Option (Int × pj_W) :=
  if 0 ≤ (w 14 0 4) then (if x3 = 0 ∨ x3 = 1 then (some ((x3, (pj_set w 24 (w 14 0 4) 5 x3)))) else none) else none
noncomputable def fDT_takeDays_106 (x3 : Int) (w : pj_W) : Option (Int × pj_W) :=
  if x3 = 0 then (fDT_takeDays_126 x3 w) else (if (w 14 0 2) ≤ 0 then (fDT_takeDays_126 x3 w) else ((fR_fail 2 w).bind fun p3 => (fDT_takeDays_126 p3.1 p3.2)))
noncomputable def fDT_takeDays_27b  (x3 : Int) (x4 : Int) (w : pj_W) : Option ((Int × Int × pj_W) ⊕ (Int × pj_W)) :=
  if 300 ≤ x4 then ((fDT_takeDays_106 x3 w).map Sum.inr) else (if x3 = 0 then ((fDT_takeDays_106 x3 w).map Sum.inr) else ((fR_isOver w).bind fun p3 => (if p3 = 0 then ((fR_wordHere w).bind fun p6 => (if p6 = 28 then ((fDT_takeEnd w).bind fun p9 => (if p9.1 = 0 then (fDT_takeDays_98 x4 p9.2) else (fDT_takeDays_82 x4 p9.2))) else ((fDT_beginStep w).bind fun p12 => ((fDT_takeStep p12.1 p12.2).bind fun p14 => (if p14.1 = 0 then (fDT_takeDays_98 x4 p14.2) else (fDT_takeDays_82 x4 p14.2)))))) else ((fDT_takeDays_106 x3 w).map Sum.inr))))
noncomputable def fDT_takeDays_27  (s : (Int × Int × pj_W)) : Option (Int × pj_W) := pj_Lp (fun s : (Int × Int × pj_W) => fDT_takeDays_27b  s.1 s.2.1 s.2.2) s
noncomputable def fDT_takeDays (x1 : Int) (x2 : Int) (w : pj_W) : Option (Int × pj_W) :=
  if 0 ≤ ((pj_set (pj_set w 14 0 3 x1) 14 0 4 x2) 14 0 4) then ((fD_clear ((pj_set (pj_set w 14 0 3 x1) 14 0 4 x2) 14 0 4) (pj_set (pj_set w 14 0 3 x1) 14 0 4 x2)).bind fun p2 => (fDT_takeDays_27 (1, 0, (pj_set p2 14 0 2 0)))) else none
theorem tDT_takeDays_99 {Go : pj_C → Prop} (hM : pj_M l yX3_takeDays cX3_takeDays 5 (some .boolean) 6 129 true g n0 o Go) (x4 : Int) (s0 : Int) (w : pj_W)  (R : (Int × Int × pj_W) ⊕ (Int × pj_W) → Prop) (h0 : ∀ r, R (Sum.inr (r)) → ((some (0, r.1) : Option pj_V), r.2) = o) (hk27 : ∀ s, R (Sum.inl s) → Go (27, [(14, 0), (9, 0), (9, 0), (0, s.1), (0, s.2.1)], [], s.2.2)) : pj_TG R (fDT_takeDays_99 x4 s0 w) (Go (99, [(14, 0), (9, 0), (9, 0), (9, 0), (0, x4)], [(0, s0)], w)) := by
  unfold fDT_takeDays_99
  exact pj_tret (fun hr => pj_istore_n hM (pc := 99) dX3_takeDays_99 (by decide) (lls' := [(14, 0), (9, 0), (9, 0), (0, s0), (0, x4)]) rfl (pj_iinc hM (pc := 100) dX3_takeDays_100 rfl (by decide) (lls' := [(14, 0), (9, 0), (9, 0), (0, s0), (0, (pj_wr (x4 + 1)))]) rfl (pj_goto hM (pc := 103) dX3_takeDays_103 rfl (pj_kill hM [true, false, false, true, true] (lls' := [(14, 0), (9, 0), (9, 0), (0, s0), (0, (pj_wr (x4 + 1)))]) rfl ((hk27 _ hr))))))
theorem tDT_takeDays_98 {Go : pj_C → Prop} (hM : pj_M l yX3_takeDays cX3_takeDays 5 (some .boolean) 6 129 true g n0 o Go) (x4 : Int) (w : pj_W)  (R : (Int × Int × pj_W) ⊕ (Int × pj_W) → Prop) (h0 : ∀ r, R (Sum.inr (r)) → ((some (0, r.1) : Option pj_V), r.2) = o) (hk27 : ∀ s, R (Sum.inl s) → Go (27, [(14, 0), (9, 0), (9, 0), (0, s.1), (0, s.2.1)], [], s.2.2)) : pj_TG R (fDT_takeDays_98 x4 w) (Go (98, [(14, 0), (9, 0), (9, 0), (9, 0), (0, x4)], [], w)) := by
  unfold fDT_takeDays_98
  refine pj_map (fun k => pj_iconst hM (pc := 98) dX3_takeDays_98 (by decide) (pj_kill hM [true, false, false, false, true] (lls' := [(14, 0), (9, 0), (9, 0), (9, 0), (0, x4)]) rfl k)) ?_
  exact tDT_takeDays_99 hM x4 0 w _ h0 hk27
theorem tDT_takeDays_82 {Go : pj_C → Prop} (hM : pj_M l yX3_takeDays cX3_takeDays 5 (some .boolean) 6 129 true g n0 o Go) (x4 : Int) (w : pj_W)  (R : (Int × Int × pj_W) ⊕ (Int × pj_W) → Prop) (h0 : ∀ r, R (Sum.inr (r)) → ((some (0, r.1) : Option pj_V), r.2) = o) (hk27 : ∀ s, R (Sum.inl s) → Go (27, [(14, 0), (9, 0), (9, 0), (0, s.1), (0, s.2.1)], [], s.2.2)) : pj_TG R (fDT_takeDays_82 x4 w) (Go (82, [(14, 0), (9, 0), (9, 0), (9, 0), (0, x4)], [], w)) := by
  unfold fDT_takeDays_82
  refine pj_tbind (fun p1 h2 => ?_)
  refine pj_map (fun k => pj_aload_n hM (pc := 82) dX3_takeDays_82 rfl rfl (pj_getF hM (pc := 83) (t := 12) dX3_takeDays_83 fl_X3_15 (by decide) rfl rfl (pj_bipush hM (pc := 86) dX3_takeDays_86 (by decide) (pj_cV hM (pc := 88) (cR_takeSign 59 w p1 h2) dX3_takeDays_88 mf_X7_takeSign mv_X7_takeSign ml_X3_58 kc_12 rfl rfl (by decide) rfl rfl k)))) ?_
  refine pj_tif (fun h3 => ?_) (fun h3 => ?_)
  · refine pj_map (fun k => pj_if_eq_t hM (pc := 91) dX3_takeDays_91 rfl h3 (pj_kill hM [true, false, false, false, true] (lls' := [(14, 0), (9, 0), (9, 0), (9, 0), (0, x4)]) rfl k)) ?_
    exact tDT_takeDays_98 hM x4 p1.2 _ h0 hk27
  refine pj_map (fun k => pj_if_eq_f hM (pc := 91) 98 dX3_takeDays_91 rfl h3 (pj_iconst hM (pc := 94) dX3_takeDays_94 (by decide) (pj_goto hM (pc := 95) dX3_takeDays_95 rfl (pj_kill hM [true, false, false, false, true] (lls' := [(14, 0), (9, 0), (9, 0), (9, 0), (0, x4)]) rfl k)))) ?_
  exact tDT_takeDays_99 hM x4 1 p1.2 _ h0 hk27
theorem tDT_takeDays_126 {Go : pj_C → Prop} (hM : pj_M l yX3_takeDays cX3_takeDays 5 (some .boolean) 6 129 true g n0 o Go) (x3 : Int) (w : pj_W)  (R : Int × pj_W → Prop) (h0 : ∀ r, R (r) → ((some (0, r.1) : Option pj_V), r.2) = o) : pj_TG R (fDT_takeDays_126 x3 w) (Go (126, [(14, 0), (9, 0), (9, 0), (0, x3), (9, 0)], [], w)) := by
  unfold fDT_takeDays_126
  refine pj_tgd (fun h1 => ?_)
  refine pj_tgd (fun h2 => ?_)
  exact pj_tret (fun hr => pj_aload_n hM (pc := 126) dX3_takeDays_126 rfl rfl (pj_gf hM (pc := 127) (t := 24) dX3_takeDays_127 fl_X3_23 (by decide) rfl 4 rfl (pj_iload_n hM (pc := 130) dX3_takeDays_130 rfl (pj_pf hM (pc := 131) dX3_takeDays_131 fl_X3_65 h1 rfl (fun _ => h2) (by decide) (fun _ => rfl) 5 rfl (pj_iload_n hM (pc := 134) dX3_takeDays_134 rfl (pj_ret hM (pc := 135) dX3_takeDays_135 ⟨_, rfl, h2⟩ (h0 ((x3, (pj_set w 24 (w 14 0 4) 5 x3))) hr) rfl))))))
theorem tDT_takeDays_106 {Go : pj_C → Prop} (hM : pj_M l yX3_takeDays cX3_takeDays 5 (some .boolean) 6 129 true g n0 o Go) (x3 : Int) (w : pj_W)  (R : Int × pj_W → Prop) (h0 : ∀ r, R (r) → ((some (0, r.1) : Option pj_V), r.2) = o) : pj_TG R (fDT_takeDays_106 x3 w) (Go (106, [(14, 0), (9, 0), (9, 0), (0, x3), (9, 0)], [], w)) := by
  unfold fDT_takeDays_106
  refine pj_map (fun k => pj_iload_n hM (pc := 106) dX3_takeDays_106 rfl k) ?_
  refine pj_tif (fun h1 => ?_) (fun h1 => ?_)
  · refine pj_map (fun k => pj_if_eq_t hM (pc := 107) dX3_takeDays_107 rfl h1 (pj_kill hM [true, false, false, true, false] (lls' := [(14, 0), (9, 0), (9, 0), (0, x3), (9, 0)]) rfl k)) ?_
    exact tDT_takeDays_126 hM x3 w _ h0
  refine pj_map (fun k => pj_if_eq_f hM (pc := 107) 126 dX3_takeDays_107 rfl h1 (pj_aload_n hM (pc := 110) dX3_takeDays_110 rfl rfl (pj_gf hM (pc := 111) (t := 0) dX3_takeDays_111 fl_X3_32 (by decide) rfl 2 rfl k))) ?_
  refine pj_tif (fun h2 => ?_) (fun h2 => ?_)
  · refine pj_map (fun k => pj_if_le_t hM (pc := 114) dX3_takeDays_114 rfl h2 (pj_kill hM [true, false, false, true, false] (lls' := [(14, 0), (9, 0), (9, 0), (0, x3), (9, 0)]) rfl k)) ?_
    exact tDT_takeDays_126 hM x3 w _ h0
  refine pj_tbind (fun p3 h4 => ?_)
  refine pj_map (fun k => pj_if_le_f hM (pc := 114) 126 dX3_takeDays_114 rfl h2 (pj_aload_n hM (pc := 117) dX3_takeDays_117 rfl rfl (pj_getF hM (pc := 118) (t := 12) dX3_takeDays_118 fl_X3_15 (by decide) rfl rfl (pj_iconst hM (pc := 121) dX3_takeDays_121 (by decide) (pj_cV hM (pc := 122) (cR_fail 2 w p3 h4) dX3_takeDays_122 mf_X7_fail mv_X7_fail ml_X3_62 kc_12 rfl rfl (by decide) rfl rfl (pj_istore_n hM (pc := 125) dX3_takeDays_125 (by decide) (lls' := [(14, 0), (9, 0), (9, 0), (0, p3.1), (9, 0)]) rfl (pj_kill hM [true, false, false, true, false] (lls' := [(14, 0), (9, 0), (9, 0), (0, p3.1), (9, 0)]) rfl k))))))) ?_
  exact tDT_takeDays_126 hM p3.1 p3.2 _ h0
theorem tDT_takeDays_27b {Go : pj_C → Prop} (hM : pj_M l yX3_takeDays cX3_takeDays 5 (some .boolean) 6 129 true g n0 o Go)  (x3 : Int) (x4 : Int) (w : pj_W)  (R : (Int × Int × pj_W) ⊕ (Int × pj_W) → Prop) (h0 : ∀ r, R (Sum.inr (r)) → ((some (0, r.1) : Option pj_V), r.2) = o) (hk27 : ∀ s, R (Sum.inl s) → Go (27, [(14, 0), (9, 0), (9, 0), (0, s.1), (0, s.2.1)], [], s.2.2)) : pj_TG R (fDT_takeDays_27b  x3 x4 w) (Go (27, [(14, 0), (9, 0), (9, 0), (0, x3), (0, x4)], [], w)) := by
  unfold fDT_takeDays_27b
  refine pj_map (fun k => pj_iload hM (pc := 27) dX3_takeDays_27 rfl (pj_sipush hM (pc := 29) dX3_takeDays_29 (by decide) k)) ?_
  refine pj_tif (fun h1 => ?_) (fun h1 => ?_)
  · refine pj_tmap ?_
    refine pj_map (fun k => pj_ic_ge_t hM (pc := 32) dX3_takeDays_32 rfl h1 (pj_kill hM [true, false, false, true, false] (lls' := [(14, 0), (9, 0), (9, 0), (0, x3), (9, 0)]) rfl k)) ?_
    exact tDT_takeDays_106 hM x3 w _ h0
  refine pj_map (fun k => pj_ic_ge_f hM (pc := 32) 106 dX3_takeDays_32 rfl h1 (pj_iload_n hM (pc := 35) dX3_takeDays_35 rfl k)) ?_
  refine pj_tif (fun h2 => ?_) (fun h2 => ?_)
  · refine pj_tmap ?_
    refine pj_map (fun k => pj_if_eq_t hM (pc := 36) dX3_takeDays_36 rfl h2 (pj_kill hM [true, false, false, true, false] (lls' := [(14, 0), (9, 0), (9, 0), (0, x3), (9, 0)]) rfl k)) ?_
    exact tDT_takeDays_106 hM x3 w _ h0
  refine pj_tbind (fun p3 h4 => ?_)
  refine pj_map (fun k => pj_if_eq_f hM (pc := 36) 106 dX3_takeDays_36 rfl h2 (pj_aload_n hM (pc := 39) dX3_takeDays_39 rfl rfl (pj_getF hM (pc := 40) (t := 12) dX3_takeDays_40 fl_X3_15 (by decide) rfl rfl (pj_cV hM (pc := 43) (cR_isOver w p3 h4) dX3_takeDays_43 mf_X7_isOver mv_X7_isOver ml_X3_36 kc_12 rfl rfl (by decide) rfl rfl k)))) ?_
  refine pj_tif (fun h5 => ?_) (fun h5 => ?_)
  · refine pj_tbind (fun p6 h7 => ?_)
    refine pj_map (fun k => pj_if_ne_f hM (pc := 46) 106 dX3_takeDays_46 rfl (fun q => q h5) (pj_aload_n hM (pc := 49) dX3_takeDays_49 rfl rfl (pj_getF hM (pc := 50) (t := 12) dX3_takeDays_50 fl_X3_15 (by decide) rfl rfl (pj_cV hM (pc := 53) (cR_wordHere w p6 h7) dX3_takeDays_53 mf_X7_wordHere mv_X7_wordHere ml_X3_42 kc_12 rfl rfl (by decide) rfl rfl (pj_bipush hM (pc := 56) dX3_takeDays_56 (by decide) k))))) ?_
    refine pj_tif (fun h8 => ?_) (fun h8 => ?_)
    · refine pj_tbind (fun p9 h10 => ?_)
      refine pj_map (fun k => pj_ic_ne_f hM (pc := 58) 71 dX3_takeDays_58 rfl (fun q => q h8) (pj_aload_n hM (pc := 61) dX3_takeDays_61 rfl rfl (pj_cV hM (pc := 62) (cDT_takeEnd w p9 h10) dX3_takeDays_62 mf_X3_takeEnd mv_X3_takeEnd ml_X3_48 kc_14 rfl rfl (by decide) rfl rfl k))) ?_
      refine pj_tif (fun h11 => ?_) (fun h11 => ?_)
      · refine pj_map (fun k => pj_if_eq_t hM (pc := 65) dX3_takeDays_65 rfl h11 (pj_kill hM [true, false, false, false, true] (lls' := [(14, 0), (9, 0), (9, 0), (9, 0), (0, x4)]) rfl k)) ?_
        exact tDT_takeDays_98 hM x4 p9.2 _ h0 hk27
      refine pj_map (fun k => pj_if_eq_f hM (pc := 65) 98 dX3_takeDays_65 rfl h11 (pj_goto hM (pc := 68) dX3_takeDays_68 rfl (pj_kill hM [true, false, false, false, true] (lls' := [(14, 0), (9, 0), (9, 0), (9, 0), (0, x4)]) rfl k))) ?_
      exact tDT_takeDays_82 hM x4 p9.2 _ h0 hk27
    refine pj_tbind (fun p12 h13 => ?_)
    refine pj_tbind (fun p14 h15 => ?_)
    refine pj_map (fun k => pj_ic_ne_t hM (pc := 58) dX3_takeDays_58 rfl h8 (pj_aload_n hM (pc := 71) dX3_takeDays_71 rfl rfl (pj_aload_n hM (pc := 72) dX3_takeDays_72 rfl rfl (pj_cV hM (pc := 73) (cDT_beginStep w p12 h13) dX3_takeDays_73 mf_X3_beginStep mv_X3_beginStep ml_X3_51 kc_14 rfl rfl (by decide) rfl rfl (pj_cV hM (pc := 76) (cDT_takeStep p12.1 p12.2 p14 h15) dX3_takeDays_76 mf_X3_takeStep mv_X3_takeStep ml_X3_54 kc_14 rfl rfl (by decide) rfl rfl k))))) ?_
    refine pj_tif (fun h16 => ?_) (fun h16 => ?_)
    · refine pj_map (fun k => pj_if_eq_t hM (pc := 79) dX3_takeDays_79 rfl h16 (pj_kill hM [true, false, false, false, true] (lls' := [(14, 0), (9, 0), (9, 0), (9, 0), (0, x4)]) rfl k)) ?_
      exact tDT_takeDays_98 hM x4 p14.2 _ h0 hk27
    refine pj_map (fun k => pj_if_eq_f hM (pc := 79) 98 dX3_takeDays_79 rfl h16 (pj_kill hM [true, false, false, false, true] (lls' := [(14, 0), (9, 0), (9, 0), (9, 0), (0, x4)]) rfl k)) ?_
    exact tDT_takeDays_82 hM x4 p14.2 _ h0 hk27
  refine pj_tmap ?_
  refine pj_map (fun k => pj_if_ne_t hM (pc := 46) dX3_takeDays_46 rfl h5 (pj_kill hM [true, false, false, true, false] (lls' := [(14, 0), (9, 0), (9, 0), (0, x3), (9, 0)]) rfl k)) ?_
  exact tDT_takeDays_106 hM x3 w _ h0
theorem tDT_takeDays_27 {Go : pj_C → Prop} (hM : pj_M l yX3_takeDays cX3_takeDays 5 (some .boolean) 6 129 true g n0 o Go)   (R : Int × pj_W → Prop) (h0 : ∀ r, R (r) → ((some (0, r.1) : Option pj_V), r.2) = o) (s : (Int × Int × pj_W)) : pj_TG R (fDT_takeDays_27  s) (Go (27, [(14, 0), (9, 0), (9, 0), (0, s.1), (0, s.2.1)], [], s.2.2)) := by
  unfold fDT_takeDays_27
  exact pj_tLp (G := fun s : (Int × Int × pj_W) => Go (27, [(14, 0), (9, 0), (9, 0), (0, s.1), (0, s.2.1)], [], s.2.2)) (fun s => tDT_takeDays_27b hM  s.1 s.2.1 s.2.2  _ (fun r h => h0 r h)  (fun s h => h)) s
theorem tDT_takeDays {Go : pj_C → Prop} (hM : pj_M l yX3_takeDays cX3_takeDays 5 (some .boolean) 6 129 true g n0 o Go) (x1 : Int) (x2 : Int) (w : pj_W)  (R : Int × pj_W → Prop) (h0 : ∀ r, R (r) → ((some (0, r.1) : Option pj_V), r.2) = o) : pj_TG R (fDT_takeDays x1 x2 w) (Go (0, [(14, 0), (19, x1), (24, x2), (9, 0), (9, 0)], [], w)) := by
  unfold fDT_takeDays
  refine pj_tgd (fun h1 => ?_)
  refine pj_tbind (fun p2 h3 => ?_)
  refine pj_map (fun k => pj_aload_n hM (pc := 0) dX3_takeDays_0 rfl rfl (pj_aload_n hM (pc := 1) dX3_takeDays_1 rfl rfl (pj_pf hM (pc := 2) dX3_takeDays_2 fl_X3_19 (by decide) rfl (fun h => absurd h (by decide)) (by decide) (fun _ => rfl) 3 rfl (pj_aload_n hM (pc := 5) dX3_takeDays_5 rfl rfl (pj_aload_n hM (pc := 6) dX3_takeDays_6 rfl rfl (pj_pf hM (pc := 7) dX3_takeDays_7 fl_X3_23 (by decide) rfl (fun h => absurd h (by decide)) (by decide) (fun _ => rfl) 4 rfl (pj_aload_n hM (pc := 10) dX3_takeDays_10 rfl rfl (pj_gf hM (pc := 11) (t := 24) dX3_takeDays_11 fl_X3_23 (by decide) rfl 4 rfl (pj_cVv hM (pc := 14) (cD_clear ((pj_set (pj_set w 14 0 3 x1) 14 0 4 x2) 14 0 4) h1 (pj_set (pj_set w 14 0 3 x1) 14 0 4 x2) p2 h3) dX3_takeDays_14 mf_X2_clear mv_X2_clear ml_X3_27 kc_24 rfl rfl h1 rfl rfl (pj_aload_n hM (pc := 17) dX3_takeDays_17 rfl rfl (pj_iconst hM (pc := 18) dX3_takeDays_18 (by decide) (pj_pf hM (pc := 19) dX3_takeDays_19 fl_X3_32 (by decide) rfl (fun h => absurd h (by decide)) (by decide) (fun _ => rfl) 2 rfl (pj_iconst hM (pc := 22) dX3_takeDays_22 (by decide) (pj_istore_n hM (pc := 23) dX3_takeDays_23 (by decide) (lls' := [(14, 0), (19, x1), (24, x2), (0, 1), (9, 0)]) rfl (pj_iconst hM (pc := 24) dX3_takeDays_24 (by decide) (pj_istore hM (pc := 25) dX3_takeDays_25 (by decide) (lls' := [(14, 0), (19, x1), (24, x2), (0, 1), (0, 0)]) rfl (pj_kill hM [true, false, false, true, true] (lls' := [(14, 0), (9, 0), (9, 0), (0, 1), (0, 0)]) rfl k))))))))))))))))) ?_
  exact tDT_takeDays_27 hM _ h0 _
theorem cDT_takeDays (x1 : Int) (x2 : Int)  (w : pj_W) (r : Int × pj_W) (h : fDT_takeDays x1 x2 w = some r) : pj_Cn l yX3_takeDays cX3_takeDays 5 (some .boolean) 6 129 true g [(14, 0), (19, x1), (24, x2)] w ((some (0, r.1) : Option pj_V), r.2) :=
  pj_Cn_of rfl (Nat.le_of_ble_eq_true rfl) (lls := [(14, 0), (19, x1), (24, x2), (9, 0), (9, 0)]) rfl (fun Go hM => tDT_takeDays hM x1 x2 w (fun x => ((some (0, x.1) : Option pj_V), x.2) = ((some (0, r.1) : Option pj_V), r.2)) (fun r h => h) r h rfl)
noncomputable def fX_days_22  (w : pj_W) : Option (Int × pj_W) :=
  (fX_refuse 1 w).bind fun p1 => (some ((p1.1, p1.2)))
noncomputable def fX_days (x1 : Int) (w : pj_W) : Option (Int × pj_W) :=
  if x1 < 0 then (fX_days_22 w) else (if (w 12 0 5) < x1 then (fX_days_22 w) else (if x1 ≤ 300 then ((fR_begin x1 w).bind fun p4 => ((fDT_takeDays (p4 10 0 10) (p4 10 0 13) p4).bind fun p6 => (if p6.1 = 0 then ((fX_refuse 9 p6.2).bind fun p9 => (some ((p9.1, p9.2)))) else (if 0 ≤ ((pj_set (pj_set p6.2 10 0 12 (p6.2 10 0 13)) 10 0 13 (p6.2 10 0 12)) 10 0 12) then ((fX_answer ((pj_set (pj_set p6.2 10 0 12 (p6.2 10 0 13)) 10 0 13 (p6.2 10 0 12)) 24 ((pj_set (pj_set p6.2 10 0 12 (p6.2 10 0 13)) 10 0 13 (p6.2 10 0 12)) 10 0 12) 6) (pj_set (pj_set p6.2 10 0 12 (p6.2 10 0 13)) 10 0 13 (p6.2 10 0 12))).bind fun p12 => (some ((p12.1, p12.2)))) else none)))) else (fX_days_22 w)))
theorem tX_days_22 {Go : pj_C → Prop} (hM : pj_M l yX11_days cX11_days 3 (some .int) 7 153 true g n0 o Go)  (w : pj_W)  (R : Int × pj_W → Prop) (h0 : ∀ r, R (r) → ((some (0, r.1) : Option pj_V), r.2) = o) : pj_TG R (fX_days_22  w) (Go (22, [(10, 0), (9, 0), (9, 0)], [], w)) := by
  unfold fX_days_22
  refine pj_tbind (fun p1 h2 => ?_)
  exact pj_tret (fun hr => pj_aload_n hM (pc := 22) dX11_days_22 rfl rfl (pj_iconst hM (pc := 23) dX11_days_23 (by decide) (pj_cV hM (pc := 24) (cX_refuse 1 w p1 h2) dX11_days_24 mf_X11_refuse mv_X11_refuse ml_X11_100 kc_10 rfl rfl (by decide) rfl rfl (pj_ret hM (pc := 27) dX11_days_27 ⟨_, rfl⟩ (h0 ((p1.1, p1.2)) hr) rfl))))
theorem tX_days {Go : pj_C → Prop} (hM : pj_M l yX11_days cX11_days 3 (some .int) 7 153 true g n0 o Go) (x1 : Int) (w : pj_W)  (R : Int × pj_W → Prop) (h0 : ∀ r, R (r) → ((some (0, r.1) : Option pj_V), r.2) = o) : pj_TG R (fX_days x1 w) (Go (0, [(10, 0), (0, x1), (9, 0)], [], w)) := by
  unfold fX_days
  refine pj_map (fun k => pj_iload_n hM (pc := 0) dX11_days_0 rfl k) ?_
  refine pj_tif (fun h1 => ?_) (fun h1 => ?_)
  · refine pj_map (fun k => pj_if_lt_t hM (pc := 1) dX11_days_1 rfl h1 (pj_kill hM [true, false, false] (lls' := [(10, 0), (9, 0), (9, 0)]) rfl k)) ?_
    exact tX_days_22 hM w _ h0
  refine pj_map (fun k => pj_if_lt_f hM (pc := 1) 22 dX11_days_1 rfl h1 (pj_iload_n hM (pc := 4) dX11_days_4 rfl (pj_aload_n hM (pc := 5) dX11_days_5 rfl rfl (pj_getF hM (pc := 6) (t := 12) dX11_days_6 fl_X11_18 (by decide) rfl rfl (pj_gf hM (pc := 9) (t := 0) dX11_days_9 fl_X11_162 (by decide) rfl 5 rfl k))))) ?_
  refine pj_tif (fun h2 => ?_) (fun h2 => ?_)
  · refine pj_map (fun k => pj_ic_gt_t hM (pc := 12) dX11_days_12 rfl h2 (pj_kill hM [true, false, false] (lls' := [(10, 0), (9, 0), (9, 0)]) rfl k)) ?_
    exact tX_days_22 hM w _ h0
  refine pj_map (fun k => pj_ic_gt_f hM (pc := 12) 22 dX11_days_12 rfl h2 (pj_iload_n hM (pc := 15) dX11_days_15 rfl (pj_sipush hM (pc := 16) dX11_days_16 (by decide) k))) ?_
  refine pj_tif (fun h3 => ?_) (fun h3 => ?_)
  · refine pj_tbind (fun p4 h5 => ?_)
    refine pj_tbind (fun p6 h7 => ?_)
    refine pj_map (fun k => pj_ic_le_t hM (pc := 19) dX11_days_19 rfl h3 (pj_aload_n hM (pc := 28) dX11_days_28 rfl rfl (pj_getF hM (pc := 29) (t := 12) dX11_days_29 fl_X11_18 (by decide) rfl rfl (pj_iload_n hM (pc := 32) dX11_days_32 rfl (pj_cVv hM (pc := 33) (cR_begin x1 w p4 h5) dX11_days_33 mf_X7_begin mv_X7_begin ml_X11_165 kc_12 rfl rfl (by decide) rfl rfl (pj_aload_n hM (pc := 36) dX11_days_36 rfl rfl (pj_getF hM (pc := 37) (t := 14) dX11_days_37 fl_X11_34 (by decide) rfl rfl (pj_aload_n hM (pc := 40) dX11_days_40 rfl rfl (pj_gf hM (pc := 41) (t := 19) dX11_days_41 fl_X11_69 (by decide) rfl 10 rfl (pj_aload_n hM (pc := 44) dX11_days_44 rfl rfl (pj_gf hM (pc := 45) (t := 24) dX11_days_45 fl_X11_81 (by decide) rfl 13 rfl (pj_cV hM (pc := 48) (cDT_takeDays (p4 10 0 10) (p4 10 0 13) p4 p6 h7) dX11_days_48 mf_X3_takeDays mv_X3_takeDays ml_X11_178 kc_14 rfl rfl (by decide) rfl rfl k)))))))))))) ?_
    refine pj_tif (fun h8 => ?_) (fun h8 => ?_)
    · refine pj_tbind (fun p9 h10 => ?_)
      exact pj_tret (fun hr => pj_if_ne_f hM (pc := 51) 61 dX11_days_51 rfl (fun q => q h8) (pj_aload_n hM (pc := 54) dX11_days_54 rfl rfl (pj_bipush hM (pc := 55) dX11_days_55 (by decide) (pj_cV hM (pc := 57) (cX_refuse 9 p6.2 p9 h10) dX11_days_57 mf_X11_refuse mv_X11_refuse ml_X11_100 kc_10 rfl rfl (by decide) rfl rfl (pj_ret hM (pc := 60) dX11_days_60 ⟨_, rfl⟩ (h0 ((p9.1, p9.2)) hr) rfl)))))
    refine pj_tgd (fun h11 => ?_)
    refine pj_tbind (fun p12 h13 => ?_)
    exact pj_tret (fun hr => pj_if_ne_t hM (pc := 51) dX11_days_51 rfl h8 (pj_aload_n hM (pc := 61) dX11_days_61 rfl rfl (pj_gf hM (pc := 62) (t := 24) dX11_days_62 fl_X11_77 (by decide) rfl 12 rfl (pj_astore_n hM (pc := 65) dX11_days_65 (by decide) (by decide) (lls' := [(10, 0), (0, x1), (24, (p6.2 10 0 12))]) rfl (pj_aload_n hM (pc := 66) dX11_days_66 rfl rfl (pj_aload_n hM (pc := 67) dX11_days_67 rfl rfl (pj_gf hM (pc := 68) (t := 24) dX11_days_68 fl_X11_81 (by decide) rfl 13 rfl (pj_pf hM (pc := 71) dX11_days_71 fl_X11_77 (by decide) rfl (fun h => absurd h (by decide)) (by decide) (fun _ => rfl) 12 rfl (pj_aload_n hM (pc := 74) dX11_days_74 rfl rfl (pj_aload_n hM (pc := 75) dX11_days_75 rfl rfl (pj_pf hM (pc := 76) dX11_days_76 fl_X11_81 (by decide) rfl (fun h => absurd h (by decide)) (by decide) (fun _ => rfl) 13 rfl (pj_aload_n hM (pc := 79) dX11_days_79 rfl rfl (pj_aload_n hM (pc := 80) dX11_days_80 rfl rfl (pj_gf hM (pc := 81) (t := 24) dX11_days_81 fl_X11_77 (by decide) rfl 12 rfl (pj_gf hM (pc := 84) (t := 0) dX11_days_84 fl_X11_182 h11 rfl 6 rfl (pj_cV hM (pc := 87) (cX_answer ((pj_set (pj_set p6.2 10 0 12 (p6.2 10 0 13)) 10 0 13 (p6.2 10 0 12)) 24 ((pj_set (pj_set p6.2 10 0 12 (p6.2 10 0 13)) 10 0 13 (p6.2 10 0 12)) 10 0 12) 6) (pj_set (pj_set p6.2 10 0 12 (p6.2 10 0 13)) 10 0 13 (p6.2 10 0 12)) p12 h13) dX11_days_87 mf_X11_answer mv_X11_answer ml_X11_96 kc_10 rfl rfl (by decide) rfl rfl (pj_ret hM (pc := 90) dX11_days_90 ⟨_, rfl⟩ (h0 ((p12.1, p12.2)) hr) rfl)))))))))))))))))
  refine pj_map (fun k => pj_ic_le_f hM (pc := 19) 28 dX11_days_19 rfl h3 (pj_kill hM [true, false, false] (lls' := [(10, 0), (9, 0), (9, 0)]) rfl k)) ?_
  exact tX_days_22 hM w _ h0
theorem cX_days (x1 : Int)  (w : pj_W) (r : Int × pj_W) (h : fX_days x1 w = some r) : pj_Cn l yX11_days cX11_days 3 (some .int) 7 153 true g [(10, 0), (0, x1)] w ((some (0, r.1) : Option pj_V), r.2) :=
  pj_Cn_of rfl (Nat.le_of_ble_eq_true rfl) (lls := [(10, 0), (0, x1), (9, 0)]) rfl (fun Go hM => tX_days hM x1 w (fun x => ((some (0, x.1) : Option pj_V), x.2) = ((some (0, r.1) : Option pj_V), r.2)) (fun r h => h) r h rfl)
noncomputable def fX_duels_40 (x1 : Int) (x2 : Int) (w : pj_W) : Option ((Int × Int) ⊕ (Int × pj_W)) :=
  some (Sum.inl (x1, (pj_wr (x2 + 1))))
noncomputable def fX_duels_4b  (w : pj_W) (x1 : Int) (x2 : Int) : Option ((Int × Int) ⊕ (Int × pj_W)) :=
  if 0 ≤ (w 10 0 10) then (if (w 19 (w 10 0 10) 8) ≤ x2 then ((fX_answer x1 w).bind fun p3 => (some (Sum.inr ((p3.1, p3.2))))) else (if 0 ≤ x2 ∧ x2 < 8 then ((fN_lastSet (8 * (w 10 0 10) + x2) w).bind fun p6 => ((fInt_bitCount p6 w).bind fun p8 => (fX_duels_40 (if p8 ≤ 1 then x1 else (pj_or x1 (pj_shl 1 x2))) x2 w))) else none)) else none
noncomputable def fX_duels_4  (w : pj_W) (s : (Int × Int)) : Option (Int × pj_W) := pj_Lp (fun s : (Int × Int) => fX_duels_4b  w s.1 s.2) s
noncomputable def fX_duels  (w : pj_W) : Option (Int × pj_W) :=
  fX_duels_4 w (0, 0)
theorem tX_duels_40 {Go : pj_C → Prop} (hM : pj_M l yX11_duels cX11_duels 3 (some .int) 1 22 true g n0 o Go) (x1 : Int) (x2 : Int) (w : pj_W)  (R : (Int × Int) ⊕ (Int × pj_W) → Prop) (h0 : ∀ r, R (Sum.inr (r)) → ((some (0, r.1) : Option pj_V), r.2) = o) (hk4 : ∀ s, R (Sum.inl s) → Go (4, [(10, 0), (0, s.1), (0, s.2)], [], w)) : pj_TG R (fX_duels_40 x1 x2 w) (Go (40, [(10, 0), (0, x1), (0, x2)], [], w)) := by
  unfold fX_duels_40
  exact pj_tret (fun hr => pj_iinc hM (pc := 40) dX11_duels_40 rfl (by decide) (lls' := [(10, 0), (0, x1), (0, (pj_wr (x2 + 1)))]) rfl (pj_goto hM (pc := 43) dX11_duels_43 rfl (pj_kill hM [true, true, true] (lls' := [(10, 0), (0, x1), (0, (pj_wr (x2 + 1)))]) rfl ((hk4 _ hr)))))
theorem tX_duels_4b {Go : pj_C → Prop} (hM : pj_M l yX11_duels cX11_duels 3 (some .int) 1 22 true g n0 o Go)  (w : pj_W) (x1 : Int) (x2 : Int)  (R : (Int × Int) ⊕ (Int × pj_W) → Prop) (h0 : ∀ r, R (Sum.inr (r)) → ((some (0, r.1) : Option pj_V), r.2) = o) (hk4 : ∀ s, R (Sum.inl s) → Go (4, [(10, 0), (0, s.1), (0, s.2)], [], w)) : pj_TG R (fX_duels_4b  w x1 x2) (Go (4, [(10, 0), (0, x1), (0, x2)], [], w)) := by
  unfold fX_duels_4b
  refine pj_tgd (fun h1 => ?_)
  refine pj_map (fun k => pj_iload_n hM (pc := 4) dX11_duels_4 rfl (pj_aload_n hM (pc := 5) dX11_duels_5 rfl rfl (pj_gf hM (pc := 6) (t := 19) dX11_duels_6 fl_X11_69 (by decide) rfl 10 rfl (pj_gf hM (pc := 9) (t := 0) dX11_duels_9 fl_X11_175 h1 rfl 8 rfl k)))) ?_
  refine pj_tif (fun h2 => ?_) (fun h2 => ?_)
  · refine pj_tbind (fun p3 h4 => ?_)
    exact pj_tret (fun hr => pj_ic_ge_t hM (pc := 12) dX11_duels_12 rfl h2 (pj_aload_n hM (pc := 46) dX11_duels_46 rfl rfl (pj_iload_n hM (pc := 47) dX11_duels_47 rfl (pj_cV hM (pc := 48) (cX_answer x1 w p3 h4) dX11_duels_48 mf_X11_answer mv_X11_answer ml_X11_96 kc_10 rfl rfl (by decide) rfl rfl (pj_ret hM (pc := 51) dX11_duels_51 ⟨_, rfl⟩ (h0 ((p3.1, p3.2)) hr) rfl)))))
  refine pj_tgd (fun h5 => ?_)
  refine pj_tbind (fun p6 h7 => ?_)
  refine pj_tbind (fun p8 h9 => ?_)
  refine pj_map (fun k => pj_ic_ge_f hM (pc := 12) 46 dX11_duels_12 rfl h2 (pj_aload_n hM (pc := 15) dX11_duels_15 rfl rfl (pj_gf hM (pc := 16) (t := 19) dX11_duels_16 fl_X11_69 (by decide) rfl 10 rfl (pj_getF hM (pc := 19) (t := 21) dX11_duels_19 fl_X11_303 h1 rfl rfl (pj_iload_n hM (pc := 22) dX11_duels_22 rfl (pj_aald hM (pc := 23) (fun s : Int => 8 * (w 10 0 10) + s) dX11_duels_23 (by decide) rfl (fun _ => rfl) ⟨_, rfl⟩ (by decide) h1 h5 (fun _ => rfl) (by show (0 : Int) ≤ (8 * (w 10 0 10) + x2); omega) (pj_cV hM (pc := 24) (cN_lastSet (8 * (w 10 0 10) + x2) (by show (0 : Int) ≤ (8 * (w 10 0 10) + x2); omega) w p6 h7) dX11_duels_24 mf_X4_lastSet mv_X4_lastSet ml_X11_290 kc_23 rfl rfl (by show (0 : Int) ≤ (8 * (w 10 0 10) + x2); omega) rfl rfl (pj_cS hM (pc := 27) (cInt_bitCount p6 w p8 h9) dX11_duels_27 mf_J6_bitCount_0f7a4 ms_J6_bitCount_0f7a4 ml_X11_307 rfl rfl rfl rfl (pj_iconst hM (pc := 30) dX11_duels_30 (by decide) k))))))))) ?_
  refine pj_tJ (fun v : Int => fX_duels_40 v x2 w) (fun h10 => ?_) (fun h10 => ?_)
  · refine pj_map (fun k => pj_ic_le_t hM (pc := 31) dX11_duels_31 rfl h10 (pj_kill hM [true, true, true] (lls' := [(10, 0), (0, x1), (0, x2)]) rfl k)) ?_
    exact tX_duels_40 hM x1 x2 w _ h0 hk4
  refine pj_map (fun k => pj_ic_le_f hM (pc := 31) 40 dX11_duels_31 rfl h10 (pj_iload_n hM (pc := 34) dX11_duels_34 rfl (pj_iconst hM (pc := 35) dX11_duels_35 (by decide) (pj_iload_n hM (pc := 36) dX11_duels_36 rfl (pj_ishl hM (pc := 37) dX11_duels_37 (pj_ior hM (pc := 38) dX11_duels_38 (pj_istore_n hM (pc := 39) dX11_duels_39 (by decide) (lls' := [(10, 0), (0, (pj_or x1 (pj_shl 1 x2))), (0, x2)]) rfl (pj_kill hM [true, true, true] (lls' := [(10, 0), (0, (pj_or x1 (pj_shl 1 x2))), (0, x2)]) rfl k)))))))) ?_
  exact tX_duels_40 hM (pj_or x1 (pj_shl 1 x2)) x2 w _ h0 hk4
theorem tX_duels_4 {Go : pj_C → Prop} (hM : pj_M l yX11_duels cX11_duels 3 (some .int) 1 22 true g n0 o Go)  (w : pj_W)  (R : Int × pj_W → Prop) (h0 : ∀ r, R (r) → ((some (0, r.1) : Option pj_V), r.2) = o) (s : (Int × Int)) : pj_TG R (fX_duels_4  w s) (Go (4, [(10, 0), (0, s.1), (0, s.2)], [], w)) := by
  unfold fX_duels_4
  exact pj_tLp (G := fun s : (Int × Int) => Go (4, [(10, 0), (0, s.1), (0, s.2)], [], w)) (fun s => tX_duels_4b hM  w s.1 s.2  _ (fun r h => h0 r h)  (fun s h => h)) s
theorem tX_duels {Go : pj_C → Prop} (hM : pj_M l yX11_duels cX11_duels 3 (some .int) 1 22 true g n0 o Go)  (w : pj_W)  (R : Int × pj_W → Prop) (h0 : ∀ r, R (r) → ((some (0, r.1) : Option pj_V), r.2) = o) : pj_TG R (fX_duels  w) (Go (0, [(10, 0), (9, 0), (9, 0)], [], w)) := by
  unfold fX_duels
  refine pj_map (fun k => pj_iconst hM (pc := 0) dX11_duels_0 (by decide) (pj_istore_n hM (pc := 1) dX11_duels_1 (by decide) (lls' := [(10, 0), (0, 0), (9, 0)]) rfl (pj_iconst hM (pc := 2) dX11_duels_2 (by decide) (pj_istore_n hM (pc := 3) dX11_duels_3 (by decide) (lls' := [(10, 0), (0, 0), (0, 0)]) rfl (pj_kill hM [true, true, true] (lls' := [(10, 0), (0, 0), (0, 0)]) rfl k))))) ?_
  exact tX_duels_4 hM w _ h0 _
theorem cX_duels   (w : pj_W) (r : Int × pj_W) (h : fX_duels  w = some r) : pj_Cn l yX11_duels cX11_duels 3 (some .int) 1 22 true g [(10, 0)] w ((some (0, r.1) : Option pj_V), r.2) :=
  pj_Cn_of rfl (Nat.le_of_ble_eq_true rfl) (lls := [(10, 0), (9, 0), (9, 0)]) rfl (fun Go hM => tX_duels hM w (fun x => ((some (0, x.1) : Option pj_V), x.2) = ((some (0, r.1) : Option pj_V), r.2)) (fun r h => h) r h rfl)
noncomputable def fF_minutesTo (i0 : Int) (x1 : Int) (w : pj_W) : Option (Int) :=
  some ((pj_wr ((w 22 i0 2) * (pj_abs (pj_wr (x1 - (w 22 i0 1)))))))
theorem tF_minutesTo {Go : pj_C → Prop} (hM : pj_M l yX5_minutesTo cX5_minutesTo 2 (some .int) 1 21 ph g n0 o Go) (i0 : Int) (x1 : Int) (w : pj_W) (hn0 : 0 ≤ i0) (R : Int → Prop) (h0 : ∀ r, R (r) → ((some (0, r) : Option pj_V), w) = o) : pj_TG R (fF_minutesTo i0 x1 w) (Go (0, [(22, i0), (0, x1)], [], w)) := by
  unfold fF_minutesTo
  exact pj_tret (fun hr => pj_aload_n hM (pc := 0) dX5_minutesTo_0 rfl rfl (pj_gf hM (pc := 1) (t := 0) dX5_minutesTo_1 fl_X5_17 hn0 rfl 2 rfl (pj_iload_n hM (pc := 4) dX5_minutesTo_4 rfl (pj_aload_n hM (pc := 5) dX5_minutesTo_5 rfl rfl (pj_gf hM (pc := 6) (t := 0) dX5_minutesTo_6 fl_X5_13 hn0 rfl 1 rfl (pj_isub hM (pc := 9) dX5_minutesTo_9 (pj_mabs hM (pc := 10) dX5_minutesTo_10 mf_J9_abs_0f7a4 ms_J9_abs_0f7a4 ml_X5_29 rfl (pj_imul hM (pc := 13) dX5_minutesTo_13 (pj_ret hM (pc := 14) dX5_minutesTo_14 ⟨_, rfl⟩ (h0 ((pj_wr ((w 22 i0 2) * (pj_abs (pj_wr (x1 - (w 22 i0 1))))))) hr) rfl)))))))))
theorem cF_minutesTo (i0 : Int) (x1 : Int) (hn0 : 0 ≤ i0) (w : pj_W) (r : Int) (h : fF_minutesTo i0 x1 w = some r) : pj_Cn l yX5_minutesTo cX5_minutesTo 2 (some .int) 1 21 ph g [(22, i0), (0, x1)] w ((some (0, r) : Option pj_V), w) :=
  pj_Cn_of rfl (Nat.le_of_ble_eq_true rfl) (lls := [(22, i0), (0, x1)]) rfl (fun Go hM => tF_minutesTo hM i0 x1 w hn0 (fun x => ((some (0, x) : Option pj_V), w) = ((some (0, r) : Option pj_V), w)) (fun r h => h) r h rfl)
noncomputable def fX_farthest_87 (x2 : Int) (x3 : Int) (x4 : Int) (x5 : Int) (w : pj_W) : Option ((Int × Int × Int) ⊕ (Int × pj_W)) :=
  some (Sum.inl (x3, x4, (pj_wr (x5 + 1))))
noncomputable def fX_farthest_27b (x2 : Int) (w : pj_W) (x3 : Int) (x4 : Int) (x5 : Int) : Option ((Int × Int × Int) ⊕ (Int × pj_W)) :=
  if 0 ≤ (w 10 0 10) then (if (w 19 (w 10 0 10) 8) ≤ x5 then (if x3 = (-1) then ((fX_refuse 6 w).bind fun p4 => (some (Sum.inr ((p4.1, p4.2))))) else ((fX_answer x3 w).bind fun p6 => (some (Sum.inr ((p6.1, p6.2)))))) else (if 0 ≤ x5 ∧ x5 < 8 then (if (w 23 (8 * (w 10 0 10) + x5) 5) = 0 then (fX_farthest_87 x2 x3 x4 x5 w) else ((fF_minutesTo x2 (w 23 (8 * (w 10 0 10) + x5) 3) w).bind fun p10 => (if p10 ≤ x4 then (fX_farthest_87 x2 x3 x4 x5 w) else ((fF_minutesTo x2 (w 23 (8 * (w 10 0 10) + x5) 3) w).bind fun p13 => (fX_farthest_87 x2 x5 p13 x5 w))))) else none)) else none
noncomputable def fX_farthest_27 (x2 : Int) (w : pj_W) (s : (Int × Int × Int)) : Option (Int × pj_W) := pj_Lp (fun s : (Int × Int × Int) => fX_farthest_27b x2 w s.1 s.2.1 s.2.2) s
noncomputable def fX_farthest (x1 : Int) (w : pj_W) : Option (Int × pj_W) :=
  if 0 ≤ (w 10 0 10) then ((fB_finderAt (w 10 0 10) x1 w).bind fun p2 => (if p2 < 0 then ((fX_refuse 1 w).bind fun p5 => (some ((p5.1, p5.2)))) else (fX_farthest_27 p2 w ((-1), (-1), 0)))) else none
theorem tX_farthest_87 {Go : pj_C → Prop} (hM : pj_M l yX11_farthest cX11_farthest 7 (some .int) 2 42 true g n0 o Go) (x2 : Int) (x3 : Int) (x4 : Int) (x5 : Int) (w : pj_W) (hn2 : 0 ≤ x2) (R : (Int × Int × Int) ⊕ (Int × pj_W) → Prop) (h0 : ∀ r, R (Sum.inr (r)) → ((some (0, r.1) : Option pj_V), r.2) = o) (hk27 : ∀ s, R (Sum.inl s) → Go (27, [(10, 0), (9, 0), (22, x2), (0, s.1), (0, s.2.1), (0, s.2.2), (9, 0)], [], w)) : pj_TG R (fX_farthest_87 x2 x3 x4 x5 w) (Go (87, [(10, 0), (9, 0), (22, x2), (0, x3), (0, x4), (0, x5), (9, 0)], [], w)) := by
  unfold fX_farthest_87
  exact pj_tret (fun hr => pj_iinc hM (pc := 87) dX11_farthest_87 rfl (by decide) (lls' := [(10, 0), (9, 0), (22, x2), (0, x3), (0, x4), (0, (pj_wr (x5 + 1))), (9, 0)]) rfl (pj_goto hM (pc := 90) dX11_farthest_90 rfl (pj_kill hM [true, false, true, true, true, true, false] (lls' := [(10, 0), (9, 0), (22, x2), (0, x3), (0, x4), (0, (pj_wr (x5 + 1))), (9, 0)]) rfl ((hk27 _ hr)))))
theorem tX_farthest_27b {Go : pj_C → Prop} (hM : pj_M l yX11_farthest cX11_farthest 7 (some .int) 2 42 true g n0 o Go) (x2 : Int) (w : pj_W) (x3 : Int) (x4 : Int) (x5 : Int) (hn2 : 0 ≤ x2) (R : (Int × Int × Int) ⊕ (Int × pj_W) → Prop) (h0 : ∀ r, R (Sum.inr (r)) → ((some (0, r.1) : Option pj_V), r.2) = o) (hk27 : ∀ s, R (Sum.inl s) → Go (27, [(10, 0), (9, 0), (22, x2), (0, s.1), (0, s.2.1), (0, s.2.2), (9, 0)], [], w)) : pj_TG R (fX_farthest_27b x2 w x3 x4 x5) (Go (27, [(10, 0), (9, 0), (22, x2), (0, x3), (0, x4), (0, x5), (9, 0)], [], w)) := by
  unfold fX_farthest_27b
  refine pj_tgd (fun h1 => ?_)
  refine pj_map (fun k => pj_iload hM (pc := 27) dX11_farthest_27 rfl (pj_aload_n hM (pc := 29) dX11_farthest_29 rfl rfl (pj_gf hM (pc := 30) (t := 19) dX11_farthest_30 fl_X11_69 (by decide) rfl 10 rfl (pj_gf hM (pc := 33) (t := 0) dX11_farthest_33 fl_X11_175 h1 rfl 8 rfl k)))) ?_
  refine pj_tif (fun h2 => ?_) (fun h2 => ?_)
  · refine pj_map (fun k => pj_ic_ge_t hM (pc := 36) dX11_farthest_36 rfl h2 (pj_iload_n hM (pc := 93) dX11_farthest_93 rfl (pj_iconst hM (pc := 94) dX11_farthest_94 (by decide) k))) ?_
    refine pj_tif (fun h3 => ?_) (fun h3 => ?_)
    · refine pj_tbind (fun p4 h5 => ?_)
      exact pj_tret (fun hr => pj_ic_ne_f hM (pc := 95) 107 dX11_farthest_95 rfl (fun q => q h3) (pj_aload_n hM (pc := 98) dX11_farthest_98 rfl rfl (pj_bipush hM (pc := 99) dX11_farthest_99 (by decide) (pj_cV hM (pc := 101) (cX_refuse 6 w p4 h5) dX11_farthest_101 mf_X11_refuse mv_X11_refuse ml_X11_100 kc_10 rfl rfl (by decide) rfl rfl (pj_goto hM (pc := 104) dX11_farthest_104 rfl (pj_ret hM (pc := 112) dX11_farthest_112 ⟨_, rfl⟩ (h0 ((p4.1, p4.2)) hr) rfl))))))
    refine pj_tbind (fun p6 h7 => ?_)
    exact pj_tret (fun hr => pj_ic_ne_t hM (pc := 95) dX11_farthest_95 rfl h3 (pj_aload_n hM (pc := 107) dX11_farthest_107 rfl rfl (pj_iload_n hM (pc := 108) dX11_farthest_108 rfl (pj_cV hM (pc := 109) (cX_answer x3 w p6 h7) dX11_farthest_109 mf_X11_answer mv_X11_answer ml_X11_96 kc_10 rfl rfl (by decide) rfl rfl (pj_ret hM (pc := 112) dX11_farthest_112 ⟨_, rfl⟩ (h0 ((p6.1, p6.2)) hr) rfl)))))
  refine pj_tgd (fun h8 => ?_)
  refine pj_map (fun k => pj_ic_ge_f hM (pc := 36) 93 dX11_farthest_36 rfl h2 (pj_aload_n hM (pc := 39) dX11_farthest_39 rfl rfl (pj_gf hM (pc := 40) (t := 19) dX11_farthest_40 fl_X11_69 (by decide) rfl 10 rfl (pj_getF hM (pc := 43) (t := 21) dX11_farthest_43 fl_X11_303 h1 rfl rfl (pj_iload hM (pc := 46) dX11_farthest_46 rfl (pj_aald hM (pc := 48) (fun s : Int => 8 * (w 10 0 10) + s) dX11_farthest_48 (by decide) rfl (fun _ => rfl) ⟨_, rfl⟩ (by decide) h1 h8 (fun _ => rfl) (by show (0 : Int) ≤ (8 * (w 10 0 10) + x5); omega) (pj_astore hM (pc := 49) dX11_farthest_49 (by decide) (by decide) (lls' := [(10, 0), (9, 0), (22, x2), (0, x3), (0, x4), (0, x5), (23, (8 * (w 10 0 10) + x5))]) rfl (pj_aload hM (pc := 51) dX11_farthest_51 rfl rfl (pj_gf hM (pc := 53) (t := 0) dX11_farthest_53 fl_X11_287 (by show (0 : Int) ≤ (8 * (w 10 0 10) + x5); omega) rfl 5 rfl k))))))))) ?_
  refine pj_tif (fun h9 => ?_) (fun h9 => ?_)
  · refine pj_map (fun k => pj_if_eq_t hM (pc := 56) dX11_farthest_56 rfl h9 (pj_kill hM [true, false, true, true, true, true, false] (lls' := [(10, 0), (9, 0), (22, x2), (0, x3), (0, x4), (0, x5), (9, 0)]) rfl k)) ?_
    exact tX_farthest_87 hM x2 x3 x4 x5 w hn2 _ h0 hk27
  refine pj_tbind (fun p10 h11 => ?_)
  refine pj_map (fun k => pj_if_eq_f hM (pc := 56) 87 dX11_farthest_56 rfl h9 (pj_aload_n hM (pc := 59) dX11_farthest_59 rfl rfl (pj_aload hM (pc := 60) dX11_farthest_60 rfl rfl (pj_gf hM (pc := 62) (t := 0) dX11_farthest_62 fl_X11_241 (by show (0 : Int) ≤ (8 * (w 10 0 10) + x5); omega) rfl 3 rfl (pj_cV hM (pc := 65) (cF_minutesTo x2 (w 23 (8 * (w 10 0 10) + x5) 3) hn2 w p10 h11) dX11_farthest_65 mf_X5_minutesTo mv_X5_minutesTo ml_X11_365 kc_22 rfl rfl hn2 rfl rfl (pj_iload hM (pc := 68) dX11_farthest_68 rfl k)))))) ?_
  refine pj_tif (fun h12 => ?_) (fun h12 => ?_)
  · refine pj_map (fun k => pj_ic_le_t hM (pc := 70) dX11_farthest_70 rfl h12 (pj_kill hM [true, false, true, true, true, true, false] (lls' := [(10, 0), (9, 0), (22, x2), (0, x3), (0, x4), (0, x5), (9, 0)]) rfl k)) ?_
    exact tX_farthest_87 hM x2 x3 x4 x5 w hn2 _ h0 hk27
  refine pj_tbind (fun p13 h14 => ?_)
  refine pj_map (fun k => pj_ic_le_f hM (pc := 70) 87 dX11_farthest_70 rfl h12 (pj_aload_n hM (pc := 73) dX11_farthest_73 rfl rfl (pj_aload hM (pc := 74) dX11_farthest_74 rfl rfl (pj_gf hM (pc := 76) (t := 0) dX11_farthest_76 fl_X11_241 (by show (0 : Int) ≤ (8 * (w 10 0 10) + x5); omega) rfl 3 rfl (pj_cV hM (pc := 79) (cF_minutesTo x2 (w 23 (8 * (w 10 0 10) + x5) 3) hn2 w p13 h14) dX11_farthest_79 mf_X5_minutesTo mv_X5_minutesTo ml_X11_365 kc_22 rfl rfl hn2 rfl rfl (pj_istore hM (pc := 82) dX11_farthest_82 (by decide) (lls' := [(10, 0), (9, 0), (22, x2), (0, x3), (0, p13), (0, x5), (23, (8 * (w 10 0 10) + x5))]) rfl (pj_iload hM (pc := 84) dX11_farthest_84 rfl (pj_istore_n hM (pc := 86) dX11_farthest_86 (by decide) (lls' := [(10, 0), (9, 0), (22, x2), (0, x5), (0, p13), (0, x5), (23, (8 * (w 10 0 10) + x5))]) rfl (pj_kill hM [true, false, true, true, true, true, false] (lls' := [(10, 0), (9, 0), (22, x2), (0, x5), (0, p13), (0, x5), (9, 0)]) rfl k))))))))) ?_
  exact tX_farthest_87 hM x2 x5 p13 x5 w hn2 _ h0 hk27
theorem tX_farthest_27 {Go : pj_C → Prop} (hM : pj_M l yX11_farthest cX11_farthest 7 (some .int) 2 42 true g n0 o Go) (x2 : Int) (w : pj_W) (hn2 : 0 ≤ x2) (R : Int × pj_W → Prop) (h0 : ∀ r, R (r) → ((some (0, r.1) : Option pj_V), r.2) = o) (s : (Int × Int × Int)) : pj_TG R (fX_farthest_27 x2 w s) (Go (27, [(10, 0), (9, 0), (22, x2), (0, s.1), (0, s.2.1), (0, s.2.2), (9, 0)], [], w)) := by
  unfold fX_farthest_27
  exact pj_tLp (G := fun s : (Int × Int × Int) => Go (27, [(10, 0), (9, 0), (22, x2), (0, s.1), (0, s.2.1), (0, s.2.2), (9, 0)], [], w)) (fun s => tX_farthest_27b hM x2 w s.1 s.2.1 s.2.2 hn2 _ (fun r h => h0 r h)  (fun s h => h)) s
theorem tX_farthest {Go : pj_C → Prop} (hM : pj_M l yX11_farthest cX11_farthest 7 (some .int) 2 42 true g n0 o Go) (x1 : Int) (w : pj_W)  (R : Int × pj_W → Prop) (h0 : ∀ r, R (r) → ((some (0, r.1) : Option pj_V), r.2) = o) : pj_TG R (fX_farthest x1 w) (Go (0, [(10, 0), (0, x1), (9, 0), (9, 0), (9, 0), (9, 0), (9, 0)], [], w)) := by
  unfold fX_farthest
  refine pj_tgd (fun h1 => ?_)
  refine pj_tbind (fun p2 h3 => ?_)
  refine pj_map (fun k => pj_aload_n hM (pc := 0) dX11_farthest_0 rfl rfl (pj_gf hM (pc := 1) (t := 19) dX11_farthest_1 fl_X11_69 (by decide) rfl 10 rfl (pj_iload_n hM (pc := 4) dX11_farthest_4 rfl (pj_cV hM (pc := 5) (cB_finderAt (w 10 0 10) x1 h1 w p2 h3) dX11_farthest_5 mf_X0_finderAt mv_X0_finderAt ml_X11_216 kc_19 rfl rfl h1 rfl rfl (pj_astore_n hM (pc := 8) dX11_farthest_8 (by decide) (by decide) (lls' := [(10, 0), (0, x1), (22, p2), (9, 0), (9, 0), (9, 0), (9, 0)]) rfl (pj_aload_n hM (pc := 9) dX11_farthest_9 rfl rfl k)))))) ?_
  refine pj_tif (fun h4 => ?_) (fun h4 => ?_)
  · refine pj_tbind (fun p5 h6 => ?_)
    exact pj_tret (fun hr => pj_nonnull_f hM (pc := 10) 19 dX11_farthest_10 rfl (by decide) h4 (pj_aload_n hM (pc := 13) dX11_farthest_13 rfl rfl (pj_iconst hM (pc := 14) dX11_farthest_14 (by decide) (pj_cV hM (pc := 15) (cX_refuse 1 w p5 h6) dX11_farthest_15 mf_X11_refuse mv_X11_refuse ml_X11_100 kc_10 rfl rfl (by decide) rfl rfl (pj_ret hM (pc := 18) dX11_farthest_18 ⟨_, rfl⟩ (h0 ((p5.1, p5.2)) hr) rfl)))))
  refine pj_map (fun k => pj_nonnull_t hM (pc := 10) dX11_farthest_10 rfl (by decide) h4 (pj_iconst hM (pc := 19) dX11_farthest_19 (by decide) (pj_istore_n hM (pc := 20) dX11_farthest_20 (by decide) (lls' := [(10, 0), (0, x1), (22, p2), (0, (-1)), (9, 0), (9, 0), (9, 0)]) rfl (pj_iconst hM (pc := 21) dX11_farthest_21 (by decide) (pj_istore hM (pc := 22) dX11_farthest_22 (by decide) (lls' := [(10, 0), (0, x1), (22, p2), (0, (-1)), (0, (-1)), (9, 0), (9, 0)]) rfl (pj_iconst hM (pc := 24) dX11_farthest_24 (by decide) (pj_istore hM (pc := 25) dX11_farthest_25 (by decide) (lls' := [(10, 0), (0, x1), (22, p2), (0, (-1)), (0, (-1)), (0, 0), (9, 0)]) rfl (pj_kill hM [true, false, true, true, true, true, false] (lls' := [(10, 0), (9, 0), (22, p2), (0, (-1)), (0, (-1)), (0, 0), (9, 0)]) rfl k)))))))) ?_
  exact tX_farthest_27 hM p2 w (Int.not_lt.mp h4) _ h0 _
theorem cX_farthest (x1 : Int)  (w : pj_W) (r : Int × pj_W) (h : fX_farthest x1 w = some r) : pj_Cn l yX11_farthest cX11_farthest 7 (some .int) 2 42 true g [(10, 0), (0, x1)] w ((some (0, r.1) : Option pj_V), r.2) :=
  pj_Cn_of rfl (Nat.le_of_ble_eq_true rfl) (lls := [(10, 0), (0, x1), (9, 0), (9, 0), (9, 0), (9, 0), (9, 0)]) rfl (fun Go hM => tX_farthest hM x1 w (fun x => ((some (0, x.1) : Option pj_V), x.2) = ((some (0, r.1) : Option pj_V), r.2)) (fun r h => h) r h rfl)
noncomputable def fX_fault (x1 : Int) (w : pj_W) : Option (Int) :=
  if x1 = 0 then (some ((w 12 0 6))) else (if x1 = 1 then (some ((w 12 0 7))) else (some ((-1))))
theorem tX_fault {Go : pj_C → Prop} (hM : pj_M l yX11_fault cX11_fault 2 (some .int) 0 0 true g n0 o Go) (x1 : Int) (w : pj_W)  (R : Int → Prop) (h0 : ∀ r, R (r) → ((some (0, r) : Option pj_V), w) = o) : pj_TG R (fX_fault x1 w) (Go (0, [(10, 0), (0, x1)], [], w)) := by
  unfold fX_fault
  refine pj_map (fun k => pj_iload_n hM (pc := 0) dX11_fault_0 rfl k) ?_
  refine pj_tif (fun h1 => ?_) (fun h1 => ?_)
  · exact pj_tret (fun hr => pj_if_ne_f hM (pc := 1) 12 dX11_fault_1 rfl (fun q => q h1) (pj_aload_n hM (pc := 4) dX11_fault_4 rfl rfl (pj_getF hM (pc := 5) (t := 12) dX11_fault_5 fl_X11_18 (by decide) rfl rfl (pj_gf hM (pc := 8) (t := 0) dX11_fault_8 fl_X11_185 (by decide) rfl 6 rfl (pj_ret hM (pc := 11) dX11_fault_11 ⟨_, rfl⟩ (h0 ((w 12 0 6)) hr) rfl)))))
  refine pj_map (fun k => pj_if_ne_t hM (pc := 1) dX11_fault_1 rfl h1 (pj_iload_n hM (pc := 12) dX11_fault_12 rfl (pj_iconst hM (pc := 13) dX11_fault_13 (by decide) k))) ?_
  refine pj_tif (fun h2 => ?_) (fun h2 => ?_)
  · exact pj_tret (fun hr => pj_ic_ne_f hM (pc := 14) 27 dX11_fault_14 rfl (fun q => q h2) (pj_aload_n hM (pc := 17) dX11_fault_17 rfl rfl (pj_getF hM (pc := 18) (t := 12) dX11_fault_18 fl_X11_18 (by decide) rfl rfl (pj_gf hM (pc := 21) (t := 0) dX11_fault_21 fl_X11_188 (by decide) rfl 7 rfl (pj_goto hM (pc := 24) dX11_fault_24 rfl (pj_ret hM (pc := 28) dX11_fault_28 ⟨_, rfl⟩ (h0 ((w 12 0 7)) hr) rfl))))))
  exact pj_tret (fun hr => pj_ic_ne_t hM (pc := 14) dX11_fault_14 rfl h2 (pj_iconst hM (pc := 27) dX11_fault_27 (by decide) (pj_ret hM (pc := 28) dX11_fault_28 ⟨_, rfl⟩ (h0 ((-1)) hr) rfl)))
theorem cX_fault (x1 : Int)  (w : pj_W) (r : Int) (h : fX_fault x1 w = some r) : pj_Cn l yX11_fault cX11_fault 2 (some .int) 0 0 true g [(10, 0), (0, x1)] w ((some (0, r) : Option pj_V), w) :=
  pj_Cn_of rfl (Nat.le_of_ble_eq_true rfl) (lls := [(10, 0), (0, x1)]) rfl (fun Go hM => tX_fault hM x1 w (fun x => ((some (0, x) : Option pj_V), w) = ((some (0, r) : Option pj_V), w)) (fun r h => h) r h rfl)
noncomputable def fR_feedInt_3b (x1 : Int) (x2 : Int) (w : pj_W) : Option ((Int × pj_W) ⊕ (pj_W)) :=
  if x2 < 0 then (some (Sum.inr (w))) else (if 900 ≤ (w 12 0 5) then (some (Sum.inr (w))) else (if 0 ≤ (w 12 0 5) ∧ (w 12 0 5) < 900 then ((some (pj_set (pj_set w 30 0 (w 12 0 5) (pj_w8 (pj_w8 (pj_shr x1 x2)))) 12 0 5 (pj_wr (((pj_set w 30 0 (w 12 0 5) (pj_w8 (pj_w8 (pj_shr x1 x2)))) 12 0 5) + 1)))).bind fun w4 => (some (Sum.inl ((pj_wr (x2 + (-8))), w4)))) else none))
noncomputable def fR_feedInt_3 (x1 : Int) (s : (Int × pj_W)) : Option (pj_W) := pj_Lp (fun s : (Int × pj_W) => fR_feedInt_3b x1 s.1 s.2) s
noncomputable def fR_feedInt (x1 : Int) (w : pj_W) : Option (pj_W) :=
  fR_feedInt_3 x1 (24, w)
theorem tR_feedInt_3b {Go : pj_C → Prop} (hM : pj_M l yX7_feedInt cX7_feedInt 3 none 0 0 true g n0 o Go) (x1 : Int) (x2 : Int) (w : pj_W)  (R : (Int × pj_W) ⊕ (pj_W) → Prop) (h0 : ∀ r, R (Sum.inr (r)) → ((none : Option pj_V), r) = o) (hk3 : ∀ s, R (Sum.inl s) → Go (3, [(12, 0), (0, x1), (0, s.1)], [], s.2)) : pj_TG R (fR_feedInt_3b x1 x2 w) (Go (3, [(12, 0), (0, x1), (0, x2)], [], w)) := by
  unfold fR_feedInt_3b
  refine pj_map (fun k => pj_iload_n hM (pc := 3) dX7_feedInt_3 rfl k) ?_
  refine pj_tif (fun h1 => ?_) (fun h1 => ?_)
  · exact pj_tret (fun hr => pj_if_lt_t hM (pc := 4) dX7_feedInt_4 rfl h1 (pj_ret hM (pc := 46) dX7_feedInt_46 rfl (h0 (w) hr) rfl))
  refine pj_map (fun k => pj_if_lt_f hM (pc := 4) 46 dX7_feedInt_4 rfl h1 (pj_aload_n hM (pc := 7) dX7_feedInt_7 rfl rfl (pj_gf hM (pc := 8) (t := 0) dX7_feedInt_8 fl_X7_56 (by decide) rfl 5 rfl (pj_sipush hM (pc := 11) dX7_feedInt_11 (by decide) k)))) ?_
  refine pj_tif (fun h2 => ?_) (fun h2 => ?_)
  · exact pj_tret (fun hr => pj_ic_ge_t hM (pc := 14) dX7_feedInt_14 rfl h2 (pj_ret hM (pc := 46) dX7_feedInt_46 rfl (h0 (w) hr) rfl))
  refine pj_tgd (fun h3 => ?_)
  refine pj_map (fun k => pj_ic_ge_f hM (pc := 14) 46 dX7_feedInt_14 rfl h2 (pj_aload_n hM (pc := 17) dX7_feedInt_17 rfl rfl (pj_getF hM (pc := 18) (t := 30) dX7_feedInt_18 fl_X7_11 (by decide) rfl rfl (pj_aload_n hM (pc := 21) dX7_feedInt_21 rfl rfl (pj_gf hM (pc := 22) (t := 0) dX7_feedInt_22 fl_X7_56 (by decide) rfl 5 rfl (pj_iload_n hM (pc := 25) dX7_feedInt_25 rfl (pj_iload_n hM (pc := 26) dX7_feedInt_26 rfl (pj_ishr hM (pc := 27) dX7_feedInt_27 (pj_i2b hM (pc := 28) dX7_feedInt_28 (pj_bas hM (pc := 29) dX7_feedInt_29 kb_30 (by decide) h3 (pj_aload_n hM (pc := 30) dX7_feedInt_30 rfl rfl (pj_dup hM (pc := 31) dX7_feedInt_31 (by decide) (pj_gf hM (pc := 32) (t := 0) dX7_feedInt_32 fl_X7_56 (by decide) rfl 5 rfl (pj_iconst hM (pc := 35) dX7_feedInt_35 (by decide) (pj_iadd hM (pc := 36) dX7_feedInt_36 (pj_pf hM (pc := 37) dX7_feedInt_37 fl_X7_56 (by decide) rfl (fun h => absurd h (by decide)) (by decide) (fun _ => rfl) 5 rfl k)))))))))))))))) ?_
  refine pj_tlet (fun w4 => Go (40, [(12, 0), (0, x1), (0, x2)], [], w4)) (fun w4 => ?_)
  exact pj_tret (fun hr => pj_iinc hM (pc := 40) dX7_feedInt_40 rfl (by decide) (lls' := [(12, 0), (0, x1), (0, (pj_wr (x2 + (-8))))]) rfl (pj_goto hM (pc := 43) dX7_feedInt_43 rfl (pj_kill hM [true, true, true] (lls' := [(12, 0), (0, x1), (0, (pj_wr (x2 + (-8))))]) rfl ((hk3 _ hr)))))
theorem tR_feedInt_3 {Go : pj_C → Prop} (hM : pj_M l yX7_feedInt cX7_feedInt 3 none 0 0 true g n0 o Go) (x1 : Int)  (R : pj_W → Prop) (h0 : ∀ r, R (r) → ((none : Option pj_V), r) = o) (s : (Int × pj_W)) : pj_TG R (fR_feedInt_3 x1 s) (Go (3, [(12, 0), (0, x1), (0, s.1)], [], s.2)) := by
  unfold fR_feedInt_3
  exact pj_tLp (G := fun s : (Int × pj_W) => Go (3, [(12, 0), (0, x1), (0, s.1)], [], s.2)) (fun s => tR_feedInt_3b hM x1 s.1 s.2  _ (fun r h => h0 r h)  (fun s h => h)) s
theorem tR_feedInt {Go : pj_C → Prop} (hM : pj_M l yX7_feedInt cX7_feedInt 3 none 0 0 true g n0 o Go) (x1 : Int) (w : pj_W)  (R : pj_W → Prop) (h0 : ∀ r, R (r) → ((none : Option pj_V), r) = o) : pj_TG R (fR_feedInt x1 w) (Go (0, [(12, 0), (0, x1), (9, 0)], [], w)) := by
  unfold fR_feedInt
  refine pj_map (fun k => pj_bipush hM (pc := 0) dX7_feedInt_0 (by decide) (pj_istore_n hM (pc := 2) dX7_feedInt_2 (by decide) (lls' := [(12, 0), (0, x1), (0, 24)]) rfl (pj_kill hM [true, true, true] (lls' := [(12, 0), (0, x1), (0, 24)]) rfl k))) ?_
  exact tR_feedInt_3 hM x1 _ h0 _
theorem cR_feedInt (x1 : Int)  (w : pj_W) (r : pj_W) (h : fR_feedInt x1 w = some r) : pj_Cn l yX7_feedInt cX7_feedInt 3 none 0 0 true g [(12, 0), (0, x1)] w ((none : Option pj_V), r) :=
  pj_Cn_of rfl (Nat.le_of_ble_eq_true rfl) (lls := [(12, 0), (0, x1), (9, 0)]) rfl (fun Go hM => tR_feedInt hM x1 w (fun x => ((none : Option pj_V), x) = ((none : Option pj_V), r)) (fun r h => h) r h rfl)
noncomputable def fR_hasRoom  (w : pj_W) : Option (Int) :=
  if 880 < (w 12 0 5) then (some (0)) else (some (1))
theorem tR_hasRoom {Go : pj_C → Prop} (hM : pj_M l yX7_hasRoom cX7_hasRoom 1 (some .boolean) 0 0 ph g n0 o Go)  (w : pj_W)  (R : Int → Prop) (h0 : ∀ r, R (r) → ((some (0, r) : Option pj_V), w) = o) : pj_TG R (fR_hasRoom  w) (Go (0, [(12, 0)], [], w)) := by
  unfold fR_hasRoom
  refine pj_map (fun k => pj_aload_n hM (pc := 0) dX7_hasRoom_0 rfl rfl (pj_gf hM (pc := 1) (t := 0) dX7_hasRoom_1 fl_X7_56 (by decide) rfl 5 rfl (pj_sipush hM (pc := 4) dX7_hasRoom_4 (by decide) k))) ?_
  refine pj_tif (fun h1 => ?_) (fun h1 => ?_)
  · exact pj_tret (fun hr => pj_ic_gt_t hM (pc := 7) dX7_hasRoom_7 rfl h1 (pj_iconst hM (pc := 14) dX7_hasRoom_14 (by decide) (pj_ret hM (pc := 15) dX7_hasRoom_15 ⟨_, rfl, Or.inl rfl⟩ (h0 (0) hr) rfl)))
  exact pj_tret (fun hr => pj_ic_gt_f hM (pc := 7) 14 dX7_hasRoom_7 rfl h1 (pj_iconst hM (pc := 10) dX7_hasRoom_10 (by decide) (pj_goto hM (pc := 11) dX7_hasRoom_11 rfl (pj_ret hM (pc := 15) dX7_hasRoom_15 ⟨_, rfl, Or.inr rfl⟩ (h0 (1) hr) rfl))))
theorem cR_hasRoom   (w : pj_W) (r : Int) (h : fR_hasRoom  w = some r) : pj_Cn l yX7_hasRoom cX7_hasRoom 1 (some .boolean) 0 0 ph g [(12, 0)] w ((some (0, r) : Option pj_V), w) :=
  pj_Cn_of rfl (Nat.le_of_ble_eq_true rfl) (lls := [(12, 0)]) rfl (fun Go hM => tR_hasRoom hM w (fun x => ((some (0, x) : Option pj_V), w) = ((some (0, r) : Option pj_V), w)) (fun r h => h) r h rfl)
noncomputable def fX_feed (x1 : Int) (x2 : Int) (x3 : Int) (x4 : Int) (x5 : Int) (w : pj_W) : Option (Int × pj_W) :=
  (fR_hasRoom w).bind fun p1 => (if p1 = 0 then (some (((-1), w))) else ((fR_feedInt x1 w).bind fun p4 => ((fR_feedInt x2 p4).bind fun p6 => ((fR_feedInt x3 p6).bind fun p8 => ((fR_feedInt x4 p8).bind fun p10 => ((fR_feedInt x5 p10).bind fun p12 => (some (((p12 12 0 5), p12)))))))))
theorem tX_feed {Go : pj_C → Prop} (hM : pj_M l yX11_feed cX11_feed 6 (some .int) 1 22 true g n0 o Go) (x1 : Int) (x2 : Int) (x3 : Int) (x4 : Int) (x5 : Int) (w : pj_W)  (R : Int × pj_W → Prop) (h0 : ∀ r, R (r) → ((some (0, r.1) : Option pj_V), r.2) = o) : pj_TG R (fX_feed x1 x2 x3 x4 x5 w) (Go (0, [(10, 0), (0, x1), (0, x2), (0, x3), (0, x4), (0, x5)], [], w)) := by
  unfold fX_feed
  refine pj_tbind (fun p1 h2 => ?_)
  refine pj_map (fun k => pj_aload_n hM (pc := 0) dX11_feed_0 rfl rfl (pj_getF hM (pc := 1) (t := 12) dX11_feed_1 fl_X11_18 (by decide) rfl rfl (pj_cV hM (pc := 4) (cR_hasRoom w p1 h2) dX11_feed_4 mf_X7_hasRoom mv_X7_hasRoom ml_X11_155 kc_12 rfl rfl (by decide) rfl rfl k))) ?_
  refine pj_tif (fun h3 => ?_) (fun h3 => ?_)
  · exact pj_tret (fun hr => pj_if_ne_f hM (pc := 7) 12 dX11_feed_7 rfl (fun q => q h3) (pj_iconst hM (pc := 10) dX11_feed_10 (by decide) (pj_ret hM (pc := 11) dX11_feed_11 ⟨_, rfl⟩ (h0 (((-1), w)) hr) rfl)))
  refine pj_tbind (fun p4 h5 => ?_)
  refine pj_tbind (fun p6 h7 => ?_)
  refine pj_tbind (fun p8 h9 => ?_)
  refine pj_tbind (fun p10 h11 => ?_)
  refine pj_tbind (fun p12 h13 => ?_)
  exact pj_tret (fun hr => pj_if_ne_t hM (pc := 7) dX11_feed_7 rfl h3 (pj_aload_n hM (pc := 12) dX11_feed_12 rfl rfl (pj_getF hM (pc := 13) (t := 12) dX11_feed_13 fl_X11_18 (by decide) rfl rfl (pj_iload_n hM (pc := 16) dX11_feed_16 rfl (pj_cVv hM (pc := 17) (cR_feedInt x1 w p4 h5) dX11_feed_17 mf_X7_feedInt mv_X7_feedInt ml_X11_158 kc_12 rfl rfl (by decide) rfl rfl (pj_aload_n hM (pc := 20) dX11_feed_20 rfl rfl (pj_getF hM (pc := 21) (t := 12) dX11_feed_21 fl_X11_18 (by decide) rfl rfl (pj_iload_n hM (pc := 24) dX11_feed_24 rfl (pj_cVv hM (pc := 25) (cR_feedInt x2 p4 p6 h7) dX11_feed_25 mf_X7_feedInt mv_X7_feedInt ml_X11_158 kc_12 rfl rfl (by decide) rfl rfl (pj_aload_n hM (pc := 28) dX11_feed_28 rfl rfl (pj_getF hM (pc := 29) (t := 12) dX11_feed_29 fl_X11_18 (by decide) rfl rfl (pj_iload_n hM (pc := 32) dX11_feed_32 rfl (pj_cVv hM (pc := 33) (cR_feedInt x3 p6 p8 h9) dX11_feed_33 mf_X7_feedInt mv_X7_feedInt ml_X11_158 kc_12 rfl rfl (by decide) rfl rfl (pj_aload_n hM (pc := 36) dX11_feed_36 rfl rfl (pj_getF hM (pc := 37) (t := 12) dX11_feed_37 fl_X11_18 (by decide) rfl rfl (pj_iload hM (pc := 40) dX11_feed_40 rfl (pj_cVv hM (pc := 42) (cR_feedInt x4 p8 p10 h11) dX11_feed_42 mf_X7_feedInt mv_X7_feedInt ml_X11_158 kc_12 rfl rfl (by decide) rfl rfl (pj_aload_n hM (pc := 45) dX11_feed_45 rfl rfl (pj_getF hM (pc := 46) (t := 12) dX11_feed_46 fl_X11_18 (by decide) rfl rfl (pj_iload hM (pc := 49) dX11_feed_49 rfl (pj_cVv hM (pc := 51) (cR_feedInt x5 p10 p12 h13) dX11_feed_51 mf_X7_feedInt mv_X7_feedInt ml_X11_158 kc_12 rfl rfl (by decide) rfl rfl (pj_aload_n hM (pc := 54) dX11_feed_54 rfl rfl (pj_getF hM (pc := 55) (t := 12) dX11_feed_55 fl_X11_18 (by decide) rfl rfl (pj_gf hM (pc := 58) (t := 0) dX11_feed_58 fl_X11_162 (by decide) rfl 5 rfl (pj_ret hM (pc := 61) dX11_feed_61 ⟨_, rfl⟩ (h0 (((p12 12 0 5), p12)) hr) rfl)))))))))))))))))))))))))
theorem cX_feed (x1 : Int) (x2 : Int) (x3 : Int) (x4 : Int) (x5 : Int)  (w : pj_W) (r : Int × pj_W) (h : fX_feed x1 x2 x3 x4 x5 w = some r) : pj_Cn l yX11_feed cX11_feed 6 (some .int) 1 22 true g [(10, 0), (0, x1), (0, x2), (0, x3), (0, x4), (0, x5)] w ((some (0, r.1) : Option pj_V), r.2) :=
  pj_Cn_of rfl (Nat.le_of_ble_eq_true rfl) (lls := [(10, 0), (0, x1), (0, x2), (0, x3), (0, x4), (0, x5)]) rfl (fun Go hM => tX_feed hM x1 x2 x3 x4 x5 w (fun x => ((some (0, x.1) : Option pj_V), x.2) = ((some (0, r.1) : Option pj_V), r.2)) (fun r h => h) r h rfl)
noncomputable def fX_find (x1 : Int) (x2 : Int) (w : pj_W) : Option (Int × pj_W) :=
  if 0 ≤ (w 10 0 10) then ((fB_findAt (w 10 0 10) x1 w).bind fun p2 => (if p2 < 0 then ((fX_refuse 1 w).bind fun p5 => (some ((p5.1, p5.2)))) else (if x2 = 0 then ((fX_answer (w 23 p2 3) w).bind fun p8 => (some ((p8.1, p8.2)))) else if x2 = 1 then ((fX_answer (w 23 p2 4) w).bind fun p11 => (some ((p11.1, p11.2)))) else if x2 = 2 then ((fX_answer (w 23 p2 6) w).bind fun p14 => (some ((p14.1, p14.2)))) else ((fX_refuse 1 w).bind fun p16 => (some ((p16.1, p16.2))))))) else none
theorem tX_find {Go : pj_C → Prop} (hM : pj_M l yX11_find cX11_find 4 (some .int) 1 21 true g n0 o Go) (x1 : Int) (x2 : Int) (w : pj_W)  (R : Int × pj_W → Prop) (h0 : ∀ r, R (r) → ((some (0, r.1) : Option pj_V), r.2) = o) : pj_TG R (fX_find x1 x2 w) (Go (0, [(10, 0), (0, x1), (0, x2), (9, 0)], [], w)) := by
  unfold fX_find
  refine pj_tgd (fun h1 => ?_)
  refine pj_tbind (fun p2 h3 => ?_)
  refine pj_map (fun k => pj_aload_n hM (pc := 0) dX11_find_0 rfl rfl (pj_gf hM (pc := 1) (t := 19) dX11_find_1 fl_X11_69 (by decide) rfl 10 rfl (pj_iload_n hM (pc := 4) dX11_find_4 rfl (pj_cV hM (pc := 5) (cB_findAt (w 10 0 10) x1 h1 w p2 h3) dX11_find_5 mf_X0_findAt mv_X0_findAt ml_X11_237 kc_19 rfl rfl h1 rfl rfl (pj_astore_n hM (pc := 8) dX11_find_8 (by decide) (by decide) (lls' := [(10, 0), (0, x1), (0, x2), (23, p2)]) rfl (pj_aload_n hM (pc := 9) dX11_find_9 rfl rfl k)))))) ?_
  refine pj_tif (fun h4 => ?_) (fun h4 => ?_)
  · refine pj_tbind (fun p5 h6 => ?_)
    exact pj_tret (fun hr => pj_nonnull_f hM (pc := 10) 19 dX11_find_10 rfl (by decide) h4 (pj_aload_n hM (pc := 13) dX11_find_13 rfl rfl (pj_iconst hM (pc := 14) dX11_find_14 (by decide) (pj_cV hM (pc := 15) (cX_refuse 1 w p5 h6) dX11_find_15 mf_X11_refuse mv_X11_refuse ml_X11_100 kc_10 rfl rfl (by decide) rfl rfl (pj_ret hM (pc := 18) dX11_find_18 ⟨_, rfl⟩ (h0 ((p5.1, p5.2)) hr) rfl)))))
  refine pj_map (fun k => pj_nonnull_t hM (pc := 10) dX11_find_10 rfl (by decide) h4 (pj_iload_n hM (pc := 19) dX11_find_19 rfl k)) ?_
  refine pj_tif (fun h7 => ?_) (fun h7 => ?_)
  · refine pj_tbind (fun p8 h9 => ?_)
    exact pj_tret (fun hr => pj_table hM (pc := 20) (tgt := 48) dX11_find_20 (by decide) (by rw [h7]; decide) (pj_aload_n hM (pc := 48) dX11_find_48 rfl rfl (pj_aload_n hM (pc := 49) dX11_find_49 rfl rfl (pj_gf hM (pc := 50) (t := 0) dX11_find_50 fl_X11_241 (Int.not_lt.mp h4) rfl 3 rfl (pj_cV hM (pc := 53) (cX_answer (w 23 p2 3) w p8 h9) dX11_find_53 mf_X11_answer mv_X11_answer ml_X11_96 kc_10 rfl rfl (by decide) rfl rfl (pj_ret hM (pc := 56) dX11_find_56 ⟨_, rfl⟩ (h0 ((p8.1, p8.2)) hr) rfl))))))
  refine pj_tif (fun h10 => ?_) (fun h10 => ?_)
  · refine pj_tbind (fun p11 h12 => ?_)
    exact pj_tret (fun hr => pj_table hM (pc := 20) (tgt := 57) dX11_find_20 (by decide) (by rw [h10]; decide) (pj_aload_n hM (pc := 57) dX11_find_57 rfl rfl (pj_aload_n hM (pc := 58) dX11_find_58 rfl rfl (pj_gf hM (pc := 59) (t := 0) dX11_find_59 fl_X11_244 (Int.not_lt.mp h4) rfl 4 rfl (pj_cV hM (pc := 62) (cX_answer (w 23 p2 4) w p11 h12) dX11_find_62 mf_X11_answer mv_X11_answer ml_X11_96 kc_10 rfl rfl (by decide) rfl rfl (pj_ret hM (pc := 65) dX11_find_65 ⟨_, rfl⟩ (h0 ((p11.1, p11.2)) hr) rfl))))))
  refine pj_tif (fun h13 => ?_) (fun h13 => ?_)
  · refine pj_tbind (fun p14 h15 => ?_)
    exact pj_tret (fun hr => pj_table hM (pc := 20) (tgt := 66) dX11_find_20 (by decide) (by rw [h13]; decide) (pj_aload_n hM (pc := 66) dX11_find_66 rfl rfl (pj_aload_n hM (pc := 67) dX11_find_67 rfl rfl (pj_gf hM (pc := 68) (t := 0) dX11_find_68 fl_X11_247 (Int.not_lt.mp h4) rfl 6 rfl (pj_cV hM (pc := 71) (cX_answer (w 23 p2 6) w p14 h15) dX11_find_71 mf_X11_answer mv_X11_answer ml_X11_96 kc_10 rfl rfl (by decide) rfl rfl (pj_ret hM (pc := 74) dX11_find_74 ⟨_, rfl⟩ (h0 ((p14.1, p14.2)) hr) rfl))))))
  refine pj_tbind (fun p16 h17 => ?_)
  exact pj_tret (fun hr => pj_table hM (pc := 20) (tgt := 75) dX11_find_20 (by decide) (by have e9 : x2 < 0 ∨ 2 < x2 := (by omega); unfold pj_tab; rw [if_pos e9]; decide) (pj_aload_n hM (pc := 75) dX11_find_75 rfl rfl (pj_iconst hM (pc := 76) dX11_find_76 (by decide) (pj_cV hM (pc := 77) (cX_refuse 1 w p16 h17) dX11_find_77 mf_X11_refuse mv_X11_refuse ml_X11_100 kc_10 rfl rfl (by decide) rfl rfl (pj_ret hM (pc := 80) dX11_find_80 ⟨_, rfl⟩ (h0 ((p16.1, p16.2)) hr) rfl)))))
theorem cX_find (x1 : Int) (x2 : Int)  (w : pj_W) (r : Int × pj_W) (h : fX_find x1 x2 w = some r) : pj_Cn l yX11_find cX11_find 4 (some .int) 1 21 true g [(10, 0), (0, x1), (0, x2)] w ((some (0, r.1) : Option pj_V), r.2) :=
  pj_Cn_of rfl (Nat.le_of_ble_eq_true rfl) (lls := [(10, 0), (0, x1), (0, x2), (9, 0)]) rfl (fun Go hM => tX_find hM x1 x2 w (fun x => ((some (0, x.1) : Option pj_V), x.2) = ((some (0, r.1) : Option pj_V), r.2)) (fun r h => h) r h rfl)
noncomputable def fX_finder (x1 : Int) (x2 : Int) (w : pj_W) : Option (Int × pj_W) :=
  if 0 ≤ (w 10 0 10) then ((fB_finderAt (w 10 0 10) x1 w).bind fun p2 => (if p2 < 0 then ((fX_refuse 1 w).bind fun p5 => (some ((p5.1, p5.2)))) else (if x2 = 0 then ((fX_answer (w 22 p2 1) w).bind fun p8 => (some ((p8.1, p8.2)))) else if x2 = 1 then ((fX_answer (w 22 p2 2) w).bind fun p11 => (some ((p11.1, p11.2)))) else if x2 = 2 then ((fX_answer (w 22 p2 3) w).bind fun p14 => (some ((p14.1, p14.2)))) else if x2 = 3 then ((fX_answer (w 22 p2 4) w).bind fun p17 => (some ((p17.1, p17.2)))) else if x2 = 4 then ((fX_answer (w 22 p2 5) w).bind fun p20 => (some ((p20.1, p20.2)))) else ((fX_refuse 1 w).bind fun p22 => (some ((p22.1, p22.2))))))) else none
theorem tX_finder {Go : pj_C → Prop} (hM : pj_M l yX11_finder cX11_finder 4 (some .int) 1 21 true g n0 o Go) (x1 : Int) (x2 : Int) (w : pj_W)  (R : Int × pj_W → Prop) (h0 : ∀ r, R (r) → ((some (0, r.1) : Option pj_V), r.2) = o) : pj_TG R (fX_finder x1 x2 w) (Go (0, [(10, 0), (0, x1), (0, x2), (9, 0)], [], w)) := by
  unfold fX_finder
  refine pj_tgd (fun h1 => ?_)
  refine pj_tbind (fun p2 h3 => ?_)
  refine pj_map (fun k => pj_aload_n hM (pc := 0) dX11_finder_0 rfl rfl (pj_gf hM (pc := 1) (t := 19) dX11_finder_1 fl_X11_69 (by decide) rfl 10 rfl (pj_iload_n hM (pc := 4) dX11_finder_4 rfl (pj_cV hM (pc := 5) (cB_finderAt (w 10 0 10) x1 h1 w p2 h3) dX11_finder_5 mf_X0_finderAt mv_X0_finderAt ml_X11_216 kc_19 rfl rfl h1 rfl rfl (pj_astore_n hM (pc := 8) dX11_finder_8 (by decide) (by decide) (lls' := [(10, 0), (0, x1), (0, x2), (22, p2)]) rfl (pj_aload_n hM (pc := 9) dX11_finder_9 rfl rfl k)))))) ?_
  refine pj_tif (fun h4 => ?_) (fun h4 => ?_)
  · refine pj_tbind (fun p5 h6 => ?_)
    exact pj_tret (fun hr => pj_nonnull_f hM (pc := 10) 19 dX11_finder_10 rfl (by decide) h4 (pj_aload_n hM (pc := 13) dX11_finder_13 rfl rfl (pj_iconst hM (pc := 14) dX11_finder_14 (by decide) (pj_cV hM (pc := 15) (cX_refuse 1 w p5 h6) dX11_finder_15 mf_X11_refuse mv_X11_refuse ml_X11_100 kc_10 rfl rfl (by decide) rfl rfl (pj_ret hM (pc := 18) dX11_finder_18 ⟨_, rfl⟩ (h0 ((p5.1, p5.2)) hr) rfl)))))
  refine pj_map (fun k => pj_nonnull_t hM (pc := 10) dX11_finder_10 rfl (by decide) h4 (pj_iload_n hM (pc := 19) dX11_finder_19 rfl k)) ?_
  refine pj_tif (fun h7 => ?_) (fun h7 => ?_)
  · refine pj_tbind (fun p8 h9 => ?_)
    exact pj_tret (fun hr => pj_table hM (pc := 20) (tgt := 56) dX11_finder_20 (by decide) (by rw [h7]; decide) (pj_aload_n hM (pc := 56) dX11_finder_56 rfl rfl (pj_aload_n hM (pc := 57) dX11_finder_57 rfl rfl (pj_gf hM (pc := 58) (t := 0) dX11_finder_58 fl_X11_220 (Int.not_lt.mp h4) rfl 1 rfl (pj_cV hM (pc := 61) (cX_answer (w 22 p2 1) w p8 h9) dX11_finder_61 mf_X11_answer mv_X11_answer ml_X11_96 kc_10 rfl rfl (by decide) rfl rfl (pj_ret hM (pc := 64) dX11_finder_64 ⟨_, rfl⟩ (h0 ((p8.1, p8.2)) hr) rfl))))))
  refine pj_tif (fun h10 => ?_) (fun h10 => ?_)
  · refine pj_tbind (fun p11 h12 => ?_)
    exact pj_tret (fun hr => pj_table hM (pc := 20) (tgt := 65) dX11_finder_20 (by decide) (by rw [h10]; decide) (pj_aload_n hM (pc := 65) dX11_finder_65 rfl rfl (pj_aload_n hM (pc := 66) dX11_finder_66 rfl rfl (pj_gf hM (pc := 67) (t := 0) dX11_finder_67 fl_X11_225 (Int.not_lt.mp h4) rfl 2 rfl (pj_cV hM (pc := 70) (cX_answer (w 22 p2 2) w p11 h12) dX11_finder_70 mf_X11_answer mv_X11_answer ml_X11_96 kc_10 rfl rfl (by decide) rfl rfl (pj_ret hM (pc := 73) dX11_finder_73 ⟨_, rfl⟩ (h0 ((p11.1, p11.2)) hr) rfl))))))
  refine pj_tif (fun h13 => ?_) (fun h13 => ?_)
  · refine pj_tbind (fun p14 h15 => ?_)
    exact pj_tret (fun hr => pj_table hM (pc := 20) (tgt := 74) dX11_finder_20 (by decide) (by rw [h13]; decide) (pj_aload_n hM (pc := 74) dX11_finder_74 rfl rfl (pj_aload_n hM (pc := 75) dX11_finder_75 rfl rfl (pj_gf hM (pc := 76) (t := 0) dX11_finder_76 fl_X11_228 (Int.not_lt.mp h4) rfl 3 rfl (pj_cV hM (pc := 79) (cX_answer (w 22 p2 3) w p14 h15) dX11_finder_79 mf_X11_answer mv_X11_answer ml_X11_96 kc_10 rfl rfl (by decide) rfl rfl (pj_ret hM (pc := 82) dX11_finder_82 ⟨_, rfl⟩ (h0 ((p14.1, p14.2)) hr) rfl))))))
  refine pj_tif (fun h16 => ?_) (fun h16 => ?_)
  · refine pj_tbind (fun p17 h18 => ?_)
    exact pj_tret (fun hr => pj_table hM (pc := 20) (tgt := 83) dX11_finder_20 (by decide) (by rw [h16]; decide) (pj_aload_n hM (pc := 83) dX11_finder_83 rfl rfl (pj_aload_n hM (pc := 84) dX11_finder_84 rfl rfl (pj_gf hM (pc := 85) (t := 0) dX11_finder_85 fl_X11_231 (Int.not_lt.mp h4) rfl 4 rfl (pj_cV hM (pc := 88) (cX_answer (w 22 p2 4) w p17 h18) dX11_finder_88 mf_X11_answer mv_X11_answer ml_X11_96 kc_10 rfl rfl (by decide) rfl rfl (pj_ret hM (pc := 91) dX11_finder_91 ⟨_, rfl⟩ (h0 ((p17.1, p17.2)) hr) rfl))))))
  refine pj_tif (fun h19 => ?_) (fun h19 => ?_)
  · refine pj_tbind (fun p20 h21 => ?_)
    exact pj_tret (fun hr => pj_table hM (pc := 20) (tgt := 92) dX11_finder_20 (by decide) (by rw [h19]; decide) (pj_aload_n hM (pc := 92) dX11_finder_92 rfl rfl (pj_aload_n hM (pc := 93) dX11_finder_93 rfl rfl (pj_gf hM (pc := 94) (t := 0) dX11_finder_94 fl_X11_234 (Int.not_lt.mp h4) rfl 5 rfl (pj_cV hM (pc := 97) (cX_answer (w 22 p2 5) w p20 h21) dX11_finder_97 mf_X11_answer mv_X11_answer ml_X11_96 kc_10 rfl rfl (by decide) rfl rfl (pj_ret hM (pc := 100) dX11_finder_100 ⟨_, rfl⟩ (h0 ((p20.1, p20.2)) hr) rfl))))))
  refine pj_tbind (fun p22 h23 => ?_)
  exact pj_tret (fun hr => pj_table hM (pc := 20) (tgt := 101) dX11_finder_20 (by decide) (by have e9 : x2 < 0 ∨ 4 < x2 := (by omega); unfold pj_tab; rw [if_pos e9]; decide) (pj_aload_n hM (pc := 101) dX11_finder_101 rfl rfl (pj_iconst hM (pc := 102) dX11_finder_102 (by decide) (pj_cV hM (pc := 103) (cX_refuse 1 w p22 h23) dX11_finder_103 mf_X11_refuse mv_X11_refuse ml_X11_100 kc_10 rfl rfl (by decide) rfl rfl (pj_ret hM (pc := 106) dX11_finder_106 ⟨_, rfl⟩ (h0 ((p22.1, p22.2)) hr) rfl)))))
theorem cX_finder (x1 : Int) (x2 : Int)  (w : pj_W) (r : Int × pj_W) (h : fX_finder x1 x2 w = some r) : pj_Cn l yX11_finder cX11_finder 4 (some .int) 1 21 true g [(10, 0), (0, x1), (0, x2)] w ((some (0, r.1) : Option pj_V), r.2) :=
  pj_Cn_of rfl (Nat.le_of_ble_eq_true rfl) (lls := [(10, 0), (0, x1), (0, x2), (9, 0)]) rfl (fun Go hM => tX_finder hM x1 x2 w (fun x => ((some (0, x.1) : Option pj_V), x.2) = ((some (0, r.1) : Option pj_V), r.2)) (fun r h => h) r h rfl)
noncomputable def fB_soonestOf (i0 : Int) (x1 : Int) (x2 : Int) (w : pj_W) : Option (Int) :=
  (fB_finderAt i0 x1 w).bind fun p1 => (if p1 < 0 then (some ((-1))) else (if 0 ≤ x2 then (if (w 23 x2 5) = 0 then (some ((-1))) else (if (w 22 p1 3) = 0 then (some ((-1))) else ((fF_minutesTo p1 (w 23 x2 3) w).bind fun p7 => ((fN_behindOthers x2 x1 w).bind fun p9 => (if (w 19 i0 3) < (max (pj_wr ((w 22 p1 4) + p7)) p9) then (some ((-1))) else (some ((max (pj_wr ((w 22 p1 4) + p7)) p9)))))))) else none))
theorem tB_soonestOf {Go : pj_C → Prop} (hM : pj_M l yX0_soonestOf cX0_soonestOf 5 (some .int) 2 42 true g n0 o Go) (i0 : Int) (x1 : Int) (x2 : Int) (w : pj_W) (hn0 : 0 ≤ i0) (R : Int → Prop) (h0 : ∀ r, R (r) → ((some (0, r) : Option pj_V), w) = o) : pj_TG R (fB_soonestOf i0 x1 x2 w) (Go (0, [(19, i0), (0, x1), (23, x2), (9, 0), (9, 0)], [], w)) := by
  unfold fB_soonestOf
  refine pj_tbind (fun p1 h2 => ?_)
  refine pj_map (fun k => pj_aload_n hM (pc := 0) dX0_soonestOf_0 rfl rfl (pj_iload_n hM (pc := 1) dX0_soonestOf_1 rfl (pj_cV hM (pc := 2) (cB_finderAt i0 x1 hn0 w p1 h2) dX0_soonestOf_2 mf_X0_finderAt mv_X0_finderAt ml_X0_95 kc_19 rfl rfl hn0 rfl rfl (pj_astore_n hM (pc := 5) dX0_soonestOf_5 (by decide) (by decide) (lls' := [(19, i0), (0, x1), (23, x2), (22, p1), (9, 0)]) rfl (pj_aload_n hM (pc := 6) dX0_soonestOf_6 rfl rfl k))))) ?_
  refine pj_tif (fun h3 => ?_) (fun h3 => ?_)
  · exact pj_tret (fun hr => pj_null_t hM (pc := 7) dX0_soonestOf_7 rfl (by decide) h3 (pj_iconst hM (pc := 24) dX0_soonestOf_24 (by decide) (pj_ret hM (pc := 25) dX0_soonestOf_25 ⟨_, rfl⟩ (h0 ((-1)) hr) rfl)))
  refine pj_tgd (fun h4 => ?_)
  refine pj_map (fun k => pj_null_f hM (pc := 7) 24 dX0_soonestOf_7 rfl (by decide) h3 (pj_aload_n hM (pc := 10) dX0_soonestOf_10 rfl rfl (pj_gf hM (pc := 11) (t := 0) dX0_soonestOf_11 fl_X0_84 h4 rfl 5 rfl k))) ?_
  refine pj_tif (fun h5 => ?_) (fun h5 => ?_)
  · exact pj_tret (fun hr => pj_if_eq_t hM (pc := 14) dX0_soonestOf_14 rfl h5 (pj_iconst hM (pc := 24) dX0_soonestOf_24 (by decide) (pj_ret hM (pc := 25) dX0_soonestOf_25 ⟨_, rfl⟩ (h0 ((-1)) hr) rfl)))
  refine pj_map (fun k => pj_if_eq_f hM (pc := 14) 24 dX0_soonestOf_14 rfl h5 (pj_aload_n hM (pc := 17) dX0_soonestOf_17 rfl rfl (pj_gf hM (pc := 18) (t := 0) dX0_soonestOf_18 fl_X0_70 (Int.not_lt.mp h3) rfl 3 rfl k))) ?_
  refine pj_tif (fun h6 => ?_) (fun h6 => ?_)
  · exact pj_tret (fun hr => pj_if_ne_f hM (pc := 21) 26 dX0_soonestOf_21 rfl (fun q => q h6) (pj_iconst hM (pc := 24) dX0_soonestOf_24 (by decide) (pj_ret hM (pc := 25) dX0_soonestOf_25 ⟨_, rfl⟩ (h0 ((-1)) hr) rfl)))
  refine pj_tbind (fun p7 h8 => ?_)
  refine pj_tbind (fun p9 h10 => ?_)
  refine pj_map (fun k => pj_if_ne_t hM (pc := 21) dX0_soonestOf_21 rfl h6 (pj_aload_n hM (pc := 26) dX0_soonestOf_26 rfl rfl (pj_gf hM (pc := 27) (t := 0) dX0_soonestOf_27 fl_X0_73 (Int.not_lt.mp h3) rfl 4 rfl (pj_aload_n hM (pc := 30) dX0_soonestOf_30 rfl rfl (pj_aload_n hM (pc := 31) dX0_soonestOf_31 rfl rfl (pj_gf hM (pc := 32) (t := 0) dX0_soonestOf_32 fl_X0_80 h4 rfl 3 rfl (pj_cV hM (pc := 35) (cF_minutesTo p1 (w 23 x2 3) (Int.not_lt.mp h3) w p7 h8) dX0_soonestOf_35 mf_X5_minutesTo mv_X5_minutesTo ml_X0_99 kc_22 rfl rfl (Int.not_lt.mp h3) rfl rfl (pj_iadd hM (pc := 38) dX0_soonestOf_38 (pj_aload_n hM (pc := 39) dX0_soonestOf_39 rfl rfl (pj_iload_n hM (pc := 40) dX0_soonestOf_40 rfl (pj_cV hM (pc := 41) (cN_behindOthers x2 x1 h4 w p9 h10) dX0_soonestOf_41 mf_X4_behindOthers mv_X4_behindOthers ml_X0_185 kc_23 rfl rfl h4 rfl rfl (pj_mmax hM (pc := 44) dX0_soonestOf_44 mf_J9_max_7cf53 ms_J9_max_7cf53 ml_X0_157 rfl (pj_istore hM (pc := 47) dX0_soonestOf_47 (by decide) (lls' := [(19, i0), (0, x1), (23, x2), (22, p1), (0, (max (pj_wr ((w 22 p1 4) + p7)) p9))]) rfl (pj_iload hM (pc := 49) dX0_soonestOf_49 rfl (pj_aload_n hM (pc := 51) dX0_soonestOf_51 rfl rfl (pj_gf hM (pc := 52) (t := 0) dX0_soonestOf_52 fl_X0_32 hn0 rfl 3 rfl k)))))))))))))))) ?_
  refine pj_tif (fun h11 => ?_) (fun h11 => ?_)
  · exact pj_tret (fun hr => pj_ic_gt_t hM (pc := 55) dX0_soonestOf_55 rfl h11 (pj_iconst hM (pc := 63) dX0_soonestOf_63 (by decide) (pj_ret hM (pc := 64) dX0_soonestOf_64 ⟨_, rfl⟩ (h0 ((-1)) hr) rfl)))
  exact pj_tret (fun hr => pj_ic_gt_f hM (pc := 55) 63 dX0_soonestOf_55 rfl h11 (pj_iload hM (pc := 58) dX0_soonestOf_58 rfl (pj_goto hM (pc := 60) dX0_soonestOf_60 rfl (pj_ret hM (pc := 64) dX0_soonestOf_64 ⟨_, rfl⟩ (h0 ((max (pj_wr ((w 22 p1 4) + p7)) p9)) hr) rfl))))
theorem cB_soonestOf (i0 : Int) (x1 : Int) (x2 : Int) (hn0 : 0 ≤ i0) (w : pj_W) (r : Int) (h : fB_soonestOf i0 x1 x2 w = some r) : pj_Cn l yX0_soonestOf cX0_soonestOf 5 (some .int) 2 42 true g [(19, i0), (0, x1), (23, x2)] w ((some (0, r) : Option pj_V), w) :=
  pj_Cn_of rfl (Nat.le_of_ble_eq_true rfl) (lls := [(19, i0), (0, x1), (23, x2), (9, 0), (9, 0)]) rfl (fun Go hM => tB_soonestOf hM i0 x1 x2 w hn0 (fun x => ((some (0, x) : Option pj_V), w) = ((some (0, r) : Option pj_V), w)) (fun r h => h) r h rfl)
noncomputable def fX_gain_24  (w : pj_W) : Option (Int × pj_W) :=
  (fX_refuse 1 w).bind fun p1 => (some ((p1.1, p1.2)))
noncomputable def fX_gain (x1 : Int) (x2 : Int) (w : pj_W) : Option (Int × pj_W) :=
  if 0 ≤ (w 10 0 10) then ((fB_findAt (w 10 0 10) x2 w).bind fun p2 => ((fB_finderAt (w 10 0 10) x1 w).bind fun p4 => (if p4 < 0 then (fX_gain_24 w) else (if p2 < 0 then (fX_gain_24 w) else ((fB_soonestOf (w 10 0 10) x1 p2 w).bind fun p8 => (if p8 = (-1) then ((fX_refuse 7 w).bind fun p11 => (some ((p11.1, p11.2)))) else ((fB_shareOf (w 10 0 10) x1 p2 w).bind fun p13 => ((fX_answer (pj_wr ((w 23 p2 4) - p13)) w).bind fun p15 => (some ((p15.1, p15.2))))))))))) else none
theorem tX_gain_24 {Go : pj_C → Prop} (hM : pj_M l yX11_gain cX11_gain 4 (some .int) 3 68 true g n0 o Go)  (w : pj_W)  (R : Int × pj_W → Prop) (h0 : ∀ r, R (r) → ((some (0, r.1) : Option pj_V), r.2) = o) : pj_TG R (fX_gain_24  w) (Go (24, [(10, 0), (9, 0), (9, 0), (9, 0)], [], w)) := by
  unfold fX_gain_24
  refine pj_tbind (fun p1 h2 => ?_)
  exact pj_tret (fun hr => pj_aload_n hM (pc := 24) dX11_gain_24 rfl rfl (pj_iconst hM (pc := 25) dX11_gain_25 (by decide) (pj_cV hM (pc := 26) (cX_refuse 1 w p1 h2) dX11_gain_26 mf_X11_refuse mv_X11_refuse ml_X11_100 kc_10 rfl rfl (by decide) rfl rfl (pj_ret hM (pc := 29) dX11_gain_29 ⟨_, rfl⟩ (h0 ((p1.1, p1.2)) hr) rfl))))
theorem tX_gain {Go : pj_C → Prop} (hM : pj_M l yX11_gain cX11_gain 4 (some .int) 3 68 true g n0 o Go) (x1 : Int) (x2 : Int) (w : pj_W)  (R : Int × pj_W → Prop) (h0 : ∀ r, R (r) → ((some (0, r.1) : Option pj_V), r.2) = o) : pj_TG R (fX_gain x1 x2 w) (Go (0, [(10, 0), (0, x1), (0, x2), (9, 0)], [], w)) := by
  unfold fX_gain
  refine pj_tgd (fun h1 => ?_)
  refine pj_tbind (fun p2 h3 => ?_)
  refine pj_tbind (fun p4 h5 => ?_)
  refine pj_map (fun k => pj_aload_n hM (pc := 0) dX11_gain_0 rfl rfl (pj_gf hM (pc := 1) (t := 19) dX11_gain_1 fl_X11_69 (by decide) rfl 10 rfl (pj_iload_n hM (pc := 4) dX11_gain_4 rfl (pj_cV hM (pc := 5) (cB_findAt (w 10 0 10) x2 h1 w p2 h3) dX11_gain_5 mf_X0_findAt mv_X0_findAt ml_X11_237 kc_19 rfl rfl h1 rfl rfl (pj_astore_n hM (pc := 8) dX11_gain_8 (by decide) (by decide) (lls' := [(10, 0), (0, x1), (0, x2), (23, p2)]) rfl (pj_aload_n hM (pc := 9) dX11_gain_9 rfl rfl (pj_gf hM (pc := 10) (t := 19) dX11_gain_10 fl_X11_69 (by decide) rfl 10 rfl (pj_iload_n hM (pc := 13) dX11_gain_13 rfl (pj_cV hM (pc := 14) (cB_finderAt (w 10 0 10) x1 h1 w p4 h5) dX11_gain_14 mf_X0_finderAt mv_X0_finderAt ml_X11_216 kc_19 rfl rfl h1 rfl rfl k))))))))) ?_
  refine pj_tif (fun h6 => ?_) (fun h6 => ?_)
  · refine pj_map (fun k => pj_null_t hM (pc := 17) dX11_gain_17 rfl (by decide) h6 (pj_kill hM [true, false, false, false] (lls' := [(10, 0), (9, 0), (9, 0), (9, 0)]) rfl k)) ?_
    exact tX_gain_24 hM w _ h0
  refine pj_map (fun k => pj_null_f hM (pc := 17) 24 dX11_gain_17 rfl (by decide) h6 (pj_aload_n hM (pc := 20) dX11_gain_20 rfl rfl k)) ?_
  refine pj_tif (fun h7 => ?_) (fun h7 => ?_)
  · refine pj_map (fun k => pj_nonnull_f hM (pc := 21) 30 dX11_gain_21 rfl (by decide) h7 (pj_kill hM [true, false, false, false] (lls' := [(10, 0), (9, 0), (9, 0), (9, 0)]) rfl k)) ?_
    exact tX_gain_24 hM w _ h0
  refine pj_tbind (fun p8 h9 => ?_)
  refine pj_map (fun k => pj_nonnull_t hM (pc := 21) dX11_gain_21 rfl (by decide) h7 (pj_aload_n hM (pc := 30) dX11_gain_30 rfl rfl (pj_gf hM (pc := 31) (t := 19) dX11_gain_31 fl_X11_69 (by decide) rfl 10 rfl (pj_iload_n hM (pc := 34) dX11_gain_34 rfl (pj_aload_n hM (pc := 35) dX11_gain_35 rfl rfl (pj_cV hM (pc := 36) (cB_soonestOf (w 10 0 10) x1 p2 h1 w p8 h9) dX11_gain_36 mf_X0_soonestOf mv_X0_soonestOf ml_X11_315 kc_19 rfl rfl h1 rfl rfl (pj_iconst hM (pc := 39) dX11_gain_39 (by decide) k))))))) ?_
  refine pj_tif (fun h10 => ?_) (fun h10 => ?_)
  · refine pj_tbind (fun p11 h12 => ?_)
    exact pj_tret (fun hr => pj_ic_ne_f hM (pc := 40) 50 dX11_gain_40 rfl (fun q => q h10) (pj_aload_n hM (pc := 43) dX11_gain_43 rfl rfl (pj_bipush hM (pc := 44) dX11_gain_44 (by decide) (pj_cV hM (pc := 46) (cX_refuse 7 w p11 h12) dX11_gain_46 mf_X11_refuse mv_X11_refuse ml_X11_100 kc_10 rfl rfl (by decide) rfl rfl (pj_ret hM (pc := 49) dX11_gain_49 ⟨_, rfl⟩ (h0 ((p11.1, p11.2)) hr) rfl)))))
  refine pj_tbind (fun p13 h14 => ?_)
  refine pj_tbind (fun p15 h16 => ?_)
  exact pj_tret (fun hr => pj_ic_ne_t hM (pc := 40) dX11_gain_40 rfl h10 (pj_aload_n hM (pc := 50) dX11_gain_50 rfl rfl (pj_aload_n hM (pc := 51) dX11_gain_51 rfl rfl (pj_gf hM (pc := 52) (t := 0) dX11_gain_52 fl_X11_244 (Int.not_lt.mp h7) rfl 4 rfl (pj_aload_n hM (pc := 55) dX11_gain_55 rfl rfl (pj_gf hM (pc := 56) (t := 19) dX11_gain_56 fl_X11_69 (by decide) rfl 10 rfl (pj_iload_n hM (pc := 59) dX11_gain_59 rfl (pj_aload_n hM (pc := 60) dX11_gain_60 rfl rfl (pj_cV hM (pc := 61) (cB_shareOf (w 10 0 10) x1 p2 h1 w p13 h14) dX11_gain_61 mf_X0_shareOf mv_X0_shareOf ml_X11_368 kc_19 rfl rfl h1 rfl rfl (pj_isub hM (pc := 64) dX11_gain_64 (pj_cV hM (pc := 65) (cX_answer (pj_wr ((w 23 p2 4) - p13)) w p15 h16) dX11_gain_65 mf_X11_answer mv_X11_answer ml_X11_96 kc_10 rfl rfl (by decide) rfl rfl (pj_ret hM (pc := 68) dX11_gain_68 ⟨_, rfl⟩ (h0 ((p15.1, p15.2)) hr) rfl))))))))))))
theorem cX_gain (x1 : Int) (x2 : Int)  (w : pj_W) (r : Int × pj_W) (h : fX_gain x1 x2 w = some r) : pj_Cn l yX11_gain cX11_gain 4 (some .int) 3 68 true g [(10, 0), (0, x1), (0, x2)] w ((some (0, r.1) : Option pj_V), r.2) :=
  pj_Cn_of rfl (Nat.le_of_ble_eq_true rfl) (lls := [(10, 0), (0, x1), (0, x2), (9, 0)]) rfl (fun Go hM => tX_gain hM x1 x2 w (fun x => ((some (0, x.1) : Option pj_V), x.2) = ((some (0, r.1) : Option pj_V), r.2)) (fun r h => h) r h rfl)
noncomputable def fB_spend (i0 : Int) (x1 : Int) (x2 : Int) (w : pj_W) : Option (Int × pj_W) :=
  if 0 ≤ x1 then (if x2 ≤ (pj_wr ((w 19 i0 3) - (w 22 x1 4))) then ((fB_done i0 ((pj_set w 22 x1 4 (pj_wr ((w 22 x1 4) + x2))) 22 x1 4) (pj_set w 22 x1 4 (pj_wr ((w 22 x1 4) + x2)))).bind fun p3 => (some ((p3.1, p3.2)))) else (some ((7, w)))) else none
theorem tB_spend {Go : pj_C → Prop} (hM : pj_M l yX0_spend cX0_spend 3 (some .int) 1 21 ph g n0 o Go) (i0 : Int) (x1 : Int) (x2 : Int) (w : pj_W) (hn0 : 0 ≤ i0) (R : Int × pj_W → Prop) (h0 : ∀ r, R (r) → ((some (0, r.1) : Option pj_V), r.2) = o) : pj_TG R (fB_spend i0 x1 x2 w) (Go (0, [(19, i0), (22, x1), (0, x2)], [], w)) := by
  unfold fB_spend
  refine pj_tgd (fun h1 => ?_)
  refine pj_map (fun k => pj_iload_n hM (pc := 0) dX0_spend_0 rfl (pj_aload_n hM (pc := 1) dX0_spend_1 rfl rfl (pj_gf hM (pc := 2) (t := 0) dX0_spend_2 fl_X0_32 hn0 rfl 3 rfl (pj_aload_n hM (pc := 5) dX0_spend_5 rfl rfl (pj_gf hM (pc := 6) (t := 0) dX0_spend_6 fl_X0_73 h1 rfl 4 rfl (pj_isub hM (pc := 9) dX0_spend_9 k)))))) ?_
  refine pj_tif (fun h2 => ?_) (fun h2 => ?_)
  · refine pj_tbind (fun p3 h4 => ?_)
    exact pj_tret (fun hr => pj_ic_le_t hM (pc := 10) dX0_spend_10 rfl h2 (pj_aload_n hM (pc := 16) dX0_spend_16 rfl rfl (pj_dup hM (pc := 17) dX0_spend_17 (by decide) (pj_gf hM (pc := 18) (t := 0) dX0_spend_18 fl_X0_73 h1 rfl 4 rfl (pj_iload_n hM (pc := 21) dX0_spend_21 rfl (pj_iadd hM (pc := 22) dX0_spend_22 (pj_pf hM (pc := 23) dX0_spend_23 fl_X0_73 h1 rfl (fun h => absurd h (by decide)) (by decide) (fun _ => rfl) 4 rfl (pj_aload_n hM (pc := 26) dX0_spend_26 rfl rfl (pj_aload_n hM (pc := 27) dX0_spend_27 rfl rfl (pj_gf hM (pc := 28) (t := 0) dX0_spend_28 fl_X0_73 h1 rfl 4 rfl (pj_cV hM (pc := 31) (cB_done i0 ((pj_set w 22 x1 4 (pj_wr ((w 22 x1 4) + x2))) 22 x1 4) hn0 (pj_set w 22 x1 4 (pj_wr ((w 22 x1 4) + x2))) p3 h4) dX0_spend_31 mf_X0_done mv_X0_done ml_X0_91 kc_19 rfl rfl hn0 rfl rfl (pj_ret hM (pc := 34) dX0_spend_34 ⟨_, rfl⟩ (h0 ((p3.1, p3.2)) hr) rfl))))))))))))
  exact pj_tret (fun hr => pj_ic_le_f hM (pc := 10) 16 dX0_spend_10 rfl h2 (pj_bipush hM (pc := 13) dX0_spend_13 (by decide) (pj_ret hM (pc := 15) dX0_spend_15 ⟨_, rfl⟩ (h0 ((7, w)) hr) rfl)))
theorem cB_spend (i0 : Int) (x1 : Int) (x2 : Int) (hn0 : 0 ≤ i0) (w : pj_W) (r : Int × pj_W) (h : fB_spend i0 x1 x2 w = some r) : pj_Cn l yX0_spend cX0_spend 3 (some .int) 1 21 ph g [(19, i0), (22, x1), (0, x2)] w ((some (0, r.1) : Option pj_V), r.2) :=
  pj_Cn_of rfl (Nat.le_of_ble_eq_true rfl) (lls := [(19, i0), (22, x1), (0, x2)]) rfl (fun Go hM => tB_spend hM i0 x1 x2 w hn0 (fun x => ((some (0, x.1) : Option pj_V), x.2) = ((some (0, r.1) : Option pj_V), r.2)) (fun r h => h) r h rfl)
noncomputable def fB_walkTo (i0 : Int) (x1 : Int) (x2 : Int) (w : pj_W) : Option (Int × pj_W) :=
  (fB_finderAt i0 x1 w).bind fun p1 => (if p1 < 0 then (some ((1, w))) else (if x2 < 0 then (some ((1, w))) else (if x2 < (w 19 i0 2) then ((fF_minutesTo p1 x2 w).bind fun p6 => ((fB_spend i0 p1 p6 w).bind fun p8 => (if p8.1 = 0 then (some ((p8.1, (pj_set p8.2 22 p1 1 x2)))) else (some ((p8.1, p8.2)))))) else (some ((1, w))))))
theorem tB_walkTo {Go : pj_C → Prop} (hM : pj_M l yX0_walkTo cX0_walkTo 5 (some .int) 2 43 true g n0 o Go) (i0 : Int) (x1 : Int) (x2 : Int) (w : pj_W) (hn0 : 0 ≤ i0) (R : Int × pj_W → Prop) (h0 : ∀ r, R (r) → ((some (0, r.1) : Option pj_V), r.2) = o) : pj_TG R (fB_walkTo i0 x1 x2 w) (Go (0, [(19, i0), (0, x1), (0, x2), (9, 0), (9, 0)], [], w)) := by
  unfold fB_walkTo
  refine pj_tbind (fun p1 h2 => ?_)
  refine pj_map (fun k => pj_aload_n hM (pc := 0) dX0_walkTo_0 rfl rfl (pj_iload_n hM (pc := 1) dX0_walkTo_1 rfl (pj_cV hM (pc := 2) (cB_finderAt i0 x1 hn0 w p1 h2) dX0_walkTo_2 mf_X0_finderAt mv_X0_finderAt ml_X0_95 kc_19 rfl rfl hn0 rfl rfl (pj_astore_n hM (pc := 5) dX0_walkTo_5 (by decide) (by decide) (lls' := [(19, i0), (0, x1), (0, x2), (22, p1), (9, 0)]) rfl (pj_aload_n hM (pc := 6) dX0_walkTo_6 rfl rfl k))))) ?_
  refine pj_tif (fun h3 => ?_) (fun h3 => ?_)
  · exact pj_tret (fun hr => pj_null_t hM (pc := 7) dX0_walkTo_7 rfl (by decide) h3 (pj_iconst hM (pc := 22) dX0_walkTo_22 (by decide) (pj_ret hM (pc := 23) dX0_walkTo_23 ⟨_, rfl⟩ (h0 ((1, w)) hr) rfl)))
  refine pj_map (fun k => pj_null_f hM (pc := 7) 22 dX0_walkTo_7 rfl (by decide) h3 (pj_iload_n hM (pc := 10) dX0_walkTo_10 rfl k)) ?_
  refine pj_tif (fun h4 => ?_) (fun h4 => ?_)
  · exact pj_tret (fun hr => pj_if_lt_t hM (pc := 11) dX0_walkTo_11 rfl h4 (pj_iconst hM (pc := 22) dX0_walkTo_22 (by decide) (pj_ret hM (pc := 23) dX0_walkTo_23 ⟨_, rfl⟩ (h0 ((1, w)) hr) rfl)))
  refine pj_map (fun k => pj_if_lt_f hM (pc := 11) 22 dX0_walkTo_11 rfl h4 (pj_iload_n hM (pc := 14) dX0_walkTo_14 rfl (pj_aload_n hM (pc := 15) dX0_walkTo_15 rfl rfl (pj_gf hM (pc := 16) (t := 0) dX0_walkTo_16 fl_X0_28 hn0 rfl 2 rfl k)))) ?_
  refine pj_tif (fun h5 => ?_) (fun h5 => ?_)
  · refine pj_tbind (fun p6 h7 => ?_)
    refine pj_tbind (fun p8 h9 => ?_)
    refine pj_map (fun k => pj_ic_lt_t hM (pc := 19) dX0_walkTo_19 rfl h5 (pj_aload_n hM (pc := 24) dX0_walkTo_24 rfl rfl (pj_aload_n hM (pc := 25) dX0_walkTo_25 rfl rfl (pj_aload_n hM (pc := 26) dX0_walkTo_26 rfl rfl (pj_iload_n hM (pc := 27) dX0_walkTo_27 rfl (pj_cV hM (pc := 28) (cF_minutesTo p1 x2 (Int.not_lt.mp h3) w p6 h7) dX0_walkTo_28 mf_X5_minutesTo mv_X5_minutesTo ml_X0_99 kc_22 rfl rfl (Int.not_lt.mp h3) rfl rfl (pj_cV hM (pc := 31) (cB_spend i0 p1 p6 hn0 w p8 h9) dX0_walkTo_31 mf_X0_spend mv_X0_spend ml_X0_102 kc_19 rfl rfl hn0 rfl rfl (pj_istore hM (pc := 34) dX0_walkTo_34 (by decide) (lls' := [(19, i0), (0, x1), (0, x2), (22, p1), (0, p8.1)]) rfl (pj_iload hM (pc := 36) dX0_walkTo_36 rfl k))))))))) ?_
    refine pj_tif (fun h10 => ?_) (fun h10 => ?_)
    · exact pj_tret (fun hr => pj_if_ne_f hM (pc := 38) 46 dX0_walkTo_38 rfl (fun q => q h10) (pj_aload_n hM (pc := 41) dX0_walkTo_41 rfl rfl (pj_iload_n hM (pc := 42) dX0_walkTo_42 rfl (pj_pf hM (pc := 43) dX0_walkTo_43 fl_X0_64 (Int.not_lt.mp h3) rfl (fun h => absurd h (by decide)) (by decide) (fun _ => rfl) 1 rfl (pj_iload hM (pc := 46) dX0_walkTo_46 rfl (pj_ret hM (pc := 48) dX0_walkTo_48 ⟨_, rfl⟩ (h0 ((p8.1, (pj_set p8.2 22 p1 1 x2))) hr) rfl))))))
    exact pj_tret (fun hr => pj_if_ne_t hM (pc := 38) dX0_walkTo_38 rfl h10 (pj_iload hM (pc := 46) dX0_walkTo_46 rfl (pj_ret hM (pc := 48) dX0_walkTo_48 ⟨_, rfl⟩ (h0 ((p8.1, p8.2)) hr) rfl)))
  exact pj_tret (fun hr => pj_ic_lt_f hM (pc := 19) 24 dX0_walkTo_19 rfl h5 (pj_iconst hM (pc := 22) dX0_walkTo_22 (by decide) (pj_ret hM (pc := 23) dX0_walkTo_23 ⟨_, rfl⟩ (h0 ((1, w)) hr) rfl)))
theorem cB_walkTo (i0 : Int) (x1 : Int) (x2 : Int) (hn0 : 0 ≤ i0) (w : pj_W) (r : Int × pj_W) (h : fB_walkTo i0 x1 x2 w = some r) : pj_Cn l yX0_walkTo cX0_walkTo 5 (some .int) 2 43 true g [(19, i0), (0, x1), (0, x2)] w ((some (0, r.1) : Option pj_V), r.2) :=
  pj_Cn_of rfl (Nat.le_of_ble_eq_true rfl) (lls := [(19, i0), (0, x1), (0, x2), (9, 0), (9, 0)]) rfl (fun Go hM => tB_walkTo hM i0 x1 x2 w hn0 (fun x => ((some (0, x.1) : Option pj_V), x.2) = ((some (0, r.1) : Option pj_V), r.2)) (fun r h => h) r h rfl)
noncomputable def fX_go (x1 : Int) (x2 : Int) (w : pj_W) : Option (Int × pj_W) :=
  if 0 ≤ (w 10 0 10) then ((fB_walkTo (w 10 0 10) x1 x2 w).bind fun p2 => ((fX_settle p2.1 p2.2).bind fun p4 => (some ((p4.1, p4.2))))) else none
theorem tX_go {Go : pj_C → Prop} (hM : pj_M l yX11_go cX11_go 3 (some .int) 3 67 true g n0 o Go) (x1 : Int) (x2 : Int) (w : pj_W)  (R : Int × pj_W → Prop) (h0 : ∀ r, R (r) → ((some (0, r.1) : Option pj_V), r.2) = o) : pj_TG R (fX_go x1 x2 w) (Go (0, [(10, 0), (0, x1), (0, x2)], [], w)) := by
  unfold fX_go
  refine pj_tgd (fun h1 => ?_)
  refine pj_tbind (fun p2 h3 => ?_)
  refine pj_tbind (fun p4 h5 => ?_)
  exact pj_tret (fun hr => pj_aload_n hM (pc := 0) dX11_go_0 rfl rfl (pj_aload_n hM (pc := 1) dX11_go_1 rfl rfl (pj_gf hM (pc := 2) (t := 19) dX11_go_2 fl_X11_69 (by decide) rfl 10 rfl (pj_iload_n hM (pc := 5) dX11_go_5 rfl (pj_iload_n hM (pc := 6) dX11_go_6 rfl (pj_cV hM (pc := 7) (cB_walkTo (w 10 0 10) x1 x2 h1 w p2 h3) dX11_go_7 mf_X0_walkTo mv_X0_walkTo ml_X11_259 kc_19 rfl rfl h1 rfl rfl (pj_cV hM (pc := 10) (cX_settle p2.1 p2.2 p4 h5) dX11_go_10 mf_X11_settle mv_X11_settle ml_X11_263 kc_10 rfl rfl (by decide) rfl rfl (pj_ret hM (pc := 13) dX11_go_13 ⟨_, rfl⟩ (h0 ((p4.1, p4.2)) hr) rfl))))))))
theorem cX_go (x1 : Int) (x2 : Int)  (w : pj_W) (r : Int × pj_W) (h : fX_go x1 x2 w = some r) : pj_Cn l yX11_go cX11_go 3 (some .int) 3 67 true g [(10, 0), (0, x1), (0, x2)] w ((some (0, r.1) : Option pj_V), r.2) :=
  pj_Cn_of rfl (Nat.le_of_ble_eq_true rfl) (lls := [(10, 0), (0, x1), (0, x2)]) rfl (fun Go hM => tX_go hM x1 x2 w (fun x => ((some (0, x.1) : Option pj_V), x.2) = ((some (0, r.1) : Option pj_V), r.2)) (fun r h => h) r h rfl)
noncomputable def fN_has (i0 : Int) (x1 : Int) (w : pj_W) : Option (Int) :=
  if x1 < 0 then (some (0)) else (if (w 23 i0 6) ≤ x1 then (some (0)) else (some (1)))
theorem tN_has {Go : pj_C → Prop} (hM : pj_M l yX4_has cX4_has 2 (some .boolean) 0 0 ph g n0 o Go) (i0 : Int) (x1 : Int) (w : pj_W) (hn0 : 0 ≤ i0) (R : Int → Prop) (h0 : ∀ r, R (r) → ((some (0, r) : Option pj_V), w) = o) : pj_TG R (fN_has i0 x1 w) (Go (0, [(23, i0), (0, x1)], [], w)) := by
  unfold fN_has
  refine pj_map (fun k => pj_iload_n hM (pc := 0) dX4_has_0 rfl k) ?_
  refine pj_tif (fun h1 => ?_) (fun h1 => ?_)
  · exact pj_tret (fun hr => pj_if_lt_t hM (pc := 1) dX4_has_1 rfl h1 (pj_iconst hM (pc := 16) dX4_has_16 (by decide) (pj_ret hM (pc := 17) dX4_has_17 ⟨_, rfl, Or.inl rfl⟩ (h0 (0) hr) rfl)))
  refine pj_map (fun k => pj_if_lt_f hM (pc := 1) 16 dX4_has_1 rfl h1 (pj_iload_n hM (pc := 4) dX4_has_4 rfl (pj_aload_n hM (pc := 5) dX4_has_5 rfl rfl (pj_gf hM (pc := 6) (t := 0) dX4_has_6 fl_X4_35 hn0 rfl 6 rfl k)))) ?_
  refine pj_tif (fun h2 => ?_) (fun h2 => ?_)
  · exact pj_tret (fun hr => pj_ic_ge_t hM (pc := 9) dX4_has_9 rfl h2 (pj_iconst hM (pc := 16) dX4_has_16 (by decide) (pj_ret hM (pc := 17) dX4_has_17 ⟨_, rfl, Or.inl rfl⟩ (h0 (0) hr) rfl)))
  exact pj_tret (fun hr => pj_ic_ge_f hM (pc := 9) 16 dX4_has_9 rfl h2 (pj_iconst hM (pc := 12) dX4_has_12 (by decide) (pj_goto hM (pc := 13) dX4_has_13 rfl (pj_ret hM (pc := 17) dX4_has_17 ⟨_, rfl, Or.inr rfl⟩ (h0 (1) hr) rfl))))
theorem cN_has (i0 : Int) (x1 : Int) (hn0 : 0 ≤ i0) (w : pj_W) (r : Int) (h : fN_has i0 x1 w = some r) : pj_Cn l yX4_has cX4_has 2 (some .boolean) 0 0 ph g [(23, i0), (0, x1)] w ((some (0, r) : Option pj_V), w) :=
  pj_Cn_of rfl (Nat.le_of_ble_eq_true rfl) (lls := [(23, i0), (0, x1)]) rfl (fun Go hM => tN_has hM i0 x1 w hn0 (fun x => ((some (0, x) : Option pj_V), w) = ((some (0, r) : Option pj_V), w)) (fun r h => h) r h rfl)
noncomputable def fN_removeAt_21b (i0 : Int) (x2 : Int) (w : pj_W) : Option ((Int × pj_W) ⊕ (pj_W)) :=
  if (w 23 i0 6) ≤ x2 then (some (Sum.inr (w))) else (if 0 ≤ (pj_wr (x2 + 1)) ∧ (pj_wr (x2 + 1)) < 60 then (if 0 ≤ x2 ∧ x2 < 60 then ((some (pj_set (pj_set w 46 i0 x2 (w 46 i0 (pj_wr (x2 + 1)))) 45 i0 x2 ((pj_set w 46 i0 x2 (w 46 i0 (pj_wr (x2 + 1)))) 45 i0 (pj_wr (x2 + 1))))).bind fun w4 => (some (Sum.inl ((pj_wr (x2 + 1)), w4)))) else none) else none)
noncomputable def fN_removeAt_21 (i0 : Int) (s : (Int × pj_W)) : Option (pj_W) := pj_Lp (fun s : (Int × pj_W) => fN_removeAt_21b i0 s.1 s.2) s
noncomputable def fN_removeAt (i0 : Int) (x1 : Int) (w : pj_W) : Option (pj_W) :=
  (fN_has i0 x1 w).bind fun p1 => (if p1 = 0 then (some (w)) else (fN_removeAt_21 i0 (x1, (pj_set w 23 i0 6 (pj_wr ((w 23 i0 6) - 1))))))
theorem tN_removeAt_21b {Go : pj_C → Prop} (hM : pj_M l yX4_removeAt cX4_removeAt 3 none 1 21 true g n0 o Go) (i0 : Int) (x2 : Int) (w : pj_W) (hn0 : 0 ≤ i0) (R : (Int × pj_W) ⊕ (pj_W) → Prop) (h0 : ∀ r, R (Sum.inr (r)) → ((none : Option pj_V), r) = o) (hk21 : ∀ s, R (Sum.inl s) → Go (21, [(23, i0), (9, 0), (0, s.1)], [], s.2)) : pj_TG R (fN_removeAt_21b i0 x2 w) (Go (21, [(23, i0), (9, 0), (0, x2)], [], w)) := by
  unfold fN_removeAt_21b
  refine pj_map (fun k => pj_iload_n hM (pc := 21) dX4_removeAt_21 rfl (pj_aload_n hM (pc := 22) dX4_removeAt_22 rfl rfl (pj_gf hM (pc := 23) (t := 0) dX4_removeAt_23 fl_X4_35 hn0 rfl 6 rfl k))) ?_
  refine pj_tif (fun h1 => ?_) (fun h1 => ?_)
  · exact pj_tret (fun hr => pj_ic_ge_t hM (pc := 26) dX4_removeAt_26 rfl h1 (pj_ret hM (pc := 63) dX4_removeAt_63 rfl (h0 (w) hr) rfl))
  refine pj_tgd (fun h2 => ?_)
  refine pj_tgd (fun h3 => ?_)
  refine pj_map (fun k => pj_ic_ge_f hM (pc := 26) 63 dX4_removeAt_26 rfl h1 (pj_aload_n hM (pc := 29) dX4_removeAt_29 rfl rfl (pj_getF hM (pc := 30) (t := 46) dX4_removeAt_30 fl_X4_17 hn0 rfl rfl (pj_iload_n hM (pc := 33) dX4_removeAt_33 rfl (pj_aload_n hM (pc := 34) dX4_removeAt_34 rfl rfl (pj_getF hM (pc := 35) (t := 46) dX4_removeAt_35 fl_X4_17 hn0 rfl rfl (pj_iload_n hM (pc := 38) dX4_removeAt_38 rfl (pj_iconst hM (pc := 39) dX4_removeAt_39 (by decide) (pj_iadd hM (pc := 40) dX4_removeAt_40 (pj_ial hM (pc := 41) dX4_removeAt_41 ki_46 hn0 h2 (pj_ias hM (pc := 42) dX4_removeAt_42 ki_46 hn0 h3 (pj_aload_n hM (pc := 43) dX4_removeAt_43 rfl rfl (pj_getF hM (pc := 44) (t := 45) dX4_removeAt_44 fl_X4_11 hn0 rfl rfl (pj_iload_n hM (pc := 47) dX4_removeAt_47 rfl (pj_aload_n hM (pc := 48) dX4_removeAt_48 rfl rfl (pj_getF hM (pc := 49) (t := 45) dX4_removeAt_49 fl_X4_11 hn0 rfl rfl (pj_iload_n hM (pc := 52) dX4_removeAt_52 rfl (pj_iconst hM (pc := 53) dX4_removeAt_53 (by decide) (pj_iadd hM (pc := 54) dX4_removeAt_54 (pj_ial hM (pc := 55) dX4_removeAt_55 ki_45 hn0 h2 (pj_ias hM (pc := 56) dX4_removeAt_56 ki_45 hn0 h3 k))))))))))))))))))))) ?_
  refine pj_tlet (fun w4 => Go (57, [(23, i0), (9, 0), (0, x2)], [], w4)) (fun w4 => ?_)
  exact pj_tret (fun hr => pj_iinc hM (pc := 57) dX4_removeAt_57 rfl (by decide) (lls' := [(23, i0), (9, 0), (0, (pj_wr (x2 + 1)))]) rfl (pj_goto hM (pc := 60) dX4_removeAt_60 rfl (pj_kill hM [true, false, true] (lls' := [(23, i0), (9, 0), (0, (pj_wr (x2 + 1)))]) rfl ((hk21 _ hr)))))
theorem tN_removeAt_21 {Go : pj_C → Prop} (hM : pj_M l yX4_removeAt cX4_removeAt 3 none 1 21 true g n0 o Go) (i0 : Int) (hn0 : 0 ≤ i0) (R : pj_W → Prop) (h0 : ∀ r, R (r) → ((none : Option pj_V), r) = o) (s : (Int × pj_W)) : pj_TG R (fN_removeAt_21 i0 s) (Go (21, [(23, i0), (9, 0), (0, s.1)], [], s.2)) := by
  unfold fN_removeAt_21
  exact pj_tLp (G := fun s : (Int × pj_W) => Go (21, [(23, i0), (9, 0), (0, s.1)], [], s.2)) (fun s => tN_removeAt_21b hM i0 s.1 s.2 hn0 _ (fun r h => h0 r h)  (fun s h => h)) s
theorem tN_removeAt {Go : pj_C → Prop} (hM : pj_M l yX4_removeAt cX4_removeAt 3 none 1 21 true g n0 o Go) (i0 : Int) (x1 : Int) (w : pj_W) (hn0 : 0 ≤ i0) (R : pj_W → Prop) (h0 : ∀ r, R (r) → ((none : Option pj_V), r) = o) : pj_TG R (fN_removeAt i0 x1 w) (Go (0, [(23, i0), (0, x1), (9, 0)], [], w)) := by
  unfold fN_removeAt
  refine pj_tbind (fun p1 h2 => ?_)
  refine pj_map (fun k => pj_aload_n hM (pc := 0) dX4_removeAt_0 rfl rfl (pj_iload_n hM (pc := 1) dX4_removeAt_1 rfl (pj_cV hM (pc := 2) (cN_has i0 x1 hn0 w p1 h2) dX4_removeAt_2 mf_X4_has mv_X4_has ml_X4_44 kc_23 rfl rfl hn0 rfl rfl k))) ?_
  refine pj_tif (fun h3 => ?_) (fun h3 => ?_)
  · exact pj_tret (fun hr => pj_if_ne_f hM (pc := 5) 9 dX4_removeAt_5 rfl (fun q => q h3) (pj_ret hM (pc := 8) dX4_removeAt_8 rfl (h0 (w) hr) rfl))
  refine pj_map (fun k => pj_if_ne_t hM (pc := 5) dX4_removeAt_5 rfl h3 (pj_aload_n hM (pc := 9) dX4_removeAt_9 rfl rfl (pj_dup hM (pc := 10) dX4_removeAt_10 (by decide) (pj_gf hM (pc := 11) (t := 0) dX4_removeAt_11 fl_X4_35 hn0 rfl 6 rfl (pj_iconst hM (pc := 14) dX4_removeAt_14 (by decide) (pj_isub hM (pc := 15) dX4_removeAt_15 (pj_pf hM (pc := 16) dX4_removeAt_16 fl_X4_35 hn0 rfl (fun h => absurd h (by decide)) (by decide) (fun _ => rfl) 6 rfl (pj_iload_n hM (pc := 19) dX4_removeAt_19 rfl (pj_istore_n hM (pc := 20) dX4_removeAt_20 (by decide) (lls' := [(23, i0), (0, x1), (0, x1)]) rfl (pj_kill hM [true, false, true] (lls' := [(23, i0), (9, 0), (0, x1)]) rfl k)))))))))) ?_
  exact tN_removeAt_21 hM i0 hn0 _ h0 _
theorem cN_removeAt (i0 : Int) (x1 : Int) (hn0 : 0 ≤ i0) (w : pj_W) (r : pj_W) (h : fN_removeAt i0 x1 w = some r) : pj_Cn l yX4_removeAt cX4_removeAt 3 none 1 21 true g [(23, i0), (0, x1)] w ((none : Option pj_V), r) :=
  pj_Cn_of rfl (Nat.le_of_ble_eq_true rfl) (lls := [(23, i0), (0, x1), (9, 0)]) rfl (fun Go hM => tN_removeAt hM i0 x1 w hn0 (fun x => ((none : Option pj_V), x) = ((none : Option pj_V), r)) (fun r h => h) r h rfl)
noncomputable def fB_carry (i0 : Int) (x1 : Int) (x2 : Int) (w : pj_W) : Option (Int × pj_W) :=
  (fB_findAt i0 x1 w).bind fun p1 => ((fB_findAt i0 x2 w).bind fun p3 => (if p1 < 0 then (some ((1, w))) else (if p3 < 0 then (some ((1, w))) else (if x1 = x2 then (some ((1, w))) else ((fN_has p1 (pj_wr ((w 23 p1 6) - 1)) w).bind fun p8 => (if p8 = 0 then (some ((6, w))) else (if (w 23 p1 5) = 0 then (some ((7, w))) else (if (w 23 p3 5) = 0 then (some ((7, w))) else (if 0 ≤ (pj_wr ((w 23 p1 6) - 1)) ∧ (pj_wr ((w 23 p1 6) - 1)) < 60 then ((fN_removeAt p1 (pj_wr ((w 23 p1 6) - 1)) w).bind fun p14 => ((fN_insert p3 (w 45 p1 (pj_wr ((w 23 p1 6) - 1))) (w 46 p1 (pj_wr ((w 23 p1 6) - 1))) p14).bind fun p16 => ((fB_done i0 (w 45 p1 (pj_wr ((w 23 p1 6) - 1))) p16).bind fun p18 => (some ((p18.1, p18.2)))))) else none)))))))))
theorem tB_carry {Go : pj_C → Prop} (hM : pj_M l yX0_carry cX0_carry 8 (some .int) 2 43 true g n0 o Go) (i0 : Int) (x1 : Int) (x2 : Int) (w : pj_W) (hn0 : 0 ≤ i0) (R : Int × pj_W → Prop) (h0 : ∀ r, R (r) → ((some (0, r.1) : Option pj_V), r.2) = o) : pj_TG R (fB_carry i0 x1 x2 w) (Go (0, [(19, i0), (0, x1), (0, x2), (9, 0), (9, 0), (9, 0), (9, 0), (9, 0)], [], w)) := by
  unfold fB_carry
  refine pj_tbind (fun p1 h2 => ?_)
  refine pj_tbind (fun p3 h4 => ?_)
  refine pj_map (fun k => pj_aload_n hM (pc := 0) dX0_carry_0 rfl rfl (pj_iload_n hM (pc := 1) dX0_carry_1 rfl (pj_cV hM (pc := 2) (cB_findAt i0 x1 hn0 w p1 h2) dX0_carry_2 mf_X0_findAt mv_X0_findAt ml_X0_106 kc_19 rfl rfl hn0 rfl rfl (pj_astore_n hM (pc := 5) dX0_carry_5 (by decide) (by decide) (lls' := [(19, i0), (0, x1), (0, x2), (23, p1), (9, 0), (9, 0), (9, 0), (9, 0)]) rfl (pj_aload_n hM (pc := 6) dX0_carry_6 rfl rfl (pj_iload_n hM (pc := 7) dX0_carry_7 rfl (pj_cV hM (pc := 8) (cB_findAt i0 x2 hn0 w p3 h4) dX0_carry_8 mf_X0_findAt mv_X0_findAt ml_X0_106 kc_19 rfl rfl hn0 rfl rfl (pj_astore hM (pc := 11) dX0_carry_11 (by decide) (by decide) (lls' := [(19, i0), (0, x1), (0, x2), (23, p1), (23, p3), (9, 0), (9, 0), (9, 0)]) rfl (pj_aload_n hM (pc := 13) dX0_carry_13 rfl rfl k))))))))) ?_
  refine pj_tif (fun h5 => ?_) (fun h5 => ?_)
  · exact pj_tret (fun hr => pj_null_t hM (pc := 14) dX0_carry_14 rfl (by decide) h5 (pj_iconst hM (pc := 27) dX0_carry_27 (by decide) (pj_ret hM (pc := 28) dX0_carry_28 ⟨_, rfl⟩ (h0 ((1, w)) hr) rfl)))
  refine pj_map (fun k => pj_null_f hM (pc := 14) 27 dX0_carry_14 rfl (by decide) h5 (pj_aload hM (pc := 17) dX0_carry_17 rfl rfl k)) ?_
  refine pj_tif (fun h6 => ?_) (fun h6 => ?_)
  · exact pj_tret (fun hr => pj_null_t hM (pc := 19) dX0_carry_19 rfl (by decide) h6 (pj_iconst hM (pc := 27) dX0_carry_27 (by decide) (pj_ret hM (pc := 28) dX0_carry_28 ⟨_, rfl⟩ (h0 ((1, w)) hr) rfl)))
  refine pj_map (fun k => pj_null_f hM (pc := 19) 27 dX0_carry_19 rfl (by decide) h6 (pj_iload_n hM (pc := 22) dX0_carry_22 rfl (pj_iload_n hM (pc := 23) dX0_carry_23 rfl k))) ?_
  refine pj_tif (fun h7 => ?_) (fun h7 => ?_)
  · exact pj_tret (fun hr => pj_ic_ne_f hM (pc := 24) 29 dX0_carry_24 rfl (fun q => q h7) (pj_iconst hM (pc := 27) dX0_carry_27 (by decide) (pj_ret hM (pc := 28) dX0_carry_28 ⟨_, rfl⟩ (h0 ((1, w)) hr) rfl)))
  refine pj_tbind (fun p8 h9 => ?_)
  refine pj_map (fun k => pj_ic_ne_t hM (pc := 24) dX0_carry_24 rfl h7 (pj_aload_n hM (pc := 29) dX0_carry_29 rfl rfl (pj_gf hM (pc := 30) (t := 0) dX0_carry_30 fl_X0_88 (Int.not_lt.mp h5) rfl 6 rfl (pj_iconst hM (pc := 33) dX0_carry_33 (by decide) (pj_isub hM (pc := 34) dX0_carry_34 (pj_istore hM (pc := 35) dX0_carry_35 (by decide) (lls' := [(19, i0), (0, x1), (0, x2), (23, p1), (23, p3), (0, (pj_wr ((w 23 p1 6) - 1))), (9, 0), (9, 0)]) rfl (pj_aload_n hM (pc := 37) dX0_carry_37 rfl rfl (pj_iload hM (pc := 38) dX0_carry_38 rfl (pj_cV hM (pc := 40) (cN_has p1 (pj_wr ((w 23 p1 6) - 1)) (Int.not_lt.mp h5) w p8 h9) dX0_carry_40 mf_X4_has mv_X4_has ml_X0_121 kc_23 rfl rfl (Int.not_lt.mp h5) rfl rfl k))))))))) ?_
  refine pj_tif (fun h10 => ?_) (fun h10 => ?_)
  · exact pj_tret (fun hr => pj_if_ne_f hM (pc := 43) 49 dX0_carry_43 rfl (fun q => q h10) (pj_bipush hM (pc := 46) dX0_carry_46 (by decide) (pj_ret hM (pc := 48) dX0_carry_48 ⟨_, rfl⟩ (h0 ((6, w)) hr) rfl)))
  refine pj_map (fun k => pj_if_ne_t hM (pc := 43) dX0_carry_43 rfl h10 (pj_aload_n hM (pc := 49) dX0_carry_49 rfl rfl (pj_gf hM (pc := 50) (t := 0) dX0_carry_50 fl_X0_84 (Int.not_lt.mp h5) rfl 5 rfl k))) ?_
  refine pj_tif (fun h11 => ?_) (fun h11 => ?_)
  · exact pj_tret (fun hr => pj_if_eq_t hM (pc := 53) dX0_carry_53 rfl h11 (pj_bipush hM (pc := 64) dX0_carry_64 (by decide) (pj_ret hM (pc := 66) dX0_carry_66 ⟨_, rfl⟩ (h0 ((7, w)) hr) rfl)))
  refine pj_map (fun k => pj_if_eq_f hM (pc := 53) 64 dX0_carry_53 rfl h11 (pj_aload hM (pc := 56) dX0_carry_56 rfl rfl (pj_gf hM (pc := 58) (t := 0) dX0_carry_58 fl_X0_84 (Int.not_lt.mp h6) rfl 5 rfl k))) ?_
  refine pj_tif (fun h12 => ?_) (fun h12 => ?_)
  · exact pj_tret (fun hr => pj_if_ne_f hM (pc := 61) 67 dX0_carry_61 rfl (fun q => q h12) (pj_bipush hM (pc := 64) dX0_carry_64 (by decide) (pj_ret hM (pc := 66) dX0_carry_66 ⟨_, rfl⟩ (h0 ((7, w)) hr) rfl)))
  refine pj_tgd (fun h13 => ?_)
  refine pj_tbind (fun p14 h15 => ?_)
  refine pj_tbind (fun p16 h17 => ?_)
  refine pj_tbind (fun p18 h19 => ?_)
  exact pj_tret (fun hr => pj_if_ne_t hM (pc := 61) dX0_carry_61 rfl h12 (pj_aload_n hM (pc := 67) dX0_carry_67 rfl rfl (pj_getF hM (pc := 68) (t := 45) dX0_carry_68 fl_X0_133 (Int.not_lt.mp h5) rfl rfl (pj_iload hM (pc := 71) dX0_carry_71 rfl (pj_ial hM (pc := 73) dX0_carry_73 ki_45 (Int.not_lt.mp h5) h13 (pj_istore hM (pc := 74) dX0_carry_74 (by decide) (lls' := [(19, i0), (0, x1), (0, x2), (23, p1), (23, p3), (0, (pj_wr ((w 23 p1 6) - 1))), (0, (w 45 p1 (pj_wr ((w 23 p1 6) - 1)))), (9, 0)]) rfl (pj_aload_n hM (pc := 76) dX0_carry_76 rfl rfl (pj_getF hM (pc := 77) (t := 46) dX0_carry_77 fl_X0_125 (Int.not_lt.mp h5) rfl rfl (pj_iload hM (pc := 80) dX0_carry_80 rfl (pj_ial hM (pc := 82) dX0_carry_82 ki_46 (Int.not_lt.mp h5) h13 (pj_istore hM (pc := 83) dX0_carry_83 (by decide) (lls' := [(19, i0), (0, x1), (0, x2), (23, p1), (23, p3), (0, (pj_wr ((w 23 p1 6) - 1))), (0, (w 45 p1 (pj_wr ((w 23 p1 6) - 1)))), (0, (w 46 p1 (pj_wr ((w 23 p1 6) - 1))))]) rfl (pj_aload_n hM (pc := 85) dX0_carry_85 rfl rfl (pj_iload hM (pc := 86) dX0_carry_86 rfl (pj_cVv hM (pc := 88) (cN_removeAt p1 (pj_wr ((w 23 p1 6) - 1)) (Int.not_lt.mp h5) w p14 h15) dX0_carry_88 mf_X4_removeAt mv_X4_removeAt ml_X0_129 kc_23 rfl rfl (Int.not_lt.mp h5) rfl rfl (pj_aload hM (pc := 91) dX0_carry_91 rfl rfl (pj_iload hM (pc := 93) dX0_carry_93 rfl (pj_iload hM (pc := 95) dX0_carry_95 rfl (pj_cVv hM (pc := 97) (cN_insert p3 (w 45 p1 (pj_wr ((w 23 p1 6) - 1))) (w 46 p1 (pj_wr ((w 23 p1 6) - 1))) (Int.not_lt.mp h6) p14 p16 h17) dX0_carry_97 mf_X4_insert mv_X4_insert ml_X0_114 kc_23 rfl rfl (Int.not_lt.mp h6) rfl rfl (pj_aload_n hM (pc := 100) dX0_carry_100 rfl rfl (pj_iload hM (pc := 101) dX0_carry_101 rfl (pj_cV hM (pc := 103) (cB_done i0 (w 45 p1 (pj_wr ((w 23 p1 6) - 1))) hn0 p16 p18 h19) dX0_carry_103 mf_X0_done mv_X0_done ml_X0_91 kc_19 rfl rfl hn0 rfl rfl (pj_ret hM (pc := 106) dX0_carry_106 ⟨_, rfl⟩ (h0 ((p18.1, p18.2)) hr) rfl))))))))))))))))))))))
theorem cB_carry (i0 : Int) (x1 : Int) (x2 : Int) (hn0 : 0 ≤ i0) (w : pj_W) (r : Int × pj_W) (h : fB_carry i0 x1 x2 w = some r) : pj_Cn l yX0_carry cX0_carry 8 (some .int) 2 43 true g [(19, i0), (0, x1), (0, x2)] w ((some (0, r.1) : Option pj_V), r.2) :=
  pj_Cn_of rfl (Nat.le_of_ble_eq_true rfl) (lls := [(19, i0), (0, x1), (0, x2), (9, 0), (9, 0), (9, 0), (9, 0), (9, 0)]) rfl (fun Go hM => tB_carry hM i0 x1 x2 w hn0 (fun x => ((some (0, x.1) : Option pj_V), x.2) = ((some (0, r.1) : Option pj_V), r.2)) (fun r h => h) r h rfl)
noncomputable def fX_gull (x1 : Int) (x2 : Int) (w : pj_W) : Option (Int × pj_W) :=
  if 0 ≤ (w 10 0 10) then ((fB_carry (w 10 0 10) x1 x2 w).bind fun p2 => ((fX_settle p2.1 p2.2).bind fun p4 => (some ((p4.1, p4.2))))) else none
theorem tX_gull {Go : pj_C → Prop} (hM : pj_M l yX11_gull cX11_gull 3 (some .int) 3 70 true g n0 o Go) (x1 : Int) (x2 : Int) (w : pj_W)  (R : Int × pj_W → Prop) (h0 : ∀ r, R (r) → ((some (0, r.1) : Option pj_V), r.2) = o) : pj_TG R (fX_gull x1 x2 w) (Go (0, [(10, 0), (0, x1), (0, x2)], [], w)) := by
  unfold fX_gull
  refine pj_tgd (fun h1 => ?_)
  refine pj_tbind (fun p2 h3 => ?_)
  refine pj_tbind (fun p4 h5 => ?_)
  exact pj_tret (fun hr => pj_aload_n hM (pc := 0) dX11_gull_0 rfl rfl (pj_aload_n hM (pc := 1) dX11_gull_1 rfl rfl (pj_gf hM (pc := 2) (t := 19) dX11_gull_2 fl_X11_69 (by decide) rfl 10 rfl (pj_iload_n hM (pc := 5) dX11_gull_5 rfl (pj_iload_n hM (pc := 6) dX11_gull_6 rfl (pj_cV hM (pc := 7) (cB_carry (w 10 0 10) x1 x2 h1 w p2 h3) dX11_gull_7 mf_X0_carry mv_X0_carry ml_X11_275 kc_19 rfl rfl h1 rfl rfl (pj_cV hM (pc := 10) (cX_settle p2.1 p2.2 p4 h5) dX11_gull_10 mf_X11_settle mv_X11_settle ml_X11_263 kc_10 rfl rfl (by decide) rfl rfl (pj_ret hM (pc := 13) dX11_gull_13 ⟨_, rfl⟩ (h0 ((p4.1, p4.2)) hr) rfl))))))))
theorem cX_gull (x1 : Int) (x2 : Int)  (w : pj_W) (r : Int × pj_W) (h : fX_gull x1 x2 w = some r) : pj_Cn l yX11_gull cX11_gull 3 (some .int) 3 70 true g [(10, 0), (0, x1), (0, x2)] w ((some (0, r.1) : Option pj_V), r.2) :=
  pj_Cn_of rfl (Nat.le_of_ble_eq_true rfl) (lls := [(10, 0), (0, x1), (0, x2)]) rfl (fun Go hM => tX_gull hM x1 x2 w (fun x => ((some (0, x.1) : Option pj_V), x.2) = ((some (0, r.1) : Option pj_V), r.2)) (fun r h => h) r h rfl)
noncomputable def fT_holds (i0 : Int) (x1 : Int) (x2 : Int) (w : pj_W) : Option (Int) :=
  if x1 < 0 then (some (0)) else (if x2 < 0 then (some (0)) else (if (pj_wr ((w 25 i0 3) - x2)) < x1 then (some (0)) else (some (1))))
theorem tT_holds {Go : pj_C → Prop} (hM : pj_M l yX9_holds cX9_holds 3 (some .boolean) 0 0 ph g n0 o Go) (i0 : Int) (x1 : Int) (x2 : Int) (w : pj_W) (hn0 : 0 ≤ i0) (R : Int → Prop) (h0 : ∀ r, R (r) → ((some (0, r) : Option pj_V), w) = o) : pj_TG R (fT_holds i0 x1 x2 w) (Go (0, [(25, i0), (0, x1), (0, x2)], [], w)) := by
  unfold fT_holds
  refine pj_map (fun k => pj_iload_n hM (pc := 0) dX9_holds_0 rfl k) ?_
  refine pj_tif (fun h1 => ?_) (fun h1 => ?_)
  · exact pj_tret (fun hr => pj_if_lt_t hM (pc := 1) dX9_holds_1 rfl h1 (pj_iconst hM (pc := 22) dX9_holds_22 (by decide) (pj_ret hM (pc := 23) dX9_holds_23 ⟨_, rfl, Or.inl rfl⟩ (h0 (0) hr) rfl)))
  refine pj_map (fun k => pj_if_lt_f hM (pc := 1) 22 dX9_holds_1 rfl h1 (pj_iload_n hM (pc := 4) dX9_holds_4 rfl k)) ?_
  refine pj_tif (fun h2 => ?_) (fun h2 => ?_)
  · exact pj_tret (fun hr => pj_if_lt_t hM (pc := 5) dX9_holds_5 rfl h2 (pj_iconst hM (pc := 22) dX9_holds_22 (by decide) (pj_ret hM (pc := 23) dX9_holds_23 ⟨_, rfl, Or.inl rfl⟩ (h0 (0) hr) rfl)))
  refine pj_map (fun k => pj_if_lt_f hM (pc := 5) 22 dX9_holds_5 rfl h2 (pj_iload_n hM (pc := 8) dX9_holds_8 rfl (pj_aload_n hM (pc := 9) dX9_holds_9 rfl rfl (pj_gf hM (pc := 10) (t := 0) dX9_holds_10 fl_X9_21 hn0 rfl 3 rfl (pj_iload_n hM (pc := 13) dX9_holds_13 rfl (pj_isub hM (pc := 14) dX9_holds_14 k)))))) ?_
  refine pj_tif (fun h3 => ?_) (fun h3 => ?_)
  · exact pj_tret (fun hr => pj_ic_gt_t hM (pc := 15) dX9_holds_15 rfl h3 (pj_iconst hM (pc := 22) dX9_holds_22 (by decide) (pj_ret hM (pc := 23) dX9_holds_23 ⟨_, rfl, Or.inl rfl⟩ (h0 (0) hr) rfl)))
  exact pj_tret (fun hr => pj_ic_gt_f hM (pc := 15) 22 dX9_holds_15 rfl h3 (pj_iconst hM (pc := 18) dX9_holds_18 (by decide) (pj_goto hM (pc := 19) dX9_holds_19 rfl (pj_ret hM (pc := 23) dX9_holds_23 ⟨_, rfl, Or.inr rfl⟩ (h0 (1) hr) rfl))))
theorem cT_holds (i0 : Int) (x1 : Int) (x2 : Int) (hn0 : 0 ≤ i0) (w : pj_W) (r : Int) (h : fT_holds i0 x1 x2 w = some r) : pj_Cn l yX9_holds cX9_holds 3 (some .boolean) 0 0 ph g [(25, i0), (0, x1), (0, x2)] w ((some (0, r) : Option pj_V), w) :=
  pj_Cn_of rfl (Nat.le_of_ble_eq_true rfl) (lls := [(25, i0), (0, x1), (0, x2)]) rfl (fun Go hM => tT_holds hM i0 x1 x2 w hn0 (fun x => ((some (0, x) : Option pj_V), w) = ((some (0, r) : Option pj_V), w)) (fun r h => h) r h rfl)
noncomputable def fT_numberAt (i0 : Int) (x1 : Int) (w : pj_W) : Option (Int) :=
  (fT_holds i0 x1 1 w).bind fun p1 => (if p1 = 0 then (some (0)) else (if 0 ≤ x1 ∧ x1 < 60 then (some ((w 52 i0 x1))) else none))
theorem tT_numberAt {Go : pj_C → Prop} (hM : pj_M l yX9_numberAt cX9_numberAt 2 (some .long) 1 22 true g n0 o Go) (i0 : Int) (x1 : Int) (w : pj_W) (hn0 : 0 ≤ i0) (R : Int → Prop) (h0 : ∀ r, R (r) → ((some (1, r) : Option pj_V), w) = o) : pj_TG R (fT_numberAt i0 x1 w) (Go (0, [(25, i0), (0, x1)], [], w)) := by
  unfold fT_numberAt
  refine pj_tbind (fun p1 h2 => ?_)
  refine pj_map (fun k => pj_aload_n hM (pc := 0) dX9_numberAt_0 rfl rfl (pj_iload_n hM (pc := 1) dX9_numberAt_1 rfl (pj_iconst hM (pc := 2) dX9_numberAt_2 (by decide) (pj_cV hM (pc := 3) (cT_holds i0 x1 1 hn0 w p1 h2) dX9_numberAt_3 mf_X9_holds mv_X9_holds ml_X9_24 kc_25 rfl rfl hn0 rfl rfl k)))) ?_
  refine pj_tif (fun h3 => ?_) (fun h3 => ?_)
  · exact pj_tret (fun hr => pj_if_eq_t hM (pc := 6) dX9_numberAt_6 rfl h3 (pj_lconst hM (pc := 18) (z := 0) dX9_numberAt_18 rfl (by decide) (pj_ret hM (pc := 19) dX9_numberAt_19 ⟨_, rfl⟩ (h0 (0) hr) rfl)))
  refine pj_tgd (fun h4 => ?_)
  exact pj_tret (fun hr => pj_if_eq_f hM (pc := 6) 18 dX9_numberAt_6 rfl h3 (pj_aload_n hM (pc := 9) dX9_numberAt_9 rfl rfl (pj_getF hM (pc := 10) (t := 52) dX9_numberAt_10 fl_X9_9 hn0 rfl rfl (pj_iload_n hM (pc := 13) dX9_numberAt_13 rfl (pj_lal hM (pc := 14) dX9_numberAt_14 kl_52 hn0 h4 (pj_goto hM (pc := 15) dX9_numberAt_15 rfl (pj_ret hM (pc := 19) dX9_numberAt_19 ⟨_, rfl⟩ (h0 ((w 52 i0 x1)) hr) rfl)))))))
theorem cT_numberAt (i0 : Int) (x1 : Int) (hn0 : 0 ≤ i0) (w : pj_W) (r : Int) (h : fT_numberAt i0 x1 w = some r) : pj_Cn l yX9_numberAt cX9_numberAt 2 (some .long) 1 22 true g [(25, i0), (0, x1)] w ((some (1, r) : Option pj_V), w) :=
  pj_Cn_of rfl (Nat.le_of_ble_eq_true rfl) (lls := [(25, i0), (0, x1)]) rfl (fun Go hM => tT_numberAt hM i0 x1 w hn0 (fun x => ((some (1, x) : Option pj_V), w) = ((some (1, r) : Option pj_V), w)) (fun r h => h) r h rfl)
end
