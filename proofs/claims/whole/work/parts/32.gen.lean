/-! printed by wip/whole/gen.py: each method as a function of numbers and worlds, and its contract -/
section
variable {l : Launch} {g : pj_G} {n0 : Nat} {o : Option pj_V × pj_W} {ph : Bool}
noncomputable def fX_fewestGulls_55 (x1 : Int) (x2 : Int) (x3 : Int) (x4 : Int) (x5 : Int) (x6 : Int) (w : pj_W) : Option ((Int × Int × Int) ⊕ (Int)) :=
  some (Sum.inl ((pj_wr (x2 + x6)), (pj_wr (x3 + (max 0 (pj_wr (x6 - (w 23 x5 6)))))), (pj_wr (x4 + 1))))
noncomputable def fX_fewestGulls_7b (x1 : Int) (w : pj_W) (x2 : Int) (x3 : Int) (x4 : Int) : Option ((Int × Int × Int) ⊕ (Int)) :=
  if 0 ≤ (w 10 0 10) then (if (w 19 (w 10 0 10) 8) ≤ x4 then ((fB_lying (w 10 0 10) w).bind fun p3 => (if x2 = p3 then (some (Sum.inr (x3))) else (some (Sum.inr ((-1)))))) else (if 0 ≤ x4 ∧ x4 < 8 then (if 0 ≤ x1 then ((fT_numberAt x1 x4 w).bind fun p8 => (if (pj_wr p8) ≤ 0 then (fX_fewestGulls_55 x1 x2 x3 x4 (8 * (w 10 0 10) + x4) (pj_wr p8) w) else (if (w 23 (8 * (w 10 0 10) + x4) 5) = 0 then (some (Sum.inr ((-1)))) else (fX_fewestGulls_55 x1 x2 x3 x4 (8 * (w 10 0 10) + x4) (pj_wr p8) w)))) else none) else none)) else none
noncomputable def fX_fewestGulls_7 (x1 : Int) (w : pj_W) (s : (Int × Int × Int)) : Option (Int) := pj_Lp (fun s : (Int × Int × Int) => fX_fewestGulls_7b x1 w s.1 s.2.1 s.2.2) s
noncomputable def fX_fewestGulls (x1 : Int) (w : pj_W) : Option (Int) :=
  fX_fewestGulls_7 x1 w (0, 0, 0)
theorem tX_fewestGulls_55 {Go : pj_C → Prop} (hM : pj_M l yX11_fewestGulls cX11_fewestGulls 7 (some .int) 2 43 true g n0 o Go) (x1 : Int) (x2 : Int) (x3 : Int) (x4 : Int) (x5 : Int) (x6 : Int) (w : pj_W) (hn1 : 0 ≤ x1) (hn5 : 0 ≤ x5) (R : (Int × Int × Int) ⊕ (Int) → Prop) (h0 : ∀ r, R (Sum.inr (r)) → ((some (0, r) : Option pj_V), w) = o) (hk7 : ∀ s, R (Sum.inl s) → Go (7, [(10, 0), (25, x1), (0, s.1), (0, s.2.1), (0, s.2.2), (9, 0), (9, 0)], [], w)) : pj_TG R (fX_fewestGulls_55 x1 x2 x3 x4 x5 x6 w) (Go (55, [(10, 0), (25, x1), (0, x2), (0, x3), (0, x4), (23, x5), (0, x6)], [], w)) := by
  unfold fX_fewestGulls_55
  exact pj_tret (fun hr => pj_iload_n hM (pc := 55) dX11_fewestGulls_55 rfl (pj_iload hM (pc := 56) dX11_fewestGulls_56 rfl (pj_iadd hM (pc := 58) dX11_fewestGulls_58 (pj_istore_n hM (pc := 59) dX11_fewestGulls_59 (by decide) (lls' := [(10, 0), (25, x1), (0, (pj_wr (x2 + x6))), (0, x3), (0, x4), (23, x5), (0, x6)]) rfl (pj_iload_n hM (pc := 60) dX11_fewestGulls_60 rfl (pj_iconst hM (pc := 61) dX11_fewestGulls_61 (by decide) (pj_iload hM (pc := 62) dX11_fewestGulls_62 rfl (pj_aload hM (pc := 64) dX11_fewestGulls_64 rfl rfl (pj_gf hM (pc := 66) (t := 0) dX11_fewestGulls_66 fl_X11_247 hn5 rfl 6 rfl (pj_isub hM (pc := 69) dX11_fewestGulls_69 (pj_mmax hM (pc := 70) dX11_fewestGulls_70 mf_J9_max_7cf53 ms_J9_max_7cf53 ml_X11_360 rfl (pj_iadd hM (pc := 73) dX11_fewestGulls_73 (pj_istore_n hM (pc := 74) dX11_fewestGulls_74 (by decide) (lls' := [(10, 0), (25, x1), (0, (pj_wr (x2 + x6))), (0, (pj_wr (x3 + (max 0 (pj_wr (x6 - (w 23 x5 6))))))), (0, x4), (23, x5), (0, x6)]) rfl (pj_iinc hM (pc := 75) dX11_fewestGulls_75 rfl (by decide) (lls' := [(10, 0), (25, x1), (0, (pj_wr (x2 + x6))), (0, (pj_wr (x3 + (max 0 (pj_wr (x6 - (w 23 x5 6))))))), (0, (pj_wr (x4 + 1))), (23, x5), (0, x6)]) rfl (pj_goto hM (pc := 78) dX11_fewestGulls_78 rfl (pj_kill hM [true, true, true, true, true, false, false] (lls' := [(10, 0), (25, x1), (0, (pj_wr (x2 + x6))), (0, (pj_wr (x3 + (max 0 (pj_wr (x6 - (w 23 x5 6))))))), (0, (pj_wr (x4 + 1))), (9, 0), (9, 0)]) rfl ((hk7 _ hr))))))))))))))))))
theorem tX_fewestGulls_7b {Go : pj_C → Prop} (hM : pj_M l yX11_fewestGulls cX11_fewestGulls 7 (some .int) 2 43 true g n0 o Go) (x1 : Int) (w : pj_W) (x2 : Int) (x3 : Int) (x4 : Int)  (R : (Int × Int × Int) ⊕ (Int) → Prop) (h0 : ∀ r, R (Sum.inr (r)) → ((some (0, r) : Option pj_V), w) = o) (hk7 : ∀ s, R (Sum.inl s) → Go (7, [(10, 0), (25, x1), (0, s.1), (0, s.2.1), (0, s.2.2), (9, 0), (9, 0)], [], w)) : pj_TG R (fX_fewestGulls_7b x1 w x2 x3 x4) (Go (7, [(10, 0), (25, x1), (0, x2), (0, x3), (0, x4), (9, 0), (9, 0)], [], w)) := by
  unfold fX_fewestGulls_7b
  refine pj_tgd (fun h1 => ?_)
  refine pj_map (fun k => pj_iload hM (pc := 7) dX11_fewestGulls_7 rfl (pj_aload_n hM (pc := 9) dX11_fewestGulls_9 rfl rfl (pj_gf hM (pc := 10) (t := 19) dX11_fewestGulls_10 fl_X11_69 (by decide) rfl 10 rfl (pj_gf hM (pc := 13) (t := 0) dX11_fewestGulls_13 fl_X11_175 h1 rfl 8 rfl k)))) ?_
  refine pj_tif (fun h2 => ?_) (fun h2 => ?_)
  · refine pj_tbind (fun p3 h4 => ?_)
    refine pj_map (fun k => pj_ic_ge_t hM (pc := 16) dX11_fewestGulls_16 rfl h2 (pj_iload_n hM (pc := 81) dX11_fewestGulls_81 rfl (pj_aload_n hM (pc := 82) dX11_fewestGulls_82 rfl rfl (pj_gf hM (pc := 83) (t := 19) dX11_fewestGulls_83 fl_X11_69 (by decide) rfl 10 rfl (pj_cV hM (pc := 86) (cB_lying (w 10 0 10) h1 w p3 h4) dX11_fewestGulls_86 mf_X0_lying mv_X0_lying ml_X11_213 kc_19 rfl rfl h1 rfl rfl k))))) ?_
    refine pj_tif (fun h5 => ?_) (fun h5 => ?_)
    · exact pj_tret (fun hr => pj_ic_ne_f hM (pc := 89) 96 dX11_fewestGulls_89 rfl (fun q => q h5) (pj_iload_n hM (pc := 92) dX11_fewestGulls_92 rfl (pj_goto hM (pc := 93) dX11_fewestGulls_93 rfl (pj_ret hM (pc := 97) dX11_fewestGulls_97 ⟨_, rfl⟩ (h0 (x3) hr) rfl))))
    exact pj_tret (fun hr => pj_ic_ne_t hM (pc := 89) dX11_fewestGulls_89 rfl h5 (pj_iconst hM (pc := 96) dX11_fewestGulls_96 (by decide) (pj_ret hM (pc := 97) dX11_fewestGulls_97 ⟨_, rfl⟩ (h0 ((-1)) hr) rfl)))
  refine pj_tgd (fun h6 => ?_)
  refine pj_tgd (fun h7 => ?_)
  refine pj_tbind (fun p8 h9 => ?_)
  refine pj_map (fun k => pj_ic_ge_f hM (pc := 16) 81 dX11_fewestGulls_16 rfl h2 (pj_aload_n hM (pc := 19) dX11_fewestGulls_19 rfl rfl (pj_gf hM (pc := 20) (t := 19) dX11_fewestGulls_20 fl_X11_69 (by decide) rfl 10 rfl (pj_getF hM (pc := 23) (t := 21) dX11_fewestGulls_23 fl_X11_303 h1 rfl rfl (pj_iload hM (pc := 26) dX11_fewestGulls_26 rfl (pj_aald hM (pc := 28) (fun s : Int => 8 * (w 10 0 10) + s) dX11_fewestGulls_28 (by decide) rfl (fun _ => rfl) ⟨_, rfl⟩ (by decide) h1 h6 (fun _ => rfl) (by show (0 : Int) ≤ (8 * (w 10 0 10) + x4); omega) (pj_astore hM (pc := 29) dX11_fewestGulls_29 (by decide) (by decide) (lls' := [(10, 0), (25, x1), (0, x2), (0, x3), (0, x4), (23, (8 * (w 10 0 10) + x4)), (9, 0)]) rfl (pj_aload_n hM (pc := 31) dX11_fewestGulls_31 rfl rfl (pj_iload hM (pc := 32) dX11_fewestGulls_32 rfl (pj_cV hM (pc := 34) (cT_numberAt x1 x4 h7 w p8 h9) dX11_fewestGulls_34 mf_X9_numberAt mv_X9_numberAt ml_X11_138 kc_25 rfl rfl h7 rfl rfl (pj_l2i hM (pc := 37) dX11_fewestGulls_37 (pj_istore hM (pc := 38) dX11_fewestGulls_38 (by decide) (lls' := [(10, 0), (25, x1), (0, x2), (0, x3), (0, x4), (23, (8 * (w 10 0 10) + x4)), (0, (pj_wr p8))]) rfl (pj_iload hM (pc := 40) dX11_fewestGulls_40 rfl k))))))))))))) ?_
  refine pj_tif (fun h10 => ?_) (fun h10 => ?_)
  · refine pj_map (fun k => pj_if_le_t hM (pc := 42) dX11_fewestGulls_42 rfl h10 (pj_kill hM [true, true, true, true, true, true, true] (lls' := [(10, 0), (25, x1), (0, x2), (0, x3), (0, x4), (23, (8 * (w 10 0 10) + x4)), (0, (pj_wr p8))]) rfl k)) ?_
    exact tX_fewestGulls_55 hM x1 x2 x3 x4 (8 * (w 10 0 10) + x4) (pj_wr p8) w h7 (by show (0 : Int) ≤ (8 * (w 10 0 10) + x4); omega) _ h0 hk7
  refine pj_map (fun k => pj_if_le_f hM (pc := 42) 55 dX11_fewestGulls_42 rfl h10 (pj_aload hM (pc := 45) dX11_fewestGulls_45 rfl rfl (pj_gf hM (pc := 47) (t := 0) dX11_fewestGulls_47 fl_X11_287 (by show (0 : Int) ≤ (8 * (w 10 0 10) + x4); omega) rfl 5 rfl k))) ?_
  refine pj_tif (fun h11 => ?_) (fun h11 => ?_)
  · exact pj_tret (fun hr => pj_if_ne_f hM (pc := 50) 55 dX11_fewestGulls_50 rfl (fun q => q h11) (pj_iconst hM (pc := 53) dX11_fewestGulls_53 (by decide) (pj_ret hM (pc := 54) dX11_fewestGulls_54 ⟨_, rfl⟩ (h0 ((-1)) hr) rfl)))
  refine pj_map (fun k => pj_if_ne_t hM (pc := 50) dX11_fewestGulls_50 rfl h11 (pj_kill hM [true, true, true, true, true, true, true] (lls' := [(10, 0), (25, x1), (0, x2), (0, x3), (0, x4), (23, (8 * (w 10 0 10) + x4)), (0, (pj_wr p8))]) rfl k)) ?_
  exact tX_fewestGulls_55 hM x1 x2 x3 x4 (8 * (w 10 0 10) + x4) (pj_wr p8) w h7 (by show (0 : Int) ≤ (8 * (w 10 0 10) + x4); omega) _ h0 hk7
theorem tX_fewestGulls_7 {Go : pj_C → Prop} (hM : pj_M l yX11_fewestGulls cX11_fewestGulls 7 (some .int) 2 43 true g n0 o Go) (x1 : Int) (w : pj_W)  (R : Int → Prop) (h0 : ∀ r, R (r) → ((some (0, r) : Option pj_V), w) = o) (s : (Int × Int × Int)) : pj_TG R (fX_fewestGulls_7 x1 w s) (Go (7, [(10, 0), (25, x1), (0, s.1), (0, s.2.1), (0, s.2.2), (9, 0), (9, 0)], [], w)) := by
  unfold fX_fewestGulls_7
  exact pj_tLp (G := fun s : (Int × Int × Int) => Go (7, [(10, 0), (25, x1), (0, s.1), (0, s.2.1), (0, s.2.2), (9, 0), (9, 0)], [], w)) (fun s => tX_fewestGulls_7b hM x1 w s.1 s.2.1 s.2.2  _ (fun r h => h0 r h)  (fun s h => h)) s
theorem tX_fewestGulls {Go : pj_C → Prop} (hM : pj_M l yX11_fewestGulls cX11_fewestGulls 7 (some .int) 2 43 true g n0 o Go) (x1 : Int) (w : pj_W)  (R : Int → Prop) (h0 : ∀ r, R (r) → ((some (0, r) : Option pj_V), w) = o) : pj_TG R (fX_fewestGulls x1 w) (Go (0, [(10, 0), (25, x1), (9, 0), (9, 0), (9, 0), (9, 0), (9, 0)], [], w)) := by
  unfold fX_fewestGulls
  refine pj_map (fun k => pj_iconst hM (pc := 0) dX11_fewestGulls_0 (by decide) (pj_istore_n hM (pc := 1) dX11_fewestGulls_1 (by decide) (lls' := [(10, 0), (25, x1), (0, 0), (9, 0), (9, 0), (9, 0), (9, 0)]) rfl (pj_iconst hM (pc := 2) dX11_fewestGulls_2 (by decide) (pj_istore_n hM (pc := 3) dX11_fewestGulls_3 (by decide) (lls' := [(10, 0), (25, x1), (0, 0), (0, 0), (9, 0), (9, 0), (9, 0)]) rfl (pj_iconst hM (pc := 4) dX11_fewestGulls_4 (by decide) (pj_istore hM (pc := 5) dX11_fewestGulls_5 (by decide) (lls' := [(10, 0), (25, x1), (0, 0), (0, 0), (0, 0), (9, 0), (9, 0)]) rfl (pj_kill hM [true, true, true, true, true, false, false] (lls' := [(10, 0), (25, x1), (0, 0), (0, 0), (0, 0), (9, 0), (9, 0)]) rfl k))))))) ?_
  exact tX_fewestGulls_7 hM x1 w _ h0 _
theorem cX_fewestGulls (x1 : Int)  (w : pj_W) (r : Int) (h : fX_fewestGulls x1 w = some r) : pj_Cn l yX11_fewestGulls cX11_fewestGulls 7 (some .int) 2 43 true g [(10, 0), (25, x1)] w ((some (0, r) : Option pj_V), w) :=
  pj_Cn_of rfl (Nat.le_of_ble_eq_true rfl) (lls := [(10, 0), (25, x1), (9, 0), (9, 0), (9, 0), (9, 0), (9, 0)]) rfl (fun Go hM => tX_fewestGulls hM x1 w (fun x => ((some (0, x) : Option pj_V), w) = ((some (0, r) : Option pj_V), w)) (fun r h => h) r h rfl)
noncomputable def fX_trayAt_22  (w : pj_W) : Option (Int) :=
  some ((-1))
noncomputable def fX_trayAt (x1 : Int) (w : pj_W) : Option (Int) :=
  if x1 < 0 then (fX_trayAt_22 w) else (if 4 ≤ x1 then (fX_trayAt_22 w) else (if 0 ≤ x1 ∧ x1 < 4 then (some (x1)) else none))
theorem tX_trayAt_22 {Go : pj_C → Prop} (hM : pj_M l yX11_trayAt cX11_trayAt 2 (some (.object "LastPebble$Tray")) 0 0 true g n0 o Go)  (w : pj_W)  (R : Int → Prop) (h0 : ∀ r, R (r) → ((some (25, r) : Option pj_V), w) = o) : pj_TG R (fX_trayAt_22  w) (Go (22, [(10, 0), (9, 0)], [], w)) := by
  unfold fX_trayAt_22
  exact pj_tret (fun hr => pj_null hM (pc := 22) (k := 25) dX11_trayAt_22 (by decide) (pj_ret hM (pc := 23) dX11_trayAt_23 ⟨_, _, by decide, rfl⟩ (h0 ((-1)) hr) rfl))
theorem tX_trayAt {Go : pj_C → Prop} (hM : pj_M l yX11_trayAt cX11_trayAt 2 (some (.object "LastPebble$Tray")) 0 0 true g n0 o Go) (x1 : Int) (w : pj_W)  (R : Int → Prop) (h0 : ∀ r, R (r) → ((some (25, r) : Option pj_V), w) = o) : pj_TG R (fX_trayAt x1 w) (Go (0, [(10, 0), (0, x1)], [], w)) := by
  unfold fX_trayAt
  refine pj_map (fun k => pj_iload_n hM (pc := 0) dX11_trayAt_0 rfl k) ?_
  refine pj_tif (fun h1 => ?_) (fun h1 => ?_)
  · refine pj_map (fun k => pj_if_lt_t hM (pc := 1) dX11_trayAt_1 rfl h1 (pj_kill hM [true, false] (lls' := [(10, 0), (9, 0)]) rfl k)) ?_
    exact tX_trayAt_22 hM w _ h0
  refine pj_map (fun k => pj_if_lt_f hM (pc := 1) 22 dX11_trayAt_1 rfl h1 (pj_iload_n hM (pc := 4) dX11_trayAt_4 rfl (pj_aload_n hM (pc := 5) dX11_trayAt_5 rfl rfl (pj_getF hM (pc := 6) (t := 11) dX11_trayAt_6 fl_X11_11 (by decide) rfl rfl (pj_alen hM (pc := 9) dX11_trayAt_9 (by decide) (Or.inr (Or.inr (Or.inr rfl))) ⟨_, rfl⟩ (by decide) k))))) ?_
  refine pj_tif (fun h2 => ?_) (fun h2 => ?_)
  · refine pj_map (fun k => pj_ic_ge_t hM (pc := 10) dX11_trayAt_10 rfl h2 (pj_kill hM [true, false] (lls' := [(10, 0), (9, 0)]) rfl k)) ?_
    exact tX_trayAt_22 hM w _ h0
  refine pj_tgd (fun h3 => ?_)
  exact pj_tret (fun hr => pj_ic_ge_f hM (pc := 10) 22 dX11_trayAt_10 rfl h2 (pj_aload_n hM (pc := 13) dX11_trayAt_13 rfl rfl (pj_getF hM (pc := 14) (t := 11) dX11_trayAt_14 fl_X11_11 (by decide) rfl rfl (pj_iload_n hM (pc := 17) dX11_trayAt_17 rfl (pj_aald hM (pc := 18) (fun s : Int => s) dX11_trayAt_18 (by decide) rfl (fun _ => rfl) ⟨_, rfl⟩ (by decide) (by decide) h3 (fun _ => rfl) (by show (0 : Int) ≤ x1; omega) (pj_goto hM (pc := 19) dX11_trayAt_19 rfl (pj_ret hM (pc := 23) dX11_trayAt_23 ⟨_, _, by decide, rfl⟩ (h0 (x1) hr) rfl)))))))
theorem cX_trayAt (x1 : Int)  (w : pj_W) (r : Int) (h : fX_trayAt x1 w = some r) : pj_Cn l yX11_trayAt cX11_trayAt 2 (some (.object "LastPebble$Tray")) 0 0 true g [(10, 0), (0, x1)] w ((some (25, r) : Option pj_V), w) :=
  pj_Cn_of rfl (Nat.le_of_ble_eq_true rfl) (lls := [(10, 0), (0, x1)]) rfl (fun Go hM => tX_trayAt hM x1 w (fun x => ((some (25, x) : Option pj_V), w) = ((some (25, r) : Option pj_V), w)) (fun r h => h) r h rfl)
noncomputable def fX_gulls_85  (w : pj_W) : Option (Int × pj_W) :=
  (fX_refuse 5 w).bind fun p1 => (some ((p1.1, p1.2)))
noncomputable def fX_gulls_52b (x2 : Int) (w : pj_W) (x3 : Int) : Option ((Int) ⊕ (Int × pj_W)) :=
  if 0 ≤ (w 10 0 10) then (if (w 19 (w 10 0 10) 8) ≤ x3 then ((fX_fewestGulls x2 w).bind fun p3 => (if p3 = (-1) then ((fX_refuse 7 w).bind fun p6 => (some (Sum.inr ((p6.1, p6.2))))) else ((fX_answer p3 w).bind fun p8 => (some (Sum.inr ((p8.1, p8.2))))))) else ((fT_numberAt x2 x3 w).bind fun p10 => (if (pj_cmp p10 0) < 0 then ((fX_gulls_85 w).map Sum.inr) else ((fT_numberAt x2 x3 w).bind fun p13 => (if (pj_cmp p13 60) ≤ 0 then (some (Sum.inl ((pj_wr (x3 + 1))))) else ((fX_gulls_85 w).map Sum.inr)))))) else none
noncomputable def fX_gulls_52 (x2 : Int) (w : pj_W) (s : (Int)) : Option (Int × pj_W) := pj_Lp (fun s : (Int) => fX_gulls_52b x2 w s) s
noncomputable def fX_gulls (x1 : Int) (w : pj_W) : Option (Int × pj_W) :=
  (fX_trayAt x1 w).bind fun p1 => (if p1 < 0 then ((fX_refuse 1 w).bind fun p4 => (some ((p4.1, p4.2)))) else (if (w 25 p1 1) = 0 then (if 0 ≤ (w 10 0 10) then ((fT_holds p1 0 (w 19 (w 10 0 10) 8) w).bind fun p8 => (if p8 = 0 then ((fX_refuse 3 w).bind fun p11 => (some ((p11.1, p11.2)))) else (fX_gulls_52 p1 w (0)))) else none) else ((fX_refuse 2 w).bind fun p13 => (some ((p13.1, p13.2))))))
theorem tX_gulls_85 {Go : pj_C → Prop} (hM : pj_M l yX11_gulls cX11_gulls 4 (some .int) 3 69 true g n0 o Go)  (w : pj_W)  (R : Int × pj_W → Prop) (h0 : ∀ r, R (r) → ((some (0, r.1) : Option pj_V), r.2) = o) : pj_TG R (fX_gulls_85  w) (Go (85, [(10, 0), (9, 0), (9, 0), (9, 0)], [], w)) := by
  unfold fX_gulls_85
  refine pj_tbind (fun p1 h2 => ?_)
  exact pj_tret (fun hr => pj_aload_n hM (pc := 85) dX11_gulls_85 rfl rfl (pj_iconst hM (pc := 86) dX11_gulls_86 (by decide) (pj_cV hM (pc := 87) (cX_refuse 5 w p1 h2) dX11_gulls_87 mf_X11_refuse mv_X11_refuse ml_X11_100 kc_10 rfl rfl (by decide) rfl rfl (pj_ret hM (pc := 90) dX11_gulls_90 ⟨_, rfl⟩ (h0 ((p1.1, p1.2)) hr) rfl))))
theorem tX_gulls_52b {Go : pj_C → Prop} (hM : pj_M l yX11_gulls cX11_gulls 4 (some .int) 3 69 true g n0 o Go) (x2 : Int) (w : pj_W) (x3 : Int) (hn2 : 0 ≤ x2) (R : (Int) ⊕ (Int × pj_W) → Prop) (h0 : ∀ r, R (Sum.inr (r)) → ((some (0, r.1) : Option pj_V), r.2) = o) (hk52 : ∀ s, R (Sum.inl s) → Go (52, [(10, 0), (9, 0), (25, x2), (0, s)], [], w)) : pj_TG R (fX_gulls_52b x2 w x3) (Go (52, [(10, 0), (9, 0), (25, x2), (0, x3)], [], w)) := by
  unfold fX_gulls_52b
  refine pj_tgd (fun h1 => ?_)
  refine pj_map (fun k => pj_iload_n hM (pc := 52) dX11_gulls_52 rfl (pj_aload_n hM (pc := 53) dX11_gulls_53 rfl rfl (pj_gf hM (pc := 54) (t := 19) dX11_gulls_54 fl_X11_69 (by decide) rfl 10 rfl (pj_gf hM (pc := 57) (t := 0) dX11_gulls_57 fl_X11_175 h1 rfl 8 rfl k)))) ?_
  refine pj_tif (fun h2 => ?_) (fun h2 => ?_)
  · refine pj_tbind (fun p3 h4 => ?_)
    refine pj_map (fun k => pj_ic_ge_t hM (pc := 60) dX11_gulls_60 rfl h2 (pj_aload_n hM (pc := 97) dX11_gulls_97 rfl rfl (pj_aload_n hM (pc := 98) dX11_gulls_98 rfl rfl (pj_cV hM (pc := 99) (cX_fewestGulls x2 w p3 h4) dX11_gulls_99 mf_X11_fewestGulls mv_X11_fewestGulls ml_X11_356 kc_10 rfl rfl (by decide) rfl rfl (pj_istore_n hM (pc := 102) dX11_gulls_102 (by decide) (lls' := [(10, 0), (9, 0), (25, x2), (0, p3)]) rfl (pj_iload_n hM (pc := 103) dX11_gulls_103 rfl (pj_iconst hM (pc := 104) dX11_gulls_104 (by decide) k))))))) ?_
    refine pj_tif (fun h5 => ?_) (fun h5 => ?_)
    · refine pj_tbind (fun p6 h7 => ?_)
      exact pj_tret (fun hr => pj_ic_ne_f hM (pc := 105) 117 dX11_gulls_105 rfl (fun q => q h5) (pj_aload_n hM (pc := 108) dX11_gulls_108 rfl rfl (pj_bipush hM (pc := 109) dX11_gulls_109 (by decide) (pj_cV hM (pc := 111) (cX_refuse 7 w p6 h7) dX11_gulls_111 mf_X11_refuse mv_X11_refuse ml_X11_100 kc_10 rfl rfl (by decide) rfl rfl (pj_goto hM (pc := 114) dX11_gulls_114 rfl (pj_ret hM (pc := 122) dX11_gulls_122 ⟨_, rfl⟩ (h0 ((p6.1, p6.2)) hr) rfl))))))
    refine pj_tbind (fun p8 h9 => ?_)
    exact pj_tret (fun hr => pj_ic_ne_t hM (pc := 105) dX11_gulls_105 rfl h5 (pj_aload_n hM (pc := 117) dX11_gulls_117 rfl rfl (pj_iload_n hM (pc := 118) dX11_gulls_118 rfl (pj_cV hM (pc := 119) (cX_answer p3 w p8 h9) dX11_gulls_119 mf_X11_answer mv_X11_answer ml_X11_96 kc_10 rfl rfl (by decide) rfl rfl (pj_ret hM (pc := 122) dX11_gulls_122 ⟨_, rfl⟩ (h0 ((p8.1, p8.2)) hr) rfl)))))
  refine pj_tbind (fun p10 h11 => ?_)
  refine pj_map (fun k => pj_ic_ge_f hM (pc := 60) 97 dX11_gulls_60 rfl h2 (pj_aload_n hM (pc := 63) dX11_gulls_63 rfl rfl (pj_iload_n hM (pc := 64) dX11_gulls_64 rfl (pj_cV hM (pc := 65) (cT_numberAt x2 x3 hn2 w p10 h11) dX11_gulls_65 mf_X9_numberAt mv_X9_numberAt ml_X11_138 kc_25 rfl rfl hn2 rfl rfl (pj_lconst hM (pc := 68) (z := 0) dX11_gulls_68 rfl (by decide) (pj_lcmp hM (pc := 69) dX11_gulls_69 k)))))) ?_
  refine pj_tif (fun h12 => ?_) (fun h12 => ?_)
  · refine pj_tmap ?_
    refine pj_map (fun k => pj_if_lt_t hM (pc := 70) dX11_gulls_70 rfl h12 (pj_kill hM [true, false, false, false] (lls' := [(10, 0), (9, 0), (9, 0), (9, 0)]) rfl k)) ?_
    exact tX_gulls_85 hM w _ h0
  refine pj_tbind (fun p13 h14 => ?_)
  refine pj_map (fun k => pj_if_lt_f hM (pc := 70) 85 dX11_gulls_70 rfl h12 (pj_aload_n hM (pc := 73) dX11_gulls_73 rfl rfl (pj_iload_n hM (pc := 74) dX11_gulls_74 rfl (pj_cV hM (pc := 75) (cT_numberAt x2 x3 hn2 w p13 h14) dX11_gulls_75 mf_X9_numberAt mv_X9_numberAt ml_X11_138 kc_25 rfl rfl hn2 rfl rfl (pj_ldc2 hM (pc := 78) (z := 60) dX11_gulls_78 kn_X11_354 rfl (by decide) (pj_lcmp hM (pc := 81) dX11_gulls_81 k)))))) ?_
  refine pj_tif (fun h15 => ?_) (fun h15 => ?_)
  · exact pj_tret (fun hr => pj_if_le_t hM (pc := 82) dX11_gulls_82 rfl h15 (pj_iinc hM (pc := 91) dX11_gulls_91 rfl (by decide) (lls' := [(10, 0), (9, 0), (25, x2), (0, (pj_wr (x3 + 1)))]) rfl (pj_goto hM (pc := 94) dX11_gulls_94 rfl (pj_kill hM [true, false, true, true] (lls' := [(10, 0), (9, 0), (25, x2), (0, (pj_wr (x3 + 1)))]) rfl ((hk52 _ hr))))))
  refine pj_tmap ?_
  refine pj_map (fun k => pj_if_le_f hM (pc := 82) 91 dX11_gulls_82 rfl h15 (pj_kill hM [true, false, false, false] (lls' := [(10, 0), (9, 0), (9, 0), (9, 0)]) rfl k)) ?_
  exact tX_gulls_85 hM w _ h0
theorem tX_gulls_52 {Go : pj_C → Prop} (hM : pj_M l yX11_gulls cX11_gulls 4 (some .int) 3 69 true g n0 o Go) (x2 : Int) (w : pj_W) (hn2 : 0 ≤ x2) (R : Int × pj_W → Prop) (h0 : ∀ r, R (r) → ((some (0, r.1) : Option pj_V), r.2) = o) (s : (Int)) : pj_TG R (fX_gulls_52 x2 w s) (Go (52, [(10, 0), (9, 0), (25, x2), (0, s)], [], w)) := by
  unfold fX_gulls_52
  exact pj_tLp (G := fun s : (Int) => Go (52, [(10, 0), (9, 0), (25, x2), (0, s)], [], w)) (fun s => tX_gulls_52b hM x2 w s hn2 _ (fun r h => h0 r h)  (fun s h => h)) s
theorem tX_gulls {Go : pj_C → Prop} (hM : pj_M l yX11_gulls cX11_gulls 4 (some .int) 3 69 true g n0 o Go) (x1 : Int) (w : pj_W)  (R : Int × pj_W → Prop) (h0 : ∀ r, R (r) → ((some (0, r.1) : Option pj_V), r.2) = o) : pj_TG R (fX_gulls x1 w) (Go (0, [(10, 0), (0, x1), (9, 0), (9, 0)], [], w)) := by
  unfold fX_gulls
  refine pj_tbind (fun p1 h2 => ?_)
  refine pj_map (fun k => pj_aload_n hM (pc := 0) dX11_gulls_0 rfl rfl (pj_iload_n hM (pc := 1) dX11_gulls_1 rfl (pj_cV hM (pc := 2) (cX_trayAt x1 w p1 h2) dX11_gulls_2 mf_X11_trayAt mv_X11_trayAt ml_X11_110 kc_10 rfl rfl (by decide) rfl rfl (pj_astore_n hM (pc := 5) dX11_gulls_5 (by decide) (by decide) (lls' := [(10, 0), (0, x1), (25, p1), (9, 0)]) rfl (pj_aload_n hM (pc := 6) dX11_gulls_6 rfl rfl k))))) ?_
  refine pj_tif (fun h3 => ?_) (fun h3 => ?_)
  · refine pj_tbind (fun p4 h5 => ?_)
    exact pj_tret (fun hr => pj_nonnull_f hM (pc := 7) 16 dX11_gulls_7 rfl (by decide) h3 (pj_aload_n hM (pc := 10) dX11_gulls_10 rfl rfl (pj_iconst hM (pc := 11) dX11_gulls_11 (by decide) (pj_cV hM (pc := 12) (cX_refuse 1 w p4 h5) dX11_gulls_12 mf_X11_refuse mv_X11_refuse ml_X11_100 kc_10 rfl rfl (by decide) rfl rfl (pj_ret hM (pc := 15) dX11_gulls_15 ⟨_, rfl⟩ (h0 ((p4.1, p4.2)) hr) rfl)))))
  refine pj_map (fun k => pj_nonnull_t hM (pc := 7) dX11_gulls_7 rfl (by decide) h3 (pj_aload_n hM (pc := 16) dX11_gulls_16 rfl rfl (pj_gf hM (pc := 17) (t := 0) dX11_gulls_17 fl_X11_126 (Int.not_lt.mp h3) rfl 1 rfl k))) ?_
  refine pj_tif (fun h6 => ?_) (fun h6 => ?_)
  · refine pj_tgd (fun h7 => ?_)
    refine pj_tbind (fun p8 h9 => ?_)
    refine pj_map (fun k => pj_if_eq_t hM (pc := 20) dX11_gulls_20 rfl h6 (pj_aload_n hM (pc := 29) dX11_gulls_29 rfl rfl (pj_iconst hM (pc := 30) dX11_gulls_30 (by decide) (pj_aload_n hM (pc := 31) dX11_gulls_31 rfl rfl (pj_gf hM (pc := 32) (t := 19) dX11_gulls_32 fl_X11_69 (by decide) rfl 10 rfl (pj_gf hM (pc := 35) (t := 0) dX11_gulls_35 fl_X11_175 h7 rfl 8 rfl (pj_cV hM (pc := 38) (cT_holds p1 0 (w 19 (w 10 0 10) 8) (Int.not_lt.mp h3) w p8 h9) dX11_gulls_38 mf_X9_holds mv_X9_holds ml_X11_130 kc_25 rfl rfl (Int.not_lt.mp h3) rfl rfl k))))))) ?_
    refine pj_tif (fun h10 => ?_) (fun h10 => ?_)
    · refine pj_tbind (fun p11 h12 => ?_)
      exact pj_tret (fun hr => pj_if_ne_f hM (pc := 41) 50 dX11_gulls_41 rfl (fun q => q h10) (pj_aload_n hM (pc := 44) dX11_gulls_44 rfl rfl (pj_iconst hM (pc := 45) dX11_gulls_45 (by decide) (pj_cV hM (pc := 46) (cX_refuse 3 w p11 h12) dX11_gulls_46 mf_X11_refuse mv_X11_refuse ml_X11_100 kc_10 rfl rfl (by decide) rfl rfl (pj_ret hM (pc := 49) dX11_gulls_49 ⟨_, rfl⟩ (h0 ((p11.1, p11.2)) hr) rfl)))))
    refine pj_map (fun k => pj_if_ne_t hM (pc := 41) dX11_gulls_41 rfl h10 (pj_iconst hM (pc := 50) dX11_gulls_50 (by decide) (pj_istore_n hM (pc := 51) dX11_gulls_51 (by decide) (lls' := [(10, 0), (0, x1), (25, p1), (0, 0)]) rfl (pj_kill hM [true, false, true, true] (lls' := [(10, 0), (9, 0), (25, p1), (0, 0)]) rfl k)))) ?_
    exact tX_gulls_52 hM p1 w (Int.not_lt.mp h3) _ h0 _
  refine pj_tbind (fun p13 h14 => ?_)
  exact pj_tret (fun hr => pj_if_eq_f hM (pc := 20) 29 dX11_gulls_20 rfl h6 (pj_aload_n hM (pc := 23) dX11_gulls_23 rfl rfl (pj_iconst hM (pc := 24) dX11_gulls_24 (by decide) (pj_cV hM (pc := 25) (cX_refuse 2 w p13 h14) dX11_gulls_25 mf_X11_refuse mv_X11_refuse ml_X11_100 kc_10 rfl rfl (by decide) rfl rfl (pj_ret hM (pc := 28) dX11_gulls_28 ⟨_, rfl⟩ (h0 ((p13.1, p13.2)) hr) rfl)))))
theorem cX_gulls (x1 : Int)  (w : pj_W) (r : Int × pj_W) (h : fX_gulls x1 w = some r) : pj_Cn l yX11_gulls cX11_gulls 4 (some .int) 3 69 true g [(10, 0), (0, x1)] w ((some (0, r.1) : Option pj_V), r.2) :=
  pj_Cn_of rfl (Nat.le_of_ble_eq_true rfl) (lls := [(10, 0), (0, x1), (9, 0), (9, 0)]) rfl (fun Go hM => tX_gulls hM x1 w (fun x => ((some (0, x.1) : Option pj_V), x.2) = ((some (0, r.1) : Option pj_V), r.2)) (fun r h => h) r h rfl)
noncomputable def fN_init_c (i0 : Int) (w : pj_W) : Option (pj_W) :=
  if pj_nk w = 45 then (if 0 ≤ (pj_nx w) then ((some (pj_up w)).bind fun w3 => (if pj_nk (pj_set w3 23 i0 0 (pj_nx w)) = 46 then (if 0 ≤ (pj_nx (pj_set w3 23 i0 0 (pj_nx w))) then ((some (pj_up (pj_set w3 23 i0 0 (pj_nx w)))).bind fun w6 => (some ((pj_set w6 23 i0 1 (pj_nx (pj_set w3 23 i0 0 (pj_nx w))))))) else none) else none)) else none) else none
theorem tN_init_c {Go : pj_C → Prop} (hM : pj_M l yX4_init cX4_init 1 none 1 12 false g n0 o Go) (i0 : Int) (w : pj_W) (hn0 : 0 ≤ i0) (R : pj_W → Prop) (h0 : ∀ r, R (r) → ((none : Option pj_V), r) = o) : pj_TG R (fN_init_c i0 w) (Go (0, [(23, i0)], [], w)) := by
  unfold fN_init_c
  refine pj_tgd (fun h1 => ?_)
  refine pj_tgd (fun h2 => ?_)
  refine pj_map (fun k => pj_aload_n hM (pc := 0) dX4_init_0 rfl rfl (pj_obj hM (pc := 1) dX4_init_1 ml_X4_3 mo_I mo_C (by decide) hn0 rfl rfl (pj_aload_n hM (pc := 4) dX4_init_4 rfl rfl (pj_bipush hM (pc := 5) dX4_init_5 (by decide) (pj_newaZ hM (pc := 7) dX4_init_7 mo_int (Or.inl ⟨rfl, rfl, rfl, fun _ => rfl⟩) rfl (by decide) (by decide) h1 rfl k))))) ?_
  refine pj_tlet (fun w3 => Go (9, [(23, i0)], [(45, (pj_nx w)), (23, i0)], w3)) (fun w3 => ?_)
  refine pj_tgd (fun h4 => ?_)
  refine pj_tgd (fun h5 => ?_)
  refine pj_map (fun k => pj_pfF hM (pc := 9) dX4_init_9 fl_X4_11 rfl (fun C T h => by cases h; rfl) hn0 rfl (by decide) (by decide) 0 rfl (pj_aload_n hM (pc := 12) dX4_init_12 rfl rfl (pj_bipush hM (pc := 13) dX4_init_13 (by decide) (pj_newaZ hM (pc := 15) dX4_init_15 mo_int (Or.inl ⟨rfl, rfl, rfl, fun _ => rfl⟩) rfl (by decide) (by decide) h4 rfl k)))) ?_
  refine pj_tlet (fun w6 => Go (17, [(23, i0)], [(46, (pj_nx (pj_set w3 23 i0 0 (pj_nx w)))), (23, i0)], w6)) (fun w6 => ?_)
  exact pj_tret (fun hr => pj_pfF hM (pc := 17) dX4_init_17 fl_X4_17 rfl (fun C T h => by cases h; rfl) hn0 rfl (by decide) (by decide) 1 rfl (pj_ret hM (pc := 20) dX4_init_20 rfl (h0 ((pj_set w6 23 i0 1 (pj_nx (pj_set w3 23 i0 0 (pj_nx w))))) hr) rfl))
theorem cN_init_c (i0 : Int) (hn0 : 0 ≤ i0) (w : pj_W) (r : pj_W) (h : fN_init_c i0 w = some r) : pj_Cn l yX4_init cX4_init 1 none 1 12 false g [(23, i0)] w ((none : Option pj_V), r) :=
  pj_Cn_of rfl (Nat.le_of_ble_eq_true rfl) (lls := [(23, i0)]) rfl (fun Go hM => tN_init_c hM i0 w hn0 (fun x => ((none : Option pj_V), x) = ((none : Option pj_V), r)) (fun r h => h) r h rfl)
noncomputable def fF_init_c (i0 : Int) (w : pj_W) : Option (Unit) :=
  some (())
theorem tF_init_c {Go : pj_C → Prop} (hM : pj_M l yX5_init cX5_init 1 none 1 12 false g n0 o Go) (i0 : Int) (w : pj_W) (hn0 : 0 ≤ i0) (R : Unit → Prop) (h0 : ∀ r, R (r) → ((none : Option pj_V), w) = o) : pj_TG R (fF_init_c i0 w) (Go (0, [(22, i0)], [], w)) := by
  unfold fF_init_c
  exact pj_tret (fun hr => pj_aload_n hM (pc := 0) dX5_init_0 rfl rfl (pj_obj hM (pc := 1) dX5_init_1 ml_X5_1 mo_I mo_C (by decide) hn0 rfl rfl (pj_ret hM (pc := 4) dX5_init_4 rfl (h0 (()) hr) rfl)))
theorem cF_init_c (i0 : Int) (hn0 : 0 ≤ i0) (w : pj_W) (r : Unit) (h : fF_init_c i0 w = some r) : pj_Cn l yX5_init cX5_init 1 none 1 12 false g [(22, i0)] w ((none : Option pj_V), w) :=
  pj_Cn_of rfl (Nat.le_of_ble_eq_true rfl) (lls := [(22, i0)]) rfl (fun Go hM => tF_init_c hM i0 w hn0 (fun x => ((none : Option pj_V), w) = ((none : Option pj_V), w)) (fun r h => h) r h rfl)
noncomputable def fB_init_c_51b (i0 : Int) (x1 : Int) (w : pj_W) : Option ((Int × pj_W) ⊕ (pj_W)) :=
  if 8 ≤ x1 then ((fB_clear i0 w).bind fun p2 => (some (Sum.inr (p2)))) else (if pj_nk w = 23 then (if 0 ≤ (pj_nx w) then ((some (pj_up w)).bind fun w6 => ((fN_init_c (pj_nx w) w6).bind fun p7 => (if 0 ≤ (w 19 i0 1) then (if 0 ≤ x1 ∧ x1 < 8 then (some (Sum.inl ((pj_wr (x1 + 1)), (pj_set p7 21 (w 19 i0 1) x1 (pj_nx w))))) else none) else none))) else none) else none)
noncomputable def fB_init_c_51 (i0 : Int) (s : (Int × pj_W)) : Option (pj_W) := pj_Lp (fun s : (Int × pj_W) => fB_init_c_51b i0 s.1 s.2) s
noncomputable def fB_init_c_24b (i0 : Int) (x1 : Int) (w : pj_W) : Option ((Int × pj_W) ⊕ (pj_W)) :=
  if 6 ≤ x1 then ((fB_init_c_51 i0 (0, w)).map Sum.inr) else (if pj_nk w = 22 then (if 0 ≤ (pj_nx w) then ((some (pj_up w)).bind fun w4 => ((fF_init_c (pj_nx w) w4).bind fun p5 => (if 0 ≤ (w 19 i0 0) then (if 0 ≤ x1 ∧ x1 < 6 then (some (Sum.inl ((pj_wr (x1 + 1)), (pj_set w4 20 (w 19 i0 0) x1 (pj_nx w))))) else none) else none))) else none) else none)
noncomputable def fB_init_c_24 (i0 : Int) (s : (Int × pj_W)) : Option (pj_W) := pj_Lp (fun s : (Int × pj_W) => fB_init_c_24b i0 s.1 s.2) s
noncomputable def fB_init_c (i0 : Int) (w : pj_W) : Option (pj_W) :=
  if pj_nk w = 20 then (if 0 ≤ (pj_nx w) then ((some (pj_up w)).bind fun w3 => (if pj_nk (pj_set w3 19 i0 0 (pj_nx w)) = 21 then (if 0 ≤ (pj_nx (pj_set w3 19 i0 0 (pj_nx w))) then ((some (pj_up (pj_set w3 19 i0 0 (pj_nx w)))).bind fun w6 => (fB_init_c_24 i0 (0, (pj_set w6 19 i0 1 (pj_nx (pj_set w3 19 i0 0 (pj_nx w))))))) else none) else none)) else none) else none
theorem tB_init_c_51b {Go : pj_C → Prop} (hM : pj_M l yX0_init cX0_init 2 none 2 32 false g n0 o Go) (i0 : Int) (x1 : Int) (w : pj_W) (hn0 : 0 ≤ i0) (R : (Int × pj_W) ⊕ (pj_W) → Prop) (h0 : ∀ r, R (Sum.inr (r)) → ((none : Option pj_V), r) = o) (hk51 : ∀ s, R (Sum.inl s) → Go (51, [(19, i0), (0, s.1)], [], s.2)) : pj_TG R (fB_init_c_51b i0 x1 w) (Go (51, [(19, i0), (0, x1)], [], w)) := by
  unfold fB_init_c_51b
  refine pj_map (fun k => pj_iload_n hM (pc := 51) dX0_init_51 rfl (pj_bipush hM (pc := 52) dX0_init_52 (by decide) k)) ?_
  refine pj_tif (fun h1 => ?_) (fun h1 => ?_)
  · refine pj_tbind (fun p2 h3 => ?_)
    exact pj_tret (fun hr => pj_ic_ge_t hM (pc := 54) dX0_init_54 rfl h1 (pj_aload_n hM (pc := 76) dX0_init_76 rfl rfl (pj_cVv hM (pc := 77) (cB_clear i0 hn0 w p2 h3) dX0_init_77 mf_X0_clear mv_X0_clear ml_X0_25 kc_19 rfl rfl hn0 rfl rfl (pj_ret hM (pc := 80) dX0_init_80 rfl (h0 (p2) hr) rfl))))
  refine pj_tgd (fun h4 => ?_)
  refine pj_tgd (fun h5 => ?_)
  refine pj_map (fun k => pj_ic_ge_f hM (pc := 54) 76 dX0_init_54 rfl h1 (pj_aload_n hM (pc := 57) dX0_init_57 rfl rfl (pj_gf hM (pc := 58) (t := 21) dX0_init_58 fl_X0_19 hn0 rfl 1 rfl (pj_iload_n hM (pc := 61) dX0_init_61 rfl (pj_newZ hM (pc := 62) dX0_init_62 kl_X0_17 kn_23.1 kn_23.2 rfl rfl kt_23 (by decide) h4 rfl k))))) ?_
  refine pj_tlet (fun w6 => Go (65, [(19, i0), (0, x1)], [(23, (pj_nx w)), (0, x1), (21, (w 19 i0 1))], w6)) (fun w6 => ?_)
  refine pj_tbind (fun p7 h8 => ?_)
  refine pj_tgd (fun h9 => ?_)
  refine pj_tgd (fun h10 => ?_)
  exact pj_tret (fun hr => pj_dup hM (pc := 65) dX0_init_65 (by decide) (pj_callI hM (pc := 66) (cN_init_c (pj_nx w) h5 w6 p7 h8) dX0_init_66 mf_X4_init mi_X4_init (Or.inr (by simp [pj_nest, yX0_init])) (by decide) rfl rfl h5 rfl rfl (pj_aast hM (pc := 69) dX0_init_69 (by decide) rfl (fun _ => rfl) ⟨by decide, rfl⟩ ⟨_, _, rfl, rfl⟩ h9 h10 h5 (pj_iinc hM (pc := 70) dX0_init_70 rfl (by decide) (lls' := [(19, i0), (0, (pj_wr (x1 + 1)))]) rfl (pj_goto hM (pc := 73) dX0_init_73 rfl (pj_kill hM [true, true] (lls' := [(19, i0), (0, (pj_wr (x1 + 1)))]) rfl ((hk51 _ hr))))))))
theorem tB_init_c_51 {Go : pj_C → Prop} (hM : pj_M l yX0_init cX0_init 2 none 2 32 false g n0 o Go) (i0 : Int) (hn0 : 0 ≤ i0) (R : pj_W → Prop) (h0 : ∀ r, R (r) → ((none : Option pj_V), r) = o) (s : (Int × pj_W)) : pj_TG R (fB_init_c_51 i0 s) (Go (51, [(19, i0), (0, s.1)], [], s.2)) := by
  unfold fB_init_c_51
  exact pj_tLp (G := fun s : (Int × pj_W) => Go (51, [(19, i0), (0, s.1)], [], s.2)) (fun s => tB_init_c_51b hM i0 s.1 s.2 hn0 _ (fun r h => h0 r h)  (fun s h => h)) s
theorem tB_init_c_24b {Go : pj_C → Prop} (hM : pj_M l yX0_init cX0_init 2 none 2 32 false g n0 o Go) (i0 : Int) (x1 : Int) (w : pj_W) (hn0 : 0 ≤ i0) (R : (Int × pj_W) ⊕ (pj_W) → Prop) (h0 : ∀ r, R (Sum.inr (r)) → ((none : Option pj_V), r) = o) (hk24 : ∀ s, R (Sum.inl s) → Go (24, [(19, i0), (0, s.1)], [], s.2)) : pj_TG R (fB_init_c_24b i0 x1 w) (Go (24, [(19, i0), (0, x1)], [], w)) := by
  unfold fB_init_c_24b
  refine pj_map (fun k => pj_iload_n hM (pc := 24) dX0_init_24 rfl (pj_bipush hM (pc := 25) dX0_init_25 (by decide) k)) ?_
  refine pj_tif (fun h1 => ?_) (fun h1 => ?_)
  · refine pj_tmap ?_
    refine pj_map (fun k => pj_ic_ge_t hM (pc := 27) dX0_init_27 rfl h1 (pj_iconst hM (pc := 49) dX0_init_49 (by decide) (pj_istore_n hM (pc := 50) dX0_init_50 (by decide) (lls' := [(19, i0), (0, 0)]) rfl (pj_kill hM [true, true] (lls' := [(19, i0), (0, 0)]) rfl k)))) ?_
    exact tB_init_c_51 hM i0 hn0 _ h0 _
  refine pj_tgd (fun h2 => ?_)
  refine pj_tgd (fun h3 => ?_)
  refine pj_map (fun k => pj_ic_ge_f hM (pc := 27) 49 dX0_init_27 rfl h1 (pj_aload_n hM (pc := 30) dX0_init_30 rfl rfl (pj_gf hM (pc := 31) (t := 20) dX0_init_31 fl_X0_13 hn0 rfl 0 rfl (pj_iload_n hM (pc := 34) dX0_init_34 rfl (pj_newZ hM (pc := 35) dX0_init_35 kl_X0_11 kn_22.1 kn_22.2 rfl rfl kt_22 (by decide) h2 rfl k))))) ?_
  refine pj_tlet (fun w4 => Go (38, [(19, i0), (0, x1)], [(22, (pj_nx w)), (0, x1), (20, (w 19 i0 0))], w4)) (fun w4 => ?_)
  refine pj_tbind (fun p5 h6 => ?_)
  refine pj_tgd (fun h7 => ?_)
  refine pj_tgd (fun h8 => ?_)
  exact pj_tret (fun hr => pj_dup hM (pc := 38) dX0_init_38 (by decide) (pj_callI hM (pc := 39) (cF_init_c (pj_nx w) h3 w4 p5 h6) dX0_init_39 mf_X5_init mi_X5_init (Or.inr (by simp [pj_nest, yX0_init])) (by decide) rfl rfl h3 rfl rfl (pj_aast hM (pc := 42) dX0_init_42 (by decide) rfl (fun _ => rfl) ⟨by decide, rfl⟩ ⟨_, _, rfl, rfl⟩ h7 h8 h3 (pj_iinc hM (pc := 43) dX0_init_43 rfl (by decide) (lls' := [(19, i0), (0, (pj_wr (x1 + 1)))]) rfl (pj_goto hM (pc := 46) dX0_init_46 rfl (pj_kill hM [true, true] (lls' := [(19, i0), (0, (pj_wr (x1 + 1)))]) rfl ((hk24 _ hr))))))))
theorem tB_init_c_24 {Go : pj_C → Prop} (hM : pj_M l yX0_init cX0_init 2 none 2 32 false g n0 o Go) (i0 : Int) (hn0 : 0 ≤ i0) (R : pj_W → Prop) (h0 : ∀ r, R (r) → ((none : Option pj_V), r) = o) (s : (Int × pj_W)) : pj_TG R (fB_init_c_24 i0 s) (Go (24, [(19, i0), (0, s.1)], [], s.2)) := by
  unfold fB_init_c_24
  exact pj_tLp (G := fun s : (Int × pj_W) => Go (24, [(19, i0), (0, s.1)], [], s.2)) (fun s => tB_init_c_24b hM i0 s.1 s.2 hn0 _ (fun r h => h0 r h)  (fun s h => h)) s
theorem tB_init_c {Go : pj_C → Prop} (hM : pj_M l yX0_init cX0_init 2 none 2 32 false g n0 o Go) (i0 : Int) (w : pj_W) (hn0 : 0 ≤ i0) (R : pj_W → Prop) (h0 : ∀ r, R (r) → ((none : Option pj_V), r) = o) : pj_TG R (fB_init_c i0 w) (Go (0, [(19, i0), (9, 0)], [], w)) := by
  unfold fB_init_c
  refine pj_tgd (fun h1 => ?_)
  refine pj_tgd (fun h2 => ?_)
  refine pj_map (fun k => pj_aload_n hM (pc := 0) dX0_init_0 rfl rfl (pj_obj hM (pc := 1) dX0_init_1 ml_X0_3 mo_I mo_C (by decide) hn0 rfl rfl (pj_aload_n hM (pc := 4) dX0_init_4 rfl rfl (pj_bipush hM (pc := 5) dX0_init_5 (by decide) (pj_anewZ hM (pc := 7) dX0_init_7 kl_X0_11 (by simp) rfl rfl (fun _ => rfl) (by decide) rfl (by decide) (by decide) h1 rfl k))))) ?_
  refine pj_tlet (fun w3 => Go (10, [(19, i0), (9, 0)], [(20, (pj_nx w)), (19, i0)], w3)) (fun w3 => ?_)
  refine pj_tgd (fun h4 => ?_)
  refine pj_tgd (fun h5 => ?_)
  refine pj_map (fun k => pj_pfF hM (pc := 10) dX0_init_10 fl_X0_13 rfl (fun C T h => by cases h; rfl) hn0 rfl (by decide) (by decide) 0 rfl (pj_aload_n hM (pc := 13) dX0_init_13 rfl rfl (pj_bipush hM (pc := 14) dX0_init_14 (by decide) (pj_anewZ hM (pc := 16) dX0_init_16 kl_X0_17 (by simp) rfl rfl (fun _ => rfl) (by decide) rfl (by decide) (by decide) h4 rfl k)))) ?_
  refine pj_tlet (fun w6 => Go (19, [(19, i0), (9, 0)], [(21, (pj_nx (pj_set w3 19 i0 0 (pj_nx w)))), (19, i0)], w6)) (fun w6 => ?_)
  refine pj_map (fun k => pj_pfF hM (pc := 19) dX0_init_19 fl_X0_19 rfl (fun C T h => by cases h; rfl) hn0 rfl (by decide) (by decide) 1 rfl (pj_iconst hM (pc := 22) dX0_init_22 (by decide) (pj_istore_n hM (pc := 23) dX0_init_23 (by decide) (lls' := [(19, i0), (0, 0)]) rfl (pj_kill hM [true, true] (lls' := [(19, i0), (0, 0)]) rfl k)))) ?_
  exact tB_init_c_24 hM i0 hn0 _ h0 _
theorem cB_init_c (i0 : Int) (hn0 : 0 ≤ i0) (w : pj_W) (r : pj_W) (h : fB_init_c i0 w = some r) : pj_Cn l yX0_init cX0_init 2 none 2 32 false g [(19, i0)] w ((none : Option pj_V), r) :=
  pj_Cn_of rfl (Nat.le_of_ble_eq_true rfl) (lls := [(19, i0), (9, 0)]) rfl (fun Go hM => tB_init_c hM i0 w hn0 (fun x => ((none : Option pj_V), x) = ((none : Option pj_V), r)) (fun r h => h) r h rfl)
noncomputable def fBT_init_c (x1 : Int) (w : pj_W) : Option (pj_W) :=
  some ((pj_set w 13 0 0 x1))
theorem tBT_init_c {Go : pj_C → Prop} (hM : pj_M l yX1_init cX1_init 2 none 1 12 false g n0 o Go) (x1 : Int) (w : pj_W)  (R : pj_W → Prop) (h0 : ∀ r, R (r) → ((none : Option pj_V), r) = o) : pj_TG R (fBT_init_c x1 w) (Go (0, [(13, 0), (12, x1)], [], w)) := by
  unfold fBT_init_c
  exact pj_tret (fun hr => pj_aload_n hM (pc := 0) dX1_init_0 rfl rfl (pj_obj hM (pc := 1) dX1_init_1 ml_X1_3 mo_I mo_C (by decide) (by decide) rfl rfl (pj_aload_n hM (pc := 4) dX1_init_4 rfl rfl (pj_aload_n hM (pc := 5) dX1_init_5 rfl rfl (pj_pfF hM (pc := 6) dX1_init_6 fl_X1_9 rfl (fun C T h => by cases h; rfl) (by decide) rfl (by decide) (by decide) 0 rfl (pj_ret hM (pc := 9) dX1_init_9 rfl (h0 ((pj_set w 13 0 0 x1)) hr) rfl))))))
theorem cBT_init_c (x1 : Int)  (w : pj_W) (r : pj_W) (h : fBT_init_c x1 w = some r) : pj_Cn l yX1_init cX1_init 2 none 1 12 false g [(13, 0), (12, x1)] w ((none : Option pj_V), r) :=
  pj_Cn_of rfl (Nat.le_of_ble_eq_true rfl) (lls := [(13, 0), (12, x1)]) rfl (fun Go hM => tBT_init_c hM x1 w (fun x => ((none : Option pj_V), x) = ((none : Option pj_V), r)) (fun r h => h) r h rfl)
noncomputable def fD_init_c (i0 : Int) (w : pj_W) : Option (pj_W) :=
  if pj_nk w = 47 then (if 0 ≤ (pj_nx w) then ((some (pj_up w)).bind fun w3 => (if pj_nk (pj_set w3 24 i0 0 (pj_nx w)) = 48 then (if 0 ≤ (pj_nx (pj_set w3 24 i0 0 (pj_nx w))) then ((some (pj_up (pj_set w3 24 i0 0 (pj_nx w)))).bind fun w6 => (if pj_nk (pj_set w6 24 i0 1 (pj_nx (pj_set w3 24 i0 0 (pj_nx w)))) = 49 then (if 0 ≤ (pj_nx (pj_set w6 24 i0 1 (pj_nx (pj_set w3 24 i0 0 (pj_nx w))))) then ((some (pj_up (pj_set w6 24 i0 1 (pj_nx (pj_set w3 24 i0 0 (pj_nx w)))))).bind fun w9 => (if pj_nk (pj_set w9 24 i0 2 (pj_nx (pj_set w6 24 i0 1 (pj_nx (pj_set w3 24 i0 0 (pj_nx w)))))) = 50 then (if 0 ≤ (pj_nx (pj_set w9 24 i0 2 (pj_nx (pj_set w6 24 i0 1 (pj_nx (pj_set w3 24 i0 0 (pj_nx w))))))) then ((some (pj_up (pj_set w9 24 i0 2 (pj_nx (pj_set w6 24 i0 1 (pj_nx (pj_set w3 24 i0 0 (pj_nx w)))))))).bind fun w12 => ((some (pj_set w12 24 i0 3 (pj_nx (pj_set w9 24 i0 2 (pj_nx (pj_set w6 24 i0 1 (pj_nx (pj_set w3 24 i0 0 (pj_nx w))))))))).bind fun w13 => (if pj_nk w13 = 51 then (if 0 ≤ (pj_nx w13) then ((some (pj_up w13)).bind fun w16 => (some ((pj_set w16 24 i0 4 (pj_nx w13))))) else none) else none))) else none) else none)) else none) else none)) else none) else none)) else none) else none
theorem tD_init_c {Go : pj_C → Prop} (hM : pj_M l yX2_init cX2_init 1 none 1 12 false g n0 o Go) (i0 : Int) (w : pj_W) (hn0 : 0 ≤ i0) (R : pj_W → Prop) (h0 : ∀ r, R (r) → ((none : Option pj_V), r) = o) : pj_TG R (fD_init_c i0 w) (Go (0, [(24, i0)], [], w)) := by
  unfold fD_init_c
  refine pj_tgd (fun h1 => ?_)
  refine pj_tgd (fun h2 => ?_)
  refine pj_map (fun k => pj_aload_n hM (pc := 0) dX2_init_0 rfl rfl (pj_obj hM (pc := 1) dX2_init_1 ml_X2_5 mo_I mo_C (by decide) hn0 rfl rfl (pj_aload_n hM (pc := 4) dX2_init_4 rfl rfl (pj_bipush hM (pc := 5) dX2_init_5 (by decide) (pj_newaZ hM (pc := 7) dX2_init_7 mo_int (Or.inl ⟨rfl, rfl, rfl, fun _ => rfl⟩) rfl (by decide) (by decide) h1 rfl k))))) ?_
  refine pj_tlet (fun w3 => Go (9, [(24, i0)], [(47, (pj_nx w)), (24, i0)], w3)) (fun w3 => ?_)
  refine pj_tgd (fun h4 => ?_)
  refine pj_tgd (fun h5 => ?_)
  refine pj_map (fun k => pj_pfF hM (pc := 9) dX2_init_9 fl_X2_11 rfl (fun C T h => by cases h; rfl) hn0 rfl (by decide) (by decide) 0 rfl (pj_aload_n hM (pc := 12) dX2_init_12 rfl rfl (pj_bipush hM (pc := 13) dX2_init_13 (by decide) (pj_newaZ hM (pc := 15) dX2_init_15 mo_int (Or.inl ⟨rfl, rfl, rfl, fun _ => rfl⟩) rfl (by decide) (by decide) h4 rfl k)))) ?_
  refine pj_tlet (fun w6 => Go (17, [(24, i0)], [(48, (pj_nx (pj_set w3 24 i0 0 (pj_nx w)))), (24, i0)], w6)) (fun w6 => ?_)
  refine pj_tgd (fun h7 => ?_)
  refine pj_tgd (fun h8 => ?_)
  refine pj_map (fun k => pj_pfF hM (pc := 17) dX2_init_17 fl_X2_15 rfl (fun C T h => by cases h; rfl) hn0 rfl (by decide) (by decide) 1 rfl (pj_aload_n hM (pc := 20) dX2_init_20 rfl rfl (pj_bipush hM (pc := 21) dX2_init_21 (by decide) (pj_newaZ hM (pc := 23) dX2_init_23 mo_int (Or.inl ⟨rfl, rfl, rfl, fun _ => rfl⟩) rfl (by decide) (by decide) h7 rfl k)))) ?_
  refine pj_tlet (fun w9 => Go (25, [(24, i0)], [(49, (pj_nx (pj_set w6 24 i0 1 (pj_nx (pj_set w3 24 i0 0 (pj_nx w)))))), (24, i0)], w9)) (fun w9 => ?_)
  refine pj_tgd (fun h10 => ?_)
  refine pj_tgd (fun h11 => ?_)
  refine pj_map (fun k => pj_pfF hM (pc := 25) dX2_init_25 fl_X2_18 rfl (fun C T h => by cases h; rfl) hn0 rfl (by decide) (by decide) 2 rfl (pj_aload_n hM (pc := 28) dX2_init_28 rfl rfl (pj_bipush hM (pc := 29) dX2_init_29 (by decide) (pj_newaZ hM (pc := 31) dX2_init_31 mo_int (Or.inl ⟨rfl, rfl, rfl, fun _ => rfl⟩) rfl (by decide) (by decide) h10 rfl k)))) ?_
  refine pj_tlet (fun w12 => Go (33, [(24, i0)], [(50, (pj_nx (pj_set w9 24 i0 2 (pj_nx (pj_set w6 24 i0 1 (pj_nx (pj_set w3 24 i0 0 (pj_nx w)))))))), (24, i0)], w12)) (fun w12 => ?_)
  refine pj_map (fun k => pj_pfF hM (pc := 33) dX2_init_33 fl_X2_21 rfl (fun C T h => by cases h; rfl) hn0 rfl (by decide) (by decide) 3 rfl k) ?_
  refine pj_tlet (fun w13 => Go (36, [(24, i0)], [], w13)) (fun w13 => ?_)
  refine pj_tgd (fun h14 => ?_)
  refine pj_tgd (fun h15 => ?_)
  refine pj_map (fun k => pj_aload_n hM (pc := 36) dX2_init_36 rfl rfl (pj_bipush hM (pc := 37) dX2_init_37 (by decide) (pj_newaZ hM (pc := 39) dX2_init_39 mo_int (Or.inl ⟨rfl, rfl, rfl, fun _ => rfl⟩) rfl (by decide) (by decide) h14 rfl k))) ?_
  refine pj_tlet (fun w16 => Go (41, [(24, i0)], [(51, (pj_nx w13)), (24, i0)], w16)) (fun w16 => ?_)
  exact pj_tret (fun hr => pj_pfF hM (pc := 41) dX2_init_41 fl_X2_24 rfl (fun C T h => by cases h; rfl) hn0 rfl (by decide) (by decide) 4 rfl (pj_ret hM (pc := 44) dX2_init_44 rfl (h0 ((pj_set w16 24 i0 4 (pj_nx w13))) hr) rfl))
theorem cD_init_c (i0 : Int) (hn0 : 0 ≤ i0) (w : pj_W) (r : pj_W) (h : fD_init_c i0 w = some r) : pj_Cn l yX2_init cX2_init 1 none 1 12 false g [(24, i0)] w ((none : Option pj_V), r) :=
  pj_Cn_of rfl (Nat.le_of_ble_eq_true rfl) (lls := [(24, i0)]) rfl (fun Go hM => tD_init_c hM i0 w hn0 (fun x => ((none : Option pj_V), x) = ((none : Option pj_V), r)) (fun r h => h) r h rfl)
noncomputable def fDT_init_c (x1 : Int) (w : pj_W) : Option (pj_W) :=
  if pj_nk w = 35 then (if pj_nx w = 0 then ((some (pj_up w)).bind fun w3 => (some ((pj_set (pj_set w3 14 0 1 0) 14 0 0 x1)))) else none) else none
theorem tDT_init_c {Go : pj_C → Prop} (hM : pj_M l yX3_init cX3_init 2 none 1 12 false g n0 o Go) (x1 : Int) (w : pj_W)  (R : pj_W → Prop) (h0 : ∀ r, R (r) → ((none : Option pj_V), r) = o) : pj_TG R (fDT_init_c x1 w) (Go (0, [(14, 0), (12, x1)], [], w)) := by
  unfold fDT_init_c
  refine pj_tgd (fun h1 => ?_)
  refine pj_tgd (fun h2 => ?_)
  refine pj_map (fun k => pj_aload_n hM (pc := 0) dX3_init_0 rfl rfl (pj_obj hM (pc := 1) dX3_init_1 ml_X3_3 mo_I mo_C (by decide) (by decide) rfl rfl (pj_aload_n hM (pc := 4) dX3_init_4 rfl rfl (pj_iconst hM (pc := 5) dX3_init_5 (by decide) (pj_newaZ hM (pc := 6) dX3_init_6 mo_int (Or.inl ⟨rfl, rfl, rfl, fun _ => rfl⟩) rfl (by decide) (by decide) h1 h2 k))))) ?_
  refine pj_tlet (fun w3 => Go (8, [(14, 0), (12, x1)], [(35, 0), (14, 0)], w3)) (fun w3 => ?_)
  exact pj_tret (fun hr => pj_pfF hM (pc := 8) dX3_init_8 fl_X3_11 rfl (fun C T h => by cases h; rfl) (by decide) rfl (by decide) (by decide) 1 rfl (pj_aload_n hM (pc := 11) dX3_init_11 rfl rfl (pj_aload_n hM (pc := 12) dX3_init_12 rfl rfl (pj_pfF hM (pc := 13) dX3_init_13 fl_X3_15 rfl (fun C T h => by cases h; rfl) (by decide) rfl (by decide) (by decide) 0 rfl (pj_ret hM (pc := 16) dX3_init_16 rfl (h0 ((pj_set (pj_set w3 14 0 1 0) 14 0 0 x1)) hr) rfl)))))
theorem cDT_init_c (x1 : Int)  (w : pj_W) (r : pj_W) (h : fDT_init_c x1 w = some r) : pj_Cn l yX3_init cX3_init 2 none 1 12 false g [(14, 0), (12, x1)] w ((none : Option pj_V), r) :=
  pj_Cn_of rfl (Nat.le_of_ble_eq_true rfl) (lls := [(14, 0), (12, x1)]) rfl (fun Go hM => tDT_init_c hM x1 w (fun x => ((none : Option pj_V), x) = ((none : Option pj_V), r)) (fun r h => h) r h rfl)
noncomputable def fL_init_c  (w : pj_W) : Option (pj_W) :=
  if pj_nk w = 42 then (if pj_nx w = 0 then ((some (pj_up w)).bind fun w3 => (if pj_nk (pj_set w3 18 0 0 0) = 43 then (if pj_nx (pj_set w3 18 0 0 0) = 0 then ((some (pj_up (pj_set w3 18 0 0 0))).bind fun w6 => (some ((pj_set w6 18 0 1 0)))) else none) else none)) else none) else none
theorem tL_init_c {Go : pj_C → Prop} (hM : pj_M l yX6_init cX6_init 1 none 1 12 false g n0 o Go)  (w : pj_W)  (R : pj_W → Prop) (h0 : ∀ r, R (r) → ((none : Option pj_V), r) = o) : pj_TG R (fL_init_c  w) (Go (0, [(18, 0)], [], w)) := by
  unfold fL_init_c
  refine pj_tgd (fun h1 => ?_)
  refine pj_tgd (fun h2 => ?_)
  refine pj_map (fun k => pj_aload_n hM (pc := 0) dX6_init_0 rfl rfl (pj_obj hM (pc := 1) dX6_init_1 ml_X6_3 mo_I mo_C (by decide) (by decide) rfl rfl (pj_aload_n hM (pc := 4) dX6_init_4 rfl rfl (pj_iconst hM (pc := 5) dX6_init_5 (by decide) (pj_newaZ hM (pc := 6) dX6_init_6 mo_int (Or.inl ⟨rfl, rfl, rfl, fun _ => rfl⟩) rfl (by decide) (by decide) h1 h2 k))))) ?_
  refine pj_tlet (fun w3 => Go (8, [(18, 0)], [(42, 0), (18, 0)], w3)) (fun w3 => ?_)
  refine pj_tgd (fun h4 => ?_)
  refine pj_tgd (fun h5 => ?_)
  refine pj_map (fun k => pj_pfF hM (pc := 8) dX6_init_8 fl_X6_11 rfl (fun C T h => by cases h; rfl) (by decide) rfl (by decide) (by decide) 0 rfl (pj_aload_n hM (pc := 11) dX6_init_11 rfl rfl (pj_bipush hM (pc := 12) dX6_init_12 (by decide) (pj_newaZ hM (pc := 14) dX6_init_14 mo_int (Or.inl ⟨rfl, rfl, rfl, fun _ => rfl⟩) rfl (by decide) (by decide) h4 h5 k)))) ?_
  refine pj_tlet (fun w6 => Go (16, [(18, 0)], [(43, 0), (18, 0)], w6)) (fun w6 => ?_)
  exact pj_tret (fun hr => pj_pfF hM (pc := 16) dX6_init_16 fl_X6_17 rfl (fun C T h => by cases h; rfl) (by decide) rfl (by decide) (by decide) 1 rfl (pj_ret hM (pc := 19) dX6_init_19 rfl (h0 ((pj_set w6 18 0 1 0)) hr) rfl))
theorem cL_init_c   (w : pj_W) (r : pj_W) (h : fL_init_c  w = some r) : pj_Cn l yX6_init cX6_init 1 none 1 12 false g [(18, 0)] w ((none : Option pj_V), r) :=
  pj_Cn_of rfl (Nat.le_of_ble_eq_true rfl) (lls := [(18, 0)]) rfl (fun Go hM => tL_init_c hM w (fun x => ((none : Option pj_V), x) = ((none : Option pj_V), r)) (fun r h => h) r h rfl)
noncomputable def fStr_isLatin14  (w : pj_W) : Option (Int) :=
  if (1 : Int) = 0 then (some (0)) else (if (0 : Int) = 0 then (some (1)) else (some (0)))
theorem tStr_isLatin14 {Go : pj_C → Prop} (hM : pj_M l yJ0_isLatin1_aae02 cJ0_isLatin1_aae02 1 (some .boolean) 0 0 ph g n0 o Go)  (w : pj_W)  (R : Int → Prop) (h0 : ∀ r, R (r) → ((some (0, r) : Option pj_V), w) = o) : pj_TG R (fStr_isLatin14  w) (Go (0, [(4, 0)], [], w)) := by
  unfold fStr_isLatin14
  refine pj_map (fun k => pj_gcs hM (pc := 0) dJ0_isLatin1_aae02_0 fs_J0_38 k) ?_
  refine pj_tif (fun h1 => ?_) (fun h1 => ?_)
  · exact pj_tret (fun hr => pj_if_eq_t hM (pc := 3) dJ0_isLatin1_aae02_3 rfl h1 (pj_iconst hM (pc := 17) dJ0_isLatin1_aae02_17 (by decide) (pj_ret hM (pc := 18) dJ0_isLatin1_aae02_18 ⟨_, rfl, Or.inl rfl⟩ (h0 (0) hr) rfl)))
  refine pj_map (fun k => pj_if_eq_f hM (pc := 3) 17 dJ0_isLatin1_aae02_3 rfl h1 (pj_aload_n hM (pc := 6) dJ0_isLatin1_aae02_6 rfl rfl (pj_gsC hM (pc := 7) 0 (by decide) dJ0_isLatin1_aae02_7 fs_J0_15 rfl k))) ?_
  refine pj_tif (fun h2 => ?_) (fun h2 => ?_)
  · exact pj_tret (fun hr => pj_if_ne_f hM (pc := 10) 17 dJ0_isLatin1_aae02_10 rfl (fun q => q h2) (pj_iconst hM (pc := 13) dJ0_isLatin1_aae02_13 (by decide) (pj_goto hM (pc := 14) dJ0_isLatin1_aae02_14 rfl (pj_ret hM (pc := 18) dJ0_isLatin1_aae02_18 ⟨_, rfl, Or.inr rfl⟩ (h0 (1) hr) rfl))))
  exact pj_tret (fun hr => pj_if_ne_t hM (pc := 10) dJ0_isLatin1_aae02_10 rfl h2 (pj_iconst hM (pc := 17) dJ0_isLatin1_aae02_17 (by decide) (pj_ret hM (pc := 18) dJ0_isLatin1_aae02_18 ⟨_, rfl, Or.inl rfl⟩ (h0 (0) hr) rfl)))
theorem cStr_isLatin14   (w : pj_W) (r : Int) (h : fStr_isLatin14  w = some r) : pj_Cn l yJ0_isLatin1_aae02 cJ0_isLatin1_aae02 1 (some .boolean) 0 0 ph g [(4, 0)] w ((some (0, r) : Option pj_V), w) :=
  pj_Cn_of (by decide +kernel) (Nat.le_of_ble_eq_true rfl) (lls := [(4, 0)]) rfl (fun Go hM => tStr_isLatin14 hM w (fun x => ((some (0, x) : Option pj_V), w) = ((some (0, r) : Option pj_V), w)) (fun r h => h) r h rfl)
noncomputable def fStr_isLatin15  (w : pj_W) : Option (Int) :=
  if (1 : Int) = 0 then (some (0)) else (if (0 : Int) = 0 then (some (1)) else (some (0)))
theorem tStr_isLatin15 {Go : pj_C → Prop} (hM : pj_M l yJ0_isLatin1_aae02 cJ0_isLatin1_aae02 1 (some .boolean) 0 0 ph g n0 o Go)  (w : pj_W)  (R : Int → Prop) (h0 : ∀ r, R (r) → ((some (0, r) : Option pj_V), w) = o) : pj_TG R (fStr_isLatin15  w) (Go (0, [(5, 0)], [], w)) := by
  unfold fStr_isLatin15
  refine pj_map (fun k => pj_gcs hM (pc := 0) dJ0_isLatin1_aae02_0 fs_J0_38 k) ?_
  refine pj_tif (fun h1 => ?_) (fun h1 => ?_)
  · exact pj_tret (fun hr => pj_if_eq_t hM (pc := 3) dJ0_isLatin1_aae02_3 rfl h1 (pj_iconst hM (pc := 17) dJ0_isLatin1_aae02_17 (by decide) (pj_ret hM (pc := 18) dJ0_isLatin1_aae02_18 ⟨_, rfl, Or.inl rfl⟩ (h0 (0) hr) rfl)))
  refine pj_map (fun k => pj_if_eq_f hM (pc := 3) 17 dJ0_isLatin1_aae02_3 rfl h1 (pj_aload_n hM (pc := 6) dJ0_isLatin1_aae02_6 rfl rfl (pj_gsC hM (pc := 7) 1 (by decide) dJ0_isLatin1_aae02_7 fs_J0_15 rfl k))) ?_
  refine pj_tif (fun h2 => ?_) (fun h2 => ?_)
  · exact pj_tret (fun hr => pj_if_ne_f hM (pc := 10) 17 dJ0_isLatin1_aae02_10 rfl (fun q => q h2) (pj_iconst hM (pc := 13) dJ0_isLatin1_aae02_13 (by decide) (pj_goto hM (pc := 14) dJ0_isLatin1_aae02_14 rfl (pj_ret hM (pc := 18) dJ0_isLatin1_aae02_18 ⟨_, rfl, Or.inr rfl⟩ (h0 (1) hr) rfl))))
  exact pj_tret (fun hr => pj_if_ne_t hM (pc := 10) dJ0_isLatin1_aae02_10 rfl h2 (pj_iconst hM (pc := 17) dJ0_isLatin1_aae02_17 (by decide) (pj_ret hM (pc := 18) dJ0_isLatin1_aae02_18 ⟨_, rfl, Or.inl rfl⟩ (h0 (0) hr) rfl)))
theorem cStr_isLatin15   (w : pj_W) (r : Int) (h : fStr_isLatin15  w = some r) : pj_Cn l yJ0_isLatin1_aae02 cJ0_isLatin1_aae02 1 (some .boolean) 0 0 ph g [(5, 0)] w ((some (0, r) : Option pj_V), w) :=
  pj_Cn_of (by decide +kernel) (Nat.le_of_ble_eq_true rfl) (lls := [(5, 0)]) rfl (fun Go hM => tStr_isLatin15 hM w (fun x => ((some (0, x) : Option pj_V), w) = ((some (0, r) : Option pj_V), w)) (fun r h => h) r h rfl)
noncomputable def fPre_checkIndex_9 (x0 : Int) (x1 : Int) (w : pj_W) : Option (Int) :=
  none
noncomputable def fPre_checkIndex (x0 : Int) (x1 : Int) (w : pj_W) : Option (Int) :=
  if x0 < 0 then (fPre_checkIndex_9 x0 x1 w) else (if x0 < x1 then (some (x0)) else (fPre_checkIndex_9 x0 x1 w))
theorem tPre_checkIndex_9 {Go : pj_C → Prop} (hM : pj_M l yJ3_checkIndex_8e157 cJ3_checkIndex_8e157 3 (some .int) 0 0 ph g n0 o Go) (x0 : Int) (x1 : Int) (w : pj_W)  (R : Int → Prop) (h0 : ∀ r, R (r) → ((some (0, r) : Option pj_V), w) = o) : pj_TG R (fPre_checkIndex_9 x0 x1 w) (Go (9, [(0, x0), (0, x1), (8, 0)], [], w)) := by
  unfold fPre_checkIndex_9
  exact fun x hx => by cases hx
theorem tPre_checkIndex {Go : pj_C → Prop} (hM : pj_M l yJ3_checkIndex_8e157 cJ3_checkIndex_8e157 3 (some .int) 0 0 ph g n0 o Go) (x0 : Int) (x1 : Int) (w : pj_W)  (R : Int → Prop) (h0 : ∀ r, R (r) → ((some (0, r) : Option pj_V), w) = o) : pj_TG R (fPre_checkIndex x0 x1 w) (Go (0, [(0, x0), (0, x1), (8, 0)], [], w)) := by
  unfold fPre_checkIndex
  refine pj_map (fun k => pj_iload_n hM (pc := 0) dJ3_checkIndex_8e157_0 rfl k) ?_
  refine pj_tif (fun h1 => ?_) (fun h1 => ?_)
  · refine pj_map (fun k => pj_if_lt_t hM (pc := 1) dJ3_checkIndex_8e157_1 rfl h1 (pj_kill hM [true, true, true] (lls' := [(0, x0), (0, x1), (8, 0)]) rfl k)) ?_
    exact tPre_checkIndex_9 hM x0 x1 w _ h0
  refine pj_map (fun k => pj_if_lt_f hM (pc := 1) 9 dJ3_checkIndex_8e157_1 rfl h1 (pj_iload_n hM (pc := 4) dJ3_checkIndex_8e157_4 rfl (pj_iload_n hM (pc := 5) dJ3_checkIndex_8e157_5 rfl k))) ?_
  refine pj_tif (fun h2 => ?_) (fun h2 => ?_)
  · exact pj_tret (fun hr => pj_ic_lt_t hM (pc := 6) dJ3_checkIndex_8e157_6 rfl h2 (pj_iload_n hM (pc := 16) dJ3_checkIndex_8e157_16 rfl (pj_ret hM (pc := 17) dJ3_checkIndex_8e157_17 ⟨_, rfl⟩ (h0 (x0) hr) rfl)))
  refine pj_map (fun k => pj_ic_lt_f hM (pc := 6) 16 dJ3_checkIndex_8e157_6 rfl h2 (pj_kill hM [true, true, true] (lls' := [(0, x0), (0, x1), (8, 0)]) rfl k)) ?_
  exact tPre_checkIndex_9 hM x0 x1 w _ h0
theorem cPre_checkIndex (x0 : Int) (x1 : Int)  (w : pj_W) (r : Int) (h : fPre_checkIndex x0 x1 w = some r) : pj_Cn l yJ3_checkIndex_8e157 cJ3_checkIndex_8e157 3 (some .int) 0 0 ph g [(0, x0), (0, x1), (8, 0)] w ((some (0, r) : Option pj_V), w) :=
  pj_Cn_of (by decide +kernel) (Nat.le_of_ble_eq_true rfl) (lls := [(0, x0), (0, x1), (8, 0)]) rfl (fun Go hM => tPre_checkIndex hM x0 x1 w (fun x => ((some (0, x) : Option pj_V), w) = ((some (0, r) : Option pj_V), w)) (fun r h => h) r h rfl)
noncomputable def fStr_checkIndex (x0 : Int) (x1 : Int) (w : pj_W) : Option (Unit) :=
  (fPre_checkIndex x0 x1 w).bind fun p1 => (some (()))
theorem tStr_checkIndex {Go : pj_C → Prop} (hM : pj_M l yJ0_checkIndex_df160 cJ0_checkIndex_df160 2 none 1 22 ph g n0 o Go) (x0 : Int) (x1 : Int) (w : pj_W)  (R : Unit → Prop) (h0 : ∀ r, R (r) → ((none : Option pj_V), w) = o) : pj_TG R (fStr_checkIndex x0 x1 w) (Go (0, [(0, x0), (0, x1)], [], w)) := by
  unfold fStr_checkIndex
  refine pj_tbind (fun p1 h2 => ?_)
  exact pj_tret (fun hr => pj_iload_n hM (pc := 0) dJ0_checkIndex_df160_0 rfl (pj_iload_n hM (pc := 1) dJ0_checkIndex_df160_1 rfl (pj_gsf hM (pc := 2) dJ0_checkIndex_df160_2 fs_J0_1053 (pj_cS hM (pc := 5) (cPre_checkIndex x0 x1 w p1 h2) dJ0_checkIndex_df160_5 mf_J3_checkIndex_8e157 ms_J3_checkIndex_8e157 ml_J0_1059 rfl rfl rfl rfl (pj_pop hM (pc := 8) dJ0_checkIndex_df160_8 (by decide) (pj_ret hM (pc := 9) dJ0_checkIndex_df160_9 rfl (h0 (()) hr) rfl))))))
theorem cStr_checkIndex (x0 : Int) (x1 : Int)  (w : pj_W) (r : Unit) (h : fStr_checkIndex x0 x1 w = some r) : pj_Cn l yJ0_checkIndex_df160 cJ0_checkIndex_df160 2 none 1 22 ph g [(0, x0), (0, x1)] w ((none : Option pj_V), w) :=
  pj_Cn_of (by decide +kernel) (Nat.le_of_ble_eq_true rfl) (lls := [(0, x0), (0, x1)]) rfl (fun Go hM => tStr_checkIndex hM x0 x1 w (fun x => ((none : Option pj_V), w) = ((none : Option pj_V), w)) (fun r h => h) r h rfl)
noncomputable def fS1_charAt4 (x1 : Int) (w : pj_W) : Option (Int) :=
  (fStr_checkIndex x1 151 w).bind fun p1 => (if 0 ≤ x1 ∧ x1 < 151 then (if 0 ≤ ((pj_and (pj_sb 0 x1) 255) % 65536) ∧ ((pj_and (pj_sb 0 x1) 255) % 65536) < 65536 then (some (((pj_and (pj_sb 0 x1) 255) % 65536))) else none) else none)
theorem tS1_charAt4 {Go : pj_C → Prop} (hM : pj_M l yJ1_charAt_3b067 cJ1_charAt_3b067 2 (some .char) 2 43 ph g n0 o Go) (x1 : Int) (w : pj_W)  (R : Int → Prop) (h0 : ∀ r, R (r) → ((some (0, r) : Option pj_V), w) = o) : pj_TG R (fS1_charAt4 x1 w) (Go (0, [(6, 0), (0, x1)], [], w)) := by
  unfold fS1_charAt4
  refine pj_tbind (fun p1 h2 => ?_)
  refine pj_tgd (fun h3 => ?_)
  refine pj_tgd (fun h4 => ?_)
  exact pj_tret (fun hr => pj_iload_n hM (pc := 0) dJ1_charAt_3b067_0 rfl (pj_aload_n hM (pc := 1) dJ1_charAt_3b067_1 rfl rfl (pj_sal hM (pc := 2) 0 (by decide) dJ1_charAt_3b067_2 rfl (n := 151) rfl (pj_cSv hM (pc := 3) (cStr_checkIndex x1 151 w p1 h2) dJ1_charAt_3b067_3 mf_J0_checkIndex_df160 ms_J0_checkIndex_df160 ml_J1_9 rfl rfl rfl rfl (pj_aload_n hM (pc := 6) dJ1_charAt_3b067_6 rfl rfl (pj_iload_n hM (pc := 7) dJ1_charAt_3b067_7 rfl (pj_sbl hM (pc := 8) 0 (by decide) dJ1_charAt_3b067_8 rfl (n := 151) rfl h3 (pj_sipush hM (pc := 9) dJ1_charAt_3b067_9 (by decide) (pj_iand hM (pc := 12) dJ1_charAt_3b067_12 (pj_i2c hM (pc := 13) dJ1_charAt_3b067_13 (pj_ret hM (pc := 14) dJ1_charAt_3b067_14 ⟨_, rfl, h4⟩ (h0 (((pj_and (pj_sb 0 x1) 255) % 65536)) hr) rfl)))))))))))
theorem cS1_charAt4 (x1 : Int)  (w : pj_W) (r : Int) (h : fS1_charAt4 x1 w = some r) : pj_Cn l yJ1_charAt_3b067 cJ1_charAt_3b067 2 (some .char) 2 43 ph g [(6, 0), (0, x1)] w ((some (0, r) : Option pj_V), w) :=
  pj_Cn_of (by decide +kernel) (Nat.le_of_ble_eq_true rfl) (lls := [(6, 0), (0, x1)]) rfl (fun Go hM => tS1_charAt4 hM x1 w (fun x => ((some (0, x) : Option pj_V), w) = ((some (0, r) : Option pj_V), w)) (fun r h => h) r h rfl)
noncomputable def fS1_charAt5 (x1 : Int) (w : pj_W) : Option (Int) :=
  (fStr_checkIndex x1 150 w).bind fun p1 => (if 0 ≤ x1 ∧ x1 < 150 then (if 0 ≤ ((pj_and (pj_sb 1 x1) 255) % 65536) ∧ ((pj_and (pj_sb 1 x1) 255) % 65536) < 65536 then (some (((pj_and (pj_sb 1 x1) 255) % 65536))) else none) else none)
theorem tS1_charAt5 {Go : pj_C → Prop} (hM : pj_M l yJ1_charAt_3b067 cJ1_charAt_3b067 2 (some .char) 2 43 ph g n0 o Go) (x1 : Int) (w : pj_W)  (R : Int → Prop) (h0 : ∀ r, R (r) → ((some (0, r) : Option pj_V), w) = o) : pj_TG R (fS1_charAt5 x1 w) (Go (0, [(7, 0), (0, x1)], [], w)) := by
  unfold fS1_charAt5
  refine pj_tbind (fun p1 h2 => ?_)
  refine pj_tgd (fun h3 => ?_)
  refine pj_tgd (fun h4 => ?_)
  exact pj_tret (fun hr => pj_iload_n hM (pc := 0) dJ1_charAt_3b067_0 rfl (pj_aload_n hM (pc := 1) dJ1_charAt_3b067_1 rfl rfl (pj_sal hM (pc := 2) 1 (by decide) dJ1_charAt_3b067_2 rfl (n := 150) rfl (pj_cSv hM (pc := 3) (cStr_checkIndex x1 150 w p1 h2) dJ1_charAt_3b067_3 mf_J0_checkIndex_df160 ms_J0_checkIndex_df160 ml_J1_9 rfl rfl rfl rfl (pj_aload_n hM (pc := 6) dJ1_charAt_3b067_6 rfl rfl (pj_iload_n hM (pc := 7) dJ1_charAt_3b067_7 rfl (pj_sbl hM (pc := 8) 1 (by decide) dJ1_charAt_3b067_8 rfl (n := 150) rfl h3 (pj_sipush hM (pc := 9) dJ1_charAt_3b067_9 (by decide) (pj_iand hM (pc := 12) dJ1_charAt_3b067_12 (pj_i2c hM (pc := 13) dJ1_charAt_3b067_13 (pj_ret hM (pc := 14) dJ1_charAt_3b067_14 ⟨_, rfl, h4⟩ (h0 (((pj_and (pj_sb 1 x1) 255) % 65536)) hr) rfl)))))))))))
theorem cS1_charAt5 (x1 : Int)  (w : pj_W) (r : Int) (h : fS1_charAt5 x1 w = some r) : pj_Cn l yJ1_charAt_3b067 cJ1_charAt_3b067 2 (some .char) 2 43 ph g [(7, 0), (0, x1)] w ((some (0, r) : Option pj_V), w) :=
  pj_Cn_of (by decide +kernel) (Nat.le_of_ble_eq_true rfl) (lls := [(7, 0), (0, x1)]) rfl (fun Go hM => tS1_charAt5 hM x1 w (fun x => ((some (0, x) : Option pj_V), w) = ((some (0, r) : Option pj_V), w)) (fun r h => h) r h rfl)
noncomputable def fStr_charAt4 (x1 : Int) (w : pj_W) : Option (Int) :=
  (fStr_isLatin14 w).bind fun p1 => (if p1 = 0 then (none) else ((fS1_charAt4 x1 w).bind fun p4 => (if 0 ≤ p4 ∧ p4 < 65536 then (some (p4)) else none)))
theorem tStr_charAt4 {Go : pj_C → Prop} (hM : pj_M l yJ0_charAt_5068e cJ0_charAt_5068e 2 (some .char) 3 64 ph g n0 o Go) (x1 : Int) (w : pj_W)  (R : Int → Prop) (h0 : ∀ r, R (r) → ((some (0, r) : Option pj_V), w) = o) : pj_TG R (fStr_charAt4 x1 w) (Go (0, [(4, 0), (0, x1)], [], w)) := by
  unfold fStr_charAt4
  refine pj_tbind (fun p1 h2 => ?_)
  refine pj_map (fun k => pj_aload_n hM (pc := 0) dJ0_charAt_5068e_0 rfl rfl (pj_cT hM (pc := 1) 0 (by decide) rfl (cStr_isLatin14 w p1 h2) dJ0_charAt_5068e_1 mf_J0_isLatin1_aae02 mv_J0_isLatin1_aae02 ml_J0_492 rfl rfl rfl rfl rfl k)) ?_
  refine pj_tif (fun h3 => ?_) (fun h3 => ?_)
  · exact fun x hx => by cases hx
  refine pj_tbind (fun p4 h5 => ?_)
  refine pj_tgd (fun h6 => ?_)
  exact pj_tret (fun hr => pj_if_eq_f hM (pc := 4) 16 dJ0_charAt_5068e_4 rfl h3 (pj_aload_n hM (pc := 7) dJ0_charAt_5068e_7 rfl rfl (pj_gsV hM (pc := 8) 0 (by decide) dJ0_charAt_5068e_8 fs_J0_9 rfl (t2 := 6) rfl (pj_iload_n hM (pc := 11) dJ0_charAt_5068e_11 rfl (pj_cS hM (pc := 12) (cS1_charAt4 x1 w p4 h5) dJ0_charAt_5068e_12 mf_J1_charAt_3b067 ms_J1_charAt_3b067 ml_J0_495 rfl rfl rfl rfl (pj_ret hM (pc := 15) dJ0_charAt_5068e_15 ⟨_, rfl, h6⟩ (h0 (p4) hr) rfl))))))
theorem cStr_charAt4 (x1 : Int)  (w : pj_W) (r : Int) (h : fStr_charAt4 x1 w = some r) : pj_Cn l yJ0_charAt_5068e cJ0_charAt_5068e 2 (some .char) 3 64 ph g [(4, 0), (0, x1)] w ((some (0, r) : Option pj_V), w) :=
  pj_Cn_of (by decide +kernel) (Nat.le_of_ble_eq_true rfl) (lls := [(4, 0), (0, x1)]) rfl (fun Go hM => tStr_charAt4 hM x1 w (fun x => ((some (0, x) : Option pj_V), w) = ((some (0, r) : Option pj_V), w)) (fun r h => h) r h rfl)
noncomputable def fStr_charAt5 (x1 : Int) (w : pj_W) : Option (Int) :=
  (fStr_isLatin15 w).bind fun p1 => (if p1 = 0 then (none) else ((fS1_charAt5 x1 w).bind fun p4 => (if 0 ≤ p4 ∧ p4 < 65536 then (some (p4)) else none)))
theorem tStr_charAt5 {Go : pj_C → Prop} (hM : pj_M l yJ0_charAt_5068e cJ0_charAt_5068e 2 (some .char) 3 64 ph g n0 o Go) (x1 : Int) (w : pj_W)  (R : Int → Prop) (h0 : ∀ r, R (r) → ((some (0, r) : Option pj_V), w) = o) : pj_TG R (fStr_charAt5 x1 w) (Go (0, [(5, 0), (0, x1)], [], w)) := by
  unfold fStr_charAt5
  refine pj_tbind (fun p1 h2 => ?_)
  refine pj_map (fun k => pj_aload_n hM (pc := 0) dJ0_charAt_5068e_0 rfl rfl (pj_cT hM (pc := 1) 1 (by decide) rfl (cStr_isLatin15 w p1 h2) dJ0_charAt_5068e_1 mf_J0_isLatin1_aae02 mv_J0_isLatin1_aae02 ml_J0_492 rfl rfl rfl rfl rfl k)) ?_
  refine pj_tif (fun h3 => ?_) (fun h3 => ?_)
  · exact fun x hx => by cases hx
  refine pj_tbind (fun p4 h5 => ?_)
  refine pj_tgd (fun h6 => ?_)
  exact pj_tret (fun hr => pj_if_eq_f hM (pc := 4) 16 dJ0_charAt_5068e_4 rfl h3 (pj_aload_n hM (pc := 7) dJ0_charAt_5068e_7 rfl rfl (pj_gsV hM (pc := 8) 1 (by decide) dJ0_charAt_5068e_8 fs_J0_9 rfl (t2 := 7) rfl (pj_iload_n hM (pc := 11) dJ0_charAt_5068e_11 rfl (pj_cS hM (pc := 12) (cS1_charAt5 x1 w p4 h5) dJ0_charAt_5068e_12 mf_J1_charAt_3b067 ms_J1_charAt_3b067 ml_J0_495 rfl rfl rfl rfl (pj_ret hM (pc := 15) dJ0_charAt_5068e_15 ⟨_, rfl, h6⟩ (h0 (p4) hr) rfl))))))
theorem cStr_charAt5 (x1 : Int)  (w : pj_W) (r : Int) (h : fStr_charAt5 x1 w = some r) : pj_Cn l yJ0_charAt_5068e cJ0_charAt_5068e 2 (some .char) 3 64 ph g [(5, 0), (0, x1)] w ((some (0, r) : Option pj_V), w) :=
  pj_Cn_of (by decide +kernel) (Nat.le_of_ble_eq_true rfl) (lls := [(5, 0), (0, x1)]) rfl (fun Go hM => tStr_charAt5 hM x1 w (fun x => ((some (0, x) : Option pj_V), w) = ((some (0, r) : Option pj_V), w)) (fun r h => h) r h rfl)
noncomputable def fStr_coder4  (w : pj_W) : Option (Int) :=
  if (1 : Int) = 0 then (some (1)) else (some (0))
theorem tStr_coder4 {Go : pj_C → Prop} (hM : pj_M l yJ0_coder_7d493 cJ0_coder_7d493 1 (some .byte) 0 0 ph g n0 o Go)  (w : pj_W)  (R : Int → Prop) (h0 : ∀ r, R (r) → ((some (0, r) : Option pj_V), w) = o) : pj_TG R (fStr_coder4  w) (Go (0, [(4, 0)], [], w)) := by
  unfold fStr_coder4
  refine pj_map (fun k => pj_gcs hM (pc := 0) dJ0_coder_7d493_0 fs_J0_38 k) ?_
  refine pj_tif (fun h1 => ?_) (fun h1 => ?_)
  · exact pj_tret (fun hr => pj_if_eq_t hM (pc := 3) dJ0_coder_7d493_3 rfl h1 (pj_iconst hM (pc := 13) dJ0_coder_7d493_13 (by decide) (pj_ret hM (pc := 14) dJ0_coder_7d493_14 ⟨_, rfl, by decide⟩ (h0 (1) hr) rfl)))
  exact pj_tret (fun hr => pj_if_eq_f hM (pc := 3) 13 dJ0_coder_7d493_3 rfl h1 (pj_aload_n hM (pc := 6) dJ0_coder_7d493_6 rfl rfl (pj_gsC hM (pc := 7) 0 (by decide) dJ0_coder_7d493_7 fs_J0_15 rfl (pj_goto hM (pc := 10) dJ0_coder_7d493_10 rfl (pj_ret hM (pc := 14) dJ0_coder_7d493_14 ⟨_, rfl, by decide⟩ (h0 (0) hr) rfl)))))
theorem cStr_coder4   (w : pj_W) (r : Int) (h : fStr_coder4  w = some r) : pj_Cn l yJ0_coder_7d493 cJ0_coder_7d493 1 (some .byte) 0 0 ph g [(4, 0)] w ((some (0, r) : Option pj_V), w) :=
  pj_Cn_of (by decide +kernel) (Nat.le_of_ble_eq_true rfl) (lls := [(4, 0)]) rfl (fun Go hM => tStr_coder4 hM w (fun x => ((some (0, x) : Option pj_V), w) = ((some (0, r) : Option pj_V), w)) (fun r h => h) r h rfl)
noncomputable def fStr_coder5  (w : pj_W) : Option (Int) :=
  if (1 : Int) = 0 then (some (1)) else (some (0))
theorem tStr_coder5 {Go : pj_C → Prop} (hM : pj_M l yJ0_coder_7d493 cJ0_coder_7d493 1 (some .byte) 0 0 ph g n0 o Go)  (w : pj_W)  (R : Int → Prop) (h0 : ∀ r, R (r) → ((some (0, r) : Option pj_V), w) = o) : pj_TG R (fStr_coder5  w) (Go (0, [(5, 0)], [], w)) := by
  unfold fStr_coder5
  refine pj_map (fun k => pj_gcs hM (pc := 0) dJ0_coder_7d493_0 fs_J0_38 k) ?_
  refine pj_tif (fun h1 => ?_) (fun h1 => ?_)
  · exact pj_tret (fun hr => pj_if_eq_t hM (pc := 3) dJ0_coder_7d493_3 rfl h1 (pj_iconst hM (pc := 13) dJ0_coder_7d493_13 (by decide) (pj_ret hM (pc := 14) dJ0_coder_7d493_14 ⟨_, rfl, by decide⟩ (h0 (1) hr) rfl)))
  exact pj_tret (fun hr => pj_if_eq_f hM (pc := 3) 13 dJ0_coder_7d493_3 rfl h1 (pj_aload_n hM (pc := 6) dJ0_coder_7d493_6 rfl rfl (pj_gsC hM (pc := 7) 1 (by decide) dJ0_coder_7d493_7 fs_J0_15 rfl (pj_goto hM (pc := 10) dJ0_coder_7d493_10 rfl (pj_ret hM (pc := 14) dJ0_coder_7d493_14 ⟨_, rfl, by decide⟩ (h0 (0) hr) rfl)))))
theorem cStr_coder5   (w : pj_W) (r : Int) (h : fStr_coder5  w = some r) : pj_Cn l yJ0_coder_7d493 cJ0_coder_7d493 1 (some .byte) 0 0 ph g [(5, 0)] w ((some (0, r) : Option pj_V), w) :=
  pj_Cn_of (by decide +kernel) (Nat.le_of_ble_eq_true rfl) (lls := [(5, 0)]) rfl (fun Go hM => tStr_coder5 hM w (fun x => ((some (0, x) : Option pj_V), w) = ((some (0, r) : Option pj_V), w)) (fun r h => h) r h rfl)
noncomputable def fStr_length4  (w : pj_W) : Option (Int) :=
  (fStr_coder4 w).bind fun p1 => (some ((pj_shr 151 p1)))
theorem tStr_length4 {Go : pj_C → Prop} (hM : pj_M l yJ0_length_8abf5 cJ0_length_8abf5 1 (some .int) 1 20 ph g n0 o Go)  (w : pj_W)  (R : Int → Prop) (h0 : ∀ r, R (r) → ((some (0, r) : Option pj_V), w) = o) : pj_TG R (fStr_length4  w) (Go (0, [(4, 0)], [], w)) := by
  unfold fStr_length4
  refine pj_tbind (fun p1 h2 => ?_)
  exact pj_tret (fun hr => pj_aload_n hM (pc := 0) dJ0_length_8abf5_0 rfl rfl (pj_gsV hM (pc := 1) 0 (by decide) dJ0_length_8abf5_1 fs_J0_9 rfl (t2 := 6) rfl (pj_sal hM (pc := 4) 0 (by decide) dJ0_length_8abf5_4 rfl (n := 151) rfl (pj_aload_n hM (pc := 5) dJ0_length_8abf5_5 rfl rfl (pj_cT hM (pc := 6) 0 (by decide) rfl (cStr_coder4 w p1 h2) dJ0_length_8abf5_6 mf_J0_coder_7d493 mv_J0_coder_7d493 ml_J0_335 rfl rfl rfl rfl rfl (pj_ishr hM (pc := 9) dJ0_length_8abf5_9 (pj_ret hM (pc := 10) dJ0_length_8abf5_10 ⟨_, rfl⟩ (h0 ((pj_shr 151 p1)) hr) rfl)))))))
theorem cStr_length4   (w : pj_W) (r : Int) (h : fStr_length4  w = some r) : pj_Cn l yJ0_length_8abf5 cJ0_length_8abf5 1 (some .int) 1 20 ph g [(4, 0)] w ((some (0, r) : Option pj_V), w) :=
  pj_Cn_of (by decide +kernel) (Nat.le_of_ble_eq_true rfl) (lls := [(4, 0)]) rfl (fun Go hM => tStr_length4 hM w (fun x => ((some (0, x) : Option pj_V), w) = ((some (0, r) : Option pj_V), w)) (fun r h => h) r h rfl)
noncomputable def fStr_length5  (w : pj_W) : Option (Int) :=
  (fStr_coder5 w).bind fun p1 => (some ((pj_shr 150 p1)))
theorem tStr_length5 {Go : pj_C → Prop} (hM : pj_M l yJ0_length_8abf5 cJ0_length_8abf5 1 (some .int) 1 20 ph g n0 o Go)  (w : pj_W)  (R : Int → Prop) (h0 : ∀ r, R (r) → ((some (0, r) : Option pj_V), w) = o) : pj_TG R (fStr_length5  w) (Go (0, [(5, 0)], [], w)) := by
  unfold fStr_length5
  refine pj_tbind (fun p1 h2 => ?_)
  exact pj_tret (fun hr => pj_aload_n hM (pc := 0) dJ0_length_8abf5_0 rfl rfl (pj_gsV hM (pc := 1) 1 (by decide) dJ0_length_8abf5_1 fs_J0_9 rfl (t2 := 7) rfl (pj_sal hM (pc := 4) 1 (by decide) dJ0_length_8abf5_4 rfl (n := 150) rfl (pj_aload_n hM (pc := 5) dJ0_length_8abf5_5 rfl rfl (pj_cT hM (pc := 6) 1 (by decide) rfl (cStr_coder5 w p1 h2) dJ0_length_8abf5_6 mf_J0_coder_7d493 mv_J0_coder_7d493 ml_J0_335 rfl rfl rfl rfl rfl (pj_ishr hM (pc := 9) dJ0_length_8abf5_9 (pj_ret hM (pc := 10) dJ0_length_8abf5_10 ⟨_, rfl⟩ (h0 ((pj_shr 150 p1)) hr) rfl)))))))
theorem cStr_length5   (w : pj_W) (r : Int) (h : fStr_length5  w = some r) : pj_Cn l yJ0_length_8abf5 cJ0_length_8abf5 1 (some .int) 1 20 ph g [(5, 0)] w ((some (0, r) : Option pj_V), w) :=
  pj_Cn_of (by decide +kernel) (Nat.le_of_ble_eq_true rfl) (lls := [(5, 0)]) rfl (fun Go hM => tStr_length5 hM w (fun x => ((some (0, x) : Option pj_V), w) = ((some (0, r) : Option pj_V), w)) (fun r h => h) r h rfl)
noncomputable def fR_init_c_119 (x1 : Int) (x2 : Int) (x4 : Int) (w : pj_W) : Option ((Int × Int × Int × pj_W) ⊕ (pj_W)) :=
  some (Sum.inl (x1, x2, (pj_wr (x4 + 1)), w))
noncomputable def fR_init_c_65b  (x1 : Int) (x2 : Int) (x4 : Int) (w : pj_W) : Option ((Int × Int × Int × pj_W) ⊕ (pj_W)) :=
  (fStr_length5 w).bind fun p1 => (if p1 ≤ x4 then (some (Sum.inr (w))) else (if 30 ≤ x1 then (some (Sum.inr (w))) else ((fStr_charAt5 x4 w).bind fun p5 => (if p5 = 32 then (if 0 ≤ (w 12 0 4) then (if 0 ≤ x1 ∧ x1 < 30 then (fR_init_c_119 (pj_wr (x1 + 1)) 0 x4 (pj_set w 34 (w 12 0 4) x1 x2)) else none) else none) else ((fR_pack x2 p5 w).bind fun p10 => (fR_init_c_119 x1 p10 x4 w))))))
noncomputable def fR_init_c_65  (s : (Int × Int × Int × pj_W)) : Option (pj_W) := pj_Lp (fun s : (Int × Int × Int × pj_W) => fR_init_c_65b  s.1 s.2.1 s.2.2.1 s.2.2.2) s
noncomputable def fR_init_c  (w : pj_W) : Option (pj_W) :=
  if pj_nk w = 30 then (if pj_nx w = 0 then ((some (pj_up w)).bind fun w3 => (if pj_nk (pj_set w3 12 0 0 0) = 31 then (if pj_nx (pj_set w3 12 0 0 0) = 0 then ((some (pj_up (pj_set w3 12 0 0 0))).bind fun w6 => (if pj_nk (pj_set w6 12 0 1 0) = 32 then (if pj_nx (pj_set w6 12 0 1 0) = 0 then ((some (pj_up (pj_set w6 12 0 1 0))).bind fun w9 => (if pj_nk (pj_set w9 12 0 2 0) = 33 then (if pj_nx (pj_set w9 12 0 2 0) = 0 then ((some (pj_up (pj_set w9 12 0 2 0))).bind fun w12 => (if pj_nk (pj_set w12 12 0 3 0) = 34 then (if pj_nx (pj_set w12 12 0 3 0) = 0 then ((some (pj_up (pj_set w12 12 0 3 0))).bind fun w15 => (fR_init_c_65 (0, 0, 0, (pj_set (pj_set (pj_set w15 12 0 4 0) 12 0 6 (-1)) 12 0 7 (-1))))) else none) else none)) else none) else none)) else none) else none)) else none) else none)) else none) else none
theorem tR_init_c_119 {Go : pj_C → Prop} (hM : pj_M l yX7_init cX7_init 6 none 4 85 false g n0 o Go) (x1 : Int) (x2 : Int) (x4 : Int) (w : pj_W)  (R : (Int × Int × Int × pj_W) ⊕ (pj_W) → Prop) (h0 : ∀ r, R (Sum.inr (r)) → ((none : Option pj_V), r) = o) (hk65 : ∀ s, R (Sum.inl s) → Go (65, [(12, 0), (0, s.1), (1, s.2.1), (9, 0), (0, s.2.2.1), (9, 0)], [], s.2.2.2)) : pj_TG R (fR_init_c_119 x1 x2 x4 w) (Go (119, [(12, 0), (0, x1), (1, x2), (9, 0), (0, x4), (9, 0)], [], w)) := by
  unfold fR_init_c_119
  exact pj_tret (fun hr => pj_iinc hM (pc := 119) dX7_init_119 rfl (by decide) (lls' := [(12, 0), (0, x1), (1, x2), (9, 0), (0, (pj_wr (x4 + 1))), (9, 0)]) rfl (pj_goto hM (pc := 122) dX7_init_122 rfl (pj_kill hM [true, true, true, false, true, false] (lls' := [(12, 0), (0, x1), (1, x2), (9, 0), (0, (pj_wr (x4 + 1))), (9, 0)]) rfl ((hk65 _ hr)))))
theorem tR_init_c_65b {Go : pj_C → Prop} (hM : pj_M l yX7_init cX7_init 6 none 4 85 false g n0 o Go)  (x1 : Int) (x2 : Int) (x4 : Int) (w : pj_W)  (R : (Int × Int × Int × pj_W) ⊕ (pj_W) → Prop) (h0 : ∀ r, R (Sum.inr (r)) → ((none : Option pj_V), r) = o) (hk65 : ∀ s, R (Sum.inl s) → Go (65, [(12, 0), (0, s.1), (1, s.2.1), (9, 0), (0, s.2.2.1), (9, 0)], [], s.2.2.2)) : pj_TG R (fR_init_c_65b  x1 x2 x4 w) (Go (65, [(12, 0), (0, x1), (1, x2), (9, 0), (0, x4), (9, 0)], [], w)) := by
  unfold fR_init_c_65b
  refine pj_tbind (fun p1 h2 => ?_)
  refine pj_map (fun k => pj_iload hM (pc := 65) dX7_init_65 rfl (pj_ldcS5 hM (pc := 67) dX7_init_67 rfl (pj_cT hM (pc := 69) 1 (by decide) rfl (cStr_length5 w p1 h2) dX7_init_69 mf_J0_length_8abf5 mv_J0_length_8abf5 ml_X7_40 rfl rfl rfl rfl rfl k))) ?_
  refine pj_tif (fun h3 => ?_) (fun h3 => ?_)
  · exact pj_tret (fun hr => pj_ic_ge_t hM (pc := 72) dX7_init_72 rfl h3 (pj_ret hM (pc := 125) dX7_init_125 rfl (h0 (w) hr) rfl))
  refine pj_map (fun k => pj_ic_ge_f hM (pc := 72) 125 dX7_init_72 rfl h3 (pj_iload_n hM (pc := 75) dX7_init_75 rfl (pj_bipush hM (pc := 76) dX7_init_76 (by decide) k))) ?_
  refine pj_tif (fun h4 => ?_) (fun h4 => ?_)
  · exact pj_tret (fun hr => pj_ic_ge_t hM (pc := 78) dX7_init_78 rfl h4 (pj_ret hM (pc := 125) dX7_init_125 rfl (h0 (w) hr) rfl))
  refine pj_tbind (fun p5 h6 => ?_)
  refine pj_map (fun k => pj_ic_ge_f hM (pc := 78) 125 dX7_init_78 rfl h4 (pj_ldcS5 hM (pc := 81) dX7_init_81 rfl (pj_iload hM (pc := 83) dX7_init_83 rfl (pj_cT hM (pc := 85) 1 (by decide) rfl (cStr_charAt5 x4 w p5 h6) dX7_init_85 mf_J0_charAt_5068e mv_J0_charAt_5068e ml_X7_46 rfl rfl rfl rfl rfl (pj_istore hM (pc := 88) dX7_init_88 (by decide) (lls' := [(12, 0), (0, x1), (1, x2), (9, 0), (0, x4), (0, p5)]) rfl (pj_iload hM (pc := 90) dX7_init_90 rfl (pj_bipush hM (pc := 92) dX7_init_92 (by decide) k))))))) ?_
  refine pj_tif (fun h7 => ?_) (fun h7 => ?_)
  · refine pj_tgd (fun h8 => ?_)
    refine pj_tgd (fun h9 => ?_)
    refine pj_map (fun k => pj_ic_ne_f hM (pc := 94) 112 dX7_init_94 rfl (fun q => q h7) (pj_aload_n hM (pc := 97) dX7_init_97 rfl rfl (pj_gf hM (pc := 98) (t := 34) dX7_init_98 fl_X7_28 (by decide) rfl 4 rfl (pj_iload_n hM (pc := 101) dX7_init_101 rfl (pj_lload_n hM (pc := 102) dX7_init_102 rfl (pj_las hM (pc := 103) dX7_init_103 kl_34 h8 h9 (pj_lconst hM (pc := 104) (z := 0) dX7_init_104 rfl (by decide) (pj_lstore_n hM (pc := 105) dX7_init_105 (by decide) (lls' := [(12, 0), (0, x1), (1, 0), (9, 0), (0, x4), (0, p5)]) rfl (pj_iinc hM (pc := 106) dX7_init_106 rfl (by decide) (lls' := [(12, 0), (0, (pj_wr (x1 + 1))), (1, 0), (9, 0), (0, x4), (0, p5)]) rfl (pj_goto hM (pc := 109) dX7_init_109 rfl (pj_kill hM [true, true, true, false, true, false] (lls' := [(12, 0), (0, (pj_wr (x1 + 1))), (1, 0), (9, 0), (0, x4), (9, 0)]) rfl k))))))))))) ?_
    exact tR_init_c_119 hM (pj_wr (x1 + 1)) 0 x4 (pj_set w 34 (w 12 0 4) x1 x2) _ h0 hk65
  refine pj_tbind (fun p10 h11 => ?_)
  refine pj_map (fun k => pj_ic_ne_t hM (pc := 94) dX7_init_94 rfl h7 (pj_lload_n hM (pc := 112) dX7_init_112 rfl (pj_iload hM (pc := 113) dX7_init_113 rfl (pj_cS hM (pc := 115) (cR_pack x2 p5 w p10 h11) dX7_init_115 mf_X7_pack ms_X7_pack ml_X7_50 rfl rfl rfl rfl (pj_lstore_n hM (pc := 118) dX7_init_118 (by decide) (lls' := [(12, 0), (0, x1), (1, p10), (9, 0), (0, x4), (0, p5)]) rfl (pj_kill hM [true, true, true, false, true, false] (lls' := [(12, 0), (0, x1), (1, p10), (9, 0), (0, x4), (9, 0)]) rfl k)))))) ?_
  exact tR_init_c_119 hM x1 p10 x4 w _ h0 hk65
theorem tR_init_c_65 {Go : pj_C → Prop} (hM : pj_M l yX7_init cX7_init 6 none 4 85 false g n0 o Go)   (R : pj_W → Prop) (h0 : ∀ r, R (r) → ((none : Option pj_V), r) = o) (s : (Int × Int × Int × pj_W)) : pj_TG R (fR_init_c_65  s) (Go (65, [(12, 0), (0, s.1), (1, s.2.1), (9, 0), (0, s.2.2.1), (9, 0)], [], s.2.2.2)) := by
  unfold fR_init_c_65
  exact pj_tLp (G := fun s : (Int × Int × Int × pj_W) => Go (65, [(12, 0), (0, s.1), (1, s.2.1), (9, 0), (0, s.2.2.1), (9, 0)], [], s.2.2.2)) (fun s => tR_init_c_65b hM  s.1 s.2.1 s.2.2.1 s.2.2.2  _ (fun r h => h0 r h)  (fun s h => h)) s
theorem tR_init_c {Go : pj_C → Prop} (hM : pj_M l yX7_init cX7_init 6 none 4 85 false g n0 o Go)  (w : pj_W)  (R : pj_W → Prop) (h0 : ∀ r, R (r) → ((none : Option pj_V), r) = o) : pj_TG R (fR_init_c  w) (Go (0, [(12, 0), (9, 0), (9, 0), (9, 0), (9, 0), (9, 0)], [], w)) := by
  unfold fR_init_c
  refine pj_tgd (fun h1 => ?_)
  refine pj_tgd (fun h2 => ?_)
  refine pj_map (fun k => pj_aload_n hM (pc := 0) dX7_init_0 rfl rfl (pj_obj hM (pc := 1) dX7_init_1 ml_X7_3 mo_I mo_C (by decide) (by decide) rfl rfl (pj_aload_n hM (pc := 4) dX7_init_4 rfl rfl (pj_sipush hM (pc := 5) dX7_init_5 (by decide) (pj_newaZ hM (pc := 8) dX7_init_8 mo_byte (Or.inr (Or.inl ⟨rfl, rfl, rfl, fun _ => rfl⟩)) rfl (by decide) (by decide) h1 h2 k))))) ?_
  refine pj_tlet (fun w3 => Go (10, [(12, 0), (9, 0), (9, 0), (9, 0), (9, 0), (9, 0)], [(30, 0), (12, 0)], w3)) (fun w3 => ?_)
  refine pj_tgd (fun h4 => ?_)
  refine pj_tgd (fun h5 => ?_)
  refine pj_map (fun k => pj_pfF hM (pc := 10) dX7_init_10 fl_X7_11 rfl (fun C T h => by cases h; rfl) (by decide) rfl (by decide) (by decide) 0 rfl (pj_aload_n hM (pc := 13) dX7_init_13 rfl rfl (pj_sipush hM (pc := 14) dX7_init_14 (by decide) (pj_newaZ hM (pc := 17) dX7_init_17 mo_int (Or.inl ⟨rfl, rfl, rfl, fun _ => rfl⟩) rfl (by decide) (by decide) h4 h5 k)))) ?_
  refine pj_tlet (fun w6 => Go (19, [(12, 0), (9, 0), (9, 0), (9, 0), (9, 0), (9, 0)], [(31, 0), (12, 0)], w6)) (fun w6 => ?_)
  refine pj_tgd (fun h7 => ?_)
  refine pj_tgd (fun h8 => ?_)
  refine pj_map (fun k => pj_pfF hM (pc := 19) dX7_init_19 fl_X7_15 rfl (fun C T h => by cases h; rfl) (by decide) rfl (by decide) (by decide) 1 rfl (pj_aload_n hM (pc := 22) dX7_init_22 rfl rfl (pj_sipush hM (pc := 23) dX7_init_23 (by decide) (pj_newaZ hM (pc := 26) dX7_init_26 mo_int (Or.inl ⟨rfl, rfl, rfl, fun _ => rfl⟩) rfl (by decide) (by decide) h7 h8 k)))) ?_
  refine pj_tlet (fun w9 => Go (28, [(12, 0), (9, 0), (9, 0), (9, 0), (9, 0), (9, 0)], [(32, 0), (12, 0)], w9)) (fun w9 => ?_)
  refine pj_tgd (fun h10 => ?_)
  refine pj_tgd (fun h11 => ?_)
  refine pj_map (fun k => pj_pfF hM (pc := 28) dX7_init_28 fl_X7_19 rfl (fun C T h => by cases h; rfl) (by decide) rfl (by decide) (by decide) 2 rfl (pj_aload_n hM (pc := 31) dX7_init_31 rfl rfl (pj_sipush hM (pc := 32) dX7_init_32 (by decide) (pj_newaZ hM (pc := 35) dX7_init_35 mo_long (Or.inr (Or.inr ⟨rfl, rfl, rfl, fun _ => rfl⟩)) rfl (by decide) (by decide) h10 h11 k)))) ?_
  refine pj_tlet (fun w12 => Go (37, [(12, 0), (9, 0), (9, 0), (9, 0), (9, 0), (9, 0)], [(33, 0), (12, 0)], w12)) (fun w12 => ?_)
  refine pj_tgd (fun h13 => ?_)
  refine pj_tgd (fun h14 => ?_)
  refine pj_map (fun k => pj_pfF hM (pc := 37) dX7_init_37 fl_X7_22 rfl (fun C T h => by cases h; rfl) (by decide) rfl (by decide) (by decide) 3 rfl (pj_aload_n hM (pc := 40) dX7_init_40 rfl rfl (pj_bipush hM (pc := 41) dX7_init_41 (by decide) (pj_newaZ hM (pc := 43) dX7_init_43 mo_long (Or.inr (Or.inr ⟨rfl, rfl, rfl, fun _ => rfl⟩)) rfl (by decide) (by decide) h13 h14 k)))) ?_
  refine pj_tlet (fun w15 => Go (45, [(12, 0), (9, 0), (9, 0), (9, 0), (9, 0), (9, 0)], [(34, 0), (12, 0)], w15)) (fun w15 => ?_)
  refine pj_map (fun k => pj_pfF hM (pc := 45) dX7_init_45 fl_X7_28 rfl (fun C T h => by cases h; rfl) (by decide) rfl (by decide) (by decide) 4 rfl (pj_aload_n hM (pc := 48) dX7_init_48 rfl rfl (pj_iconst hM (pc := 49) dX7_init_49 (by decide) (pj_pf hM (pc := 50) dX7_init_50 fl_X7_31 (by decide) rfl (fun h => absurd h (by decide)) (by decide) (fun _ => rfl) 6 rfl (pj_aload_n hM (pc := 53) dX7_init_53 rfl rfl (pj_iconst hM (pc := 54) dX7_init_54 (by decide) (pj_pf hM (pc := 55) dX7_init_55 fl_X7_35 (by decide) rfl (fun h => absurd h (by decide)) (by decide) (fun _ => rfl) 7 rfl (pj_iconst hM (pc := 58) dX7_init_58 (by decide) (pj_istore_n hM (pc := 59) dX7_init_59 (by decide) (lls' := [(12, 0), (0, 0), (9, 0), (9, 0), (9, 0), (9, 0)]) rfl (pj_lconst hM (pc := 60) (z := 0) dX7_init_60 rfl (by decide) (pj_lstore_n hM (pc := 61) dX7_init_61 (by decide) (lls' := [(12, 0), (0, 0), (1, 0), (9, 0), (9, 0), (9, 0)]) rfl (pj_iconst hM (pc := 62) dX7_init_62 (by decide) (pj_istore hM (pc := 63) dX7_init_63 (by decide) (lls' := [(12, 0), (0, 0), (1, 0), (9, 0), (0, 0), (9, 0)]) rfl (pj_kill hM [true, true, true, false, true, false] (lls' := [(12, 0), (0, 0), (1, 0), (9, 0), (0, 0), (9, 0)]) rfl k)))))))))))))) ?_
  exact tR_init_c_65 hM _ h0 _
theorem cR_init_c   (w : pj_W) (r : pj_W) (h : fR_init_c  w = some r) : pj_Cn l yX7_init cX7_init 6 none 4 85 false g [(12, 0)] w ((none : Option pj_V), r) :=
  pj_Cn_of rfl (Nat.le_of_ble_eq_true rfl) (lls := [(12, 0), (9, 0), (9, 0), (9, 0), (9, 0), (9, 0)]) rfl (fun Go hM => tR_init_c hM w (fun x => ((none : Option pj_V), x) = ((none : Option pj_V), r)) (fun r h => h) r h rfl)
noncomputable def fO_init_c  (w : pj_W) : Option (pj_W) :=
  if pj_nk w = 36 then (if pj_nx w = 0 then ((some (pj_up w)).bind fun w3 => (if pj_nk (pj_set w3 17 0 0 0) = 37 then (if pj_nx (pj_set w3 17 0 0 0) = 0 then ((some (pj_up (pj_set w3 17 0 0 0))).bind fun w6 => (if pj_nk (pj_set w6 17 0 1 0) = 38 then (if pj_nx (pj_set w6 17 0 1 0) = 0 then ((some (pj_up (pj_set w6 17 0 1 0))).bind fun w9 => (if pj_nk (pj_set w9 17 0 2 0) = 39 then (if pj_nx (pj_set w9 17 0 2 0) = 0 then ((some (pj_up (pj_set w9 17 0 2 0))).bind fun w12 => (if pj_nk (pj_set w12 17 0 3 0) = 40 then (if pj_nx (pj_set w12 17 0 3 0) = 0 then ((some (pj_up (pj_set w12 17 0 3 0))).bind fun w15 => (if pj_nk (pj_set w15 17 0 4 0) = 41 then (if pj_nx (pj_set w15 17 0 4 0) = 0 then ((some (pj_up (pj_set w15 17 0 4 0))).bind fun w18 => (some ((pj_set w18 17 0 5 0)))) else none) else none)) else none) else none)) else none) else none)) else none) else none)) else none) else none)) else none) else none
theorem tO_init_c {Go : pj_C → Prop} (hM : pj_M l yX8_init cX8_init 1 none 1 12 false g n0 o Go)  (w : pj_W)  (R : pj_W → Prop) (h0 : ∀ r, R (r) → ((none : Option pj_V), r) = o) : pj_TG R (fO_init_c  w) (Go (0, [(17, 0)], [], w)) := by
  unfold fO_init_c
  refine pj_tgd (fun h1 => ?_)
  refine pj_tgd (fun h2 => ?_)
  refine pj_map (fun k => pj_aload_n hM (pc := 0) dX8_init_0 rfl rfl (pj_obj hM (pc := 1) dX8_init_1 ml_X8_3 mo_I mo_C (by decide) (by decide) rfl rfl (pj_aload_n hM (pc := 4) dX8_init_4 rfl rfl (pj_sipush hM (pc := 5) dX8_init_5 (by decide) (pj_newaZ hM (pc := 8) dX8_init_8 mo_int (Or.inl ⟨rfl, rfl, rfl, fun _ => rfl⟩) rfl (by decide) (by decide) h1 h2 k))))) ?_
  refine pj_tlet (fun w3 => Go (10, [(17, 0)], [(36, 0), (17, 0)], w3)) (fun w3 => ?_)
  refine pj_tgd (fun h4 => ?_)
  refine pj_tgd (fun h5 => ?_)
  refine pj_map (fun k => pj_pfF hM (pc := 10) dX8_init_10 fl_X8_11 rfl (fun C T h => by cases h; rfl) (by decide) rfl (by decide) (by decide) 0 rfl (pj_aload_n hM (pc := 13) dX8_init_13 rfl rfl (pj_bipush hM (pc := 14) dX8_init_14 (by decide) (pj_newaZ hM (pc := 16) dX8_init_16 mo_int (Or.inl ⟨rfl, rfl, rfl, fun _ => rfl⟩) rfl (by decide) (by decide) h4 h5 k)))) ?_
  refine pj_tlet (fun w6 => Go (18, [(17, 0)], [(37, 0), (17, 0)], w6)) (fun w6 => ?_)
  refine pj_tgd (fun h7 => ?_)
  refine pj_tgd (fun h8 => ?_)
  refine pj_map (fun k => pj_pfF hM (pc := 18) dX8_init_18 fl_X8_15 rfl (fun C T h => by cases h; rfl) (by decide) rfl (by decide) (by decide) 1 rfl (pj_aload_n hM (pc := 21) dX8_init_21 rfl rfl (pj_bipush hM (pc := 22) dX8_init_22 (by decide) (pj_newaZ hM (pc := 24) dX8_init_24 mo_int (Or.inl ⟨rfl, rfl, rfl, fun _ => rfl⟩) rfl (by decide) (by decide) h7 h8 k)))) ?_
  refine pj_tlet (fun w9 => Go (26, [(17, 0)], [(38, 0), (17, 0)], w9)) (fun w9 => ?_)
  refine pj_tgd (fun h10 => ?_)
  refine pj_tgd (fun h11 => ?_)
  refine pj_map (fun k => pj_pfF hM (pc := 26) dX8_init_26 fl_X8_18 rfl (fun C T h => by cases h; rfl) (by decide) rfl (by decide) (by decide) 2 rfl (pj_aload_n hM (pc := 29) dX8_init_29 rfl rfl (pj_bipush hM (pc := 30) dX8_init_30 (by decide) (pj_newaZ hM (pc := 32) dX8_init_32 mo_int (Or.inl ⟨rfl, rfl, rfl, fun _ => rfl⟩) rfl (by decide) (by decide) h10 h11 k)))) ?_
  refine pj_tlet (fun w12 => Go (34, [(17, 0)], [(39, 0), (17, 0)], w12)) (fun w12 => ?_)
  refine pj_tgd (fun h13 => ?_)
  refine pj_tgd (fun h14 => ?_)
  refine pj_map (fun k => pj_pfF hM (pc := 34) dX8_init_34 fl_X8_21 rfl (fun C T h => by cases h; rfl) (by decide) rfl (by decide) (by decide) 3 rfl (pj_aload_n hM (pc := 37) dX8_init_37 rfl rfl (pj_bipush hM (pc := 38) dX8_init_38 (by decide) (pj_newaZ hM (pc := 40) dX8_init_40 mo_int (Or.inl ⟨rfl, rfl, rfl, fun _ => rfl⟩) rfl (by decide) (by decide) h13 h14 k)))) ?_
  refine pj_tlet (fun w15 => Go (42, [(17, 0)], [(40, 0), (17, 0)], w15)) (fun w15 => ?_)
  refine pj_tgd (fun h16 => ?_)
  refine pj_tgd (fun h17 => ?_)
  refine pj_map (fun k => pj_pfF hM (pc := 42) dX8_init_42 fl_X8_24 rfl (fun C T h => by cases h; rfl) (by decide) rfl (by decide) (by decide) 4 rfl (pj_aload_n hM (pc := 45) dX8_init_45 rfl rfl (pj_bipush hM (pc := 46) dX8_init_46 (by decide) (pj_newaZ hM (pc := 48) dX8_init_48 mo_int (Or.inl ⟨rfl, rfl, rfl, fun _ => rfl⟩) rfl (by decide) (by decide) h16 h17 k)))) ?_
  refine pj_tlet (fun w18 => Go (50, [(17, 0)], [(41, 0), (17, 0)], w18)) (fun w18 => ?_)
  exact pj_tret (fun hr => pj_pfF hM (pc := 50) dX8_init_50 fl_X8_27 rfl (fun C T h => by cases h; rfl) (by decide) rfl (by decide) (by decide) 5 rfl (pj_ret hM (pc := 53) dX8_init_53 rfl (h0 ((pj_set w18 17 0 5 0)) hr) rfl))
theorem cO_init_c   (w : pj_W) (r : pj_W) (h : fO_init_c  w = some r) : pj_Cn l yX8_init cX8_init 1 none 1 12 false g [(17, 0)] w ((none : Option pj_V), r) :=
  pj_Cn_of rfl (Nat.le_of_ble_eq_true rfl) (lls := [(17, 0)]) rfl (fun Go hM => tO_init_c hM w (fun x => ((none : Option pj_V), x) = ((none : Option pj_V), r)) (fun r h => h) r h rfl)
noncomputable def fT_init_c (i0 : Int) (w : pj_W) : Option (pj_W) :=
  if pj_nk w = 52 then (if 0 ≤ (pj_nx w) then ((some (pj_up w)).bind fun w3 => (some ((pj_set (pj_set w3 25 i0 0 (pj_nx w)) 25 i0 1 1)))) else none) else none
theorem tT_init_c {Go : pj_C → Prop} (hM : pj_M l yX9_init cX9_init 1 none 1 12 false g n0 o Go) (i0 : Int) (w : pj_W) (hn0 : 0 ≤ i0) (R : pj_W → Prop) (h0 : ∀ r, R (r) → ((none : Option pj_V), r) = o) : pj_TG R (fT_init_c i0 w) (Go (0, [(25, i0)], [], w)) := by
  unfold fT_init_c
  refine pj_tgd (fun h1 => ?_)
  refine pj_tgd (fun h2 => ?_)
  refine pj_map (fun k => pj_aload_n hM (pc := 0) dX9_init_0 rfl rfl (pj_obj hM (pc := 1) dX9_init_1 ml_X9_1 mo_I mo_C (by decide) hn0 rfl rfl (pj_aload_n hM (pc := 4) dX9_init_4 rfl rfl (pj_bipush hM (pc := 5) dX9_init_5 (by decide) (pj_newaZ hM (pc := 7) dX9_init_7 mo_long (Or.inr (Or.inr ⟨rfl, rfl, rfl, fun _ => rfl⟩)) rfl (by decide) (by decide) h1 rfl k))))) ?_
  refine pj_tlet (fun w3 => Go (9, [(25, i0)], [(52, (pj_nx w)), (25, i0)], w3)) (fun w3 => ?_)
  exact pj_tret (fun hr => pj_pfF hM (pc := 9) dX9_init_9 fl_X9_9 rfl (fun C T h => by cases h; rfl) hn0 rfl (by decide) (by decide) 0 rfl (pj_aload_n hM (pc := 12) dX9_init_12 rfl rfl (pj_iconst hM (pc := 13) dX9_init_13 (by decide) (pj_pf hM (pc := 14) dX9_init_14 fl_X9_13 hn0 rfl (fun _ => Or.inr rfl) (by decide) (fun _ => rfl) 1 rfl (pj_ret hM (pc := 17) dX9_init_17 rfl (h0 ((pj_set (pj_set w3 25 i0 0 (pj_nx w)) 25 i0 1 1)) hr) rfl)))))
theorem cT_init_c (i0 : Int) (hn0 : 0 ≤ i0) (w : pj_W) (r : pj_W) (h : fT_init_c i0 w = some r) : pj_Cn l yX9_init cX9_init 1 none 1 12 false g [(25, i0)] w ((none : Option pj_V), r) :=
  pj_Cn_of rfl (Nat.le_of_ble_eq_true rfl) (lls := [(25, i0)]) rfl (fun Go hM => tT_init_c hM i0 w hn0 (fun x => ((none : Option pj_V), x) = ((none : Option pj_V), r)) (fun r h => h) r h rfl)
noncomputable def fX_init_c_175b  (x1 : Int) (w : pj_W) : Option ((Int × pj_W) ⊕ (pj_W)) :=
  if 3 ≤ x1 then (some (Sum.inr (w))) else (if pj_nk w = 24 then (if 0 ≤ (pj_nx w) then ((some (pj_up w)).bind fun w4 => ((fD_init_c (pj_nx w) w4).bind fun p5 => (if 0 ≤ (w 10 0 4) then (if 0 ≤ x1 ∧ x1 < 3 then (if pj_nk (pj_set p5 15 (w 10 0 4) x1 (pj_nx w)) = 19 then (if 0 ≤ (pj_nx (pj_set p5 15 (w 10 0 4) x1 (pj_nx w))) then ((some (pj_up (pj_set p5 15 (w 10 0 4) x1 (pj_nx w)))).bind fun w11 => ((fB_init_c (pj_nx (pj_set p5 15 (w 10 0 4) x1 (pj_nx w))) w11).bind fun p12 => (if 0 ≤ ((pj_set p5 15 (w 10 0 4) x1 (pj_nx w)) 10 0 5) then ((some (pj_set p12 16 ((pj_set p5 15 (w 10 0 4) x1 (pj_nx w)) 10 0 5) x1 (pj_nx (pj_set p5 15 (w 10 0 4) x1 (pj_nx w))))).bind fun w15 => (some (Sum.inl ((pj_wr (x1 + 1)), w15)))) else none))) else none) else none) else none) else none))) else none) else none)
noncomputable def fX_init_c_175  (s : (Int × pj_W)) : Option (pj_W) := pj_Lp (fun s : (Int × pj_W) => fX_init_c_175b  s.1 s.2) s
noncomputable def fX_init_c_149b  (x1 : Int) (w : pj_W) : Option ((Int × pj_W) ⊕ (pj_W)) :=
  if 4 ≤ x1 then ((fX_init_c_175 (0, w)).map Sum.inr) else (if pj_nk w = 25 then (if 0 ≤ (pj_nx w) then ((some (pj_up w)).bind fun w4 => ((fT_init_c (pj_nx w) w4).bind fun p5 => (if 0 ≤ (w 10 0 0) then (if 0 ≤ x1 ∧ x1 < 4 then (some (Sum.inl ((pj_wr (x1 + 1)), (pj_set p5 11 (w 10 0 0) x1 (pj_nx w))))) else none) else none))) else none) else none)
noncomputable def fX_init_c_149  (s : (Int × pj_W)) : Option (pj_W) := pj_Lp (fun s : (Int × pj_W) => fX_init_c_149b  s.1 s.2) s
noncomputable def fX_init_c  (w : pj_W) : Option (pj_W) :=
  if pj_nk w = 11 then (if pj_nx w = 0 then ((some (pj_up w)).bind fun w3 => (if pj_nk (pj_set w3 10 0 0 0) = 12 then (if pj_nx (pj_set w3 10 0 0 0) = 0 then ((some (pj_up (pj_set w3 10 0 0 0))).bind fun w6 => ((fR_init_c w6).bind fun p7 => (if pj_nk (pj_set p7 10 0 1 0) = 13 then (if pj_nx (pj_set p7 10 0 1 0) = 0 then ((some (pj_up (pj_set p7 10 0 1 0))).bind fun w11 => ((fBT_init_c (w11 10 0 1) w11).bind fun p12 => (if pj_nk (pj_set p12 10 0 2 0) = 14 then (if pj_nx (pj_set p12 10 0 2 0) = 0 then ((some (pj_up (pj_set p12 10 0 2 0))).bind fun w16 => ((fDT_init_c (w16 10 0 1) w16).bind fun p17 => (if pj_nk (pj_set p17 10 0 3 0) = 15 then (if pj_nx (pj_set p17 10 0 3 0) = 0 then ((some (pj_up (pj_set p17 10 0 3 0))).bind fun w21 => (if pj_nk (pj_set w21 10 0 4 0) = 16 then (if pj_nx (pj_set w21 10 0 4 0) = 0 then ((some (pj_up (pj_set w21 10 0 4 0))).bind fun w24 => (if pj_nk (pj_set w24 10 0 5 0) = 17 then (if pj_nx (pj_set w24 10 0 5 0) = 0 then ((some (pj_up (pj_set w24 10 0 5 0))).bind fun w27 => ((fO_init_c w27).bind fun p28 => (if pj_nk (pj_set p28 10 0 6 0) = 18 then (if pj_nx (pj_set p28 10 0 6 0) = 0 then ((some (pj_up (pj_set p28 10 0 6 0))).bind fun w32 => ((fL_init_c w32).bind fun p33 => (if pj_nk (pj_set p33 10 0 7 0) = 44 then (if pj_nx (pj_set p33 10 0 7 0) = 0 then ((some (pj_up (pj_set p33 10 0 7 0))).bind fun w37 => (if pj_nk (pj_set w37 10 0 8 0) = 19 then (if 0 ≤ (pj_nx (pj_set w37 10 0 8 0)) then ((some (pj_up (pj_set w37 10 0 8 0))).bind fun w40 => ((fB_init_c (pj_nx (pj_set w37 10 0 8 0)) w40).bind fun p41 => (if pj_nk (pj_set p41 10 0 10 (pj_nx (pj_set w37 10 0 8 0))) = 19 then (if 0 ≤ (pj_nx (pj_set p41 10 0 10 (pj_nx (pj_set w37 10 0 8 0)))) then ((some (pj_up (pj_set p41 10 0 10 (pj_nx (pj_set w37 10 0 8 0))))).bind fun w45 => ((fB_init_c (pj_nx (pj_set p41 10 0 10 (pj_nx (pj_set w37 10 0 8 0)))) w45).bind fun p46 => (if pj_nk (pj_set p46 10 0 11 (pj_nx (pj_set p41 10 0 10 (pj_nx (pj_set w37 10 0 8 0))))) = 24 then (if 0 ≤ (pj_nx (pj_set p46 10 0 11 (pj_nx (pj_set p41 10 0 10 (pj_nx (pj_set w37 10 0 8 0)))))) then ((some (pj_up (pj_set p46 10 0 11 (pj_nx (pj_set p41 10 0 10 (pj_nx (pj_set w37 10 0 8 0))))))).bind fun w50 => ((fD_init_c (pj_nx (pj_set p46 10 0 11 (pj_nx (pj_set p41 10 0 10 (pj_nx (pj_set w37 10 0 8 0)))))) w50).bind fun p51 => ((some (pj_set p51 10 0 12 (pj_nx (pj_set p46 10 0 11 (pj_nx (pj_set p41 10 0 10 (pj_nx (pj_set w37 10 0 8 0)))))))).bind fun w53 => (if pj_nk w53 = 24 then (if 0 ≤ (pj_nx w53) then ((some (pj_up w53)).bind fun w56 => ((fD_init_c (pj_nx w53) w56).bind fun p57 => (fX_init_c_149 (0, (pj_set (pj_set p57 10 0 13 (pj_nx w53)) 10 0 17 1))))) else none) else none)))) else none) else none))) else none) else none))) else none) else none)) else none) else none))) else none) else none))) else none) else none)) else none) else none)) else none) else none))) else none) else none))) else none) else none))) else none) else none)) else none) else none
theorem tX_init_c_175b {Go : pj_C → Prop} (hM : pj_M l yX11_init cX11_init 2 none 5 110 false g n0 o Go)  (x1 : Int) (w : pj_W)  (R : (Int × pj_W) ⊕ (pj_W) → Prop) (h0 : ∀ r, R (Sum.inr (r)) → ((none : Option pj_V), r) = o) (hk175 : ∀ s, R (Sum.inl s) → Go (175, [(10, 0), (0, s.1)], [], s.2)) : pj_TG R (fX_init_c_175b  x1 w) (Go (175, [(10, 0), (0, x1)], [], w)) := by
  unfold fX_init_c_175b
  refine pj_map (fun k => pj_iload_n hM (pc := 175) dX11_init_175 rfl (pj_iconst hM (pc := 176) dX11_init_176 (by decide) k)) ?_
  refine pj_tif (fun h1 => ?_) (fun h1 => ?_)
  · exact pj_tret (fun hr => pj_ic_ge_t hM (pc := 177) dX11_init_177 rfl h1 (pj_ret hM (pc := 212) dX11_init_212 rfl (h0 (w) hr) rfl))
  refine pj_tgd (fun h2 => ?_)
  refine pj_tgd (fun h3 => ?_)
  refine pj_map (fun k => pj_ic_ge_f hM (pc := 177) 212 dX11_init_177 rfl h1 (pj_aload_n hM (pc := 180) dX11_init_180 rfl rfl (pj_gf hM (pc := 181) (t := 15) dX11_init_181 fl_X11_40 (by decide) rfl 4 rfl (pj_iload_n hM (pc := 184) dX11_init_184 rfl (pj_newZ hM (pc := 185) dX11_init_185 kl_X11_38 kn_24.1 kn_24.2 rfl rfl kt_24 (by decide) h2 rfl k))))) ?_
  refine pj_tlet (fun w4 => Go (188, [(10, 0), (0, x1)], [(24, (pj_nx w)), (0, x1), (15, (w 10 0 4))], w4)) (fun w4 => ?_)
  refine pj_tbind (fun p5 h6 => ?_)
  refine pj_tgd (fun h7 => ?_)
  refine pj_tgd (fun h8 => ?_)
  refine pj_tgd (fun h9 => ?_)
  refine pj_tgd (fun h10 => ?_)
  refine pj_map (fun k => pj_dup hM (pc := 188) dX11_init_188 (by decide) (pj_callI hM (pc := 189) (cD_init_c (pj_nx w) h3 w4 p5 h6) dX11_init_189 mf_X2_init mi_X2_init (Or.inr (by simp [pj_nest, yX11_init])) (by decide) rfl rfl h3 rfl rfl (pj_aast hM (pc := 192) dX11_init_192 (by decide) rfl (fun _ => rfl) ⟨by decide, rfl⟩ ⟨_, _, rfl, rfl⟩ h7 h8 h3 (pj_aload_n hM (pc := 193) dX11_init_193 rfl rfl (pj_gf hM (pc := 194) (t := 16) dX11_init_194 fl_X11_46 (by decide) rfl 5 rfl (pj_iload_n hM (pc := 197) dX11_init_197 rfl (pj_newZ hM (pc := 198) dX11_init_198 kl_X11_44 kn_19.1 kn_19.2 rfl rfl kt_19 (by decide) h9 rfl k))))))) ?_
  refine pj_tlet (fun w11 => Go (201, [(10, 0), (0, x1)], [(19, (pj_nx (pj_set p5 15 (w 10 0 4) x1 (pj_nx w)))), (0, x1), (16, ((pj_set p5 15 (w 10 0 4) x1 (pj_nx w)) 10 0 5))], w11)) (fun w11 => ?_)
  refine pj_tbind (fun p12 h13 => ?_)
  refine pj_tgd (fun h14 => ?_)
  refine pj_map (fun k => pj_dup hM (pc := 201) dX11_init_201 (by decide) (pj_callI hM (pc := 202) (cB_init_c (pj_nx (pj_set p5 15 (w 10 0 4) x1 (pj_nx w))) h10 w11 p12 h13) dX11_init_202 mf_X0_init mi_X0_init (Or.inl ml_X11_68) (by decide) rfl rfl h10 rfl rfl (pj_aast hM (pc := 205) dX11_init_205 (by decide) rfl (fun _ => rfl) ⟨by decide, rfl⟩ ⟨_, _, rfl, rfl⟩ h14 h8 h10 k))) ?_
  refine pj_tlet (fun w15 => Go (206, [(10, 0), (0, x1)], [], w15)) (fun w15 => ?_)
  exact pj_tret (fun hr => pj_iinc hM (pc := 206) dX11_init_206 rfl (by decide) (lls' := [(10, 0), (0, (pj_wr (x1 + 1)))]) rfl (pj_goto hM (pc := 209) dX11_init_209 rfl (pj_kill hM [true, true] (lls' := [(10, 0), (0, (pj_wr (x1 + 1)))]) rfl ((hk175 _ hr)))))
theorem tX_init_c_175 {Go : pj_C → Prop} (hM : pj_M l yX11_init cX11_init 2 none 5 110 false g n0 o Go)   (R : pj_W → Prop) (h0 : ∀ r, R (r) → ((none : Option pj_V), r) = o) (s : (Int × pj_W)) : pj_TG R (fX_init_c_175  s) (Go (175, [(10, 0), (0, s.1)], [], s.2)) := by
  unfold fX_init_c_175
  exact pj_tLp (G := fun s : (Int × pj_W) => Go (175, [(10, 0), (0, s.1)], [], s.2)) (fun s => tX_init_c_175b hM  s.1 s.2  _ (fun r h => h0 r h)  (fun s h => h)) s
theorem tX_init_c_149b {Go : pj_C → Prop} (hM : pj_M l yX11_init cX11_init 2 none 5 110 false g n0 o Go)  (x1 : Int) (w : pj_W)  (R : (Int × pj_W) ⊕ (pj_W) → Prop) (h0 : ∀ r, R (Sum.inr (r)) → ((none : Option pj_V), r) = o) (hk149 : ∀ s, R (Sum.inl s) → Go (149, [(10, 0), (0, s.1)], [], s.2)) : pj_TG R (fX_init_c_149b  x1 w) (Go (149, [(10, 0), (0, x1)], [], w)) := by
  unfold fX_init_c_149b
  refine pj_map (fun k => pj_iload_n hM (pc := 149) dX11_init_149 rfl (pj_iconst hM (pc := 150) dX11_init_150 (by decide) k)) ?_
  refine pj_tif (fun h1 => ?_) (fun h1 => ?_)
  · refine pj_tmap ?_
    refine pj_map (fun k => pj_ic_ge_t hM (pc := 151) dX11_init_151 rfl h1 (pj_iconst hM (pc := 173) dX11_init_173 (by decide) (pj_istore_n hM (pc := 174) dX11_init_174 (by decide) (lls' := [(10, 0), (0, 0)]) rfl (pj_kill hM [true, true] (lls' := [(10, 0), (0, 0)]) rfl k)))) ?_
    exact tX_init_c_175 hM _ h0 _
  refine pj_tgd (fun h2 => ?_)
  refine pj_tgd (fun h3 => ?_)
  refine pj_map (fun k => pj_ic_ge_f hM (pc := 151) 173 dX11_init_151 rfl h1 (pj_aload_n hM (pc := 154) dX11_init_154 rfl rfl (pj_gf hM (pc := 155) (t := 11) dX11_init_155 fl_X11_11 (by decide) rfl 0 rfl (pj_iload_n hM (pc := 158) dX11_init_158 rfl (pj_newZ hM (pc := 159) dX11_init_159 kl_X11_9 kn_25.1 kn_25.2 rfl rfl kt_25 (by decide) h2 rfl k))))) ?_
  refine pj_tlet (fun w4 => Go (162, [(10, 0), (0, x1)], [(25, (pj_nx w)), (0, x1), (11, (w 10 0 0))], w4)) (fun w4 => ?_)
  refine pj_tbind (fun p5 h6 => ?_)
  refine pj_tgd (fun h7 => ?_)
  refine pj_tgd (fun h8 => ?_)
  exact pj_tret (fun hr => pj_dup hM (pc := 162) dX11_init_162 (by decide) (pj_callI hM (pc := 163) (cT_init_c (pj_nx w) h3 w4 p5 h6) dX11_init_163 mf_X9_init mi_X9_init (Or.inr (by simp [pj_nest, yX11_init])) (by decide) rfl rfl h3 rfl rfl (pj_aast hM (pc := 166) dX11_init_166 (by decide) rfl (fun _ => rfl) ⟨by decide, rfl⟩ ⟨_, _, rfl, rfl⟩ h7 h8 h3 (pj_iinc hM (pc := 167) dX11_init_167 rfl (by decide) (lls' := [(10, 0), (0, (pj_wr (x1 + 1)))]) rfl (pj_goto hM (pc := 170) dX11_init_170 rfl (pj_kill hM [true, true] (lls' := [(10, 0), (0, (pj_wr (x1 + 1)))]) rfl ((hk149 _ hr))))))))
theorem tX_init_c_149 {Go : pj_C → Prop} (hM : pj_M l yX11_init cX11_init 2 none 5 110 false g n0 o Go)   (R : pj_W → Prop) (h0 : ∀ r, R (r) → ((none : Option pj_V), r) = o) (s : (Int × pj_W)) : pj_TG R (fX_init_c_149  s) (Go (149, [(10, 0), (0, s.1)], [], s.2)) := by
  unfold fX_init_c_149
  exact pj_tLp (G := fun s : (Int × pj_W) => Go (149, [(10, 0), (0, s.1)], [], s.2)) (fun s => tX_init_c_149b hM  s.1 s.2  _ (fun r h => h0 r h)  (fun s h => h)) s
theorem tX_init_c {Go : pj_C → Prop} (hM : pj_M l yX11_init cX11_init 2 none 5 110 false g n0 o Go)  (w : pj_W)  (R : pj_W → Prop) (h0 : ∀ r, R (r) → ((none : Option pj_V), r) = o) : pj_TG R (fX_init_c  w) (Go (0, [(10, 0), (9, 0)], [], w)) := by
  unfold fX_init_c
  refine pj_tgd (fun h1 => ?_)
  refine pj_tgd (fun h2 => ?_)
  refine pj_map (fun k => pj_aload_n hM (pc := 0) dX11_init_0 rfl rfl (pj_obj hM (pc := 1) dX11_init_1 ml_X11_1 mo_I mo_C (by decide) (by decide) rfl rfl (pj_aload_n hM (pc := 4) dX11_init_4 rfl rfl (pj_iconst hM (pc := 5) dX11_init_5 (by decide) (pj_anewZ hM (pc := 6) dX11_init_6 kl_X11_9 (by simp) rfl rfl (fun _ => rfl) (by decide) rfl (by decide) (by decide) h1 h2 k))))) ?_
  refine pj_tlet (fun w3 => Go (9, [(10, 0), (9, 0)], [(11, 0), (10, 0)], w3)) (fun w3 => ?_)
  refine pj_tgd (fun h4 => ?_)
  refine pj_tgd (fun h5 => ?_)
  refine pj_map (fun k => pj_pfF hM (pc := 9) dX11_init_9 fl_X11_11 rfl (fun C T h => by cases h; rfl) (by decide) rfl (by decide) (by decide) 0 rfl (pj_aload_n hM (pc := 12) dX11_init_12 rfl rfl (pj_newZ hM (pc := 13) dX11_init_13 kl_X11_15 kn_12.1 kn_12.2 rfl rfl kt_12 (by decide) h4 h5 k))) ?_
  refine pj_tlet (fun w6 => Go (16, [(10, 0), (9, 0)], [(12, 0), (10, 0)], w6)) (fun w6 => ?_)
  refine pj_tbind (fun p7 h8 => ?_)
  refine pj_tgd (fun h9 => ?_)
  refine pj_tgd (fun h10 => ?_)
  refine pj_map (fun k => pj_dup hM (pc := 16) dX11_init_16 (by decide) (pj_callI hM (pc := 17) (cR_init_c w6 p7 h8) dX11_init_17 mf_X7_init mi_X7_init (Or.inl ml_X11_17) (by decide) rfl rfl (by decide) rfl rfl (pj_pfF hM (pc := 20) dX11_init_20 fl_X11_18 rfl (fun C T h => by cases h; rfl) (by decide) rfl (by decide) (by decide) 1 rfl (pj_aload_n hM (pc := 23) dX11_init_23 rfl rfl (pj_newZ hM (pc := 24) dX11_init_24 kl_X11_22 kn_13.1 kn_13.2 rfl rfl kt_13 (by decide) h9 h10 k))))) ?_
  refine pj_tlet (fun w11 => Go (27, [(10, 0), (9, 0)], [(13, 0), (10, 0)], w11)) (fun w11 => ?_)
  refine pj_tbind (fun p12 h13 => ?_)
  refine pj_tgd (fun h14 => ?_)
  refine pj_tgd (fun h15 => ?_)
  refine pj_map (fun k => pj_dup hM (pc := 27) dX11_init_27 (by decide) (pj_aload_n hM (pc := 28) dX11_init_28 rfl rfl (pj_gf hM (pc := 29) (t := 12) dX11_init_29 fl_X11_18 (by decide) rfl 1 rfl (pj_callI hM (pc := 32) (cBT_init_c (w11 10 0 1) w11 p12 h13) dX11_init_32 mf_X1_init mi_X1_init (Or.inl ml_X11_24) (by decide) rfl rfl (by decide) rfl rfl (pj_pfF hM (pc := 35) dX11_init_35 fl_X11_27 rfl (fun C T h => by cases h; rfl) (by decide) rfl (by decide) (by decide) 2 rfl (pj_aload_n hM (pc := 38) dX11_init_38 rfl rfl (pj_newZ hM (pc := 39) dX11_init_39 kl_X11_31 kn_14.1 kn_14.2 rfl rfl kt_14 (by decide) h14 h15 k))))))) ?_
  refine pj_tlet (fun w16 => Go (42, [(10, 0), (9, 0)], [(14, 0), (10, 0)], w16)) (fun w16 => ?_)
  refine pj_tbind (fun p17 h18 => ?_)
  refine pj_tgd (fun h19 => ?_)
  refine pj_tgd (fun h20 => ?_)
  refine pj_map (fun k => pj_dup hM (pc := 42) dX11_init_42 (by decide) (pj_aload_n hM (pc := 43) dX11_init_43 rfl rfl (pj_gf hM (pc := 44) (t := 12) dX11_init_44 fl_X11_18 (by decide) rfl 1 rfl (pj_callI hM (pc := 47) (cDT_init_c (w16 10 0 1) w16 p17 h18) dX11_init_47 mf_X3_init mi_X3_init (Or.inl ml_X11_33) (by decide) rfl rfl (by decide) rfl rfl (pj_pfF hM (pc := 50) dX11_init_50 fl_X11_34 rfl (fun C T h => by cases h; rfl) (by decide) rfl (by decide) (by decide) 3 rfl (pj_aload_n hM (pc := 53) dX11_init_53 rfl rfl (pj_iconst hM (pc := 54) dX11_init_54 (by decide) (pj_anewZ hM (pc := 55) dX11_init_55 kl_X11_38 (by simp) rfl rfl (fun _ => rfl) (by decide) rfl (by decide) (by decide) h19 h20 k)))))))) ?_
  refine pj_tlet (fun w21 => Go (58, [(10, 0), (9, 0)], [(15, 0), (10, 0)], w21)) (fun w21 => ?_)
  refine pj_tgd (fun h22 => ?_)
  refine pj_tgd (fun h23 => ?_)
  refine pj_map (fun k => pj_pfF hM (pc := 58) dX11_init_58 fl_X11_40 rfl (fun C T h => by cases h; rfl) (by decide) rfl (by decide) (by decide) 4 rfl (pj_aload_n hM (pc := 61) dX11_init_61 rfl rfl (pj_iconst hM (pc := 62) dX11_init_62 (by decide) (pj_anewZ hM (pc := 63) dX11_init_63 kl_X11_44 (by simp) rfl rfl (fun _ => rfl) (by decide) rfl (by decide) (by decide) h22 h23 k)))) ?_
  refine pj_tlet (fun w24 => Go (66, [(10, 0), (9, 0)], [(16, 0), (10, 0)], w24)) (fun w24 => ?_)
  refine pj_tgd (fun h25 => ?_)
  refine pj_tgd (fun h26 => ?_)
  refine pj_map (fun k => pj_pfF hM (pc := 66) dX11_init_66 fl_X11_46 rfl (fun C T h => by cases h; rfl) (by decide) rfl (by decide) (by decide) 5 rfl (pj_aload_n hM (pc := 69) dX11_init_69 rfl rfl (pj_newZ hM (pc := 70) dX11_init_70 kl_X11_50 kn_17.1 kn_17.2 rfl rfl kt_17 (by decide) h25 h26 k))) ?_
  refine pj_tlet (fun w27 => Go (73, [(10, 0), (9, 0)], [(17, 0), (10, 0)], w27)) (fun w27 => ?_)
  refine pj_tbind (fun p28 h29 => ?_)
  refine pj_tgd (fun h30 => ?_)
  refine pj_tgd (fun h31 => ?_)
  refine pj_map (fun k => pj_dup hM (pc := 73) dX11_init_73 (by decide) (pj_callI hM (pc := 74) (cO_init_c w27 p28 h29) dX11_init_74 mf_X8_init mi_X8_init (Or.inr (by simp [pj_nest, yX11_init])) (by decide) rfl rfl (by decide) rfl rfl (pj_pfF hM (pc := 77) dX11_init_77 fl_X11_53 rfl (fun C T h => by cases h; rfl) (by decide) rfl (by decide) (by decide) 6 rfl (pj_aload_n hM (pc := 80) dX11_init_80 rfl rfl (pj_newZ hM (pc := 81) dX11_init_81 kl_X11_57 kn_18.1 kn_18.2 rfl rfl kt_18 (by decide) h30 h31 k))))) ?_
  refine pj_tlet (fun w32 => Go (84, [(10, 0), (9, 0)], [(18, 0), (10, 0)], w32)) (fun w32 => ?_)
  refine pj_tbind (fun p33 h34 => ?_)
  refine pj_tgd (fun h35 => ?_)
  refine pj_tgd (fun h36 => ?_)
  refine pj_map (fun k => pj_dup hM (pc := 84) dX11_init_84 (by decide) (pj_callI hM (pc := 85) (cL_init_c w32 p33 h34) dX11_init_85 mf_X6_init mi_X6_init (Or.inr (by simp [pj_nest, yX11_init])) (by decide) rfl rfl (by decide) rfl rfl (pj_pfF hM (pc := 88) dX11_init_88 fl_X11_60 rfl (fun C T h => by cases h; rfl) (by decide) rfl (by decide) (by decide) 7 rfl (pj_aload_n hM (pc := 91) dX11_init_91 rfl rfl (pj_iconst hM (pc := 92) dX11_init_92 (by decide) (pj_newaZ hM (pc := 93) dX11_init_93 mo_int (Or.inl ⟨rfl, rfl, rfl, fun _ => rfl⟩) rfl (by decide) (by decide) h35 h36 k)))))) ?_
  refine pj_tlet (fun w37 => Go (95, [(10, 0), (9, 0)], [(44, 0), (10, 0)], w37)) (fun w37 => ?_)
  refine pj_tgd (fun h38 => ?_)
  refine pj_tgd (fun h39 => ?_)
  refine pj_map (fun k => pj_pfF hM (pc := 95) dX11_init_95 fl_X11_64 rfl (fun C T h => by cases h; rfl) (by decide) rfl (by decide) (by decide) 8 rfl (pj_aload_n hM (pc := 98) dX11_init_98 rfl rfl (pj_newZ hM (pc := 99) dX11_init_99 kl_X11_44 kn_19.1 kn_19.2 rfl rfl kt_19 (by decide) h38 rfl k))) ?_
  refine pj_tlet (fun w40 => Go (102, [(10, 0), (9, 0)], [(19, (pj_nx (pj_set w37 10 0 8 0))), (10, 0)], w40)) (fun w40 => ?_)
  refine pj_tbind (fun p41 h42 => ?_)
  refine pj_tgd (fun h43 => ?_)
  refine pj_tgd (fun h44 => ?_)
  refine pj_map (fun k => pj_dup hM (pc := 102) dX11_init_102 (by decide) (pj_callI hM (pc := 103) (cB_init_c (pj_nx (pj_set w37 10 0 8 0)) h39 w40 p41 h42) dX11_init_103 mf_X0_init mi_X0_init (Or.inl ml_X11_68) (by decide) rfl rfl h39 rfl rfl (pj_pf hM (pc := 106) dX11_init_106 fl_X11_69 (by decide) rfl (fun h => absurd h (by decide)) (by decide) (fun _ => rfl) 10 rfl (pj_aload_n hM (pc := 109) dX11_init_109 rfl rfl (pj_newZ hM (pc := 110) dX11_init_110 kl_X11_44 kn_19.1 kn_19.2 rfl rfl kt_19 (by decide) h43 rfl k))))) ?_
  refine pj_tlet (fun w45 => Go (113, [(10, 0), (9, 0)], [(19, (pj_nx (pj_set p41 10 0 10 (pj_nx (pj_set w37 10 0 8 0))))), (10, 0)], w45)) (fun w45 => ?_)
  refine pj_tbind (fun p46 h47 => ?_)
  refine pj_tgd (fun h48 => ?_)
  refine pj_tgd (fun h49 => ?_)
  refine pj_map (fun k => pj_dup hM (pc := 113) dX11_init_113 (by decide) (pj_callI hM (pc := 114) (cB_init_c (pj_nx (pj_set p41 10 0 10 (pj_nx (pj_set w37 10 0 8 0)))) h44 w45 p46 h47) dX11_init_114 mf_X0_init mi_X0_init (Or.inl ml_X11_68) (by decide) rfl rfl h44 rfl rfl (pj_pf hM (pc := 117) dX11_init_117 fl_X11_73 (by decide) rfl (fun h => absurd h (by decide)) (by decide) (fun _ => rfl) 11 rfl (pj_aload_n hM (pc := 120) dX11_init_120 rfl rfl (pj_newZ hM (pc := 121) dX11_init_121 kl_X11_38 kn_24.1 kn_24.2 rfl rfl kt_24 (by decide) h48 rfl k))))) ?_
  refine pj_tlet (fun w50 => Go (124, [(10, 0), (9, 0)], [(24, (pj_nx (pj_set p46 10 0 11 (pj_nx (pj_set p41 10 0 10 (pj_nx (pj_set w37 10 0 8 0))))))), (10, 0)], w50)) (fun w50 => ?_)
  refine pj_tbind (fun p51 h52 => ?_)
  refine pj_map (fun k => pj_dup hM (pc := 124) dX11_init_124 (by decide) (pj_callI hM (pc := 125) (cD_init_c (pj_nx (pj_set p46 10 0 11 (pj_nx (pj_set p41 10 0 10 (pj_nx (pj_set w37 10 0 8 0)))))) h49 w50 p51 h52) dX11_init_125 mf_X2_init mi_X2_init (Or.inr (by simp [pj_nest, yX11_init])) (by decide) rfl rfl h49 rfl rfl (pj_pf hM (pc := 128) dX11_init_128 fl_X11_77 (by decide) rfl (fun h => absurd h (by decide)) (by decide) (fun _ => rfl) 12 rfl k))) ?_
  refine pj_tlet (fun w53 => Go (131, [(10, 0), (9, 0)], [], w53)) (fun w53 => ?_)
  refine pj_tgd (fun h54 => ?_)
  refine pj_tgd (fun h55 => ?_)
  refine pj_map (fun k => pj_aload_n hM (pc := 131) dX11_init_131 rfl rfl (pj_newZ hM (pc := 132) dX11_init_132 kl_X11_38 kn_24.1 kn_24.2 rfl rfl kt_24 (by decide) h54 rfl k)) ?_
  refine pj_tlet (fun w56 => Go (135, [(10, 0), (9, 0)], [(24, (pj_nx w53)), (10, 0)], w56)) (fun w56 => ?_)
  refine pj_tbind (fun p57 h58 => ?_)
  refine pj_map (fun k => pj_dup hM (pc := 135) dX11_init_135 (by decide) (pj_callI hM (pc := 136) (cD_init_c (pj_nx w53) h55 w56 p57 h58) dX11_init_136 mf_X2_init mi_X2_init (Or.inr (by simp [pj_nest, yX11_init])) (by decide) rfl rfl h55 rfl rfl (pj_pf hM (pc := 139) dX11_init_139 fl_X11_81 (by decide) rfl (fun h => absurd h (by decide)) (by decide) (fun _ => rfl) 13 rfl (pj_aload_n hM (pc := 142) dX11_init_142 rfl rfl (pj_lconst hM (pc := 143) (z := 1) dX11_init_143 rfl (by decide) (pj_pf hM (pc := 144) dX11_init_144 fl_X11_84 (by decide) rfl (fun h => absurd h (by decide)) (by decide) (fun _ => rfl) 17 rfl (pj_iconst hM (pc := 147) dX11_init_147 (by decide) (pj_istore_n hM (pc := 148) dX11_init_148 (by decide) (lls' := [(10, 0), (0, 0)]) rfl (pj_kill hM [true, true] (lls' := [(10, 0), (0, 0)]) rfl k))))))))) ?_
  exact tX_init_c_149 hM _ h0 _
theorem cX_init_c   (w : pj_W) (r : pj_W) (h : fX_init_c  w = some r) : pj_Cn l yX11_init cX11_init 2 none 5 110 false g [(10, 0)] w ((none : Option pj_V), r) :=
  pj_Cn_of rfl (Nat.le_of_ble_eq_true rfl) (lls := [(10, 0), (9, 0)]) rfl (fun Go hM => tX_init_c hM w (fun x => ((none : Option pj_V), x) = ((none : Option pj_V), r)) (fun r h => h) r h rfl)
noncomputable def fX_last (x1 : Int) (w : pj_W) : Option (Int × pj_W) :=
  if 0 ≤ (w 10 0 10) then ((fB_findAt (w 10 0 10) x1 w).bind fun p2 => (if p2 < 0 then ((fX_refuse 1 w).bind fun p5 => (some ((p5.1, p5.2)))) else (if (w 23 p2 5) = 0 then ((fX_refuse 7 w).bind fun p8 => (some ((p8.1, p8.2)))) else ((fN_lastSet p2 w).bind fun p10 => ((fX_answer p10 w).bind fun p12 => (some ((p12.1, p12.2)))))))) else none
theorem tX_last {Go : pj_C → Prop} (hM : pj_M l yX11_last cX11_last 3 (some .int) 1 22 true g n0 o Go) (x1 : Int) (w : pj_W)  (R : Int × pj_W → Prop) (h0 : ∀ r, R (r) → ((some (0, r.1) : Option pj_V), r.2) = o) : pj_TG R (fX_last x1 w) (Go (0, [(10, 0), (0, x1), (9, 0)], [], w)) := by
  unfold fX_last
  refine pj_tgd (fun h1 => ?_)
  refine pj_tbind (fun p2 h3 => ?_)
  refine pj_map (fun k => pj_aload_n hM (pc := 0) dX11_last_0 rfl rfl (pj_gf hM (pc := 1) (t := 19) dX11_last_1 fl_X11_69 (by decide) rfl 10 rfl (pj_iload_n hM (pc := 4) dX11_last_4 rfl (pj_cV hM (pc := 5) (cB_findAt (w 10 0 10) x1 h1 w p2 h3) dX11_last_5 mf_X0_findAt mv_X0_findAt ml_X11_237 kc_19 rfl rfl h1 rfl rfl (pj_astore_n hM (pc := 8) dX11_last_8 (by decide) (by decide) (lls' := [(10, 0), (0, x1), (23, p2)]) rfl (pj_aload_n hM (pc := 9) dX11_last_9 rfl rfl k)))))) ?_
  refine pj_tif (fun h4 => ?_) (fun h4 => ?_)
  · refine pj_tbind (fun p5 h6 => ?_)
    exact pj_tret (fun hr => pj_nonnull_f hM (pc := 10) 19 dX11_last_10 rfl (by decide) h4 (pj_aload_n hM (pc := 13) dX11_last_13 rfl rfl (pj_iconst hM (pc := 14) dX11_last_14 (by decide) (pj_cV hM (pc := 15) (cX_refuse 1 w p5 h6) dX11_last_15 mf_X11_refuse mv_X11_refuse ml_X11_100 kc_10 rfl rfl (by decide) rfl rfl (pj_ret hM (pc := 18) dX11_last_18 ⟨_, rfl⟩ (h0 ((p5.1, p5.2)) hr) rfl)))))
  refine pj_map (fun k => pj_nonnull_t hM (pc := 10) dX11_last_10 rfl (by decide) h4 (pj_aload_n hM (pc := 19) dX11_last_19 rfl rfl (pj_gf hM (pc := 20) (t := 0) dX11_last_20 fl_X11_287 (Int.not_lt.mp h4) rfl 5 rfl k))) ?_
  refine pj_tif (fun h7 => ?_) (fun h7 => ?_)
  · refine pj_tbind (fun p8 h9 => ?_)
    exact pj_tret (fun hr => pj_if_eq_t hM (pc := 23) dX11_last_23 rfl h7 (pj_aload_n hM (pc := 37) dX11_last_37 rfl rfl (pj_bipush hM (pc := 38) dX11_last_38 (by decide) (pj_cV hM (pc := 40) (cX_refuse 7 w p8 h9) dX11_last_40 mf_X11_refuse mv_X11_refuse ml_X11_100 kc_10 rfl rfl (by decide) rfl rfl (pj_ret hM (pc := 43) dX11_last_43 ⟨_, rfl⟩ (h0 ((p8.1, p8.2)) hr) rfl)))))
  refine pj_tbind (fun p10 h11 => ?_)
  refine pj_tbind (fun p12 h13 => ?_)
  exact pj_tret (fun hr => pj_if_eq_f hM (pc := 23) 37 dX11_last_23 rfl h7 (pj_aload_n hM (pc := 26) dX11_last_26 rfl rfl (pj_aload_n hM (pc := 27) dX11_last_27 rfl rfl (pj_cV hM (pc := 28) (cN_lastSet p2 (Int.not_lt.mp h4) w p10 h11) dX11_last_28 mf_X4_lastSet mv_X4_lastSet ml_X11_290 kc_23 rfl rfl (Int.not_lt.mp h4) rfl rfl (pj_cV hM (pc := 31) (cX_answer p10 w p12 h13) dX11_last_31 mf_X11_answer mv_X11_answer ml_X11_96 kc_10 rfl rfl (by decide) rfl rfl (pj_goto hM (pc := 34) dX11_last_34 rfl (pj_ret hM (pc := 43) dX11_last_43 ⟨_, rfl⟩ (h0 ((p12.1, p12.2)) hr) rfl)))))))
theorem cX_last (x1 : Int)  (w : pj_W) (r : Int × pj_W) (h : fX_last x1 w = some r) : pj_Cn l yX11_last cX11_last 3 (some .int) 1 22 true g [(10, 0), (0, x1)] w ((some (0, r.1) : Option pj_V), r.2) :=
  pj_Cn_of rfl (Nat.le_of_ble_eq_true rfl) (lls := [(10, 0), (0, x1), (9, 0)]) rfl (fun Go hM => tX_last hM x1 w (fun x => ((some (0, x.1) : Option pj_V), x.2) = ((some (0, r.1) : Option pj_V), r.2)) (fun r h => h) r h rfl)
noncomputable def fX_lateness_22  (w : pj_W) : Option (Int × pj_W) :=
  (fX_refuse 1 w).bind fun p1 => (some ((p1.1, p1.2)))
noncomputable def fX_lateness (x1 : Int) (x2 : Int) (w : pj_W) : Option (Int × pj_W) :=
  if 0 ≤ (w 10 0 10) then ((fB_finderAt (w 10 0 10) x1 w).bind fun p2 => (if p2 < 0 then (fX_lateness_22 w) else (if x2 < 0 then (fX_lateness_22 w) else (if x2 ≤ 240 then ((fO_prepare (w 10 0 10) x1 x2 w).bind fun p7 => ((fO_bestWorth p7).bind fun p9 => ((fO_prepare (p7 10 0 10) x1 0 p7).bind fun p11 => ((fO_bestWorth p11).bind fun p13 => ((fX_answer (pj_wr (p9 - p13)) p11).bind fun p15 => (some ((p15.1, p15.2)))))))) else (fX_lateness_22 w))))) else none
theorem tX_lateness_22 {Go : pj_C → Prop} (hM : pj_M l yX11_lateness cX11_lateness 4 (some .int) 4 95 true g n0 o Go)  (w : pj_W)  (R : Int × pj_W → Prop) (h0 : ∀ r, R (r) → ((some (0, r.1) : Option pj_V), r.2) = o) : pj_TG R (fX_lateness_22  w) (Go (22, [(10, 0), (9, 0), (9, 0), (9, 0)], [], w)) := by
  unfold fX_lateness_22
  refine pj_tbind (fun p1 h2 => ?_)
  exact pj_tret (fun hr => pj_aload_n hM (pc := 22) dX11_lateness_22 rfl rfl (pj_iconst hM (pc := 23) dX11_lateness_23 (by decide) (pj_cV hM (pc := 24) (cX_refuse 1 w p1 h2) dX11_lateness_24 mf_X11_refuse mv_X11_refuse ml_X11_100 kc_10 rfl rfl (by decide) rfl rfl (pj_ret hM (pc := 27) dX11_lateness_27 ⟨_, rfl⟩ (h0 ((p1.1, p1.2)) hr) rfl))))
theorem tX_lateness {Go : pj_C → Prop} (hM : pj_M l yX11_lateness cX11_lateness 4 (some .int) 4 95 true g n0 o Go) (x1 : Int) (x2 : Int) (w : pj_W)  (R : Int × pj_W → Prop) (h0 : ∀ r, R (r) → ((some (0, r.1) : Option pj_V), r.2) = o) : pj_TG R (fX_lateness x1 x2 w) (Go (0, [(10, 0), (0, x1), (0, x2), (9, 0)], [], w)) := by
  unfold fX_lateness
  refine pj_tgd (fun h1 => ?_)
  refine pj_tbind (fun p2 h3 => ?_)
  refine pj_map (fun k => pj_aload_n hM (pc := 0) dX11_lateness_0 rfl rfl (pj_gf hM (pc := 1) (t := 19) dX11_lateness_1 fl_X11_69 (by decide) rfl 10 rfl (pj_iload_n hM (pc := 4) dX11_lateness_4 rfl (pj_cV hM (pc := 5) (cB_finderAt (w 10 0 10) x1 h1 w p2 h3) dX11_lateness_5 mf_X0_finderAt mv_X0_finderAt ml_X11_216 kc_19 rfl rfl h1 rfl rfl k)))) ?_
  refine pj_tif (fun h4 => ?_) (fun h4 => ?_)
  · refine pj_map (fun k => pj_null_t hM (pc := 8) dX11_lateness_8 rfl (by decide) h4 (pj_kill hM [true, false, false, false] (lls' := [(10, 0), (9, 0), (9, 0), (9, 0)]) rfl k)) ?_
    exact tX_lateness_22 hM w _ h0
  refine pj_map (fun k => pj_null_f hM (pc := 8) 22 dX11_lateness_8 rfl (by decide) h4 (pj_iload_n hM (pc := 11) dX11_lateness_11 rfl k)) ?_
  refine pj_tif (fun h5 => ?_) (fun h5 => ?_)
  · refine pj_map (fun k => pj_if_lt_t hM (pc := 12) dX11_lateness_12 rfl h5 (pj_kill hM [true, false, false, false] (lls' := [(10, 0), (9, 0), (9, 0), (9, 0)]) rfl k)) ?_
    exact tX_lateness_22 hM w _ h0
  refine pj_map (fun k => pj_if_lt_f hM (pc := 12) 22 dX11_lateness_12 rfl h5 (pj_iload_n hM (pc := 15) dX11_lateness_15 rfl (pj_sipush hM (pc := 16) dX11_lateness_16 (by decide) k))) ?_
  refine pj_tif (fun h6 => ?_) (fun h6 => ?_)
  · refine pj_tbind (fun p7 h8 => ?_)
    refine pj_tbind (fun p9 h10 => ?_)
    refine pj_tbind (fun p11 h12 => ?_)
    refine pj_tbind (fun p13 h14 => ?_)
    refine pj_tbind (fun p15 h16 => ?_)
    exact pj_tret (fun hr => pj_ic_le_t hM (pc := 19) dX11_lateness_19 rfl h6 (pj_aload_n hM (pc := 28) dX11_lateness_28 rfl rfl (pj_getF hM (pc := 29) (t := 17) dX11_lateness_29 fl_X11_53 (by decide) rfl rfl (pj_aload_n hM (pc := 32) dX11_lateness_32 rfl rfl (pj_gf hM (pc := 33) (t := 19) dX11_lateness_33 fl_X11_69 (by decide) rfl 10 rfl (pj_iload_n hM (pc := 36) dX11_lateness_36 rfl (pj_iload_n hM (pc := 37) dX11_lateness_37 rfl (pj_cVv hM (pc := 38) (cO_prepare (w 10 0 10) x1 x2 w p7 h8) dX11_lateness_38 mf_X8_prepare mv_X8_prepare ml_X11_322 kc_17 rfl rfl (by decide) rfl rfl (pj_aload_n hM (pc := 41) dX11_lateness_41 rfl rfl (pj_getF hM (pc := 42) (t := 17) dX11_lateness_42 fl_X11_53 (by decide) rfl rfl (pj_cV hM (pc := 45) (cO_bestWorth p7 p9 h10) dX11_lateness_45 mf_X8_bestWorth mv_X8_bestWorth ml_X11_329 kc_17 rfl rfl (by decide) rfl rfl (pj_istore_n hM (pc := 48) dX11_lateness_48 (by decide) (lls' := [(10, 0), (0, x1), (0, x2), (0, p9)]) rfl (pj_aload_n hM (pc := 49) dX11_lateness_49 rfl rfl (pj_getF hM (pc := 50) (t := 17) dX11_lateness_50 fl_X11_53 (by decide) rfl rfl (pj_aload_n hM (pc := 53) dX11_lateness_53 rfl rfl (pj_gf hM (pc := 54) (t := 19) dX11_lateness_54 fl_X11_69 (by decide) rfl 10 rfl (pj_iload_n hM (pc := 57) dX11_lateness_57 rfl (pj_iconst hM (pc := 58) dX11_lateness_58 (by decide) (pj_cVv hM (pc := 59) (cO_prepare (p7 10 0 10) x1 0 p7 p11 h12) dX11_lateness_59 mf_X8_prepare mv_X8_prepare ml_X11_322 kc_17 rfl rfl (by decide) rfl rfl (pj_aload_n hM (pc := 62) dX11_lateness_62 rfl rfl (pj_iload_n hM (pc := 63) dX11_lateness_63 rfl (pj_aload_n hM (pc := 64) dX11_lateness_64 rfl rfl (pj_getF hM (pc := 65) (t := 17) dX11_lateness_65 fl_X11_53 (by decide) rfl rfl (pj_cV hM (pc := 68) (cO_bestWorth p11 p13 h14) dX11_lateness_68 mf_X8_bestWorth mv_X8_bestWorth ml_X11_329 kc_17 rfl rfl (by decide) rfl rfl (pj_isub hM (pc := 71) dX11_lateness_71 (pj_cV hM (pc := 72) (cX_answer (pj_wr (p9 - p13)) p11 p15 h16) dX11_lateness_72 mf_X11_answer mv_X11_answer ml_X11_96 kc_10 rfl rfl (by decide) rfl rfl (pj_ret hM (pc := 75) dX11_lateness_75 ⟨_, rfl⟩ (h0 ((p15.1, p15.2)) hr) rfl)))))))))))))))))))))))))))
  refine pj_map (fun k => pj_ic_le_f hM (pc := 19) 28 dX11_lateness_19 rfl h6 (pj_kill hM [true, false, false, false] (lls' := [(10, 0), (9, 0), (9, 0), (9, 0)]) rfl k)) ?_
  exact tX_lateness_22 hM w _ h0
theorem cX_lateness (x1 : Int) (x2 : Int)  (w : pj_W) (r : Int × pj_W) (h : fX_lateness x1 x2 w = some r) : pj_Cn l yX11_lateness cX11_lateness 4 (some .int) 4 95 true g [(10, 0), (0, x1), (0, x2)] w ((some (0, r.1) : Option pj_V), r.2) :=
  pj_Cn_of rfl (Nat.le_of_ble_eq_true rfl) (lls := [(10, 0), (0, x1), (0, x2), (9, 0)]) rfl (fun Go hM => tX_lateness hM x1 x2 w (fun x => ((some (0, x.1) : Option pj_V), x.2) = ((some (0, r.1) : Option pj_V), r.2)) (fun r h => h) r h rfl)
noncomputable def fN_latestMinute (i0 : Int) (w : pj_W) : Option (Int) :=
  if (w 23 i0 6) ≤ 0 then (some ((-1))) else (if 0 ≤ (pj_wr ((w 23 i0 6) - 1)) ∧ (pj_wr ((w 23 i0 6) - 1)) < 60 then (some ((w 46 i0 (pj_wr ((w 23 i0 6) - 1))))) else none)
theorem tN_latestMinute {Go : pj_C → Prop} (hM : pj_M l yX4_latestMinute cX4_latestMinute 1 (some .int) 0 0 true g n0 o Go) (i0 : Int) (w : pj_W) (hn0 : 0 ≤ i0) (R : Int → Prop) (h0 : ∀ r, R (r) → ((some (0, r) : Option pj_V), w) = o) : pj_TG R (fN_latestMinute i0 w) (Go (0, [(23, i0)], [], w)) := by
  unfold fN_latestMinute
  refine pj_map (fun k => pj_aload_n hM (pc := 0) dX4_latestMinute_0 rfl rfl (pj_gf hM (pc := 1) (t := 0) dX4_latestMinute_1 fl_X4_35 hn0 rfl 6 rfl k)) ?_
  refine pj_tif (fun h1 => ?_) (fun h1 => ?_)
  · exact pj_tret (fun hr => pj_if_le_t hM (pc := 4) dX4_latestMinute_4 rfl h1 (pj_iconst hM (pc := 21) dX4_latestMinute_21 (by decide) (pj_ret hM (pc := 22) dX4_latestMinute_22 ⟨_, rfl⟩ (h0 ((-1)) hr) rfl)))
  refine pj_tgd (fun h2 => ?_)
  exact pj_tret (fun hr => pj_if_le_f hM (pc := 4) 21 dX4_latestMinute_4 rfl h1 (pj_aload_n hM (pc := 7) dX4_latestMinute_7 rfl rfl (pj_getF hM (pc := 8) (t := 46) dX4_latestMinute_8 fl_X4_17 hn0 rfl rfl (pj_aload_n hM (pc := 11) dX4_latestMinute_11 rfl rfl (pj_gf hM (pc := 12) (t := 0) dX4_latestMinute_12 fl_X4_35 hn0 rfl 6 rfl (pj_iconst hM (pc := 15) dX4_latestMinute_15 (by decide) (pj_isub hM (pc := 16) dX4_latestMinute_16 (pj_ial hM (pc := 17) dX4_latestMinute_17 ki_46 hn0 h2 (pj_goto hM (pc := 18) dX4_latestMinute_18 rfl (pj_ret hM (pc := 22) dX4_latestMinute_22 ⟨_, rfl⟩ (h0 ((w 46 i0 (pj_wr ((w 23 i0 6) - 1)))) hr) rfl))))))))))
theorem cN_latestMinute (i0 : Int) (hn0 : 0 ≤ i0) (w : pj_W) (r : Int) (h : fN_latestMinute i0 w = some r) : pj_Cn l yX4_latestMinute cX4_latestMinute 1 (some .int) 0 0 true g [(23, i0)] w ((some (0, r) : Option pj_V), w) :=
  pj_Cn_of rfl (Nat.le_of_ble_eq_true rfl) (lls := [(23, i0)]) rfl (fun Go hM => tN_latestMinute hM i0 w hn0 (fun x => ((some (0, x) : Option pj_V), w) = ((some (0, r) : Option pj_V), w)) (fun r h => h) r h rfl)
noncomputable def fX_latest_4b  (w : pj_W) (x1 : Int) (x2 : Int) : Option ((Int × Int) ⊕ (Int × pj_W)) :=
  if 0 ≤ (w 10 0 10) then (if (w 19 (w 10 0 10) 8) ≤ x2 then (if x1 = (-1) then ((fX_refuse 6 w).bind fun p4 => (some (Sum.inr ((p4.1, p4.2))))) else ((fX_answer x1 w).bind fun p6 => (some (Sum.inr ((p6.1, p6.2)))))) else (if 0 ≤ x2 ∧ x2 < 8 then ((fN_latestMinute (8 * (w 10 0 10) + x2) w).bind fun p9 => (some (Sum.inl ((max x1 p9), (pj_wr (x2 + 1)))))) else none)) else none
noncomputable def fX_latest_4  (w : pj_W) (s : (Int × Int)) : Option (Int × pj_W) := pj_Lp (fun s : (Int × Int) => fX_latest_4b  w s.1 s.2) s
noncomputable def fX_latest  (w : pj_W) : Option (Int × pj_W) :=
  fX_latest_4 w ((-1), 0)
theorem tX_latest_4b {Go : pj_C → Prop} (hM : pj_M l yX11_latest cX11_latest 3 (some .int) 1 21 true g n0 o Go)  (w : pj_W) (x1 : Int) (x2 : Int)  (R : (Int × Int) ⊕ (Int × pj_W) → Prop) (h0 : ∀ r, R (Sum.inr (r)) → ((some (0, r.1) : Option pj_V), r.2) = o) (hk4 : ∀ s, R (Sum.inl s) → Go (4, [(10, 0), (0, s.1), (0, s.2)], [], w)) : pj_TG R (fX_latest_4b  w x1 x2) (Go (4, [(10, 0), (0, x1), (0, x2)], [], w)) := by
  unfold fX_latest_4b
  refine pj_tgd (fun h1 => ?_)
  refine pj_map (fun k => pj_iload_n hM (pc := 4) dX11_latest_4 rfl (pj_aload_n hM (pc := 5) dX11_latest_5 rfl rfl (pj_gf hM (pc := 6) (t := 19) dX11_latest_6 fl_X11_69 (by decide) rfl 10 rfl (pj_gf hM (pc := 9) (t := 0) dX11_latest_9 fl_X11_175 h1 rfl 8 rfl k)))) ?_
  refine pj_tif (fun h2 => ?_) (fun h2 => ?_)
  · refine pj_map (fun k => pj_ic_ge_t hM (pc := 12) dX11_latest_12 rfl h2 (pj_iload_n hM (pc := 38) dX11_latest_38 rfl (pj_iconst hM (pc := 39) dX11_latest_39 (by decide) k))) ?_
    refine pj_tif (fun h3 => ?_) (fun h3 => ?_)
    · refine pj_tbind (fun p4 h5 => ?_)
      exact pj_tret (fun hr => pj_ic_ne_f hM (pc := 40) 52 dX11_latest_40 rfl (fun q => q h3) (pj_aload_n hM (pc := 43) dX11_latest_43 rfl rfl (pj_bipush hM (pc := 44) dX11_latest_44 (by decide) (pj_cV hM (pc := 46) (cX_refuse 6 w p4 h5) dX11_latest_46 mf_X11_refuse mv_X11_refuse ml_X11_100 kc_10 rfl rfl (by decide) rfl rfl (pj_goto hM (pc := 49) dX11_latest_49 rfl (pj_ret hM (pc := 57) dX11_latest_57 ⟨_, rfl⟩ (h0 ((p4.1, p4.2)) hr) rfl))))))
    refine pj_tbind (fun p6 h7 => ?_)
    exact pj_tret (fun hr => pj_ic_ne_t hM (pc := 40) dX11_latest_40 rfl h3 (pj_aload_n hM (pc := 52) dX11_latest_52 rfl rfl (pj_iload_n hM (pc := 53) dX11_latest_53 rfl (pj_cV hM (pc := 54) (cX_answer x1 w p6 h7) dX11_latest_54 mf_X11_answer mv_X11_answer ml_X11_96 kc_10 rfl rfl (by decide) rfl rfl (pj_ret hM (pc := 57) dX11_latest_57 ⟨_, rfl⟩ (h0 ((p6.1, p6.2)) hr) rfl)))))
  refine pj_tgd (fun h8 => ?_)
  refine pj_tbind (fun p9 h10 => ?_)
  exact pj_tret (fun hr => pj_ic_ge_f hM (pc := 12) 38 dX11_latest_12 rfl h2 (pj_iload_n hM (pc := 15) dX11_latest_15 rfl (pj_aload_n hM (pc := 16) dX11_latest_16 rfl rfl (pj_gf hM (pc := 17) (t := 19) dX11_latest_17 fl_X11_69 (by decide) rfl 10 rfl (pj_getF hM (pc := 20) (t := 21) dX11_latest_20 fl_X11_303 h1 rfl rfl (pj_iload_n hM (pc := 23) dX11_latest_23 rfl (pj_aald hM (pc := 24) (fun s : Int => 8 * (w 10 0 10) + s) dX11_latest_24 (by decide) rfl (fun _ => rfl) ⟨_, rfl⟩ (by decide) h1 h8 (fun _ => rfl) (by show (0 : Int) ≤ (8 * (w 10 0 10) + x2); omega) (pj_cV hM (pc := 25) (cN_latestMinute (8 * (w 10 0 10) + x2) (by show (0 : Int) ≤ (8 * (w 10 0 10) + x2); omega) w p9 h10) dX11_latest_25 mf_X4_latestMinute mv_X4_latestMinute ml_X11_345 kc_23 rfl rfl (by show (0 : Int) ≤ (8 * (w 10 0 10) + x2); omega) rfl rfl (pj_mmax hM (pc := 28) dX11_latest_28 mf_J9_max_7cf53 ms_J9_max_7cf53 ml_X11_360 rfl (pj_istore_n hM (pc := 31) dX11_latest_31 (by decide) (lls' := [(10, 0), (0, (max x1 p9)), (0, x2)]) rfl (pj_iinc hM (pc := 32) dX11_latest_32 rfl (by decide) (lls' := [(10, 0), (0, (max x1 p9)), (0, (pj_wr (x2 + 1)))]) rfl (pj_goto hM (pc := 35) dX11_latest_35 rfl (pj_kill hM [true, true, true] (lls' := [(10, 0), (0, (max x1 p9)), (0, (pj_wr (x2 + 1)))]) rfl ((hk4 _ hr)))))))))))))))
theorem tX_latest_4 {Go : pj_C → Prop} (hM : pj_M l yX11_latest cX11_latest 3 (some .int) 1 21 true g n0 o Go)  (w : pj_W)  (R : Int × pj_W → Prop) (h0 : ∀ r, R (r) → ((some (0, r.1) : Option pj_V), r.2) = o) (s : (Int × Int)) : pj_TG R (fX_latest_4  w s) (Go (4, [(10, 0), (0, s.1), (0, s.2)], [], w)) := by
  unfold fX_latest_4
  exact pj_tLp (G := fun s : (Int × Int) => Go (4, [(10, 0), (0, s.1), (0, s.2)], [], w)) (fun s => tX_latest_4b hM  w s.1 s.2  _ (fun r h => h0 r h)  (fun s h => h)) s
theorem tX_latest {Go : pj_C → Prop} (hM : pj_M l yX11_latest cX11_latest 3 (some .int) 1 21 true g n0 o Go)  (w : pj_W)  (R : Int × pj_W → Prop) (h0 : ∀ r, R (r) → ((some (0, r.1) : Option pj_V), r.2) = o) : pj_TG R (fX_latest  w) (Go (0, [(10, 0), (9, 0), (9, 0)], [], w)) := by
  unfold fX_latest
  refine pj_map (fun k => pj_iconst hM (pc := 0) dX11_latest_0 (by decide) (pj_istore_n hM (pc := 1) dX11_latest_1 (by decide) (lls' := [(10, 0), (0, (-1)), (9, 0)]) rfl (pj_iconst hM (pc := 2) dX11_latest_2 (by decide) (pj_istore_n hM (pc := 3) dX11_latest_3 (by decide) (lls' := [(10, 0), (0, (-1)), (0, 0)]) rfl (pj_kill hM [true, true, true] (lls' := [(10, 0), (0, (-1)), (0, 0)]) rfl k))))) ?_
  exact tX_latest_4 hM w _ h0 _
theorem cX_latest   (w : pj_W) (r : Int × pj_W) (h : fX_latest  w = some r) : pj_Cn l yX11_latest cX11_latest 3 (some .int) 1 21 true g [(10, 0)] w ((some (0, r.1) : Option pj_V), r.2) :=
  pj_Cn_of rfl (Nat.le_of_ble_eq_true rfl) (lls := [(10, 0), (9, 0), (9, 0)]) rfl (fun Go hM => tX_latest hM w (fun x => ((some (0, x.1) : Option pj_V), x.2) = ((some (0, r.1) : Option pj_V), r.2)) (fun r h => h) r h rfl)
noncomputable def fX_leader  (w : pj_W) : Option (Int × pj_W) :=
  if 0 ≤ (w 10 0 10) then ((fB_ranking (w 10 0 10) 0 w).bind fun p2 => (if p2 = (-1) then ((fX_refuse 6 w).bind fun p5 => (some ((p5.1, p5.2)))) else ((fX_answer p2 w).bind fun p7 => (some ((p7.1, p7.2)))))) else none
theorem tX_leader {Go : pj_C → Prop} (hM : pj_M l yX11_leader cX11_leader 2 (some .int) 6 138 true g n0 o Go)  (w : pj_W)  (R : Int × pj_W → Prop) (h0 : ∀ r, R (r) → ((some (0, r.1) : Option pj_V), r.2) = o) : pj_TG R (fX_leader  w) (Go (0, [(10, 0), (9, 0)], [], w)) := by
  unfold fX_leader
  refine pj_tgd (fun h1 => ?_)
  refine pj_tbind (fun p2 h3 => ?_)
  refine pj_map (fun k => pj_aload_n hM (pc := 0) dX11_leader_0 rfl rfl (pj_gf hM (pc := 1) (t := 19) dX11_leader_1 fl_X11_69 (by decide) rfl 10 rfl (pj_iconst hM (pc := 4) dX11_leader_4 (by decide) (pj_cV hM (pc := 5) (cB_ranking (w 10 0 10) 0 h1 w p2 h3) dX11_leader_5 mf_X0_ranking mv_X0_ranking ml_X11_300 kc_19 rfl rfl h1 rfl rfl (pj_istore_n hM (pc := 8) dX11_leader_8 (by decide) (lls' := [(10, 0), (0, p2)]) rfl (pj_iload_n hM (pc := 9) dX11_leader_9 rfl (pj_iconst hM (pc := 10) dX11_leader_10 (by decide) k))))))) ?_
  refine pj_tif (fun h4 => ?_) (fun h4 => ?_)
  · refine pj_tbind (fun p5 h6 => ?_)
    exact pj_tret (fun hr => pj_ic_ne_f hM (pc := 11) 23 dX11_leader_11 rfl (fun q => q h4) (pj_aload_n hM (pc := 14) dX11_leader_14 rfl rfl (pj_bipush hM (pc := 15) dX11_leader_15 (by decide) (pj_cV hM (pc := 17) (cX_refuse 6 w p5 h6) dX11_leader_17 mf_X11_refuse mv_X11_refuse ml_X11_100 kc_10 rfl rfl (by decide) rfl rfl (pj_goto hM (pc := 20) dX11_leader_20 rfl (pj_ret hM (pc := 28) dX11_leader_28 ⟨_, rfl⟩ (h0 ((p5.1, p5.2)) hr) rfl))))))
  refine pj_tbind (fun p7 h8 => ?_)
  exact pj_tret (fun hr => pj_ic_ne_t hM (pc := 11) dX11_leader_11 rfl h4 (pj_aload_n hM (pc := 23) dX11_leader_23 rfl rfl (pj_iload_n hM (pc := 24) dX11_leader_24 rfl (pj_cV hM (pc := 25) (cX_answer p2 w p7 h8) dX11_leader_25 mf_X11_answer mv_X11_answer ml_X11_96 kc_10 rfl rfl (by decide) rfl rfl (pj_ret hM (pc := 28) dX11_leader_28 ⟨_, rfl⟩ (h0 ((p7.1, p7.2)) hr) rfl)))))
theorem cX_leader   (w : pj_W) (r : Int × pj_W) (h : fX_leader  w = some r) : pj_Cn l yX11_leader cX11_leader 2 (some .int) 6 138 true g [(10, 0)] w ((some (0, r.1) : Option pj_V), r.2) :=
  pj_Cn_of rfl (Nat.le_of_ble_eq_true rfl) (lls := [(10, 0), (9, 0)]) rfl (fun Go hM => tX_leader hM w (fun x => ((some (0, x.1) : Option pj_V), x.2) = ((some (0, r.1) : Option pj_V), r.2)) (fun r h => h) r h rfl)
noncomputable def fX_leads (x1 : Int) (w : pj_W) : Option (Int × pj_W) :=
  if 0 ≤ (w 10 0 10) then ((fB_finderAt (w 10 0 10) x1 w).bind fun p2 => (if p2 < 0 then ((fX_refuse 1 w).bind fun p5 => (some ((p5.1, p5.2)))) else ((fB_leadOf (w 10 0 10) x1 w).bind fun p7 => ((fX_answer p7 w).bind fun p9 => (some ((p9.1, p9.2))))))) else none
theorem tX_leads {Go : pj_C → Prop} (hM : pj_M l yX11_leads cX11_leads 2 (some .int) 4 91 true g n0 o Go) (x1 : Int) (w : pj_W)  (R : Int × pj_W → Prop) (h0 : ∀ r, R (r) → ((some (0, r.1) : Option pj_V), r.2) = o) : pj_TG R (fX_leads x1 w) (Go (0, [(10, 0), (0, x1)], [], w)) := by
  unfold fX_leads
  refine pj_tgd (fun h1 => ?_)
  refine pj_tbind (fun p2 h3 => ?_)
  refine pj_map (fun k => pj_aload_n hM (pc := 0) dX11_leads_0 rfl rfl (pj_gf hM (pc := 1) (t := 19) dX11_leads_1 fl_X11_69 (by decide) rfl 10 rfl (pj_iload_n hM (pc := 4) dX11_leads_4 rfl (pj_cV hM (pc := 5) (cB_finderAt (w 10 0 10) x1 h1 w p2 h3) dX11_leads_5 mf_X0_finderAt mv_X0_finderAt ml_X11_216 kc_19 rfl rfl h1 rfl rfl k)))) ?_
  refine pj_tif (fun h4 => ?_) (fun h4 => ?_)
  · refine pj_tbind (fun p5 h6 => ?_)
    exact pj_tret (fun hr => pj_nonnull_f hM (pc := 8) 19 dX11_leads_8 rfl (by decide) h4 (pj_aload_n hM (pc := 11) dX11_leads_11 rfl rfl (pj_iconst hM (pc := 12) dX11_leads_12 (by decide) (pj_cV hM (pc := 13) (cX_refuse 1 w p5 h6) dX11_leads_13 mf_X11_refuse mv_X11_refuse ml_X11_100 kc_10 rfl rfl (by decide) rfl rfl (pj_goto hM (pc := 16) dX11_leads_16 rfl (pj_ret hM (pc := 31) dX11_leads_31 ⟨_, rfl⟩ (h0 ((p5.1, p5.2)) hr) rfl))))))
  refine pj_tbind (fun p7 h8 => ?_)
  refine pj_tbind (fun p9 h10 => ?_)
  exact pj_tret (fun hr => pj_nonnull_t hM (pc := 8) dX11_leads_8 rfl (by decide) h4 (pj_aload_n hM (pc := 19) dX11_leads_19 rfl rfl (pj_aload_n hM (pc := 20) dX11_leads_20 rfl rfl (pj_gf hM (pc := 21) (t := 19) dX11_leads_21 fl_X11_69 (by decide) rfl 10 rfl (pj_iload_n hM (pc := 24) dX11_leads_24 rfl (pj_cV hM (pc := 25) (cB_leadOf (w 10 0 10) x1 h1 w p7 h8) dX11_leads_25 mf_X0_leadOf mv_X0_leadOf ml_X11_297 kc_19 rfl rfl h1 rfl rfl (pj_cV hM (pc := 28) (cX_answer p7 w p9 h10) dX11_leads_28 mf_X11_answer mv_X11_answer ml_X11_96 kc_10 rfl rfl (by decide) rfl rfl (pj_ret hM (pc := 31) dX11_leads_31 ⟨_, rfl⟩ (h0 ((p9.1, p9.2)) hr) rfl))))))))
theorem cX_leads (x1 : Int)  (w : pj_W) (r : Int × pj_W) (h : fX_leads x1 w = some r) : pj_Cn l yX11_leads cX11_leads 2 (some .int) 4 91 true g [(10, 0), (0, x1)] w ((some (0, r.1) : Option pj_V), r.2) :=
  pj_Cn_of rfl (Nat.le_of_ble_eq_true rfl) (lls := [(10, 0), (0, x1)]) rfl (fun Go hM => tX_leads hM x1 w (fun x => ((some (0, x.1) : Option pj_V), x.2) = ((some (0, r.1) : Option pj_V), r.2)) (fun r h => h) r h rfl)
noncomputable def fX_left (x1 : Int) (w : pj_W) : Option (Int × pj_W) :=
  if 0 ≤ (w 10 0 10) then ((fB_findAt (w 10 0 10) x1 w).bind fun p2 => (if p2 < 0 then ((fX_refuse 1 w).bind fun p5 => (some ((p5.1, p5.2)))) else (if (w 23 p2 5) = 0 then ((fX_refuse 7 w).bind fun p8 => (some ((p8.1, p8.2)))) else (if (w 23 p2 6) = 0 then ((fX_refuse 6 w).bind fun p11 => (some ((p11.1, p11.2)))) else ((fN_latestMinute p2 w).bind fun p13 => ((fX_answer (pj_wr ((w 19 (w 10 0 10) 3) - p13)) w).bind fun p15 => (some ((p15.1, p15.2))))))))) else none
theorem tX_left {Go : pj_C → Prop} (hM : pj_M l yX11_left cX11_left 3 (some .int) 1 21 true g n0 o Go) (x1 : Int) (w : pj_W)  (R : Int × pj_W → Prop) (h0 : ∀ r, R (r) → ((some (0, r.1) : Option pj_V), r.2) = o) : pj_TG R (fX_left x1 w) (Go (0, [(10, 0), (0, x1), (9, 0)], [], w)) := by
  unfold fX_left
  refine pj_tgd (fun h1 => ?_)
  refine pj_tbind (fun p2 h3 => ?_)
  refine pj_map (fun k => pj_aload_n hM (pc := 0) dX11_left_0 rfl rfl (pj_gf hM (pc := 1) (t := 19) dX11_left_1 fl_X11_69 (by decide) rfl 10 rfl (pj_iload_n hM (pc := 4) dX11_left_4 rfl (pj_cV hM (pc := 5) (cB_findAt (w 10 0 10) x1 h1 w p2 h3) dX11_left_5 mf_X0_findAt mv_X0_findAt ml_X11_237 kc_19 rfl rfl h1 rfl rfl (pj_astore_n hM (pc := 8) dX11_left_8 (by decide) (by decide) (lls' := [(10, 0), (0, x1), (23, p2)]) rfl (pj_aload_n hM (pc := 9) dX11_left_9 rfl rfl k)))))) ?_
  refine pj_tif (fun h4 => ?_) (fun h4 => ?_)
  · refine pj_tbind (fun p5 h6 => ?_)
    exact pj_tret (fun hr => pj_nonnull_f hM (pc := 10) 19 dX11_left_10 rfl (by decide) h4 (pj_aload_n hM (pc := 13) dX11_left_13 rfl rfl (pj_iconst hM (pc := 14) dX11_left_14 (by decide) (pj_cV hM (pc := 15) (cX_refuse 1 w p5 h6) dX11_left_15 mf_X11_refuse mv_X11_refuse ml_X11_100 kc_10 rfl rfl (by decide) rfl rfl (pj_ret hM (pc := 18) dX11_left_18 ⟨_, rfl⟩ (h0 ((p5.1, p5.2)) hr) rfl)))))
  refine pj_map (fun k => pj_nonnull_t hM (pc := 10) dX11_left_10 rfl (by decide) h4 (pj_aload_n hM (pc := 19) dX11_left_19 rfl rfl (pj_gf hM (pc := 20) (t := 0) dX11_left_20 fl_X11_287 (Int.not_lt.mp h4) rfl 5 rfl k))) ?_
  refine pj_tif (fun h7 => ?_) (fun h7 => ?_)
  · refine pj_tbind (fun p8 h9 => ?_)
    exact pj_tret (fun hr => pj_if_ne_f hM (pc := 23) 33 dX11_left_23 rfl (fun q => q h7) (pj_aload_n hM (pc := 26) dX11_left_26 rfl rfl (pj_bipush hM (pc := 27) dX11_left_27 (by decide) (pj_cV hM (pc := 29) (cX_refuse 7 w p8 h9) dX11_left_29 mf_X11_refuse mv_X11_refuse ml_X11_100 kc_10 rfl rfl (by decide) rfl rfl (pj_ret hM (pc := 32) dX11_left_32 ⟨_, rfl⟩ (h0 ((p8.1, p8.2)) hr) rfl)))))
  refine pj_map (fun k => pj_if_ne_t hM (pc := 23) dX11_left_23 rfl h7 (pj_aload_n hM (pc := 33) dX11_left_33 rfl rfl (pj_gf hM (pc := 34) (t := 0) dX11_left_34 fl_X11_247 (Int.not_lt.mp h4) rfl 6 rfl k))) ?_
  refine pj_tif (fun h10 => ?_) (fun h10 => ?_)
  · refine pj_tbind (fun p11 h12 => ?_)
    exact pj_tret (fun hr => pj_if_ne_f hM (pc := 37) 49 dX11_left_37 rfl (fun q => q h10) (pj_aload_n hM (pc := 40) dX11_left_40 rfl rfl (pj_bipush hM (pc := 41) dX11_left_41 (by decide) (pj_cV hM (pc := 43) (cX_refuse 6 w p11 h12) dX11_left_43 mf_X11_refuse mv_X11_refuse ml_X11_100 kc_10 rfl rfl (by decide) rfl rfl (pj_goto hM (pc := 46) dX11_left_46 rfl (pj_ret hM (pc := 65) dX11_left_65 ⟨_, rfl⟩ (h0 ((p11.1, p11.2)) hr) rfl))))))
  refine pj_tbind (fun p13 h14 => ?_)
  refine pj_tbind (fun p15 h16 => ?_)
  exact pj_tret (fun hr => pj_if_ne_t hM (pc := 37) dX11_left_37 rfl h10 (pj_aload_n hM (pc := 49) dX11_left_49 rfl rfl (pj_aload_n hM (pc := 50) dX11_left_50 rfl rfl (pj_gf hM (pc := 51) (t := 19) dX11_left_51 fl_X11_69 (by decide) rfl 10 rfl (pj_gf hM (pc := 54) (t := 0) dX11_left_54 fl_X11_197 h1 rfl 3 rfl (pj_aload_n hM (pc := 57) dX11_left_57 rfl rfl (pj_cV hM (pc := 58) (cN_latestMinute p2 (Int.not_lt.mp h4) w p13 h14) dX11_left_58 mf_X4_latestMinute mv_X4_latestMinute ml_X11_345 kc_23 rfl rfl (Int.not_lt.mp h4) rfl rfl (pj_isub hM (pc := 61) dX11_left_61 (pj_cV hM (pc := 62) (cX_answer (pj_wr ((w 19 (w 10 0 10) 3) - p13)) w p15 h16) dX11_left_62 mf_X11_answer mv_X11_answer ml_X11_96 kc_10 rfl rfl (by decide) rfl rfl (pj_ret hM (pc := 65) dX11_left_65 ⟨_, rfl⟩ (h0 ((p15.1, p15.2)) hr) rfl))))))))))
theorem cX_left (x1 : Int)  (w : pj_W) (r : Int × pj_W) (h : fX_left x1 w = some r) : pj_Cn l yX11_left cX11_left 3 (some .int) 1 21 true g [(10, 0), (0, x1)] w ((some (0, r.1) : Option pj_V), r.2) :=
  pj_Cn_of rfl (Nat.le_of_ble_eq_true rfl) (lls := [(10, 0), (0, x1), (9, 0)]) rfl (fun Go hM => tX_left hM x1 w (fun x => ((some (0, x.1) : Option pj_V), x.2) = ((some (0, r.1) : Option pj_V), r.2)) (fun r h => h) r h rfl)
noncomputable def fX_lies_67 (x1 : Int) (x2 : Int) (x3 : Int) (x4 : Int) (w : pj_W) : Option ((Int × Int) ⊕ (Int × pj_W)) :=
  some (Sum.inl (x3, (pj_wr (x4 + 1))))
noncomputable def fX_lies_22b (x1 : Int) (x2 : Int) (w : pj_W) (x3 : Int) (x4 : Int) : Option ((Int × Int) ⊕ (Int × pj_W)) :=
  if 0 ≤ (w 10 0 10) then (if (w 19 (w 10 0 10) 8) ≤ x4 then ((fX_refuse 6 w).bind fun p3 => (some (Sum.inr ((p3.1, p3.2))))) else (if 0 ≤ x4 ∧ x4 < 8 then ((fN_tallyOf (8 * (w 10 0 10) + x4) x1 w).bind fun p6 => (if x2 < 0 then (fX_lies_67 x1 x2 (pj_wr (x3 + p6)) x4 w) else (if (pj_wr (x3 + p6)) ≤ x2 then (fX_lies_67 x1 x2 (pj_wr (x3 + p6)) x4 w) else ((fX_answer x4 w).bind fun p10 => (some (Sum.inr ((p10.1, p10.2)))))))) else none)) else none
noncomputable def fX_lies_22 (x1 : Int) (x2 : Int) (w : pj_W) (s : (Int × Int)) : Option (Int × pj_W) := pj_Lp (fun s : (Int × Int) => fX_lies_22b x1 x2 w s.1 s.2) s
noncomputable def fX_lies (x1 : Int) (x2 : Int) (w : pj_W) : Option (Int × pj_W) :=
  if 0 ≤ (w 10 0 10) then ((fB_finderAt (w 10 0 10) x1 w).bind fun p2 => (if p2 < 0 then ((fX_refuse 1 w).bind fun p5 => (some ((p5.1, p5.2)))) else (fX_lies_22 x1 x2 w (0, 0)))) else none
theorem tX_lies_67 {Go : pj_C → Prop} (hM : pj_M l yX11_lies cX11_lies 5 (some .int) 1 23 true g n0 o Go) (x1 : Int) (x2 : Int) (x3 : Int) (x4 : Int) (w : pj_W)  (R : (Int × Int) ⊕ (Int × pj_W) → Prop) (h0 : ∀ r, R (Sum.inr (r)) → ((some (0, r.1) : Option pj_V), r.2) = o) (hk22 : ∀ s, R (Sum.inl s) → Go (22, [(10, 0), (0, x1), (0, x2), (0, s.1), (0, s.2)], [], w)) : pj_TG R (fX_lies_67 x1 x2 x3 x4 w) (Go (67, [(10, 0), (0, x1), (0, x2), (0, x3), (0, x4)], [], w)) := by
  unfold fX_lies_67
  exact pj_tret (fun hr => pj_iinc hM (pc := 67) dX11_lies_67 rfl (by decide) (lls' := [(10, 0), (0, x1), (0, x2), (0, x3), (0, (pj_wr (x4 + 1)))]) rfl (pj_goto hM (pc := 70) dX11_lies_70 rfl (pj_kill hM [true, true, true, true, true] (lls' := [(10, 0), (0, x1), (0, x2), (0, x3), (0, (pj_wr (x4 + 1)))]) rfl ((hk22 _ hr)))))
theorem tX_lies_22b {Go : pj_C → Prop} (hM : pj_M l yX11_lies cX11_lies 5 (some .int) 1 23 true g n0 o Go) (x1 : Int) (x2 : Int) (w : pj_W) (x3 : Int) (x4 : Int)  (R : (Int × Int) ⊕ (Int × pj_W) → Prop) (h0 : ∀ r, R (Sum.inr (r)) → ((some (0, r.1) : Option pj_V), r.2) = o) (hk22 : ∀ s, R (Sum.inl s) → Go (22, [(10, 0), (0, x1), (0, x2), (0, s.1), (0, s.2)], [], w)) : pj_TG R (fX_lies_22b x1 x2 w x3 x4) (Go (22, [(10, 0), (0, x1), (0, x2), (0, x3), (0, x4)], [], w)) := by
  unfold fX_lies_22b
  refine pj_tgd (fun h1 => ?_)
  refine pj_map (fun k => pj_iload hM (pc := 22) dX11_lies_22 rfl (pj_aload_n hM (pc := 24) dX11_lies_24 rfl rfl (pj_gf hM (pc := 25) (t := 19) dX11_lies_25 fl_X11_69 (by decide) rfl 10 rfl (pj_gf hM (pc := 28) (t := 0) dX11_lies_28 fl_X11_175 h1 rfl 8 rfl k)))) ?_
  refine pj_tif (fun h2 => ?_) (fun h2 => ?_)
  · refine pj_tbind (fun p3 h4 => ?_)
    exact pj_tret (fun hr => pj_ic_ge_t hM (pc := 31) dX11_lies_31 rfl h2 (pj_aload_n hM (pc := 73) dX11_lies_73 rfl rfl (pj_bipush hM (pc := 74) dX11_lies_74 (by decide) (pj_cV hM (pc := 76) (cX_refuse 6 w p3 h4) dX11_lies_76 mf_X11_refuse mv_X11_refuse ml_X11_100 kc_10 rfl rfl (by decide) rfl rfl (pj_ret hM (pc := 79) dX11_lies_79 ⟨_, rfl⟩ (h0 ((p3.1, p3.2)) hr) rfl)))))
  refine pj_tgd (fun h5 => ?_)
  refine pj_tbind (fun p6 h7 => ?_)
  refine pj_map (fun k => pj_ic_ge_f hM (pc := 31) 73 dX11_lies_31 rfl h2 (pj_iload_n hM (pc := 34) dX11_lies_34 rfl (pj_aload_n hM (pc := 35) dX11_lies_35 rfl rfl (pj_gf hM (pc := 36) (t := 19) dX11_lies_36 fl_X11_69 (by decide) rfl 10 rfl (pj_getF hM (pc := 39) (t := 21) dX11_lies_39 fl_X11_303 h1 rfl rfl (pj_iload hM (pc := 42) dX11_lies_42 rfl (pj_aald hM (pc := 44) (fun s : Int => 8 * (w 10 0 10) + s) dX11_lies_44 (by decide) rfl (fun _ => rfl) ⟨_, rfl⟩ (by decide) h1 h5 (fun _ => rfl) (by show (0 : Int) ≤ (8 * (w 10 0 10) + x4); omega) (pj_iload_n hM (pc := 45) dX11_lies_45 rfl (pj_cV hM (pc := 46) (cN_tallyOf (8 * (w 10 0 10) + x4) x1 (by show (0 : Int) ≤ (8 * (w 10 0 10) + x4); omega) w p6 h7) dX11_lies_46 mf_X4_tallyOf mv_X4_tallyOf ml_X11_377 kc_23 rfl rfl (by show (0 : Int) ≤ (8 * (w 10 0 10) + x4); omega) rfl rfl (pj_iadd hM (pc := 49) dX11_lies_49 (pj_istore_n hM (pc := 50) dX11_lies_50 (by decide) (lls' := [(10, 0), (0, x1), (0, x2), (0, (pj_wr (x3 + p6))), (0, x4)]) rfl (pj_iload_n hM (pc := 51) dX11_lies_51 rfl k)))))))))))) ?_
  refine pj_tif (fun h8 => ?_) (fun h8 => ?_)
  · refine pj_map (fun k => pj_if_lt_t hM (pc := 52) dX11_lies_52 rfl h8 (pj_kill hM [true, true, true, true, true] (lls' := [(10, 0), (0, x1), (0, x2), (0, (pj_wr (x3 + p6))), (0, x4)]) rfl k)) ?_
    exact tX_lies_67 hM x1 x2 (pj_wr (x3 + p6)) x4 w _ h0 hk22
  refine pj_map (fun k => pj_if_lt_f hM (pc := 52) 67 dX11_lies_52 rfl h8 (pj_iload_n hM (pc := 55) dX11_lies_55 rfl (pj_iload_n hM (pc := 56) dX11_lies_56 rfl k))) ?_
  refine pj_tif (fun h9 => ?_) (fun h9 => ?_)
  · refine pj_map (fun k => pj_ic_ge_t hM (pc := 57) dX11_lies_57 rfl h9 (pj_kill hM [true, true, true, true, true] (lls' := [(10, 0), (0, x1), (0, x2), (0, (pj_wr (x3 + p6))), (0, x4)]) rfl k)) ?_
    exact tX_lies_67 hM x1 x2 (pj_wr (x3 + p6)) x4 w _ h0 hk22
  refine pj_tbind (fun p10 h11 => ?_)
  exact pj_tret (fun hr => pj_ic_ge_f hM (pc := 57) 67 dX11_lies_57 rfl h9 (pj_aload_n hM (pc := 60) dX11_lies_60 rfl rfl (pj_iload hM (pc := 61) dX11_lies_61 rfl (pj_cV hM (pc := 63) (cX_answer x4 w p10 h11) dX11_lies_63 mf_X11_answer mv_X11_answer ml_X11_96 kc_10 rfl rfl (by decide) rfl rfl (pj_ret hM (pc := 66) dX11_lies_66 ⟨_, rfl⟩ (h0 ((p10.1, p10.2)) hr) rfl)))))
theorem tX_lies_22 {Go : pj_C → Prop} (hM : pj_M l yX11_lies cX11_lies 5 (some .int) 1 23 true g n0 o Go) (x1 : Int) (x2 : Int) (w : pj_W)  (R : Int × pj_W → Prop) (h0 : ∀ r, R (r) → ((some (0, r.1) : Option pj_V), r.2) = o) (s : (Int × Int)) : pj_TG R (fX_lies_22 x1 x2 w s) (Go (22, [(10, 0), (0, x1), (0, x2), (0, s.1), (0, s.2)], [], w)) := by
  unfold fX_lies_22
  exact pj_tLp (G := fun s : (Int × Int) => Go (22, [(10, 0), (0, x1), (0, x2), (0, s.1), (0, s.2)], [], w)) (fun s => tX_lies_22b hM x1 x2 w s.1 s.2  _ (fun r h => h0 r h)  (fun s h => h)) s
theorem tX_lies {Go : pj_C → Prop} (hM : pj_M l yX11_lies cX11_lies 5 (some .int) 1 23 true g n0 o Go) (x1 : Int) (x2 : Int) (w : pj_W)  (R : Int × pj_W → Prop) (h0 : ∀ r, R (r) → ((some (0, r.1) : Option pj_V), r.2) = o) : pj_TG R (fX_lies x1 x2 w) (Go (0, [(10, 0), (0, x1), (0, x2), (9, 0), (9, 0)], [], w)) := by
  unfold fX_lies
  refine pj_tgd (fun h1 => ?_)
  refine pj_tbind (fun p2 h3 => ?_)
  refine pj_map (fun k => pj_aload_n hM (pc := 0) dX11_lies_0 rfl rfl (pj_gf hM (pc := 1) (t := 19) dX11_lies_1 fl_X11_69 (by decide) rfl 10 rfl (pj_iload_n hM (pc := 4) dX11_lies_4 rfl (pj_cV hM (pc := 5) (cB_finderAt (w 10 0 10) x1 h1 w p2 h3) dX11_lies_5 mf_X0_finderAt mv_X0_finderAt ml_X11_216 kc_19 rfl rfl h1 rfl rfl k)))) ?_
  refine pj_tif (fun h4 => ?_) (fun h4 => ?_)
  · refine pj_tbind (fun p5 h6 => ?_)
    exact pj_tret (fun hr => pj_nonnull_f hM (pc := 8) 17 dX11_lies_8 rfl (by decide) h4 (pj_aload_n hM (pc := 11) dX11_lies_11 rfl rfl (pj_iconst hM (pc := 12) dX11_lies_12 (by decide) (pj_cV hM (pc := 13) (cX_refuse 1 w p5 h6) dX11_lies_13 mf_X11_refuse mv_X11_refuse ml_X11_100 kc_10 rfl rfl (by decide) rfl rfl (pj_ret hM (pc := 16) dX11_lies_16 ⟨_, rfl⟩ (h0 ((p5.1, p5.2)) hr) rfl)))))
  refine pj_map (fun k => pj_nonnull_t hM (pc := 8) dX11_lies_8 rfl (by decide) h4 (pj_iconst hM (pc := 17) dX11_lies_17 (by decide) (pj_istore_n hM (pc := 18) dX11_lies_18 (by decide) (lls' := [(10, 0), (0, x1), (0, x2), (0, 0), (9, 0)]) rfl (pj_iconst hM (pc := 19) dX11_lies_19 (by decide) (pj_istore hM (pc := 20) dX11_lies_20 (by decide) (lls' := [(10, 0), (0, x1), (0, x2), (0, 0), (0, 0)]) rfl (pj_kill hM [true, true, true, true, true] (lls' := [(10, 0), (0, x1), (0, x2), (0, 0), (0, 0)]) rfl k)))))) ?_
  exact tX_lies_22 hM x1 x2 w _ h0 _
theorem cX_lies (x1 : Int) (x2 : Int)  (w : pj_W) (r : Int × pj_W) (h : fX_lies x1 x2 w = some r) : pj_Cn l yX11_lies cX11_lies 5 (some .int) 1 23 true g [(10, 0), (0, x1), (0, x2)] w ((some (0, r.1) : Option pj_V), r.2) :=
  pj_Cn_of rfl (Nat.le_of_ble_eq_true rfl) (lls := [(10, 0), (0, x1), (0, x2), (9, 0), (9, 0)]) rfl (fun Go hM => tX_lies hM x1 x2 w (fun x => ((some (0, x.1) : Option pj_V), x.2) = ((some (0, r.1) : Option pj_V), r.2)) (fun r h => h) r h rfl)
noncomputable def fN_newestOf_7b (i0 : Int) (x1 : Int) (w : pj_W) (x2 : Int) : Option ((Int) ⊕ (Int)) :=
  if x2 < 0 then (some (Sum.inr ((-1)))) else (if 0 ≤ x2 ∧ x2 < 60 then (if (w 45 i0 x2) = x1 then (some (Sum.inr (x2))) else (some (Sum.inl ((pj_wr (x2 + (-1))))))) else none)
noncomputable def fN_newestOf_7 (i0 : Int) (x1 : Int) (w : pj_W) (s : (Int)) : Option (Int) := pj_Lp (fun s : (Int) => fN_newestOf_7b i0 x1 w s) s
noncomputable def fN_newestOf (i0 : Int) (x1 : Int) (w : pj_W) : Option (Int) :=
  fN_newestOf_7 i0 x1 w ((pj_wr ((w 23 i0 6) - 1)))
theorem tN_newestOf_7b {Go : pj_C → Prop} (hM : pj_M l yX4_newestOf cX4_newestOf 3 (some .int) 0 0 true g n0 o Go) (i0 : Int) (x1 : Int) (w : pj_W) (x2 : Int) (hn0 : 0 ≤ i0) (R : (Int) ⊕ (Int) → Prop) (h0 : ∀ r, R (Sum.inr (r)) → ((some (0, r) : Option pj_V), w) = o) (hk7 : ∀ s, R (Sum.inl s) → Go (7, [(23, i0), (0, x1), (0, s)], [], w)) : pj_TG R (fN_newestOf_7b i0 x1 w x2) (Go (7, [(23, i0), (0, x1), (0, x2)], [], w)) := by
  unfold fN_newestOf_7b
  refine pj_map (fun k => pj_iload_n hM (pc := 7) dX4_newestOf_7 rfl k) ?_
  refine pj_tif (fun h1 => ?_) (fun h1 => ?_)
  · exact pj_tret (fun hr => pj_if_lt_t hM (pc := 8) dX4_newestOf_8 rfl h1 (pj_iconst hM (pc := 29) dX4_newestOf_29 (by decide) (pj_ret hM (pc := 30) dX4_newestOf_30 ⟨_, rfl⟩ (h0 ((-1)) hr) rfl)))
  refine pj_tgd (fun h2 => ?_)
  refine pj_map (fun k => pj_if_lt_f hM (pc := 8) 29 dX4_newestOf_8 rfl h1 (pj_aload_n hM (pc := 11) dX4_newestOf_11 rfl rfl (pj_getF hM (pc := 12) (t := 45) dX4_newestOf_12 fl_X4_11 hn0 rfl rfl (pj_iload_n hM (pc := 15) dX4_newestOf_15 rfl (pj_ial hM (pc := 16) dX4_newestOf_16 ki_45 hn0 h2 (pj_iload_n hM (pc := 17) dX4_newestOf_17 rfl k)))))) ?_
  refine pj_tif (fun h3 => ?_) (fun h3 => ?_)
  · exact pj_tret (fun hr => pj_ic_ne_f hM (pc := 18) 23 dX4_newestOf_18 rfl (fun q => q h3) (pj_iload_n hM (pc := 21) dX4_newestOf_21 rfl (pj_ret hM (pc := 22) dX4_newestOf_22 ⟨_, rfl⟩ (h0 (x2) hr) rfl)))
  exact pj_tret (fun hr => pj_ic_ne_t hM (pc := 18) dX4_newestOf_18 rfl h3 (pj_iinc hM (pc := 23) dX4_newestOf_23 rfl (by decide) (lls' := [(23, i0), (0, x1), (0, (pj_wr (x2 + (-1))))]) rfl (pj_goto hM (pc := 26) dX4_newestOf_26 rfl (pj_kill hM [true, true, true] (lls' := [(23, i0), (0, x1), (0, (pj_wr (x2 + (-1))))]) rfl ((hk7 _ hr))))))
theorem tN_newestOf_7 {Go : pj_C → Prop} (hM : pj_M l yX4_newestOf cX4_newestOf 3 (some .int) 0 0 true g n0 o Go) (i0 : Int) (x1 : Int) (w : pj_W) (hn0 : 0 ≤ i0) (R : Int → Prop) (h0 : ∀ r, R (r) → ((some (0, r) : Option pj_V), w) = o) (s : (Int)) : pj_TG R (fN_newestOf_7 i0 x1 w s) (Go (7, [(23, i0), (0, x1), (0, s)], [], w)) := by
  unfold fN_newestOf_7
  exact pj_tLp (G := fun s : (Int) => Go (7, [(23, i0), (0, x1), (0, s)], [], w)) (fun s => tN_newestOf_7b hM i0 x1 w s hn0 _ (fun r h => h0 r h)  (fun s h => h)) s
theorem tN_newestOf {Go : pj_C → Prop} (hM : pj_M l yX4_newestOf cX4_newestOf 3 (some .int) 0 0 true g n0 o Go) (i0 : Int) (x1 : Int) (w : pj_W) (hn0 : 0 ≤ i0) (R : Int → Prop) (h0 : ∀ r, R (r) → ((some (0, r) : Option pj_V), w) = o) : pj_TG R (fN_newestOf i0 x1 w) (Go (0, [(23, i0), (0, x1), (9, 0)], [], w)) := by
  unfold fN_newestOf
  refine pj_map (fun k => pj_aload_n hM (pc := 0) dX4_newestOf_0 rfl rfl (pj_gf hM (pc := 1) (t := 0) dX4_newestOf_1 fl_X4_35 hn0 rfl 6 rfl (pj_iconst hM (pc := 4) dX4_newestOf_4 (by decide) (pj_isub hM (pc := 5) dX4_newestOf_5 (pj_istore_n hM (pc := 6) dX4_newestOf_6 (by decide) (lls' := [(23, i0), (0, x1), (0, (pj_wr ((w 23 i0 6) - 1)))]) rfl (pj_kill hM [true, true, true] (lls' := [(23, i0), (0, x1), (0, (pj_wr ((w 23 i0 6) - 1)))]) rfl k)))))) ?_
  exact tN_newestOf_7 hM i0 x1 w hn0 _ h0 _
theorem cN_newestOf (i0 : Int) (x1 : Int) (hn0 : 0 ≤ i0) (w : pj_W) (r : Int) (h : fN_newestOf i0 x1 w = some r) : pj_Cn l yX4_newestOf cX4_newestOf 3 (some .int) 0 0 true g [(23, i0), (0, x1)] w ((some (0, r) : Option pj_V), w) :=
  pj_Cn_of rfl (Nat.le_of_ble_eq_true rfl) (lls := [(23, i0), (0, x1), (9, 0)]) rfl (fun Go hM => tN_newestOf hM i0 x1 w hn0 (fun x => ((some (0, x) : Option pj_V), w) = ((some (0, r) : Option pj_V), w)) (fun r h => h) r h rfl)
noncomputable def fB_takeUp (i0 : Int) (x1 : Int) (x2 : Int) (w : pj_W) : Option (Int × pj_W) :=
  (fB_finderAt i0 x1 w).bind fun p1 => ((fB_findAt i0 x2 w).bind fun p3 => (if p1 < 0 then (some ((1, w))) else (if p3 < 0 then (some ((1, w))) else ((fN_newestOf p3 x1 w).bind fun p7 => ((fN_has p3 p7 w).bind fun p9 => (if p9 = 0 then (some ((6, w))) else (if (w 22 p1 1) = (w 23 p3 3) then (if 0 ≤ p7 ∧ p7 < 60 then ((fN_removeAt p3 p7 w).bind fun p14 => ((fB_done i0 (w 46 p3 p7) (pj_set p14 22 p1 3 (pj_wr ((p14 22 p1 3) + 1)))).bind fun p16 => (some ((p16.1, p16.2))))) else none) else (some ((7, w))))))))))
theorem tB_takeUp {Go : pj_C → Prop} (hM : pj_M l yX0_takeUp cX0_takeUp 7 (some .int) 2 43 true g n0 o Go) (i0 : Int) (x1 : Int) (x2 : Int) (w : pj_W) (hn0 : 0 ≤ i0) (R : Int × pj_W → Prop) (h0 : ∀ r, R (r) → ((some (0, r.1) : Option pj_V), r.2) = o) : pj_TG R (fB_takeUp i0 x1 x2 w) (Go (0, [(19, i0), (0, x1), (0, x2), (9, 0), (9, 0), (9, 0), (9, 0)], [], w)) := by
  unfold fB_takeUp
  refine pj_tbind (fun p1 h2 => ?_)
  refine pj_tbind (fun p3 h4 => ?_)
  refine pj_map (fun k => pj_aload_n hM (pc := 0) dX0_takeUp_0 rfl rfl (pj_iload_n hM (pc := 1) dX0_takeUp_1 rfl (pj_cV hM (pc := 2) (cB_finderAt i0 x1 hn0 w p1 h2) dX0_takeUp_2 mf_X0_finderAt mv_X0_finderAt ml_X0_95 kc_19 rfl rfl hn0 rfl rfl (pj_astore_n hM (pc := 5) dX0_takeUp_5 (by decide) (by decide) (lls' := [(19, i0), (0, x1), (0, x2), (22, p1), (9, 0), (9, 0), (9, 0)]) rfl (pj_aload_n hM (pc := 6) dX0_takeUp_6 rfl rfl (pj_iload_n hM (pc := 7) dX0_takeUp_7 rfl (pj_cV hM (pc := 8) (cB_findAt i0 x2 hn0 w p3 h4) dX0_takeUp_8 mf_X0_findAt mv_X0_findAt ml_X0_106 kc_19 rfl rfl hn0 rfl rfl (pj_astore hM (pc := 11) dX0_takeUp_11 (by decide) (by decide) (lls' := [(19, i0), (0, x1), (0, x2), (22, p1), (23, p3), (9, 0), (9, 0)]) rfl (pj_aload_n hM (pc := 13) dX0_takeUp_13 rfl rfl k))))))))) ?_
  refine pj_tif (fun h5 => ?_) (fun h5 => ?_)
  · exact pj_tret (fun hr => pj_null_t hM (pc := 14) dX0_takeUp_14 rfl (by decide) h5 (pj_iconst hM (pc := 22) dX0_takeUp_22 (by decide) (pj_ret hM (pc := 23) dX0_takeUp_23 ⟨_, rfl⟩ (h0 ((1, w)) hr) rfl)))
  refine pj_map (fun k => pj_null_f hM (pc := 14) 22 dX0_takeUp_14 rfl (by decide) h5 (pj_aload hM (pc := 17) dX0_takeUp_17 rfl rfl k)) ?_
  refine pj_tif (fun h6 => ?_) (fun h6 => ?_)
  · exact pj_tret (fun hr => pj_nonnull_f hM (pc := 19) 24 dX0_takeUp_19 rfl (by decide) h6 (pj_iconst hM (pc := 22) dX0_takeUp_22 (by decide) (pj_ret hM (pc := 23) dX0_takeUp_23 ⟨_, rfl⟩ (h0 ((1, w)) hr) rfl)))
  refine pj_tbind (fun p7 h8 => ?_)
  refine pj_tbind (fun p9 h10 => ?_)
  refine pj_map (fun k => pj_nonnull_t hM (pc := 19) dX0_takeUp_19 rfl (by decide) h6 (pj_aload hM (pc := 24) dX0_takeUp_24 rfl rfl (pj_iload_n hM (pc := 26) dX0_takeUp_26 rfl (pj_cV hM (pc := 27) (cN_newestOf p3 x1 (Int.not_lt.mp h6) w p7 h8) dX0_takeUp_27 mf_X4_newestOf mv_X4_newestOf ml_X0_118 kc_23 rfl rfl (Int.not_lt.mp h6) rfl rfl (pj_istore hM (pc := 30) dX0_takeUp_30 (by decide) (lls' := [(19, i0), (0, x1), (0, x2), (22, p1), (23, p3), (0, p7), (9, 0)]) rfl (pj_aload hM (pc := 32) dX0_takeUp_32 rfl rfl (pj_iload hM (pc := 34) dX0_takeUp_34 rfl (pj_cV hM (pc := 36) (cN_has p3 p7 (Int.not_lt.mp h6) w p9 h10) dX0_takeUp_36 mf_X4_has mv_X4_has ml_X0_121 kc_23 rfl rfl (Int.not_lt.mp h6) rfl rfl k)))))))) ?_
  refine pj_tif (fun h11 => ?_) (fun h11 => ?_)
  · exact pj_tret (fun hr => pj_if_ne_f hM (pc := 39) 45 dX0_takeUp_39 rfl (fun q => q h11) (pj_bipush hM (pc := 42) dX0_takeUp_42 (by decide) (pj_ret hM (pc := 44) dX0_takeUp_44 ⟨_, rfl⟩ (h0 ((6, w)) hr) rfl)))
  refine pj_map (fun k => pj_if_ne_t hM (pc := 39) dX0_takeUp_39 rfl h11 (pj_aload_n hM (pc := 45) dX0_takeUp_45 rfl rfl (pj_gf hM (pc := 46) (t := 0) dX0_takeUp_46 fl_X0_64 (Int.not_lt.mp h5) rfl 1 rfl (pj_aload hM (pc := 49) dX0_takeUp_49 rfl rfl (pj_gf hM (pc := 51) (t := 0) dX0_takeUp_51 fl_X0_80 (Int.not_lt.mp h6) rfl 3 rfl k))))) ?_
  refine pj_tif (fun h12 => ?_) (fun h12 => ?_)
  · refine pj_tgd (fun h13 => ?_)
    refine pj_tbind (fun p14 h15 => ?_)
    refine pj_tbind (fun p16 h17 => ?_)
    exact pj_tret (fun hr => pj_ic_eq_t hM (pc := 54) dX0_takeUp_54 rfl h12 (pj_aload hM (pc := 60) dX0_takeUp_60 rfl rfl (pj_getF hM (pc := 62) (t := 46) dX0_takeUp_62 fl_X0_125 (Int.not_lt.mp h6) rfl rfl (pj_iload hM (pc := 65) dX0_takeUp_65 rfl (pj_ial hM (pc := 67) dX0_takeUp_67 ki_46 (Int.not_lt.mp h6) h13 (pj_istore hM (pc := 68) dX0_takeUp_68 (by decide) (lls' := [(19, i0), (0, x1), (0, x2), (22, p1), (23, p3), (0, p7), (0, (w 46 p3 p7))]) rfl (pj_aload hM (pc := 70) dX0_takeUp_70 rfl rfl (pj_iload hM (pc := 72) dX0_takeUp_72 rfl (pj_cVv hM (pc := 74) (cN_removeAt p3 p7 (Int.not_lt.mp h6) w p14 h15) dX0_takeUp_74 mf_X4_removeAt mv_X4_removeAt ml_X0_129 kc_23 rfl rfl (Int.not_lt.mp h6) rfl rfl (pj_aload_n hM (pc := 77) dX0_takeUp_77 rfl rfl (pj_dup hM (pc := 78) dX0_takeUp_78 (by decide) (pj_gf hM (pc := 79) (t := 0) dX0_takeUp_79 fl_X0_70 (Int.not_lt.mp h5) rfl 3 rfl (pj_iconst hM (pc := 82) dX0_takeUp_82 (by decide) (pj_iadd hM (pc := 83) dX0_takeUp_83 (pj_pf hM (pc := 84) dX0_takeUp_84 fl_X0_70 (Int.not_lt.mp h5) rfl (fun h => absurd h (by decide)) (by decide) (fun _ => rfl) 3 rfl (pj_aload_n hM (pc := 87) dX0_takeUp_87 rfl rfl (pj_iload hM (pc := 88) dX0_takeUp_88 rfl (pj_cV hM (pc := 90) (cB_done i0 (w 46 p3 p7) hn0 (pj_set p14 22 p1 3 (pj_wr ((p14 22 p1 3) + 1))) p16 h17) dX0_takeUp_90 mf_X0_done mv_X0_done ml_X0_91 kc_19 rfl rfl hn0 rfl rfl (pj_ret hM (pc := 93) dX0_takeUp_93 ⟨_, rfl⟩ (h0 ((p16.1, p16.2)) hr) rfl)))))))))))))))))))
  exact pj_tret (fun hr => pj_ic_eq_f hM (pc := 54) 60 dX0_takeUp_54 rfl h12 (pj_bipush hM (pc := 57) dX0_takeUp_57 (by decide) (pj_ret hM (pc := 59) dX0_takeUp_59 ⟨_, rfl⟩ (h0 ((7, w)) hr) rfl)))
theorem cB_takeUp (i0 : Int) (x1 : Int) (x2 : Int) (hn0 : 0 ≤ i0) (w : pj_W) (r : Int × pj_W) (h : fB_takeUp i0 x1 x2 w = some r) : pj_Cn l yX0_takeUp cX0_takeUp 7 (some .int) 2 43 true g [(19, i0), (0, x1), (0, x2)] w ((some (0, r.1) : Option pj_V), r.2) :=
  pj_Cn_of rfl (Nat.le_of_ble_eq_true rfl) (lls := [(19, i0), (0, x1), (0, x2), (9, 0), (9, 0), (9, 0), (9, 0)]) rfl (fun Go hM => tB_takeUp hM i0 x1 x2 w hn0 (fun x => ((some (0, x.1) : Option pj_V), x.2) = ((some (0, r.1) : Option pj_V), r.2)) (fun r h => h) r h rfl)
noncomputable def fX_lift (x1 : Int) (x2 : Int) (w : pj_W) : Option (Int × pj_W) :=
  if 0 ≤ (w 10 0 10) then ((fB_takeUp (w 10 0 10) x1 x2 w).bind fun p2 => ((fX_settle p2.1 p2.2).bind fun p4 => (some ((p4.1, p4.2))))) else none
theorem tX_lift {Go : pj_C → Prop} (hM : pj_M l yX11_lift cX11_lift 3 (some .int) 3 69 true g n0 o Go) (x1 : Int) (x2 : Int) (w : pj_W)  (R : Int × pj_W → Prop) (h0 : ∀ r, R (r) → ((some (0, r.1) : Option pj_V), r.2) = o) : pj_TG R (fX_lift x1 x2 w) (Go (0, [(10, 0), (0, x1), (0, x2)], [], w)) := by
  unfold fX_lift
  refine pj_tgd (fun h1 => ?_)
  refine pj_tbind (fun p2 h3 => ?_)
  refine pj_tbind (fun p4 h5 => ?_)
  exact pj_tret (fun hr => pj_aload_n hM (pc := 0) dX11_lift_0 rfl rfl (pj_aload_n hM (pc := 1) dX11_lift_1 rfl rfl (pj_gf hM (pc := 2) (t := 19) dX11_lift_2 fl_X11_69 (by decide) rfl 10 rfl (pj_iload_n hM (pc := 5) dX11_lift_5 rfl (pj_iload_n hM (pc := 6) dX11_lift_6 rfl (pj_cV hM (pc := 7) (cB_takeUp (w 10 0 10) x1 x2 h1 w p2 h3) dX11_lift_7 mf_X0_takeUp mv_X0_takeUp ml_X11_272 kc_19 rfl rfl h1 rfl rfl (pj_cV hM (pc := 10) (cX_settle p2.1 p2.2 p4 h5) dX11_lift_10 mf_X11_settle mv_X11_settle ml_X11_263 kc_10 rfl rfl (by decide) rfl rfl (pj_ret hM (pc := 13) dX11_lift_13 ⟨_, rfl⟩ (h0 ((p4.1, p4.2)) hr) rfl))))))))
theorem cX_lift (x1 : Int) (x2 : Int)  (w : pj_W) (r : Int × pj_W) (h : fX_lift x1 x2 w = some r) : pj_Cn l yX11_lift cX11_lift 3 (some .int) 3 69 true g [(10, 0), (0, x1), (0, x2)] w ((some (0, r.1) : Option pj_V), r.2) :=
  pj_Cn_of rfl (Nat.le_of_ble_eq_true rfl) (lls := [(10, 0), (0, x1), (0, x2)]) rfl (fun Go hM => tX_lift hM x1 x2 w (fun x => ((some (0, x.1) : Option pj_V), x.2) = ((some (0, r.1) : Option pj_V), r.2)) (fun r h => h) r h rfl)
noncomputable def fL_behindEnd_33 (x1 : Int) (w : pj_W) : Option (Int × pj_W) :=
  some (((pj_wr (x1 + 1)), w))
noncomputable def fL_behindEnd (x1 : Int) (w : pj_W) : Option (Int × pj_W) :=
  if 0 ≤ (w 18 0 3) then (if 0 ≤ x1 ∧ x1 < 60 then (if (w 51 (w 18 0 3) x1) < 0 then (fL_behindEnd_33 x1 w) else (if x1 ≤ (w 51 (w 18 0 3) x1) then (fL_behindEnd_33 x1 w) else (if 0 ≤ (w 51 (w 18 0 3) x1) ∧ (w 51 (w 18 0 3) x1) < 60 then (if (w 47 (w 18 0 3) (w 51 (w 18 0 3) x1)) = 27 then (if ((pj_set w 43 0 (w 51 (w 18 0 3) x1) (pj_wr ((w 43 0 (w 51 (w 18 0 3) x1)) - 1))) 43 0 (w 51 (w 18 0 3) x1)) ≤ 0 then (some (((pj_wr (x1 + 1)), (pj_set w 43 0 (w 51 (w 18 0 3) x1) (pj_wr ((w 43 0 (w 51 (w 18 0 3) x1)) - 1)))))) else (some (((pj_wr ((w 51 (w 18 0 3) x1) + 1)), (pj_set w 43 0 (w 51 (w 18 0 3) x1) (pj_wr ((w 43 0 (w 51 (w 18 0 3) x1)) - 1))))))) else (fL_behindEnd_33 x1 w)) else none))) else none) else none
theorem tL_behindEnd_33 {Go : pj_C → Prop} (hM : pj_M l yX6_behindEnd cX6_behindEnd 3 (some .int) 0 0 true g n0 o Go) (x1 : Int) (w : pj_W)  (R : Int × pj_W → Prop) (h0 : ∀ r, R (r) → ((some (0, r.1) : Option pj_V), r.2) = o) : pj_TG R (fL_behindEnd_33 x1 w) (Go (33, [(18, 0), (0, x1), (9, 0)], [], w)) := by
  unfold fL_behindEnd_33
  exact pj_tret (fun hr => pj_iload_n hM (pc := 33) dX6_behindEnd_33 rfl (pj_iconst hM (pc := 34) dX6_behindEnd_34 (by decide) (pj_iadd hM (pc := 35) dX6_behindEnd_35 (pj_ret hM (pc := 36) dX6_behindEnd_36 ⟨_, rfl⟩ (h0 (((pj_wr (x1 + 1)), w)) hr) rfl))))
theorem tL_behindEnd {Go : pj_C → Prop} (hM : pj_M l yX6_behindEnd cX6_behindEnd 3 (some .int) 0 0 true g n0 o Go) (x1 : Int) (w : pj_W)  (R : Int × pj_W → Prop) (h0 : ∀ r, R (r) → ((some (0, r.1) : Option pj_V), r.2) = o) : pj_TG R (fL_behindEnd x1 w) (Go (0, [(18, 0), (0, x1), (9, 0)], [], w)) := by
  unfold fL_behindEnd
  refine pj_tgd (fun h1 => ?_)
  refine pj_tgd (fun h2 => ?_)
  refine pj_map (fun k => pj_aload_n hM (pc := 0) dX6_behindEnd_0 rfl rfl (pj_gf hM (pc := 1) (t := 24) dX6_behindEnd_1 fl_X6_24 (by decide) rfl 3 rfl (pj_getF hM (pc := 4) (t := 51) dX6_behindEnd_4 fl_X6_48 h1 rfl rfl (pj_iload_n hM (pc := 7) dX6_behindEnd_7 rfl (pj_ial hM (pc := 8) dX6_behindEnd_8 ki_51 h1 h2 (pj_istore_n hM (pc := 9) dX6_behindEnd_9 (by decide) (lls' := [(18, 0), (0, x1), (0, (w 51 (w 18 0 3) x1))]) rfl (pj_iload_n hM (pc := 10) dX6_behindEnd_10 rfl k))))))) ?_
  refine pj_tif (fun h3 => ?_) (fun h3 => ?_)
  · refine pj_map (fun k => pj_if_lt_t hM (pc := 11) dX6_behindEnd_11 rfl h3 (pj_kill hM [true, true, false] (lls' := [(18, 0), (0, x1), (9, 0)]) rfl k)) ?_
    exact tL_behindEnd_33 hM x1 w _ h0
  refine pj_map (fun k => pj_if_lt_f hM (pc := 11) 33 dX6_behindEnd_11 rfl h3 (pj_iload_n hM (pc := 14) dX6_behindEnd_14 rfl (pj_iload_n hM (pc := 15) dX6_behindEnd_15 rfl k))) ?_
  refine pj_tif (fun h4 => ?_) (fun h4 => ?_)
  · refine pj_map (fun k => pj_ic_ge_t hM (pc := 16) dX6_behindEnd_16 rfl h4 (pj_kill hM [true, true, false] (lls' := [(18, 0), (0, x1), (9, 0)]) rfl k)) ?_
    exact tL_behindEnd_33 hM x1 w _ h0
  refine pj_tgd (fun h5 => ?_)
  refine pj_map (fun k => pj_ic_ge_f hM (pc := 16) 33 dX6_behindEnd_16 rfl h4 (pj_aload_n hM (pc := 19) dX6_behindEnd_19 rfl rfl (pj_gf hM (pc := 20) (t := 24) dX6_behindEnd_20 fl_X6_24 (by decide) rfl 3 rfl (pj_getF hM (pc := 23) (t := 47) dX6_behindEnd_23 fl_X6_36 h1 rfl rfl (pj_iload_n hM (pc := 26) dX6_behindEnd_26 rfl (pj_ial hM (pc := 27) dX6_behindEnd_27 ki_47 h1 h5 (pj_bipush hM (pc := 28) dX6_behindEnd_28 (by decide) k))))))) ?_
  refine pj_tif (fun h6 => ?_) (fun h6 => ?_)
  · refine pj_map (fun k => pj_ic_eq_t hM (pc := 30) dX6_behindEnd_30 rfl h6 (pj_aload_n hM (pc := 37) dX6_behindEnd_37 rfl rfl (pj_getF hM (pc := 38) (t := 43) dX6_behindEnd_38 fl_X6_17 (by decide) rfl rfl (pj_iload_n hM (pc := 41) dX6_behindEnd_41 rfl (pj_dup2 hM (pc := 42) dX6_behindEnd_42 (by decide) (by decide) (pj_ial hM (pc := 43) dX6_behindEnd_43 ki_43 (by decide) h5 (pj_iconst hM (pc := 44) dX6_behindEnd_44 (by decide) (pj_isub hM (pc := 45) dX6_behindEnd_45 (pj_ias hM (pc := 46) dX6_behindEnd_46 ki_43 (by decide) h5 (pj_aload_n hM (pc := 47) dX6_behindEnd_47 rfl rfl (pj_getF hM (pc := 48) (t := 43) dX6_behindEnd_48 fl_X6_17 (by decide) rfl rfl (pj_iload_n hM (pc := 51) dX6_behindEnd_51 rfl (pj_ial hM (pc := 52) dX6_behindEnd_52 ki_43 (by decide) h5 k))))))))))))) ?_
    refine pj_tif (fun h7 => ?_) (fun h7 => ?_)
    · exact pj_tret (fun hr => pj_if_le_t hM (pc := 53) dX6_behindEnd_53 rfl h7 (pj_iload_n hM (pc := 62) dX6_behindEnd_62 rfl (pj_iconst hM (pc := 63) dX6_behindEnd_63 (by decide) (pj_iadd hM (pc := 64) dX6_behindEnd_64 (pj_ret hM (pc := 65) dX6_behindEnd_65 ⟨_, rfl⟩ (h0 (((pj_wr (x1 + 1)), (pj_set w 43 0 (w 51 (w 18 0 3) x1) (pj_wr ((w 43 0 (w 51 (w 18 0 3) x1)) - 1))))) hr) rfl)))))
    exact pj_tret (fun hr => pj_if_le_f hM (pc := 53) 62 dX6_behindEnd_53 rfl h7 (pj_iload_n hM (pc := 56) dX6_behindEnd_56 rfl (pj_iconst hM (pc := 57) dX6_behindEnd_57 (by decide) (pj_iadd hM (pc := 58) dX6_behindEnd_58 (pj_goto hM (pc := 59) dX6_behindEnd_59 rfl (pj_ret hM (pc := 65) dX6_behindEnd_65 ⟨_, rfl⟩ (h0 (((pj_wr ((w 51 (w 18 0 3) x1) + 1)), (pj_set w 43 0 (w 51 (w 18 0 3) x1) (pj_wr ((w 43 0 (w 51 (w 18 0 3) x1)) - 1))))) hr) rfl))))))
  refine pj_map (fun k => pj_ic_eq_f hM (pc := 30) 37 dX6_behindEnd_30 rfl h6 (pj_kill hM [true, true, false] (lls' := [(18, 0), (0, x1), (9, 0)]) rfl k)) ?_
  exact tL_behindEnd_33 hM x1 w _ h0
theorem cL_behindEnd (x1 : Int)  (w : pj_W) (r : Int × pj_W) (h : fL_behindEnd x1 w = some r) : pj_Cn l yX6_behindEnd cX6_behindEnd 3 (some .int) 0 0 true g [(18, 0), (0, x1)] w ((some (0, r.1) : Option pj_V), r.2) :=
  pj_Cn_of rfl (Nat.le_of_ble_eq_true rfl) (lls := [(18, 0), (0, x1), (9, 0)]) rfl (fun Go hM => tL_behindEnd hM x1 w (fun x => ((some (0, x.1) : Option pj_V), x.2) = ((some (0, r.1) : Option pj_V), r.2)) (fun r h => h) r h rfl)
noncomputable def fB_layOn (i0 : Int) (x1 : Int) (x2 : Int) (w : pj_W) : Option (Int × pj_W) :=
  (fB_finderAt i0 x1 w).bind fun p1 => ((fB_findAt i0 x2 w).bind fun p3 => (if p1 < 0 then (some ((1, w))) else (if p3 < 0 then (some ((1, w))) else ((fB_lying i0 w).bind fun p7 => (if p7 < 60 then (if (w 22 p1 3) = 0 then (some ((6, w))) else (if (w 22 p1 1) = (w 23 p3 3) then (if (w 23 p3 5) = 0 then (some ((7, w))) else ((fN_insert p3 x1 ((pj_set w 22 p1 3 (pj_wr ((w 22 p1 3) - 1))) 22 p1 4) (pj_set w 22 p1 3 (pj_wr ((w 22 p1 3) - 1)))).bind fun p13 => ((fB_done i0 (p13 23 p3 6) p13).bind fun p15 => (some ((p15.1, p15.2)))))) else (some ((7, w))))) else (some ((4, w))))))))
theorem tB_layOn {Go : pj_C → Prop} (hM : pj_M l yX0_layOn cX0_layOn 5 (some .int) 1 23 true g n0 o Go) (i0 : Int) (x1 : Int) (x2 : Int) (w : pj_W) (hn0 : 0 ≤ i0) (R : Int × pj_W → Prop) (h0 : ∀ r, R (r) → ((some (0, r.1) : Option pj_V), r.2) = o) : pj_TG R (fB_layOn i0 x1 x2 w) (Go (0, [(19, i0), (0, x1), (0, x2), (9, 0), (9, 0)], [], w)) := by
  unfold fB_layOn
  refine pj_tbind (fun p1 h2 => ?_)
  refine pj_tbind (fun p3 h4 => ?_)
  refine pj_map (fun k => pj_aload_n hM (pc := 0) dX0_layOn_0 rfl rfl (pj_iload_n hM (pc := 1) dX0_layOn_1 rfl (pj_cV hM (pc := 2) (cB_finderAt i0 x1 hn0 w p1 h2) dX0_layOn_2 mf_X0_finderAt mv_X0_finderAt ml_X0_95 kc_19 rfl rfl hn0 rfl rfl (pj_astore_n hM (pc := 5) dX0_layOn_5 (by decide) (by decide) (lls' := [(19, i0), (0, x1), (0, x2), (22, p1), (9, 0)]) rfl (pj_aload_n hM (pc := 6) dX0_layOn_6 rfl rfl (pj_iload_n hM (pc := 7) dX0_layOn_7 rfl (pj_cV hM (pc := 8) (cB_findAt i0 x2 hn0 w p3 h4) dX0_layOn_8 mf_X0_findAt mv_X0_findAt ml_X0_106 kc_19 rfl rfl hn0 rfl rfl (pj_astore hM (pc := 11) dX0_layOn_11 (by decide) (by decide) (lls' := [(19, i0), (0, x1), (0, x2), (22, p1), (23, p3)]) rfl (pj_aload_n hM (pc := 13) dX0_layOn_13 rfl rfl k))))))))) ?_
  refine pj_tif (fun h5 => ?_) (fun h5 => ?_)
  · exact pj_tret (fun hr => pj_null_t hM (pc := 14) dX0_layOn_14 rfl (by decide) h5 (pj_iconst hM (pc := 22) dX0_layOn_22 (by decide) (pj_ret hM (pc := 23) dX0_layOn_23 ⟨_, rfl⟩ (h0 ((1, w)) hr) rfl)))
  refine pj_map (fun k => pj_null_f hM (pc := 14) 22 dX0_layOn_14 rfl (by decide) h5 (pj_aload hM (pc := 17) dX0_layOn_17 rfl rfl k)) ?_
  refine pj_tif (fun h6 => ?_) (fun h6 => ?_)
  · exact pj_tret (fun hr => pj_nonnull_f hM (pc := 19) 24 dX0_layOn_19 rfl (by decide) h6 (pj_iconst hM (pc := 22) dX0_layOn_22 (by decide) (pj_ret hM (pc := 23) dX0_layOn_23 ⟨_, rfl⟩ (h0 ((1, w)) hr) rfl)))
  refine pj_tbind (fun p7 h8 => ?_)
  refine pj_map (fun k => pj_nonnull_t hM (pc := 19) dX0_layOn_19 rfl (by decide) h6 (pj_aload_n hM (pc := 24) dX0_layOn_24 rfl rfl (pj_cV hM (pc := 25) (cB_lying i0 hn0 w p7 h8) dX0_layOn_25 mf_X0_lying mv_X0_lying ml_X0_110 kc_19 rfl rfl hn0 rfl rfl (pj_bipush hM (pc := 28) dX0_layOn_28 (by decide) k)))) ?_
  refine pj_tif (fun h9 => ?_) (fun h9 => ?_)
  · refine pj_map (fun k => pj_ic_lt_t hM (pc := 30) dX0_layOn_30 rfl h9 (pj_aload_n hM (pc := 35) dX0_layOn_35 rfl rfl (pj_gf hM (pc := 36) (t := 0) dX0_layOn_36 fl_X0_70 (Int.not_lt.mp h5) rfl 3 rfl k))) ?_
    refine pj_tif (fun h10 => ?_) (fun h10 => ?_)
    · exact pj_tret (fun hr => pj_if_ne_f hM (pc := 39) 45 dX0_layOn_39 rfl (fun q => q h10) (pj_bipush hM (pc := 42) dX0_layOn_42 (by decide) (pj_ret hM (pc := 44) dX0_layOn_44 ⟨_, rfl⟩ (h0 ((6, w)) hr) rfl)))
    refine pj_map (fun k => pj_if_ne_t hM (pc := 39) dX0_layOn_39 rfl h10 (pj_aload_n hM (pc := 45) dX0_layOn_45 rfl rfl (pj_gf hM (pc := 46) (t := 0) dX0_layOn_46 fl_X0_64 (Int.not_lt.mp h5) rfl 1 rfl (pj_aload hM (pc := 49) dX0_layOn_49 rfl rfl (pj_gf hM (pc := 51) (t := 0) dX0_layOn_51 fl_X0_80 (Int.not_lt.mp h6) rfl 3 rfl k))))) ?_
    refine pj_tif (fun h11 => ?_) (fun h11 => ?_)
    · refine pj_map (fun k => pj_ic_ne_f hM (pc := 54) 65 dX0_layOn_54 rfl (fun q => q h11) (pj_aload hM (pc := 57) dX0_layOn_57 rfl rfl (pj_gf hM (pc := 59) (t := 0) dX0_layOn_59 fl_X0_84 (Int.not_lt.mp h6) rfl 5 rfl k))) ?_
      refine pj_tif (fun h12 => ?_) (fun h12 => ?_)
      · exact pj_tret (fun hr => pj_if_ne_f hM (pc := 62) 68 dX0_layOn_62 rfl (fun q => q h12) (pj_bipush hM (pc := 65) dX0_layOn_65 (by decide) (pj_ret hM (pc := 67) dX0_layOn_67 ⟨_, rfl⟩ (h0 ((7, w)) hr) rfl)))
      refine pj_tbind (fun p13 h14 => ?_)
      refine pj_tbind (fun p15 h16 => ?_)
      exact pj_tret (fun hr => pj_if_ne_t hM (pc := 62) dX0_layOn_62 rfl h12 (pj_aload_n hM (pc := 68) dX0_layOn_68 rfl rfl (pj_dup hM (pc := 69) dX0_layOn_69 (by decide) (pj_gf hM (pc := 70) (t := 0) dX0_layOn_70 fl_X0_70 (Int.not_lt.mp h5) rfl 3 rfl (pj_iconst hM (pc := 73) dX0_layOn_73 (by decide) (pj_isub hM (pc := 74) dX0_layOn_74 (pj_pf hM (pc := 75) dX0_layOn_75 fl_X0_70 (Int.not_lt.mp h5) rfl (fun h => absurd h (by decide)) (by decide) (fun _ => rfl) 3 rfl (pj_aload hM (pc := 78) dX0_layOn_78 rfl rfl (pj_iload_n hM (pc := 80) dX0_layOn_80 rfl (pj_aload_n hM (pc := 81) dX0_layOn_81 rfl rfl (pj_gf hM (pc := 82) (t := 0) dX0_layOn_82 fl_X0_73 (Int.not_lt.mp h5) rfl 4 rfl (pj_cVv hM (pc := 85) (cN_insert p3 x1 ((pj_set w 22 p1 3 (pj_wr ((w 22 p1 3) - 1))) 22 p1 4) (Int.not_lt.mp h6) (pj_set w 22 p1 3 (pj_wr ((w 22 p1 3) - 1))) p13 h14) dX0_layOn_85 mf_X4_insert mv_X4_insert ml_X0_114 kc_23 rfl rfl (Int.not_lt.mp h6) rfl rfl (pj_aload_n hM (pc := 88) dX0_layOn_88 rfl rfl (pj_aload hM (pc := 89) dX0_layOn_89 rfl rfl (pj_gf hM (pc := 91) (t := 0) dX0_layOn_91 fl_X0_88 (Int.not_lt.mp h6) rfl 6 rfl (pj_cV hM (pc := 94) (cB_done i0 (p13 23 p3 6) hn0 p13 p15 h16) dX0_layOn_94 mf_X0_done mv_X0_done ml_X0_91 kc_19 rfl rfl hn0 rfl rfl (pj_ret hM (pc := 97) dX0_layOn_97 ⟨_, rfl⟩ (h0 ((p15.1, p15.2)) hr) rfl)))))))))))))))))
    exact pj_tret (fun hr => pj_ic_ne_t hM (pc := 54) dX0_layOn_54 rfl h11 (pj_bipush hM (pc := 65) dX0_layOn_65 (by decide) (pj_ret hM (pc := 67) dX0_layOn_67 ⟨_, rfl⟩ (h0 ((7, w)) hr) rfl)))
  exact pj_tret (fun hr => pj_ic_lt_f hM (pc := 30) 35 dX0_layOn_30 rfl h9 (pj_iconst hM (pc := 33) dX0_layOn_33 (by decide) (pj_ret hM (pc := 34) dX0_layOn_34 ⟨_, rfl⟩ (h0 ((4, w)) hr) rfl)))
theorem cB_layOn (i0 : Int) (x1 : Int) (x2 : Int) (hn0 : 0 ≤ i0) (w : pj_W) (r : Int × pj_W) (h : fB_layOn i0 x1 x2 w = some r) : pj_Cn l yX0_layOn cX0_layOn 5 (some .int) 1 23 true g [(19, i0), (0, x1), (0, x2)] w ((some (0, r.1) : Option pj_V), r.2) :=
  pj_Cn_of rfl (Nat.le_of_ble_eq_true rfl) (lls := [(19, i0), (0, x1), (0, x2), (9, 0), (9, 0)]) rfl (fun Go hM => tB_layOn hM i0 x1 x2 w hn0 (fun x => ((some (0, x.1) : Option pj_V), x.2) = ((some (0, r.1) : Option pj_V), r.2)) (fun r h => h) r h rfl)
noncomputable def fB_waitFor (i0 : Int) (x1 : Int) (x2 : Int) (w : pj_W) : Option (Int × pj_W) :=
  (fB_finderAt i0 x1 w).bind fun p1 => (if p1 < 0 then (some ((1, w))) else (if x2 < 1 then (some ((1, w))) else (if x2 ≤ 240 then ((fB_spend i0 p1 x2 w).bind fun p6 => (some ((p6.1, p6.2)))) else (some ((1, w))))))
theorem tB_waitFor {Go : pj_C → Prop} (hM : pj_M l yX0_waitFor cX0_waitFor 4 (some .int) 2 43 true g n0 o Go) (i0 : Int) (x1 : Int) (x2 : Int) (w : pj_W) (hn0 : 0 ≤ i0) (R : Int × pj_W → Prop) (h0 : ∀ r, R (r) → ((some (0, r.1) : Option pj_V), r.2) = o) : pj_TG R (fB_waitFor i0 x1 x2 w) (Go (0, [(19, i0), (0, x1), (0, x2), (9, 0)], [], w)) := by
  unfold fB_waitFor
  refine pj_tbind (fun p1 h2 => ?_)
  refine pj_map (fun k => pj_aload_n hM (pc := 0) dX0_waitFor_0 rfl rfl (pj_iload_n hM (pc := 1) dX0_waitFor_1 rfl (pj_cV hM (pc := 2) (cB_finderAt i0 x1 hn0 w p1 h2) dX0_waitFor_2 mf_X0_finderAt mv_X0_finderAt ml_X0_95 kc_19 rfl rfl hn0 rfl rfl (pj_astore_n hM (pc := 5) dX0_waitFor_5 (by decide) (by decide) (lls' := [(19, i0), (0, x1), (0, x2), (22, p1)]) rfl (pj_aload_n hM (pc := 6) dX0_waitFor_6 rfl rfl k))))) ?_
  refine pj_tif (fun h3 => ?_) (fun h3 => ?_)
  · exact pj_tret (fun hr => pj_null_t hM (pc := 7) dX0_waitFor_7 rfl (by decide) h3 (pj_iconst hM (pc := 22) dX0_waitFor_22 (by decide) (pj_ret hM (pc := 23) dX0_waitFor_23 ⟨_, rfl⟩ (h0 ((1, w)) hr) rfl)))
  refine pj_map (fun k => pj_null_f hM (pc := 7) 22 dX0_waitFor_7 rfl (by decide) h3 (pj_iload_n hM (pc := 10) dX0_waitFor_10 rfl (pj_iconst hM (pc := 11) dX0_waitFor_11 (by decide) k))) ?_
  refine pj_tif (fun h4 => ?_) (fun h4 => ?_)
  · exact pj_tret (fun hr => pj_ic_lt_t hM (pc := 12) dX0_waitFor_12 rfl h4 (pj_iconst hM (pc := 22) dX0_waitFor_22 (by decide) (pj_ret hM (pc := 23) dX0_waitFor_23 ⟨_, rfl⟩ (h0 ((1, w)) hr) rfl)))
  refine pj_map (fun k => pj_ic_lt_f hM (pc := 12) 22 dX0_waitFor_12 rfl h4 (pj_iload_n hM (pc := 15) dX0_waitFor_15 rfl (pj_sipush hM (pc := 16) dX0_waitFor_16 (by decide) k))) ?_
  refine pj_tif (fun h5 => ?_) (fun h5 => ?_)
  · refine pj_tbind (fun p6 h7 => ?_)
    exact pj_tret (fun hr => pj_ic_le_t hM (pc := 19) dX0_waitFor_19 rfl h5 (pj_aload_n hM (pc := 24) dX0_waitFor_24 rfl rfl (pj_aload_n hM (pc := 25) dX0_waitFor_25 rfl rfl (pj_iload_n hM (pc := 26) dX0_waitFor_26 rfl (pj_cV hM (pc := 27) (cB_spend i0 p1 x2 hn0 w p6 h7) dX0_waitFor_27 mf_X0_spend mv_X0_spend ml_X0_102 kc_19 rfl rfl hn0 rfl rfl (pj_ret hM (pc := 30) dX0_waitFor_30 ⟨_, rfl⟩ (h0 ((p6.1, p6.2)) hr) rfl))))))
  exact pj_tret (fun hr => pj_ic_le_f hM (pc := 19) 24 dX0_waitFor_19 rfl h5 (pj_iconst hM (pc := 22) dX0_waitFor_22 (by decide) (pj_ret hM (pc := 23) dX0_waitFor_23 ⟨_, rfl⟩ (h0 ((1, w)) hr) rfl)))
theorem cB_waitFor (i0 : Int) (x1 : Int) (x2 : Int) (hn0 : 0 ≤ i0) (w : pj_W) (r : Int × pj_W) (h : fB_waitFor i0 x1 x2 w = some r) : pj_Cn l yX0_waitFor cX0_waitFor 4 (some .int) 2 43 true g [(19, i0), (0, x1), (0, x2)] w ((some (0, r.1) : Option pj_V), r.2) :=
  pj_Cn_of rfl (Nat.le_of_ble_eq_true rfl) (lls := [(19, i0), (0, x1), (0, x2), (9, 0)]) rfl (fun Go hM => tB_waitFor hM i0 x1 x2 w hn0 (fun x => ((some (0, x.1) : Option pj_V), x.2) = ((some (0, r.1) : Option pj_V), r.2)) (fun r h => h) r h rfl)
noncomputable def fL_beginLoop (x1 : Int) (x2 : Int) (w : pj_W) : Option (Int × pj_W) :=
  if 0 ≤ x1 ∧ x1 < 60 then (some (((pj_wr (x1 + 1)), (pj_set w 43 0 x1 x2)))) else none
theorem tL_beginLoop {Go : pj_C → Prop} (hM : pj_M l yX6_beginLoop cX6_beginLoop 3 (some .int) 0 0 true g n0 o Go) (x1 : Int) (x2 : Int) (w : pj_W)  (R : Int × pj_W → Prop) (h0 : ∀ r, R (r) → ((some (0, r.1) : Option pj_V), r.2) = o) : pj_TG R (fL_beginLoop x1 x2 w) (Go (0, [(18, 0), (0, x1), (0, x2)], [], w)) := by
  unfold fL_beginLoop
  refine pj_tgd (fun h1 => ?_)
  exact pj_tret (fun hr => pj_aload_n hM (pc := 0) dX6_beginLoop_0 rfl rfl (pj_getF hM (pc := 1) (t := 43) dX6_beginLoop_1 fl_X6_17 (by decide) rfl rfl (pj_iload_n hM (pc := 4) dX6_beginLoop_4 rfl (pj_iload_n hM (pc := 5) dX6_beginLoop_5 rfl (pj_ias hM (pc := 6) dX6_beginLoop_6 ki_43 (by decide) h1 (pj_iload_n hM (pc := 7) dX6_beginLoop_7 rfl (pj_iconst hM (pc := 8) dX6_beginLoop_8 (by decide) (pj_iadd hM (pc := 9) dX6_beginLoop_9 (pj_ret hM (pc := 10) dX6_beginLoop_10 ⟨_, rfl⟩ (h0 (((pj_wr (x1 + 1)), (pj_set w 43 0 x1 x2))) hr) rfl)))))))))
theorem cL_beginLoop (x1 : Int) (x2 : Int)  (w : pj_W) (r : Int × pj_W) (h : fL_beginLoop x1 x2 w = some r) : pj_Cn l yX6_beginLoop cX6_beginLoop 3 (some .int) 0 0 true g [(18, 0), (0, x1), (0, x2)] w ((some (0, r.1) : Option pj_V), r.2) :=
  pj_Cn_of rfl (Nat.le_of_ble_eq_true rfl) (lls := [(18, 0), (0, x1), (0, x2)]) rfl (fun Go hM => tL_beginLoop hM x1 x2 w (fun x => ((some (0, x.1) : Option pj_V), x.2) = ((some (0, r.1) : Option pj_V), r.2)) (fun r h => h) r h rfl)
noncomputable def fL_behindTest (x1 : Int) (x2 : Int) (w : pj_W) : Option (Int) :=
  if x2 = 0 then (if 0 ≤ (w 18 0 3) then (if 0 ≤ x1 ∧ x1 < 60 then (some ((pj_wr ((w 51 (w 18 0 3) x1) + 1)))) else none) else none) else (some ((pj_wr (x1 + 1))))
theorem tL_behindTest {Go : pj_C → Prop} (hM : pj_M l yX6_behindTest cX6_behindTest 3 (some .int) 0 0 true g n0 o Go) (x1 : Int) (x2 : Int) (w : pj_W)  (R : Int → Prop) (h0 : ∀ r, R (r) → ((some (0, r) : Option pj_V), w) = o) : pj_TG R (fL_behindTest x1 x2 w) (Go (0, [(18, 0), (0, x1), (0, x2)], [], w)) := by
  unfold fL_behindTest
  refine pj_map (fun k => pj_iload_n hM (pc := 0) dX6_behindTest_0 rfl k) ?_
  refine pj_tif (fun h1 => ?_) (fun h1 => ?_)
  · refine pj_tgd (fun h2 => ?_)
    refine pj_tgd (fun h3 => ?_)
    exact pj_tret (fun hr => pj_if_eq_t hM (pc := 1) dX6_behindTest_1 rfl h1 (pj_aload_n hM (pc := 10) dX6_behindTest_10 rfl rfl (pj_gf hM (pc := 11) (t := 24) dX6_behindTest_11 fl_X6_24 (by decide) rfl 3 rfl (pj_getF hM (pc := 14) (t := 51) dX6_behindTest_14 fl_X6_48 h2 rfl rfl (pj_iload_n hM (pc := 17) dX6_behindTest_17 rfl (pj_ial hM (pc := 18) dX6_behindTest_18 ki_51 h2 h3 (pj_iconst hM (pc := 19) dX6_behindTest_19 (by decide) (pj_iadd hM (pc := 20) dX6_behindTest_20 (pj_ret hM (pc := 21) dX6_behindTest_21 ⟨_, rfl⟩ (h0 ((pj_wr ((w 51 (w 18 0 3) x1) + 1))) hr) rfl)))))))))
  exact pj_tret (fun hr => pj_if_eq_f hM (pc := 1) 10 dX6_behindTest_1 rfl h1 (pj_iload_n hM (pc := 4) dX6_behindTest_4 rfl (pj_iconst hM (pc := 5) dX6_behindTest_5 (by decide) (pj_iadd hM (pc := 6) dX6_behindTest_6 (pj_goto hM (pc := 7) dX6_behindTest_7 rfl (pj_ret hM (pc := 21) dX6_behindTest_21 ⟨_, rfl⟩ (h0 ((pj_wr (x1 + 1))) hr) rfl))))))
theorem cL_behindTest (x1 : Int) (x2 : Int)  (w : pj_W) (r : Int) (h : fL_behindTest x1 x2 w = some r) : pj_Cn l yX6_behindTest cX6_behindTest 3 (some .int) 0 0 true g [(18, 0), (0, x1), (0, x2)] w ((some (0, r) : Option pj_V), w) :=
  pj_Cn_of rfl (Nat.le_of_ble_eq_true rfl) (lls := [(18, 0), (0, x1), (0, x2)]) rfl (fun Go hM => tL_behindTest hM x1 x2 w (fun x => ((some (0, x) : Option pj_V), w) = ((some (0, r) : Option pj_V), w)) (fun r h => h) r h rfl)
noncomputable def fB_give_49 (i0 : Int) (x1 : Int) (x2 : Int) (x3 : Int) (x4 : Int) (w : pj_W) : Option ((Int × pj_W) ⊕ (pj_W)) :=
  some (Sum.inl ((pj_wr (x4 + 1)), w))
noncomputable def fB_give_8b (i0 : Int) (x1 : Int) (x2 : Int) (x3 : Int) (x4 : Int) (w : pj_W) : Option ((Int × pj_W) ⊕ (pj_W)) :=
  if (w 19 i0 7) ≤ x4 then (some (Sum.inr (w))) else (if x3 ≤ 0 then (some (Sum.inr (w))) else (if (pj_and (pj_shr x2 x4) 1) = 1 then (if 0 ≤ x4 ∧ x4 < 6 then (if ¬ x3 = 0 then (fB_give_49 i0 x1 x2 x3 x4 (pj_set w 22 (6 * i0 + x4) 5 (pj_wr ((w 22 (6 * i0 + x4) 5) + (pj_div x1 x3))))) else none) else none) else (fB_give_49 i0 x1 x2 x3 x4 w)))
noncomputable def fB_give_8 (i0 : Int) (x1 : Int) (x2 : Int) (x3 : Int) (s : (Int × pj_W)) : Option (pj_W) := pj_Lp (fun s : (Int × pj_W) => fB_give_8b i0 x1 x2 x3 s.1 s.2) s
noncomputable def fB_give (i0 : Int) (x1 : Int) (x2 : Int) (w : pj_W) : Option (pj_W) :=
  (fInt_bitCount x2 w).bind fun p1 => (fB_give_8 i0 x1 x2 p1 (0, w))
theorem tB_give_49 {Go : pj_C → Prop} (hM : pj_M l yX0_give cX0_give 5 none 1 20 true g n0 o Go) (i0 : Int) (x1 : Int) (x2 : Int) (x3 : Int) (x4 : Int) (w : pj_W) (hn0 : 0 ≤ i0) (R : (Int × pj_W) ⊕ (pj_W) → Prop) (h0 : ∀ r, R (Sum.inr (r)) → ((none : Option pj_V), r) = o) (hk8 : ∀ s, R (Sum.inl s) → Go (8, [(19, i0), (0, x1), (0, x2), (0, x3), (0, s.1)], [], s.2)) : pj_TG R (fB_give_49 i0 x1 x2 x3 x4 w) (Go (49, [(19, i0), (0, x1), (0, x2), (0, x3), (0, x4)], [], w)) := by
  unfold fB_give_49
  exact pj_tret (fun hr => pj_iinc hM (pc := 49) dX0_give_49 rfl (by decide) (lls' := [(19, i0), (0, x1), (0, x2), (0, x3), (0, (pj_wr (x4 + 1)))]) rfl (pj_goto hM (pc := 52) dX0_give_52 rfl (pj_kill hM [true, true, true, true, true] (lls' := [(19, i0), (0, x1), (0, x2), (0, x3), (0, (pj_wr (x4 + 1)))]) rfl ((hk8 _ hr)))))
theorem tB_give_8b {Go : pj_C → Prop} (hM : pj_M l yX0_give cX0_give 5 none 1 20 true g n0 o Go) (i0 : Int) (x1 : Int) (x2 : Int) (x3 : Int) (x4 : Int) (w : pj_W) (hn0 : 0 ≤ i0) (R : (Int × pj_W) ⊕ (pj_W) → Prop) (h0 : ∀ r, R (Sum.inr (r)) → ((none : Option pj_V), r) = o) (hk8 : ∀ s, R (Sum.inl s) → Go (8, [(19, i0), (0, x1), (0, x2), (0, x3), (0, s.1)], [], s.2)) : pj_TG R (fB_give_8b i0 x1 x2 x3 x4 w) (Go (8, [(19, i0), (0, x1), (0, x2), (0, x3), (0, x4)], [], w)) := by
  unfold fB_give_8b
  refine pj_map (fun k => pj_iload hM (pc := 8) dX0_give_8 rfl (pj_aload_n hM (pc := 10) dX0_give_10 rfl rfl (pj_gf hM (pc := 11) (t := 0) dX0_give_11 fl_X0_44 hn0 rfl 7 rfl k))) ?_
  refine pj_tif (fun h1 => ?_) (fun h1 => ?_)
  · exact pj_tret (fun hr => pj_ic_ge_t hM (pc := 14) dX0_give_14 rfl h1 (pj_ret hM (pc := 55) dX0_give_55 rfl (h0 (w) hr) rfl))
  refine pj_map (fun k => pj_ic_ge_f hM (pc := 14) 55 dX0_give_14 rfl h1 (pj_iload_n hM (pc := 17) dX0_give_17 rfl k)) ?_
  refine pj_tif (fun h2 => ?_) (fun h2 => ?_)
  · exact pj_tret (fun hr => pj_if_le_t hM (pc := 18) dX0_give_18 rfl h2 (pj_ret hM (pc := 55) dX0_give_55 rfl (h0 (w) hr) rfl))
  refine pj_map (fun k => pj_if_le_f hM (pc := 18) 55 dX0_give_18 rfl h2 (pj_iload_n hM (pc := 21) dX0_give_21 rfl (pj_iload hM (pc := 22) dX0_give_22 rfl (pj_ishr hM (pc := 24) dX0_give_24 (pj_iconst hM (pc := 25) dX0_give_25 (by decide) (pj_iand hM (pc := 26) dX0_give_26 (pj_iconst hM (pc := 27) dX0_give_27 (by decide) k))))))) ?_
  refine pj_tif (fun h3 => ?_) (fun h3 => ?_)
  · refine pj_tgd (fun h4 => ?_)
    refine pj_tgd (fun h5 => ?_)
    refine pj_map (fun k => pj_ic_ne_f hM (pc := 28) 49 dX0_give_28 rfl (fun q => q h3) (pj_aload_n hM (pc := 31) dX0_give_31 rfl rfl (pj_getF hM (pc := 32) (t := 20) dX0_give_32 fl_X0_13 hn0 rfl rfl (pj_iload hM (pc := 35) dX0_give_35 rfl (pj_aald hM (pc := 37) (fun s : Int => 6 * i0 + s) dX0_give_37 (by decide) rfl (fun _ => rfl) ⟨_, rfl⟩ (by decide) hn0 h4 (fun _ => rfl) (by show (0 : Int) ≤ (6 * i0 + x4); omega) (pj_dup hM (pc := 38) dX0_give_38 (by decide) (pj_gf hM (pc := 39) (t := 0) dX0_give_39 fl_X0_76 (by show (0 : Int) ≤ (6 * i0 + x4); omega) rfl 5 rfl (pj_iload_n hM (pc := 42) dX0_give_42 rfl (pj_iload_n hM (pc := 43) dX0_give_43 rfl (pj_idiv hM (pc := 44) dX0_give_44 h5 (pj_iadd hM (pc := 45) dX0_give_45 (pj_pf hM (pc := 46) dX0_give_46 fl_X0_76 (by show (0 : Int) ≤ (6 * i0 + x4); omega) rfl (fun h => absurd h (by decide)) (by decide) (fun _ => rfl) 5 rfl (pj_kill hM [true, true, true, true, true] (lls' := [(19, i0), (0, x1), (0, x2), (0, x3), (0, x4)]) rfl k))))))))))))) ?_
    exact tB_give_49 hM i0 x1 x2 x3 x4 (pj_set w 22 (6 * i0 + x4) 5 (pj_wr ((w 22 (6 * i0 + x4) 5) + (pj_div x1 x3)))) hn0 _ h0 hk8
  refine pj_map (fun k => pj_ic_ne_t hM (pc := 28) dX0_give_28 rfl h3 (pj_kill hM [true, true, true, true, true] (lls' := [(19, i0), (0, x1), (0, x2), (0, x3), (0, x4)]) rfl k)) ?_
  exact tB_give_49 hM i0 x1 x2 x3 x4 w hn0 _ h0 hk8
theorem tB_give_8 {Go : pj_C → Prop} (hM : pj_M l yX0_give cX0_give 5 none 1 20 true g n0 o Go) (i0 : Int) (x1 : Int) (x2 : Int) (x3 : Int) (hn0 : 0 ≤ i0) (R : pj_W → Prop) (h0 : ∀ r, R (r) → ((none : Option pj_V), r) = o) (s : (Int × pj_W)) : pj_TG R (fB_give_8 i0 x1 x2 x3 s) (Go (8, [(19, i0), (0, x1), (0, x2), (0, x3), (0, s.1)], [], s.2)) := by
  unfold fB_give_8
  exact pj_tLp (G := fun s : (Int × pj_W) => Go (8, [(19, i0), (0, x1), (0, x2), (0, x3), (0, s.1)], [], s.2)) (fun s => tB_give_8b hM i0 x1 x2 x3 s.1 s.2 hn0 _ (fun r h => h0 r h)  (fun s h => h)) s
theorem tB_give {Go : pj_C → Prop} (hM : pj_M l yX0_give cX0_give 5 none 1 20 true g n0 o Go) (i0 : Int) (x1 : Int) (x2 : Int) (w : pj_W) (hn0 : 0 ≤ i0) (R : pj_W → Prop) (h0 : ∀ r, R (r) → ((none : Option pj_V), r) = o) : pj_TG R (fB_give i0 x1 x2 w) (Go (0, [(19, i0), (0, x1), (0, x2), (9, 0), (9, 0)], [], w)) := by
  unfold fB_give
  refine pj_tbind (fun p1 h2 => ?_)
  refine pj_map (fun k => pj_iload_n hM (pc := 0) dX0_give_0 rfl (pj_cS hM (pc := 1) (cInt_bitCount x2 w p1 h2) dX0_give_1 mf_J6_bitCount_0f7a4 ms_J6_bitCount_0f7a4 ml_X0_152 rfl rfl rfl rfl (pj_istore_n hM (pc := 4) dX0_give_4 (by decide) (lls' := [(19, i0), (0, x1), (0, x2), (0, p1), (9, 0)]) rfl (pj_iconst hM (pc := 5) dX0_give_5 (by decide) (pj_istore hM (pc := 6) dX0_give_6 (by decide) (lls' := [(19, i0), (0, x1), (0, x2), (0, p1), (0, 0)]) rfl (pj_kill hM [true, true, true, true, true] (lls' := [(19, i0), (0, x1), (0, x2), (0, p1), (0, 0)]) rfl k)))))) ?_
  exact tB_give_8 hM i0 x1 x2 p1 hn0 _ h0 _
theorem cB_give (i0 : Int) (x1 : Int) (x2 : Int) (hn0 : 0 ≤ i0) (w : pj_W) (r : pj_W) (h : fB_give i0 x1 x2 w = some r) : pj_Cn l yX0_give cX0_give 5 none 1 20 true g [(19, i0), (0, x1), (0, x2)] w ((none : Option pj_V), r) :=
  pj_Cn_of rfl (Nat.le_of_ble_eq_true rfl) (lls := [(19, i0), (0, x1), (0, x2), (9, 0), (9, 0)]) rfl (fun Go hM => tB_give hM i0 x1 x2 w hn0 (fun x => ((none : Option pj_V), x) = ((none : Option pj_V), r)) (fun r h => h) r h rfl)
noncomputable def fB_tideAfter (i0 : Int) (x1 : Int) (w : pj_W) : Option (Int) :=
  some ((max 1 (pj_wr ((w 19 i0 3) - (pj_wr ((w 19 i0 4) * x1))))))
theorem tB_tideAfter {Go : pj_C → Prop} (hM : pj_M l yX0_tideAfter cX0_tideAfter 2 (some .int) 1 21 ph g n0 o Go) (i0 : Int) (x1 : Int) (w : pj_W) (hn0 : 0 ≤ i0) (R : Int → Prop) (h0 : ∀ r, R (r) → ((some (0, r) : Option pj_V), w) = o) : pj_TG R (fB_tideAfter i0 x1 w) (Go (0, [(19, i0), (0, x1)], [], w)) := by
  unfold fB_tideAfter
  exact pj_tret (fun hr => pj_iconst hM (pc := 0) dX0_tideAfter_0 (by decide) (pj_aload_n hM (pc := 1) dX0_tideAfter_1 rfl rfl (pj_gf hM (pc := 2) (t := 0) dX0_tideAfter_2 fl_X0_32 hn0 rfl 3 rfl (pj_aload_n hM (pc := 5) dX0_tideAfter_5 rfl rfl (pj_gf hM (pc := 6) (t := 0) dX0_tideAfter_6 fl_X0_35 hn0 rfl 4 rfl (pj_iload_n hM (pc := 9) dX0_tideAfter_9 rfl (pj_imul hM (pc := 10) dX0_tideAfter_10 (pj_isub hM (pc := 11) dX0_tideAfter_11 (pj_mmax hM (pc := 12) dX0_tideAfter_12 mf_J9_max_7cf53 ms_J9_max_7cf53 ml_X0_157 rfl (pj_ret hM (pc := 15) dX0_tideAfter_15 ⟨_, rfl⟩ (h0 ((max 1 (pj_wr ((w 19 i0 3) - (pj_wr ((w 19 i0 4) * x1)))))) hr) rfl))))))))))
theorem cB_tideAfter (i0 : Int) (x1 : Int) (hn0 : 0 ≤ i0) (w : pj_W) (r : Int) (h : fB_tideAfter i0 x1 w = some r) : pj_Cn l yX0_tideAfter cX0_tideAfter 2 (some .int) 1 21 ph g [(19, i0), (0, x1)] w ((some (0, r) : Option pj_V), w) :=
  pj_Cn_of rfl (Nat.le_of_ble_eq_true rfl) (lls := [(19, i0), (0, x1)]) rfl (fun Go hM => tB_tideAfter hM i0 x1 w hn0 (fun x => ((some (0, x) : Option pj_V), w) = ((some (0, r) : Option pj_V), w)) (fun r h => h) r h rfl)
noncomputable def fB_comeTide_107b (i0 : Int) (x1 : Int) (w : pj_W) : Option ((Int × pj_W) ⊕ (Int × pj_W)) :=
  if (w 19 i0 8) ≤ x1 then ((fB_tideAfter i0 1 w).bind fun p2 => ((fB_done i0 ((pj_set (pj_set w 19 i0 3 p2) 19 i0 6 (pj_wr (((pj_set w 19 i0 3 p2) 19 i0 6) + 1))) 19 i0 6) (pj_set (pj_set w 19 i0 3 p2) 19 i0 6 (pj_wr (((pj_set w 19 i0 3 p2) 19 i0 6) + 1)))).bind fun p4 => (some (Sum.inr ((p4.1, p4.2)))))) else (if 0 ≤ x1 ∧ x1 < 8 then (some (Sum.inl ((pj_wr (x1 + 1)), (pj_set (pj_set w 23 (8 * i0 + x1) 5 0) 23 (8 * i0 + x1) 6 0)))) else none)
noncomputable def fB_comeTide_107 (i0 : Int) (s : (Int × pj_W)) : Option (Int × pj_W) := pj_Lp (fun s : (Int × pj_W) => fB_comeTide_107b i0 s.1 s.2) s
noncomputable def fB_comeTide_62b (i0 : Int) (x1 : Int) (w : pj_W) : Option ((Int × pj_W) ⊕ (Int × pj_W)) :=
  if (w 19 i0 7) ≤ x1 then ((fB_comeTide_107 i0 (0, w)).map Sum.inr) else (if 0 ≤ x1 ∧ x1 < 6 then ((fB_strewnBy i0 x1 w).bind fun p3 => ((some (pj_set (pj_set w 22 (6 * i0 + x1) 3 (pj_wr ((w 22 (6 * i0 + x1) 3) + p3))) 22 (6 * i0 + x1) 4 0)).bind fun w5 => (some (Sum.inl ((pj_wr (x1 + 1)), w5))))) else none)
noncomputable def fB_comeTide_62 (i0 : Int) (s : (Int × pj_W)) : Option (Int × pj_W) := pj_Lp (fun s : (Int × pj_W) => fB_comeTide_62b i0 s.1 s.2) s
noncomputable def fB_comeTide_23b (i0 : Int) (x1 : Int) (w : pj_W) : Option ((Int × pj_W) ⊕ (Int × pj_W)) :=
  if (w 19 i0 8) ≤ x1 then ((fB_comeTide_62 i0 (0, w)).map Sum.inr) else (if 0 ≤ x1 ∧ x1 < 8 then ((fB_heirs i0 (8 * i0 + x1) w).bind fun p3 => ((fB_give i0 (w 23 (8 * i0 + x1) 4) p3 w).bind fun p5 => (some (Sum.inl ((pj_wr (x1 + 1)), p5))))) else none)
noncomputable def fB_comeTide_23 (i0 : Int) (s : (Int × pj_W)) : Option (Int × pj_W) := pj_Lp (fun s : (Int × pj_W) => fB_comeTide_23b i0 s.1 s.2) s
noncomputable def fB_comeTide (i0 : Int) (w : pj_W) : Option (Int × pj_W) :=
  if (w 19 i0 6) < 99 then ((fB_thereSet i0 w).bind fun p2 => (if p2 = 0 then (some ((7, w))) else (fB_comeTide_23 i0 (0, w)))) else (some ((4, w)))
theorem tB_comeTide_107b {Go : pj_C → Prop} (hM : pj_M l yX0_comeTide cX0_comeTide 2 (some .int) 2 46 true g n0 o Go) (i0 : Int) (x1 : Int) (w : pj_W) (hn0 : 0 ≤ i0) (R : (Int × pj_W) ⊕ (Int × pj_W) → Prop) (h0 : ∀ r, R (Sum.inr (r)) → ((some (0, r.1) : Option pj_V), r.2) = o) (hk107 : ∀ s, R (Sum.inl s) → Go (107, [(19, i0), (0, s.1)], [], s.2)) : pj_TG R (fB_comeTide_107b i0 x1 w) (Go (107, [(19, i0), (0, x1)], [], w)) := by
  unfold fB_comeTide_107b
  refine pj_map (fun k => pj_iload_n hM (pc := 107) dX0_comeTide_107 rfl (pj_aload_n hM (pc := 108) dX0_comeTide_108 rfl rfl (pj_gf hM (pc := 109) (t := 0) dX0_comeTide_109 fl_X0_47 hn0 rfl 8 rfl k))) ?_
  refine pj_tif (fun h1 => ?_) (fun h1 => ?_)
  · refine pj_tbind (fun p2 h3 => ?_)
    refine pj_tbind (fun p4 h5 => ?_)
    exact pj_tret (fun hr => pj_ic_ge_t hM (pc := 112) dX0_comeTide_112 rfl h1 (pj_aload_n hM (pc := 141) dX0_comeTide_141 rfl rfl (pj_aload_n hM (pc := 142) dX0_comeTide_142 rfl rfl (pj_iconst hM (pc := 143) dX0_comeTide_143 (by decide) (pj_cV hM (pc := 144) (cB_tideAfter i0 1 hn0 w p2 h3) dX0_comeTide_144 mf_X0_tideAfter mv_X0_tideAfter ml_X0_149 kc_19 rfl rfl hn0 rfl rfl (pj_pf hM (pc := 147) dX0_comeTide_147 fl_X0_32 hn0 rfl (fun h => absurd h (by decide)) (by decide) (fun _ => rfl) 3 rfl (pj_aload_n hM (pc := 150) dX0_comeTide_150 rfl rfl (pj_dup hM (pc := 151) dX0_comeTide_151 (by decide) (pj_gf hM (pc := 152) (t := 0) dX0_comeTide_152 fl_X0_41 hn0 rfl 6 rfl (pj_iconst hM (pc := 155) dX0_comeTide_155 (by decide) (pj_iadd hM (pc := 156) dX0_comeTide_156 (pj_pf hM (pc := 157) dX0_comeTide_157 fl_X0_41 hn0 rfl (fun h => absurd h (by decide)) (by decide) (fun _ => rfl) 6 rfl (pj_aload_n hM (pc := 160) dX0_comeTide_160 rfl rfl (pj_aload_n hM (pc := 161) dX0_comeTide_161 rfl rfl (pj_gf hM (pc := 162) (t := 0) dX0_comeTide_162 fl_X0_41 hn0 rfl 6 rfl (pj_cV hM (pc := 165) (cB_done i0 ((pj_set (pj_set w 19 i0 3 p2) 19 i0 6 (pj_wr (((pj_set w 19 i0 3 p2) 19 i0 6) + 1))) 19 i0 6) hn0 (pj_set (pj_set w 19 i0 3 p2) 19 i0 6 (pj_wr (((pj_set w 19 i0 3 p2) 19 i0 6) + 1))) p4 h5) dX0_comeTide_165 mf_X0_done mv_X0_done ml_X0_91 kc_19 rfl rfl hn0 rfl rfl (pj_ret hM (pc := 168) dX0_comeTide_168 ⟨_, rfl⟩ (h0 ((p4.1, p4.2)) hr) rfl)))))))))))))))))
  refine pj_tgd (fun h6 => ?_)
  exact pj_tret (fun hr => pj_ic_ge_f hM (pc := 112) 141 dX0_comeTide_112 rfl h1 (pj_aload_n hM (pc := 115) dX0_comeTide_115 rfl rfl (pj_getF hM (pc := 116) (t := 21) dX0_comeTide_116 fl_X0_19 hn0 rfl rfl (pj_iload_n hM (pc := 119) dX0_comeTide_119 rfl (pj_aald hM (pc := 120) (fun s : Int => 8 * i0 + s) dX0_comeTide_120 (by decide) rfl (fun _ => rfl) ⟨_, rfl⟩ (by decide) hn0 h6 (fun _ => rfl) (by show (0 : Int) ≤ (8 * i0 + x1); omega) (pj_iconst hM (pc := 121) dX0_comeTide_121 (by decide) (pj_pf hM (pc := 122) dX0_comeTide_122 fl_X0_84 (by show (0 : Int) ≤ (8 * i0 + x1); omega) rfl (fun _ => Or.inl rfl) (by decide) (fun _ => rfl) 5 rfl (pj_aload_n hM (pc := 125) dX0_comeTide_125 rfl rfl (pj_getF hM (pc := 126) (t := 21) dX0_comeTide_126 fl_X0_19 hn0 rfl rfl (pj_iload_n hM (pc := 129) dX0_comeTide_129 rfl (pj_aald hM (pc := 130) (fun s : Int => 8 * i0 + s) dX0_comeTide_130 (by decide) rfl (fun _ => rfl) ⟨_, rfl⟩ (by decide) hn0 h6 (fun _ => rfl) (by show (0 : Int) ≤ (8 * i0 + x1); omega) (pj_iconst hM (pc := 131) dX0_comeTide_131 (by decide) (pj_pf hM (pc := 132) dX0_comeTide_132 fl_X0_88 (by show (0 : Int) ≤ (8 * i0 + x1); omega) rfl (fun h => absurd h (by decide)) (by decide) (fun _ => rfl) 6 rfl (pj_iinc hM (pc := 135) dX0_comeTide_135 rfl (by decide) (lls' := [(19, i0), (0, (pj_wr (x1 + 1)))]) rfl (pj_goto hM (pc := 138) dX0_comeTide_138 rfl (pj_kill hM [true, true] (lls' := [(19, i0), (0, (pj_wr (x1 + 1)))]) rfl ((hk107 _ hr))))))))))))))))))
theorem tB_comeTide_107 {Go : pj_C → Prop} (hM : pj_M l yX0_comeTide cX0_comeTide 2 (some .int) 2 46 true g n0 o Go) (i0 : Int) (hn0 : 0 ≤ i0) (R : Int × pj_W → Prop) (h0 : ∀ r, R (r) → ((some (0, r.1) : Option pj_V), r.2) = o) (s : (Int × pj_W)) : pj_TG R (fB_comeTide_107 i0 s) (Go (107, [(19, i0), (0, s.1)], [], s.2)) := by
  unfold fB_comeTide_107
  exact pj_tLp (G := fun s : (Int × pj_W) => Go (107, [(19, i0), (0, s.1)], [], s.2)) (fun s => tB_comeTide_107b hM i0 s.1 s.2 hn0 _ (fun r h => h0 r h)  (fun s h => h)) s
theorem tB_comeTide_62b {Go : pj_C → Prop} (hM : pj_M l yX0_comeTide cX0_comeTide 2 (some .int) 2 46 true g n0 o Go) (i0 : Int) (x1 : Int) (w : pj_W) (hn0 : 0 ≤ i0) (R : (Int × pj_W) ⊕ (Int × pj_W) → Prop) (h0 : ∀ r, R (Sum.inr (r)) → ((some (0, r.1) : Option pj_V), r.2) = o) (hk62 : ∀ s, R (Sum.inl s) → Go (62, [(19, i0), (0, s.1)], [], s.2)) : pj_TG R (fB_comeTide_62b i0 x1 w) (Go (62, [(19, i0), (0, x1)], [], w)) := by
  unfold fB_comeTide_62b
  refine pj_map (fun k => pj_iload_n hM (pc := 62) dX0_comeTide_62 rfl (pj_aload_n hM (pc := 63) dX0_comeTide_63 rfl rfl (pj_gf hM (pc := 64) (t := 0) dX0_comeTide_64 fl_X0_44 hn0 rfl 7 rfl k))) ?_
  refine pj_tif (fun h1 => ?_) (fun h1 => ?_)
  · refine pj_tmap ?_
    refine pj_map (fun k => pj_ic_ge_t hM (pc := 67) dX0_comeTide_67 rfl h1 (pj_iconst hM (pc := 105) dX0_comeTide_105 (by decide) (pj_istore_n hM (pc := 106) dX0_comeTide_106 (by decide) (lls' := [(19, i0), (0, 0)]) rfl (pj_kill hM [true, true] (lls' := [(19, i0), (0, 0)]) rfl k)))) ?_
    exact tB_comeTide_107 hM i0 hn0 _ h0 _
  refine pj_tgd (fun h2 => ?_)
  refine pj_tbind (fun p3 h4 => ?_)
  refine pj_map (fun k => pj_ic_ge_f hM (pc := 67) 105 dX0_comeTide_67 rfl h1 (pj_aload_n hM (pc := 70) dX0_comeTide_70 rfl rfl (pj_getF hM (pc := 71) (t := 20) dX0_comeTide_71 fl_X0_13 hn0 rfl rfl (pj_iload_n hM (pc := 74) dX0_comeTide_74 rfl (pj_aald hM (pc := 75) (fun s : Int => 6 * i0 + s) dX0_comeTide_75 (by decide) rfl (fun _ => rfl) ⟨_, rfl⟩ (by decide) hn0 h2 (fun _ => rfl) (by show (0 : Int) ≤ (6 * i0 + x1); omega) (pj_dup hM (pc := 76) dX0_comeTide_76 (by decide) (pj_gf hM (pc := 77) (t := 0) dX0_comeTide_77 fl_X0_70 (by show (0 : Int) ≤ (6 * i0 + x1); omega) rfl 3 rfl (pj_aload_n hM (pc := 80) dX0_comeTide_80 rfl rfl (pj_iload_n hM (pc := 81) dX0_comeTide_81 rfl (pj_cV hM (pc := 82) (cB_strewnBy i0 x1 hn0 w p3 h4) dX0_comeTide_82 mf_X0_strewnBy mv_X0_strewnBy ml_X0_146 kc_19 rfl rfl hn0 rfl rfl (pj_iadd hM (pc := 85) dX0_comeTide_85 (pj_pf hM (pc := 86) dX0_comeTide_86 fl_X0_70 (by show (0 : Int) ≤ (6 * i0 + x1); omega) rfl (fun h => absurd h (by decide)) (by decide) (fun _ => rfl) 3 rfl (pj_aload_n hM (pc := 89) dX0_comeTide_89 rfl rfl (pj_getF hM (pc := 90) (t := 20) dX0_comeTide_90 fl_X0_13 hn0 rfl rfl (pj_iload_n hM (pc := 93) dX0_comeTide_93 rfl (pj_aald hM (pc := 94) (fun s : Int => 6 * i0 + s) dX0_comeTide_94 (by decide) rfl (fun _ => rfl) ⟨_, rfl⟩ (by decide) hn0 h2 (fun _ => rfl) (by show (0 : Int) ≤ (6 * i0 + x1); omega) (pj_iconst hM (pc := 95) dX0_comeTide_95 (by decide) (pj_pf hM (pc := 96) dX0_comeTide_96 fl_X0_73 (by show (0 : Int) ≤ (6 * i0 + x1); omega) rfl (fun h => absurd h (by decide)) (by decide) (fun _ => rfl) 4 rfl k)))))))))))))))))) ?_
  refine pj_tlet (fun w5 => Go (99, [(19, i0), (0, x1)], [], w5)) (fun w5 => ?_)
  exact pj_tret (fun hr => pj_iinc hM (pc := 99) dX0_comeTide_99 rfl (by decide) (lls' := [(19, i0), (0, (pj_wr (x1 + 1)))]) rfl (pj_goto hM (pc := 102) dX0_comeTide_102 rfl (pj_kill hM [true, true] (lls' := [(19, i0), (0, (pj_wr (x1 + 1)))]) rfl ((hk62 _ hr)))))
theorem tB_comeTide_62 {Go : pj_C → Prop} (hM : pj_M l yX0_comeTide cX0_comeTide 2 (some .int) 2 46 true g n0 o Go) (i0 : Int) (hn0 : 0 ≤ i0) (R : Int × pj_W → Prop) (h0 : ∀ r, R (r) → ((some (0, r.1) : Option pj_V), r.2) = o) (s : (Int × pj_W)) : pj_TG R (fB_comeTide_62 i0 s) (Go (62, [(19, i0), (0, s.1)], [], s.2)) := by
  unfold fB_comeTide_62
  exact pj_tLp (G := fun s : (Int × pj_W) => Go (62, [(19, i0), (0, s.1)], [], s.2)) (fun s => tB_comeTide_62b hM i0 s.1 s.2 hn0 _ (fun r h => h0 r h)  (fun s h => h)) s
theorem tB_comeTide_23b {Go : pj_C → Prop} (hM : pj_M l yX0_comeTide cX0_comeTide 2 (some .int) 2 46 true g n0 o Go) (i0 : Int) (x1 : Int) (w : pj_W) (hn0 : 0 ≤ i0) (R : (Int × pj_W) ⊕ (Int × pj_W) → Prop) (h0 : ∀ r, R (Sum.inr (r)) → ((some (0, r.1) : Option pj_V), r.2) = o) (hk23 : ∀ s, R (Sum.inl s) → Go (23, [(19, i0), (0, s.1)], [], s.2)) : pj_TG R (fB_comeTide_23b i0 x1 w) (Go (23, [(19, i0), (0, x1)], [], w)) := by
  unfold fB_comeTide_23b
  refine pj_map (fun k => pj_iload_n hM (pc := 23) dX0_comeTide_23 rfl (pj_aload_n hM (pc := 24) dX0_comeTide_24 rfl rfl (pj_gf hM (pc := 25) (t := 0) dX0_comeTide_25 fl_X0_47 hn0 rfl 8 rfl k))) ?_
  refine pj_tif (fun h1 => ?_) (fun h1 => ?_)
  · refine pj_tmap ?_
    refine pj_map (fun k => pj_ic_ge_t hM (pc := 28) dX0_comeTide_28 rfl h1 (pj_iconst hM (pc := 60) dX0_comeTide_60 (by decide) (pj_istore_n hM (pc := 61) dX0_comeTide_61 (by decide) (lls' := [(19, i0), (0, 0)]) rfl (pj_kill hM [true, true] (lls' := [(19, i0), (0, 0)]) rfl k)))) ?_
    exact tB_comeTide_62 hM i0 hn0 _ h0 _
  refine pj_tgd (fun h2 => ?_)
  refine pj_tbind (fun p3 h4 => ?_)
  refine pj_tbind (fun p5 h6 => ?_)
  exact pj_tret (fun hr => pj_ic_ge_f hM (pc := 28) 60 dX0_comeTide_28 rfl h1 (pj_aload_n hM (pc := 31) dX0_comeTide_31 rfl rfl (pj_aload_n hM (pc := 32) dX0_comeTide_32 rfl rfl (pj_getF hM (pc := 33) (t := 21) dX0_comeTide_33 fl_X0_19 hn0 rfl rfl (pj_iload_n hM (pc := 36) dX0_comeTide_36 rfl (pj_aald hM (pc := 37) (fun s : Int => 8 * i0 + s) dX0_comeTide_37 (by decide) rfl (fun _ => rfl) ⟨_, rfl⟩ (by decide) hn0 h2 (fun _ => rfl) (by show (0 : Int) ≤ (8 * i0 + x1); omega) (pj_gf hM (pc := 38) (t := 0) dX0_comeTide_38 fl_X0_81 (by show (0 : Int) ≤ (8 * i0 + x1); omega) rfl 4 rfl (pj_aload_n hM (pc := 41) dX0_comeTide_41 rfl rfl (pj_aload_n hM (pc := 42) dX0_comeTide_42 rfl rfl (pj_getF hM (pc := 43) (t := 21) dX0_comeTide_43 fl_X0_19 hn0 rfl rfl (pj_iload_n hM (pc := 46) dX0_comeTide_46 rfl (pj_aald hM (pc := 47) (fun s : Int => 8 * i0 + s) dX0_comeTide_47 (by decide) rfl (fun _ => rfl) ⟨_, rfl⟩ (by decide) hn0 h2 (fun _ => rfl) (by show (0 : Int) ≤ (8 * i0 + x1); omega) (pj_cV hM (pc := 48) (cB_heirs i0 (8 * i0 + x1) hn0 w p3 h4) dX0_comeTide_48 mf_X0_heirs mv_X0_heirs ml_X0_139 kc_19 rfl rfl hn0 rfl rfl (pj_cVv hM (pc := 51) (cB_give i0 (w 23 (8 * i0 + x1) 4) p3 hn0 w p5 h6) dX0_comeTide_51 mf_X0_give mv_X0_give ml_X0_143 kc_19 rfl rfl hn0 rfl rfl (pj_iinc hM (pc := 54) dX0_comeTide_54 rfl (by decide) (lls' := [(19, i0), (0, (pj_wr (x1 + 1)))]) rfl (pj_goto hM (pc := 57) dX0_comeTide_57 rfl (pj_kill hM [true, true] (lls' := [(19, i0), (0, (pj_wr (x1 + 1)))]) rfl ((hk23 _ hr)))))))))))))))))))
theorem tB_comeTide_23 {Go : pj_C → Prop} (hM : pj_M l yX0_comeTide cX0_comeTide 2 (some .int) 2 46 true g n0 o Go) (i0 : Int) (hn0 : 0 ≤ i0) (R : Int × pj_W → Prop) (h0 : ∀ r, R (r) → ((some (0, r.1) : Option pj_V), r.2) = o) (s : (Int × pj_W)) : pj_TG R (fB_comeTide_23 i0 s) (Go (23, [(19, i0), (0, s.1)], [], s.2)) := by
  unfold fB_comeTide_23
  exact pj_tLp (G := fun s : (Int × pj_W) => Go (23, [(19, i0), (0, s.1)], [], s.2)) (fun s => tB_comeTide_23b hM i0 s.1 s.2 hn0 _ (fun r h => h0 r h)  (fun s h => h)) s
theorem tB_comeTide {Go : pj_C → Prop} (hM : pj_M l yX0_comeTide cX0_comeTide 2 (some .int) 2 46 true g n0 o Go) (i0 : Int) (w : pj_W) (hn0 : 0 ≤ i0) (R : Int × pj_W → Prop) (h0 : ∀ r, R (r) → ((some (0, r.1) : Option pj_V), r.2) = o) : pj_TG R (fB_comeTide i0 w) (Go (0, [(19, i0), (9, 0)], [], w)) := by
  unfold fB_comeTide
  refine pj_map (fun k => pj_aload_n hM (pc := 0) dX0_comeTide_0 rfl rfl (pj_gf hM (pc := 1) (t := 0) dX0_comeTide_1 fl_X0_41 hn0 rfl 6 rfl (pj_bipush hM (pc := 4) dX0_comeTide_4 (by decide) k))) ?_
  refine pj_tif (fun h1 => ?_) (fun h1 => ?_)
  · refine pj_tbind (fun p2 h3 => ?_)
    refine pj_map (fun k => pj_ic_lt_t hM (pc := 6) dX0_comeTide_6 rfl h1 (pj_aload_n hM (pc := 11) dX0_comeTide_11 rfl rfl (pj_cV hM (pc := 12) (cB_thereSet i0 hn0 w p2 h3) dX0_comeTide_12 mf_X0_thereSet mv_X0_thereSet ml_X0_136 kc_19 rfl rfl hn0 rfl rfl k))) ?_
    refine pj_tif (fun h4 => ?_) (fun h4 => ?_)
    · exact pj_tret (fun hr => pj_if_ne_f hM (pc := 15) 21 dX0_comeTide_15 rfl (fun q => q h4) (pj_bipush hM (pc := 18) dX0_comeTide_18 (by decide) (pj_ret hM (pc := 20) dX0_comeTide_20 ⟨_, rfl⟩ (h0 ((7, w)) hr) rfl)))
    refine pj_map (fun k => pj_if_ne_t hM (pc := 15) dX0_comeTide_15 rfl h4 (pj_iconst hM (pc := 21) dX0_comeTide_21 (by decide) (pj_istore_n hM (pc := 22) dX0_comeTide_22 (by decide) (lls' := [(19, i0), (0, 0)]) rfl (pj_kill hM [true, true] (lls' := [(19, i0), (0, 0)]) rfl k)))) ?_
    exact tB_comeTide_23 hM i0 hn0 _ h0 _
  exact pj_tret (fun hr => pj_ic_lt_f hM (pc := 6) 11 dX0_comeTide_6 rfl h1 (pj_iconst hM (pc := 9) dX0_comeTide_9 (by decide) (pj_ret hM (pc := 10) dX0_comeTide_10 ⟨_, rfl⟩ (h0 ((4, w)) hr) rfl)))
theorem cB_comeTide (i0 : Int) (hn0 : 0 ≤ i0) (w : pj_W) (r : Int × pj_W) (h : fB_comeTide i0 w = some r) : pj_Cn l yX0_comeTide cX0_comeTide 2 (some .int) 2 46 true g [(19, i0)] w ((some (0, r.1) : Option pj_V), r.2) :=
  pj_Cn_of rfl (Nat.le_of_ble_eq_true rfl) (lls := [(19, i0), (9, 0)]) rfl (fun Go hM => tB_comeTide hM i0 w hn0 (fun x => ((some (0, x.1) : Option pj_V), x.2) = ((some (0, r.1) : Option pj_V), r.2)) (fun r h => h) r h rfl)
noncomputable def fL_tried_14 (x1 : Int) (w : pj_W) : Option (Int × pj_W) :=
  some (((pj_wr (x1 + 1)), w))
noncomputable def fL_tried (x1 : Int) (x2 : Int) (w : pj_W) : Option (Int × pj_W) :=
  if x2 = 0 then (fL_tried_14 x1 w) else (fL_tried_14 x1 (pj_set w 42 0 0 (pj_wr ((w 42 0 0) + 1))))
theorem tL_tried_14 {Go : pj_C → Prop} (hM : pj_M l yX6_tried cX6_tried 3 (some .int) 0 0 true g n0 o Go) (x1 : Int) (w : pj_W)  (R : Int × pj_W → Prop) (h0 : ∀ r, R (r) → ((some (0, r.1) : Option pj_V), r.2) = o) : pj_TG R (fL_tried_14 x1 w) (Go (14, [(18, 0), (0, x1), (9, 0)], [], w)) := by
  unfold fL_tried_14
  exact pj_tret (fun hr => pj_iload_n hM (pc := 14) dX6_tried_14 rfl (pj_iconst hM (pc := 15) dX6_tried_15 (by decide) (pj_iadd hM (pc := 16) dX6_tried_16 (pj_ret hM (pc := 17) dX6_tried_17 ⟨_, rfl⟩ (h0 (((pj_wr (x1 + 1)), w)) hr) rfl))))
theorem tL_tried {Go : pj_C → Prop} (hM : pj_M l yX6_tried cX6_tried 3 (some .int) 0 0 true g n0 o Go) (x1 : Int) (x2 : Int) (w : pj_W)  (R : Int × pj_W → Prop) (h0 : ∀ r, R (r) → ((some (0, r.1) : Option pj_V), r.2) = o) : pj_TG R (fL_tried x1 x2 w) (Go (0, [(18, 0), (0, x1), (0, x2)], [], w)) := by
  unfold fL_tried
  refine pj_map (fun k => pj_iload_n hM (pc := 0) dX6_tried_0 rfl k) ?_
  refine pj_tif (fun h1 => ?_) (fun h1 => ?_)
  · refine pj_map (fun k => pj_if_eq_t hM (pc := 1) dX6_tried_1 rfl h1 (pj_kill hM [true, true, false] (lls' := [(18, 0), (0, x1), (9, 0)]) rfl k)) ?_
    exact tL_tried_14 hM x1 w _ h0
  refine pj_map (fun k => pj_if_eq_f hM (pc := 1) 14 dX6_tried_1 rfl h1 (pj_aload_n hM (pc := 4) dX6_tried_4 rfl rfl (pj_getF hM (pc := 5) (t := 42) dX6_tried_5 fl_X6_11 (by decide) rfl rfl (pj_iconst hM (pc := 8) dX6_tried_8 (by decide) (pj_dup2 hM (pc := 9) dX6_tried_9 (by decide) (by decide) (pj_ial hM (pc := 10) dX6_tried_10 ki_42 (by decide) (by decide) (pj_iconst hM (pc := 11) dX6_tried_11 (by decide) (pj_iadd hM (pc := 12) dX6_tried_12 (pj_ias hM (pc := 13) dX6_tried_13 ki_42 (by decide) (by decide) (pj_kill hM [true, true, false] (lls' := [(18, 0), (0, x1), (9, 0)]) rfl k)))))))))) ?_
  exact tL_tried_14 hM x1 (pj_set w 42 0 0 (pj_wr ((w 42 0 0) + 1))) _ h0
theorem cL_tried (x1 : Int) (x2 : Int)  (w : pj_W) (r : Int × pj_W) (h : fL_tried x1 x2 w = some r) : pj_Cn l yX6_tried cX6_tried 3 (some .int) 0 0 true g [(18, 0), (0, x1), (0, x2)] w ((some (0, r.1) : Option pj_V), r.2) :=
  pj_Cn_of rfl (Nat.le_of_ble_eq_true rfl) (lls := [(18, 0), (0, x1), (0, x2)]) rfl (fun Go hM => tL_tried hM x1 x2 w (fun x => ((some (0, x.1) : Option pj_V), x.2) = ((some (0, r.1) : Option pj_V), r.2)) (fun r h => h) r h rfl)
noncomputable def fL_comeTideAndDawn_30 (x1 : Int) (x2 : Int) (w : pj_W) : Option (Int × pj_W) :=
  (fL_tried x1 x2 w).bind fun p1 => (some ((p1.1, p1.2)))
noncomputable def fL_comeTideAndDawn (x1 : Int) (w : pj_W) : Option (Int × pj_W) :=
  if 0 ≤ (w 18 0 2) then ((fB_comeTide (w 18 0 2) w).bind fun p2 => (if p2.1 = 0 then (if 0 ≤ (p2.2 18 0 2) then ((fB_comeDawn (p2.2 18 0 2) p2.2).bind fun p6 => (fL_comeTideAndDawn_30 x1 p2.1 (pj_set p6.2 42 0 3 (pj_wr ((p6.2 42 0 3) + 1))))) else none) else (fL_comeTideAndDawn_30 x1 p2.1 p2.2))) else none
theorem tL_comeTideAndDawn_30 {Go : pj_C → Prop} (hM : pj_M l yX6_comeTideAndDawn cX6_comeTideAndDawn 3 (some .int) 3 67 true g n0 o Go) (x1 : Int) (x2 : Int) (w : pj_W)  (R : Int × pj_W → Prop) (h0 : ∀ r, R (r) → ((some (0, r.1) : Option pj_V), r.2) = o) : pj_TG R (fL_comeTideAndDawn_30 x1 x2 w) (Go (30, [(18, 0), (0, x1), (0, x2)], [], w)) := by
  unfold fL_comeTideAndDawn_30
  refine pj_tbind (fun p1 h2 => ?_)
  exact pj_tret (fun hr => pj_aload_n hM (pc := 30) dX6_comeTideAndDawn_30 rfl rfl (pj_iload_n hM (pc := 31) dX6_comeTideAndDawn_31 rfl (pj_iload_n hM (pc := 32) dX6_comeTideAndDawn_32 rfl (pj_cV hM (pc := 33) (cL_tried x1 x2 w p1 h2) dX6_comeTideAndDawn_33 mf_X6_tried mv_X6_tried ml_X6_63 kc_18 rfl rfl (by decide) rfl rfl (pj_ret hM (pc := 36) dX6_comeTideAndDawn_36 ⟨_, rfl⟩ (h0 ((p1.1, p1.2)) hr) rfl)))))
theorem tL_comeTideAndDawn {Go : pj_C → Prop} (hM : pj_M l yX6_comeTideAndDawn cX6_comeTideAndDawn 3 (some .int) 3 67 true g n0 o Go) (x1 : Int) (w : pj_W)  (R : Int × pj_W → Prop) (h0 : ∀ r, R (r) → ((some (0, r.1) : Option pj_V), r.2) = o) : pj_TG R (fL_comeTideAndDawn x1 w) (Go (0, [(18, 0), (0, x1), (9, 0)], [], w)) := by
  unfold fL_comeTideAndDawn
  refine pj_tgd (fun h1 => ?_)
  refine pj_tbind (fun p2 h3 => ?_)
  refine pj_map (fun k => pj_aload_n hM (pc := 0) dX6_comeTideAndDawn_0 rfl rfl (pj_gf hM (pc := 1) (t := 19) dX6_comeTideAndDawn_1 fl_X6_20 (by decide) rfl 2 rfl (pj_cV hM (pc := 4) (cB_comeTide (w 18 0 2) h1 w p2 h3) dX6_comeTideAndDawn_4 mf_X0_comeTide mv_X0_comeTide ml_X6_129 kc_19 rfl rfl h1 rfl rfl (pj_istore_n hM (pc := 7) dX6_comeTideAndDawn_7 (by decide) (lls' := [(18, 0), (0, x1), (0, p2.1)]) rfl (pj_iload_n hM (pc := 8) dX6_comeTideAndDawn_8 rfl k))))) ?_
  refine pj_tif (fun h4 => ?_) (fun h4 => ?_)
  · refine pj_tgd (fun h5 => ?_)
    refine pj_tbind (fun p6 h7 => ?_)
    refine pj_map (fun k => pj_if_ne_f hM (pc := 9) 30 dX6_comeTideAndDawn_9 rfl (fun q => q h4) (pj_aload_n hM (pc := 12) dX6_comeTideAndDawn_12 rfl rfl (pj_gf hM (pc := 13) (t := 19) dX6_comeTideAndDawn_13 fl_X6_20 (by decide) rfl 2 rfl (pj_cV hM (pc := 16) (cB_comeDawn (p2.2 18 0 2) h5 p2.2 p6 h7) dX6_comeTideAndDawn_16 mf_X0_comeDawn mv_X0_comeDawn ml_X6_133 kc_19 rfl rfl h5 rfl rfl (pj_pop hM (pc := 19) dX6_comeTideAndDawn_19 (by decide) (pj_aload_n hM (pc := 20) dX6_comeTideAndDawn_20 rfl rfl (pj_getF hM (pc := 21) (t := 42) dX6_comeTideAndDawn_21 fl_X6_11 (by decide) rfl rfl (pj_iconst hM (pc := 24) dX6_comeTideAndDawn_24 (by decide) (pj_dup2 hM (pc := 25) dX6_comeTideAndDawn_25 (by decide) (by decide) (pj_ial hM (pc := 26) dX6_comeTideAndDawn_26 ki_42 (by decide) (by decide) (pj_iconst hM (pc := 27) dX6_comeTideAndDawn_27 (by decide) (pj_iadd hM (pc := 28) dX6_comeTideAndDawn_28 (pj_ias hM (pc := 29) dX6_comeTideAndDawn_29 ki_42 (by decide) (by decide) (pj_kill hM [true, true, true] (lls' := [(18, 0), (0, x1), (0, p2.1)]) rfl k)))))))))))))) ?_
    exact tL_comeTideAndDawn_30 hM x1 p2.1 (pj_set p6.2 42 0 3 (pj_wr ((p6.2 42 0 3) + 1))) _ h0
  refine pj_map (fun k => pj_if_ne_t hM (pc := 9) dX6_comeTideAndDawn_9 rfl h4 (pj_kill hM [true, true, true] (lls' := [(18, 0), (0, x1), (0, p2.1)]) rfl k)) ?_
  exact tL_comeTideAndDawn_30 hM x1 p2.1 p2.2 _ h0
theorem cL_comeTideAndDawn (x1 : Int)  (w : pj_W) (r : Int × pj_W) (h : fL_comeTideAndDawn x1 w = some r) : pj_Cn l yX6_comeTideAndDawn cX6_comeTideAndDawn 3 (some .int) 3 67 true g [(18, 0), (0, x1)] w ((some (0, r.1) : Option pj_V), r.2) :=
  pj_Cn_of rfl (Nat.le_of_ble_eq_true rfl) (lls := [(18, 0), (0, x1), (9, 0)]) rfl (fun Go hM => tL_comeTideAndDawn hM x1 w (fun x => ((some (0, x.1) : Option pj_V), x.2) = ((some (0, r.1) : Option pj_V), r.2)) (fun r h => h) r h rfl)
noncomputable def fB_washBelow_59 (i0 : Int) (x1 : Int) (x2 : Int) (x3 : Int) (w : pj_W) : Option ((Int × Int × pj_W) ⊕ (Int × pj_W)) :=
  some (Sum.inl (x2, (pj_wr (x3 + 1)), w))
noncomputable def fB_washBelow_16b (i0 : Int) (x1 : Int) (x2 : Int) (x3 : Int) (w : pj_W) : Option ((Int × Int × pj_W) ⊕ (Int × pj_W)) :=
  if (w 19 i0 8) ≤ x3 then ((fB_done i0 x2 w).bind fun p2 => (some (Sum.inr ((p2.1, p2.2))))) else (if 0 ≤ x3 ∧ x3 < 8 then (if x1 ≤ (w 23 (8 * i0 + x3) 3) then (fB_washBelow_59 i0 x1 x2 x3 w) else (fB_washBelow_59 i0 x1 (pj_wr (x2 + (w 23 (8 * i0 + x3) 6))) x3 (pj_set w 23 (8 * i0 + x3) 6 0))) else none)
noncomputable def fB_washBelow_16 (i0 : Int) (x1 : Int) (s : (Int × Int × pj_W)) : Option (Int × pj_W) := pj_Lp (fun s : (Int × Int × pj_W) => fB_washBelow_16b i0 x1 s.1 s.2.1 s.2.2) s
noncomputable def fB_washBelow (i0 : Int) (x1 : Int) (w : pj_W) : Option (Int × pj_W) :=
  if x1 < 0 then (some ((1, w))) else (if x1 ≤ 40 then (fB_washBelow_16 i0 x1 (0, 0, w)) else (some ((1, w))))
theorem tB_washBelow_59 {Go : pj_C → Prop} (hM : pj_M l yX0_washBelow cX0_washBelow 4 (some .int) 1 21 true g n0 o Go) (i0 : Int) (x1 : Int) (x2 : Int) (x3 : Int) (w : pj_W) (hn0 : 0 ≤ i0) (R : (Int × Int × pj_W) ⊕ (Int × pj_W) → Prop) (h0 : ∀ r, R (Sum.inr (r)) → ((some (0, r.1) : Option pj_V), r.2) = o) (hk16 : ∀ s, R (Sum.inl s) → Go (16, [(19, i0), (0, x1), (0, s.1), (0, s.2.1)], [], s.2.2)) : pj_TG R (fB_washBelow_59 i0 x1 x2 x3 w) (Go (59, [(19, i0), (0, x1), (0, x2), (0, x3)], [], w)) := by
  unfold fB_washBelow_59
  exact pj_tret (fun hr => pj_iinc hM (pc := 59) dX0_washBelow_59 rfl (by decide) (lls' := [(19, i0), (0, x1), (0, x2), (0, (pj_wr (x3 + 1)))]) rfl (pj_goto hM (pc := 62) dX0_washBelow_62 rfl (pj_kill hM [true, true, true, true] (lls' := [(19, i0), (0, x1), (0, x2), (0, (pj_wr (x3 + 1)))]) rfl ((hk16 _ hr)))))
theorem tB_washBelow_16b {Go : pj_C → Prop} (hM : pj_M l yX0_washBelow cX0_washBelow 4 (some .int) 1 21 true g n0 o Go) (i0 : Int) (x1 : Int) (x2 : Int) (x3 : Int) (w : pj_W) (hn0 : 0 ≤ i0) (R : (Int × Int × pj_W) ⊕ (Int × pj_W) → Prop) (h0 : ∀ r, R (Sum.inr (r)) → ((some (0, r.1) : Option pj_V), r.2) = o) (hk16 : ∀ s, R (Sum.inl s) → Go (16, [(19, i0), (0, x1), (0, s.1), (0, s.2.1)], [], s.2.2)) : pj_TG R (fB_washBelow_16b i0 x1 x2 x3 w) (Go (16, [(19, i0), (0, x1), (0, x2), (0, x3)], [], w)) := by
  unfold fB_washBelow_16b
  refine pj_map (fun k => pj_iload_n hM (pc := 16) dX0_washBelow_16 rfl (pj_aload_n hM (pc := 17) dX0_washBelow_17 rfl rfl (pj_gf hM (pc := 18) (t := 0) dX0_washBelow_18 fl_X0_47 hn0 rfl 8 rfl k))) ?_
  refine pj_tif (fun h1 => ?_) (fun h1 => ?_)
  · refine pj_tbind (fun p2 h3 => ?_)
    exact pj_tret (fun hr => pj_ic_ge_t hM (pc := 21) dX0_washBelow_21 rfl h1 (pj_aload_n hM (pc := 65) dX0_washBelow_65 rfl rfl (pj_iload_n hM (pc := 66) dX0_washBelow_66 rfl (pj_cV hM (pc := 67) (cB_done i0 x2 hn0 w p2 h3) dX0_washBelow_67 mf_X0_done mv_X0_done ml_X0_91 kc_19 rfl rfl hn0 rfl rfl (pj_ret hM (pc := 70) dX0_washBelow_70 ⟨_, rfl⟩ (h0 ((p2.1, p2.2)) hr) rfl)))))
  refine pj_tgd (fun h4 => ?_)
  refine pj_map (fun k => pj_ic_ge_f hM (pc := 21) 65 dX0_washBelow_21 rfl h1 (pj_aload_n hM (pc := 24) dX0_washBelow_24 rfl rfl (pj_getF hM (pc := 25) (t := 21) dX0_washBelow_25 fl_X0_19 hn0 rfl rfl (pj_iload_n hM (pc := 28) dX0_washBelow_28 rfl (pj_aald hM (pc := 29) (fun s : Int => 8 * i0 + s) dX0_washBelow_29 (by decide) rfl (fun _ => rfl) ⟨_, rfl⟩ (by decide) hn0 h4 (fun _ => rfl) (by show (0 : Int) ≤ (8 * i0 + x3); omega) (pj_gf hM (pc := 30) (t := 0) dX0_washBelow_30 fl_X0_80 (by show (0 : Int) ≤ (8 * i0 + x3); omega) rfl 3 rfl (pj_iload_n hM (pc := 33) dX0_washBelow_33 rfl k))))))) ?_
  refine pj_tif (fun h5 => ?_) (fun h5 => ?_)
  · refine pj_map (fun k => pj_ic_ge_t hM (pc := 34) dX0_washBelow_34 rfl h5 (pj_kill hM [true, true, true, true] (lls' := [(19, i0), (0, x1), (0, x2), (0, x3)]) rfl k)) ?_
    exact tB_washBelow_59 hM i0 x1 x2 x3 w hn0 _ h0 hk16
  refine pj_map (fun k => pj_ic_ge_f hM (pc := 34) 59 dX0_washBelow_34 rfl h5 (pj_iload_n hM (pc := 37) dX0_washBelow_37 rfl (pj_aload_n hM (pc := 38) dX0_washBelow_38 rfl rfl (pj_getF hM (pc := 39) (t := 21) dX0_washBelow_39 fl_X0_19 hn0 rfl rfl (pj_iload_n hM (pc := 42) dX0_washBelow_42 rfl (pj_aald hM (pc := 43) (fun s : Int => 8 * i0 + s) dX0_washBelow_43 (by decide) rfl (fun _ => rfl) ⟨_, rfl⟩ (by decide) hn0 h4 (fun _ => rfl) (by show (0 : Int) ≤ (8 * i0 + x3); omega) (pj_gf hM (pc := 44) (t := 0) dX0_washBelow_44 fl_X0_88 (by show (0 : Int) ≤ (8 * i0 + x3); omega) rfl 6 rfl (pj_iadd hM (pc := 47) dX0_washBelow_47 (pj_istore_n hM (pc := 48) dX0_washBelow_48 (by decide) (lls' := [(19, i0), (0, x1), (0, (pj_wr (x2 + (w 23 (8 * i0 + x3) 6)))), (0, x3)]) rfl (pj_aload_n hM (pc := 49) dX0_washBelow_49 rfl rfl (pj_getF hM (pc := 50) (t := 21) dX0_washBelow_50 fl_X0_19 hn0 rfl rfl (pj_iload_n hM (pc := 53) dX0_washBelow_53 rfl (pj_aald hM (pc := 54) (fun s : Int => 8 * i0 + s) dX0_washBelow_54 (by decide) rfl (fun _ => rfl) ⟨_, rfl⟩ (by decide) hn0 h4 (fun _ => rfl) (by show (0 : Int) ≤ (8 * i0 + x3); omega) (pj_iconst hM (pc := 55) dX0_washBelow_55 (by decide) (pj_pf hM (pc := 56) dX0_washBelow_56 fl_X0_88 (by show (0 : Int) ≤ (8 * i0 + x3); omega) rfl (fun h => absurd h (by decide)) (by decide) (fun _ => rfl) 6 rfl (pj_kill hM [true, true, true, true] (lls' := [(19, i0), (0, x1), (0, (pj_wr (x2 + (w 23 (8 * i0 + x3) 6)))), (0, x3)]) rfl k)))))))))))))))) ?_
  exact tB_washBelow_59 hM i0 x1 (pj_wr (x2 + (w 23 (8 * i0 + x3) 6))) x3 (pj_set w 23 (8 * i0 + x3) 6 0) hn0 _ h0 hk16
theorem tB_washBelow_16 {Go : pj_C → Prop} (hM : pj_M l yX0_washBelow cX0_washBelow 4 (some .int) 1 21 true g n0 o Go) (i0 : Int) (x1 : Int) (hn0 : 0 ≤ i0) (R : Int × pj_W → Prop) (h0 : ∀ r, R (r) → ((some (0, r.1) : Option pj_V), r.2) = o) (s : (Int × Int × pj_W)) : pj_TG R (fB_washBelow_16 i0 x1 s) (Go (16, [(19, i0), (0, x1), (0, s.1), (0, s.2.1)], [], s.2.2)) := by
  unfold fB_washBelow_16
  exact pj_tLp (G := fun s : (Int × Int × pj_W) => Go (16, [(19, i0), (0, x1), (0, s.1), (0, s.2.1)], [], s.2.2)) (fun s => tB_washBelow_16b hM i0 x1 s.1 s.2.1 s.2.2 hn0 _ (fun r h => h0 r h)  (fun s h => h)) s
theorem tB_washBelow {Go : pj_C → Prop} (hM : pj_M l yX0_washBelow cX0_washBelow 4 (some .int) 1 21 true g n0 o Go) (i0 : Int) (x1 : Int) (w : pj_W) (hn0 : 0 ≤ i0) (R : Int × pj_W → Prop) (h0 : ∀ r, R (r) → ((some (0, r.1) : Option pj_V), r.2) = o) : pj_TG R (fB_washBelow i0 x1 w) (Go (0, [(19, i0), (0, x1), (9, 0), (9, 0)], [], w)) := by
  unfold fB_washBelow
  refine pj_map (fun k => pj_iload_n hM (pc := 0) dX0_washBelow_0 rfl k) ?_
  refine pj_tif (fun h1 => ?_) (fun h1 => ?_)
  · exact pj_tret (fun hr => pj_if_lt_t hM (pc := 1) dX0_washBelow_1 rfl h1 (pj_iconst hM (pc := 10) dX0_washBelow_10 (by decide) (pj_ret hM (pc := 11) dX0_washBelow_11 ⟨_, rfl⟩ (h0 ((1, w)) hr) rfl)))
  refine pj_map (fun k => pj_if_lt_f hM (pc := 1) 10 dX0_washBelow_1 rfl h1 (pj_iload_n hM (pc := 4) dX0_washBelow_4 rfl (pj_bipush hM (pc := 5) dX0_washBelow_5 (by decide) k))) ?_
  refine pj_tif (fun h2 => ?_) (fun h2 => ?_)
  · refine pj_map (fun k => pj_ic_le_t hM (pc := 7) dX0_washBelow_7 rfl h2 (pj_iconst hM (pc := 12) dX0_washBelow_12 (by decide) (pj_istore_n hM (pc := 13) dX0_washBelow_13 (by decide) (lls' := [(19, i0), (0, x1), (0, 0), (9, 0)]) rfl (pj_iconst hM (pc := 14) dX0_washBelow_14 (by decide) (pj_istore_n hM (pc := 15) dX0_washBelow_15 (by decide) (lls' := [(19, i0), (0, x1), (0, 0), (0, 0)]) rfl (pj_kill hM [true, true, true, true] (lls' := [(19, i0), (0, x1), (0, 0), (0, 0)]) rfl k)))))) ?_
    exact tB_washBelow_16 hM i0 x1 hn0 _ h0 _
  exact pj_tret (fun hr => pj_ic_le_f hM (pc := 7) 12 dX0_washBelow_7 rfl h2 (pj_iconst hM (pc := 10) dX0_washBelow_10 (by decide) (pj_ret hM (pc := 11) dX0_washBelow_11 ⟨_, rfl⟩ (h0 ((1, w)) hr) rfl)))
theorem cB_washBelow (i0 : Int) (x1 : Int) (hn0 : 0 ≤ i0) (w : pj_W) (r : Int × pj_W) (h : fB_washBelow i0 x1 w = some r) : pj_Cn l yX0_washBelow cX0_washBelow 4 (some .int) 1 21 true g [(19, i0), (0, x1)] w ((some (0, r.1) : Option pj_V), r.2) :=
  pj_Cn_of rfl (Nat.le_of_ble_eq_true rfl) (lls := [(19, i0), (0, x1), (9, 0), (9, 0)]) rfl (fun Go hM => tB_washBelow hM i0 x1 w hn0 (fun x => ((some (0, x.1) : Option pj_V), x.2) = ((some (0, r.1) : Option pj_V), r.2)) (fun r h => h) r h rfl)
noncomputable def fL_comeWave_29 (x1 : Int) (x3 : Int) (w : pj_W) : Option (Int × pj_W) :=
  (fL_tried x1 x3 w).bind fun p1 => (some ((p1.1, p1.2)))
noncomputable def fL_comeWave (x1 : Int) (x2 : Int) (w : pj_W) : Option (Int × pj_W) :=
  if 0 ≤ (w 18 0 2) then ((fB_washBelow (w 18 0 2) x2 w).bind fun p2 => (if p2.1 = 0 then (if 0 ≤ (p2.2 18 0 2) then (fL_comeWave_29 x1 p2.1 (pj_set p2.2 42 0 2 (pj_wr ((p2.2 42 0 2) + (p2.2 19 (p2.2 18 0 2) 9))))) else none) else (fL_comeWave_29 x1 p2.1 p2.2))) else none
theorem tL_comeWave_29 {Go : pj_C → Prop} (hM : pj_M l yX6_comeWave cX6_comeWave 4 (some .int) 2 44 true g n0 o Go) (x1 : Int) (x3 : Int) (w : pj_W)  (R : Int × pj_W → Prop) (h0 : ∀ r, R (r) → ((some (0, r.1) : Option pj_V), r.2) = o) : pj_TG R (fL_comeWave_29 x1 x3 w) (Go (29, [(18, 0), (0, x1), (9, 0), (0, x3)], [], w)) := by
  unfold fL_comeWave_29
  refine pj_tbind (fun p1 h2 => ?_)
  exact pj_tret (fun hr => pj_aload_n hM (pc := 29) dX6_comeWave_29 rfl rfl (pj_iload_n hM (pc := 30) dX6_comeWave_30 rfl (pj_iload_n hM (pc := 31) dX6_comeWave_31 rfl (pj_cV hM (pc := 32) (cL_tried x1 x3 w p1 h2) dX6_comeWave_32 mf_X6_tried mv_X6_tried ml_X6_63 kc_18 rfl rfl (by decide) rfl rfl (pj_ret hM (pc := 35) dX6_comeWave_35 ⟨_, rfl⟩ (h0 ((p1.1, p1.2)) hr) rfl)))))
theorem tL_comeWave {Go : pj_C → Prop} (hM : pj_M l yX6_comeWave cX6_comeWave 4 (some .int) 2 44 true g n0 o Go) (x1 : Int) (x2 : Int) (w : pj_W)  (R : Int × pj_W → Prop) (h0 : ∀ r, R (r) → ((some (0, r.1) : Option pj_V), r.2) = o) : pj_TG R (fL_comeWave x1 x2 w) (Go (0, [(18, 0), (0, x1), (0, x2), (9, 0)], [], w)) := by
  unfold fL_comeWave
  refine pj_tgd (fun h1 => ?_)
  refine pj_tbind (fun p2 h3 => ?_)
  refine pj_map (fun k => pj_aload_n hM (pc := 0) dX6_comeWave_0 rfl rfl (pj_gf hM (pc := 1) (t := 19) dX6_comeWave_1 fl_X6_20 (by decide) rfl 2 rfl (pj_iload_n hM (pc := 4) dX6_comeWave_4 rfl (pj_cV hM (pc := 5) (cB_washBelow (w 18 0 2) x2 h1 w p2 h3) dX6_comeWave_5 mf_X0_washBelow mv_X0_washBelow ml_X6_123 kc_19 rfl rfl h1 rfl rfl (pj_istore_n hM (pc := 8) dX6_comeWave_8 (by decide) (lls' := [(18, 0), (0, x1), (0, x2), (0, p2.1)]) rfl (pj_iload_n hM (pc := 9) dX6_comeWave_9 rfl k)))))) ?_
  refine pj_tif (fun h4 => ?_) (fun h4 => ?_)
  · refine pj_tgd (fun h5 => ?_)
    refine pj_map (fun k => pj_if_ne_f hM (pc := 10) 29 dX6_comeWave_10 rfl (fun q => q h4) (pj_aload_n hM (pc := 13) dX6_comeWave_13 rfl rfl (pj_getF hM (pc := 14) (t := 42) dX6_comeWave_14 fl_X6_11 (by decide) rfl rfl (pj_iconst hM (pc := 17) dX6_comeWave_17 (by decide) (pj_dup2 hM (pc := 18) dX6_comeWave_18 (by decide) (by decide) (pj_ial hM (pc := 19) dX6_comeWave_19 ki_42 (by decide) (by decide) (pj_aload_n hM (pc := 20) dX6_comeWave_20 rfl rfl (pj_gf hM (pc := 21) (t := 19) dX6_comeWave_21 fl_X6_20 (by decide) rfl 2 rfl (pj_gf hM (pc := 24) (t := 0) dX6_comeWave_24 fl_X6_126 h5 rfl 9 rfl (pj_iadd hM (pc := 27) dX6_comeWave_27 (pj_ias hM (pc := 28) dX6_comeWave_28 ki_42 (by decide) (by decide) (pj_kill hM [true, true, false, true] (lls' := [(18, 0), (0, x1), (9, 0), (0, p2.1)]) rfl k)))))))))))) ?_
    exact tL_comeWave_29 hM x1 p2.1 (pj_set p2.2 42 0 2 (pj_wr ((p2.2 42 0 2) + (p2.2 19 (p2.2 18 0 2) 9)))) _ h0
  refine pj_map (fun k => pj_if_ne_t hM (pc := 10) dX6_comeWave_10 rfl h4 (pj_kill hM [true, true, false, true] (lls' := [(18, 0), (0, x1), (9, 0), (0, p2.1)]) rfl k)) ?_
  exact tL_comeWave_29 hM x1 p2.1 p2.2 _ h0
theorem cL_comeWave (x1 : Int) (x2 : Int)  (w : pj_W) (r : Int × pj_W) (h : fL_comeWave x1 x2 w = some r) : pj_Cn l yX6_comeWave cX6_comeWave 4 (some .int) 2 44 true g [(18, 0), (0, x1), (0, x2)] w ((some (0, r.1) : Option pj_V), r.2) :=
  pj_Cn_of rfl (Nat.le_of_ble_eq_true rfl) (lls := [(18, 0), (0, x1), (0, x2), (9, 0)]) rfl (fun Go hM => tL_comeWave hM x1 x2 w (fun x => ((some (0, x.1) : Option pj_V), x.2) = ((some (0, r.1) : Option pj_V), r.2)) (fun r h => h) r h rfl)
noncomputable def fL_compares (x0 : Int) (x1 : Int) (x2 : Int) (w : pj_W) : Option (Int) :=
  if x1 = 60 then (if x2 ≤ x0 then (some (0)) else (some (1))) else if x1 = 62 then (if x0 ≤ x2 then (some (0)) else (some (1))) else (if x0 = x2 then (some (1)) else (some (0)))
theorem tL_compares {Go : pj_C → Prop} (hM : pj_M l yX6_compares cX6_compares 3 (some .boolean) 0 0 ph g n0 o Go) (x0 : Int) (x1 : Int) (x2 : Int) (w : pj_W)  (R : Int → Prop) (h0 : ∀ r, R (r) → ((some (0, r) : Option pj_V), w) = o) : pj_TG R (fL_compares x0 x1 x2 w) (Go (0, [(0, x0), (0, x1), (0, x2)], [], w)) := by
  unfold fL_compares
  refine pj_map (fun k => pj_iload_n hM (pc := 0) dX6_compares_0 rfl k) ?_
  refine pj_tif (fun h1 => ?_) (fun h1 => ?_)
  · refine pj_map (fun k => pj_look hM (pc := 1) (tgt := 28) dX6_compares_1 (by decide) (by rw [h1]; decide) (pj_iload_n hM (pc := 28) dX6_compares_28 rfl (pj_iload_n hM (pc := 29) dX6_compares_29 rfl k))) ?_
    refine pj_tif (fun h2 => ?_) (fun h2 => ?_)
    · exact pj_tret (fun hr => pj_ic_ge_t hM (pc := 30) dX6_compares_30 rfl h2 (pj_iconst hM (pc := 37) dX6_compares_37 (by decide) (pj_ret hM (pc := 38) dX6_compares_38 ⟨_, rfl, Or.inl rfl⟩ (h0 (0) hr) rfl)))
    exact pj_tret (fun hr => pj_ic_ge_f hM (pc := 30) 37 dX6_compares_30 rfl h2 (pj_iconst hM (pc := 33) dX6_compares_33 (by decide) (pj_goto hM (pc := 34) dX6_compares_34 rfl (pj_ret hM (pc := 38) dX6_compares_38 ⟨_, rfl, Or.inr rfl⟩ (h0 (1) hr) rfl))))
  refine pj_tif (fun h3 => ?_) (fun h3 => ?_)
  · refine pj_map (fun k => pj_look hM (pc := 1) (tgt := 39) dX6_compares_1 (by decide) (by rw [h3]; decide) (pj_iload_n hM (pc := 39) dX6_compares_39 rfl (pj_iload_n hM (pc := 40) dX6_compares_40 rfl k))) ?_
    refine pj_tif (fun h4 => ?_) (fun h4 => ?_)
    · exact pj_tret (fun hr => pj_ic_le_t hM (pc := 41) dX6_compares_41 rfl h4 (pj_iconst hM (pc := 48) dX6_compares_48 (by decide) (pj_ret hM (pc := 49) dX6_compares_49 ⟨_, rfl, Or.inl rfl⟩ (h0 (0) hr) rfl)))
    exact pj_tret (fun hr => pj_ic_le_f hM (pc := 41) 48 dX6_compares_41 rfl h4 (pj_iconst hM (pc := 44) dX6_compares_44 (by decide) (pj_goto hM (pc := 45) dX6_compares_45 rfl (pj_ret hM (pc := 49) dX6_compares_49 ⟨_, rfl, Or.inr rfl⟩ (h0 (1) hr) rfl))))
  refine pj_map (fun k => pj_look hM (pc := 1) (tgt := 50) dX6_compares_1 (by decide) (by simp [Op.lookupswitch.offset_cons, Op.lookupswitch.offset_nil, Ne.symm h1, Ne.symm h3]) (pj_iload_n hM (pc := 50) dX6_compares_50 rfl (pj_iload_n hM (pc := 51) dX6_compares_51 rfl k))) ?_
  refine pj_tif (fun h5 => ?_) (fun h5 => ?_)
  · exact pj_tret (fun hr => pj_ic_ne_f hM (pc := 52) 59 dX6_compares_52 rfl (fun q => q h5) (pj_iconst hM (pc := 55) dX6_compares_55 (by decide) (pj_goto hM (pc := 56) dX6_compares_56 rfl (pj_ret hM (pc := 60) dX6_compares_60 ⟨_, rfl, Or.inr rfl⟩ (h0 (1) hr) rfl))))
  exact pj_tret (fun hr => pj_ic_ne_t hM (pc := 52) dX6_compares_52 rfl h5 (pj_iconst hM (pc := 59) dX6_compares_59 (by decide) (pj_ret hM (pc := 60) dX6_compares_60 ⟨_, rfl, Or.inl rfl⟩ (h0 (0) hr) rfl)))
theorem cL_compares (x0 : Int) (x1 : Int) (x2 : Int)  (w : pj_W) (r : Int) (h : fL_compares x0 x1 x2 w = some r) : pj_Cn l yX6_compares cX6_compares 3 (some .boolean) 0 0 ph g [(0, x0), (0, x1), (0, x2)] w ((some (0, r) : Option pj_V), w) :=
  pj_Cn_of rfl (Nat.le_of_ble_eq_true rfl) (lls := [(0, x0), (0, x1), (0, x2)]) rfl (fun Go hM => tL_compares hM x0 x1 x2 w (fun x => ((some (0, x) : Option pj_V), w) = ((some (0, r) : Option pj_V), w)) (fun r h => h) r h rfl)
noncomputable def fL_draw (x1 : Int) (w : pj_W) : Option (Int × pj_W) :=
  if x1 ≤ 0 then (some ((0, (pj_set w 18 0 4 (Int.tmod (pj_wr ((pj_wr ((w 18 0 4) * 2843)) + 10709)) 65536))))) else (if ¬ x1 = 0 then (some (((Int.tmod (pj_div ((pj_set w 18 0 4 (Int.tmod (pj_wr ((pj_wr ((w 18 0 4) * 2843)) + 10709)) 65536)) 18 0 4) 8) x1), (pj_set w 18 0 4 (Int.tmod (pj_wr ((pj_wr ((w 18 0 4) * 2843)) + 10709)) 65536))))) else none)
theorem tL_draw {Go : pj_C → Prop} (hM : pj_M l yX6_draw cX6_draw 2 (some .int) 0 0 ph g n0 o Go) (x1 : Int) (w : pj_W)  (R : Int × pj_W → Prop) (h0 : ∀ r, R (r) → ((some (0, r.1) : Option pj_V), r.2) = o) : pj_TG R (fL_draw x1 w) (Go (0, [(18, 0), (0, x1)], [], w)) := by
  unfold fL_draw
  refine pj_map (fun k => pj_aload_n hM (pc := 0) dX6_draw_0 rfl rfl (pj_aload_n hM (pc := 1) dX6_draw_1 rfl rfl (pj_gf hM (pc := 2) (t := 0) dX6_draw_2 fl_X6_28 (by decide) rfl 4 rfl (pj_sipush hM (pc := 5) dX6_draw_5 (by decide) (pj_imul hM (pc := 8) dX6_draw_8 (pj_sipush hM (pc := 9) dX6_draw_9 (by decide) (pj_iadd hM (pc := 12) dX6_draw_12 (pj_ldc hM (pc := 13) (z := 65536) dX6_draw_13 kn_X6_122 rfl (by decide) (pj_irem hM (pc := 15) dX6_draw_15 (by decide) (pj_pf hM (pc := 16) dX6_draw_16 fl_X6_28 (by decide) rfl (fun h => absurd h (by decide)) (by decide) (fun _ => rfl) 4 rfl (pj_iload_n hM (pc := 19) dX6_draw_19 rfl k))))))))))) ?_
  refine pj_tif (fun h1 => ?_) (fun h1 => ?_)
  · exact pj_tret (fun hr => pj_if_le_t hM (pc := 20) dX6_draw_20 rfl h1 (pj_iconst hM (pc := 35) dX6_draw_35 (by decide) (pj_ret hM (pc := 36) dX6_draw_36 ⟨_, rfl⟩ (h0 ((0, (pj_set w 18 0 4 (Int.tmod (pj_wr ((pj_wr ((w 18 0 4) * 2843)) + 10709)) 65536)))) hr) rfl)))
  refine pj_tgd (fun h2 => ?_)
  exact pj_tret (fun hr => pj_if_le_f hM (pc := 20) 35 dX6_draw_20 rfl h1 (pj_aload_n hM (pc := 23) dX6_draw_23 rfl rfl (pj_gf hM (pc := 24) (t := 0) dX6_draw_24 fl_X6_28 (by decide) rfl 4 rfl (pj_bipush hM (pc := 27) dX6_draw_27 (by decide) (pj_idiv hM (pc := 29) dX6_draw_29 (by decide) (pj_iload_n hM (pc := 30) dX6_draw_30 rfl (pj_irem hM (pc := 31) dX6_draw_31 h2 (pj_goto hM (pc := 32) dX6_draw_32 rfl (pj_ret hM (pc := 36) dX6_draw_36 ⟨_, rfl⟩ (h0 (((Int.tmod (pj_div ((pj_set w 18 0 4 (Int.tmod (pj_wr ((pj_wr ((w 18 0 4) * 2843)) + 10709)) 65536)) 18 0 4) 8) x1), (pj_set w 18 0 4 (Int.tmod (pj_wr ((pj_wr ((w 18 0 4) * 2843)) + 10709)) 65536)))) hr) rfl)))))))))
theorem cL_draw (x1 : Int)  (w : pj_W) (r : Int × pj_W) (h : fL_draw x1 w = some r) : pj_Cn l yX6_draw cX6_draw 2 (some .int) 0 0 ph g [(18, 0), (0, x1)] w ((some (0, r.1) : Option pj_V), r.2) :=
  pj_Cn_of rfl (Nat.le_of_ble_eq_true rfl) (lls := [(18, 0), (0, x1)]) rfl (fun Go hM => tL_draw hM x1 w (fun x => ((some (0, x.1) : Option pj_V), x.2) = ((some (0, r.1) : Option pj_V), r.2)) (fun r h => h) r h rfl)
noncomputable def fL_gullMayCarry_93 (x1 : Int) (w : pj_W) : Option (Int × pj_W) :=
  some (((pj_wr (x1 + 1)), w))
noncomputable def fL_gullMayCarry_69 (x1 : Int) (x4 : Int) (x5 : Int) (w : pj_W) : Option (Int × pj_W) :=
  if 0 ≤ (w 18 0 2) then ((fB_carry (w 18 0 2) x4 x5 w).bind fun p2 => (if p2.1 = 0 then (fL_gullMayCarry_93 x1 (pj_set p2.2 42 0 1 (pj_wr ((p2.2 42 0 1) + 1)))) else (fL_gullMayCarry_93 x1 p2.2))) else none
noncomputable def fL_gullMayCarry_15 (x1 : Int) (s0 : Int) (w : pj_W) : Option (Int × pj_W) :=
  if s0 = 0 then (fL_gullMayCarry_93 x1 w) else (if 0 ≤ (w 18 0 2) then (if (w 19 (w 18 0 2) 8) < 2 then (fL_gullMayCarry_93 x1 w) else ((fL_draw (w 19 (w 18 0 2) 8) w).bind fun p4 => (if 0 ≤ (p4.2 18 0 2) then ((fL_draw (pj_wr ((p4.2 19 (p4.2 18 0 2) 8) - 1)) p4.2).bind fun p7 => (fL_gullMayCarry_69 x1 p4.1 (if p7.1 < p4.1 then p7.1 else (pj_wr (p7.1 + 1))) p7.2)) else none))) else none)
noncomputable def fL_gullMayCarry (x1 : Int) (x2 : Int) (w : pj_W) : Option (Int × pj_W) :=
  (fL_draw 16 w).bind fun p1 => (fL_gullMayCarry_15 x1 (if x2 ≤ p1.1 then (0 : Int) else 1) p1.2)
theorem tL_gullMayCarry_93 {Go : pj_C → Prop} (hM : pj_M l yX6_gullMayCarry cX6_gullMayCarry 6 (some .int) 3 70 true g n0 o Go) (x1 : Int) (w : pj_W)  (R : Int × pj_W → Prop) (h0 : ∀ r, R (r) → ((some (0, r.1) : Option pj_V), r.2) = o) : pj_TG R (fL_gullMayCarry_93 x1 w) (Go (93, [(18, 0), (0, x1), (9, 0), (9, 0), (9, 0), (9, 0)], [], w)) := by
  unfold fL_gullMayCarry_93
  exact pj_tret (fun hr => pj_iload_n hM (pc := 93) dX6_gullMayCarry_93 rfl (pj_iconst hM (pc := 94) dX6_gullMayCarry_94 (by decide) (pj_iadd hM (pc := 95) dX6_gullMayCarry_95 (pj_ret hM (pc := 96) dX6_gullMayCarry_96 ⟨_, rfl⟩ (h0 (((pj_wr (x1 + 1)), w)) hr) rfl))))
theorem tL_gullMayCarry_69 {Go : pj_C → Prop} (hM : pj_M l yX6_gullMayCarry cX6_gullMayCarry 6 (some .int) 3 70 true g n0 o Go) (x1 : Int) (x4 : Int) (x5 : Int) (w : pj_W)  (R : Int × pj_W → Prop) (h0 : ∀ r, R (r) → ((some (0, r.1) : Option pj_V), r.2) = o) : pj_TG R (fL_gullMayCarry_69 x1 x4 x5 w) (Go (69, [(18, 0), (0, x1), (9, 0), (9, 0), (0, x4), (0, x5)], [], w)) := by
  unfold fL_gullMayCarry_69
  refine pj_tgd (fun h1 => ?_)
  refine pj_tbind (fun p2 h3 => ?_)
  refine pj_map (fun k => pj_aload_n hM (pc := 69) dX6_gullMayCarry_69 rfl rfl (pj_gf hM (pc := 70) (t := 19) dX6_gullMayCarry_70 fl_X6_20 (by decide) rfl 2 rfl (pj_iload hM (pc := 73) dX6_gullMayCarry_73 rfl (pj_iload hM (pc := 75) dX6_gullMayCarry_75 rfl (pj_cV hM (pc := 77) (cB_carry (w 18 0 2) x4 x5 h1 w p2 h3) dX6_gullMayCarry_77 mf_X0_carry mv_X0_carry ml_X6_119 kc_19 rfl rfl h1 rfl rfl k))))) ?_
  refine pj_tif (fun h4 => ?_) (fun h4 => ?_)
  · refine pj_map (fun k => pj_if_ne_f hM (pc := 80) 93 dX6_gullMayCarry_80 rfl (fun q => q h4) (pj_aload_n hM (pc := 83) dX6_gullMayCarry_83 rfl rfl (pj_getF hM (pc := 84) (t := 42) dX6_gullMayCarry_84 fl_X6_11 (by decide) rfl rfl (pj_iconst hM (pc := 87) dX6_gullMayCarry_87 (by decide) (pj_dup2 hM (pc := 88) dX6_gullMayCarry_88 (by decide) (by decide) (pj_ial hM (pc := 89) dX6_gullMayCarry_89 ki_42 (by decide) (by decide) (pj_iconst hM (pc := 90) dX6_gullMayCarry_90 (by decide) (pj_iadd hM (pc := 91) dX6_gullMayCarry_91 (pj_ias hM (pc := 92) dX6_gullMayCarry_92 ki_42 (by decide) (by decide) (pj_kill hM [true, true, false, false, false, false] (lls' := [(18, 0), (0, x1), (9, 0), (9, 0), (9, 0), (9, 0)]) rfl k)))))))))) ?_
    exact tL_gullMayCarry_93 hM x1 (pj_set p2.2 42 0 1 (pj_wr ((p2.2 42 0 1) + 1))) _ h0
  refine pj_map (fun k => pj_if_ne_t hM (pc := 80) dX6_gullMayCarry_80 rfl h4 (pj_kill hM [true, true, false, false, false, false] (lls' := [(18, 0), (0, x1), (9, 0), (9, 0), (9, 0), (9, 0)]) rfl k)) ?_
  exact tL_gullMayCarry_93 hM x1 p2.2 _ h0
theorem tL_gullMayCarry_15 {Go : pj_C → Prop} (hM : pj_M l yX6_gullMayCarry cX6_gullMayCarry 6 (some .int) 3 70 true g n0 o Go) (x1 : Int) (s0 : Int) (w : pj_W)  (R : Int × pj_W → Prop) (h0 : ∀ r, R (r) → ((some (0, r.1) : Option pj_V), r.2) = o) : pj_TG R (fL_gullMayCarry_15 x1 s0 w) (Go (15, [(18, 0), (0, x1), (9, 0), (9, 0), (9, 0), (9, 0)], [(0, s0)], w)) := by
  unfold fL_gullMayCarry_15
  refine pj_map (fun k => pj_istore_n hM (pc := 15) dX6_gullMayCarry_15 (by decide) (lls' := [(18, 0), (0, x1), (9, 0), (0, s0), (9, 0), (9, 0)]) rfl (pj_iload_n hM (pc := 16) dX6_gullMayCarry_16 rfl k)) ?_
  refine pj_tif (fun h1 => ?_) (fun h1 => ?_)
  · refine pj_map (fun k => pj_if_eq_t hM (pc := 17) dX6_gullMayCarry_17 rfl h1 (pj_kill hM [true, true, false, false, false, false] (lls' := [(18, 0), (0, x1), (9, 0), (9, 0), (9, 0), (9, 0)]) rfl k)) ?_
    exact tL_gullMayCarry_93 hM x1 w _ h0
  refine pj_tgd (fun h2 => ?_)
  refine pj_map (fun k => pj_if_eq_f hM (pc := 17) 93 dX6_gullMayCarry_17 rfl h1 (pj_aload_n hM (pc := 20) dX6_gullMayCarry_20 rfl rfl (pj_gf hM (pc := 21) (t := 19) dX6_gullMayCarry_21 fl_X6_20 (by decide) rfl 2 rfl (pj_gf hM (pc := 24) (t := 0) dX6_gullMayCarry_24 fl_X6_116 h2 rfl 8 rfl (pj_iconst hM (pc := 27) dX6_gullMayCarry_27 (by decide) k))))) ?_
  refine pj_tif (fun h3 => ?_) (fun h3 => ?_)
  · refine pj_map (fun k => pj_ic_lt_t hM (pc := 28) dX6_gullMayCarry_28 rfl h3 (pj_kill hM [true, true, false, false, false, false] (lls' := [(18, 0), (0, x1), (9, 0), (9, 0), (9, 0), (9, 0)]) rfl k)) ?_
    exact tL_gullMayCarry_93 hM x1 w _ h0
  refine pj_tbind (fun p4 h5 => ?_)
  refine pj_tgd (fun h6 => ?_)
  refine pj_tbind (fun p7 h8 => ?_)
  refine pj_map (fun k => pj_ic_lt_f hM (pc := 28) 93 dX6_gullMayCarry_28 rfl h3 (pj_aload_n hM (pc := 31) dX6_gullMayCarry_31 rfl rfl (pj_aload_n hM (pc := 32) dX6_gullMayCarry_32 rfl rfl (pj_gf hM (pc := 33) (t := 19) dX6_gullMayCarry_33 fl_X6_20 (by decide) rfl 2 rfl (pj_gf hM (pc := 36) (t := 0) dX6_gullMayCarry_36 fl_X6_116 h2 rfl 8 rfl (pj_cV hM (pc := 39) (cL_draw (w 19 (w 18 0 2) 8) w p4 h5) dX6_gullMayCarry_39 mf_X6_draw mv_X6_draw ml_X6_113 kc_18 rfl rfl (by decide) rfl rfl (pj_istore hM (pc := 42) dX6_gullMayCarry_42 (by decide) (lls' := [(18, 0), (0, x1), (9, 0), (0, s0), (0, p4.1), (9, 0)]) rfl (pj_aload_n hM (pc := 44) dX6_gullMayCarry_44 rfl rfl (pj_aload_n hM (pc := 45) dX6_gullMayCarry_45 rfl rfl (pj_gf hM (pc := 46) (t := 19) dX6_gullMayCarry_46 fl_X6_20 (by decide) rfl 2 rfl (pj_gf hM (pc := 49) (t := 0) dX6_gullMayCarry_49 fl_X6_116 h6 rfl 8 rfl (pj_iconst hM (pc := 52) dX6_gullMayCarry_52 (by decide) (pj_isub hM (pc := 53) dX6_gullMayCarry_53 (pj_cV hM (pc := 54) (cL_draw (pj_wr ((p4.2 19 (p4.2 18 0 2) 8) - 1)) p4.2 p7 h8) dX6_gullMayCarry_54 mf_X6_draw mv_X6_draw ml_X6_113 kc_18 rfl rfl (by decide) rfl rfl (pj_istore hM (pc := 57) dX6_gullMayCarry_57 (by decide) (lls' := [(18, 0), (0, x1), (9, 0), (0, s0), (0, p4.1), (0, p7.1)]) rfl (pj_iload hM (pc := 59) dX6_gullMayCarry_59 rfl (pj_iload hM (pc := 61) dX6_gullMayCarry_61 rfl k))))))))))))))))) ?_
  refine pj_tJ (fun v : Int => fL_gullMayCarry_69 x1 p4.1 v p7.2) (fun h9 => ?_) (fun h9 => ?_)
  · refine pj_map (fun k => pj_ic_lt_t hM (pc := 63) dX6_gullMayCarry_63 rfl h9 (pj_kill hM [true, true, false, false, true, true] (lls' := [(18, 0), (0, x1), (9, 0), (9, 0), (0, p4.1), (0, p7.1)]) rfl k)) ?_
    exact tL_gullMayCarry_69 hM x1 p4.1 p7.1 p7.2 _ h0
  refine pj_map (fun k => pj_ic_lt_f hM (pc := 63) 69 dX6_gullMayCarry_63 rfl h9 (pj_iinc hM (pc := 66) dX6_gullMayCarry_66 rfl (by decide) (lls' := [(18, 0), (0, x1), (9, 0), (0, s0), (0, p4.1), (0, (pj_wr (p7.1 + 1)))]) rfl (pj_kill hM [true, true, false, false, true, true] (lls' := [(18, 0), (0, x1), (9, 0), (9, 0), (0, p4.1), (0, (pj_wr (p7.1 + 1)))]) rfl k))) ?_
  exact tL_gullMayCarry_69 hM x1 p4.1 (pj_wr (p7.1 + 1)) p7.2 _ h0
theorem tL_gullMayCarry {Go : pj_C → Prop} (hM : pj_M l yX6_gullMayCarry cX6_gullMayCarry 6 (some .int) 3 70 true g n0 o Go) (x1 : Int) (x2 : Int) (w : pj_W)  (R : Int × pj_W → Prop) (h0 : ∀ r, R (r) → ((some (0, r.1) : Option pj_V), r.2) = o) : pj_TG R (fL_gullMayCarry x1 x2 w) (Go (0, [(18, 0), (0, x1), (0, x2), (9, 0), (9, 0), (9, 0)], [], w)) := by
  unfold fL_gullMayCarry
  refine pj_tbind (fun p1 h2 => ?_)
  refine pj_map (fun k => pj_aload_n hM (pc := 0) dX6_gullMayCarry_0 rfl rfl (pj_bipush hM (pc := 1) dX6_gullMayCarry_1 (by decide) (pj_cV hM (pc := 3) (cL_draw 16 w p1 h2) dX6_gullMayCarry_3 mf_X6_draw mv_X6_draw ml_X6_113 kc_18 rfl rfl (by decide) rfl rfl (pj_iload_n hM (pc := 6) dX6_gullMayCarry_6 rfl k)))) ?_
  refine pj_tJ (fun v : Int => fL_gullMayCarry_15 x1 v p1.2) (fun h3 => ?_) (fun h3 => ?_)
  · refine pj_map (fun k => pj_ic_ge_t hM (pc := 7) dX6_gullMayCarry_7 rfl h3 (pj_iconst hM (pc := 14) dX6_gullMayCarry_14 (by decide) (pj_kill hM [true, true, false, false, false, false] (lls' := [(18, 0), (0, x1), (9, 0), (9, 0), (9, 0), (9, 0)]) rfl k))) ?_
    exact tL_gullMayCarry_15 hM x1 0 p1.2 _ h0
  refine pj_map (fun k => pj_ic_ge_f hM (pc := 7) 14 dX6_gullMayCarry_7 rfl h3 (pj_iconst hM (pc := 10) dX6_gullMayCarry_10 (by decide) (pj_goto hM (pc := 11) dX6_gullMayCarry_11 rfl (pj_kill hM [true, true, false, false, false, false] (lls' := [(18, 0), (0, x1), (9, 0), (9, 0), (9, 0), (9, 0)]) rfl k)))) ?_
  exact tL_gullMayCarry_15 hM x1 1 p1.2 _ h0
theorem cL_gullMayCarry (x1 : Int) (x2 : Int)  (w : pj_W) (r : Int × pj_W) (h : fL_gullMayCarry x1 x2 w = some r) : pj_Cn l yX6_gullMayCarry cX6_gullMayCarry 6 (some .int) 3 70 true g [(18, 0), (0, x1), (0, x2)] w ((some (0, r.1) : Option pj_V), r.2) :=
  pj_Cn_of rfl (Nat.le_of_ble_eq_true rfl) (lls := [(18, 0), (0, x1), (0, x2), (9, 0), (9, 0), (9, 0)]) rfl (fun Go hM => tL_gullMayCarry hM x1 x2 w (fun x => ((some (0, x.1) : Option pj_V), x.2) = ((some (0, r.1) : Option pj_V), r.2)) (fun r h => h) r h rfl)
noncomputable def fL_isFree (x0 : Int) (w : pj_W) : Option (Int) :=
  if x0 < 0 then (some (0)) else (if (w 23 x0 5) = 0 then (some (0)) else (if (w 23 x0 6) = 0 then (some (1)) else (some (0))))
theorem tL_isFree {Go : pj_C → Prop} (hM : pj_M l yX6_isFree cX6_isFree 1 (some .boolean) 0 0 ph g n0 o Go) (x0 : Int) (w : pj_W)  (R : Int → Prop) (h0 : ∀ r, R (r) → ((some (0, r) : Option pj_V), w) = o) : pj_TG R (fL_isFree x0 w) (Go (0, [(23, x0)], [], w)) := by
  unfold fL_isFree
  refine pj_map (fun k => pj_aload_n hM (pc := 0) dX6_isFree_0 rfl rfl k) ?_
  refine pj_tif (fun h1 => ?_) (fun h1 => ?_)
  · exact pj_tret (fun hr => pj_null_t hM (pc := 1) dX6_isFree_1 rfl (by decide) h1 (pj_iconst hM (pc := 22) dX6_isFree_22 (by decide) (pj_ret hM (pc := 23) dX6_isFree_23 ⟨_, rfl, Or.inl rfl⟩ (h0 (0) hr) rfl)))
  refine pj_map (fun k => pj_null_f hM (pc := 1) 22 dX6_isFree_1 rfl (by decide) h1 (pj_aload_n hM (pc := 4) dX6_isFree_4 rfl rfl (pj_gf hM (pc := 5) (t := 0) dX6_isFree_5 fl_X6_141 (Int.not_lt.mp h1) rfl 5 rfl k))) ?_
  refine pj_tif (fun h2 => ?_) (fun h2 => ?_)
  · exact pj_tret (fun hr => pj_if_eq_t hM (pc := 8) dX6_isFree_8 rfl h2 (pj_iconst hM (pc := 22) dX6_isFree_22 (by decide) (pj_ret hM (pc := 23) dX6_isFree_23 ⟨_, rfl, Or.inl rfl⟩ (h0 (0) hr) rfl)))
  refine pj_map (fun k => pj_if_eq_f hM (pc := 8) 22 dX6_isFree_8 rfl h2 (pj_aload_n hM (pc := 11) dX6_isFree_11 rfl rfl (pj_gf hM (pc := 12) (t := 0) dX6_isFree_12 fl_X6_145 (Int.not_lt.mp h1) rfl 6 rfl k))) ?_
  refine pj_tif (fun h3 => ?_) (fun h3 => ?_)
  · exact pj_tret (fun hr => pj_if_ne_f hM (pc := 15) 22 dX6_isFree_15 rfl (fun q => q h3) (pj_iconst hM (pc := 18) dX6_isFree_18 (by decide) (pj_goto hM (pc := 19) dX6_isFree_19 rfl (pj_ret hM (pc := 23) dX6_isFree_23 ⟨_, rfl, Or.inr rfl⟩ (h0 (1) hr) rfl))))
  exact pj_tret (fun hr => pj_if_ne_t hM (pc := 15) dX6_isFree_15 rfl h3 (pj_iconst hM (pc := 22) dX6_isFree_22 (by decide) (pj_ret hM (pc := 23) dX6_isFree_23 ⟨_, rfl, Or.inl rfl⟩ (h0 (0) hr) rfl)))
theorem cL_isFree (x0 : Int)  (w : pj_W) (r : Int) (h : fL_isFree x0 w = some r) : pj_Cn l yX6_isFree cX6_isFree 1 (some .boolean) 0 0 ph g [(23, x0)] w ((some (0, r) : Option pj_V), w) :=
  pj_Cn_of rfl (Nat.le_of_ble_eq_true rfl) (lls := [(23, x0)]) rfl (fun Go hM => tL_isFree hM x0 w (fun x => ((some (0, x) : Option pj_V), w) = ((some (0, r) : Option pj_V), w)) (fun r h => h) r h rfl)
noncomputable def fL_isLast (x0 : Int) (x1 : Int) (w : pj_W) : Option (Int) :=
  if x1 < 0 then (some (0)) else ((fN_lastSet x1 w).bind fun p2 => (if (pj_and (pj_shr p2 x0) 1) = 1 then (some (1)) else (some (0))))
theorem tL_isLast {Go : pj_C → Prop} (hM : pj_M l yX6_isLast cX6_isLast 2 (some .boolean) 1 22 true g n0 o Go) (x0 : Int) (x1 : Int) (w : pj_W)  (R : Int → Prop) (h0 : ∀ r, R (r) → ((some (0, r) : Option pj_V), w) = o) : pj_TG R (fL_isLast x0 x1 w) (Go (0, [(0, x0), (23, x1)], [], w)) := by
  unfold fL_isLast
  refine pj_map (fun k => pj_aload_n hM (pc := 0) dX6_isLast_0 rfl rfl k) ?_
  refine pj_tif (fun h1 => ?_) (fun h1 => ?_)
  · exact pj_tret (fun hr => pj_null_t hM (pc := 1) dX6_isLast_1 rfl (by decide) h1 (pj_iconst hM (pc := 20) dX6_isLast_20 (by decide) (pj_ret hM (pc := 21) dX6_isLast_21 ⟨_, rfl, Or.inl rfl⟩ (h0 (0) hr) rfl)))
  refine pj_tbind (fun p2 h3 => ?_)
  refine pj_map (fun k => pj_null_f hM (pc := 1) 20 dX6_isLast_1 rfl (by decide) h1 (pj_aload_n hM (pc := 4) dX6_isLast_4 rfl rfl (pj_cV hM (pc := 5) (cN_lastSet x1 (Int.not_lt.mp h1) w p2 h3) dX6_isLast_5 mf_X4_lastSet mv_X4_lastSet ml_X6_136 kc_23 rfl rfl (Int.not_lt.mp h1) rfl rfl (pj_iload_n hM (pc := 8) dX6_isLast_8 rfl (pj_ishr hM (pc := 9) dX6_isLast_9 (pj_iconst hM (pc := 10) dX6_isLast_10 (by decide) (pj_iand hM (pc := 11) dX6_isLast_11 (pj_iconst hM (pc := 12) dX6_isLast_12 (by decide) k)))))))) ?_
  refine pj_tif (fun h4 => ?_) (fun h4 => ?_)
  · exact pj_tret (fun hr => pj_ic_ne_f hM (pc := 13) 20 dX6_isLast_13 rfl (fun q => q h4) (pj_iconst hM (pc := 16) dX6_isLast_16 (by decide) (pj_goto hM (pc := 17) dX6_isLast_17 rfl (pj_ret hM (pc := 21) dX6_isLast_21 ⟨_, rfl, Or.inr rfl⟩ (h0 (1) hr) rfl))))
  exact pj_tret (fun hr => pj_ic_ne_t hM (pc := 13) dX6_isLast_13 rfl h4 (pj_iconst hM (pc := 20) dX6_isLast_20 (by decide) (pj_ret hM (pc := 21) dX6_isLast_21 ⟨_, rfl, Or.inl rfl⟩ (h0 (0) hr) rfl)))
theorem cL_isLast (x0 : Int) (x1 : Int)  (w : pj_W) (r : Int) (h : fL_isLast x0 x1 w = some r) : pj_Cn l yX6_isLast cX6_isLast 2 (some .boolean) 1 22 true g [(0, x0), (23, x1)] w ((some (0, r) : Option pj_V), w) :=
  pj_Cn_of rfl (Nat.le_of_ble_eq_true rfl) (lls := [(0, x0), (23, x1)]) rfl (fun Go hM => tL_isLast hM x0 x1 w (fun x => ((some (0, x) : Option pj_V), w) = ((some (0, r) : Option pj_V), w)) (fun r h => h) r h rfl)
noncomputable def fL_behindStep_301  (w : pj_W) : Option (Int × pj_W) :=
  if 0 ≤ (w 18 0 3) then (some (((w 24 (w 18 0 3) 7), w))) else none
noncomputable def fL_behindStep (x1 : Int) (w : pj_W) : Option (Int × pj_W) :=
  if 0 ≤ (w 18 0 3) then (if 0 ≤ x1 ∧ x1 < 60 then (if (w 47 (w 18 0 3) x1) = 1 then ((fL_comeTideAndDawn x1 w).bind fun p4 => (some ((p4.1, p4.2)))) else if (w 47 (w 18 0 3) x1) = 2 then (fL_behindStep_301 w) else if (w 47 (w 18 0 3) x1) = 3 then (fL_behindStep_301 w) else if (w 47 (w 18 0 3) x1) = 4 then (fL_behindStep_301 w) else if (w 47 (w 18 0 3) x1) = 5 then (fL_behindStep_301 w) else if (w 47 (w 18 0 3) x1) = 6 then (fL_behindStep_301 w) else if (w 47 (w 18 0 3) x1) = 7 then (fL_behindStep_301 w) else if (w 47 (w 18 0 3) x1) = 8 then (fL_behindStep_301 w) else if (w 47 (w 18 0 3) x1) = 9 then (fL_behindStep_301 w) else if (w 47 (w 18 0 3) x1) = 10 then (fL_behindStep_301 w) else if (w 47 (w 18 0 3) x1) = 11 then (fL_behindStep_301 w) else if (w 47 (w 18 0 3) x1) = 12 then (fL_behindStep_301 w) else if (w 47 (w 18 0 3) x1) = 13 then (fL_behindStep_301 w) else if (w 47 (w 18 0 3) x1) = 14 then (fL_behindStep_301 w) else if (w 47 (w 18 0 3) x1) = 15 then (if 0 ≤ (w 18 0 2) then ((fB_findAt (w 18 0 2) (w 49 (w 18 0 3) x1) w).bind fun p21 => ((fL_isLast (w 48 (w 18 0 3) x1) p21 w).bind fun p23 => ((fL_behindTest x1 p23 w).bind fun p25 => (some ((p25, w)))))) else none) else if (w 47 (w 18 0 3) x1) = 16 then (fL_behindStep_301 w) else if (w 47 (w 18 0 3) x1) = 17 then (fL_behindStep_301 w) else if (w 47 (w 18 0 3) x1) = 18 then (if 0 ≤ (w 18 0 2) then ((fB_walkTo (w 18 0 2) (w 48 (w 18 0 3) x1) (w 49 (w 18 0 3) x1) w).bind fun p31 => ((fL_tried x1 p31.1 p31.2).bind fun p33 => (some ((p33.1, p33.2))))) else none) else if (w 47 (w 18 0 3) x1) = 19 then (if 0 ≤ (w 18 0 2) then ((fB_layOn (w 18 0 2) (w 48 (w 18 0 3) x1) (w 49 (w 18 0 3) x1) w).bind fun p37 => ((fL_tried x1 p37.1 p37.2).bind fun p39 => (some ((p39.1, p39.2))))) else none) else if (w 47 (w 18 0 3) x1) = 20 then (if 0 ≤ (w 18 0 2) then ((fB_waitFor (w 18 0 2) (w 48 (w 18 0 3) x1) (w 49 (w 18 0 3) x1) w).bind fun p43 => ((fL_tried x1 p43.1 p43.2).bind fun p45 => (some ((p45.1, p45.2))))) else none) else if (w 47 (w 18 0 3) x1) = 21 then (if 0 ≤ (w 18 0 2) then ((fB_takeUp (w 18 0 2) (w 48 (w 18 0 3) x1) (w 49 (w 18 0 3) x1) w).bind fun p49 => ((fL_tried x1 p49.1 p49.2).bind fun p51 => (some ((p51.1, p51.2))))) else none) else if (w 47 (w 18 0 3) x1) = 22 then ((fL_gullMayCarry x1 (w 48 (w 18 0 3) x1) w).bind fun p54 => (some ((p54.1, p54.2)))) else if (w 47 (w 18 0 3) x1) = 23 then ((fL_comeWave x1 (w 48 (w 18 0 3) x1) w).bind fun p57 => (some ((p57.1, p57.2)))) else if (w 47 (w 18 0 3) x1) = 24 then (fL_behindStep_301 w) else if (w 47 (w 18 0 3) x1) = 25 then (if 0 ≤ (w 18 0 2) then ((fB_leadOf (w 18 0 2) (w 48 (w 18 0 3) x1) w).bind fun p62 => ((fL_compares p62 (w 50 (w 18 0 3) x1) (w 49 (w 18 0 3) x1) w).bind fun p64 => ((fL_behindTest x1 p64 w).bind fun p66 => (some ((p66, w)))))) else none) else if (w 47 (w 18 0 3) x1) = 26 then (if 0 ≤ (w 18 0 2) then ((fB_findAt (w 18 0 2) (w 49 (w 18 0 3) x1) w).bind fun p70 => ((fL_isFree p70 w).bind fun p72 => ((fL_behindTest x1 p72 w).bind fun p74 => (some ((p74, w)))))) else none) else if (w 47 (w 18 0 3) x1) = 27 then ((fL_beginLoop x1 (w 48 (w 18 0 3) x1) w).bind fun p77 => (some ((p77.1, p77.2)))) else (fL_behindStep_301 w)) else none) else none
theorem tL_behindStep_301 {Go : pj_C → Prop} (hM : pj_M l yX6_behindStep cX6_behindStep 4 (some .int) 4 95 true g n0 o Go)  (w : pj_W)  (R : Int × pj_W → Prop) (h0 : ∀ r, R (r) → ((some (0, r.1) : Option pj_V), r.2) = o) : pj_TG R (fL_behindStep_301  w) (Go (301, [(18, 0), (9, 0), (9, 0), (9, 0)], [], w)) := by
  unfold fL_behindStep_301
  refine pj_tgd (fun h1 => ?_)
  exact pj_tret (fun hr => pj_aload_n hM (pc := 301) dX6_behindStep_301 rfl rfl (pj_gf hM (pc := 302) (t := 24) dX6_behindStep_302 fl_X6_24 (by decide) rfl 3 rfl (pj_gf hM (pc := 305) (t := 0) dX6_behindStep_305 fl_X6_33 h1 rfl 7 rfl (pj_ret hM (pc := 308) dX6_behindStep_308 ⟨_, rfl⟩ (h0 (((w 24 (w 18 0 3) 7), w)) hr) rfl))))
theorem tL_behindStep {Go : pj_C → Prop} (hM : pj_M l yX6_behindStep cX6_behindStep 4 (some .int) 4 95 true g n0 o Go) (x1 : Int) (w : pj_W)  (R : Int × pj_W → Prop) (h0 : ∀ r, R (r) → ((some (0, r.1) : Option pj_V), r.2) = o) : pj_TG R (fL_behindStep x1 w) (Go (0, [(18, 0), (0, x1), (9, 0), (9, 0)], [], w)) := by
  unfold fL_behindStep
  refine pj_tgd (fun h1 => ?_)
  refine pj_tgd (fun h2 => ?_)
  refine pj_map (fun k => pj_aload_n hM (pc := 0) dX6_behindStep_0 rfl rfl (pj_gf hM (pc := 1) (t := 24) dX6_behindStep_1 fl_X6_24 (by decide) rfl 3 rfl (pj_getF hM (pc := 4) (t := 48) dX6_behindStep_4 fl_X6_51 h1 rfl rfl (pj_iload_n hM (pc := 7) dX6_behindStep_7 rfl (pj_ial hM (pc := 8) dX6_behindStep_8 ki_48 h1 h2 (pj_istore_n hM (pc := 9) dX6_behindStep_9 (by decide) (lls' := [(18, 0), (0, x1), (0, (w 48 (w 18 0 3) x1)), (9, 0)]) rfl (pj_aload_n hM (pc := 10) dX6_behindStep_10 rfl rfl (pj_gf hM (pc := 11) (t := 24) dX6_behindStep_11 fl_X6_24 (by decide) rfl 3 rfl (pj_getF hM (pc := 14) (t := 49) dX6_behindStep_14 fl_X6_54 h1 rfl rfl (pj_iload_n hM (pc := 17) dX6_behindStep_17 rfl (pj_ial hM (pc := 18) dX6_behindStep_18 ki_49 h1 h2 (pj_istore_n hM (pc := 19) dX6_behindStep_19 (by decide) (lls' := [(18, 0), (0, x1), (0, (w 48 (w 18 0 3) x1)), (0, (w 49 (w 18 0 3) x1))]) rfl (pj_aload_n hM (pc := 20) dX6_behindStep_20 rfl rfl (pj_gf hM (pc := 21) (t := 24) dX6_behindStep_21 fl_X6_24 (by decide) rfl 3 rfl (pj_getF hM (pc := 24) (t := 47) dX6_behindStep_24 fl_X6_36 h1 rfl rfl (pj_iload_n hM (pc := 27) dX6_behindStep_27 rfl (pj_ial hM (pc := 28) dX6_behindStep_28 ki_47 h1 h2 k))))))))))))))))) ?_
  refine pj_tif (fun h3 => ?_) (fun h3 => ?_)
  · refine pj_tbind (fun p4 h5 => ?_)
    exact pj_tret (fun hr => pj_table hM (pc := 29) (tgt := 226) dX6_behindStep_29 (by decide) (by rw [h3]; decide) (pj_aload_n hM (pc := 226) dX6_behindStep_226 rfl rfl (pj_iload_n hM (pc := 227) dX6_behindStep_227 rfl (pj_cV hM (pc := 228) (cL_comeTideAndDawn x1 w p4 h5) dX6_behindStep_228 mf_X6_comeTideAndDawn mv_X6_comeTideAndDawn ml_X6_81 kc_18 rfl rfl (by decide) rfl rfl (pj_ret hM (pc := 231) dX6_behindStep_231 ⟨_, rfl⟩ (h0 ((p4.1, p4.2)) hr) rfl)))))
  refine pj_tif (fun h6 => ?_) (fun h6 => ?_)
  · refine pj_map (fun k => pj_table hM (pc := 29) (tgt := 301) dX6_behindStep_29 (by decide) (by rw [h6]; decide) (pj_kill hM [true, false, false, false] (lls' := [(18, 0), (9, 0), (9, 0), (9, 0)]) rfl k)) ?_
    exact tL_behindStep_301 hM w _ h0
  refine pj_tif (fun h7 => ?_) (fun h7 => ?_)
  · refine pj_map (fun k => pj_table hM (pc := 29) (tgt := 301) dX6_behindStep_29 (by decide) (by rw [h7]; decide) (pj_kill hM [true, false, false, false] (lls' := [(18, 0), (9, 0), (9, 0), (9, 0)]) rfl k)) ?_
    exact tL_behindStep_301 hM w _ h0
  refine pj_tif (fun h8 => ?_) (fun h8 => ?_)
  · refine pj_map (fun k => pj_table hM (pc := 29) (tgt := 301) dX6_behindStep_29 (by decide) (by rw [h8]; decide) (pj_kill hM [true, false, false, false] (lls' := [(18, 0), (9, 0), (9, 0), (9, 0)]) rfl k)) ?_
    exact tL_behindStep_301 hM w _ h0
  refine pj_tif (fun h9 => ?_) (fun h9 => ?_)
  · refine pj_map (fun k => pj_table hM (pc := 29) (tgt := 301) dX6_behindStep_29 (by decide) (by rw [h9]; decide) (pj_kill hM [true, false, false, false] (lls' := [(18, 0), (9, 0), (9, 0), (9, 0)]) rfl k)) ?_
    exact tL_behindStep_301 hM w _ h0
  refine pj_tif (fun h10 => ?_) (fun h10 => ?_)
  · refine pj_map (fun k => pj_table hM (pc := 29) (tgt := 301) dX6_behindStep_29 (by decide) (by rw [h10]; decide) (pj_kill hM [true, false, false, false] (lls' := [(18, 0), (9, 0), (9, 0), (9, 0)]) rfl k)) ?_
    exact tL_behindStep_301 hM w _ h0
  refine pj_tif (fun h11 => ?_) (fun h11 => ?_)
  · refine pj_map (fun k => pj_table hM (pc := 29) (tgt := 301) dX6_behindStep_29 (by decide) (by rw [h11]; decide) (pj_kill hM [true, false, false, false] (lls' := [(18, 0), (9, 0), (9, 0), (9, 0)]) rfl k)) ?_
    exact tL_behindStep_301 hM w _ h0
  refine pj_tif (fun h12 => ?_) (fun h12 => ?_)
  · refine pj_map (fun k => pj_table hM (pc := 29) (tgt := 301) dX6_behindStep_29 (by decide) (by rw [h12]; decide) (pj_kill hM [true, false, false, false] (lls' := [(18, 0), (9, 0), (9, 0), (9, 0)]) rfl k)) ?_
    exact tL_behindStep_301 hM w _ h0
  refine pj_tif (fun h13 => ?_) (fun h13 => ?_)
  · refine pj_map (fun k => pj_table hM (pc := 29) (tgt := 301) dX6_behindStep_29 (by decide) (by rw [h13]; decide) (pj_kill hM [true, false, false, false] (lls' := [(18, 0), (9, 0), (9, 0), (9, 0)]) rfl k)) ?_
    exact tL_behindStep_301 hM w _ h0
  refine pj_tif (fun h14 => ?_) (fun h14 => ?_)
  · refine pj_map (fun k => pj_table hM (pc := 29) (tgt := 301) dX6_behindStep_29 (by decide) (by rw [h14]; decide) (pj_kill hM [true, false, false, false] (lls' := [(18, 0), (9, 0), (9, 0), (9, 0)]) rfl k)) ?_
    exact tL_behindStep_301 hM w _ h0
  refine pj_tif (fun h15 => ?_) (fun h15 => ?_)
  · refine pj_map (fun k => pj_table hM (pc := 29) (tgt := 301) dX6_behindStep_29 (by decide) (by rw [h15]; decide) (pj_kill hM [true, false, false, false] (lls' := [(18, 0), (9, 0), (9, 0), (9, 0)]) rfl k)) ?_
    exact tL_behindStep_301 hM w _ h0
  refine pj_tif (fun h16 => ?_) (fun h16 => ?_)
  · refine pj_map (fun k => pj_table hM (pc := 29) (tgt := 301) dX6_behindStep_29 (by decide) (by rw [h16]; decide) (pj_kill hM [true, false, false, false] (lls' := [(18, 0), (9, 0), (9, 0), (9, 0)]) rfl k)) ?_
    exact tL_behindStep_301 hM w _ h0
  refine pj_tif (fun h17 => ?_) (fun h17 => ?_)
  · refine pj_map (fun k => pj_table hM (pc := 29) (tgt := 301) dX6_behindStep_29 (by decide) (by rw [h17]; decide) (pj_kill hM [true, false, false, false] (lls' := [(18, 0), (9, 0), (9, 0), (9, 0)]) rfl k)) ?_
    exact tL_behindStep_301 hM w _ h0
  refine pj_tif (fun h18 => ?_) (fun h18 => ?_)
  · refine pj_map (fun k => pj_table hM (pc := 29) (tgt := 301) dX6_behindStep_29 (by decide) (by rw [h18]; decide) (pj_kill hM [true, false, false, false] (lls' := [(18, 0), (9, 0), (9, 0), (9, 0)]) rfl k)) ?_
    exact tL_behindStep_301 hM w _ h0
  refine pj_tif (fun h19 => ?_) (fun h19 => ?_)
  · refine pj_tgd (fun h20 => ?_)
    refine pj_tbind (fun p21 h22 => ?_)
    refine pj_tbind (fun p23 h24 => ?_)
    refine pj_tbind (fun p25 h26 => ?_)
    exact pj_tret (fun hr => pj_table hM (pc := 29) (tgt := 266) dX6_behindStep_29 (by decide) (by rw [h19]; decide) (pj_aload_n hM (pc := 266) dX6_behindStep_266 rfl rfl (pj_iload_n hM (pc := 267) dX6_behindStep_267 rfl (pj_iload_n hM (pc := 268) dX6_behindStep_268 rfl (pj_aload_n hM (pc := 269) dX6_behindStep_269 rfl rfl (pj_gf hM (pc := 270) (t := 19) dX6_behindStep_270 fl_X6_20 (by decide) rfl 2 rfl (pj_iload_n hM (pc := 273) dX6_behindStep_273 rfl (pj_cV hM (pc := 274) (cB_findAt (w 18 0 2) (w 49 (w 18 0 3) x1) h20 w p21 h22) dX6_behindStep_274 mf_X0_findAt mv_X0_findAt ml_X6_101 kc_19 rfl rfl h20 rfl rfl (pj_cS hM (pc := 277) (cL_isLast (w 48 (w 18 0 3) x1) p21 w p23 h24) dX6_behindStep_277 mf_X6_isLast ms_X6_isLast ml_X6_105 rfl rfl rfl rfl (pj_cV hM (pc := 280) (cL_behindTest x1 p23 w p25 h26) dX6_behindStep_280 mf_X6_behindTest mv_X6_behindTest ml_X6_97 kc_18 rfl rfl (by decide) rfl rfl (pj_ret hM (pc := 283) dX6_behindStep_283 ⟨_, rfl⟩ (h0 ((p25, w)) hr) rfl)))))))))))
  refine pj_tif (fun h27 => ?_) (fun h27 => ?_)
  · refine pj_map (fun k => pj_table hM (pc := 29) (tgt := 301) dX6_behindStep_29 (by decide) (by rw [h27]; decide) (pj_kill hM [true, false, false, false] (lls' := [(18, 0), (9, 0), (9, 0), (9, 0)]) rfl k)) ?_
    exact tL_behindStep_301 hM w _ h0
  refine pj_tif (fun h28 => ?_) (fun h28 => ?_)
  · refine pj_map (fun k => pj_table hM (pc := 29) (tgt := 301) dX6_behindStep_29 (by decide) (by rw [h28]; decide) (pj_kill hM [true, false, false, false] (lls' := [(18, 0), (9, 0), (9, 0), (9, 0)]) rfl k)) ?_
    exact tL_behindStep_301 hM w _ h0
  refine pj_tif (fun h29 => ?_) (fun h29 => ?_)
  · refine pj_tgd (fun h30 => ?_)
    refine pj_tbind (fun p31 h32 => ?_)
    refine pj_tbind (fun p33 h34 => ?_)
    exact pj_tret (fun hr => pj_table hM (pc := 29) (tgt := 152) dX6_behindStep_29 (by decide) (by rw [h29]; decide) (pj_aload_n hM (pc := 152) dX6_behindStep_152 rfl rfl (pj_iload_n hM (pc := 153) dX6_behindStep_153 rfl (pj_aload_n hM (pc := 154) dX6_behindStep_154 rfl rfl (pj_gf hM (pc := 155) (t := 19) dX6_behindStep_155 fl_X6_20 (by decide) rfl 2 rfl (pj_iload_n hM (pc := 158) dX6_behindStep_158 rfl (pj_iload_n hM (pc := 159) dX6_behindStep_159 rfl (pj_cV hM (pc := 160) (cB_walkTo (w 18 0 2) (w 48 (w 18 0 3) x1) (w 49 (w 18 0 3) x1) h30 w p31 h32) dX6_behindStep_160 mf_X0_walkTo mv_X0_walkTo ml_X6_57 kc_19 rfl rfl h30 rfl rfl (pj_cV hM (pc := 163) (cL_tried x1 p31.1 p31.2 p33 h34) dX6_behindStep_163 mf_X6_tried mv_X6_tried ml_X6_63 kc_18 rfl rfl (by decide) rfl rfl (pj_ret hM (pc := 166) dX6_behindStep_166 ⟨_, rfl⟩ (h0 ((p33.1, p33.2)) hr) rfl))))))))))
  refine pj_tif (fun h35 => ?_) (fun h35 => ?_)
  · refine pj_tgd (fun h36 => ?_)
    refine pj_tbind (fun p37 h38 => ?_)
    refine pj_tbind (fun p39 h40 => ?_)
    exact pj_tret (fun hr => pj_table hM (pc := 29) (tgt := 167) dX6_behindStep_29 (by decide) (by rw [h35]; decide) (pj_aload_n hM (pc := 167) dX6_behindStep_167 rfl rfl (pj_iload_n hM (pc := 168) dX6_behindStep_168 rfl (pj_aload_n hM (pc := 169) dX6_behindStep_169 rfl rfl (pj_gf hM (pc := 170) (t := 19) dX6_behindStep_170 fl_X6_20 (by decide) rfl 2 rfl (pj_iload_n hM (pc := 173) dX6_behindStep_173 rfl (pj_iload_n hM (pc := 174) dX6_behindStep_174 rfl (pj_cV hM (pc := 175) (cB_layOn (w 18 0 2) (w 48 (w 18 0 3) x1) (w 49 (w 18 0 3) x1) h36 w p37 h38) dX6_behindStep_175 mf_X0_layOn mv_X0_layOn ml_X6_66 kc_19 rfl rfl h36 rfl rfl (pj_cV hM (pc := 178) (cL_tried x1 p37.1 p37.2 p39 h40) dX6_behindStep_178 mf_X6_tried mv_X6_tried ml_X6_63 kc_18 rfl rfl (by decide) rfl rfl (pj_ret hM (pc := 181) dX6_behindStep_181 ⟨_, rfl⟩ (h0 ((p39.1, p39.2)) hr) rfl))))))))))
  refine pj_tif (fun h41 => ?_) (fun h41 => ?_)
  · refine pj_tgd (fun h42 => ?_)
    refine pj_tbind (fun p43 h44 => ?_)
    refine pj_tbind (fun p45 h46 => ?_)
    exact pj_tret (fun hr => pj_table hM (pc := 29) (tgt := 182) dX6_behindStep_29 (by decide) (by rw [h41]; decide) (pj_aload_n hM (pc := 182) dX6_behindStep_182 rfl rfl (pj_iload_n hM (pc := 183) dX6_behindStep_183 rfl (pj_aload_n hM (pc := 184) dX6_behindStep_184 rfl rfl (pj_gf hM (pc := 185) (t := 19) dX6_behindStep_185 fl_X6_20 (by decide) rfl 2 rfl (pj_iload_n hM (pc := 188) dX6_behindStep_188 rfl (pj_iload_n hM (pc := 189) dX6_behindStep_189 rfl (pj_cV hM (pc := 190) (cB_waitFor (w 18 0 2) (w 48 (w 18 0 3) x1) (w 49 (w 18 0 3) x1) h42 w p43 h44) dX6_behindStep_190 mf_X0_waitFor mv_X0_waitFor ml_X6_69 kc_19 rfl rfl h42 rfl rfl (pj_cV hM (pc := 193) (cL_tried x1 p43.1 p43.2 p45 h46) dX6_behindStep_193 mf_X6_tried mv_X6_tried ml_X6_63 kc_18 rfl rfl (by decide) rfl rfl (pj_ret hM (pc := 196) dX6_behindStep_196 ⟨_, rfl⟩ (h0 ((p45.1, p45.2)) hr) rfl))))))))))
  refine pj_tif (fun h47 => ?_) (fun h47 => ?_)
  · refine pj_tgd (fun h48 => ?_)
    refine pj_tbind (fun p49 h50 => ?_)
    refine pj_tbind (fun p51 h52 => ?_)
    exact pj_tret (fun hr => pj_table hM (pc := 29) (tgt := 197) dX6_behindStep_29 (by decide) (by rw [h47]; decide) (pj_aload_n hM (pc := 197) dX6_behindStep_197 rfl rfl (pj_iload_n hM (pc := 198) dX6_behindStep_198 rfl (pj_aload_n hM (pc := 199) dX6_behindStep_199 rfl rfl (pj_gf hM (pc := 200) (t := 19) dX6_behindStep_200 fl_X6_20 (by decide) rfl 2 rfl (pj_iload_n hM (pc := 203) dX6_behindStep_203 rfl (pj_iload_n hM (pc := 204) dX6_behindStep_204 rfl (pj_cV hM (pc := 205) (cB_takeUp (w 18 0 2) (w 48 (w 18 0 3) x1) (w 49 (w 18 0 3) x1) h48 w p49 h50) dX6_behindStep_205 mf_X0_takeUp mv_X0_takeUp ml_X6_72 kc_19 rfl rfl h48 rfl rfl (pj_cV hM (pc := 208) (cL_tried x1 p49.1 p49.2 p51 h52) dX6_behindStep_208 mf_X6_tried mv_X6_tried ml_X6_63 kc_18 rfl rfl (by decide) rfl rfl (pj_ret hM (pc := 211) dX6_behindStep_211 ⟨_, rfl⟩ (h0 ((p51.1, p51.2)) hr) rfl))))))))))
  refine pj_tif (fun h53 => ?_) (fun h53 => ?_)
  · refine pj_tbind (fun p54 h55 => ?_)
    exact pj_tret (fun hr => pj_table hM (pc := 29) (tgt := 212) dX6_behindStep_29 (by decide) (by rw [h53]; decide) (pj_aload_n hM (pc := 212) dX6_behindStep_212 rfl rfl (pj_iload_n hM (pc := 213) dX6_behindStep_213 rfl (pj_iload_n hM (pc := 214) dX6_behindStep_214 rfl (pj_cV hM (pc := 215) (cL_gullMayCarry x1 (w 48 (w 18 0 3) x1) w p54 h55) dX6_behindStep_215 mf_X6_gullMayCarry mv_X6_gullMayCarry ml_X6_75 kc_18 rfl rfl (by decide) rfl rfl (pj_ret hM (pc := 218) dX6_behindStep_218 ⟨_, rfl⟩ (h0 ((p54.1, p54.2)) hr) rfl))))))
  refine pj_tif (fun h56 => ?_) (fun h56 => ?_)
  · refine pj_tbind (fun p57 h58 => ?_)
    exact pj_tret (fun hr => pj_table hM (pc := 29) (tgt := 219) dX6_behindStep_29 (by decide) (by rw [h56]; decide) (pj_aload_n hM (pc := 219) dX6_behindStep_219 rfl rfl (pj_iload_n hM (pc := 220) dX6_behindStep_220 rfl (pj_iload_n hM (pc := 221) dX6_behindStep_221 rfl (pj_cV hM (pc := 222) (cL_comeWave x1 (w 48 (w 18 0 3) x1) w p57 h58) dX6_behindStep_222 mf_X6_comeWave mv_X6_comeWave ml_X6_78 kc_18 rfl rfl (by decide) rfl rfl (pj_ret hM (pc := 225) dX6_behindStep_225 ⟨_, rfl⟩ (h0 ((p57.1, p57.2)) hr) rfl))))))
  refine pj_tif (fun h59 => ?_) (fun h59 => ?_)
  · refine pj_map (fun k => pj_table hM (pc := 29) (tgt := 301) dX6_behindStep_29 (by decide) (by rw [h59]; decide) (pj_kill hM [true, false, false, false] (lls' := [(18, 0), (9, 0), (9, 0), (9, 0)]) rfl k)) ?_
    exact tL_behindStep_301 hM w _ h0
  refine pj_tif (fun h60 => ?_) (fun h60 => ?_)
  · refine pj_tgd (fun h61 => ?_)
    refine pj_tbind (fun p62 h63 => ?_)
    refine pj_tbind (fun p64 h65 => ?_)
    refine pj_tbind (fun p66 h67 => ?_)
    exact pj_tret (fun hr => pj_table hM (pc := 29) (tgt := 239) dX6_behindStep_29 (by decide) (by rw [h60]; decide) (pj_aload_n hM (pc := 239) dX6_behindStep_239 rfl rfl (pj_iload_n hM (pc := 240) dX6_behindStep_240 rfl (pj_aload_n hM (pc := 241) dX6_behindStep_241 rfl rfl (pj_gf hM (pc := 242) (t := 19) dX6_behindStep_242 fl_X6_20 (by decide) rfl 2 rfl (pj_iload_n hM (pc := 245) dX6_behindStep_245 rfl (pj_cV hM (pc := 246) (cB_leadOf (w 18 0 2) (w 48 (w 18 0 3) x1) h61 w p62 h63) dX6_behindStep_246 mf_X0_leadOf mv_X0_leadOf ml_X6_87 kc_19 rfl rfl h61 rfl rfl (pj_aload_n hM (pc := 249) dX6_behindStep_249 rfl rfl (pj_gf hM (pc := 250) (t := 24) dX6_behindStep_250 fl_X6_24 (by decide) rfl 3 rfl (pj_getF hM (pc := 253) (t := 50) dX6_behindStep_253 fl_X6_90 h1 rfl rfl (pj_iload_n hM (pc := 256) dX6_behindStep_256 rfl (pj_ial hM (pc := 257) dX6_behindStep_257 ki_50 h1 h2 (pj_iload_n hM (pc := 258) dX6_behindStep_258 rfl (pj_cS hM (pc := 259) (cL_compares p62 (w 50 (w 18 0 3) x1) (w 49 (w 18 0 3) x1) w p64 h65) dX6_behindStep_259 mf_X6_compares ms_X6_compares ml_X6_93 rfl rfl rfl rfl (pj_cV hM (pc := 262) (cL_behindTest x1 p64 w p66 h67) dX6_behindStep_262 mf_X6_behindTest mv_X6_behindTest ml_X6_97 kc_18 rfl rfl (by decide) rfl rfl (pj_ret hM (pc := 265) dX6_behindStep_265 ⟨_, rfl⟩ (h0 ((p66, w)) hr) rfl))))))))))))))))
  refine pj_tif (fun h68 => ?_) (fun h68 => ?_)
  · refine pj_tgd (fun h69 => ?_)
    refine pj_tbind (fun p70 h71 => ?_)
    refine pj_tbind (fun p72 h73 => ?_)
    refine pj_tbind (fun p74 h75 => ?_)
    exact pj_tret (fun hr => pj_table hM (pc := 29) (tgt := 284) dX6_behindStep_29 (by decide) (by rw [h68]; decide) (pj_aload_n hM (pc := 284) dX6_behindStep_284 rfl rfl (pj_iload_n hM (pc := 285) dX6_behindStep_285 rfl (pj_aload_n hM (pc := 286) dX6_behindStep_286 rfl rfl (pj_gf hM (pc := 287) (t := 19) dX6_behindStep_287 fl_X6_20 (by decide) rfl 2 rfl (pj_iload_n hM (pc := 290) dX6_behindStep_290 rfl (pj_cV hM (pc := 291) (cB_findAt (w 18 0 2) (w 49 (w 18 0 3) x1) h69 w p70 h71) dX6_behindStep_291 mf_X0_findAt mv_X0_findAt ml_X6_101 kc_19 rfl rfl h69 rfl rfl (pj_cS hM (pc := 294) (cL_isFree p70 w p72 h73) dX6_behindStep_294 mf_X6_isFree ms_X6_isFree ml_X6_109 rfl rfl rfl rfl (pj_cV hM (pc := 297) (cL_behindTest x1 p72 w p74 h75) dX6_behindStep_297 mf_X6_behindTest mv_X6_behindTest ml_X6_97 kc_18 rfl rfl (by decide) rfl rfl (pj_ret hM (pc := 300) dX6_behindStep_300 ⟨_, rfl⟩ (h0 ((p74, w)) hr) rfl))))))))))
  refine pj_tif (fun h76 => ?_) (fun h76 => ?_)
  · refine pj_tbind (fun p77 h78 => ?_)
    exact pj_tret (fun hr => pj_table hM (pc := 29) (tgt := 232) dX6_behindStep_29 (by decide) (by rw [h76]; decide) (pj_aload_n hM (pc := 232) dX6_behindStep_232 rfl rfl (pj_iload_n hM (pc := 233) dX6_behindStep_233 rfl (pj_iload_n hM (pc := 234) dX6_behindStep_234 rfl (pj_cV hM (pc := 235) (cL_beginLoop x1 (w 48 (w 18 0 3) x1) w p77 h78) dX6_behindStep_235 mf_X6_beginLoop mv_X6_beginLoop ml_X6_84 kc_18 rfl rfl (by decide) rfl rfl (pj_ret hM (pc := 238) dX6_behindStep_238 ⟨_, rfl⟩ (h0 ((p77.1, p77.2)) hr) rfl))))))
  refine pj_map (fun k => pj_table hM (pc := 29) (tgt := 301) dX6_behindStep_29 (by decide) (by have e9 : (w 47 (w 18 0 3) x1) < 1 ∨ 27 < (w 47 (w 18 0 3) x1) := (by omega); unfold pj_tab; rw [if_pos e9]; decide) (pj_kill hM [true, false, false, false] (lls' := [(18, 0), (9, 0), (9, 0), (9, 0)]) rfl k)) ?_
  exact tL_behindStep_301 hM w _ h0
theorem cL_behindStep (x1 : Int)  (w : pj_W) (r : Int × pj_W) (h : fL_behindStep x1 w = some r) : pj_Cn l yX6_behindStep cX6_behindStep 4 (some .int) 4 95 true g [(18, 0), (0, x1)] w ((some (0, r.1) : Option pj_V), r.2) :=
  pj_Cn_of rfl (Nat.le_of_ble_eq_true rfl) (lls := [(18, 0), (0, x1), (9, 0), (9, 0)]) rfl (fun Go hM => tL_behindStep hM x1 w (fun x => ((some (0, x.1) : Option pj_V), x.2) = ((some (0, r.1) : Option pj_V), r.2)) (fun r h => h) r h rfl)
noncomputable def fL_liveThrough_135 (x4 : Int) (x5 : Int) (x6 : Int) (w : pj_W) : Option ((Int × Int × Int × pj_W) ⊕ (Int × pj_W)) :=
  some (Sum.inl (x4, x5, (pj_wr (x6 + 1)), w))
noncomputable def fL_liveThrough_47b  (x4 : Int) (x5 : Int) (x6 : Int) (w : pj_W) : Option ((Int × Int × Int × pj_W) ⊕ (Int × pj_W)) :=
  if 1000000 ≤ x6 then (some (Sum.inr ((x4, w)))) else (if x5 < 0 then (some (Sum.inr ((x4, w)))) else (if 0 ≤ (w 18 0 3) then (if (w 24 (w 18 0 3) 7) ≤ x5 then (some (Sum.inr ((x4, w)))) else (if 0 ≤ x5 ∧ x5 < 60 then (if (w 47 (w 18 0 3) x5) = 28 then ((fL_behindEnd x5 w).bind fun p7 => (fL_liveThrough_135 x4 p7.1 x6 p7.2)) else (if x4 = 300 then (if 0 ≤ ((pj_set w 42 0 4 1) 18 0 3) then (fL_liveThrough_135 x4 ((pj_set w 42 0 4 1) 24 ((pj_set w 42 0 4 1) 18 0 3) 7) x6 (pj_set w 42 0 4 1)) else none) else ((fL_behindStep x5 w).bind fun p11 => (fL_liveThrough_135 (pj_wr (x4 + 1)) p11.1 x6 p11.2)))) else none)) else none))
noncomputable def fL_liveThrough_47  (s : (Int × Int × Int × pj_W)) : Option (Int × pj_W) := pj_Lp (fun s : (Int × Int × Int × pj_W) => fL_liveThrough_47b  s.1 s.2.1 s.2.2.1 s.2.2.2) s
noncomputable def fL_liveThrough_18b  (x4 : Int) (w : pj_W) : Option ((Int × pj_W) ⊕ (Int × pj_W)) :=
  if 5 ≤ x4 then ((fL_liveThrough_47 (0, 0, 0, w)).map Sum.inr) else (if 0 ≤ x4 ∧ x4 < 5 then (some (Sum.inl ((pj_wr (x4 + 1)), (pj_set w 42 0 x4 0)))) else none)
noncomputable def fL_liveThrough_18  (s : (Int × pj_W)) : Option (Int × pj_W) := pj_Lp (fun s : (Int × pj_W) => fL_liveThrough_18b  s.1 s.2) s
noncomputable def fL_liveThrough (x1 : Int) (x2 : Int) (x3 : Int) (w : pj_W) : Option (Int × pj_W) :=
  fL_liveThrough_18 (0, (pj_set (pj_set (pj_set w 18 0 2 x1) 18 0 3 x2) 18 0 4 x3))
theorem tL_liveThrough_135 {Go : pj_C → Prop} (hM : pj_M l yX6_liveThrough cX6_liveThrough 7 (some .int) 5 118 true g n0 o Go) (x4 : Int) (x5 : Int) (x6 : Int) (w : pj_W)  (R : (Int × Int × Int × pj_W) ⊕ (Int × pj_W) → Prop) (h0 : ∀ r, R (Sum.inr (r)) → ((some (0, r.1) : Option pj_V), r.2) = o) (hk47 : ∀ s, R (Sum.inl s) → Go (47, [(18, 0), (9, 0), (9, 0), (9, 0), (0, s.1), (0, s.2.1), (0, s.2.2.1)], [], s.2.2.2)) : pj_TG R (fL_liveThrough_135 x4 x5 x6 w) (Go (135, [(18, 0), (9, 0), (9, 0), (9, 0), (0, x4), (0, x5), (0, x6)], [], w)) := by
  unfold fL_liveThrough_135
  exact pj_tret (fun hr => pj_iinc hM (pc := 135) dX6_liveThrough_135 rfl (by decide) (lls' := [(18, 0), (9, 0), (9, 0), (9, 0), (0, x4), (0, x5), (0, (pj_wr (x6 + 1)))]) rfl (pj_goto hM (pc := 138) dX6_liveThrough_138 rfl (pj_kill hM [true, false, false, false, true, true, true] (lls' := [(18, 0), (9, 0), (9, 0), (9, 0), (0, x4), (0, x5), (0, (pj_wr (x6 + 1)))]) rfl ((hk47 _ hr)))))
theorem tL_liveThrough_47b {Go : pj_C → Prop} (hM : pj_M l yX6_liveThrough cX6_liveThrough 7 (some .int) 5 118 true g n0 o Go)  (x4 : Int) (x5 : Int) (x6 : Int) (w : pj_W)  (R : (Int × Int × Int × pj_W) ⊕ (Int × pj_W) → Prop) (h0 : ∀ r, R (Sum.inr (r)) → ((some (0, r.1) : Option pj_V), r.2) = o) (hk47 : ∀ s, R (Sum.inl s) → Go (47, [(18, 0), (9, 0), (9, 0), (9, 0), (0, s.1), (0, s.2.1), (0, s.2.2.1)], [], s.2.2.2)) : pj_TG R (fL_liveThrough_47b  x4 x5 x6 w) (Go (47, [(18, 0), (9, 0), (9, 0), (9, 0), (0, x4), (0, x5), (0, x6)], [], w)) := by
  unfold fL_liveThrough_47b
  refine pj_map (fun k => pj_iload hM (pc := 47) dX6_liveThrough_47 rfl (pj_ldc hM (pc := 49) (z := 1000000) dX6_liveThrough_49 kn_X6_32 rfl (by decide) k)) ?_
  refine pj_tif (fun h1 => ?_) (fun h1 => ?_)
  · exact pj_tret (fun hr => pj_ic_ge_t hM (pc := 51) dX6_liveThrough_51 rfl h1 (pj_iload hM (pc := 141) dX6_liveThrough_141 rfl (pj_ret hM (pc := 143) dX6_liveThrough_143 ⟨_, rfl⟩ (h0 ((x4, w)) hr) rfl)))
  refine pj_map (fun k => pj_ic_ge_f hM (pc := 51) 141 dX6_liveThrough_51 rfl h1 (pj_iload hM (pc := 54) dX6_liveThrough_54 rfl k)) ?_
  refine pj_tif (fun h2 => ?_) (fun h2 => ?_)
  · exact pj_tret (fun hr => pj_if_lt_t hM (pc := 56) dX6_liveThrough_56 rfl h2 (pj_iload hM (pc := 141) dX6_liveThrough_141 rfl (pj_ret hM (pc := 143) dX6_liveThrough_143 ⟨_, rfl⟩ (h0 ((x4, w)) hr) rfl)))
  refine pj_tgd (fun h3 => ?_)
  refine pj_map (fun k => pj_if_lt_f hM (pc := 56) 141 dX6_liveThrough_56 rfl h2 (pj_iload hM (pc := 59) dX6_liveThrough_59 rfl (pj_aload_n hM (pc := 61) dX6_liveThrough_61 rfl rfl (pj_gf hM (pc := 62) (t := 24) dX6_liveThrough_62 fl_X6_24 (by decide) rfl 3 rfl (pj_gf hM (pc := 65) (t := 0) dX6_liveThrough_65 fl_X6_33 h3 rfl 7 rfl k))))) ?_
  refine pj_tif (fun h4 => ?_) (fun h4 => ?_)
  · exact pj_tret (fun hr => pj_ic_ge_t hM (pc := 68) dX6_liveThrough_68 rfl h4 (pj_iload hM (pc := 141) dX6_liveThrough_141 rfl (pj_ret hM (pc := 143) dX6_liveThrough_143 ⟨_, rfl⟩ (h0 ((x4, w)) hr) rfl)))
  refine pj_tgd (fun h5 => ?_)
  refine pj_map (fun k => pj_ic_ge_f hM (pc := 68) 141 dX6_liveThrough_68 rfl h4 (pj_aload_n hM (pc := 71) dX6_liveThrough_71 rfl rfl (pj_gf hM (pc := 72) (t := 24) dX6_liveThrough_72 fl_X6_24 (by decide) rfl 3 rfl (pj_getF hM (pc := 75) (t := 47) dX6_liveThrough_75 fl_X6_36 h3 rfl rfl (pj_iload hM (pc := 78) dX6_liveThrough_78 rfl (pj_ial hM (pc := 80) dX6_liveThrough_80 ki_47 h3 h5 (pj_bipush hM (pc := 81) dX6_liveThrough_81 (by decide) k))))))) ?_
  refine pj_tif (fun h6 => ?_) (fun h6 => ?_)
  · refine pj_tbind (fun p7 h8 => ?_)
    refine pj_map (fun k => pj_ic_ne_f hM (pc := 83) 97 dX6_liveThrough_83 rfl (fun q => q h6) (pj_aload_n hM (pc := 86) dX6_liveThrough_86 rfl rfl (pj_iload hM (pc := 87) dX6_liveThrough_87 rfl (pj_cV hM (pc := 89) (cL_behindEnd x5 w p7 h8) dX6_liveThrough_89 mf_X6_behindEnd mv_X6_behindEnd ml_X6_41 kc_18 rfl rfl (by decide) rfl rfl (pj_istore hM (pc := 92) dX6_liveThrough_92 (by decide) (lls' := [(18, 0), (9, 0), (9, 0), (9, 0), (0, x4), (0, p7.1), (0, x6)]) rfl (pj_goto hM (pc := 94) dX6_liveThrough_94 rfl (pj_kill hM [true, false, false, false, true, true, true] (lls' := [(18, 0), (9, 0), (9, 0), (9, 0), (0, x4), (0, p7.1), (0, x6)]) rfl k))))))) ?_
    exact tL_liveThrough_135 hM x4 p7.1 x6 p7.2 _ h0 hk47
  refine pj_map (fun k => pj_ic_ne_t hM (pc := 83) dX6_liveThrough_83 rfl h6 (pj_iload hM (pc := 97) dX6_liveThrough_97 rfl (pj_sipush hM (pc := 99) dX6_liveThrough_99 (by decide) k))) ?_
  refine pj_tif (fun h9 => ?_) (fun h9 => ?_)
  · refine pj_tgd (fun h10 => ?_)
    refine pj_map (fun k => pj_ic_ne_f hM (pc := 102) 124 dX6_liveThrough_102 rfl (fun q => q h9) (pj_aload_n hM (pc := 105) dX6_liveThrough_105 rfl rfl (pj_getF hM (pc := 106) (t := 42) dX6_liveThrough_106 fl_X6_11 (by decide) rfl rfl (pj_iconst hM (pc := 109) dX6_liveThrough_109 (by decide) (pj_iconst hM (pc := 110) dX6_liveThrough_110 (by decide) (pj_ias hM (pc := 111) dX6_liveThrough_111 ki_42 (by decide) (by decide) (pj_aload_n hM (pc := 112) dX6_liveThrough_112 rfl rfl (pj_gf hM (pc := 113) (t := 24) dX6_liveThrough_113 fl_X6_24 (by decide) rfl 3 rfl (pj_gf hM (pc := 116) (t := 0) dX6_liveThrough_116 fl_X6_33 h10 rfl 7 rfl (pj_istore hM (pc := 119) dX6_liveThrough_119 (by decide) (lls' := [(18, 0), (9, 0), (9, 0), (9, 0), (0, x4), (0, ((pj_set w 42 0 4 1) 24 ((pj_set w 42 0 4 1) 18 0 3) 7)), (0, x6)]) rfl (pj_goto hM (pc := 121) dX6_liveThrough_121 rfl (pj_kill hM [true, false, false, false, true, true, true] (lls' := [(18, 0), (9, 0), (9, 0), (9, 0), (0, x4), (0, ((pj_set w 42 0 4 1) 24 ((pj_set w 42 0 4 1) 18 0 3) 7)), (0, x6)]) rfl k)))))))))))) ?_
    exact tL_liveThrough_135 hM x4 ((pj_set w 42 0 4 1) 24 ((pj_set w 42 0 4 1) 18 0 3) 7) x6 (pj_set w 42 0 4 1) _ h0 hk47
  refine pj_tbind (fun p11 h12 => ?_)
  refine pj_map (fun k => pj_ic_ne_t hM (pc := 102) dX6_liveThrough_102 rfl h9 (pj_iinc hM (pc := 124) dX6_liveThrough_124 rfl (by decide) (lls' := [(18, 0), (9, 0), (9, 0), (9, 0), (0, (pj_wr (x4 + 1))), (0, x5), (0, x6)]) rfl (pj_aload_n hM (pc := 127) dX6_liveThrough_127 rfl rfl (pj_iload hM (pc := 128) dX6_liveThrough_128 rfl (pj_cV hM (pc := 130) (cL_behindStep x5 w p11 h12) dX6_liveThrough_130 mf_X6_behindStep mv_X6_behindStep ml_X6_45 kc_18 rfl rfl (by decide) rfl rfl (pj_istore hM (pc := 133) dX6_liveThrough_133 (by decide) (lls' := [(18, 0), (9, 0), (9, 0), (9, 0), (0, (pj_wr (x4 + 1))), (0, p11.1), (0, x6)]) rfl (pj_kill hM [true, false, false, false, true, true, true] (lls' := [(18, 0), (9, 0), (9, 0), (9, 0), (0, (pj_wr (x4 + 1))), (0, p11.1), (0, x6)]) rfl k))))))) ?_
  exact tL_liveThrough_135 hM (pj_wr (x4 + 1)) p11.1 x6 p11.2 _ h0 hk47
theorem tL_liveThrough_47 {Go : pj_C → Prop} (hM : pj_M l yX6_liveThrough cX6_liveThrough 7 (some .int) 5 118 true g n0 o Go)   (R : Int × pj_W → Prop) (h0 : ∀ r, R (r) → ((some (0, r.1) : Option pj_V), r.2) = o) (s : (Int × Int × Int × pj_W)) : pj_TG R (fL_liveThrough_47  s) (Go (47, [(18, 0), (9, 0), (9, 0), (9, 0), (0, s.1), (0, s.2.1), (0, s.2.2.1)], [], s.2.2.2)) := by
  unfold fL_liveThrough_47
  exact pj_tLp (G := fun s : (Int × Int × Int × pj_W) => Go (47, [(18, 0), (9, 0), (9, 0), (9, 0), (0, s.1), (0, s.2.1), (0, s.2.2.1)], [], s.2.2.2)) (fun s => tL_liveThrough_47b hM  s.1 s.2.1 s.2.2.1 s.2.2.2  _ (fun r h => h0 r h)  (fun s h => h)) s
theorem tL_liveThrough_18b {Go : pj_C → Prop} (hM : pj_M l yX6_liveThrough cX6_liveThrough 7 (some .int) 5 118 true g n0 o Go)  (x4 : Int) (w : pj_W)  (R : (Int × pj_W) ⊕ (Int × pj_W) → Prop) (h0 : ∀ r, R (Sum.inr (r)) → ((some (0, r.1) : Option pj_V), r.2) = o) (hk18 : ∀ s, R (Sum.inl s) → Go (18, [(18, 0), (9, 0), (9, 0), (9, 0), (0, s.1), (9, 0), (9, 0)], [], s.2)) : pj_TG R (fL_liveThrough_18b  x4 w) (Go (18, [(18, 0), (9, 0), (9, 0), (9, 0), (0, x4), (9, 0), (9, 0)], [], w)) := by
  unfold fL_liveThrough_18b
  refine pj_map (fun k => pj_iload hM (pc := 18) dX6_liveThrough_18 rfl (pj_iconst hM (pc := 20) dX6_liveThrough_20 (by decide) k)) ?_
  refine pj_tif (fun h1 => ?_) (fun h1 => ?_)
  · refine pj_tmap ?_
    refine pj_map (fun k => pj_ic_ge_t hM (pc := 21) dX6_liveThrough_21 rfl h1 (pj_iconst hM (pc := 38) dX6_liveThrough_38 (by decide) (pj_istore hM (pc := 39) dX6_liveThrough_39 (by decide) (lls' := [(18, 0), (9, 0), (9, 0), (9, 0), (0, 0), (9, 0), (9, 0)]) rfl (pj_iconst hM (pc := 41) dX6_liveThrough_41 (by decide) (pj_istore hM (pc := 42) dX6_liveThrough_42 (by decide) (lls' := [(18, 0), (9, 0), (9, 0), (9, 0), (0, 0), (0, 0), (9, 0)]) rfl (pj_iconst hM (pc := 44) dX6_liveThrough_44 (by decide) (pj_istore hM (pc := 45) dX6_liveThrough_45 (by decide) (lls' := [(18, 0), (9, 0), (9, 0), (9, 0), (0, 0), (0, 0), (0, 0)]) rfl (pj_kill hM [true, false, false, false, true, true, true] (lls' := [(18, 0), (9, 0), (9, 0), (9, 0), (0, 0), (0, 0), (0, 0)]) rfl k)))))))) ?_
    exact tL_liveThrough_47 hM _ h0 _
  refine pj_tgd (fun h2 => ?_)
  exact pj_tret (fun hr => pj_ic_ge_f hM (pc := 21) 38 dX6_liveThrough_21 rfl h1 (pj_aload_n hM (pc := 24) dX6_liveThrough_24 rfl rfl (pj_getF hM (pc := 25) (t := 42) dX6_liveThrough_25 fl_X6_11 (by decide) rfl rfl (pj_iload hM (pc := 28) dX6_liveThrough_28 rfl (pj_iconst hM (pc := 30) dX6_liveThrough_30 (by decide) (pj_ias hM (pc := 31) dX6_liveThrough_31 ki_42 (by decide) h2 (pj_iinc hM (pc := 32) dX6_liveThrough_32 rfl (by decide) (lls' := [(18, 0), (9, 0), (9, 0), (9, 0), (0, (pj_wr (x4 + 1))), (9, 0), (9, 0)]) rfl (pj_goto hM (pc := 35) dX6_liveThrough_35 rfl (pj_kill hM [true, false, false, false, true, false, false] (lls' := [(18, 0), (9, 0), (9, 0), (9, 0), (0, (pj_wr (x4 + 1))), (9, 0), (9, 0)]) rfl ((hk18 _ hr)))))))))))
theorem tL_liveThrough_18 {Go : pj_C → Prop} (hM : pj_M l yX6_liveThrough cX6_liveThrough 7 (some .int) 5 118 true g n0 o Go)   (R : Int × pj_W → Prop) (h0 : ∀ r, R (r) → ((some (0, r.1) : Option pj_V), r.2) = o) (s : (Int × pj_W)) : pj_TG R (fL_liveThrough_18  s) (Go (18, [(18, 0), (9, 0), (9, 0), (9, 0), (0, s.1), (9, 0), (9, 0)], [], s.2)) := by
  unfold fL_liveThrough_18
  exact pj_tLp (G := fun s : (Int × pj_W) => Go (18, [(18, 0), (9, 0), (9, 0), (9, 0), (0, s.1), (9, 0), (9, 0)], [], s.2)) (fun s => tL_liveThrough_18b hM  s.1 s.2  _ (fun r h => h0 r h)  (fun s h => h)) s
theorem tL_liveThrough {Go : pj_C → Prop} (hM : pj_M l yX6_liveThrough cX6_liveThrough 7 (some .int) 5 118 true g n0 o Go) (x1 : Int) (x2 : Int) (x3 : Int) (w : pj_W)  (R : Int × pj_W → Prop) (h0 : ∀ r, R (r) → ((some (0, r.1) : Option pj_V), r.2) = o) : pj_TG R (fL_liveThrough x1 x2 x3 w) (Go (0, [(18, 0), (19, x1), (24, x2), (0, x3), (9, 0), (9, 0), (9, 0)], [], w)) := by
  unfold fL_liveThrough
  refine pj_map (fun k => pj_aload_n hM (pc := 0) dX6_liveThrough_0 rfl rfl (pj_aload_n hM (pc := 1) dX6_liveThrough_1 rfl rfl (pj_pf hM (pc := 2) dX6_liveThrough_2 fl_X6_20 (by decide) rfl (fun h => absurd h (by decide)) (by decide) (fun _ => rfl) 2 rfl (pj_aload_n hM (pc := 5) dX6_liveThrough_5 rfl rfl (pj_aload_n hM (pc := 6) dX6_liveThrough_6 rfl rfl (pj_pf hM (pc := 7) dX6_liveThrough_7 fl_X6_24 (by decide) rfl (fun h => absurd h (by decide)) (by decide) (fun _ => rfl) 3 rfl (pj_aload_n hM (pc := 10) dX6_liveThrough_10 rfl rfl (pj_iload_n hM (pc := 11) dX6_liveThrough_11 rfl (pj_pf hM (pc := 12) dX6_liveThrough_12 fl_X6_28 (by decide) rfl (fun h => absurd h (by decide)) (by decide) (fun _ => rfl) 4 rfl (pj_iconst hM (pc := 15) dX6_liveThrough_15 (by decide) (pj_istore hM (pc := 16) dX6_liveThrough_16 (by decide) (lls' := [(18, 0), (19, x1), (24, x2), (0, x3), (0, 0), (9, 0), (9, 0)]) rfl (pj_kill hM [true, false, false, false, true, false, false] (lls' := [(18, 0), (9, 0), (9, 0), (9, 0), (0, 0), (9, 0), (9, 0)]) rfl k)))))))))))) ?_
  exact tL_liveThrough_18 hM _ h0 _
theorem cL_liveThrough (x1 : Int) (x2 : Int) (x3 : Int)  (w : pj_W) (r : Int × pj_W) (h : fL_liveThrough x1 x2 x3 w = some r) : pj_Cn l yX6_liveThrough cX6_liveThrough 7 (some .int) 5 118 true g [(18, 0), (19, x1), (24, x2), (0, x3)] w ((some (0, r.1) : Option pj_V), r.2) :=
  pj_Cn_of rfl (Nat.le_of_ble_eq_true rfl) (lls := [(18, 0), (19, x1), (24, x2), (0, x3), (9, 0), (9, 0), (9, 0)]) rfl (fun Go hM => tL_liveThrough hM x1 x2 x3 w (fun x => ((some (0, x.1) : Option pj_V), x.2) = ((some (0, r.1) : Option pj_V), r.2)) (fun r h => h) r h rfl)
noncomputable def fX_live_11  (w : pj_W) : Option (Int × pj_W) :=
  (fX_refuse 1 w).bind fun p1 => (some ((p1.1, p1.2)))
noncomputable def fX_live (x1 : Int) (w : pj_W) : Option (Int × pj_W) :=
  if x1 < 0 then (fX_live_11 w) else (if x1 ≤ 9999 then (if 0 ≤ (w 10 0 12) then (if (w 24 (w 10 0 12) 5) = 0 then ((fX_refuse 6 w).bind fun p5 => (some ((p5.1, p5.2)))) else ((fL_liveThrough (w 10 0 10) (w 10 0 12) x1 w).bind fun p7 => (if ((0 : Int) ≤ 0 ∧ (0 : Int) ≤ 0 ∧ (0 : Int) ≤ 5) ∧ (0 : Int) + 5 ≤ 5 ∧ (0 : Int) + 5 ≤ 5 then ((fX_answer p7.1 (pj_set (pj_cpy p7.2 42 0 0 44 0 0 5) 10 0 9 1)).bind fun p10 => (some ((p10.1, p10.2)))) else none))) else none) else (fX_live_11 w))
theorem tX_live_11 {Go : pj_C → Prop} (hM : pj_M l yX11_live cX11_live 3 (some .int) 6 144 true g n0 o Go)  (w : pj_W)  (R : Int × pj_W → Prop) (h0 : ∀ r, R (r) → ((some (0, r.1) : Option pj_V), r.2) = o) : pj_TG R (fX_live_11  w) (Go (11, [(10, 0), (9, 0), (9, 0)], [], w)) := by
  unfold fX_live_11
  refine pj_tbind (fun p1 h2 => ?_)
  exact pj_tret (fun hr => pj_aload_n hM (pc := 11) dX11_live_11 rfl rfl (pj_iconst hM (pc := 12) dX11_live_12 (by decide) (pj_cV hM (pc := 13) (cX_refuse 1 w p1 h2) dX11_live_13 mf_X11_refuse mv_X11_refuse ml_X11_100 kc_10 rfl rfl (by decide) rfl rfl (pj_ret hM (pc := 16) dX11_live_16 ⟨_, rfl⟩ (h0 ((p1.1, p1.2)) hr) rfl))))
theorem tX_live {Go : pj_C → Prop} (hM : pj_M l yX11_live cX11_live 3 (some .int) 6 144 true g n0 o Go) (x1 : Int) (w : pj_W)  (R : Int × pj_W → Prop) (h0 : ∀ r, R (r) → ((some (0, r.1) : Option pj_V), r.2) = o) : pj_TG R (fX_live x1 w) (Go (0, [(10, 0), (0, x1), (9, 0)], [], w)) := by
  unfold fX_live
  refine pj_map (fun k => pj_iload_n hM (pc := 0) dX11_live_0 rfl k) ?_
  refine pj_tif (fun h1 => ?_) (fun h1 => ?_)
  · refine pj_map (fun k => pj_if_lt_t hM (pc := 1) dX11_live_1 rfl h1 (pj_kill hM [true, false, false] (lls' := [(10, 0), (9, 0), (9, 0)]) rfl k)) ?_
    exact tX_live_11 hM w _ h0
  refine pj_map (fun k => pj_if_lt_f hM (pc := 1) 11 dX11_live_1 rfl h1 (pj_iload_n hM (pc := 4) dX11_live_4 rfl (pj_sipush hM (pc := 5) dX11_live_5 (by decide) k))) ?_
  refine pj_tif (fun h2 => ?_) (fun h2 => ?_)
  · refine pj_tgd (fun h3 => ?_)
    refine pj_map (fun k => pj_ic_le_t hM (pc := 8) dX11_live_8 rfl h2 (pj_aload_n hM (pc := 17) dX11_live_17 rfl rfl (pj_gf hM (pc := 18) (t := 24) dX11_live_18 fl_X11_77 (by decide) rfl 12 rfl (pj_gf hM (pc := 21) (t := 0) dX11_live_21 fl_X11_383 h3 rfl 5 rfl k)))) ?_
    refine pj_tif (fun h4 => ?_) (fun h4 => ?_)
    · refine pj_tbind (fun p5 h6 => ?_)
      exact pj_tret (fun hr => pj_if_ne_f hM (pc := 24) 34 dX11_live_24 rfl (fun q => q h4) (pj_aload_n hM (pc := 27) dX11_live_27 rfl rfl (pj_bipush hM (pc := 28) dX11_live_28 (by decide) (pj_cV hM (pc := 30) (cX_refuse 6 w p5 h6) dX11_live_30 mf_X11_refuse mv_X11_refuse ml_X11_100 kc_10 rfl rfl (by decide) rfl rfl (pj_ret hM (pc := 33) dX11_live_33 ⟨_, rfl⟩ (h0 ((p5.1, p5.2)) hr) rfl)))))
    refine pj_tbind (fun p7 h8 => ?_)
    refine pj_tgd (fun h9 => ?_)
    refine pj_tbind (fun p10 h11 => ?_)
    exact pj_tret (fun hr => pj_if_ne_t hM (pc := 24) dX11_live_24 rfl h4 (pj_aload_n hM (pc := 34) dX11_live_34 rfl rfl (pj_getF hM (pc := 35) (t := 18) dX11_live_35 fl_X11_60 (by decide) rfl rfl (pj_aload_n hM (pc := 38) dX11_live_38 rfl rfl (pj_gf hM (pc := 39) (t := 19) dX11_live_39 fl_X11_69 (by decide) rfl 10 rfl (pj_aload_n hM (pc := 42) dX11_live_42 rfl rfl (pj_gf hM (pc := 43) (t := 24) dX11_live_43 fl_X11_77 (by decide) rfl 12 rfl (pj_iload_n hM (pc := 46) dX11_live_46 rfl (pj_cV hM (pc := 47) (cL_liveThrough (w 10 0 10) (w 10 0 12) x1 w p7 h8) dX11_live_47 mf_X6_liveThrough mv_X6_liveThrough ml_X11_386 kc_18 rfl rfl (by decide) rfl rfl (pj_istore_n hM (pc := 50) dX11_live_50 (by decide) (lls' := [(10, 0), (0, x1), (0, p7.1)]) rfl (pj_aload_n hM (pc := 51) dX11_live_51 rfl rfl (pj_getF hM (pc := 52) (t := 18) dX11_live_52 fl_X11_60 (by decide) rfl rfl (pj_getF hM (pc := 55) (t := 42) dX11_live_55 fl_X11_390 (by decide) rfl rfl (pj_iconst hM (pc := 58) dX11_live_58 (by decide) (pj_aload_n hM (pc := 59) dX11_live_59 rfl rfl (pj_getF hM (pc := 60) (t := 44) dX11_live_60 fl_X11_64 (by decide) rfl rfl (pj_iconst hM (pc := 63) dX11_live_63 (by decide) (pj_iconst hM (pc := 64) dX11_live_64 (by decide) (pj_cpi hM (pc := 65) dX11_live_65 ml_X11_149 mo_A ki_42 ki_44 (by decide) (by decide) h9 rfl (pj_aload_n hM (pc := 68) dX11_live_68 rfl rfl (pj_iconst hM (pc := 69) dX11_live_69 (by decide) (pj_pf hM (pc := 70) dX11_live_70 fl_X11_393 (by decide) rfl (fun _ => Or.inr rfl) (by decide) (fun _ => rfl) 9 rfl (pj_aload_n hM (pc := 73) dX11_live_73 rfl rfl (pj_iload_n hM (pc := 74) dX11_live_74 rfl (pj_cV hM (pc := 75) (cX_answer p7.1 (pj_set (pj_cpy p7.2 42 0 0 44 0 0 5) 10 0 9 1) p10 h11) dX11_live_75 mf_X11_answer mv_X11_answer ml_X11_96 kc_10 rfl rfl (by decide) rfl rfl (pj_ret hM (pc := 78) dX11_live_78 ⟨_, rfl⟩ (h0 ((p10.1, p10.2)) hr) rfl))))))))))))))))))))))))))
  refine pj_map (fun k => pj_ic_le_f hM (pc := 8) 17 dX11_live_8 rfl h2 (pj_kill hM [true, false, false] (lls' := [(10, 0), (9, 0), (9, 0)]) rfl k)) ?_
  exact tX_live_11 hM w _ h0
theorem cX_live (x1 : Int)  (w : pj_W) (r : Int × pj_W) (h : fX_live x1 w = some r) : pj_Cn l yX11_live cX11_live 3 (some .int) 6 144 true g [(10, 0), (0, x1)] w ((some (0, r.1) : Option pj_V), r.2) :=
  pj_Cn_of rfl (Nat.le_of_ble_eq_true rfl) (lls := [(10, 0), (0, x1), (9, 0)]) rfl (fun Go hM => tX_live hM x1 w (fun x => ((some (0, x.1) : Option pj_V), x.2) = ((some (0, r.1) : Option pj_V), r.2)) (fun r h => h) r h rfl)
noncomputable def fX_lived_13  (w : pj_W) : Option (Int × pj_W) :=
  (fX_refuse 1 w).bind fun p1 => (some ((p1.1, p1.2)))
noncomputable def fX_lived (x1 : Int) (w : pj_W) : Option (Int × pj_W) :=
  if x1 < 0 then (fX_lived_13 w) else (if x1 < 5 then (if (w 10 0 9) = 0 then ((fX_refuse 6 w).bind fun p4 => (some ((p4.1, p4.2)))) else (if 0 ≤ x1 ∧ x1 < 5 then ((fX_answer (w 44 0 x1) w).bind fun p7 => (some ((p7.1, p7.2)))) else none)) else (fX_lived_13 w))
theorem tX_lived_13 {Go : pj_C → Prop} (hM : pj_M l yX11_lived cX11_lived 2 (some .int) 1 21 true g n0 o Go)  (w : pj_W)  (R : Int × pj_W → Prop) (h0 : ∀ r, R (r) → ((some (0, r.1) : Option pj_V), r.2) = o) : pj_TG R (fX_lived_13  w) (Go (13, [(10, 0), (9, 0)], [], w)) := by
  unfold fX_lived_13
  refine pj_tbind (fun p1 h2 => ?_)
  exact pj_tret (fun hr => pj_aload_n hM (pc := 13) dX11_lived_13 rfl rfl (pj_iconst hM (pc := 14) dX11_lived_14 (by decide) (pj_cV hM (pc := 15) (cX_refuse 1 w p1 h2) dX11_lived_15 mf_X11_refuse mv_X11_refuse ml_X11_100 kc_10 rfl rfl (by decide) rfl rfl (pj_ret hM (pc := 18) dX11_lived_18 ⟨_, rfl⟩ (h0 ((p1.1, p1.2)) hr) rfl))))
theorem tX_lived {Go : pj_C → Prop} (hM : pj_M l yX11_lived cX11_lived 2 (some .int) 1 21 true g n0 o Go) (x1 : Int) (w : pj_W)  (R : Int × pj_W → Prop) (h0 : ∀ r, R (r) → ((some (0, r.1) : Option pj_V), r.2) = o) : pj_TG R (fX_lived x1 w) (Go (0, [(10, 0), (0, x1)], [], w)) := by
  unfold fX_lived
  refine pj_map (fun k => pj_iload_n hM (pc := 0) dX11_lived_0 rfl k) ?_
  refine pj_tif (fun h1 => ?_) (fun h1 => ?_)
  · refine pj_map (fun k => pj_if_lt_t hM (pc := 1) dX11_lived_1 rfl h1 (pj_kill hM [true, false] (lls' := [(10, 0), (9, 0)]) rfl k)) ?_
    exact tX_lived_13 hM w _ h0
  refine pj_map (fun k => pj_if_lt_f hM (pc := 1) 13 dX11_lived_1 rfl h1 (pj_iload_n hM (pc := 4) dX11_lived_4 rfl (pj_aload_n hM (pc := 5) dX11_lived_5 rfl rfl (pj_getF hM (pc := 6) (t := 44) dX11_lived_6 fl_X11_64 (by decide) rfl rfl (pj_alen hM (pc := 9) dX11_lived_9 (by decide) (Or.inl rfl) ⟨_, rfl⟩ (by decide) k))))) ?_
  refine pj_tif (fun h2 => ?_) (fun h2 => ?_)
  · refine pj_map (fun k => pj_ic_lt_t hM (pc := 10) dX11_lived_10 rfl h2 (pj_aload_n hM (pc := 19) dX11_lived_19 rfl rfl (pj_gf hM (pc := 20) (t := 0) dX11_lived_20 fl_X11_393 (by decide) rfl 9 rfl k))) ?_
    refine pj_tif (fun h3 => ?_) (fun h3 => ?_)
    · refine pj_tbind (fun p4 h5 => ?_)
      exact pj_tret (fun hr => pj_if_eq_t hM (pc := 23) dX11_lived_23 rfl h3 (pj_aload_n hM (pc := 39) dX11_lived_39 rfl rfl (pj_bipush hM (pc := 40) dX11_lived_40 (by decide) (pj_cV hM (pc := 42) (cX_refuse 6 w p4 h5) dX11_lived_42 mf_X11_refuse mv_X11_refuse ml_X11_100 kc_10 rfl rfl (by decide) rfl rfl (pj_ret hM (pc := 45) dX11_lived_45 ⟨_, rfl⟩ (h0 ((p4.1, p4.2)) hr) rfl)))))
    refine pj_tgd (fun h6 => ?_)
    refine pj_tbind (fun p7 h8 => ?_)
    exact pj_tret (fun hr => pj_if_eq_f hM (pc := 23) 39 dX11_lived_23 rfl h3 (pj_aload_n hM (pc := 26) dX11_lived_26 rfl rfl (pj_aload_n hM (pc := 27) dX11_lived_27 rfl rfl (pj_getF hM (pc := 28) (t := 44) dX11_lived_28 fl_X11_64 (by decide) rfl rfl (pj_iload_n hM (pc := 31) dX11_lived_31 rfl (pj_ial hM (pc := 32) dX11_lived_32 ki_44 (by decide) h6 (pj_cV hM (pc := 33) (cX_answer (w 44 0 x1) w p7 h8) dX11_lived_33 mf_X11_answer mv_X11_answer ml_X11_96 kc_10 rfl rfl (by decide) rfl rfl (pj_goto hM (pc := 36) dX11_lived_36 rfl (pj_ret hM (pc := 45) dX11_lived_45 ⟨_, rfl⟩ (h0 ((p7.1, p7.2)) hr) rfl)))))))))
  refine pj_map (fun k => pj_ic_lt_f hM (pc := 10) 19 dX11_lived_10 rfl h2 (pj_kill hM [true, false] (lls' := [(10, 0), (9, 0)]) rfl k)) ?_
  exact tX_lived_13 hM w _ h0
theorem cX_lived (x1 : Int)  (w : pj_W) (r : Int × pj_W) (h : fX_lived x1 w = some r) : pj_Cn l yX11_lived cX11_lived 2 (some .int) 1 21 true g [(10, 0), (0, x1)] w ((some (0, r.1) : Option pj_V), r.2) :=
  pj_Cn_of rfl (Nat.le_of_ble_eq_true rfl) (lls := [(10, 0), (0, x1)]) rfl (fun Go hM => tX_lived hM x1 w (fun x => ((some (0, x.1) : Option pj_V), x.2) = ((some (0, r.1) : Option pj_V), r.2)) (fun r h => h) r h rfl)
noncomputable def fX_mark  (w : pj_W) : Option (Int × pj_W) :=
  if (w 10 0 14) < 3 then (if 0 ≤ (w 10 0 14) ∧ (w 10 0 14) < 3 then ((fB_copyFrom (2 + (w 10 0 14)) (w 10 0 10) w).bind fun p3 => (if 0 ≤ (p3 10 0 14) ∧ (p3 10 0 14) < 3 then ((fD_copyFrom (2 + (p3 10 0 14)) (p3 10 0 12) p3).bind fun p6 => ((fX_answer ((pj_set p6 10 0 14 (pj_wr ((p6 10 0 14) + 1))) 10 0 14) (pj_set p6 10 0 14 (pj_wr ((p6 10 0 14) + 1)))).bind fun p8 => (some ((p8.1, p8.2))))) else none)) else none) else ((fX_refuse 4 w).bind fun p10 => (some ((p10.1, p10.2))))
theorem tX_mark {Go : pj_C → Prop} (hM : pj_M l yX11_mark cX11_mark 1 (some .int) 3 69 true g n0 o Go)  (w : pj_W)  (R : Int × pj_W → Prop) (h0 : ∀ r, R (r) → ((some (0, r.1) : Option pj_V), r.2) = o) : pj_TG R (fX_mark  w) (Go (0, [(10, 0)], [], w)) := by
  unfold fX_mark
  refine pj_map (fun k => pj_aload_n hM (pc := 0) dX11_mark_0 rfl rfl (pj_gf hM (pc := 1) (t := 0) dX11_mark_1 fl_X11_403 (by decide) rfl 14 rfl (pj_iconst hM (pc := 4) dX11_mark_4 (by decide) k))) ?_
  refine pj_tif (fun h1 => ?_) (fun h1 => ?_)
  · refine pj_tgd (fun h2 => ?_)
    refine pj_tbind (fun p3 h4 => ?_)
    refine pj_tgd (fun h5 => ?_)
    refine pj_tbind (fun p6 h7 => ?_)
    refine pj_tbind (fun p8 h9 => ?_)
    exact pj_tret (fun hr => pj_ic_lt_t hM (pc := 5) dX11_mark_5 rfl h1 (pj_aload_n hM (pc := 14) dX11_mark_14 rfl rfl (pj_getF hM (pc := 15) (t := 16) dX11_mark_15 fl_X11_46 (by decide) rfl rfl (pj_aload_n hM (pc := 18) dX11_mark_18 rfl rfl (pj_gf hM (pc := 19) (t := 0) dX11_mark_19 fl_X11_403 (by decide) rfl 14 rfl (pj_aald hM (pc := 22) (fun s : Int => 2 + s) dX11_mark_22 (by decide) rfl (fun _ => rfl) ⟨_, rfl⟩ (by decide) (by decide) h2 (fun _ => rfl) (by show (0 : Int) ≤ (2 + (w 10 0 14)); omega) (pj_aload_n hM (pc := 23) dX11_mark_23 rfl rfl (pj_gf hM (pc := 24) (t := 19) dX11_mark_24 fl_X11_69 (by decide) rfl 10 rfl (pj_cVv hM (pc := 27) (cB_copyFrom (2 + (w 10 0 14)) (w 10 0 10) (by show (0 : Int) ≤ (2 + (w 10 0 14)); omega) w p3 h4) dX11_mark_27 mf_X0_copyFrom mv_X0_copyFrom ml_X11_396 kc_19 rfl rfl (by show (0 : Int) ≤ (2 + (w 10 0 14)); omega) rfl rfl (pj_aload_n hM (pc := 30) dX11_mark_30 rfl rfl (pj_getF hM (pc := 31) (t := 15) dX11_mark_31 fl_X11_40 (by decide) rfl rfl (pj_aload_n hM (pc := 34) dX11_mark_34 rfl rfl (pj_gf hM (pc := 35) (t := 0) dX11_mark_35 fl_X11_403 (by decide) rfl 14 rfl (pj_aald hM (pc := 38) (fun s : Int => 2 + s) dX11_mark_38 (by decide) rfl (fun _ => rfl) ⟨_, rfl⟩ (by decide) (by decide) h5 (fun _ => rfl) (by show (0 : Int) ≤ (2 + (p3 10 0 14)); omega) (pj_aload_n hM (pc := 39) dX11_mark_39 rfl rfl (pj_gf hM (pc := 40) (t := 24) dX11_mark_40 fl_X11_77 (by decide) rfl 12 rfl (pj_cVv hM (pc := 43) (cD_copyFrom (2 + (p3 10 0 14)) (p3 10 0 12) (by show (0 : Int) ≤ (2 + (p3 10 0 14)); omega) p3 p6 h7) dX11_mark_43 mf_X2_copyFrom mv_X2_copyFrom ml_X11_406 kc_24 rfl rfl (by show (0 : Int) ≤ (2 + (p3 10 0 14)); omega) rfl rfl (pj_aload_n hM (pc := 46) dX11_mark_46 rfl rfl (pj_dup hM (pc := 47) dX11_mark_47 (by decide) (pj_gf hM (pc := 48) (t := 0) dX11_mark_48 fl_X11_403 (by decide) rfl 14 rfl (pj_iconst hM (pc := 51) dX11_mark_51 (by decide) (pj_iadd hM (pc := 52) dX11_mark_52 (pj_pf hM (pc := 53) dX11_mark_53 fl_X11_403 (by decide) rfl (fun h => absurd h (by decide)) (by decide) (fun _ => rfl) 14 rfl (pj_aload_n hM (pc := 56) dX11_mark_56 rfl rfl (pj_aload_n hM (pc := 57) dX11_mark_57 rfl rfl (pj_gf hM (pc := 58) (t := 0) dX11_mark_58 fl_X11_403 (by decide) rfl 14 rfl (pj_cV hM (pc := 61) (cX_answer ((pj_set p6 10 0 14 (pj_wr ((p6 10 0 14) + 1))) 10 0 14) (pj_set p6 10 0 14 (pj_wr ((p6 10 0 14) + 1))) p8 h9) dX11_mark_61 mf_X11_answer mv_X11_answer ml_X11_96 kc_10 rfl rfl (by decide) rfl rfl (pj_ret hM (pc := 64) dX11_mark_64 ⟨_, rfl⟩ (h0 ((p8.1, p8.2)) hr) rfl))))))))))))))))))))))))))))
  refine pj_tbind (fun p10 h11 => ?_)
  exact pj_tret (fun hr => pj_ic_lt_f hM (pc := 5) 14 dX11_mark_5 rfl h1 (pj_aload_n hM (pc := 8) dX11_mark_8 rfl rfl (pj_iconst hM (pc := 9) dX11_mark_9 (by decide) (pj_cV hM (pc := 10) (cX_refuse 4 w p10 h11) dX11_mark_10 mf_X11_refuse mv_X11_refuse ml_X11_100 kc_10 rfl rfl (by decide) rfl rfl (pj_ret hM (pc := 13) dX11_mark_13 ⟨_, rfl⟩ (h0 ((p10.1, p10.2)) hr) rfl)))))
theorem cX_mark   (w : pj_W) (r : Int × pj_W) (h : fX_mark  w = some r) : pj_Cn l yX11_mark cX11_mark 1 (some .int) 3 69 true g [(10, 0)] w ((some (0, r.1) : Option pj_V), r.2) :=
  pj_Cn_of rfl (Nat.le_of_ble_eq_true rfl) (lls := [(10, 0)]) rfl (fun Go hM => tX_mark hM w (fun x => ((some (0, x.1) : Option pj_V), x.2) = ((some (0, r.1) : Option pj_V), r.2)) (fun r h => h) r h rfl)
noncomputable def fB_keptBy (i0 : Int) (x1 : Int) (w : pj_W) : Option (Int) :=
  (fB_finderAt i0 x1 w).bind fun p1 => (if p1 < 0 then (some (0)) else (some ((w 22 p1 5))))
theorem tB_keptBy {Go : pj_C → Prop} (hM : pj_M l yX0_keptBy cX0_keptBy 3 (some .int) 1 21 true g n0 o Go) (i0 : Int) (x1 : Int) (w : pj_W) (hn0 : 0 ≤ i0) (R : Int → Prop) (h0 : ∀ r, R (r) → ((some (0, r) : Option pj_V), w) = o) : pj_TG R (fB_keptBy i0 x1 w) (Go (0, [(19, i0), (0, x1), (9, 0)], [], w)) := by
  unfold fB_keptBy
  refine pj_tbind (fun p1 h2 => ?_)
  refine pj_map (fun k => pj_aload_n hM (pc := 0) dX0_keptBy_0 rfl rfl (pj_iload_n hM (pc := 1) dX0_keptBy_1 rfl (pj_cV hM (pc := 2) (cB_finderAt i0 x1 hn0 w p1 h2) dX0_keptBy_2 mf_X0_finderAt mv_X0_finderAt ml_X0_95 kc_19 rfl rfl hn0 rfl rfl (pj_astore_n hM (pc := 5) dX0_keptBy_5 (by decide) (by decide) (lls' := [(19, i0), (0, x1), (22, p1)]) rfl (pj_aload_n hM (pc := 6) dX0_keptBy_6 rfl rfl k))))) ?_
  refine pj_tif (fun h3 => ?_) (fun h3 => ?_)
  · exact pj_tret (fun hr => pj_nonnull_f hM (pc := 7) 14 dX0_keptBy_7 rfl (by decide) h3 (pj_iconst hM (pc := 10) dX0_keptBy_10 (by decide) (pj_goto hM (pc := 11) dX0_keptBy_11 rfl (pj_ret hM (pc := 18) dX0_keptBy_18 ⟨_, rfl⟩ (h0 (0) hr) rfl))))
  exact pj_tret (fun hr => pj_nonnull_t hM (pc := 7) dX0_keptBy_7 rfl (by decide) h3 (pj_aload_n hM (pc := 14) dX0_keptBy_14 rfl rfl (pj_gf hM (pc := 15) (t := 0) dX0_keptBy_15 fl_X0_76 (Int.not_lt.mp h3) rfl 5 rfl (pj_ret hM (pc := 18) dX0_keptBy_18 ⟨_, rfl⟩ (h0 ((w 22 p1 5)) hr) rfl))))
theorem cB_keptBy (i0 : Int) (x1 : Int) (hn0 : 0 ≤ i0) (w : pj_W) (r : Int) (h : fB_keptBy i0 x1 w = some r) : pj_Cn l yX0_keptBy cX0_keptBy 3 (some .int) 1 21 true g [(19, i0), (0, x1)] w ((some (0, r) : Option pj_V), w) :=
  pj_Cn_of rfl (Nat.le_of_ble_eq_true rfl) (lls := [(19, i0), (0, x1), (9, 0)]) rfl (fun Go hM => tB_keptBy hM i0 x1 w hn0 (fun x => ((some (0, x) : Option pj_V), w) = ((some (0, r) : Option pj_V), w)) (fun r h => h) r h rfl)
noncomputable def fX_deny (x1 : Int) (w : pj_W) : Option (Int × pj_W) :=
  some ((0, (pj_set w 10 0 15 x1)))
theorem tX_deny {Go : pj_C → Prop} (hM : pj_M l yX11_deny cX11_deny 2 (some .boolean) 0 0 ph g n0 o Go) (x1 : Int) (w : pj_W)  (R : Int × pj_W → Prop) (h0 : ∀ r, R (r) → ((some (0, r.1) : Option pj_V), r.2) = o) : pj_TG R (fX_deny x1 w) (Go (0, [(10, 0), (0, x1)], [], w)) := by
  unfold fX_deny
  exact pj_tret (fun hr => pj_aload_n hM (pc := 0) dX11_deny_0 rfl rfl (pj_iload_n hM (pc := 1) dX11_deny_1 rfl (pj_pf hM (pc := 2) dX11_deny_2 fl_X11_89 (by decide) rfl (fun h => absurd h (by decide)) (by decide) (fun _ => rfl) 15 rfl (pj_iconst hM (pc := 5) dX11_deny_5 (by decide) (pj_ret hM (pc := 6) dX11_deny_6 ⟨_, rfl, Or.inl rfl⟩ (h0 ((0, (pj_set w 10 0 15 x1))) hr) rfl)))))
theorem cX_deny (x1 : Int)  (w : pj_W) (r : Int × pj_W) (h : fX_deny x1 w = some r) : pj_Cn l yX11_deny cX11_deny 2 (some .boolean) 0 0 ph g [(10, 0), (0, x1)] w ((some (0, r.1) : Option pj_V), r.2) :=
  pj_Cn_of rfl (Nat.le_of_ble_eq_true rfl) (lls := [(10, 0), (0, x1)]) rfl (fun Go hM => tX_deny hM x1 w (fun x => ((some (0, x.1) : Option pj_V), x.2) = ((some (0, r.1) : Option pj_V), r.2)) (fun r h => h) r h rfl)
noncomputable def fX_grant  (w : pj_W) : Option (Int × pj_W) :=
  some ((1, (pj_set w 10 0 15 0)))
theorem tX_grant {Go : pj_C → Prop} (hM : pj_M l yX11_grant cX11_grant 1 (some .boolean) 0 0 ph g n0 o Go)  (w : pj_W)  (R : Int × pj_W → Prop) (h0 : ∀ r, R (r) → ((some (0, r.1) : Option pj_V), r.2) = o) : pj_TG R (fX_grant  w) (Go (0, [(10, 0)], [], w)) := by
  unfold fX_grant
  exact pj_tret (fun hr => pj_aload_n hM (pc := 0) dX11_grant_0 rfl rfl (pj_iconst hM (pc := 1) dX11_grant_1 (by decide) (pj_pf hM (pc := 2) dX11_grant_2 fl_X11_89 (by decide) rfl (fun h => absurd h (by decide)) (by decide) (fun _ => rfl) 15 rfl (pj_iconst hM (pc := 5) dX11_grant_5 (by decide) (pj_ret hM (pc := 6) dX11_grant_6 ⟨_, rfl, Or.inr rfl⟩ (h0 ((1, (pj_set w 10 0 15 0))) hr) rfl)))))
theorem cX_grant   (w : pj_W) (r : Int × pj_W) (h : fX_grant  w = some r) : pj_Cn l yX11_grant cX11_grant 1 (some .boolean) 0 0 ph g [(10, 0)] w ((some (0, r.1) : Option pj_V), r.2) :=
  pj_Cn_of rfl (Nat.le_of_ble_eq_true rfl) (lls := [(10, 0)]) rfl (fun Go hM => tX_grant hM w (fun x => ((some (0, x.1) : Option pj_V), x.2) = ((some (0, r.1) : Option pj_V), r.2)) (fun r h => h) r h rfl)
noncomputable def fX_commonDivisor_9b  (w : pj_W) (x4 : Int) (x6 : Int) (x8 : Int) : Option ((Int × Int × Int) ⊕ (Int)) :=
  if 200 ≤ x8 then (some (Sum.inr (x4))) else (if (pj_cmp x6 0) = 0 then (some (Sum.inr (x4))) else (if ¬ x6 = 0 then (some (Sum.inl (x6, (Int.tmod x4 x6), (pj_wr (x8 + 1))))) else none))
noncomputable def fX_commonDivisor_9  (w : pj_W) (s : (Int × Int × Int)) : Option (Int) := pj_Lp (fun s : (Int × Int × Int) => fX_commonDivisor_9b  w s.1 s.2.1 s.2.2) s
noncomputable def fX_commonDivisor (x0 : Int) (x2 : Int) (w : pj_W) : Option (Int) :=
  fX_commonDivisor_9 w (x0, x2, 0)
theorem tX_commonDivisor_9b {Go : pj_C → Prop} (hM : pj_M l yX11_commonDivisor cX11_commonDivisor 11 (some .long) 0 0 ph g n0 o Go)  (w : pj_W) (x4 : Int) (x6 : Int) (x8 : Int)  (R : (Int × Int × Int) ⊕ (Int) → Prop) (h0 : ∀ r, R (Sum.inr (r)) → ((some (1, r) : Option pj_V), w) = o) (hk9 : ∀ s, R (Sum.inl s) → Go (9, [(9, 0), (9, 0), (9, 0), (9, 0), (1, s.1), (9, 0), (1, s.2.1), (9, 0), (0, s.2.2), (9, 0), (9, 0)], [], w)) : pj_TG R (fX_commonDivisor_9b  w x4 x6 x8) (Go (9, [(9, 0), (9, 0), (9, 0), (9, 0), (1, x4), (9, 0), (1, x6), (9, 0), (0, x8), (9, 0), (9, 0)], [], w)) := by
  unfold fX_commonDivisor_9b
  refine pj_map (fun k => pj_iload hM (pc := 9) dX11_commonDivisor_9 rfl (pj_sipush hM (pc := 11) dX11_commonDivisor_11 (by decide) k)) ?_
  refine pj_tif (fun h1 => ?_) (fun h1 => ?_)
  · exact pj_tret (fun hr => pj_ic_ge_t hM (pc := 14) dX11_commonDivisor_14 rfl h1 (pj_lload hM (pc := 45) dX11_commonDivisor_45 rfl (pj_ret hM (pc := 47) dX11_commonDivisor_47 ⟨_, rfl⟩ (h0 (x4) hr) rfl)))
  refine pj_map (fun k => pj_ic_ge_f hM (pc := 14) 45 dX11_commonDivisor_14 rfl h1 (pj_lload hM (pc := 17) dX11_commonDivisor_17 rfl (pj_lconst hM (pc := 19) (z := 0) dX11_commonDivisor_19 rfl (by decide) (pj_lcmp hM (pc := 20) dX11_commonDivisor_20 k)))) ?_
  refine pj_tif (fun h2 => ?_) (fun h2 => ?_)
  · exact pj_tret (fun hr => pj_if_eq_t hM (pc := 21) dX11_commonDivisor_21 rfl h2 (pj_lload hM (pc := 45) dX11_commonDivisor_45 rfl (pj_ret hM (pc := 47) dX11_commonDivisor_47 ⟨_, rfl⟩ (h0 (x4) hr) rfl)))
  refine pj_tgd (fun h3 => ?_)
  exact pj_tret (fun hr => pj_if_eq_f hM (pc := 21) 45 dX11_commonDivisor_21 rfl h2 (pj_lload hM (pc := 24) dX11_commonDivisor_24 rfl (pj_lload hM (pc := 26) dX11_commonDivisor_26 rfl (pj_lrem hM (pc := 28) dX11_commonDivisor_28 h3 (pj_lstore hM (pc := 29) dX11_commonDivisor_29 (by decide) (lls' := [(9, 0), (9, 0), (9, 0), (9, 0), (1, x4), (9, 0), (1, x6), (9, 0), (0, x8), (1, (Int.tmod x4 x6)), (9, 0)]) rfl (pj_lload hM (pc := 31) dX11_commonDivisor_31 rfl (pj_lstore hM (pc := 33) dX11_commonDivisor_33 (by decide) (lls' := [(9, 0), (9, 0), (9, 0), (9, 0), (1, x6), (9, 0), (1, x6), (9, 0), (0, x8), (1, (Int.tmod x4 x6)), (9, 0)]) rfl (pj_lload hM (pc := 35) dX11_commonDivisor_35 rfl (pj_lstore hM (pc := 37) dX11_commonDivisor_37 (by decide) (lls' := [(9, 0), (9, 0), (9, 0), (9, 0), (1, x6), (9, 0), (1, (Int.tmod x4 x6)), (9, 0), (0, x8), (1, (Int.tmod x4 x6)), (9, 0)]) rfl (pj_iinc hM (pc := 39) dX11_commonDivisor_39 rfl (by decide) (lls' := [(9, 0), (9, 0), (9, 0), (9, 0), (1, x6), (9, 0), (1, (Int.tmod x4 x6)), (9, 0), (0, (pj_wr (x8 + 1))), (1, (Int.tmod x4 x6)), (9, 0)]) rfl (pj_goto hM (pc := 42) dX11_commonDivisor_42 rfl (pj_kill hM [false, false, false, false, true, false, true, false, true, false, false] (lls' := [(9, 0), (9, 0), (9, 0), (9, 0), (1, x6), (9, 0), (1, (Int.tmod x4 x6)), (9, 0), (0, (pj_wr (x8 + 1))), (9, 0), (9, 0)]) rfl ((hk9 _ hr))))))))))))))
theorem tX_commonDivisor_9 {Go : pj_C → Prop} (hM : pj_M l yX11_commonDivisor cX11_commonDivisor 11 (some .long) 0 0 ph g n0 o Go)  (w : pj_W)  (R : Int → Prop) (h0 : ∀ r, R (r) → ((some (1, r) : Option pj_V), w) = o) (s : (Int × Int × Int)) : pj_TG R (fX_commonDivisor_9  w s) (Go (9, [(9, 0), (9, 0), (9, 0), (9, 0), (1, s.1), (9, 0), (1, s.2.1), (9, 0), (0, s.2.2), (9, 0), (9, 0)], [], w)) := by
  unfold fX_commonDivisor_9
  exact pj_tLp (G := fun s : (Int × Int × Int) => Go (9, [(9, 0), (9, 0), (9, 0), (9, 0), (1, s.1), (9, 0), (1, s.2.1), (9, 0), (0, s.2.2), (9, 0), (9, 0)], [], w)) (fun s => tX_commonDivisor_9b hM  w s.1 s.2.1 s.2.2  _ (fun r h => h0 r h)  (fun s h => h)) s
theorem tX_commonDivisor {Go : pj_C → Prop} (hM : pj_M l yX11_commonDivisor cX11_commonDivisor 11 (some .long) 0 0 ph g n0 o Go) (x0 : Int) (x2 : Int) (w : pj_W)  (R : Int → Prop) (h0 : ∀ r, R (r) → ((some (1, r) : Option pj_V), w) = o) : pj_TG R (fX_commonDivisor x0 x2 w) (Go (0, [(1, x0), (9, 0), (1, x2), (9, 0), (9, 0), (9, 0), (9, 0), (9, 0), (9, 0), (9, 0), (9, 0)], [], w)) := by
  unfold fX_commonDivisor
  refine pj_map (fun k => pj_lload_n hM (pc := 0) dX11_commonDivisor_0 rfl (pj_lstore hM (pc := 1) dX11_commonDivisor_1 (by decide) (lls' := [(1, x0), (9, 0), (1, x2), (9, 0), (1, x0), (9, 0), (9, 0), (9, 0), (9, 0), (9, 0), (9, 0)]) rfl (pj_lload_n hM (pc := 3) dX11_commonDivisor_3 rfl (pj_lstore hM (pc := 4) dX11_commonDivisor_4 (by decide) (lls' := [(1, x0), (9, 0), (1, x2), (9, 0), (1, x0), (9, 0), (1, x2), (9, 0), (9, 0), (9, 0), (9, 0)]) rfl (pj_iconst hM (pc := 6) dX11_commonDivisor_6 (by decide) (pj_istore hM (pc := 7) dX11_commonDivisor_7 (by decide) (lls' := [(1, x0), (9, 0), (1, x2), (9, 0), (1, x0), (9, 0), (1, x2), (9, 0), (0, 0), (9, 0), (9, 0)]) rfl (pj_kill hM [false, false, false, false, true, false, true, false, true, false, false] (lls' := [(9, 0), (9, 0), (9, 0), (9, 0), (1, x0), (9, 0), (1, x2), (9, 0), (0, 0), (9, 0), (9, 0)]) rfl k))))))) ?_
  exact tX_commonDivisor_9 hM w _ h0 _
theorem cX_commonDivisor (x0 : Int) (x2 : Int)  (w : pj_W) (r : Int) (h : fX_commonDivisor x0 x2 w = some r) : pj_Cn l yX11_commonDivisor cX11_commonDivisor 11 (some .long) 0 0 ph g [(1, x0), (1, x2)] w ((some (1, r) : Option pj_V), w) :=
  pj_Cn_of rfl (Nat.le_of_ble_eq_true rfl) (lls := [(1, x0), (9, 0), (1, x2), (9, 0), (9, 0), (9, 0), (9, 0), (9, 0), (9, 0), (9, 0), (9, 0)]) rfl (fun Go hM => tX_commonDivisor hM x0 x2 w (fun x => ((some (1, x) : Option pj_V), w) = ((some (1, r) : Option pj_V), w)) (fun r h => h) r h rfl)
noncomputable def fX_tellFraction (x1 : Int) (x3 : Int) (w : pj_W) : Option (pj_W) :=
  (fX_commonDivisor x1 x3 w).bind fun p1 => (if (pj_cmp p1 0) ≤ 0 then (some (w)) else (if ¬ p1 = 0 then (some ((pj_set (pj_set w 10 0 16 (pj_divl x1 p1)) 10 0 17 (pj_divl x3 p1)))) else none))
theorem tX_tellFraction {Go : pj_C → Prop} (hM : pj_M l yX11_tellFraction cX11_tellFraction 7 none 1 30 ph g n0 o Go) (x1 : Int) (x3 : Int) (w : pj_W)  (R : pj_W → Prop) (h0 : ∀ r, R (r) → ((none : Option pj_V), r) = o) : pj_TG R (fX_tellFraction x1 x3 w) (Go (0, [(10, 0), (1, x1), (9, 0), (1, x3), (9, 0), (9, 0), (9, 0)], [], w)) := by
  unfold fX_tellFraction
  refine pj_tbind (fun p1 h2 => ?_)
  refine pj_map (fun k => pj_lload_n hM (pc := 0) dX11_tellFraction_0 rfl (pj_lload_n hM (pc := 1) dX11_tellFraction_1 rfl (pj_cS hM (pc := 2) (cX_commonDivisor x1 x3 w p1 h2) dX11_tellFraction_2 mf_X11_commonDivisor ms_X11_commonDivisor ml_X11_106 rfl rfl rfl rfl (pj_lstore hM (pc := 5) dX11_tellFraction_5 (by decide) (lls' := [(10, 0), (1, x1), (9, 0), (1, x3), (9, 0), (1, p1), (9, 0)]) rfl (pj_lload hM (pc := 7) dX11_tellFraction_7 rfl (pj_lconst hM (pc := 9) (z := 0) dX11_tellFraction_9 rfl (by decide) (pj_lcmp hM (pc := 10) dX11_tellFraction_10 k))))))) ?_
  refine pj_tif (fun h3 => ?_) (fun h3 => ?_)
  · exact pj_tret (fun hr => pj_if_le_t hM (pc := 11) dX11_tellFraction_11 rfl h3 (pj_ret hM (pc := 30) dX11_tellFraction_30 rfl (h0 (w) hr) rfl))
  refine pj_tgd (fun h4 => ?_)
  exact pj_tret (fun hr => pj_if_le_f hM (pc := 11) 30 dX11_tellFraction_11 rfl h3 (pj_aload_n hM (pc := 14) dX11_tellFraction_14 rfl rfl (pj_lload_n hM (pc := 15) dX11_tellFraction_15 rfl (pj_lload hM (pc := 16) dX11_tellFraction_16 rfl (pj_ldiv hM (pc := 18) dX11_tellFraction_18 h4 (pj_pf hM (pc := 19) dX11_tellFraction_19 fl_X11_103 (by decide) rfl (fun h => absurd h (by decide)) (by decide) (fun _ => rfl) 16 rfl (pj_aload_n hM (pc := 22) dX11_tellFraction_22 rfl rfl (pj_lload_n hM (pc := 23) dX11_tellFraction_23 rfl (pj_lload hM (pc := 24) dX11_tellFraction_24 rfl (pj_ldiv hM (pc := 26) dX11_tellFraction_26 h4 (pj_pf hM (pc := 27) dX11_tellFraction_27 fl_X11_84 (by decide) rfl (fun h => absurd h (by decide)) (by decide) (fun _ => rfl) 17 rfl (pj_ret hM (pc := 30) dX11_tellFraction_30 rfl (h0 ((pj_set (pj_set w 10 0 16 (pj_divl x1 p1)) 10 0 17 (pj_divl x3 p1))) hr) rfl))))))))))))
theorem cX_tellFraction (x1 : Int) (x3 : Int)  (w : pj_W) (r : pj_W) (h : fX_tellFraction x1 x3 w = some r) : pj_Cn l yX11_tellFraction cX11_tellFraction 7 none 1 30 ph g [(10, 0), (1, x1), (1, x3)] w ((none : Option pj_V), r) :=
  pj_Cn_of rfl (Nat.le_of_ble_eq_true rfl) (lls := [(10, 0), (1, x1), (9, 0), (1, x3), (9, 0), (9, 0), (9, 0)]) rfl (fun Go hM => tX_tellFraction hM x1 x3 w (fun x => ((none : Option pj_V), x) = ((none : Option pj_V), r)) (fun r h => h) r h rfl)
noncomputable def fX_mean_66b (x1 : Int) (x2 : Int) (x3 : Int) (x4 : Int) (x6 : Int) (w : pj_W) : Option ((Int × Int × pj_W) ⊕ (Int × pj_W)) :=
  if x3 ≤ x6 then ((fX_tellFraction x4 x3 w).bind fun p2 => ((fX_grant p2).bind fun p4 => (if p4.1 = 0 ∨ p4.1 = 1 then (some (Sum.inr ((p4.1, p4.2)))) else none))) else (if 0 ≤ (w 10 0 11) then ((fB_copyFrom (w 10 0 11) (w 10 0 10) w).bind fun p8 => ((fL_liveThrough (p8 10 0 11) (p8 10 0 12) (pj_wr (x2 + x6)) p8).bind fun p10 => (if 0 ≤ (p10.2 10 0 11) then ((fB_keptBy (p10.2 10 0 11) x1 p10.2).bind fun p13 => (some (Sum.inl ((pj_wl (x4 + p13)), (pj_wr (x6 + 1)), p10.2)))) else none))) else none)
noncomputable def fX_mean_66 (x1 : Int) (x2 : Int) (x3 : Int) (s : (Int × Int × pj_W)) : Option (Int × pj_W) := pj_Lp (fun s : (Int × Int × pj_W) => fX_mean_66b x1 x2 x3 s.1 s.2.1 s.2.2) s
noncomputable def fX_mean_37  (w : pj_W) : Option (Int × pj_W) :=
  (fX_deny 1 w).bind fun p1 => (if p1.1 = 0 ∨ p1.1 = 1 then (some ((p1.1, p1.2))) else none)
noncomputable def fX_mean (x1 : Int) (x2 : Int) (x3 : Int) (w : pj_W) : Option (Int × pj_W) :=
  if 0 ≤ (w 10 0 10) then ((fB_finderAt (w 10 0 10) x1 w).bind fun p2 => (if p2 < 0 then (fX_mean_37 w) else (if x2 < 0 then (fX_mean_37 w) else (if x3 < 1 then (fX_mean_37 w) else (if 20 < x3 then (fX_mean_37 w) else (if x2 ≤ (pj_wr ((pj_wr (9999 - x3)) + 1)) then (if 0 ≤ (w 10 0 12) then (if (w 24 (w 10 0 12) 5) = 0 then ((fX_deny 6 w).bind fun p11 => (if p11.1 = 0 ∨ p11.1 = 1 then (some ((p11.1, p11.2))) else none)) else (fX_mean_66 x1 x2 x3 (0, 0, w))) else none) else (fX_mean_37 w))))))) else none
theorem tX_mean_66b {Go : pj_C → Prop} (hM : pj_M l yX11_mean cX11_mean 7 (some .boolean) 6 144 true g n0 o Go) (x1 : Int) (x2 : Int) (x3 : Int) (x4 : Int) (x6 : Int) (w : pj_W)  (R : (Int × Int × pj_W) ⊕ (Int × pj_W) → Prop) (h0 : ∀ r, R (Sum.inr (r)) → ((some (0, r.1) : Option pj_V), r.2) = o) (hk66 : ∀ s, R (Sum.inl s) → Go (66, [(10, 0), (0, x1), (0, x2), (0, x3), (1, s.1), (9, 0), (0, s.2.1)], [], s.2.2)) : pj_TG R (fX_mean_66b x1 x2 x3 x4 x6 w) (Go (66, [(10, 0), (0, x1), (0, x2), (0, x3), (1, x4), (9, 0), (0, x6)], [], w)) := by
  unfold fX_mean_66b
  refine pj_map (fun k => pj_iload hM (pc := 66) dX11_mean_66 rfl (pj_iload_n hM (pc := 68) dX11_mean_68 rfl k)) ?_
  refine pj_tif (fun h1 => ?_) (fun h1 => ?_)
  · refine pj_tbind (fun p2 h3 => ?_)
    refine pj_tbind (fun p4 h5 => ?_)
    refine pj_tgd (fun h6 => ?_)
    exact pj_tret (fun hr => pj_ic_ge_t hM (pc := 69) dX11_mean_69 rfl h1 (pj_aload_n hM (pc := 123) dX11_mean_123 rfl rfl (pj_lload hM (pc := 124) dX11_mean_124 rfl (pj_iload_n hM (pc := 126) dX11_mean_126 rfl (pj_i2l hM (pc := 127) dX11_mean_127 (pj_cVv hM (pc := 128) (cX_tellFraction x4 x3 w p2 h3) dX11_mean_128 mf_X11_tellFraction mv_X11_tellFraction ml_X11_350 kc_10 rfl rfl (by decide) rfl rfl (pj_aload_n hM (pc := 131) dX11_mean_131 rfl rfl (pj_cV hM (pc := 132) (cX_grant p2 p4 h5) dX11_mean_132 mf_X11_grant mv_X11_grant ml_X11_122 kc_10 rfl rfl (by decide) rfl rfl (pj_ret hM (pc := 135) dX11_mean_135 ⟨_, rfl, h6⟩ (h0 ((p4.1, p4.2)) hr) rfl)))))))))
  refine pj_tgd (fun h7 => ?_)
  refine pj_tbind (fun p8 h9 => ?_)
  refine pj_tbind (fun p10 h11 => ?_)
  refine pj_tgd (fun h12 => ?_)
  refine pj_tbind (fun p13 h14 => ?_)
  exact pj_tret (fun hr => pj_ic_ge_f hM (pc := 69) 123 dX11_mean_69 rfl h1 (pj_aload_n hM (pc := 72) dX11_mean_72 rfl rfl (pj_gf hM (pc := 73) (t := 19) dX11_mean_73 fl_X11_73 (by decide) rfl 11 rfl (pj_aload_n hM (pc := 76) dX11_mean_76 rfl rfl (pj_gf hM (pc := 77) (t := 19) dX11_mean_77 fl_X11_69 (by decide) rfl 10 rfl (pj_cVv hM (pc := 80) (cB_copyFrom (w 10 0 11) (w 10 0 10) h7 w p8 h9) dX11_mean_80 mf_X0_copyFrom mv_X0_copyFrom ml_X11_396 kc_19 rfl rfl h7 rfl rfl (pj_aload_n hM (pc := 83) dX11_mean_83 rfl rfl (pj_getF hM (pc := 84) (t := 18) dX11_mean_84 fl_X11_60 (by decide) rfl rfl (pj_aload_n hM (pc := 87) dX11_mean_87 rfl rfl (pj_gf hM (pc := 88) (t := 19) dX11_mean_88 fl_X11_73 (by decide) rfl 11 rfl (pj_aload_n hM (pc := 91) dX11_mean_91 rfl rfl (pj_gf hM (pc := 92) (t := 24) dX11_mean_92 fl_X11_77 (by decide) rfl 12 rfl (pj_iload_n hM (pc := 95) dX11_mean_95 rfl (pj_iload hM (pc := 96) dX11_mean_96 rfl (pj_iadd hM (pc := 98) dX11_mean_98 (pj_cV hM (pc := 99) (cL_liveThrough (p8 10 0 11) (p8 10 0 12) (pj_wr (x2 + x6)) p8 p10 h11) dX11_mean_99 mf_X6_liveThrough mv_X6_liveThrough ml_X11_386 kc_18 rfl rfl (by decide) rfl rfl (pj_pop hM (pc := 102) dX11_mean_102 (by decide) (pj_lload hM (pc := 103) dX11_mean_103 rfl (pj_aload_n hM (pc := 105) dX11_mean_105 rfl rfl (pj_gf hM (pc := 106) (t := 19) dX11_mean_106 fl_X11_73 (by decide) rfl 11 rfl (pj_iload_n hM (pc := 109) dX11_mean_109 rfl (pj_cV hM (pc := 110) (cB_keptBy (p10.2 10 0 11) x1 h12 p10.2 p13 h14) dX11_mean_110 mf_X0_keptBy mv_X0_keptBy ml_X11_400 kc_19 rfl rfl h12 rfl rfl (pj_i2l hM (pc := 113) dX11_mean_113 (pj_ladd hM (pc := 114) dX11_mean_114 (pj_lstore hM (pc := 115) dX11_mean_115 (by decide) (lls' := [(10, 0), (0, x1), (0, x2), (0, x3), (1, (pj_wl (x4 + p13))), (9, 0), (0, x6)]) rfl (pj_iinc hM (pc := 117) dX11_mean_117 rfl (by decide) (lls' := [(10, 0), (0, x1), (0, x2), (0, x3), (1, (pj_wl (x4 + p13))), (9, 0), (0, (pj_wr (x6 + 1)))]) rfl (pj_goto hM (pc := 120) dX11_mean_120 rfl (pj_kill hM [true, true, true, true, true, false, true] (lls' := [(10, 0), (0, x1), (0, x2), (0, x3), (1, (pj_wl (x4 + p13))), (9, 0), (0, (pj_wr (x6 + 1)))]) rfl ((hk66 _ hr))))))))))))))))))))))))))))))
theorem tX_mean_66 {Go : pj_C → Prop} (hM : pj_M l yX11_mean cX11_mean 7 (some .boolean) 6 144 true g n0 o Go) (x1 : Int) (x2 : Int) (x3 : Int)  (R : Int × pj_W → Prop) (h0 : ∀ r, R (r) → ((some (0, r.1) : Option pj_V), r.2) = o) (s : (Int × Int × pj_W)) : pj_TG R (fX_mean_66 x1 x2 x3 s) (Go (66, [(10, 0), (0, x1), (0, x2), (0, x3), (1, s.1), (9, 0), (0, s.2.1)], [], s.2.2)) := by
  unfold fX_mean_66
  exact pj_tLp (G := fun s : (Int × Int × pj_W) => Go (66, [(10, 0), (0, x1), (0, x2), (0, x3), (1, s.1), (9, 0), (0, s.2.1)], [], s.2.2)) (fun s => tX_mean_66b hM x1 x2 x3 s.1 s.2.1 s.2.2  _ (fun r h => h0 r h)  (fun s h => h)) s
theorem tX_mean_37 {Go : pj_C → Prop} (hM : pj_M l yX11_mean cX11_mean 7 (some .boolean) 6 144 true g n0 o Go)  (w : pj_W)  (R : Int × pj_W → Prop) (h0 : ∀ r, R (r) → ((some (0, r.1) : Option pj_V), r.2) = o) : pj_TG R (fX_mean_37  w) (Go (37, [(10, 0), (9, 0), (9, 0), (9, 0), (9, 0), (9, 0), (9, 0)], [], w)) := by
  unfold fX_mean_37
  refine pj_tbind (fun p1 h2 => ?_)
  refine pj_tgd (fun h3 => ?_)
  exact pj_tret (fun hr => pj_aload_n hM (pc := 37) dX11_mean_37 rfl rfl (pj_iconst hM (pc := 38) dX11_mean_38 (by decide) (pj_cV hM (pc := 39) (cX_deny 1 w p1 h2) dX11_mean_39 mf_X11_deny mv_X11_deny ml_X11_114 kc_10 rfl rfl (by decide) rfl rfl (pj_ret hM (pc := 42) dX11_mean_42 ⟨_, rfl, h3⟩ (h0 ((p1.1, p1.2)) hr) rfl))))
theorem tX_mean {Go : pj_C → Prop} (hM : pj_M l yX11_mean cX11_mean 7 (some .boolean) 6 144 true g n0 o Go) (x1 : Int) (x2 : Int) (x3 : Int) (w : pj_W)  (R : Int × pj_W → Prop) (h0 : ∀ r, R (r) → ((some (0, r.1) : Option pj_V), r.2) = o) : pj_TG R (fX_mean x1 x2 x3 w) (Go (0, [(10, 0), (0, x1), (0, x2), (0, x3), (9, 0), (9, 0), (9, 0)], [], w)) := by
  unfold fX_mean
  refine pj_tgd (fun h1 => ?_)
  refine pj_tbind (fun p2 h3 => ?_)
  refine pj_map (fun k => pj_aload_n hM (pc := 0) dX11_mean_0 rfl rfl (pj_gf hM (pc := 1) (t := 19) dX11_mean_1 fl_X11_69 (by decide) rfl 10 rfl (pj_iload_n hM (pc := 4) dX11_mean_4 rfl (pj_cV hM (pc := 5) (cB_finderAt (w 10 0 10) x1 h1 w p2 h3) dX11_mean_5 mf_X0_finderAt mv_X0_finderAt ml_X11_216 kc_19 rfl rfl h1 rfl rfl k)))) ?_
  refine pj_tif (fun h4 => ?_) (fun h4 => ?_)
  · refine pj_map (fun k => pj_null_t hM (pc := 8) dX11_mean_8 rfl (by decide) h4 (pj_kill hM [true, false, false, false, false, false, false] (lls' := [(10, 0), (9, 0), (9, 0), (9, 0), (9, 0), (9, 0), (9, 0)]) rfl k)) ?_
    exact tX_mean_37 hM w _ h0
  refine pj_map (fun k => pj_null_f hM (pc := 8) 37 dX11_mean_8 rfl (by decide) h4 (pj_iload_n hM (pc := 11) dX11_mean_11 rfl k)) ?_
  refine pj_tif (fun h5 => ?_) (fun h5 => ?_)
  · refine pj_map (fun k => pj_if_lt_t hM (pc := 12) dX11_mean_12 rfl h5 (pj_kill hM [true, false, false, false, false, false, false] (lls' := [(10, 0), (9, 0), (9, 0), (9, 0), (9, 0), (9, 0), (9, 0)]) rfl k)) ?_
    exact tX_mean_37 hM w _ h0
  refine pj_map (fun k => pj_if_lt_f hM (pc := 12) 37 dX11_mean_12 rfl h5 (pj_iload_n hM (pc := 15) dX11_mean_15 rfl (pj_iconst hM (pc := 16) dX11_mean_16 (by decide) k))) ?_
  refine pj_tif (fun h6 => ?_) (fun h6 => ?_)
  · refine pj_map (fun k => pj_ic_lt_t hM (pc := 17) dX11_mean_17 rfl h6 (pj_kill hM [true, false, false, false, false, false, false] (lls' := [(10, 0), (9, 0), (9, 0), (9, 0), (9, 0), (9, 0), (9, 0)]) rfl k)) ?_
    exact tX_mean_37 hM w _ h0
  refine pj_map (fun k => pj_ic_lt_f hM (pc := 17) 37 dX11_mean_17 rfl h6 (pj_iload_n hM (pc := 20) dX11_mean_20 rfl (pj_bipush hM (pc := 21) dX11_mean_21 (by decide) k))) ?_
  refine pj_tif (fun h7 => ?_) (fun h7 => ?_)
  · refine pj_map (fun k => pj_ic_gt_t hM (pc := 23) dX11_mean_23 rfl h7 (pj_kill hM [true, false, false, false, false, false, false] (lls' := [(10, 0), (9, 0), (9, 0), (9, 0), (9, 0), (9, 0), (9, 0)]) rfl k)) ?_
    exact tX_mean_37 hM w _ h0
  refine pj_map (fun k => pj_ic_gt_f hM (pc := 23) 37 dX11_mean_23 rfl h7 (pj_iload_n hM (pc := 26) dX11_mean_26 rfl (pj_sipush hM (pc := 27) dX11_mean_27 (by decide) (pj_iload_n hM (pc := 30) dX11_mean_30 rfl (pj_isub hM (pc := 31) dX11_mean_31 (pj_iconst hM (pc := 32) dX11_mean_32 (by decide) (pj_iadd hM (pc := 33) dX11_mean_33 k))))))) ?_
  refine pj_tif (fun h8 => ?_) (fun h8 => ?_)
  · refine pj_tgd (fun h9 => ?_)
    refine pj_map (fun k => pj_ic_le_t hM (pc := 34) dX11_mean_34 rfl h8 (pj_aload_n hM (pc := 43) dX11_mean_43 rfl rfl (pj_gf hM (pc := 44) (t := 24) dX11_mean_44 fl_X11_77 (by decide) rfl 12 rfl (pj_gf hM (pc := 47) (t := 0) dX11_mean_47 fl_X11_383 h9 rfl 5 rfl k)))) ?_
    refine pj_tif (fun h10 => ?_) (fun h10 => ?_)
    · refine pj_tbind (fun p11 h12 => ?_)
      refine pj_tgd (fun h13 => ?_)
      exact pj_tret (fun hr => pj_if_ne_f hM (pc := 50) 60 dX11_mean_50 rfl (fun q => q h10) (pj_aload_n hM (pc := 53) dX11_mean_53 rfl rfl (pj_bipush hM (pc := 54) dX11_mean_54 (by decide) (pj_cV hM (pc := 56) (cX_deny 6 w p11 h12) dX11_mean_56 mf_X11_deny mv_X11_deny ml_X11_114 kc_10 rfl rfl (by decide) rfl rfl (pj_ret hM (pc := 59) dX11_mean_59 ⟨_, rfl, h13⟩ (h0 ((p11.1, p11.2)) hr) rfl)))))
    refine pj_map (fun k => pj_if_ne_t hM (pc := 50) dX11_mean_50 rfl h10 (pj_lconst hM (pc := 60) (z := 0) dX11_mean_60 rfl (by decide) (pj_lstore hM (pc := 61) dX11_mean_61 (by decide) (lls' := [(10, 0), (0, x1), (0, x2), (0, x3), (1, 0), (9, 0), (9, 0)]) rfl (pj_iconst hM (pc := 63) dX11_mean_63 (by decide) (pj_istore hM (pc := 64) dX11_mean_64 (by decide) (lls' := [(10, 0), (0, x1), (0, x2), (0, x3), (1, 0), (9, 0), (0, 0)]) rfl (pj_kill hM [true, true, true, true, true, false, true] (lls' := [(10, 0), (0, x1), (0, x2), (0, x3), (1, 0), (9, 0), (0, 0)]) rfl k)))))) ?_
    exact tX_mean_66 hM x1 x2 x3 _ h0 _
  refine pj_map (fun k => pj_ic_le_f hM (pc := 34) 43 dX11_mean_34 rfl h8 (pj_kill hM [true, false, false, false, false, false, false] (lls' := [(10, 0), (9, 0), (9, 0), (9, 0), (9, 0), (9, 0), (9, 0)]) rfl k)) ?_
  exact tX_mean_37 hM w _ h0
theorem cX_mean (x1 : Int) (x2 : Int) (x3 : Int)  (w : pj_W) (r : Int × pj_W) (h : fX_mean x1 x2 x3 w = some r) : pj_Cn l yX11_mean cX11_mean 7 (some .boolean) 6 144 true g [(10, 0), (0, x1), (0, x2), (0, x3)] w ((some (0, r.1) : Option pj_V), r.2) :=
  pj_Cn_of rfl (Nat.le_of_ble_eq_true rfl) (lls := [(10, 0), (0, x1), (0, x2), (0, x3), (9, 0), (9, 0), (9, 0)]) rfl (fun Go hM => tX_mean hM x1 x2 x3 w (fun x => ((some (0, x.1) : Option pj_V), x.2) = ((some (0, r.1) : Option pj_V), r.2)) (fun r h => h) r h rfl)
noncomputable def fX_needs_65 (x1 : Int) (x2 : Int) (x3 : Int) (w : pj_W) : Option ((Int × Int) ⊕ (Int × pj_W)) :=
  some (Sum.inl (x2, (pj_wr (x3 + 1))))
noncomputable def fX_needs_21b (x1 : Int) (w : pj_W) (x2 : Int) (x3 : Int) : Option ((Int × Int) ⊕ (Int × pj_W)) :=
  if 0 ≤ (w 10 0 10) then (if (w 19 (w 10 0 10) 8) ≤ x3 then ((fX_answer x2 w).bind fun p3 => (some (Sum.inr ((p3.1, p3.2))))) else (if 0 ≤ x3 ∧ x3 < 8 then (if (w 23 (8 * (w 10 0 10) + x3) 5) = 0 then (fX_needs_65 x1 x2 x3 w) else ((fN_lastSet (8 * (w 10 0 10) + x3) w).bind fun p7 => (fX_needs_65 x1 (if p7 = (pj_shl 1 x1) then x2 else (pj_wr (x2 + 1))) x3 w))) else none)) else none
noncomputable def fX_needs_21 (x1 : Int) (w : pj_W) (s : (Int × Int)) : Option (Int × pj_W) := pj_Lp (fun s : (Int × Int) => fX_needs_21b x1 w s.1 s.2) s
noncomputable def fX_needs (x1 : Int) (w : pj_W) : Option (Int × pj_W) :=
  if 0 ≤ (w 10 0 10) then ((fB_finderAt (w 10 0 10) x1 w).bind fun p2 => (if p2 < 0 then ((fX_refuse 1 w).bind fun p5 => (some ((p5.1, p5.2)))) else (fX_needs_21 x1 w (0, 0)))) else none
theorem tX_needs_65 {Go : pj_C → Prop} (hM : pj_M l yX11_needs cX11_needs 5 (some .int) 1 22 true g n0 o Go) (x1 : Int) (x2 : Int) (x3 : Int) (w : pj_W)  (R : (Int × Int) ⊕ (Int × pj_W) → Prop) (h0 : ∀ r, R (Sum.inr (r)) → ((some (0, r.1) : Option pj_V), r.2) = o) (hk21 : ∀ s, R (Sum.inl s) → Go (21, [(10, 0), (0, x1), (0, s.1), (0, s.2), (9, 0)], [], w)) : pj_TG R (fX_needs_65 x1 x2 x3 w) (Go (65, [(10, 0), (0, x1), (0, x2), (0, x3), (9, 0)], [], w)) := by
  unfold fX_needs_65
  exact pj_tret (fun hr => pj_iinc hM (pc := 65) dX11_needs_65 rfl (by decide) (lls' := [(10, 0), (0, x1), (0, x2), (0, (pj_wr (x3 + 1))), (9, 0)]) rfl (pj_goto hM (pc := 68) dX11_needs_68 rfl (pj_kill hM [true, true, true, true, false] (lls' := [(10, 0), (0, x1), (0, x2), (0, (pj_wr (x3 + 1))), (9, 0)]) rfl ((hk21 _ hr)))))
theorem tX_needs_21b {Go : pj_C → Prop} (hM : pj_M l yX11_needs cX11_needs 5 (some .int) 1 22 true g n0 o Go) (x1 : Int) (w : pj_W) (x2 : Int) (x3 : Int)  (R : (Int × Int) ⊕ (Int × pj_W) → Prop) (h0 : ∀ r, R (Sum.inr (r)) → ((some (0, r.1) : Option pj_V), r.2) = o) (hk21 : ∀ s, R (Sum.inl s) → Go (21, [(10, 0), (0, x1), (0, s.1), (0, s.2), (9, 0)], [], w)) : pj_TG R (fX_needs_21b x1 w x2 x3) (Go (21, [(10, 0), (0, x1), (0, x2), (0, x3), (9, 0)], [], w)) := by
  unfold fX_needs_21b
  refine pj_tgd (fun h1 => ?_)
  refine pj_map (fun k => pj_iload_n hM (pc := 21) dX11_needs_21 rfl (pj_aload_n hM (pc := 22) dX11_needs_22 rfl rfl (pj_gf hM (pc := 23) (t := 19) dX11_needs_23 fl_X11_69 (by decide) rfl 10 rfl (pj_gf hM (pc := 26) (t := 0) dX11_needs_26 fl_X11_175 h1 rfl 8 rfl k)))) ?_
  refine pj_tif (fun h2 => ?_) (fun h2 => ?_)
  · refine pj_tbind (fun p3 h4 => ?_)
    exact pj_tret (fun hr => pj_ic_ge_t hM (pc := 29) dX11_needs_29 rfl h2 (pj_aload_n hM (pc := 71) dX11_needs_71 rfl rfl (pj_iload_n hM (pc := 72) dX11_needs_72 rfl (pj_cV hM (pc := 73) (cX_answer x2 w p3 h4) dX11_needs_73 mf_X11_answer mv_X11_answer ml_X11_96 kc_10 rfl rfl (by decide) rfl rfl (pj_ret hM (pc := 76) dX11_needs_76 ⟨_, rfl⟩ (h0 ((p3.1, p3.2)) hr) rfl)))))
  refine pj_tgd (fun h5 => ?_)
  refine pj_map (fun k => pj_ic_ge_f hM (pc := 29) 71 dX11_needs_29 rfl h2 (pj_aload_n hM (pc := 32) dX11_needs_32 rfl rfl (pj_gf hM (pc := 33) (t := 19) dX11_needs_33 fl_X11_69 (by decide) rfl 10 rfl (pj_getF hM (pc := 36) (t := 21) dX11_needs_36 fl_X11_303 h1 rfl rfl (pj_iload_n hM (pc := 39) dX11_needs_39 rfl (pj_aald hM (pc := 40) (fun s : Int => 8 * (w 10 0 10) + s) dX11_needs_40 (by decide) rfl (fun _ => rfl) ⟨_, rfl⟩ (by decide) h1 h5 (fun _ => rfl) (by show (0 : Int) ≤ (8 * (w 10 0 10) + x3); omega) (pj_astore hM (pc := 41) dX11_needs_41 (by decide) (by decide) (lls' := [(10, 0), (0, x1), (0, x2), (0, x3), (23, (8 * (w 10 0 10) + x3))]) rfl (pj_aload hM (pc := 43) dX11_needs_43 rfl rfl (pj_gf hM (pc := 45) (t := 0) dX11_needs_45 fl_X11_287 (by show (0 : Int) ≤ (8 * (w 10 0 10) + x3); omega) rfl 5 rfl k))))))))) ?_
  refine pj_tif (fun h6 => ?_) (fun h6 => ?_)
  · refine pj_map (fun k => pj_if_eq_t hM (pc := 48) dX11_needs_48 rfl h6 (pj_kill hM [true, true, true, true, false] (lls' := [(10, 0), (0, x1), (0, x2), (0, x3), (9, 0)]) rfl k)) ?_
    exact tX_needs_65 hM x1 x2 x3 w _ h0 hk21
  refine pj_tbind (fun p7 h8 => ?_)
  refine pj_map (fun k => pj_if_eq_f hM (pc := 48) 65 dX11_needs_48 rfl h6 (pj_aload hM (pc := 51) dX11_needs_51 rfl rfl (pj_cV hM (pc := 53) (cN_lastSet (8 * (w 10 0 10) + x3) (by show (0 : Int) ≤ (8 * (w 10 0 10) + x3); omega) w p7 h8) dX11_needs_53 mf_X4_lastSet mv_X4_lastSet ml_X11_290 kc_23 rfl rfl (by show (0 : Int) ≤ (8 * (w 10 0 10) + x3); omega) rfl rfl (pj_iconst hM (pc := 56) dX11_needs_56 (by decide) (pj_iload_n hM (pc := 57) dX11_needs_57 rfl (pj_ishl hM (pc := 58) dX11_needs_58 k)))))) ?_
  refine pj_tJ (fun v : Int => fX_needs_65 x1 v x3 w) (fun h9 => ?_) (fun h9 => ?_)
  · refine pj_map (fun k => pj_ic_eq_t hM (pc := 59) dX11_needs_59 rfl h9 (pj_kill hM [true, true, true, true, false] (lls' := [(10, 0), (0, x1), (0, x2), (0, x3), (9, 0)]) rfl k)) ?_
    exact tX_needs_65 hM x1 x2 x3 w _ h0 hk21
  refine pj_map (fun k => pj_ic_eq_f hM (pc := 59) 65 dX11_needs_59 rfl h9 (pj_iinc hM (pc := 62) dX11_needs_62 rfl (by decide) (lls' := [(10, 0), (0, x1), (0, (pj_wr (x2 + 1))), (0, x3), (23, (8 * (w 10 0 10) + x3))]) rfl (pj_kill hM [true, true, true, true, false] (lls' := [(10, 0), (0, x1), (0, (pj_wr (x2 + 1))), (0, x3), (9, 0)]) rfl k))) ?_
  exact tX_needs_65 hM x1 (pj_wr (x2 + 1)) x3 w _ h0 hk21
theorem tX_needs_21 {Go : pj_C → Prop} (hM : pj_M l yX11_needs cX11_needs 5 (some .int) 1 22 true g n0 o Go) (x1 : Int) (w : pj_W)  (R : Int × pj_W → Prop) (h0 : ∀ r, R (r) → ((some (0, r.1) : Option pj_V), r.2) = o) (s : (Int × Int)) : pj_TG R (fX_needs_21 x1 w s) (Go (21, [(10, 0), (0, x1), (0, s.1), (0, s.2), (9, 0)], [], w)) := by
  unfold fX_needs_21
  exact pj_tLp (G := fun s : (Int × Int) => Go (21, [(10, 0), (0, x1), (0, s.1), (0, s.2), (9, 0)], [], w)) (fun s => tX_needs_21b hM x1 w s.1 s.2  _ (fun r h => h0 r h)  (fun s h => h)) s
theorem tX_needs {Go : pj_C → Prop} (hM : pj_M l yX11_needs cX11_needs 5 (some .int) 1 22 true g n0 o Go) (x1 : Int) (w : pj_W)  (R : Int × pj_W → Prop) (h0 : ∀ r, R (r) → ((some (0, r.1) : Option pj_V), r.2) = o) : pj_TG R (fX_needs x1 w) (Go (0, [(10, 0), (0, x1), (9, 0), (9, 0), (9, 0)], [], w)) := by
  unfold fX_needs
  refine pj_tgd (fun h1 => ?_)
  refine pj_tbind (fun p2 h3 => ?_)
  refine pj_map (fun k => pj_aload_n hM (pc := 0) dX11_needs_0 rfl rfl (pj_gf hM (pc := 1) (t := 19) dX11_needs_1 fl_X11_69 (by decide) rfl 10 rfl (pj_iload_n hM (pc := 4) dX11_needs_4 rfl (pj_cV hM (pc := 5) (cB_finderAt (w 10 0 10) x1 h1 w p2 h3) dX11_needs_5 mf_X0_finderAt mv_X0_finderAt ml_X11_216 kc_19 rfl rfl h1 rfl rfl k)))) ?_
  refine pj_tif (fun h4 => ?_) (fun h4 => ?_)
  · refine pj_tbind (fun p5 h6 => ?_)
    exact pj_tret (fun hr => pj_nonnull_f hM (pc := 8) 17 dX11_needs_8 rfl (by decide) h4 (pj_aload_n hM (pc := 11) dX11_needs_11 rfl rfl (pj_iconst hM (pc := 12) dX11_needs_12 (by decide) (pj_cV hM (pc := 13) (cX_refuse 1 w p5 h6) dX11_needs_13 mf_X11_refuse mv_X11_refuse ml_X11_100 kc_10 rfl rfl (by decide) rfl rfl (pj_ret hM (pc := 16) dX11_needs_16 ⟨_, rfl⟩ (h0 ((p5.1, p5.2)) hr) rfl)))))
  refine pj_map (fun k => pj_nonnull_t hM (pc := 8) dX11_needs_8 rfl (by decide) h4 (pj_iconst hM (pc := 17) dX11_needs_17 (by decide) (pj_istore_n hM (pc := 18) dX11_needs_18 (by decide) (lls' := [(10, 0), (0, x1), (0, 0), (9, 0), (9, 0)]) rfl (pj_iconst hM (pc := 19) dX11_needs_19 (by decide) (pj_istore_n hM (pc := 20) dX11_needs_20 (by decide) (lls' := [(10, 0), (0, x1), (0, 0), (0, 0), (9, 0)]) rfl (pj_kill hM [true, true, true, true, false] (lls' := [(10, 0), (0, x1), (0, 0), (0, 0), (9, 0)]) rfl k)))))) ?_
  exact tX_needs_21 hM x1 w _ h0 _
theorem cX_needs (x1 : Int)  (w : pj_W) (r : Int × pj_W) (h : fX_needs x1 w = some r) : pj_Cn l yX11_needs cX11_needs 5 (some .int) 1 22 true g [(10, 0), (0, x1)] w ((some (0, r.1) : Option pj_V), r.2) :=
  pj_Cn_of rfl (Nat.le_of_ble_eq_true rfl) (lls := [(10, 0), (0, x1), (9, 0), (9, 0), (9, 0)]) rfl (fun Go hM => tX_needs hM x1 w (fun x => ((some (0, x.1) : Option pj_V), x.2) = ((some (0, r.1) : Option pj_V), r.2)) (fun r h => h) r h rfl)
end
