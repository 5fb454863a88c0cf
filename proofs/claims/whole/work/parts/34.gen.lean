/-! printed by wip/whole/gen.py: each method as a function of numbers and worlds, and its contract -/
section
variable {l : Launch} {g : pj_G} {n0 : Nat} {o : Option pj_V × pj_W} {ph : Bool}
noncomputable def fM_begins_26b (x1 : Int) (x3 : Int) (w : pj_W) : Option ((Int × pj_W) ⊕ (Int × pj_W)) :=
  if x1 ≤ x3 then ((some (pj_set (pj_set (pj_set (pj_set (pj_set w 26 0 10 0) 26 0 18 0) 26 0 17 (-1)) 26 0 14 0) 26 0 19 0)).bind fun w2 => ((fM_ahead w2).bind fun p3 => (some (Sum.inr ((1, p3)))))) else (if 0 ≤ x3 ∧ x3 < 900 then (some (Sum.inl ((pj_wr (x3 + 1)), (pj_set w 66 0 x3 (pj_w8 (w 65 0 x3)))))) else none)
noncomputable def fM_begins_26 (x1 : Int) (s : (Int × pj_W)) : Option (Int × pj_W) := pj_Lp (fun s : (Int × pj_W) => fM_begins_26b x1 s.1 s.2) s
noncomputable def fM_begins (x1 : Int) (x2 : Int) (w : pj_W) : Option (Int × pj_W) :=
  if x1 < 0 then (some ((0, w))) else (if (w 26 0 10) < x1 then (some ((0, w))) else (if x1 ≤ x2 then (fM_begins_26 x1 (0, (pj_set w 26 0 11 x1))) else (some ((0, w)))))
theorem tM_begins_26b {Go : pj_C → Prop} (hM : pj_M l yX12_begins cX12_begins 4 (some .boolean) 2 42 true g n0 o Go) (x1 : Int) (x3 : Int) (w : pj_W)  (R : (Int × pj_W) ⊕ (Int × pj_W) → Prop) (h0 : ∀ r, R (Sum.inr (r)) → ((some (0, r.1) : Option pj_V), r.2) = o) (hk26 : ∀ s, R (Sum.inl s) → Go (26, [(26, 0), (0, x1), (9, 0), (0, s.1)], [], s.2)) : pj_TG R (fM_begins_26b x1 x3 w) (Go (26, [(26, 0), (0, x1), (9, 0), (0, x3)], [], w)) := by
  unfold fM_begins_26b
  refine pj_map (fun k => pj_iload_n hM (pc := 26) dX12_begins_26 rfl (pj_iload_n hM (pc := 27) dX12_begins_27 rfl k)) ?_
  refine pj_tif (fun h1 => ?_) (fun h1 => ?_)
  · refine pj_map (fun k => pj_ic_ge_t hM (pc := 28) dX12_begins_28 rfl h1 (pj_aload_n hM (pc := 49) dX12_begins_49 rfl rfl (pj_iconst hM (pc := 50) dX12_begins_50 (by decide) (pj_pf hM (pc := 51) dX12_begins_51 fl_X12_102 (by decide) rfl (fun h => absurd h (by decide)) (by decide) (fun _ => rfl) 10 rfl (pj_aload_n hM (pc := 54) dX12_begins_54 rfl rfl (pj_iconst hM (pc := 55) dX12_begins_55 (by decide) (pj_pf hM (pc := 56) dX12_begins_56 fl_X12_148 (by decide) rfl (fun h => absurd h (by decide)) (by decide) (fun _ => rfl) 18 rfl (pj_aload_n hM (pc := 59) dX12_begins_59 rfl rfl (pj_iconst hM (pc := 60) dX12_begins_60 (by decide) (pj_pf hM (pc := 61) dX12_begins_61 fl_X12_41 (by decide) rfl (fun h => absurd h (by decide)) (by decide) (fun _ => rfl) 17 rfl (pj_aload_n hM (pc := 64) dX12_begins_64 rfl rfl (pj_iconst hM (pc := 65) dX12_begins_65 (by decide) (pj_pf hM (pc := 66) dX12_begins_66 fl_X12_111 (by decide) rfl (fun h => absurd h (by decide)) (by decide) (fun _ => rfl) 14 rfl (pj_aload_n hM (pc := 69) dX12_begins_69 rfl rfl (pj_iconst hM (pc := 70) dX12_begins_70 (by decide) (pj_pf hM (pc := 71) dX12_begins_71 fl_X12_151 (by decide) rfl (fun h => absurd h (by decide)) (by decide) (fun _ => rfl) 19 rfl k)))))))))))))))) ?_
    refine pj_tlet (fun w2 => Go (74, [(26, 0), (0, x1), (9, 0), (0, x3)], [], w2)) (fun w2 => ?_)
    refine pj_tbind (fun p3 h4 => ?_)
    exact pj_tret (fun hr => pj_aload_n hM (pc := 74) dX12_begins_74 rfl rfl (pj_cVv hM (pc := 75) (cM_ahead w2 p3 h4) dX12_begins_75 mf_X12_ahead mv_X12_ahead ml_X12_154 kc_26 rfl rfl (by decide) rfl rfl (pj_iconst hM (pc := 78) dX12_begins_78 (by decide) (pj_ret hM (pc := 79) dX12_begins_79 ⟨_, rfl, Or.inr rfl⟩ (h0 ((1, p3)) hr) rfl))))
  refine pj_tgd (fun h5 => ?_)
  exact pj_tret (fun hr => pj_ic_ge_f hM (pc := 28) 49 dX12_begins_28 rfl h1 (pj_aload_n hM (pc := 31) dX12_begins_31 rfl rfl (pj_getF hM (pc := 32) (t := 66) dX12_begins_32 fl_X12_34 (by decide) rfl rfl (pj_iload_n hM (pc := 35) dX12_begins_35 rfl (pj_aload_n hM (pc := 36) dX12_begins_36 rfl rfl (pj_getF hM (pc := 37) (t := 65) dX12_begins_37 fl_X12_30 (by decide) rfl rfl (pj_iload_n hM (pc := 40) dX12_begins_40 rfl (pj_bal hM (pc := 41) dX12_begins_41 kb_65 (by decide) h5 (pj_bas hM (pc := 42) dX12_begins_42 kb_66 (by decide) h5 (pj_iinc hM (pc := 43) dX12_begins_43 rfl (by decide) (lls' := [(26, 0), (0, x1), (9, 0), (0, (pj_wr (x3 + 1)))]) rfl (pj_goto hM (pc := 46) dX12_begins_46 rfl (pj_kill hM [true, true, false, true] (lls' := [(26, 0), (0, x1), (9, 0), (0, (pj_wr (x3 + 1)))]) rfl ((hk26 _ hr))))))))))))))
theorem tM_begins_26 {Go : pj_C → Prop} (hM : pj_M l yX12_begins cX12_begins 4 (some .boolean) 2 42 true g n0 o Go) (x1 : Int)  (R : Int × pj_W → Prop) (h0 : ∀ r, R (r) → ((some (0, r.1) : Option pj_V), r.2) = o) (s : (Int × pj_W)) : pj_TG R (fM_begins_26 x1 s) (Go (26, [(26, 0), (0, x1), (9, 0), (0, s.1)], [], s.2)) := by
  unfold fM_begins_26
  exact pj_tLp (G := fun s : (Int × pj_W) => Go (26, [(26, 0), (0, x1), (9, 0), (0, s.1)], [], s.2)) (fun s => tM_begins_26b hM x1 s.1 s.2  _ (fun r h => h0 r h)  (fun s h => h)) s
theorem tM_begins {Go : pj_C → Prop} (hM : pj_M l yX12_begins cX12_begins 4 (some .boolean) 2 42 true g n0 o Go) (x1 : Int) (x2 : Int) (w : pj_W)  (R : Int × pj_W → Prop) (h0 : ∀ r, R (r) → ((some (0, r.1) : Option pj_V), r.2) = o) : pj_TG R (fM_begins x1 x2 w) (Go (0, [(26, 0), (0, x1), (0, x2), (9, 0)], [], w)) := by
  unfold fM_begins
  refine pj_map (fun k => pj_iload_n hM (pc := 0) dX12_begins_0 rfl k) ?_
  refine pj_tif (fun h1 => ?_) (fun h1 => ?_)
  · exact pj_tret (fun hr => pj_if_lt_t hM (pc := 1) dX12_begins_1 rfl h1 (pj_iconst hM (pc := 17) dX12_begins_17 (by decide) (pj_ret hM (pc := 18) dX12_begins_18 ⟨_, rfl, Or.inl rfl⟩ (h0 ((0, w)) hr) rfl)))
  refine pj_map (fun k => pj_if_lt_f hM (pc := 1) 17 dX12_begins_1 rfl h1 (pj_iload_n hM (pc := 4) dX12_begins_4 rfl (pj_aload_n hM (pc := 5) dX12_begins_5 rfl rfl (pj_gf hM (pc := 6) (t := 0) dX12_begins_6 fl_X12_102 (by decide) rfl 10 rfl k)))) ?_
  refine pj_tif (fun h2 => ?_) (fun h2 => ?_)
  · exact pj_tret (fun hr => pj_ic_gt_t hM (pc := 9) dX12_begins_9 rfl h2 (pj_iconst hM (pc := 17) dX12_begins_17 (by decide) (pj_ret hM (pc := 18) dX12_begins_18 ⟨_, rfl, Or.inl rfl⟩ (h0 ((0, w)) hr) rfl)))
  refine pj_map (fun k => pj_ic_gt_f hM (pc := 9) 17 dX12_begins_9 rfl h2 (pj_iload_n hM (pc := 12) dX12_begins_12 rfl (pj_iload_n hM (pc := 13) dX12_begins_13 rfl k))) ?_
  refine pj_tif (fun h3 => ?_) (fun h3 => ?_)
  · refine pj_map (fun k => pj_ic_le_t hM (pc := 14) dX12_begins_14 rfl h3 (pj_aload_n hM (pc := 19) dX12_begins_19 rfl rfl (pj_iload_n hM (pc := 20) dX12_begins_20 rfl (pj_pf hM (pc := 21) dX12_begins_21 fl_X12_108 (by decide) rfl (fun h => absurd h (by decide)) (by decide) (fun _ => rfl) 11 rfl (pj_iconst hM (pc := 24) dX12_begins_24 (by decide) (pj_istore_n hM (pc := 25) dX12_begins_25 (by decide) (lls' := [(26, 0), (0, x1), (0, x2), (0, 0)]) rfl (pj_kill hM [true, true, false, true] (lls' := [(26, 0), (0, x1), (9, 0), (0, 0)]) rfl k))))))) ?_
    exact tM_begins_26 hM x1 _ h0 _
  exact pj_tret (fun hr => pj_ic_le_f hM (pc := 14) 19 dX12_begins_14 rfl h3 (pj_iconst hM (pc := 17) dX12_begins_17 (by decide) (pj_ret hM (pc := 18) dX12_begins_18 ⟨_, rfl, Or.inl rfl⟩ (h0 ((0, w)) hr) rfl)))
theorem cM_begins (x1 : Int) (x2 : Int)  (w : pj_W) (r : Int × pj_W) (h : fM_begins x1 x2 w = some r) : pj_Cn l yX12_begins cX12_begins 4 (some .boolean) 2 42 true g [(26, 0), (0, x1), (0, x2)] w ((some (0, r.1) : Option pj_V), r.2) :=
  pj_Cn_of rfl (Nat.le_of_ble_eq_true rfl) (lls := [(26, 0), (0, x1), (0, x2), (9, 0)]) rfl (fun Go hM => tM_begins hM x1 x2 w (fun x => ((some (0, x.1) : Option pj_V), x.2) = ((some (0, r.1) : Option pj_V), r.2)) (fun r h => h) r h rfl)
noncomputable def fM_first_78  (w : pj_W) : Option (Int × pj_W) :=
  (fM_wantSign 59 w).bind fun p1 => (if p1.1 = 0 ∨ p1.1 = 1 then (some ((p1.1, p1.2))) else none)
noncomputable def fM_first  (w : pj_W) : Option (Int × pj_W) :=
  (fM_wantWord 0 w).bind fun p1 => (if p1.1 = 0 then (some ((0, p1.2))) else ((fM_number 5600 2 40 p1.2).bind fun p4 => (if p4.1 = 0 then (some ((0, p4.2))) else ((fM_wantWord 1 p4.2).bind fun p7 => (if p7.1 = 0 then (some ((0, p7.2))) else ((fM_number 5603 1 240 p7.2).bind fun p10 => (if p10.1 = 0 then (some ((0, p10.2))) else ((fM_inWords p10.2).bind fun p13 => (if p13 = 2 then ((fM_ahead p10.2).bind fun p16 => ((fM_number 5604 0 60 p16).bind fun p18 => (if p18.1 = 0 then (some ((0, p18.2))) else (fM_first_78 p18.2)))) else (fM_first_78 p10.2))))))))))
theorem tM_first_78 {Go : pj_C → Prop} (hM : pj_M l yX12_first cX12_first 1 (some .boolean) 6 133 true g n0 o Go)  (w : pj_W)  (R : Int × pj_W → Prop) (h0 : ∀ r, R (r) → ((some (0, r.1) : Option pj_V), r.2) = o) : pj_TG R (fM_first_78  w) (Go (78, [(26, 0)], [], w)) := by
  unfold fM_first_78
  refine pj_tbind (fun p1 h2 => ?_)
  refine pj_tgd (fun h3 => ?_)
  exact pj_tret (fun hr => pj_aload_n hM (pc := 78) dX12_first_78 rfl rfl (pj_bipush hM (pc := 79) dX12_first_79 (by decide) (pj_cV hM (pc := 81) (cM_wantSign 59 w p1 h2) dX12_first_81 mf_X12_wantSign mv_X12_wantSign ml_X12_195 kc_26 rfl rfl (by decide) rfl rfl (pj_ret hM (pc := 84) dX12_first_84 ⟨_, rfl, h3⟩ (h0 ((p1.1, p1.2)) hr) rfl))))
theorem tM_first {Go : pj_C → Prop} (hM : pj_M l yX12_first cX12_first 1 (some .boolean) 6 133 true g n0 o Go)  (w : pj_W)  (R : Int × pj_W → Prop) (h0 : ∀ r, R (r) → ((some (0, r.1) : Option pj_V), r.2) = o) : pj_TG R (fM_first  w) (Go (0, [(26, 0)], [], w)) := by
  unfold fM_first
  refine pj_tbind (fun p1 h2 => ?_)
  refine pj_map (fun k => pj_aload_n hM (pc := 0) dX12_first_0 rfl rfl (pj_ldcS4 hM (pc := 1) dX12_first_1 rfl (pj_iconst hM (pc := 3) dX12_first_3 (by decide) (pj_cV hM (pc := 4) (cM_wantWord 0 w p1 h2) dX12_first_4 mf_X12_wantWord mv_X12_wantWord ml_X12_187 kc_26 rfl rfl (by decide) rfl rfl k)))) ?_
  refine pj_tif (fun h3 => ?_) (fun h3 => ?_)
  · exact pj_tret (fun hr => pj_if_eq_t hM (pc := 7) dX12_first_7 rfl h3 (pj_iconst hM (pc := 47) dX12_first_47 (by decide) (pj_ret hM (pc := 48) dX12_first_48 ⟨_, rfl, Or.inl rfl⟩ (h0 ((0, p1.2)) hr) rfl)))
  refine pj_tbind (fun p4 h5 => ?_)
  refine pj_map (fun k => pj_if_eq_f hM (pc := 7) 47 dX12_first_7 rfl h3 (pj_aload_n hM (pc := 10) dX12_first_10 rfl rfl (pj_sipush hM (pc := 11) dX12_first_11 (by decide) (pj_iconst hM (pc := 14) dX12_first_14 (by decide) (pj_bipush hM (pc := 15) dX12_first_15 (by decide) (pj_cV hM (pc := 17) (cM_number 5600 2 40 p1.2 p4 h5) dX12_first_17 mf_X12_number mv_X12_number ml_X12_191 kc_26 rfl rfl (by decide) rfl rfl k)))))) ?_
  refine pj_tif (fun h6 => ?_) (fun h6 => ?_)
  · exact pj_tret (fun hr => pj_if_eq_t hM (pc := 20) dX12_first_20 rfl h6 (pj_iconst hM (pc := 47) dX12_first_47 (by decide) (pj_ret hM (pc := 48) dX12_first_48 ⟨_, rfl, Or.inl rfl⟩ (h0 ((0, p4.2)) hr) rfl)))
  refine pj_tbind (fun p7 h8 => ?_)
  refine pj_map (fun k => pj_if_eq_f hM (pc := 20) 47 dX12_first_20 rfl h6 (pj_aload_n hM (pc := 23) dX12_first_23 rfl rfl (pj_ldcS4 hM (pc := 24) dX12_first_24 rfl (pj_iconst hM (pc := 26) dX12_first_26 (by decide) (pj_cV hM (pc := 27) (cM_wantWord 1 p4.2 p7 h8) dX12_first_27 mf_X12_wantWord mv_X12_wantWord ml_X12_187 kc_26 rfl rfl (by decide) rfl rfl k))))) ?_
  refine pj_tif (fun h9 => ?_) (fun h9 => ?_)
  · exact pj_tret (fun hr => pj_if_eq_t hM (pc := 30) dX12_first_30 rfl h9 (pj_iconst hM (pc := 47) dX12_first_47 (by decide) (pj_ret hM (pc := 48) dX12_first_48 ⟨_, rfl, Or.inl rfl⟩ (h0 ((0, p7.2)) hr) rfl)))
  refine pj_tbind (fun p10 h11 => ?_)
  refine pj_map (fun k => pj_if_eq_f hM (pc := 30) 47 dX12_first_30 rfl h9 (pj_aload_n hM (pc := 33) dX12_first_33 rfl rfl (pj_sipush hM (pc := 34) dX12_first_34 (by decide) (pj_iconst hM (pc := 37) dX12_first_37 (by decide) (pj_sipush hM (pc := 38) dX12_first_38 (by decide) (pj_cV hM (pc := 41) (cM_number 5603 1 240 p7.2 p10 h11) dX12_first_41 mf_X12_number mv_X12_number ml_X12_191 kc_26 rfl rfl (by decide) rfl rfl k)))))) ?_
  refine pj_tif (fun h12 => ?_) (fun h12 => ?_)
  · exact pj_tret (fun hr => pj_if_ne_f hM (pc := 44) 49 dX12_first_44 rfl (fun q => q h12) (pj_iconst hM (pc := 47) dX12_first_47 (by decide) (pj_ret hM (pc := 48) dX12_first_48 ⟨_, rfl, Or.inl rfl⟩ (h0 ((0, p10.2)) hr) rfl)))
  refine pj_tbind (fun p13 h14 => ?_)
  refine pj_map (fun k => pj_if_ne_t hM (pc := 44) dX12_first_44 rfl h12 (pj_aload_n hM (pc := 49) dX12_first_49 rfl rfl (pj_ldcS4 hM (pc := 50) dX12_first_50 rfl (pj_cV hM (pc := 52) (cM_inWords p10.2 p13 h14) dX12_first_52 mf_X12_inWords mv_X12_inWords ml_X12_163 kc_26 rfl rfl (by decide) rfl rfl (pj_iconst hM (pc := 55) dX12_first_55 (by decide) k))))) ?_
  refine pj_tif (fun h15 => ?_) (fun h15 => ?_)
  · refine pj_tbind (fun p16 h17 => ?_)
    refine pj_tbind (fun p18 h19 => ?_)
    refine pj_map (fun k => pj_ic_ne_f hM (pc := 56) 78 dX12_first_56 rfl (fun q => q h15) (pj_aload_n hM (pc := 59) dX12_first_59 rfl rfl (pj_cVv hM (pc := 60) (cM_ahead p10.2 p16 h17) dX12_first_60 mf_X12_ahead mv_X12_ahead ml_X12_154 kc_26 rfl rfl (by decide) rfl rfl (pj_aload_n hM (pc := 63) dX12_first_63 rfl rfl (pj_sipush hM (pc := 64) dX12_first_64 (by decide) (pj_iconst hM (pc := 67) dX12_first_67 (by decide) (pj_bipush hM (pc := 68) dX12_first_68 (by decide) (pj_cV hM (pc := 70) (cM_number 5604 0 60 p16 p18 h19) dX12_first_70 mf_X12_number mv_X12_number ml_X12_191 kc_26 rfl rfl (by decide) rfl rfl k)))))))) ?_
    refine pj_tif (fun h20 => ?_) (fun h20 => ?_)
    · exact pj_tret (fun hr => pj_if_ne_f hM (pc := 73) 78 dX12_first_73 rfl (fun q => q h20) (pj_iconst hM (pc := 76) dX12_first_76 (by decide) (pj_ret hM (pc := 77) dX12_first_77 ⟨_, rfl, Or.inl rfl⟩ (h0 ((0, p18.2)) hr) rfl)))
    refine pj_map (fun k => pj_if_ne_t hM (pc := 73) dX12_first_73 rfl h20 (pj_kill hM [true] (lls' := [(26, 0)]) rfl k)) ?_
    exact tM_first_78 hM p18.2 _ h0
  refine pj_map (fun k => pj_ic_ne_t hM (pc := 56) dX12_first_56 rfl h15 (pj_kill hM [true] (lls' := [(26, 0)]) rfl k)) ?_
  exact tM_first_78 hM p10.2 _ h0
theorem cM_first   (w : pj_W) (r : Int × pj_W) (h : fM_first  w = some r) : pj_Cn l yX12_first cX12_first 1 (some .boolean) 6 133 true g [(26, 0)] w ((some (0, r.1) : Option pj_V), r.2) :=
  pj_Cn_of rfl (Nat.le_of_ble_eq_true rfl) (lls := [(26, 0)]) rfl (fun Go hM => tM_first hM w (fun x => ((some (0, x.1) : Option pj_V), x.2) = ((some (0, r.1) : Option pj_V), r.2)) (fun r h => h) r h rfl)
noncomputable def fM_plain_c_2b (x1 : Int) (x2 : Int) (w : pj_W) : Option ((Int × pj_W) ⊕ (pj_W)) :=
  if 1400 ≤ x2 then (if 0 ≤ (w 26 0 0) then (if 0 ≤ (pj_wr (x1 + 5)) ∧ (pj_wr (x1 + 5)) < 8400 then (if 0 ≤ ((pj_set w 60 (w 26 0 0) (pj_wr (x1 + 5)) 1) 26 0 0) then (if 0 ≤ (pj_wr (x1 + 9)) ∧ (pj_wr (x1 + 9)) < 8400 then (some (Sum.inr ((pj_set (pj_set w 60 (w 26 0 0) (pj_wr (x1 + 5)) 1) 60 ((pj_set w 60 (w 26 0 0) (pj_wr (x1 + 5)) 1) 26 0 0) (pj_wr (x1 + 9)) (-1))))) else none) else none) else none) else none) else (if 0 ≤ (w 26 0 0) then (if 0 ≤ (pj_wr (x1 + x2)) ∧ (pj_wr (x1 + x2)) < 8400 then (some (Sum.inl ((pj_wr (x2 + 1)), (pj_set w 60 (w 26 0 0) (pj_wr (x1 + x2)) 0)))) else none) else none)
noncomputable def fM_plain_c_2 (x1 : Int) (s : (Int × pj_W)) : Option (pj_W) := pj_Lp (fun s : (Int × pj_W) => fM_plain_c_2b x1 s.1 s.2) s
noncomputable def fM_plain_c (x1 : Int) (w : pj_W) : Option (pj_W) :=
  fM_plain_c_2 x1 (0, w)
theorem tM_plain_c_2b {Go : pj_C → Prop} (hM : pj_M l yX12_plain cX12_plain 3 none 0 0 false g n0 o Go) (x1 : Int) (x2 : Int) (w : pj_W)  (R : (Int × pj_W) ⊕ (pj_W) → Prop) (h0 : ∀ r, R (Sum.inr (r)) → ((none : Option pj_V), r) = o) (hk2 : ∀ s, R (Sum.inl s) → Go (2, [(26, 0), (0, x1), (0, s.1)], [], s.2)) : pj_TG R (fM_plain_c_2b x1 x2 w) (Go (2, [(26, 0), (0, x1), (0, x2)], [], w)) := by
  unfold fM_plain_c_2b
  refine pj_map (fun k => pj_iload_n hM (pc := 2) dX12_plain_2 rfl (pj_sipush hM (pc := 3) dX12_plain_3 (by decide) k)) ?_
  refine pj_tif (fun h1 => ?_) (fun h1 => ?_)
  · refine pj_tgd (fun h2 => ?_)
    refine pj_tgd (fun h3 => ?_)
    refine pj_tgd (fun h4 => ?_)
    refine pj_tgd (fun h5 => ?_)
    exact pj_tret (fun hr => pj_ic_ge_t hM (pc := 6) dX12_plain_6 rfl h1 (pj_aload_n hM (pc := 24) dX12_plain_24 rfl rfl (pj_gf hM (pc := 25) (t := 60) dX12_plain_25 fl_X12_7 (by decide) rfl 0 rfl (pj_iload_n hM (pc := 28) dX12_plain_28 rfl (pj_iconst hM (pc := 29) dX12_plain_29 (by decide) (pj_iadd hM (pc := 30) dX12_plain_30 (pj_iconst hM (pc := 31) dX12_plain_31 (by decide) (pj_ias hM (pc := 32) dX12_plain_32 ki_60 h2 h3 (pj_aload_n hM (pc := 33) dX12_plain_33 rfl rfl (pj_gf hM (pc := 34) (t := 60) dX12_plain_34 fl_X12_7 (by decide) rfl 0 rfl (pj_iload_n hM (pc := 37) dX12_plain_37 rfl (pj_bipush hM (pc := 38) dX12_plain_38 (by decide) (pj_iadd hM (pc := 40) dX12_plain_40 (pj_iconst hM (pc := 41) dX12_plain_41 (by decide) (pj_ias hM (pc := 42) dX12_plain_42 ki_60 h4 h5 (pj_ret hM (pc := 43) dX12_plain_43 rfl (h0 ((pj_set (pj_set w 60 (w 26 0 0) (pj_wr (x1 + 5)) 1) 60 ((pj_set w 60 (w 26 0 0) (pj_wr (x1 + 5)) 1) 26 0 0) (pj_wr (x1 + 9)) (-1))) hr) rfl))))))))))))))))
  refine pj_tgd (fun h6 => ?_)
  refine pj_tgd (fun h7 => ?_)
  exact pj_tret (fun hr => pj_ic_ge_f hM (pc := 6) 24 dX12_plain_6 rfl h1 (pj_aload_n hM (pc := 9) dX12_plain_9 rfl rfl (pj_gf hM (pc := 10) (t := 60) dX12_plain_10 fl_X12_7 (by decide) rfl 0 rfl (pj_iload_n hM (pc := 13) dX12_plain_13 rfl (pj_iload_n hM (pc := 14) dX12_plain_14 rfl (pj_iadd hM (pc := 15) dX12_plain_15 (pj_iconst hM (pc := 16) dX12_plain_16 (by decide) (pj_ias hM (pc := 17) dX12_plain_17 ki_60 h6 h7 (pj_iinc hM (pc := 18) dX12_plain_18 rfl (by decide) (lls' := [(26, 0), (0, x1), (0, (pj_wr (x2 + 1)))]) rfl (pj_goto hM (pc := 21) dX12_plain_21 rfl (pj_kill hM [true, true, true] (lls' := [(26, 0), (0, x1), (0, (pj_wr (x2 + 1)))]) rfl ((hk2 _ hr)))))))))))))
theorem tM_plain_c_2 {Go : pj_C → Prop} (hM : pj_M l yX12_plain cX12_plain 3 none 0 0 false g n0 o Go) (x1 : Int)  (R : pj_W → Prop) (h0 : ∀ r, R (r) → ((none : Option pj_V), r) = o) (s : (Int × pj_W)) : pj_TG R (fM_plain_c_2 x1 s) (Go (2, [(26, 0), (0, x1), (0, s.1)], [], s.2)) := by
  unfold fM_plain_c_2
  exact pj_tLp (G := fun s : (Int × pj_W) => Go (2, [(26, 0), (0, x1), (0, s.1)], [], s.2)) (fun s => tM_plain_c_2b hM x1 s.1 s.2  _ (fun r h => h0 r h)  (fun s h => h)) s
theorem tM_plain_c {Go : pj_C → Prop} (hM : pj_M l yX12_plain cX12_plain 3 none 0 0 false g n0 o Go) (x1 : Int) (w : pj_W)  (R : pj_W → Prop) (h0 : ∀ r, R (r) → ((none : Option pj_V), r) = o) : pj_TG R (fM_plain_c x1 w) (Go (0, [(26, 0), (0, x1), (9, 0)], [], w)) := by
  unfold fM_plain_c
  refine pj_map (fun k => pj_iconst hM (pc := 0) dX12_plain_0 (by decide) (pj_istore_n hM (pc := 1) dX12_plain_1 (by decide) (lls' := [(26, 0), (0, x1), (0, 0)]) rfl (pj_kill hM [true, true, true] (lls' := [(26, 0), (0, x1), (0, 0)]) rfl k))) ?_
  exact tM_plain_c_2 hM x1 _ h0 _
theorem cM_plain_c (x1 : Int)  (w : pj_W) (r : pj_W) (h : fM_plain_c x1 w = some r) : pj_Cn l yX12_plain cX12_plain 3 none 0 0 false g [(26, 0), (0, x1)] w ((none : Option pj_V), r) :=
  pj_Cn_of rfl (Nat.le_of_ble_eq_true rfl) (lls := [(26, 0), (0, x1), (9, 0)]) rfl (fun Go hM => tM_plain_c hM x1 w (fun x => ((none : Option pj_V), x) = ((none : Option pj_V), r)) (fun r h => h) r h rfl)
noncomputable def fM_plain_2b (x1 : Int) (x2 : Int) (w : pj_W) : Option ((Int × pj_W) ⊕ (pj_W)) :=
  if 1400 ≤ x2 then (if 0 ≤ (pj_wr (x1 + 5)) ∧ (pj_wr (x1 + 5)) < 8400 then (if 0 ≤ (pj_wr (x1 + 9)) ∧ (pj_wr (x1 + 9)) < 8400 then (some (Sum.inr ((pj_set (pj_set w 60 0 (pj_wr (x1 + 5)) 1) 60 0 (pj_wr (x1 + 9)) (-1))))) else none) else none) else (if 0 ≤ (pj_wr (x1 + x2)) ∧ (pj_wr (x1 + x2)) < 8400 then (some (Sum.inl ((pj_wr (x2 + 1)), (pj_set w 60 0 (pj_wr (x1 + x2)) 0)))) else none)
noncomputable def fM_plain_2 (x1 : Int) (s : (Int × pj_W)) : Option (pj_W) := pj_Lp (fun s : (Int × pj_W) => fM_plain_2b x1 s.1 s.2) s
noncomputable def fM_plain (x1 : Int) (w : pj_W) : Option (pj_W) :=
  fM_plain_2 x1 (0, w)
theorem tM_plain_2b {Go : pj_C → Prop} (hM : pj_M l yX12_plain cX12_plain 3 none 0 0 true g n0 o Go) (x1 : Int) (x2 : Int) (w : pj_W)  (R : (Int × pj_W) ⊕ (pj_W) → Prop) (h0 : ∀ r, R (Sum.inr (r)) → ((none : Option pj_V), r) = o) (hk2 : ∀ s, R (Sum.inl s) → Go (2, [(26, 0), (0, x1), (0, s.1)], [], s.2)) : pj_TG R (fM_plain_2b x1 x2 w) (Go (2, [(26, 0), (0, x1), (0, x2)], [], w)) := by
  unfold fM_plain_2b
  refine pj_map (fun k => pj_iload_n hM (pc := 2) dX12_plain_2 rfl (pj_sipush hM (pc := 3) dX12_plain_3 (by decide) k)) ?_
  refine pj_tif (fun h1 => ?_) (fun h1 => ?_)
  · refine pj_tgd (fun h2 => ?_)
    refine pj_tgd (fun h3 => ?_)
    exact pj_tret (fun hr => pj_ic_ge_t hM (pc := 6) dX12_plain_6 rfl h1 (pj_aload_n hM (pc := 24) dX12_plain_24 rfl rfl (pj_getF hM (pc := 25) (t := 60) dX12_plain_25 fl_X12_7 (by decide) rfl rfl (pj_iload_n hM (pc := 28) dX12_plain_28 rfl (pj_iconst hM (pc := 29) dX12_plain_29 (by decide) (pj_iadd hM (pc := 30) dX12_plain_30 (pj_iconst hM (pc := 31) dX12_plain_31 (by decide) (pj_ias hM (pc := 32) dX12_plain_32 ki_60 (by decide) h2 (pj_aload_n hM (pc := 33) dX12_plain_33 rfl rfl (pj_getF hM (pc := 34) (t := 60) dX12_plain_34 fl_X12_7 (by decide) rfl rfl (pj_iload_n hM (pc := 37) dX12_plain_37 rfl (pj_bipush hM (pc := 38) dX12_plain_38 (by decide) (pj_iadd hM (pc := 40) dX12_plain_40 (pj_iconst hM (pc := 41) dX12_plain_41 (by decide) (pj_ias hM (pc := 42) dX12_plain_42 ki_60 (by decide) h3 (pj_ret hM (pc := 43) dX12_plain_43 rfl (h0 ((pj_set (pj_set w 60 0 (pj_wr (x1 + 5)) 1) 60 0 (pj_wr (x1 + 9)) (-1))) hr) rfl))))))))))))))))
  refine pj_tgd (fun h4 => ?_)
  exact pj_tret (fun hr => pj_ic_ge_f hM (pc := 6) 24 dX12_plain_6 rfl h1 (pj_aload_n hM (pc := 9) dX12_plain_9 rfl rfl (pj_getF hM (pc := 10) (t := 60) dX12_plain_10 fl_X12_7 (by decide) rfl rfl (pj_iload_n hM (pc := 13) dX12_plain_13 rfl (pj_iload_n hM (pc := 14) dX12_plain_14 rfl (pj_iadd hM (pc := 15) dX12_plain_15 (pj_iconst hM (pc := 16) dX12_plain_16 (by decide) (pj_ias hM (pc := 17) dX12_plain_17 ki_60 (by decide) h4 (pj_iinc hM (pc := 18) dX12_plain_18 rfl (by decide) (lls' := [(26, 0), (0, x1), (0, (pj_wr (x2 + 1)))]) rfl (pj_goto hM (pc := 21) dX12_plain_21 rfl (pj_kill hM [true, true, true] (lls' := [(26, 0), (0, x1), (0, (pj_wr (x2 + 1)))]) rfl ((hk2 _ hr)))))))))))))
theorem tM_plain_2 {Go : pj_C → Prop} (hM : pj_M l yX12_plain cX12_plain 3 none 0 0 true g n0 o Go) (x1 : Int)  (R : pj_W → Prop) (h0 : ∀ r, R (r) → ((none : Option pj_V), r) = o) (s : (Int × pj_W)) : pj_TG R (fM_plain_2 x1 s) (Go (2, [(26, 0), (0, x1), (0, s.1)], [], s.2)) := by
  unfold fM_plain_2
  exact pj_tLp (G := fun s : (Int × pj_W) => Go (2, [(26, 0), (0, x1), (0, s.1)], [], s.2)) (fun s => tM_plain_2b hM x1 s.1 s.2  _ (fun r h => h0 r h)  (fun s h => h)) s
theorem tM_plain {Go : pj_C → Prop} (hM : pj_M l yX12_plain cX12_plain 3 none 0 0 true g n0 o Go) (x1 : Int) (w : pj_W)  (R : pj_W → Prop) (h0 : ∀ r, R (r) → ((none : Option pj_V), r) = o) : pj_TG R (fM_plain x1 w) (Go (0, [(26, 0), (0, x1), (9, 0)], [], w)) := by
  unfold fM_plain
  refine pj_map (fun k => pj_iconst hM (pc := 0) dX12_plain_0 (by decide) (pj_istore_n hM (pc := 1) dX12_plain_1 (by decide) (lls' := [(26, 0), (0, x1), (0, 0)]) rfl (pj_kill hM [true, true, true] (lls' := [(26, 0), (0, x1), (0, 0)]) rfl k))) ?_
  exact tM_plain_2 hM x1 _ h0 _
theorem cM_plain (x1 : Int)  (w : pj_W) (r : pj_W) (h : fM_plain x1 w = some r) : pj_Cn l yX12_plain cX12_plain 3 none 0 0 true g [(26, 0), (0, x1)] w ((none : Option pj_V), r) :=
  pj_Cn_of rfl (Nat.le_of_ble_eq_true rfl) (lls := [(26, 0), (0, x1), (9, 0)]) rfl (fun Go hM => tM_plain hM x1 w (fun x => ((none : Option pj_V), x) = ((none : Option pj_V), r)) (fun r h => h) r h rfl)
noncomputable def fM_taken (x1 : Int) (w : pj_W) : Option (Int × pj_W) :=
  if ((pj_set w 26 0 16 (w 26 0 18)) 26 0 18) ≤ 0 then ((fM_gives x1 (pj_set w 26 0 16 (w 26 0 18))).bind fun p2 => (some ((p2.1, p2.2)))) else ((fM_refuse 9 (pj_set w 26 0 16 (w 26 0 18))).bind fun p4 => (some ((p4.1, p4.2))))
theorem tM_taken {Go : pj_C → Prop} (hM : pj_M l yX12_taken cX12_taken 2 (some .int) 1 21 ph g n0 o Go) (x1 : Int) (w : pj_W)  (R : Int × pj_W → Prop) (h0 : ∀ r, R (r) → ((some (0, r.1) : Option pj_V), r.2) = o) : pj_TG R (fM_taken x1 w) (Go (0, [(26, 0), (0, x1)], [], w)) := by
  unfold fM_taken
  refine pj_map (fun k => pj_aload_n hM (pc := 0) dX12_taken_0 rfl rfl (pj_aload_n hM (pc := 1) dX12_taken_1 rfl rfl (pj_gf hM (pc := 2) (t := 0) dX12_taken_2 fl_X12_148 (by decide) rfl 18 rfl (pj_pf hM (pc := 5) dX12_taken_5 fl_X12_37 (by decide) rfl (fun h => absurd h (by decide)) (by decide) (fun _ => rfl) 16 rfl (pj_aload_n hM (pc := 8) dX12_taken_8 rfl rfl (pj_gf hM (pc := 9) (t := 0) dX12_taken_9 fl_X12_148 (by decide) rfl 18 rfl k)))))) ?_
  refine pj_tif (fun h1 => ?_) (fun h1 => ?_)
  · refine pj_tbind (fun p2 h3 => ?_)
    exact pj_tret (fun hr => pj_if_le_t hM (pc := 12) dX12_taken_12 rfl h1 (pj_aload_n hM (pc := 24) dX12_taken_24 rfl rfl (pj_iload_n hM (pc := 25) dX12_taken_25 rfl (pj_cV hM (pc := 26) (cM_gives x1 (pj_set w 26 0 16 (w 26 0 18)) p2 h3) dX12_taken_26 mf_X12_gives mv_X12_gives ml_X12_82 kc_26 rfl rfl (by decide) rfl rfl (pj_ret hM (pc := 29) dX12_taken_29 ⟨_, rfl⟩ (h0 ((p2.1, p2.2)) hr) rfl)))))
  refine pj_tbind (fun p4 h5 => ?_)
  exact pj_tret (fun hr => pj_if_le_f hM (pc := 12) 24 dX12_taken_12 rfl h1 (pj_aload_n hM (pc := 15) dX12_taken_15 rfl rfl (pj_bipush hM (pc := 16) dX12_taken_16 (by decide) (pj_cV hM (pc := 18) (cM_refuse 9 (pj_set w 26 0 16 (w 26 0 18)) p4 h5) dX12_taken_18 mf_X12_refuse mv_X12_refuse ml_X12_78 kc_26 rfl rfl (by decide) rfl rfl (pj_goto hM (pc := 21) dX12_taken_21 rfl (pj_ret hM (pc := 29) dX12_taken_29 ⟨_, rfl⟩ (h0 ((p4.1, p4.2)) hr) rfl))))))
theorem cM_taken (x1 : Int)  (w : pj_W) (r : Int × pj_W) (h : fM_taken x1 w = some r) : pj_Cn l yX12_taken cX12_taken 2 (some .int) 1 21 ph g [(26, 0), (0, x1)] w ((some (0, r.1) : Option pj_V), r.2) :=
  pj_Cn_of rfl (Nat.le_of_ble_eq_true rfl) (lls := [(26, 0), (0, x1)]) rfl (fun Go hM => tM_taken hM x1 w (fun x => ((some (0, x.1) : Option pj_V), x.2) = ((some (0, r.1) : Option pj_V), r.2)) (fun r h => h) r h rfl)
noncomputable def fM_beach_125  (w : pj_W) : Option (Int × pj_W) :=
  (fM_taken (w 60 0 2) w).bind fun p1 => (some ((p1.1, p1.2)))
noncomputable def fM_beach_98b  (x3 : Int) (w : pj_W) : Option ((Int × pj_W) ⊕ (Int × pj_W)) :=
  if 14 ≤ x3 then ((fM_beach_125 w).map Sum.inr) else (if 0 ≤ (pj_wr (56 + x3)) ∧ (pj_wr (56 + x3)) < 80 then (if 0 ≤ x3 ∧ x3 < 80 then (some (Sum.inl ((pj_wr (x3 + 1)), (pj_set w 61 0 x3 (w 61 0 (pj_wr (56 + x3))))))) else none) else none)
noncomputable def fM_beach_98  (s : (Int × pj_W)) : Option (Int × pj_W) := pj_Lp (fun s : (Int × pj_W) => fM_beach_98b  s.1 s.2) s
noncomputable def fM_beach_67b  (x3 : Int) (w : pj_W) : Option ((Int × pj_W) ⊕ (Int × pj_W)) :=
  if 1400 ≤ x3 then ((fM_beach_98 (0, w)).map Sum.inr) else (if 0 ≤ (pj_wr (5600 + x3)) ∧ (pj_wr (5600 + x3)) < 8400 then (if 0 ≤ x3 ∧ x3 < 8400 then (some (Sum.inl ((pj_wr (x3 + 1)), (pj_set w 60 0 x3 (w 60 0 (pj_wr (5600 + x3))))))) else none) else none)
noncomputable def fM_beach_67  (s : (Int × pj_W)) : Option (Int × pj_W) := pj_Lp (fun s : (Int × pj_W) => fM_beach_67b  s.1 s.2) s
noncomputable def fM_beach_58  (w : pj_W) : Option (Int × pj_W) :=
  if (w 26 0 18) = 0 then (fM_beach_67 (0, w)) else (fM_beach_125 w)
noncomputable def fM_beach_39b  (x2 : Int) (w : pj_W) : Option ((Int × pj_W) ⊕ (Int × pj_W)) :=
  if x2 = 0 then ((fM_beach_58 w).map Sum.inr) else (if (w 26 0 12) = 0 then ((fM_beach_58 w).map Sum.inr) else ((fM_beachPart w).bind fun p3 => (some (Sum.inl (p3.1, p3.2)))))
noncomputable def fM_beach_39  (s : (Int × pj_W)) : Option (Int × pj_W) := pj_Lp (fun s : (Int × pj_W) => fM_beach_39b  s.1 s.2) s
noncomputable def fM_beach (x1 : Int) (w : pj_W) : Option (Int × pj_W) :=
  (fM_begins x1 900 w).bind fun p1 => (if p1.1 = 0 then ((fM_refuse 1 p1.2).bind fun p4 => (some ((p4.1, p4.2)))) else ((fM_plain 5600 p1.2).bind fun p6 => ((fM_first (pj_set (pj_set p6 26 0 20 0) 26 0 21 0)).bind fun p8 => (fM_beach_39 (p8.1, p8.2)))))
theorem tM_beach_125 {Go : pj_C → Prop} (hM : pj_M l yX12_beach cX12_beach 4 (some .int) 9 197 true g n0 o Go)  (w : pj_W)  (R : Int × pj_W → Prop) (h0 : ∀ r, R (r) → ((some (0, r.1) : Option pj_V), r.2) = o) : pj_TG R (fM_beach_125  w) (Go (125, [(26, 0), (9, 0), (9, 0), (9, 0)], [], w)) := by
  unfold fM_beach_125
  refine pj_tbind (fun p1 h2 => ?_)
  exact pj_tret (fun hr => pj_aload_n hM (pc := 125) dX12_beach_125 rfl rfl (pj_aload_n hM (pc := 126) dX12_beach_126 rfl rfl (pj_getF hM (pc := 127) (t := 60) dX12_beach_127 fl_X12_7 (by decide) rfl rfl (pj_iconst hM (pc := 130) dX12_beach_130 (by decide) (pj_ial hM (pc := 131) dX12_beach_131 ki_60 (by decide) (by decide) (pj_cV hM (pc := 132) (cM_taken (w 60 0 2) w p1 h2) dX12_beach_132 mf_X12_taken mv_X12_taken ml_X12_241 kc_26 rfl rfl (by decide) rfl rfl (pj_ret hM (pc := 135) dX12_beach_135 ⟨_, rfl⟩ (h0 ((p1.1, p1.2)) hr) rfl)))))))
theorem tM_beach_98b {Go : pj_C → Prop} (hM : pj_M l yX12_beach cX12_beach 4 (some .int) 9 197 true g n0 o Go)  (x3 : Int) (w : pj_W)  (R : (Int × pj_W) ⊕ (Int × pj_W) → Prop) (h0 : ∀ r, R (Sum.inr (r)) → ((some (0, r.1) : Option pj_V), r.2) = o) (hk98 : ∀ s, R (Sum.inl s) → Go (98, [(26, 0), (9, 0), (9, 0), (0, s.1)], [], s.2)) : pj_TG R (fM_beach_98b  x3 w) (Go (98, [(26, 0), (9, 0), (9, 0), (0, x3)], [], w)) := by
  unfold fM_beach_98b
  refine pj_map (fun k => pj_iload_n hM (pc := 98) dX12_beach_98 rfl (pj_bipush hM (pc := 99) dX12_beach_99 (by decide) k)) ?_
  refine pj_tif (fun h1 => ?_) (fun h1 => ?_)
  · refine pj_tmap ?_
    refine pj_map (fun k => pj_ic_ge_t hM (pc := 101) dX12_beach_101 rfl h1 (pj_kill hM [true, false, false, false] (lls' := [(26, 0), (9, 0), (9, 0), (9, 0)]) rfl k)) ?_
    exact tM_beach_125 hM w _ h0
  refine pj_tgd (fun h2 => ?_)
  refine pj_tgd (fun h3 => ?_)
  exact pj_tret (fun hr => pj_ic_ge_f hM (pc := 101) 125 dX12_beach_101 rfl h1 (pj_aload_n hM (pc := 104) dX12_beach_104 rfl rfl (pj_getF hM (pc := 105) (t := 61) dX12_beach_105 fl_X12_13 (by decide) rfl rfl (pj_iload_n hM (pc := 108) dX12_beach_108 rfl (pj_aload_n hM (pc := 109) dX12_beach_109 rfl rfl (pj_getF hM (pc := 110) (t := 61) dX12_beach_110 fl_X12_13 (by decide) rfl rfl (pj_bipush hM (pc := 113) dX12_beach_113 (by decide) (pj_iload_n hM (pc := 115) dX12_beach_115 rfl (pj_iadd hM (pc := 116) dX12_beach_116 (pj_lal hM (pc := 117) dX12_beach_117 kl_61 (by decide) h2 (pj_las hM (pc := 118) dX12_beach_118 kl_61 (by decide) h3 (pj_iinc hM (pc := 119) dX12_beach_119 rfl (by decide) (lls' := [(26, 0), (9, 0), (9, 0), (0, (pj_wr (x3 + 1)))]) rfl (pj_goto hM (pc := 122) dX12_beach_122 rfl (pj_kill hM [true, false, false, true] (lls' := [(26, 0), (9, 0), (9, 0), (0, (pj_wr (x3 + 1)))]) rfl ((hk98 _ hr))))))))))))))))
theorem tM_beach_98 {Go : pj_C → Prop} (hM : pj_M l yX12_beach cX12_beach 4 (some .int) 9 197 true g n0 o Go)   (R : Int × pj_W → Prop) (h0 : ∀ r, R (r) → ((some (0, r.1) : Option pj_V), r.2) = o) (s : (Int × pj_W)) : pj_TG R (fM_beach_98  s) (Go (98, [(26, 0), (9, 0), (9, 0), (0, s.1)], [], s.2)) := by
  unfold fM_beach_98
  exact pj_tLp (G := fun s : (Int × pj_W) => Go (98, [(26, 0), (9, 0), (9, 0), (0, s.1)], [], s.2)) (fun s => tM_beach_98b hM  s.1 s.2  _ (fun r h => h0 r h)  (fun s h => h)) s
theorem tM_beach_67b {Go : pj_C → Prop} (hM : pj_M l yX12_beach cX12_beach 4 (some .int) 9 197 true g n0 o Go)  (x3 : Int) (w : pj_W)  (R : (Int × pj_W) ⊕ (Int × pj_W) → Prop) (h0 : ∀ r, R (Sum.inr (r)) → ((some (0, r.1) : Option pj_V), r.2) = o) (hk67 : ∀ s, R (Sum.inl s) → Go (67, [(26, 0), (9, 0), (9, 0), (0, s.1)], [], s.2)) : pj_TG R (fM_beach_67b  x3 w) (Go (67, [(26, 0), (9, 0), (9, 0), (0, x3)], [], w)) := by
  unfold fM_beach_67b
  refine pj_map (fun k => pj_iload_n hM (pc := 67) dX12_beach_67 rfl (pj_sipush hM (pc := 68) dX12_beach_68 (by decide) k)) ?_
  refine pj_tif (fun h1 => ?_) (fun h1 => ?_)
  · refine pj_tmap ?_
    refine pj_map (fun k => pj_ic_ge_t hM (pc := 71) dX12_beach_71 rfl h1 (pj_iconst hM (pc := 96) dX12_beach_96 (by decide) (pj_istore_n hM (pc := 97) dX12_beach_97 (by decide) (lls' := [(26, 0), (9, 0), (9, 0), (0, 0)]) rfl (pj_kill hM [true, false, false, true] (lls' := [(26, 0), (9, 0), (9, 0), (0, 0)]) rfl k)))) ?_
    exact tM_beach_98 hM _ h0 _
  refine pj_tgd (fun h2 => ?_)
  refine pj_tgd (fun h3 => ?_)
  exact pj_tret (fun hr => pj_ic_ge_f hM (pc := 71) 96 dX12_beach_71 rfl h1 (pj_aload_n hM (pc := 74) dX12_beach_74 rfl rfl (pj_getF hM (pc := 75) (t := 60) dX12_beach_75 fl_X12_7 (by decide) rfl rfl (pj_iload_n hM (pc := 78) dX12_beach_78 rfl (pj_aload_n hM (pc := 79) dX12_beach_79 rfl rfl (pj_getF hM (pc := 80) (t := 60) dX12_beach_80 fl_X12_7 (by decide) rfl rfl (pj_sipush hM (pc := 83) dX12_beach_83 (by decide) (pj_iload_n hM (pc := 86) dX12_beach_86 rfl (pj_iadd hM (pc := 87) dX12_beach_87 (pj_ial hM (pc := 88) dX12_beach_88 ki_60 (by decide) h2 (pj_ias hM (pc := 89) dX12_beach_89 ki_60 (by decide) h3 (pj_iinc hM (pc := 90) dX12_beach_90 rfl (by decide) (lls' := [(26, 0), (9, 0), (9, 0), (0, (pj_wr (x3 + 1)))]) rfl (pj_goto hM (pc := 93) dX12_beach_93 rfl (pj_kill hM [true, false, false, true] (lls' := [(26, 0), (9, 0), (9, 0), (0, (pj_wr (x3 + 1)))]) rfl ((hk67 _ hr))))))))))))))))
theorem tM_beach_67 {Go : pj_C → Prop} (hM : pj_M l yX12_beach cX12_beach 4 (some .int) 9 197 true g n0 o Go)   (R : Int × pj_W → Prop) (h0 : ∀ r, R (r) → ((some (0, r.1) : Option pj_V), r.2) = o) (s : (Int × pj_W)) : pj_TG R (fM_beach_67  s) (Go (67, [(26, 0), (9, 0), (9, 0), (0, s.1)], [], s.2)) := by
  unfold fM_beach_67
  exact pj_tLp (G := fun s : (Int × pj_W) => Go (67, [(26, 0), (9, 0), (9, 0), (0, s.1)], [], s.2)) (fun s => tM_beach_67b hM  s.1 s.2  _ (fun r h => h0 r h)  (fun s h => h)) s
theorem tM_beach_58 {Go : pj_C → Prop} (hM : pj_M l yX12_beach cX12_beach 4 (some .int) 9 197 true g n0 o Go)  (w : pj_W)  (R : Int × pj_W → Prop) (h0 : ∀ r, R (r) → ((some (0, r.1) : Option pj_V), r.2) = o) : pj_TG R (fM_beach_58  w) (Go (58, [(26, 0), (9, 0), (9, 0), (9, 0)], [], w)) := by
  unfold fM_beach_58
  refine pj_map (fun k => pj_aload_n hM (pc := 58) dX12_beach_58 rfl rfl (pj_gf hM (pc := 59) (t := 0) dX12_beach_59 fl_X12_148 (by decide) rfl 18 rfl k)) ?_
  refine pj_tif (fun h1 => ?_) (fun h1 => ?_)
  · refine pj_map (fun k => pj_if_ne_f hM (pc := 62) 125 dX12_beach_62 rfl (fun q => q h1) (pj_iconst hM (pc := 65) dX12_beach_65 (by decide) (pj_istore_n hM (pc := 66) dX12_beach_66 (by decide) (lls' := [(26, 0), (9, 0), (9, 0), (0, 0)]) rfl (pj_kill hM [true, false, false, true] (lls' := [(26, 0), (9, 0), (9, 0), (0, 0)]) rfl k)))) ?_
    exact tM_beach_67 hM _ h0 _
  refine pj_map (fun k => pj_if_ne_t hM (pc := 62) dX12_beach_62 rfl h1 (pj_kill hM [true, false, false, false] (lls' := [(26, 0), (9, 0), (9, 0), (9, 0)]) rfl k)) ?_
  exact tM_beach_125 hM w _ h0
theorem tM_beach_39b {Go : pj_C → Prop} (hM : pj_M l yX12_beach cX12_beach 4 (some .int) 9 197 true g n0 o Go)  (x2 : Int) (w : pj_W)  (R : (Int × pj_W) ⊕ (Int × pj_W) → Prop) (h0 : ∀ r, R (Sum.inr (r)) → ((some (0, r.1) : Option pj_V), r.2) = o) (hk39 : ∀ s, R (Sum.inl s) → Go (39, [(26, 0), (9, 0), (0, s.1), (9, 0)], [], s.2)) : pj_TG R (fM_beach_39b  x2 w) (Go (39, [(26, 0), (9, 0), (0, x2), (9, 0)], [], w)) := by
  unfold fM_beach_39b
  refine pj_map (fun k => pj_iload_n hM (pc := 39) dX12_beach_39 rfl k) ?_
  refine pj_tif (fun h1 => ?_) (fun h1 => ?_)
  · refine pj_tmap ?_
    refine pj_map (fun k => pj_if_eq_t hM (pc := 40) dX12_beach_40 rfl h1 (pj_kill hM [true, false, false, false] (lls' := [(26, 0), (9, 0), (9, 0), (9, 0)]) rfl k)) ?_
    exact tM_beach_58 hM w _ h0
  refine pj_map (fun k => pj_if_eq_f hM (pc := 40) 58 dX12_beach_40 rfl h1 (pj_aload_n hM (pc := 43) dX12_beach_43 rfl rfl (pj_gf hM (pc := 44) (t := 0) dX12_beach_44 fl_X12_123 (by decide) rfl 12 rfl k))) ?_
  refine pj_tif (fun h2 => ?_) (fun h2 => ?_)
  · refine pj_tmap ?_
    refine pj_map (fun k => pj_if_eq_t hM (pc := 47) dX12_beach_47 rfl h2 (pj_kill hM [true, false, false, false] (lls' := [(26, 0), (9, 0), (9, 0), (9, 0)]) rfl k)) ?_
    exact tM_beach_58 hM w _ h0
  refine pj_tbind (fun p3 h4 => ?_)
  exact pj_tret (fun hr => pj_if_eq_f hM (pc := 47) 58 dX12_beach_47 rfl h2 (pj_aload_n hM (pc := 50) dX12_beach_50 rfl rfl (pj_cV hM (pc := 51) (cM_beachPart w p3 h4) dX12_beach_51 mf_X12_beachPart mv_X12_beachPart ml_X12_238 kc_26 rfl rfl (by decide) rfl rfl (pj_istore_n hM (pc := 54) dX12_beach_54 (by decide) (lls' := [(26, 0), (9, 0), (0, p3.1), (9, 0)]) rfl (pj_goto hM (pc := 55) dX12_beach_55 rfl (pj_kill hM [true, false, true, false] (lls' := [(26, 0), (9, 0), (0, p3.1), (9, 0)]) rfl ((hk39 _ hr))))))))
theorem tM_beach_39 {Go : pj_C → Prop} (hM : pj_M l yX12_beach cX12_beach 4 (some .int) 9 197 true g n0 o Go)   (R : Int × pj_W → Prop) (h0 : ∀ r, R (r) → ((some (0, r.1) : Option pj_V), r.2) = o) (s : (Int × pj_W)) : pj_TG R (fM_beach_39  s) (Go (39, [(26, 0), (9, 0), (0, s.1), (9, 0)], [], s.2)) := by
  unfold fM_beach_39
  exact pj_tLp (G := fun s : (Int × pj_W) => Go (39, [(26, 0), (9, 0), (0, s.1), (9, 0)], [], s.2)) (fun s => tM_beach_39b hM  s.1 s.2  _ (fun r h => h0 r h)  (fun s h => h)) s
theorem tM_beach {Go : pj_C → Prop} (hM : pj_M l yX12_beach cX12_beach 4 (some .int) 9 197 true g n0 o Go) (x1 : Int) (w : pj_W)  (R : Int × pj_W → Prop) (h0 : ∀ r, R (r) → ((some (0, r.1) : Option pj_V), r.2) = o) : pj_TG R (fM_beach x1 w) (Go (0, [(26, 0), (0, x1), (9, 0), (9, 0)], [], w)) := by
  unfold fM_beach
  refine pj_tbind (fun p1 h2 => ?_)
  refine pj_map (fun k => pj_aload_n hM (pc := 0) dX12_beach_0 rfl rfl (pj_iload_n hM (pc := 1) dX12_beach_1 rfl (pj_sipush hM (pc := 2) dX12_beach_2 (by decide) (pj_cV hM (pc := 5) (cM_begins x1 900 w p1 h2) dX12_beach_5 mf_X12_begins mv_X12_begins ml_X12_231 kc_26 rfl rfl (by decide) rfl rfl k)))) ?_
  refine pj_tif (fun h3 => ?_) (fun h3 => ?_)
  · refine pj_tbind (fun p4 h5 => ?_)
    exact pj_tret (fun hr => pj_if_ne_f hM (pc := 8) 17 dX12_beach_8 rfl (fun q => q h3) (pj_aload_n hM (pc := 11) dX12_beach_11 rfl rfl (pj_iconst hM (pc := 12) dX12_beach_12 (by decide) (pj_cV hM (pc := 13) (cM_refuse 1 p1.2 p4 h5) dX12_beach_13 mf_X12_refuse mv_X12_refuse ml_X12_78 kc_26 rfl rfl (by decide) rfl rfl (pj_ret hM (pc := 16) dX12_beach_16 ⟨_, rfl⟩ (h0 ((p4.1, p4.2)) hr) rfl)))))
  refine pj_tbind (fun p6 h7 => ?_)
  refine pj_tbind (fun p8 h9 => ?_)
  refine pj_map (fun k => pj_if_ne_t hM (pc := 8) dX12_beach_8 rfl h3 (pj_aload_n hM (pc := 17) dX12_beach_17 rfl rfl (pj_sipush hM (pc := 18) dX12_beach_18 (by decide) (pj_cVv hM (pc := 21) (cM_plain 5600 p1.2 p6 h7) dX12_beach_21 mf_X12_plain mv_X12_plain ml_X12_68 kc_26 rfl rfl (by decide) rfl rfl (pj_aload_n hM (pc := 24) dX12_beach_24 rfl rfl (pj_iconst hM (pc := 25) dX12_beach_25 (by decide) (pj_pf hM (pc := 26) dX12_beach_26 fl_X12_214 (by decide) rfl (fun _ => Or.inl rfl) (by decide) (fun _ => rfl) 20 rfl (pj_aload_n hM (pc := 29) dX12_beach_29 rfl rfl (pj_iconst hM (pc := 30) dX12_beach_30 (by decide) (pj_pf hM (pc := 31) dX12_beach_31 fl_X12_204 (by decide) rfl (fun h => absurd h (by decide)) (by decide) (fun _ => rfl) 21 rfl (pj_aload_n hM (pc := 34) dX12_beach_34 rfl rfl (pj_cV hM (pc := 35) (cM_first (pj_set (pj_set p6 26 0 20 0) 26 0 21 0) p8 h9) dX12_beach_35 mf_X12_first mv_X12_first ml_X12_235 kc_26 rfl rfl (by decide) rfl rfl (pj_istore_n hM (pc := 38) dX12_beach_38 (by decide) (lls' := [(26, 0), (0, x1), (0, p8.1), (9, 0)]) rfl (pj_kill hM [true, false, true, false] (lls' := [(26, 0), (9, 0), (0, p8.1), (9, 0)]) rfl k)))))))))))))) ?_
  exact tM_beach_39 hM _ h0 _
theorem cM_beach (x1 : Int)  (w : pj_W) (r : Int × pj_W) (h : fM_beach x1 w = some r) : pj_Cn l yX12_beach cX12_beach 4 (some .int) 9 197 true g [(26, 0), (0, x1)] w ((some (0, r.1) : Option pj_V), r.2) :=
  pj_Cn_of rfl (Nat.le_of_ble_eq_true rfl) (lls := [(26, 0), (0, x1), (9, 0), (9, 0)]) rfl (fun Go hM => tM_beach hM x1 w (fun x => ((some (0, x.1) : Option pj_V), x.2) = ((some (0, r.1) : Option pj_V), r.2)) (fun r h => h) r h rfl)
noncomputable def fM_isThere (x1 : Int) (w : pj_W) : Option (Int) :=
  if (pj_and (pj_shr (w 60 0 7) x1) 1) = 1 then (some (1)) else (some (0))
theorem tM_isThere {Go : pj_C → Prop} (hM : pj_M l yX12_isThere cX12_isThere 2 (some .boolean) 0 0 true g n0 o Go) (x1 : Int) (w : pj_W)  (R : Int → Prop) (h0 : ∀ r, R (r) → ((some (0, r) : Option pj_V), w) = o) : pj_TG R (fM_isThere x1 w) (Go (0, [(26, 0), (0, x1)], [], w)) := by
  unfold fM_isThere
  refine pj_map (fun k => pj_aload_n hM (pc := 0) dX12_isThere_0 rfl rfl (pj_getF hM (pc := 1) (t := 60) dX12_isThere_1 fl_X12_7 (by decide) rfl rfl (pj_bipush hM (pc := 4) dX12_isThere_4 (by decide) (pj_ial hM (pc := 6) dX12_isThere_6 ki_60 (by decide) (by decide) (pj_iload_n hM (pc := 7) dX12_isThere_7 rfl (pj_ishr hM (pc := 8) dX12_isThere_8 (pj_iconst hM (pc := 9) dX12_isThere_9 (by decide) (pj_iand hM (pc := 10) dX12_isThere_10 (pj_iconst hM (pc := 11) dX12_isThere_11 (by decide) k))))))))) ?_
  refine pj_tif (fun h1 => ?_) (fun h1 => ?_)
  · exact pj_tret (fun hr => pj_ic_ne_f hM (pc := 12) 19 dX12_isThere_12 rfl (fun q => q h1) (pj_iconst hM (pc := 15) dX12_isThere_15 (by decide) (pj_goto hM (pc := 16) dX12_isThere_16 rfl (pj_ret hM (pc := 20) dX12_isThere_20 ⟨_, rfl, Or.inr rfl⟩ (h0 (1) hr) rfl))))
  exact pj_tret (fun hr => pj_ic_ne_t hM (pc := 12) dX12_isThere_12 rfl h1 (pj_iconst hM (pc := 19) dX12_isThere_19 (by decide) (pj_ret hM (pc := 20) dX12_isThere_20 ⟨_, rfl, Or.inl rfl⟩ (h0 (0) hr) rfl)))
theorem cM_isThere (x1 : Int)  (w : pj_W) (r : Int) (h : fM_isThere x1 w = some r) : pj_Cn l yX12_isThere cX12_isThere 2 (some .boolean) 0 0 true g [(26, 0), (0, x1)] w ((some (0, r) : Option pj_V), w) :=
  pj_Cn_of rfl (Nat.le_of_ble_eq_true rfl) (lls := [(26, 0), (0, x1)]) rfl (fun Go hM => tM_isThere hM x1 w (fun x => ((some (0, x) : Option pj_V), w) = ((some (0, r) : Option pj_V), w)) (fun r h => h) r h rfl)
noncomputable def fM_minuteAt (x1 : Int) (x2 : Int) (w : pj_W) : Option (Int) :=
  (fM_pebbleRow 0 x1 x2 w).bind fun p1 => (if 0 ≤ (pj_wr (p1 + 1)) ∧ (pj_wr (p1 + 1)) < 8400 then (some ((w 60 0 (pj_wr (p1 + 1))))) else none)
theorem tM_minuteAt {Go : pj_C → Prop} (hM : pj_M l yX12_minuteAt cX12_minuteAt 3 (some .int) 1 22 true g n0 o Go) (x1 : Int) (x2 : Int) (w : pj_W)  (R : Int → Prop) (h0 : ∀ r, R (r) → ((some (0, r) : Option pj_V), w) = o) : pj_TG R (fM_minuteAt x1 x2 w) (Go (0, [(26, 0), (0, x1), (0, x2)], [], w)) := by
  unfold fM_minuteAt
  refine pj_tbind (fun p1 h2 => ?_)
  refine pj_tgd (fun h3 => ?_)
  exact pj_tret (fun hr => pj_aload_n hM (pc := 0) dX12_minuteAt_0 rfl rfl (pj_getF hM (pc := 1) (t := 60) dX12_minuteAt_1 fl_X12_7 (by decide) rfl rfl (pj_iconst hM (pc := 4) dX12_minuteAt_4 (by decide) (pj_iload_n hM (pc := 5) dX12_minuteAt_5 rfl (pj_iload_n hM (pc := 6) dX12_minuteAt_6 rfl (pj_cS hM (pc := 7) (cM_pebbleRow 0 x1 x2 w p1 h2) dX12_minuteAt_7 mf_X12_pebbleRow ms_X12_pebbleRow ml_X12_174 rfl rfl rfl rfl (pj_iconst hM (pc := 10) dX12_minuteAt_10 (by decide) (pj_iadd hM (pc := 11) dX12_minuteAt_11 (pj_ial hM (pc := 12) dX12_minuteAt_12 ki_60 (by decide) h3 (pj_ret hM (pc := 13) dX12_minuteAt_13 ⟨_, rfl⟩ (h0 ((w 60 0 (pj_wr (p1 + 1)))) hr) rfl))))))))))
theorem cM_minuteAt (x1 : Int) (x2 : Int)  (w : pj_W) (r : Int) (h : fM_minuteAt x1 x2 w = some r) : pj_Cn l yX12_minuteAt cX12_minuteAt 3 (some .int) 1 22 true g [(26, 0), (0, x1), (0, x2)] w ((some (0, r) : Option pj_V), w) :=
  pj_Cn_of rfl (Nat.le_of_ble_eq_true rfl) (lls := [(26, 0), (0, x1), (0, x2)]) rfl (fun Go hM => tM_minuteAt hM x1 x2 w (fun x => ((some (0, x) : Option pj_V), w) = ((some (0, r) : Option pj_V), w)) (fun r h => h) r h rfl)
noncomputable def fM_lastOn_10b (x1 : Int) (w : pj_W) (x2 : Int) (x3 : Int) : Option ((Int × Int) ⊕ (Int)) :=
  if x3 < 0 then (some (Sum.inr (x2))) else ((fM_minuteAt x1 x3 w).bind fun p2 => ((fM_manyOn x1 w).bind fun p4 => ((fM_minuteAt x1 (pj_wr (p4 - 1)) w).bind fun p6 => (if p2 = p6 then ((fM_whoAt x1 x3 w).bind fun p9 => (some (Sum.inl ((pj_or x2 (pj_shl 1 p9)), (pj_wr (x3 + (-1))))))) else (some (Sum.inr (x2)))))))
noncomputable def fM_lastOn_10 (x1 : Int) (w : pj_W) (s : (Int × Int)) : Option (Int) := pj_Lp (fun s : (Int × Int) => fM_lastOn_10b x1 w s.1 s.2) s
noncomputable def fM_lastOn (x1 : Int) (w : pj_W) : Option (Int) :=
  (fM_manyOn x1 w).bind fun p1 => (fM_lastOn_10 x1 w (0, (pj_wr (p1 - 1))))
theorem tM_lastOn_10b {Go : pj_C → Prop} (hM : pj_M l yX12_lastOn cX12_lastOn 4 (some .int) 2 44 true g n0 o Go) (x1 : Int) (w : pj_W) (x2 : Int) (x3 : Int)  (R : (Int × Int) ⊕ (Int) → Prop) (h0 : ∀ r, R (Sum.inr (r)) → ((some (0, r) : Option pj_V), w) = o) (hk10 : ∀ s, R (Sum.inl s) → Go (10, [(26, 0), (0, x1), (0, s.1), (0, s.2)], [], w)) : pj_TG R (fM_lastOn_10b x1 w x2 x3) (Go (10, [(26, 0), (0, x1), (0, x2), (0, x3)], [], w)) := by
  unfold fM_lastOn_10b
  refine pj_map (fun k => pj_iload_n hM (pc := 10) dX12_lastOn_10 rfl k) ?_
  refine pj_tif (fun h1 => ?_) (fun h1 => ?_)
  · exact pj_tret (fun hr => pj_if_lt_t hM (pc := 11) dX12_lastOn_11 rfl h1 (pj_iload_n hM (pc := 52) dX12_lastOn_52 rfl (pj_ret hM (pc := 53) dX12_lastOn_53 ⟨_, rfl⟩ (h0 (x2) hr) rfl)))
  refine pj_tbind (fun p2 h3 => ?_)
  refine pj_tbind (fun p4 h5 => ?_)
  refine pj_tbind (fun p6 h7 => ?_)
  refine pj_map (fun k => pj_if_lt_f hM (pc := 11) 52 dX12_lastOn_11 rfl h1 (pj_aload_n hM (pc := 14) dX12_lastOn_14 rfl rfl (pj_iload_n hM (pc := 15) dX12_lastOn_15 rfl (pj_iload_n hM (pc := 16) dX12_lastOn_16 rfl (pj_cV hM (pc := 17) (cM_minuteAt x1 x3 w p2 h3) dX12_lastOn_17 mf_X12_minuteAt mv_X12_minuteAt ml_X12_314 kc_26 rfl rfl (by decide) rfl rfl (pj_aload_n hM (pc := 20) dX12_lastOn_20 rfl rfl (pj_iload_n hM (pc := 21) dX12_lastOn_21 rfl (pj_aload_n hM (pc := 22) dX12_lastOn_22 rfl rfl (pj_iload_n hM (pc := 23) dX12_lastOn_23 rfl (pj_cV hM (pc := 24) (cM_manyOn x1 w p4 h5) dX12_lastOn_24 mf_X12_manyOn mv_X12_manyOn ml_X12_277 kc_26 rfl rfl (by decide) rfl rfl (pj_iconst hM (pc := 27) dX12_lastOn_27 (by decide) (pj_isub hM (pc := 28) dX12_lastOn_28 (pj_cV hM (pc := 29) (cM_minuteAt x1 (pj_wr (p4 - 1)) w p6 h7) dX12_lastOn_29 mf_X12_minuteAt mv_X12_minuteAt ml_X12_314 kc_26 rfl rfl (by decide) rfl rfl k))))))))))))) ?_
  refine pj_tif (fun h8 => ?_) (fun h8 => ?_)
  · refine pj_tbind (fun p9 h10 => ?_)
    exact pj_tret (fun hr => pj_ic_ne_f hM (pc := 32) 52 dX12_lastOn_32 rfl (fun q => q h8) (pj_iload_n hM (pc := 35) dX12_lastOn_35 rfl (pj_iconst hM (pc := 36) dX12_lastOn_36 (by decide) (pj_aload_n hM (pc := 37) dX12_lastOn_37 rfl rfl (pj_iload_n hM (pc := 38) dX12_lastOn_38 rfl (pj_iload_n hM (pc := 39) dX12_lastOn_39 rfl (pj_cV hM (pc := 40) (cM_whoAt x1 x3 w p9 h10) dX12_lastOn_40 mf_X12_whoAt mv_X12_whoAt ml_X12_308 kc_26 rfl rfl (by decide) rfl rfl (pj_ishl hM (pc := 43) dX12_lastOn_43 (pj_ior hM (pc := 44) dX12_lastOn_44 (pj_istore_n hM (pc := 45) dX12_lastOn_45 (by decide) (lls' := [(26, 0), (0, x1), (0, (pj_or x2 (pj_shl 1 p9))), (0, x3)]) rfl (pj_iinc hM (pc := 46) dX12_lastOn_46 rfl (by decide) (lls' := [(26, 0), (0, x1), (0, (pj_or x2 (pj_shl 1 p9))), (0, (pj_wr (x3 + (-1))))]) rfl (pj_goto hM (pc := 49) dX12_lastOn_49 rfl (pj_kill hM [true, true, true, true] (lls' := [(26, 0), (0, x1), (0, (pj_or x2 (pj_shl 1 p9))), (0, (pj_wr (x3 + (-1))))]) rfl ((hk10 _ hr)))))))))))))))
  exact pj_tret (fun hr => pj_ic_ne_t hM (pc := 32) dX12_lastOn_32 rfl h8 (pj_iload_n hM (pc := 52) dX12_lastOn_52 rfl (pj_ret hM (pc := 53) dX12_lastOn_53 ⟨_, rfl⟩ (h0 (x2) hr) rfl)))
theorem tM_lastOn_10 {Go : pj_C → Prop} (hM : pj_M l yX12_lastOn cX12_lastOn 4 (some .int) 2 44 true g n0 o Go) (x1 : Int) (w : pj_W)  (R : Int → Prop) (h0 : ∀ r, R (r) → ((some (0, r) : Option pj_V), w) = o) (s : (Int × Int)) : pj_TG R (fM_lastOn_10 x1 w s) (Go (10, [(26, 0), (0, x1), (0, s.1), (0, s.2)], [], w)) := by
  unfold fM_lastOn_10
  exact pj_tLp (G := fun s : (Int × Int) => Go (10, [(26, 0), (0, x1), (0, s.1), (0, s.2)], [], w)) (fun s => tM_lastOn_10b hM x1 w s.1 s.2  _ (fun r h => h0 r h)  (fun s h => h)) s
theorem tM_lastOn {Go : pj_C → Prop} (hM : pj_M l yX12_lastOn cX12_lastOn 4 (some .int) 2 44 true g n0 o Go) (x1 : Int) (w : pj_W)  (R : Int → Prop) (h0 : ∀ r, R (r) → ((some (0, r) : Option pj_V), w) = o) : pj_TG R (fM_lastOn x1 w) (Go (0, [(26, 0), (0, x1), (9, 0), (9, 0)], [], w)) := by
  unfold fM_lastOn
  refine pj_tbind (fun p1 h2 => ?_)
  refine pj_map (fun k => pj_iconst hM (pc := 0) dX12_lastOn_0 (by decide) (pj_istore_n hM (pc := 1) dX12_lastOn_1 (by decide) (lls' := [(26, 0), (0, x1), (0, 0), (9, 0)]) rfl (pj_aload_n hM (pc := 2) dX12_lastOn_2 rfl rfl (pj_iload_n hM (pc := 3) dX12_lastOn_3 rfl (pj_cV hM (pc := 4) (cM_manyOn x1 w p1 h2) dX12_lastOn_4 mf_X12_manyOn mv_X12_manyOn ml_X12_277 kc_26 rfl rfl (by decide) rfl rfl (pj_iconst hM (pc := 7) dX12_lastOn_7 (by decide) (pj_isub hM (pc := 8) dX12_lastOn_8 (pj_istore_n hM (pc := 9) dX12_lastOn_9 (by decide) (lls' := [(26, 0), (0, x1), (0, 0), (0, (pj_wr (p1 - 1)))]) rfl (pj_kill hM [true, true, true, true] (lls' := [(26, 0), (0, x1), (0, 0), (0, (pj_wr (p1 - 1)))]) rfl k))))))))) ?_
  exact tM_lastOn_10 hM x1 w _ h0 _
theorem cM_lastOn (x1 : Int)  (w : pj_W) (r : Int) (h : fM_lastOn x1 w = some r) : pj_Cn l yX12_lastOn cX12_lastOn 4 (some .int) 2 44 true g [(26, 0), (0, x1)] w ((some (0, r) : Option pj_V), w) :=
  pj_Cn_of rfl (Nat.le_of_ble_eq_true rfl) (lls := [(26, 0), (0, x1), (9, 0), (9, 0)]) rfl (fun Go hM => tM_lastOn hM x1 w (fun x => ((some (0, x) : Option pj_V), w) = ((some (0, r) : Option pj_V), w)) (fun r h => h) r h rfl)
noncomputable def fM_ownersOf_81 (x2 : Int) (x3 : Int) (x4 : Int) (w : pj_W) : Option ((Int × Int) ⊕ (Int)) :=
  some (Sum.inl (x3, (pj_wr (x4 + 1))))
noncomputable def fM_ownersOf_78 (x2 : Int) (x4 : Int) (w : pj_W) : Option ((Int × Int) ⊕ (Int)) :=
  fM_ownersOf_81 x2 x4 x4 w
noncomputable def fM_ownersOf_42b (x2 : Int) (w : pj_W) (x3 : Int) (x4 : Int) : Option ((Int × Int) ⊕ (Int)) :=
  if (w 60 0 1) ≤ x4 then (some (Sum.inr ((pj_shl 1 x3)))) else (if (pj_and (pj_shr x2 x4) 1) = 1 then (if x3 = (-1) then (fM_ownersOf_78 x2 x4 w) else (if (w 60 0 5) = 2 then (fM_ownersOf_78 x2 x4 w) else (fM_ownersOf_81 x2 x3 x4 w))) else (fM_ownersOf_81 x2 x3 x4 w))
noncomputable def fM_ownersOf_42 (x2 : Int) (w : pj_W) (s : (Int × Int)) : Option (Int) := pj_Lp (fun s : (Int × Int) => fM_ownersOf_42b x2 w s.1 s.2) s
noncomputable def fM_ownersOf (x1 : Int) (w : pj_W) : Option (Int) :=
  (fM_lastOn x1 w).bind fun p1 => ((fM_bits p1 w).bind fun p3 => (if p3 < 2 then (some (p1)) else (if (w 60 0 5) = 3 then (some (p1)) else (if (w 60 0 5) = 0 then (some (0)) else (fM_ownersOf_42 p1 w ((-1), 0))))))
theorem tM_ownersOf_81 {Go : pj_C → Prop} (hM : pj_M l yX12_ownersOf cX12_ownersOf 5 (some .int) 3 67 true g n0 o Go) (x2 : Int) (x3 : Int) (x4 : Int) (w : pj_W)  (R : (Int × Int) ⊕ (Int) → Prop) (h0 : ∀ r, R (Sum.inr (r)) → ((some (0, r) : Option pj_V), w) = o) (hk42 : ∀ s, R (Sum.inl s) → Go (42, [(26, 0), (9, 0), (0, x2), (0, s.1), (0, s.2)], [], w)) : pj_TG R (fM_ownersOf_81 x2 x3 x4 w) (Go (81, [(26, 0), (9, 0), (0, x2), (0, x3), (0, x4)], [], w)) := by
  unfold fM_ownersOf_81
  exact pj_tret (fun hr => pj_iinc hM (pc := 81) dX12_ownersOf_81 rfl (by decide) (lls' := [(26, 0), (9, 0), (0, x2), (0, x3), (0, (pj_wr (x4 + 1)))]) rfl (pj_goto hM (pc := 84) dX12_ownersOf_84 rfl (pj_kill hM [true, false, true, true, true] (lls' := [(26, 0), (9, 0), (0, x2), (0, x3), (0, (pj_wr (x4 + 1)))]) rfl ((hk42 _ hr)))))
theorem tM_ownersOf_78 {Go : pj_C → Prop} (hM : pj_M l yX12_ownersOf cX12_ownersOf 5 (some .int) 3 67 true g n0 o Go) (x2 : Int) (x4 : Int) (w : pj_W)  (R : (Int × Int) ⊕ (Int) → Prop) (h0 : ∀ r, R (Sum.inr (r)) → ((some (0, r) : Option pj_V), w) = o) (hk42 : ∀ s, R (Sum.inl s) → Go (42, [(26, 0), (9, 0), (0, x2), (0, s.1), (0, s.2)], [], w)) : pj_TG R (fM_ownersOf_78 x2 x4 w) (Go (78, [(26, 0), (9, 0), (0, x2), (9, 0), (0, x4)], [], w)) := by
  unfold fM_ownersOf_78
  refine pj_map (fun k => pj_iload hM (pc := 78) dX12_ownersOf_78 rfl (pj_istore_n hM (pc := 80) dX12_ownersOf_80 (by decide) (lls' := [(26, 0), (9, 0), (0, x2), (0, x4), (0, x4)]) rfl (pj_kill hM [true, false, true, true, true] (lls' := [(26, 0), (9, 0), (0, x2), (0, x4), (0, x4)]) rfl k))) ?_
  exact tM_ownersOf_81 hM x2 x4 x4 w _ h0 hk42
theorem tM_ownersOf_42b {Go : pj_C → Prop} (hM : pj_M l yX12_ownersOf cX12_ownersOf 5 (some .int) 3 67 true g n0 o Go) (x2 : Int) (w : pj_W) (x3 : Int) (x4 : Int)  (R : (Int × Int) ⊕ (Int) → Prop) (h0 : ∀ r, R (Sum.inr (r)) → ((some (0, r) : Option pj_V), w) = o) (hk42 : ∀ s, R (Sum.inl s) → Go (42, [(26, 0), (9, 0), (0, x2), (0, s.1), (0, s.2)], [], w)) : pj_TG R (fM_ownersOf_42b x2 w x3 x4) (Go (42, [(26, 0), (9, 0), (0, x2), (0, x3), (0, x4)], [], w)) := by
  unfold fM_ownersOf_42b
  refine pj_map (fun k => pj_iload hM (pc := 42) dX12_ownersOf_42 rfl (pj_aload_n hM (pc := 44) dX12_ownersOf_44 rfl rfl (pj_getF hM (pc := 45) (t := 60) dX12_ownersOf_45 fl_X12_7 (by decide) rfl rfl (pj_iconst hM (pc := 48) dX12_ownersOf_48 (by decide) (pj_ial hM (pc := 49) dX12_ownersOf_49 ki_60 (by decide) (by decide) k))))) ?_
  refine pj_tif (fun h1 => ?_) (fun h1 => ?_)
  · exact pj_tret (fun hr => pj_ic_ge_t hM (pc := 50) dX12_ownersOf_50 rfl h1 (pj_iconst hM (pc := 87) dX12_ownersOf_87 (by decide) (pj_iload_n hM (pc := 88) dX12_ownersOf_88 rfl (pj_ishl hM (pc := 89) dX12_ownersOf_89 (pj_ret hM (pc := 90) dX12_ownersOf_90 ⟨_, rfl⟩ (h0 ((pj_shl 1 x3)) hr) rfl)))))
  refine pj_map (fun k => pj_ic_ge_f hM (pc := 50) 87 dX12_ownersOf_50 rfl h1 (pj_iload_n hM (pc := 53) dX12_ownersOf_53 rfl (pj_iload hM (pc := 54) dX12_ownersOf_54 rfl (pj_ishr hM (pc := 56) dX12_ownersOf_56 (pj_iconst hM (pc := 57) dX12_ownersOf_57 (by decide) (pj_iand hM (pc := 58) dX12_ownersOf_58 (pj_iconst hM (pc := 59) dX12_ownersOf_59 (by decide) k))))))) ?_
  refine pj_tif (fun h2 => ?_) (fun h2 => ?_)
  · refine pj_map (fun k => pj_ic_ne_f hM (pc := 60) 81 dX12_ownersOf_60 rfl (fun q => q h2) (pj_iload_n hM (pc := 63) dX12_ownersOf_63 rfl (pj_iconst hM (pc := 64) dX12_ownersOf_64 (by decide) k))) ?_
    refine pj_tif (fun h3 => ?_) (fun h3 => ?_)
    · refine pj_map (fun k => pj_ic_eq_t hM (pc := 65) dX12_ownersOf_65 rfl h3 (pj_kill hM [true, false, true, false, true] (lls' := [(26, 0), (9, 0), (0, x2), (9, 0), (0, x4)]) rfl k)) ?_
      exact tM_ownersOf_78 hM x2 x4 w _ h0 hk42
    refine pj_map (fun k => pj_ic_eq_f hM (pc := 65) 78 dX12_ownersOf_65 rfl h3 (pj_aload_n hM (pc := 68) dX12_ownersOf_68 rfl rfl (pj_getF hM (pc := 69) (t := 60) dX12_ownersOf_69 fl_X12_7 (by decide) rfl rfl (pj_iconst hM (pc := 72) dX12_ownersOf_72 (by decide) (pj_ial hM (pc := 73) dX12_ownersOf_73 ki_60 (by decide) (by decide) (pj_iconst hM (pc := 74) dX12_ownersOf_74 (by decide) k)))))) ?_
    refine pj_tif (fun h4 => ?_) (fun h4 => ?_)
    · refine pj_map (fun k => pj_ic_ne_f hM (pc := 75) 81 dX12_ownersOf_75 rfl (fun q => q h4) (pj_kill hM [true, false, true, false, true] (lls' := [(26, 0), (9, 0), (0, x2), (9, 0), (0, x4)]) rfl k)) ?_
      exact tM_ownersOf_78 hM x2 x4 w _ h0 hk42
    refine pj_map (fun k => pj_ic_ne_t hM (pc := 75) dX12_ownersOf_75 rfl h4 (pj_kill hM [true, false, true, true, true] (lls' := [(26, 0), (9, 0), (0, x2), (0, x3), (0, x4)]) rfl k)) ?_
    exact tM_ownersOf_81 hM x2 x3 x4 w _ h0 hk42
  refine pj_map (fun k => pj_ic_ne_t hM (pc := 60) dX12_ownersOf_60 rfl h2 (pj_kill hM [true, false, true, true, true] (lls' := [(26, 0), (9, 0), (0, x2), (0, x3), (0, x4)]) rfl k)) ?_
  exact tM_ownersOf_81 hM x2 x3 x4 w _ h0 hk42
theorem tM_ownersOf_42 {Go : pj_C → Prop} (hM : pj_M l yX12_ownersOf cX12_ownersOf 5 (some .int) 3 67 true g n0 o Go) (x2 : Int) (w : pj_W)  (R : Int → Prop) (h0 : ∀ r, R (r) → ((some (0, r) : Option pj_V), w) = o) (s : (Int × Int)) : pj_TG R (fM_ownersOf_42 x2 w s) (Go (42, [(26, 0), (9, 0), (0, x2), (0, s.1), (0, s.2)], [], w)) := by
  unfold fM_ownersOf_42
  exact pj_tLp (G := fun s : (Int × Int) => Go (42, [(26, 0), (9, 0), (0, x2), (0, s.1), (0, s.2)], [], w)) (fun s => tM_ownersOf_42b hM x2 w s.1 s.2  _ (fun r h => h0 r h)  (fun s h => h)) s
theorem tM_ownersOf {Go : pj_C → Prop} (hM : pj_M l yX12_ownersOf cX12_ownersOf 5 (some .int) 3 67 true g n0 o Go) (x1 : Int) (w : pj_W)  (R : Int → Prop) (h0 : ∀ r, R (r) → ((some (0, r) : Option pj_V), w) = o) : pj_TG R (fM_ownersOf x1 w) (Go (0, [(26, 0), (0, x1), (9, 0), (9, 0), (9, 0)], [], w)) := by
  unfold fM_ownersOf
  refine pj_tbind (fun p1 h2 => ?_)
  refine pj_tbind (fun p3 h4 => ?_)
  refine pj_map (fun k => pj_aload_n hM (pc := 0) dX12_ownersOf_0 rfl rfl (pj_iload_n hM (pc := 1) dX12_ownersOf_1 rfl (pj_cV hM (pc := 2) (cM_lastOn x1 w p1 h2) dX12_ownersOf_2 mf_X12_lastOn mv_X12_lastOn ml_X12_337 kc_26 rfl rfl (by decide) rfl rfl (pj_istore_n hM (pc := 5) dX12_ownersOf_5 (by decide) (lls' := [(26, 0), (0, x1), (0, p1), (9, 0), (9, 0)]) rfl (pj_iload_n hM (pc := 6) dX12_ownersOf_6 rfl (pj_cS hM (pc := 7) (cM_bits p1 w p3 h4) dX12_ownersOf_7 mf_X12_bits ms_X12_bits ml_X12_340 rfl rfl rfl rfl (pj_iconst hM (pc := 10) dX12_ownersOf_10 (by decide) k))))))) ?_
  refine pj_tif (fun h5 => ?_) (fun h5 => ?_)
  · exact pj_tret (fun hr => pj_ic_lt_t hM (pc := 11) dX12_ownersOf_11 rfl h5 (pj_iload_n hM (pc := 24) dX12_ownersOf_24 rfl (pj_ret hM (pc := 25) dX12_ownersOf_25 ⟨_, rfl⟩ (h0 (p1) hr) rfl)))
  refine pj_map (fun k => pj_ic_lt_f hM (pc := 11) 24 dX12_ownersOf_11 rfl h5 (pj_aload_n hM (pc := 14) dX12_ownersOf_14 rfl rfl (pj_getF hM (pc := 15) (t := 60) dX12_ownersOf_15 fl_X12_7 (by decide) rfl rfl (pj_iconst hM (pc := 18) dX12_ownersOf_18 (by decide) (pj_ial hM (pc := 19) dX12_ownersOf_19 ki_60 (by decide) (by decide) (pj_iconst hM (pc := 20) dX12_ownersOf_20 (by decide) k)))))) ?_
  refine pj_tif (fun h6 => ?_) (fun h6 => ?_)
  · exact pj_tret (fun hr => pj_ic_ne_f hM (pc := 21) 26 dX12_ownersOf_21 rfl (fun q => q h6) (pj_iload_n hM (pc := 24) dX12_ownersOf_24 rfl (pj_ret hM (pc := 25) dX12_ownersOf_25 ⟨_, rfl⟩ (h0 (p1) hr) rfl)))
  refine pj_map (fun k => pj_ic_ne_t hM (pc := 21) dX12_ownersOf_21 rfl h6 (pj_aload_n hM (pc := 26) dX12_ownersOf_26 rfl rfl (pj_getF hM (pc := 27) (t := 60) dX12_ownersOf_27 fl_X12_7 (by decide) rfl rfl (pj_iconst hM (pc := 30) dX12_ownersOf_30 (by decide) (pj_ial hM (pc := 31) dX12_ownersOf_31 ki_60 (by decide) (by decide) k))))) ?_
  refine pj_tif (fun h7 => ?_) (fun h7 => ?_)
  · exact pj_tret (fun hr => pj_if_ne_f hM (pc := 32) 37 dX12_ownersOf_32 rfl (fun q => q h7) (pj_iconst hM (pc := 35) dX12_ownersOf_35 (by decide) (pj_ret hM (pc := 36) dX12_ownersOf_36 ⟨_, rfl⟩ (h0 (0) hr) rfl)))
  refine pj_map (fun k => pj_if_ne_t hM (pc := 32) dX12_ownersOf_32 rfl h7 (pj_iconst hM (pc := 37) dX12_ownersOf_37 (by decide) (pj_istore_n hM (pc := 38) dX12_ownersOf_38 (by decide) (lls' := [(26, 0), (0, x1), (0, p1), (0, (-1)), (9, 0)]) rfl (pj_iconst hM (pc := 39) dX12_ownersOf_39 (by decide) (pj_istore hM (pc := 40) dX12_ownersOf_40 (by decide) (lls' := [(26, 0), (0, x1), (0, p1), (0, (-1)), (0, 0)]) rfl (pj_kill hM [true, false, true, true, true] (lls' := [(26, 0), (9, 0), (0, p1), (0, (-1)), (0, 0)]) rfl k)))))) ?_
  exact tM_ownersOf_42 hM p1 w _ h0 _
theorem cM_ownersOf (x1 : Int)  (w : pj_W) (r : Int) (h : fM_ownersOf x1 w = some r) : pj_Cn l yX12_ownersOf cX12_ownersOf 5 (some .int) 3 67 true g [(26, 0), (0, x1)] w ((some (0, r) : Option pj_V), w) :=
  pj_Cn_of rfl (Nat.le_of_ble_eq_true rfl) (lls := [(26, 0), (0, x1), (9, 0), (9, 0), (9, 0)]) rfl (fun Go hM => tM_ownersOf hM x1 w (fun x => ((some (0, x) : Option pj_V), w) = ((some (0, r) : Option pj_V), w)) (fun r h => h) r h rfl)
noncomputable def fM_shareOf_17 (x1 : Int) (x2 : Int) (s0 : Int) (w : pj_W) : Option (Int) :=
  if (pj_and (pj_shr s0 x1) 1) = 0 then (some (0)) else ((fM_findRow 0 x2 w).bind fun p2 => (if 0 ≤ (pj_wr (p2 + 1)) ∧ (pj_wr (p2 + 1)) < 8400 then ((fM_bits s0 w).bind fun p5 => (if ¬ p5 = 0 then (some ((pj_div (w 60 0 (pj_wr (p2 + 1))) p5))) else none)) else none))
noncomputable def fM_shareOf (x1 : Int) (x2 : Int) (w : pj_W) : Option (Int) :=
  (fM_isThere x2 w).bind fun p1 => (if p1 = 0 then (fM_shareOf_17 x1 x2 0 w) else ((fM_ownersOf x2 w).bind fun p4 => (fM_shareOf_17 x1 x2 p4 w)))
theorem tM_shareOf_17 {Go : pj_C → Prop} (hM : pj_M l yX12_shareOf cX12_shareOf 4 (some .int) 4 91 true g n0 o Go) (x1 : Int) (x2 : Int) (s0 : Int) (w : pj_W)  (R : Int → Prop) (h0 : ∀ r, R (r) → ((some (0, r) : Option pj_V), w) = o) : pj_TG R (fM_shareOf_17 x1 x2 s0 w) (Go (17, [(26, 0), (0, x1), (0, x2), (9, 0)], [(0, s0)], w)) := by
  unfold fM_shareOf_17
  refine pj_map (fun k => pj_istore_n hM (pc := 17) dX12_shareOf_17 (by decide) (lls' := [(26, 0), (0, x1), (0, x2), (0, s0)]) rfl (pj_iload_n hM (pc := 18) dX12_shareOf_18 rfl (pj_iload_n hM (pc := 19) dX12_shareOf_19 rfl (pj_ishr hM (pc := 20) dX12_shareOf_20 (pj_iconst hM (pc := 21) dX12_shareOf_21 (by decide) (pj_iand hM (pc := 22) dX12_shareOf_22 k)))))) ?_
  refine pj_tif (fun h1 => ?_) (fun h1 => ?_)
  · exact pj_tret (fun hr => pj_if_ne_f hM (pc := 23) 30 dX12_shareOf_23 rfl (fun q => q h1) (pj_iconst hM (pc := 26) dX12_shareOf_26 (by decide) (pj_goto hM (pc := 27) dX12_shareOf_27 rfl (pj_ret hM (pc := 47) dX12_shareOf_47 ⟨_, rfl⟩ (h0 (0) hr) rfl))))
  refine pj_tbind (fun p2 h3 => ?_)
  refine pj_tgd (fun h4 => ?_)
  refine pj_tbind (fun p5 h6 => ?_)
  refine pj_tgd (fun h7 => ?_)
  exact pj_tret (fun hr => pj_if_ne_t hM (pc := 23) dX12_shareOf_23 rfl h1 (pj_aload_n hM (pc := 30) dX12_shareOf_30 rfl rfl (pj_getF hM (pc := 31) (t := 60) dX12_shareOf_31 fl_X12_7 (by decide) rfl rfl (pj_iconst hM (pc := 34) dX12_shareOf_34 (by decide) (pj_iload_n hM (pc := 35) dX12_shareOf_35 rfl (pj_cS hM (pc := 36) (cM_findRow 0 x2 w p2 h3) dX12_shareOf_36 mf_X12_findRow ms_X12_findRow ml_X12_171 rfl rfl rfl rfl (pj_iconst hM (pc := 39) dX12_shareOf_39 (by decide) (pj_iadd hM (pc := 40) dX12_shareOf_40 (pj_ial hM (pc := 41) dX12_shareOf_41 ki_60 (by decide) h4 (pj_iload_n hM (pc := 42) dX12_shareOf_42 rfl (pj_cS hM (pc := 43) (cM_bits s0 w p5 h6) dX12_shareOf_43 mf_X12_bits ms_X12_bits ml_X12_340 rfl rfl rfl rfl (pj_idiv hM (pc := 46) dX12_shareOf_46 h7 (pj_ret hM (pc := 47) dX12_shareOf_47 ⟨_, rfl⟩ (h0 ((pj_div (w 60 0 (pj_wr (p2 + 1))) p5)) hr) rfl)))))))))))))
theorem tM_shareOf {Go : pj_C → Prop} (hM : pj_M l yX12_shareOf cX12_shareOf 4 (some .int) 4 91 true g n0 o Go) (x1 : Int) (x2 : Int) (w : pj_W)  (R : Int → Prop) (h0 : ∀ r, R (r) → ((some (0, r) : Option pj_V), w) = o) : pj_TG R (fM_shareOf x1 x2 w) (Go (0, [(26, 0), (0, x1), (0, x2), (9, 0)], [], w)) := by
  unfold fM_shareOf
  refine pj_tbind (fun p1 h2 => ?_)
  refine pj_map (fun k => pj_aload_n hM (pc := 0) dX12_shareOf_0 rfl rfl (pj_iload_n hM (pc := 1) dX12_shareOf_1 rfl (pj_cV hM (pc := 2) (cM_isThere x2 w p1 h2) dX12_shareOf_2 mf_X12_isThere mv_X12_isThere ml_X12_268 kc_26 rfl rfl (by decide) rfl rfl k))) ?_
  refine pj_tif (fun h3 => ?_) (fun h3 => ?_)
  · refine pj_map (fun k => pj_if_eq_t hM (pc := 5) dX12_shareOf_5 rfl h3 (pj_iconst hM (pc := 16) dX12_shareOf_16 (by decide) (pj_kill hM [true, true, true, false] (lls' := [(26, 0), (0, x1), (0, x2), (9, 0)]) rfl k))) ?_
    exact tM_shareOf_17 hM x1 x2 0 w _ h0
  refine pj_tbind (fun p4 h5 => ?_)
  refine pj_map (fun k => pj_if_eq_f hM (pc := 5) 16 dX12_shareOf_5 rfl h3 (pj_aload_n hM (pc := 8) dX12_shareOf_8 rfl rfl (pj_iload_n hM (pc := 9) dX12_shareOf_9 rfl (pj_cV hM (pc := 10) (cM_ownersOf x2 w p4 h5) dX12_shareOf_10 mf_X12_ownersOf mv_X12_ownersOf ml_X12_343 kc_26 rfl rfl (by decide) rfl rfl (pj_goto hM (pc := 13) dX12_shareOf_13 rfl (pj_kill hM [true, true, true, false] (lls' := [(26, 0), (0, x1), (0, x2), (9, 0)]) rfl k)))))) ?_
  exact tM_shareOf_17 hM x1 x2 p4 w _ h0
theorem cM_shareOf (x1 : Int) (x2 : Int)  (w : pj_W) (r : Int) (h : fM_shareOf x1 x2 w = some r) : pj_Cn l yX12_shareOf cX12_shareOf 4 (some .int) 4 91 true g [(26, 0), (0, x1), (0, x2)] w ((some (0, r) : Option pj_V), w) :=
  pj_Cn_of rfl (Nat.le_of_ble_eq_true rfl) (lls := [(26, 0), (0, x1), (0, x2), (9, 0)]) rfl (fun Go hM => tM_shareOf hM x1 x2 w (fun x => ((some (0, x) : Option pj_V), w) = ((some (0, r) : Option pj_V), w)) (fun r h => h) r h rfl)
noncomputable def fM_leadOf_4b (x1 : Int) (w : pj_W) (x2 : Int) (x3 : Int) : Option ((Int × Int) ⊕ (Int)) :=
  if (w 60 0 2) ≤ x3 then (some (Sum.inr (x2))) else ((fM_shareOf x1 x3 w).bind fun p2 => (some (Sum.inl ((pj_wr (x2 + p2)), (pj_wr (x3 + 1))))))
noncomputable def fM_leadOf_4 (x1 : Int) (w : pj_W) (s : (Int × Int)) : Option (Int) := pj_Lp (fun s : (Int × Int) => fM_leadOf_4b x1 w s.1 s.2) s
noncomputable def fM_leadOf (x1 : Int) (w : pj_W) : Option (Int) :=
  fM_leadOf_4 x1 w (0, 0)
theorem tM_leadOf_4b {Go : pj_C → Prop} (hM : pj_M l yX12_leadOf cX12_leadOf 4 (some .int) 5 114 true g n0 o Go) (x1 : Int) (w : pj_W) (x2 : Int) (x3 : Int)  (R : (Int × Int) ⊕ (Int) → Prop) (h0 : ∀ r, R (Sum.inr (r)) → ((some (0, r) : Option pj_V), w) = o) (hk4 : ∀ s, R (Sum.inl s) → Go (4, [(26, 0), (0, x1), (0, s.1), (0, s.2)], [], w)) : pj_TG R (fM_leadOf_4b x1 w x2 x3) (Go (4, [(26, 0), (0, x1), (0, x2), (0, x3)], [], w)) := by
  unfold fM_leadOf_4b
  refine pj_map (fun k => pj_iload_n hM (pc := 4) dX12_leadOf_4 rfl (pj_aload_n hM (pc := 5) dX12_leadOf_5 rfl rfl (pj_getF hM (pc := 6) (t := 60) dX12_leadOf_6 fl_X12_7 (by decide) rfl rfl (pj_iconst hM (pc := 9) dX12_leadOf_9 (by decide) (pj_ial hM (pc := 10) dX12_leadOf_10 ki_60 (by decide) (by decide) k))))) ?_
  refine pj_tif (fun h1 => ?_) (fun h1 => ?_)
  · exact pj_tret (fun hr => pj_ic_ge_t hM (pc := 11) dX12_leadOf_11 rfl h1 (pj_iload_n hM (pc := 29) dX12_leadOf_29 rfl (pj_ret hM (pc := 30) dX12_leadOf_30 ⟨_, rfl⟩ (h0 (x2) hr) rfl)))
  refine pj_tbind (fun p2 h3 => ?_)
  exact pj_tret (fun hr => pj_ic_ge_f hM (pc := 11) 29 dX12_leadOf_11 rfl h1 (pj_iload_n hM (pc := 14) dX12_leadOf_14 rfl (pj_aload_n hM (pc := 15) dX12_leadOf_15 rfl rfl (pj_iload_n hM (pc := 16) dX12_leadOf_16 rfl (pj_iload_n hM (pc := 17) dX12_leadOf_17 rfl (pj_cV hM (pc := 18) (cM_shareOf x1 x3 w p2 h3) dX12_leadOf_18 mf_X12_shareOf mv_X12_shareOf ml_X12_346 kc_26 rfl rfl (by decide) rfl rfl (pj_iadd hM (pc := 21) dX12_leadOf_21 (pj_istore_n hM (pc := 22) dX12_leadOf_22 (by decide) (lls' := [(26, 0), (0, x1), (0, (pj_wr (x2 + p2))), (0, x3)]) rfl (pj_iinc hM (pc := 23) dX12_leadOf_23 rfl (by decide) (lls' := [(26, 0), (0, x1), (0, (pj_wr (x2 + p2))), (0, (pj_wr (x3 + 1)))]) rfl (pj_goto hM (pc := 26) dX12_leadOf_26 rfl (pj_kill hM [true, true, true, true] (lls' := [(26, 0), (0, x1), (0, (pj_wr (x2 + p2))), (0, (pj_wr (x3 + 1)))]) rfl ((hk4 _ hr)))))))))))))
theorem tM_leadOf_4 {Go : pj_C → Prop} (hM : pj_M l yX12_leadOf cX12_leadOf 4 (some .int) 5 114 true g n0 o Go) (x1 : Int) (w : pj_W)  (R : Int → Prop) (h0 : ∀ r, R (r) → ((some (0, r) : Option pj_V), w) = o) (s : (Int × Int)) : pj_TG R (fM_leadOf_4 x1 w s) (Go (4, [(26, 0), (0, x1), (0, s.1), (0, s.2)], [], w)) := by
  unfold fM_leadOf_4
  exact pj_tLp (G := fun s : (Int × Int) => Go (4, [(26, 0), (0, x1), (0, s.1), (0, s.2)], [], w)) (fun s => tM_leadOf_4b hM x1 w s.1 s.2  _ (fun r h => h0 r h)  (fun s h => h)) s
theorem tM_leadOf {Go : pj_C → Prop} (hM : pj_M l yX12_leadOf cX12_leadOf 4 (some .int) 5 114 true g n0 o Go) (x1 : Int) (w : pj_W)  (R : Int → Prop) (h0 : ∀ r, R (r) → ((some (0, r) : Option pj_V), w) = o) : pj_TG R (fM_leadOf x1 w) (Go (0, [(26, 0), (0, x1), (9, 0), (9, 0)], [], w)) := by
  unfold fM_leadOf
  refine pj_map (fun k => pj_iconst hM (pc := 0) dX12_leadOf_0 (by decide) (pj_istore_n hM (pc := 1) dX12_leadOf_1 (by decide) (lls' := [(26, 0), (0, x1), (0, 0), (9, 0)]) rfl (pj_iconst hM (pc := 2) dX12_leadOf_2 (by decide) (pj_istore_n hM (pc := 3) dX12_leadOf_3 (by decide) (lls' := [(26, 0), (0, x1), (0, 0), (0, 0)]) rfl (pj_kill hM [true, true, true, true] (lls' := [(26, 0), (0, x1), (0, 0), (0, 0)]) rfl k))))) ?_
  exact tM_leadOf_4 hM x1 w _ h0 _
theorem cM_leadOf (x1 : Int)  (w : pj_W) (r : Int) (h : fM_leadOf x1 w = some r) : pj_Cn l yX12_leadOf cX12_leadOf 4 (some .int) 5 114 true g [(26, 0), (0, x1)] w ((some (0, r) : Option pj_V), w) :=
  pj_Cn_of rfl (Nat.le_of_ble_eq_true rfl) (lls := [(26, 0), (0, x1), (9, 0), (9, 0)]) rfl (fun Go hM => tM_leadOf hM x1 w (fun x => ((some (0, x) : Option pj_V), w) = ((some (0, r) : Option pj_V), w)) (fun r h => h) r h rfl)
noncomputable def fM_atRank_68 (x1 : Int) (x2 : Int) (x4 : Int) (s0 : Int) (s1 : Int) (w : pj_W) : Option ((Int × Int) ⊕ ((Int) ⊕ (Int))) :=
  some (Sum.inl ((pj_wr (s0 + s1)), (pj_wr (x4 + 1))))
noncomputable def fM_atRank_67 (x1 : Int) (x2 : Int) (x4 : Int) (s0 : Int) (w : pj_W) : Option ((Int × Int) ⊕ ((Int) ⊕ (Int))) :=
  fM_atRank_68 x1 x2 x4 s0 0 w
noncomputable def fM_atRank_63 (x1 : Int) (x2 : Int) (x4 : Int) (s0 : Int) (w : pj_W) : Option ((Int × Int) ⊕ ((Int) ⊕ (Int))) :=
  fM_atRank_68 x1 x2 x4 s0 1 w
noncomputable def fM_atRank_17b (x1 : Int) (x2 : Int) (w : pj_W) (x3 : Int) (x4 : Int) : Option ((Int × Int) ⊕ ((Int) ⊕ (Int))) :=
  if (w 60 0 1) ≤ x4 then (if x3 = x1 then (some (Sum.inr (Sum.inr (x2)))) else (some (Sum.inr (Sum.inl ((pj_wr (x2 + 1))))))) else ((fM_leadOf x4 w).bind fun p3 => ((fM_leadOf x2 w).bind fun p5 => (if p5 < p3 then (fM_atRank_63 x1 x2 x4 x3 w) else ((fM_leadOf x4 w).bind fun p8 => ((fM_leadOf x2 w).bind fun p10 => (if p8 = p10 then (if x2 ≤ x4 then (fM_atRank_67 x1 x2 x4 x3 w) else (fM_atRank_63 x1 x2 x4 x3 w)) else (fM_atRank_67 x1 x2 x4 x3 w)))))))
noncomputable def fM_atRank_17 (x1 : Int) (x2 : Int) (w : pj_W) (s : (Int × Int)) : Option ((Int) ⊕ (Int)) := pj_Lp (fun s : (Int × Int) => fM_atRank_17b x1 x2 w s.1 s.2) s
noncomputable def fM_atRank_2b (x1 : Int) (w : pj_W) (x2 : Int) : Option ((Int) ⊕ (Int)) :=
  if (w 60 0 1) ≤ x2 then (some (Sum.inr ((-1)))) else (fM_atRank_17 x1 x2 w (0, 0))
noncomputable def fM_atRank_2 (x1 : Int) (w : pj_W) (s : (Int)) : Option (Int) := pj_Lp (fun s : (Int) => fM_atRank_2b x1 w s) s
noncomputable def fM_atRank (x1 : Int) (w : pj_W) : Option (Int) :=
  fM_atRank_2 x1 w (0)
theorem tM_atRank_68 {Go : pj_C → Prop} (hM : pj_M l yX12_atRank cX12_atRank 5 (some .int) 6 137 true g n0 o Go) (x1 : Int) (x2 : Int) (x4 : Int) (s0 : Int) (s1 : Int) (w : pj_W)  (R : (Int × Int) ⊕ ((Int) ⊕ (Int)) → Prop) (h0 : ∀ r, R (Sum.inr (Sum.inr (r))) → ((some (0, r) : Option pj_V), w) = o) (hk2 : ∀ s, R (Sum.inr (Sum.inl s)) → Go (2, [(26, 0), (0, x1), (0, s), (9, 0), (9, 0)], [], w)) (hk17 : ∀ s, R (Sum.inl s) → Go (17, [(26, 0), (0, x1), (0, x2), (0, s.1), (0, s.2)], [], w)) : pj_TG R (fM_atRank_68 x1 x2 x4 s0 s1 w) (Go (68, [(26, 0), (0, x1), (0, x2), (9, 0), (0, x4)], [(0, s1), (0, s0)], w)) := by
  unfold fM_atRank_68
  exact pj_tret (fun hr => pj_iadd hM (pc := 68) dX12_atRank_68 (pj_istore_n hM (pc := 69) dX12_atRank_69 (by decide) (lls' := [(26, 0), (0, x1), (0, x2), (0, (pj_wr (s0 + s1))), (0, x4)]) rfl (pj_iinc hM (pc := 70) dX12_atRank_70 rfl (by decide) (lls' := [(26, 0), (0, x1), (0, x2), (0, (pj_wr (s0 + s1))), (0, (pj_wr (x4 + 1)))]) rfl (pj_goto hM (pc := 73) dX12_atRank_73 rfl (pj_kill hM [true, true, true, true, true] (lls' := [(26, 0), (0, x1), (0, x2), (0, (pj_wr (s0 + s1))), (0, (pj_wr (x4 + 1)))]) rfl ((hk17 _ hr)))))))
theorem tM_atRank_67 {Go : pj_C → Prop} (hM : pj_M l yX12_atRank cX12_atRank 5 (some .int) 6 137 true g n0 o Go) (x1 : Int) (x2 : Int) (x4 : Int) (s0 : Int) (w : pj_W)  (R : (Int × Int) ⊕ ((Int) ⊕ (Int)) → Prop) (h0 : ∀ r, R (Sum.inr (Sum.inr (r))) → ((some (0, r) : Option pj_V), w) = o) (hk2 : ∀ s, R (Sum.inr (Sum.inl s)) → Go (2, [(26, 0), (0, x1), (0, s), (9, 0), (9, 0)], [], w)) (hk17 : ∀ s, R (Sum.inl s) → Go (17, [(26, 0), (0, x1), (0, x2), (0, s.1), (0, s.2)], [], w)) : pj_TG R (fM_atRank_67 x1 x2 x4 s0 w) (Go (67, [(26, 0), (0, x1), (0, x2), (9, 0), (0, x4)], [(0, s0)], w)) := by
  unfold fM_atRank_67
  refine pj_map (fun k => pj_iconst hM (pc := 67) dX12_atRank_67 (by decide) (pj_kill hM [true, true, true, false, true] (lls' := [(26, 0), (0, x1), (0, x2), (9, 0), (0, x4)]) rfl k)) ?_
  exact tM_atRank_68 hM x1 x2 x4 s0 0 w _ h0 hk2 hk17
theorem tM_atRank_63 {Go : pj_C → Prop} (hM : pj_M l yX12_atRank cX12_atRank 5 (some .int) 6 137 true g n0 o Go) (x1 : Int) (x2 : Int) (x4 : Int) (s0 : Int) (w : pj_W)  (R : (Int × Int) ⊕ ((Int) ⊕ (Int)) → Prop) (h0 : ∀ r, R (Sum.inr (Sum.inr (r))) → ((some (0, r) : Option pj_V), w) = o) (hk2 : ∀ s, R (Sum.inr (Sum.inl s)) → Go (2, [(26, 0), (0, x1), (0, s), (9, 0), (9, 0)], [], w)) (hk17 : ∀ s, R (Sum.inl s) → Go (17, [(26, 0), (0, x1), (0, x2), (0, s.1), (0, s.2)], [], w)) : pj_TG R (fM_atRank_63 x1 x2 x4 s0 w) (Go (63, [(26, 0), (0, x1), (0, x2), (9, 0), (0, x4)], [(0, s0)], w)) := by
  unfold fM_atRank_63
  refine pj_map (fun k => pj_iconst hM (pc := 63) dX12_atRank_63 (by decide) (pj_goto hM (pc := 64) dX12_atRank_64 rfl (pj_kill hM [true, true, true, false, true] (lls' := [(26, 0), (0, x1), (0, x2), (9, 0), (0, x4)]) rfl k))) ?_
  exact tM_atRank_68 hM x1 x2 x4 s0 1 w _ h0 hk2 hk17
theorem tM_atRank_17b {Go : pj_C → Prop} (hM : pj_M l yX12_atRank cX12_atRank 5 (some .int) 6 137 true g n0 o Go) (x1 : Int) (x2 : Int) (w : pj_W) (x3 : Int) (x4 : Int)  (R : (Int × Int) ⊕ ((Int) ⊕ (Int)) → Prop) (h0 : ∀ r, R (Sum.inr (Sum.inr (r))) → ((some (0, r) : Option pj_V), w) = o) (hk2 : ∀ s, R (Sum.inr (Sum.inl s)) → Go (2, [(26, 0), (0, x1), (0, s), (9, 0), (9, 0)], [], w)) (hk17 : ∀ s, R (Sum.inl s) → Go (17, [(26, 0), (0, x1), (0, x2), (0, s.1), (0, s.2)], [], w)) : pj_TG R (fM_atRank_17b x1 x2 w x3 x4) (Go (17, [(26, 0), (0, x1), (0, x2), (0, x3), (0, x4)], [], w)) := by
  unfold fM_atRank_17b
  refine pj_map (fun k => pj_iload hM (pc := 17) dX12_atRank_17 rfl (pj_aload_n hM (pc := 19) dX12_atRank_19 rfl rfl (pj_getF hM (pc := 20) (t := 60) dX12_atRank_20 fl_X12_7 (by decide) rfl rfl (pj_iconst hM (pc := 23) dX12_atRank_23 (by decide) (pj_ial hM (pc := 24) dX12_atRank_24 ki_60 (by decide) (by decide) k))))) ?_
  refine pj_tif (fun h1 => ?_) (fun h1 => ?_)
  · refine pj_map (fun k => pj_ic_ge_t hM (pc := 25) dX12_atRank_25 rfl h1 (pj_iload_n hM (pc := 76) dX12_atRank_76 rfl (pj_iload_n hM (pc := 77) dX12_atRank_77 rfl k))) ?_
    refine pj_tif (fun h2 => ?_) (fun h2 => ?_)
    · exact pj_tret (fun hr => pj_ic_ne_f hM (pc := 78) 83 dX12_atRank_78 rfl (fun q => q h2) (pj_iload_n hM (pc := 81) dX12_atRank_81 rfl (pj_ret hM (pc := 82) dX12_atRank_82 ⟨_, rfl⟩ (h0 (x2) hr) rfl)))
    exact pj_tret (fun hr => pj_ic_ne_t hM (pc := 78) dX12_atRank_78 rfl h2 (pj_iinc hM (pc := 83) dX12_atRank_83 rfl (by decide) (lls' := [(26, 0), (0, x1), (0, (pj_wr (x2 + 1))), (0, x3), (0, x4)]) rfl (pj_goto hM (pc := 86) dX12_atRank_86 rfl (pj_kill hM [true, true, true, false, false] (lls' := [(26, 0), (0, x1), (0, (pj_wr (x2 + 1))), (9, 0), (9, 0)]) rfl ((hk2 _ hr))))))
  refine pj_tbind (fun p3 h4 => ?_)
  refine pj_tbind (fun p5 h6 => ?_)
  refine pj_map (fun k => pj_ic_ge_f hM (pc := 25) 76 dX12_atRank_25 rfl h1 (pj_iload_n hM (pc := 28) dX12_atRank_28 rfl (pj_aload_n hM (pc := 29) dX12_atRank_29 rfl rfl (pj_iload hM (pc := 30) dX12_atRank_30 rfl (pj_cV hM (pc := 32) (cM_leadOf x4 w p3 h4) dX12_atRank_32 mf_X12_leadOf mv_X12_leadOf ml_X12_352 kc_26 rfl rfl (by decide) rfl rfl (pj_aload_n hM (pc := 35) dX12_atRank_35 rfl rfl (pj_iload_n hM (pc := 36) dX12_atRank_36 rfl (pj_cV hM (pc := 37) (cM_leadOf x2 w p5 h6) dX12_atRank_37 mf_X12_leadOf mv_X12_leadOf ml_X12_352 kc_26 rfl rfl (by decide) rfl rfl k)))))))) ?_
  refine pj_tif (fun h7 => ?_) (fun h7 => ?_)
  · refine pj_map (fun k => pj_ic_gt_t hM (pc := 40) dX12_atRank_40 rfl h7 (pj_kill hM [true, true, true, false, true] (lls' := [(26, 0), (0, x1), (0, x2), (9, 0), (0, x4)]) rfl k)) ?_
    exact tM_atRank_63 hM x1 x2 x4 x3 w _ h0 hk2 hk17
  refine pj_tbind (fun p8 h9 => ?_)
  refine pj_tbind (fun p10 h11 => ?_)
  refine pj_map (fun k => pj_ic_gt_f hM (pc := 40) 63 dX12_atRank_40 rfl h7 (pj_aload_n hM (pc := 43) dX12_atRank_43 rfl rfl (pj_iload hM (pc := 44) dX12_atRank_44 rfl (pj_cV hM (pc := 46) (cM_leadOf x4 w p8 h9) dX12_atRank_46 mf_X12_leadOf mv_X12_leadOf ml_X12_352 kc_26 rfl rfl (by decide) rfl rfl (pj_aload_n hM (pc := 49) dX12_atRank_49 rfl rfl (pj_iload_n hM (pc := 50) dX12_atRank_50 rfl (pj_cV hM (pc := 51) (cM_leadOf x2 w p10 h11) dX12_atRank_51 mf_X12_leadOf mv_X12_leadOf ml_X12_352 kc_26 rfl rfl (by decide) rfl rfl k))))))) ?_
  refine pj_tif (fun h12 => ?_) (fun h12 => ?_)
  · refine pj_map (fun k => pj_ic_ne_f hM (pc := 54) 67 dX12_atRank_54 rfl (fun q => q h12) (pj_iload hM (pc := 57) dX12_atRank_57 rfl (pj_iload_n hM (pc := 59) dX12_atRank_59 rfl k))) ?_
    refine pj_tif (fun h13 => ?_) (fun h13 => ?_)
    · refine pj_map (fun k => pj_ic_ge_t hM (pc := 60) dX12_atRank_60 rfl h13 (pj_kill hM [true, true, true, false, true] (lls' := [(26, 0), (0, x1), (0, x2), (9, 0), (0, x4)]) rfl k)) ?_
      exact tM_atRank_67 hM x1 x2 x4 x3 w _ h0 hk2 hk17
    refine pj_map (fun k => pj_ic_ge_f hM (pc := 60) 67 dX12_atRank_60 rfl h13 (pj_kill hM [true, true, true, false, true] (lls' := [(26, 0), (0, x1), (0, x2), (9, 0), (0, x4)]) rfl k)) ?_
    exact tM_atRank_63 hM x1 x2 x4 x3 w _ h0 hk2 hk17
  refine pj_map (fun k => pj_ic_ne_t hM (pc := 54) dX12_atRank_54 rfl h12 (pj_kill hM [true, true, true, false, true] (lls' := [(26, 0), (0, x1), (0, x2), (9, 0), (0, x4)]) rfl k)) ?_
  exact tM_atRank_67 hM x1 x2 x4 x3 w _ h0 hk2 hk17
theorem tM_atRank_17 {Go : pj_C → Prop} (hM : pj_M l yX12_atRank cX12_atRank 5 (some .int) 6 137 true g n0 o Go) (x1 : Int) (x2 : Int) (w : pj_W)  (R : (Int) ⊕ (Int) → Prop) (h0 : ∀ r, R (Sum.inr (r)) → ((some (0, r) : Option pj_V), w) = o) (hk2 : ∀ s, R (Sum.inl s) → Go (2, [(26, 0), (0, x1), (0, s), (9, 0), (9, 0)], [], w)) (s : (Int × Int)) : pj_TG R (fM_atRank_17 x1 x2 w s) (Go (17, [(26, 0), (0, x1), (0, x2), (0, s.1), (0, s.2)], [], w)) := by
  unfold fM_atRank_17
  exact pj_tLp (G := fun s : (Int × Int) => Go (17, [(26, 0), (0, x1), (0, x2), (0, s.1), (0, s.2)], [], w)) (fun s => tM_atRank_17b hM x1 x2 w s.1 s.2  _ (fun r h => h0 r h) (fun s h => hk2 s h) (fun s h => h)) s
theorem tM_atRank_2b {Go : pj_C → Prop} (hM : pj_M l yX12_atRank cX12_atRank 5 (some .int) 6 137 true g n0 o Go) (x1 : Int) (w : pj_W) (x2 : Int)  (R : (Int) ⊕ (Int) → Prop) (h0 : ∀ r, R (Sum.inr (r)) → ((some (0, r) : Option pj_V), w) = o) (hk2 : ∀ s, R (Sum.inl s) → Go (2, [(26, 0), (0, x1), (0, s), (9, 0), (9, 0)], [], w)) : pj_TG R (fM_atRank_2b x1 w x2) (Go (2, [(26, 0), (0, x1), (0, x2), (9, 0), (9, 0)], [], w)) := by
  unfold fM_atRank_2b
  refine pj_map (fun k => pj_iload_n hM (pc := 2) dX12_atRank_2 rfl (pj_aload_n hM (pc := 3) dX12_atRank_3 rfl rfl (pj_getF hM (pc := 4) (t := 60) dX12_atRank_4 fl_X12_7 (by decide) rfl rfl (pj_iconst hM (pc := 7) dX12_atRank_7 (by decide) (pj_ial hM (pc := 8) dX12_atRank_8 ki_60 (by decide) (by decide) k))))) ?_
  refine pj_tif (fun h1 => ?_) (fun h1 => ?_)
  · exact pj_tret (fun hr => pj_ic_ge_t hM (pc := 9) dX12_atRank_9 rfl h1 (pj_iconst hM (pc := 89) dX12_atRank_89 (by decide) (pj_ret hM (pc := 90) dX12_atRank_90 ⟨_, rfl⟩ (h0 ((-1)) hr) rfl)))
  refine pj_map (fun k => pj_ic_ge_f hM (pc := 9) 89 dX12_atRank_9 rfl h1 (pj_iconst hM (pc := 12) dX12_atRank_12 (by decide) (pj_istore_n hM (pc := 13) dX12_atRank_13 (by decide) (lls' := [(26, 0), (0, x1), (0, x2), (0, 0), (9, 0)]) rfl (pj_iconst hM (pc := 14) dX12_atRank_14 (by decide) (pj_istore hM (pc := 15) dX12_atRank_15 (by decide) (lls' := [(26, 0), (0, x1), (0, x2), (0, 0), (0, 0)]) rfl (pj_kill hM [true, true, true, true, true] (lls' := [(26, 0), (0, x1), (0, x2), (0, 0), (0, 0)]) rfl k)))))) ?_
  exact tM_atRank_17 hM x1 x2 w _ h0 hk2 _
theorem tM_atRank_2 {Go : pj_C → Prop} (hM : pj_M l yX12_atRank cX12_atRank 5 (some .int) 6 137 true g n0 o Go) (x1 : Int) (w : pj_W)  (R : Int → Prop) (h0 : ∀ r, R (r) → ((some (0, r) : Option pj_V), w) = o) (s : (Int)) : pj_TG R (fM_atRank_2 x1 w s) (Go (2, [(26, 0), (0, x1), (0, s), (9, 0), (9, 0)], [], w)) := by
  unfold fM_atRank_2
  exact pj_tLp (G := fun s : (Int) => Go (2, [(26, 0), (0, x1), (0, s), (9, 0), (9, 0)], [], w)) (fun s => tM_atRank_2b hM x1 w s  _ (fun r h => h0 r h)  (fun s h => h)) s
theorem tM_atRank {Go : pj_C → Prop} (hM : pj_M l yX12_atRank cX12_atRank 5 (some .int) 6 137 true g n0 o Go) (x1 : Int) (w : pj_W)  (R : Int → Prop) (h0 : ∀ r, R (r) → ((some (0, r) : Option pj_V), w) = o) : pj_TG R (fM_atRank x1 w) (Go (0, [(26, 0), (0, x1), (9, 0), (9, 0), (9, 0)], [], w)) := by
  unfold fM_atRank
  refine pj_map (fun k => pj_iconst hM (pc := 0) dX12_atRank_0 (by decide) (pj_istore_n hM (pc := 1) dX12_atRank_1 (by decide) (lls' := [(26, 0), (0, x1), (0, 0), (9, 0), (9, 0)]) rfl (pj_kill hM [true, true, true, false, false] (lls' := [(26, 0), (0, x1), (0, 0), (9, 0), (9, 0)]) rfl k))) ?_
  exact tM_atRank_2 hM x1 w _ h0 _
theorem cM_atRank (x1 : Int)  (w : pj_W) (r : Int) (h : fM_atRank x1 w = some r) : pj_Cn l yX12_atRank cX12_atRank 5 (some .int) 6 137 true g [(26, 0), (0, x1)] w ((some (0, r) : Option pj_V), w) :=
  pj_Cn_of rfl (Nat.le_of_ble_eq_true rfl) (lls := [(26, 0), (0, x1), (9, 0), (9, 0), (9, 0)]) rfl (fun Go hM => tM_atRank hM x1 w (fun x => ((some (0, x) : Option pj_V), w) = ((some (0, r) : Option pj_V), w)) (fun r h => h) r h rfl)
noncomputable def fM_isFinder (x1 : Int) (w : pj_W) : Option (Int) :=
  if x1 < 0 then (some (0)) else (if (w 60 0 1) ≤ x1 then (some (0)) else (some (1)))
theorem tM_isFinder {Go : pj_C → Prop} (hM : pj_M l yX12_isFinder cX12_isFinder 2 (some .boolean) 0 0 true g n0 o Go) (x1 : Int) (w : pj_W)  (R : Int → Prop) (h0 : ∀ r, R (r) → ((some (0, r) : Option pj_V), w) = o) : pj_TG R (fM_isFinder x1 w) (Go (0, [(26, 0), (0, x1)], [], w)) := by
  unfold fM_isFinder
  refine pj_map (fun k => pj_iload_n hM (pc := 0) dX12_isFinder_0 rfl k) ?_
  refine pj_tif (fun h1 => ?_) (fun h1 => ?_)
  · exact pj_tret (fun hr => pj_if_lt_t hM (pc := 1) dX12_isFinder_1 rfl h1 (pj_iconst hM (pc := 18) dX12_isFinder_18 (by decide) (pj_ret hM (pc := 19) dX12_isFinder_19 ⟨_, rfl, Or.inl rfl⟩ (h0 (0) hr) rfl)))
  refine pj_map (fun k => pj_if_lt_f hM (pc := 1) 18 dX12_isFinder_1 rfl h1 (pj_iload_n hM (pc := 4) dX12_isFinder_4 rfl (pj_aload_n hM (pc := 5) dX12_isFinder_5 rfl rfl (pj_getF hM (pc := 6) (t := 60) dX12_isFinder_6 fl_X12_7 (by decide) rfl rfl (pj_iconst hM (pc := 9) dX12_isFinder_9 (by decide) (pj_ial hM (pc := 10) dX12_isFinder_10 ki_60 (by decide) (by decide) k)))))) ?_
  refine pj_tif (fun h2 => ?_) (fun h2 => ?_)
  · exact pj_tret (fun hr => pj_ic_ge_t hM (pc := 11) dX12_isFinder_11 rfl h2 (pj_iconst hM (pc := 18) dX12_isFinder_18 (by decide) (pj_ret hM (pc := 19) dX12_isFinder_19 ⟨_, rfl, Or.inl rfl⟩ (h0 (0) hr) rfl)))
  exact pj_tret (fun hr => pj_ic_ge_f hM (pc := 11) 18 dX12_isFinder_11 rfl h2 (pj_iconst hM (pc := 14) dX12_isFinder_14 (by decide) (pj_goto hM (pc := 15) dX12_isFinder_15 rfl (pj_ret hM (pc := 19) dX12_isFinder_19 ⟨_, rfl, Or.inr rfl⟩ (h0 (1) hr) rfl))))
theorem cM_isFinder (x1 : Int)  (w : pj_W) (r : Int) (h : fM_isFinder x1 w = some r) : pj_Cn l yX12_isFinder cX12_isFinder 2 (some .boolean) 0 0 true g [(26, 0), (0, x1)] w ((some (0, r) : Option pj_V), w) :=
  pj_Cn_of rfl (Nat.le_of_ble_eq_true rfl) (lls := [(26, 0), (0, x1)]) rfl (fun Go hM => tM_isFinder hM x1 w (fun x => ((some (0, x) : Option pj_V), w) = ((some (0, r) : Option pj_V), w)) (fun r h => h) r h rfl)
noncomputable def fM_behind (x1 : Int) (w : pj_W) : Option (Int × pj_W) :=
  (fM_isFinder x1 w).bind fun p1 => (if p1 = 0 then ((fM_refuse 1 w).bind fun p4 => (some ((p4.1, p4.2)))) else ((fM_atRank 0 w).bind fun p6 => ((fM_leadOf p6 w).bind fun p8 => ((fM_leadOf x1 w).bind fun p10 => ((fM_gives (pj_wr (p8 - p10)) w).bind fun p12 => (some ((p12.1, p12.2))))))))
theorem tM_behind {Go : pj_C → Prop} (hM : pj_M l yX12_behind cX12_behind 2 (some .int) 7 161 true g n0 o Go) (x1 : Int) (w : pj_W)  (R : Int × pj_W → Prop) (h0 : ∀ r, R (r) → ((some (0, r.1) : Option pj_V), r.2) = o) : pj_TG R (fM_behind x1 w) (Go (0, [(26, 0), (0, x1)], [], w)) := by
  unfold fM_behind
  refine pj_tbind (fun p1 h2 => ?_)
  refine pj_map (fun k => pj_aload_n hM (pc := 0) dX12_behind_0 rfl rfl (pj_iload_n hM (pc := 1) dX12_behind_1 rfl (pj_cV hM (pc := 2) (cM_isFinder x1 w p1 h2) dX12_behind_2 mf_X12_isFinder mv_X12_isFinder ml_X12_271 kc_26 rfl rfl (by decide) rfl rfl k))) ?_
  refine pj_tif (fun h3 => ?_) (fun h3 => ?_)
  · refine pj_tbind (fun p4 h5 => ?_)
    exact pj_tret (fun hr => pj_if_eq_t hM (pc := 5) dX12_behind_5 rfl h3 (pj_aload_n hM (pc := 30) dX12_behind_30 rfl rfl (pj_iconst hM (pc := 31) dX12_behind_31 (by decide) (pj_cV hM (pc := 32) (cM_refuse 1 w p4 h5) dX12_behind_32 mf_X12_refuse mv_X12_refuse ml_X12_78 kc_26 rfl rfl (by decide) rfl rfl (pj_ret hM (pc := 35) dX12_behind_35 ⟨_, rfl⟩ (h0 ((p4.1, p4.2)) hr) rfl)))))
  refine pj_tbind (fun p6 h7 => ?_)
  refine pj_tbind (fun p8 h9 => ?_)
  refine pj_tbind (fun p10 h11 => ?_)
  refine pj_tbind (fun p12 h13 => ?_)
  exact pj_tret (fun hr => pj_if_eq_f hM (pc := 5) 30 dX12_behind_5 rfl h3 (pj_aload_n hM (pc := 8) dX12_behind_8 rfl rfl (pj_aload_n hM (pc := 9) dX12_behind_9 rfl rfl (pj_aload_n hM (pc := 10) dX12_behind_10 rfl rfl (pj_iconst hM (pc := 11) dX12_behind_11 (by decide) (pj_cV hM (pc := 12) (cM_atRank 0 w p6 h7) dX12_behind_12 mf_X12_atRank mv_X12_atRank ml_X12_355 kc_26 rfl rfl (by decide) rfl rfl (pj_cV hM (pc := 15) (cM_leadOf p6 w p8 h9) dX12_behind_15 mf_X12_leadOf mv_X12_leadOf ml_X12_352 kc_26 rfl rfl (by decide) rfl rfl (pj_aload_n hM (pc := 18) dX12_behind_18 rfl rfl (pj_iload_n hM (pc := 19) dX12_behind_19 rfl (pj_cV hM (pc := 20) (cM_leadOf x1 w p10 h11) dX12_behind_20 mf_X12_leadOf mv_X12_leadOf ml_X12_352 kc_26 rfl rfl (by decide) rfl rfl (pj_isub hM (pc := 23) dX12_behind_23 (pj_cV hM (pc := 24) (cM_gives (pj_wr (p8 - p10)) w p12 h13) dX12_behind_24 mf_X12_gives mv_X12_gives ml_X12_82 kc_26 rfl rfl (by decide) rfl rfl (pj_goto hM (pc := 27) dX12_behind_27 rfl (pj_ret hM (pc := 35) dX12_behind_35 ⟨_, rfl⟩ (h0 ((p12.1, p12.2)) hr) rfl))))))))))))))
theorem cM_behind (x1 : Int)  (w : pj_W) (r : Int × pj_W) (h : fM_behind x1 w = some r) : pj_Cn l yX12_behind cX12_behind 2 (some .int) 7 161 true g [(26, 0), (0, x1)] w ((some (0, r.1) : Option pj_V), r.2) :=
  pj_Cn_of rfl (Nat.le_of_ble_eq_true rfl) (lls := [(26, 0), (0, x1)]) rfl (fun Go hM => tM_behind hM x1 w (fun x => ((some (0, x.1) : Option pj_V), x.2) = ((some (0, r.1) : Option pj_V), r.2)) (fun r h => h) r h rfl)
noncomputable def fM_behindOthers_40 (x1 : Int) (x2 : Int) (x3 : Int) (x4 : Int) (w : pj_W) : Option ((Int × Int) ⊕ (Int)) :=
  some (Sum.inl (x3, (pj_wr (x4 + 1))))
noncomputable def fM_behindOthers_5b (x1 : Int) (x2 : Int) (w : pj_W) (x3 : Int) (x4 : Int) : Option ((Int × Int) ⊕ (Int)) :=
  (fM_manyOn x2 w).bind fun p1 => (if p1 ≤ x4 then (some (Sum.inr (x3))) else ((fM_whoAt x2 x4 w).bind fun p4 => (if p4 = x1 then (fM_behindOthers_40 x1 x2 x3 x4 w) else ((fM_minuteAt x2 x4 w).bind fun p7 => (fM_behindOthers_40 x1 x2 (max x3 (pj_wr (p7 + 1))) x4 w)))))
noncomputable def fM_behindOthers_5 (x1 : Int) (x2 : Int) (w : pj_W) (s : (Int × Int)) : Option (Int) := pj_Lp (fun s : (Int × Int) => fM_behindOthers_5b x1 x2 w s.1 s.2) s
noncomputable def fM_behindOthers (x1 : Int) (x2 : Int) (w : pj_W) : Option (Int) :=
  fM_behindOthers_5 x1 x2 w (0, 0)
theorem tM_behindOthers_40 {Go : pj_C → Prop} (hM : pj_M l yX12_behindOthers cX12_behindOthers 5 (some .int) 2 44 true g n0 o Go) (x1 : Int) (x2 : Int) (x3 : Int) (x4 : Int) (w : pj_W)  (R : (Int × Int) ⊕ (Int) → Prop) (h0 : ∀ r, R (Sum.inr (r)) → ((some (0, r) : Option pj_V), w) = o) (hk5 : ∀ s, R (Sum.inl s) → Go (5, [(26, 0), (0, x1), (0, x2), (0, s.1), (0, s.2)], [], w)) : pj_TG R (fM_behindOthers_40 x1 x2 x3 x4 w) (Go (40, [(26, 0), (0, x1), (0, x2), (0, x3), (0, x4)], [], w)) := by
  unfold fM_behindOthers_40
  exact pj_tret (fun hr => pj_iinc hM (pc := 40) dX12_behindOthers_40 rfl (by decide) (lls' := [(26, 0), (0, x1), (0, x2), (0, x3), (0, (pj_wr (x4 + 1)))]) rfl (pj_goto hM (pc := 43) dX12_behindOthers_43 rfl (pj_kill hM [true, true, true, true, true] (lls' := [(26, 0), (0, x1), (0, x2), (0, x3), (0, (pj_wr (x4 + 1)))]) rfl ((hk5 _ hr)))))
theorem tM_behindOthers_5b {Go : pj_C → Prop} (hM : pj_M l yX12_behindOthers cX12_behindOthers 5 (some .int) 2 44 true g n0 o Go) (x1 : Int) (x2 : Int) (w : pj_W) (x3 : Int) (x4 : Int)  (R : (Int × Int) ⊕ (Int) → Prop) (h0 : ∀ r, R (Sum.inr (r)) → ((some (0, r) : Option pj_V), w) = o) (hk5 : ∀ s, R (Sum.inl s) → Go (5, [(26, 0), (0, x1), (0, x2), (0, s.1), (0, s.2)], [], w)) : pj_TG R (fM_behindOthers_5b x1 x2 w x3 x4) (Go (5, [(26, 0), (0, x1), (0, x2), (0, x3), (0, x4)], [], w)) := by
  unfold fM_behindOthers_5b
  refine pj_tbind (fun p1 h2 => ?_)
  refine pj_map (fun k => pj_iload hM (pc := 5) dX12_behindOthers_5 rfl (pj_aload_n hM (pc := 7) dX12_behindOthers_7 rfl rfl (pj_iload_n hM (pc := 8) dX12_behindOthers_8 rfl (pj_cV hM (pc := 9) (cM_manyOn x2 w p1 h2) dX12_behindOthers_9 mf_X12_manyOn mv_X12_manyOn ml_X12_277 kc_26 rfl rfl (by decide) rfl rfl k)))) ?_
  refine pj_tif (fun h3 => ?_) (fun h3 => ?_)
  · exact pj_tret (fun hr => pj_ic_ge_t hM (pc := 12) dX12_behindOthers_12 rfl h3 (pj_iload_n hM (pc := 46) dX12_behindOthers_46 rfl (pj_ret hM (pc := 47) dX12_behindOthers_47 ⟨_, rfl⟩ (h0 (x3) hr) rfl)))
  refine pj_tbind (fun p4 h5 => ?_)
  refine pj_map (fun k => pj_ic_ge_f hM (pc := 12) 46 dX12_behindOthers_12 rfl h3 (pj_aload_n hM (pc := 15) dX12_behindOthers_15 rfl rfl (pj_iload_n hM (pc := 16) dX12_behindOthers_16 rfl (pj_iload hM (pc := 17) dX12_behindOthers_17 rfl (pj_cV hM (pc := 19) (cM_whoAt x2 x4 w p4 h5) dX12_behindOthers_19 mf_X12_whoAt mv_X12_whoAt ml_X12_308 kc_26 rfl rfl (by decide) rfl rfl (pj_iload_n hM (pc := 22) dX12_behindOthers_22 rfl k)))))) ?_
  refine pj_tif (fun h6 => ?_) (fun h6 => ?_)
  · refine pj_map (fun k => pj_ic_eq_t hM (pc := 23) dX12_behindOthers_23 rfl h6 (pj_kill hM [true, true, true, true, true] (lls' := [(26, 0), (0, x1), (0, x2), (0, x3), (0, x4)]) rfl k)) ?_
    exact tM_behindOthers_40 hM x1 x2 x3 x4 w _ h0 hk5
  refine pj_tbind (fun p7 h8 => ?_)
  refine pj_map (fun k => pj_ic_eq_f hM (pc := 23) 40 dX12_behindOthers_23 rfl h6 (pj_iload_n hM (pc := 26) dX12_behindOthers_26 rfl (pj_aload_n hM (pc := 27) dX12_behindOthers_27 rfl rfl (pj_iload_n hM (pc := 28) dX12_behindOthers_28 rfl (pj_iload hM (pc := 29) dX12_behindOthers_29 rfl (pj_cV hM (pc := 31) (cM_minuteAt x2 x4 w p7 h8) dX12_behindOthers_31 mf_X12_minuteAt mv_X12_minuteAt ml_X12_314 kc_26 rfl rfl (by decide) rfl rfl (pj_iconst hM (pc := 34) dX12_behindOthers_34 (by decide) (pj_iadd hM (pc := 35) dX12_behindOthers_35 (pj_mmax hM (pc := 36) dX12_behindOthers_36 mf_J9_max_7cf53 ms_J9_max_7cf53 ml_X12_375 rfl (pj_istore_n hM (pc := 39) dX12_behindOthers_39 (by decide) (lls' := [(26, 0), (0, x1), (0, x2), (0, (max x3 (pj_wr (p7 + 1)))), (0, x4)]) rfl (pj_kill hM [true, true, true, true, true] (lls' := [(26, 0), (0, x1), (0, x2), (0, (max x3 (pj_wr (p7 + 1)))), (0, x4)]) rfl k))))))))))) ?_
  exact tM_behindOthers_40 hM x1 x2 (max x3 (pj_wr (p7 + 1))) x4 w _ h0 hk5
theorem tM_behindOthers_5 {Go : pj_C → Prop} (hM : pj_M l yX12_behindOthers cX12_behindOthers 5 (some .int) 2 44 true g n0 o Go) (x1 : Int) (x2 : Int) (w : pj_W)  (R : Int → Prop) (h0 : ∀ r, R (r) → ((some (0, r) : Option pj_V), w) = o) (s : (Int × Int)) : pj_TG R (fM_behindOthers_5 x1 x2 w s) (Go (5, [(26, 0), (0, x1), (0, x2), (0, s.1), (0, s.2)], [], w)) := by
  unfold fM_behindOthers_5
  exact pj_tLp (G := fun s : (Int × Int) => Go (5, [(26, 0), (0, x1), (0, x2), (0, s.1), (0, s.2)], [], w)) (fun s => tM_behindOthers_5b hM x1 x2 w s.1 s.2  _ (fun r h => h0 r h)  (fun s h => h)) s
theorem tM_behindOthers {Go : pj_C → Prop} (hM : pj_M l yX12_behindOthers cX12_behindOthers 5 (some .int) 2 44 true g n0 o Go) (x1 : Int) (x2 : Int) (w : pj_W)  (R : Int → Prop) (h0 : ∀ r, R (r) → ((some (0, r) : Option pj_V), w) = o) : pj_TG R (fM_behindOthers x1 x2 w) (Go (0, [(26, 0), (0, x1), (0, x2), (9, 0), (9, 0)], [], w)) := by
  unfold fM_behindOthers
  refine pj_map (fun k => pj_iconst hM (pc := 0) dX12_behindOthers_0 (by decide) (pj_istore_n hM (pc := 1) dX12_behindOthers_1 (by decide) (lls' := [(26, 0), (0, x1), (0, x2), (0, 0), (9, 0)]) rfl (pj_iconst hM (pc := 2) dX12_behindOthers_2 (by decide) (pj_istore hM (pc := 3) dX12_behindOthers_3 (by decide) (lls' := [(26, 0), (0, x1), (0, x2), (0, 0), (0, 0)]) rfl (pj_kill hM [true, true, true, true, true] (lls' := [(26, 0), (0, x1), (0, x2), (0, 0), (0, 0)]) rfl k))))) ?_
  exact tM_behindOthers_5 hM x1 x2 w _ h0 _
theorem cM_behindOthers (x1 : Int) (x2 : Int)  (w : pj_W) (r : Int) (h : fM_behindOthers x1 x2 w = some r) : pj_Cn l yX12_behindOthers cX12_behindOthers 5 (some .int) 2 44 true g [(26, 0), (0, x1), (0, x2)] w ((some (0, r) : Option pj_V), w) :=
  pj_Cn_of rfl (Nat.le_of_ble_eq_true rfl) (lls := [(26, 0), (0, x1), (0, x2), (9, 0), (9, 0)]) rfl (fun Go hM => tM_behindOthers hM x1 x2 w (fun x => ((some (0, x) : Option pj_V), w) = ((some (0, r) : Option pj_V), w)) (fun r h => h) r h rfl)
noncomputable def fM_finderRow (x0 : Int) (w : pj_W) : Option (Int) :=
  some ((pj_wr (10 + (pj_wr (5 * x0)))))
theorem tM_finderRow {Go : pj_C → Prop} (hM : pj_M l yX12_finderRow cX12_finderRow 1 (some .int) 0 0 ph g n0 o Go) (x0 : Int) (w : pj_W)  (R : Int → Prop) (h0 : ∀ r, R (r) → ((some (0, r) : Option pj_V), w) = o) : pj_TG R (fM_finderRow x0 w) (Go (0, [(0, x0)], [], w)) := by
  unfold fM_finderRow
  exact pj_tret (fun hr => pj_bipush hM (pc := 0) dX12_finderRow_0 (by decide) (pj_iconst hM (pc := 2) dX12_finderRow_2 (by decide) (pj_iload_n hM (pc := 3) dX12_finderRow_3 rfl (pj_imul hM (pc := 4) dX12_finderRow_4 (pj_iadd hM (pc := 5) dX12_finderRow_5 (pj_ret hM (pc := 6) dX12_finderRow_6 ⟨_, rfl⟩ (h0 ((pj_wr (10 + (pj_wr (5 * x0))))) hr) rfl))))))
theorem cM_finderRow (x0 : Int)  (w : pj_W) (r : Int) (h : fM_finderRow x0 w = some r) : pj_Cn l yX12_finderRow cX12_finderRow 1 (some .int) 0 0 ph g [(0, x0)] w ((some (0, r) : Option pj_V), w) :=
  pj_Cn_of rfl (Nat.le_of_ble_eq_true rfl) (lls := [(0, x0)]) rfl (fun Go hM => tM_finderRow hM x0 w (fun x => ((some (0, x) : Option pj_V), w) = ((some (0, r) : Option pj_V), w)) (fun r h => h) r h rfl)
noncomputable def fM_rounds_246 (x1 : Int) (x2 : Int) (x3 : Int) (x4 : Int) (x5 : Int) (x6 : Int) (x7 : Int) (x8 : Int) (x9 : Int) (x10 : Int) (w : pj_W) : Option ((Int × pj_W) ⊕ ((Int × Int × Int × Int × pj_W) ⊕ (Int × pj_W))) :=
  some (Sum.inl ((pj_wr (x8 + 1)), w))
noncomputable def fM_rounds_385 (x1 : Int) (x2 : Int) (x3 : Int) (x4 : Int) (x5 : Int) (x6 : Int) (x7 : Int) (w : pj_W) : Option ((Int × Int × Int × Int × pj_W) ⊕ (Int × pj_W)) :=
  if 0 ≤ (pj_wr (x7 + 1)) ∧ (pj_wr (x7 + 1)) < 9 then (some (Sum.inl (x4, x5, x6, (pj_wr (x7 + 1)), (pj_set w 68 0 (pj_wr (x7 + 1)) (-1))))) else none
noncomputable def fM_rounds_276 (x1 : Int) (x2 : Int) (x3 : Int) (x4 : Int) (x5 : Int) (x6 : Int) (x7 : Int) (w : pj_W) : Option ((Int × Int × Int × Int × pj_W) ⊕ (Int × pj_W)) :=
  some (Sum.inl (x4, x5, x6, (pj_wr (x7 + (-1))), w))
noncomputable def fM_rounds_358b (x1 : Int) (x2 : Int) (x3 : Int) (x4 : Int) (x5 : Int) (x6 : Int) (x7 : Int) (x11 : Int) (w : pj_W) : Option ((Int × pj_W) ⊕ ((Int × Int × Int × Int × pj_W) ⊕ (Int × pj_W))) :=
  if x7 < x11 then ((fM_rounds_385 x1 x2 x3 x4 x5 x6 x7 w).map Sum.inr) else (if 0 ≤ x11 ∧ x11 < 9 then (if 0 ≤ x11 ∧ x11 < 8 then (some (Sum.inl ((pj_wr (x11 + 1)), (pj_set w 70 0 x11 (w 68 0 x11))))) else none) else none)
noncomputable def fM_rounds_358 (x1 : Int) (x2 : Int) (x3 : Int) (x4 : Int) (x5 : Int) (x6 : Int) (x7 : Int) (s : (Int × pj_W)) : Option ((Int × Int × Int × Int × pj_W) ⊕ (Int × pj_W)) := pj_Lp (fun s : (Int × pj_W) => fM_rounds_358b x1 x2 x3 x4 x5 x6 x7 s.1 s.2) s
noncomputable def fM_rounds_343 (x1 : Int) (x2 : Int) (x3 : Int) (x5 : Int) (x6 : Int) (x7 : Int) (w : pj_W) : Option ((Int × Int × Int × Int × pj_W) ⊕ (Int × pj_W)) :=
  fM_rounds_358 x1 x2 x3 x5 x5 x6 x7 (0, (pj_set w 26 0 29 (pj_wr (x7 + 1))))
noncomputable def fM_rounds_252 (x1 : Int) (x2 : Int) (x3 : Int) (x4 : Int) (x5 : Int) (x6 : Int) (x7 : Int) (x8 : Int) (w : pj_W) : Option ((Int × Int × Int × Int × pj_W) ⊕ (Int × pj_W)) :=
  if x8 = (w 60 0 2) then (fM_rounds_276 x1 x2 x3 x4 x5 x6 x7 w) else (if 0 ≤ (pj_wr (x3 + 2)) ∧ (pj_wr (x3 + 2)) < 8400 then (if x7 = (w 60 0 (pj_wr (x3 + 2))) then (fM_rounds_276 x1 x2 x3 x4 x5 x6 x7 w) else (if 0 ≤ x7 ∧ x7 < 9 then ((fM_findRow 0 x8 (pj_set w 68 0 x7 x8)).bind fun p5 => (if 0 ≤ (pj_wr (p5 + 1)) ∧ (pj_wr (p5 + 1)) < 8400 then (if x4 < (pj_wr (x5 + ((pj_set w 68 0 x7 x8) 60 0 (pj_wr (p5 + 1))))) then (fM_rounds_343 x1 x2 x3 (pj_wr (x5 + ((pj_set w 68 0 x7 x8) 60 0 (pj_wr (p5 + 1))))) (pj_or x6 (pj_shl 1 x8)) x7 (pj_set w 68 0 x7 x8)) else (if (pj_wr (x5 + ((pj_set w 68 0 x7 x8) 60 0 (pj_wr (p5 + 1))))) = x4 then (if ((pj_set w 68 0 x7 x8) 26 0 29) ≤ (pj_wr (x7 + 1)) then (fM_rounds_385 x1 x2 x3 x4 (pj_wr (x5 + ((pj_set w 68 0 x7 x8) 60 0 (pj_wr (p5 + 1))))) (pj_or x6 (pj_shl 1 x8)) x7 (pj_set w 68 0 x7 x8)) else (fM_rounds_343 x1 x2 x3 (pj_wr (x5 + ((pj_set w 68 0 x7 x8) 60 0 (pj_wr (p5 + 1))))) (pj_or x6 (pj_shl 1 x8)) x7 (pj_set w 68 0 x7 x8))) else (fM_rounds_385 x1 x2 x3 x4 (pj_wr (x5 + ((pj_set w 68 0 x7 x8) 60 0 (pj_wr (p5 + 1))))) (pj_or x6 (pj_shl 1 x8)) x7 (pj_set w 68 0 x7 x8)))) else none)) else none)) else none)
noncomputable def fM_rounds_156b (x1 : Int) (x2 : Int) (x3 : Int) (x4 : Int) (x5 : Int) (x6 : Int) (x7 : Int) (x9 : Int) (x10 : Int) (x8 : Int) (w : pj_W) : Option ((Int × pj_W) ⊕ ((Int × Int × Int × Int × pj_W) ⊕ (Int × pj_W))) :=
  if (w 60 0 2) ≤ x8 then ((fM_rounds_252 x1 x2 x3 x4 x5 x6 x7 x8 w).map Sum.inr) else (if 0 ≤ (pj_wr (x3 + 1)) ∧ (pj_wr (x3 + 1)) < 8400 then ((fM_findRow 0 x8 w).bind fun p3 => (if 0 ≤ p3 ∧ p3 < 8400 then ((fM_behindOthers x1 x8 w).bind fun p6 => (if 0 ≤ x7 ∧ x7 < 9 then ((some (pj_set w 69 0 x7 (max (pj_wr (x10 + (pj_wr ((w 60 0 (pj_wr (x3 + 1))) * (pj_abs (pj_wr (x9 - (w 60 0 p3)))))))) p6))).bind fun w9 => ((fM_isThere x8 w9).bind fun p10 => (if p10 = 0 then (fM_rounds_246 x1 x2 x3 x4 x5 x6 x7 x8 x9 x10 w9) else (if (pj_and (pj_shr x6 x8) 1) = 0 then (if x2 < (w9 69 0 x7) then (fM_rounds_246 x1 x2 x3 x4 x5 x6 x7 x8 x9 x10 w9) else ((fM_rounds_252 x1 x2 x3 x4 x5 x6 x7 x8 w9).map Sum.inr)) else (fM_rounds_246 x1 x2 x3 x4 x5 x6 x7 x8 x9 x10 w9))))) else none)) else none)) else none)
noncomputable def fM_rounds_156 (x1 : Int) (x2 : Int) (x3 : Int) (x4 : Int) (x5 : Int) (x6 : Int) (x7 : Int) (x9 : Int) (x10 : Int) (s : (Int × pj_W)) : Option ((Int × Int × Int × Int × pj_W) ⊕ (Int × pj_W)) := pj_Lp (fun s : (Int × pj_W) => fM_rounds_156b x1 x2 x3 x4 x5 x6 x7 x9 x10 s.1 s.2) s
noncomputable def fM_rounds_154 (x1 : Int) (x2 : Int) (x3 : Int) (x4 : Int) (x5 : Int) (x6 : Int) (x7 : Int) (x8 : Int) (x9 : Int) (s0 : Int) (w : pj_W) : Option ((Int × Int × Int × Int × pj_W) ⊕ (Int × pj_W)) :=
  fM_rounds_156 x1 x2 x3 x4 x5 x6 x7 x9 s0 (x8, w)
noncomputable def fM_rounds_127 (x1 : Int) (x2 : Int) (x3 : Int) (x4 : Int) (x5 : Int) (x6 : Int) (x7 : Int) (x8 : Int) (s0 : Int) (w : pj_W) : Option ((Int × Int × Int × Int × pj_W) ⊕ (Int × pj_W)) :=
  if x7 = 0 then (if 0 ≤ (pj_wr (x3 + 3)) ∧ (pj_wr (x3 + 3)) < 8400 then (fM_rounds_154 x1 x2 x3 x4 x5 x6 x7 x8 s0 (w 60 0 (pj_wr (x3 + 3))) w) else none) else (if 0 ≤ (pj_wr (x7 - 1)) ∧ (pj_wr (x7 - 1)) < 9 then (fM_rounds_154 x1 x2 x3 x4 x5 x6 x7 x8 s0 (w 69 0 (pj_wr (x7 - 1))) w) else none)
noncomputable def fM_rounds_84 (x1 : Int) (x2 : Int) (x3 : Int) (x4 : Int) (x5 : Int) (x6 : Int) (x7 : Int) (w : pj_W) : Option ((Int × Int × Int × Int × pj_W) ⊕ (Int × pj_W)) :=
  if 0 ≤ x7 ∧ x7 < 9 then (if x7 = 0 then (if 0 ≤ x3 ∧ x3 < 8400 then (fM_rounds_127 x1 x2 x3 x4 x5 x6 x7 (pj_wr ((w 68 0 x7) + 1)) (w 60 0 x3) w) else none) else (if 0 ≤ (pj_wr (x7 - 1)) ∧ (pj_wr (x7 - 1)) < 9 then ((fM_findRow 0 (w 68 0 (pj_wr (x7 - 1))) w).bind fun p5 => (if 0 ≤ p5 ∧ p5 < 8400 then (fM_rounds_127 x1 x2 x3 x4 x5 x6 x7 (pj_wr ((w 68 0 x7) + 1)) (w 60 0 p5) w) else none)) else none)) else none
noncomputable def fM_rounds_29b (x1 : Int) (x2 : Int) (x3 : Int) (x4 : Int) (x5 : Int) (x6 : Int) (x7 : Int) (w : pj_W) : Option ((Int × Int × Int × Int × pj_W) ⊕ (Int × pj_W)) :=
  if x7 < 0 then (some (Sum.inr ((x4, w)))) else (if 0 ≤ x7 ∧ x7 < 9 then (if (w 68 0 x7) = (-1) then (fM_rounds_84 x1 x2 x3 x4 x5 x6 x7 w) else ((fM_findRow 0 (w 68 0 x7) w).bind fun p4 => (if 0 ≤ (pj_wr (p4 + 1)) ∧ (pj_wr (p4 + 1)) < 8400 then (fM_rounds_84 x1 x2 x3 x4 (pj_wr (x5 - (w 60 0 (pj_wr (p4 + 1))))) (pj_and x6 (pj_xor (pj_shl 1 (w 68 0 x7)) (-1))) x7 w) else none))) else none)
noncomputable def fM_rounds_29 (x1 : Int) (x2 : Int) (x3 : Int) (s : (Int × Int × Int × Int × pj_W)) : Option (Int × pj_W) := pj_Lp (fun s : (Int × Int × Int × Int × pj_W) => fM_rounds_29b x1 x2 x3 s.1 s.2.1 s.2.2.1 s.2.2.2.1 s.2.2.2.2) s
noncomputable def fM_rounds (x1 : Int) (x2 : Int) (w : pj_W) : Option (Int × pj_W) :=
  (fM_finderRow x1 w).bind fun p1 => (fM_rounds_29 x1 x2 p1 (0, 0, 0, 0, (pj_set (pj_set w 26 0 29 0) 68 0 0 (-1))))
theorem tM_rounds_246 {Go : pj_C → Prop} (hM : pj_M l yX12_rounds cX12_rounds 12 (some .int) 3 68 true g n0 o Go) (x1 : Int) (x2 : Int) (x3 : Int) (x4 : Int) (x5 : Int) (x6 : Int) (x7 : Int) (x8 : Int) (x9 : Int) (x10 : Int) (w : pj_W)  (R : (Int × pj_W) ⊕ ((Int × Int × Int × Int × pj_W) ⊕ (Int × pj_W)) → Prop) (h0 : ∀ r, R (Sum.inr (Sum.inr (r))) → ((some (0, r.1) : Option pj_V), r.2) = o) (hk29 : ∀ s, R (Sum.inr (Sum.inl s)) → Go (29, [(26, 0), (0, x1), (0, x2), (0, x3), (0, s.1), (0, s.2.1), (0, s.2.2.1), (0, s.2.2.2.1), (9, 0), (9, 0), (9, 0), (9, 0)], [], s.2.2.2.2)) (hk156 : ∀ s, R (Sum.inl s) → Go (156, [(26, 0), (0, x1), (0, x2), (0, x3), (0, x4), (0, x5), (0, x6), (0, x7), (0, s.1), (0, x9), (0, x10), (9, 0)], [], s.2)) : pj_TG R (fM_rounds_246 x1 x2 x3 x4 x5 x6 x7 x8 x9 x10 w) (Go (246, [(26, 0), (0, x1), (0, x2), (0, x3), (0, x4), (0, x5), (0, x6), (0, x7), (0, x8), (0, x9), (0, x10), (9, 0)], [], w)) := by
  unfold fM_rounds_246
  exact pj_tret (fun hr => pj_iinc hM (pc := 246) dX12_rounds_246 rfl (by decide) (lls' := [(26, 0), (0, x1), (0, x2), (0, x3), (0, x4), (0, x5), (0, x6), (0, x7), (0, (pj_wr (x8 + 1))), (0, x9), (0, x10), (9, 0)]) rfl (pj_goto hM (pc := 249) dX12_rounds_249 rfl (pj_kill hM [true, true, true, true, true, true, true, true, true, true, true, false] (lls' := [(26, 0), (0, x1), (0, x2), (0, x3), (0, x4), (0, x5), (0, x6), (0, x7), (0, (pj_wr (x8 + 1))), (0, x9), (0, x10), (9, 0)]) rfl ((hk156 _ hr)))))
theorem tM_rounds_385 {Go : pj_C → Prop} (hM : pj_M l yX12_rounds cX12_rounds 12 (some .int) 3 68 true g n0 o Go) (x1 : Int) (x2 : Int) (x3 : Int) (x4 : Int) (x5 : Int) (x6 : Int) (x7 : Int) (w : pj_W)  (R : (Int × Int × Int × Int × pj_W) ⊕ (Int × pj_W) → Prop) (h0 : ∀ r, R (Sum.inr (r)) → ((some (0, r.1) : Option pj_V), r.2) = o) (hk29 : ∀ s, R (Sum.inl s) → Go (29, [(26, 0), (0, x1), (0, x2), (0, x3), (0, s.1), (0, s.2.1), (0, s.2.2.1), (0, s.2.2.2.1), (9, 0), (9, 0), (9, 0), (9, 0)], [], s.2.2.2.2)) : pj_TG R (fM_rounds_385 x1 x2 x3 x4 x5 x6 x7 w) (Go (385, [(26, 0), (0, x1), (0, x2), (0, x3), (0, x4), (0, x5), (0, x6), (0, x7), (9, 0), (9, 0), (9, 0), (9, 0)], [], w)) := by
  unfold fM_rounds_385
  refine pj_tgd (fun h1 => ?_)
  exact pj_tret (fun hr => pj_iinc hM (pc := 385) dX12_rounds_385 rfl (by decide) (lls' := [(26, 0), (0, x1), (0, x2), (0, x3), (0, x4), (0, x5), (0, x6), (0, (pj_wr (x7 + 1))), (9, 0), (9, 0), (9, 0), (9, 0)]) rfl (pj_aload_n hM (pc := 388) dX12_rounds_388 rfl rfl (pj_getF hM (pc := 389) (t := 68) dX12_rounds_389 fl_X12_47 (by decide) rfl rfl (pj_iload hM (pc := 392) dX12_rounds_392 rfl (pj_iconst hM (pc := 394) dX12_rounds_394 (by decide) (pj_ias hM (pc := 395) dX12_rounds_395 ki_68 (by decide) h1 (pj_goto hM (pc := 396) dX12_rounds_396 rfl (pj_kill hM [true, true, true, true, true, true, true, true, false, false, false, false] (lls' := [(26, 0), (0, x1), (0, x2), (0, x3), (0, x4), (0, x5), (0, x6), (0, (pj_wr (x7 + 1))), (9, 0), (9, 0), (9, 0), (9, 0)]) rfl ((hk29 _ hr))))))))))
theorem tM_rounds_276 {Go : pj_C → Prop} (hM : pj_M l yX12_rounds cX12_rounds 12 (some .int) 3 68 true g n0 o Go) (x1 : Int) (x2 : Int) (x3 : Int) (x4 : Int) (x5 : Int) (x6 : Int) (x7 : Int) (w : pj_W)  (R : (Int × Int × Int × Int × pj_W) ⊕ (Int × pj_W) → Prop) (h0 : ∀ r, R (Sum.inr (r)) → ((some (0, r.1) : Option pj_V), r.2) = o) (hk29 : ∀ s, R (Sum.inl s) → Go (29, [(26, 0), (0, x1), (0, x2), (0, x3), (0, s.1), (0, s.2.1), (0, s.2.2.1), (0, s.2.2.2.1), (9, 0), (9, 0), (9, 0), (9, 0)], [], s.2.2.2.2)) : pj_TG R (fM_rounds_276 x1 x2 x3 x4 x5 x6 x7 w) (Go (276, [(26, 0), (0, x1), (0, x2), (0, x3), (0, x4), (0, x5), (0, x6), (0, x7), (9, 0), (9, 0), (9, 0), (9, 0)], [], w)) := by
  unfold fM_rounds_276
  exact pj_tret (fun hr => pj_iinc hM (pc := 276) dX12_rounds_276 rfl (by decide) (lls' := [(26, 0), (0, x1), (0, x2), (0, x3), (0, x4), (0, x5), (0, x6), (0, (pj_wr (x7 + (-1)))), (9, 0), (9, 0), (9, 0), (9, 0)]) rfl (pj_goto hM (pc := 279) dX12_rounds_279 rfl (pj_kill hM [true, true, true, true, true, true, true, true, false, false, false, false] (lls' := [(26, 0), (0, x1), (0, x2), (0, x3), (0, x4), (0, x5), (0, x6), (0, (pj_wr (x7 + (-1)))), (9, 0), (9, 0), (9, 0), (9, 0)]) rfl ((hk29 _ hr)))))
theorem tM_rounds_358b {Go : pj_C → Prop} (hM : pj_M l yX12_rounds cX12_rounds 12 (some .int) 3 68 true g n0 o Go) (x1 : Int) (x2 : Int) (x3 : Int) (x4 : Int) (x5 : Int) (x6 : Int) (x7 : Int) (x11 : Int) (w : pj_W)  (R : (Int × pj_W) ⊕ ((Int × Int × Int × Int × pj_W) ⊕ (Int × pj_W)) → Prop) (h0 : ∀ r, R (Sum.inr (Sum.inr (r))) → ((some (0, r.1) : Option pj_V), r.2) = o) (hk29 : ∀ s, R (Sum.inr (Sum.inl s)) → Go (29, [(26, 0), (0, x1), (0, x2), (0, x3), (0, s.1), (0, s.2.1), (0, s.2.2.1), (0, s.2.2.2.1), (9, 0), (9, 0), (9, 0), (9, 0)], [], s.2.2.2.2)) (hk358 : ∀ s, R (Sum.inl s) → Go (358, [(26, 0), (0, x1), (0, x2), (0, x3), (0, x4), (0, x5), (0, x6), (0, x7), (9, 0), (9, 0), (9, 0), (0, s.1)], [], s.2)) : pj_TG R (fM_rounds_358b x1 x2 x3 x4 x5 x6 x7 x11 w) (Go (358, [(26, 0), (0, x1), (0, x2), (0, x3), (0, x4), (0, x5), (0, x6), (0, x7), (9, 0), (9, 0), (9, 0), (0, x11)], [], w)) := by
  unfold fM_rounds_358b
  refine pj_map (fun k => pj_iload hM (pc := 358) dX12_rounds_358 rfl (pj_iload hM (pc := 360) dX12_rounds_360 rfl k)) ?_
  refine pj_tif (fun h1 => ?_) (fun h1 => ?_)
  · refine pj_tmap ?_
    refine pj_map (fun k => pj_ic_gt_t hM (pc := 362) dX12_rounds_362 rfl h1 (pj_kill hM [true, true, true, true, true, true, true, true, false, false, false, false] (lls' := [(26, 0), (0, x1), (0, x2), (0, x3), (0, x4), (0, x5), (0, x6), (0, x7), (9, 0), (9, 0), (9, 0), (9, 0)]) rfl k)) ?_
    exact tM_rounds_385 hM x1 x2 x3 x4 x5 x6 x7 w _ h0 hk29
  refine pj_tgd (fun h2 => ?_)
  refine pj_tgd (fun h3 => ?_)
  exact pj_tret (fun hr => pj_ic_gt_f hM (pc := 362) 385 dX12_rounds_362 rfl h1 (pj_aload_n hM (pc := 365) dX12_rounds_365 rfl rfl (pj_getF hM (pc := 366) (t := 70) dX12_rounds_366 fl_X12_53 (by decide) rfl rfl (pj_iload hM (pc := 369) dX12_rounds_369 rfl (pj_aload_n hM (pc := 371) dX12_rounds_371 rfl rfl (pj_getF hM (pc := 372) (t := 68) dX12_rounds_372 fl_X12_47 (by decide) rfl rfl (pj_iload hM (pc := 375) dX12_rounds_375 rfl (pj_ial hM (pc := 377) dX12_rounds_377 ki_68 (by decide) h2 (pj_ias hM (pc := 378) dX12_rounds_378 ki_70 (by decide) h3 (pj_iinc hM (pc := 379) dX12_rounds_379 rfl (by decide) (lls' := [(26, 0), (0, x1), (0, x2), (0, x3), (0, x4), (0, x5), (0, x6), (0, x7), (9, 0), (9, 0), (9, 0), (0, (pj_wr (x11 + 1)))]) rfl (pj_goto hM (pc := 382) dX12_rounds_382 rfl (pj_kill hM [true, true, true, true, true, true, true, true, false, false, false, true] (lls' := [(26, 0), (0, x1), (0, x2), (0, x3), (0, x4), (0, x5), (0, x6), (0, x7), (9, 0), (9, 0), (9, 0), (0, (pj_wr (x11 + 1)))]) rfl ((hk358 _ hr))))))))))))))
theorem tM_rounds_358 {Go : pj_C → Prop} (hM : pj_M l yX12_rounds cX12_rounds 12 (some .int) 3 68 true g n0 o Go) (x1 : Int) (x2 : Int) (x3 : Int) (x4 : Int) (x5 : Int) (x6 : Int) (x7 : Int)  (R : (Int × Int × Int × Int × pj_W) ⊕ (Int × pj_W) → Prop) (h0 : ∀ r, R (Sum.inr (r)) → ((some (0, r.1) : Option pj_V), r.2) = o) (hk29 : ∀ s, R (Sum.inl s) → Go (29, [(26, 0), (0, x1), (0, x2), (0, x3), (0, s.1), (0, s.2.1), (0, s.2.2.1), (0, s.2.2.2.1), (9, 0), (9, 0), (9, 0), (9, 0)], [], s.2.2.2.2)) (s : (Int × pj_W)) : pj_TG R (fM_rounds_358 x1 x2 x3 x4 x5 x6 x7 s) (Go (358, [(26, 0), (0, x1), (0, x2), (0, x3), (0, x4), (0, x5), (0, x6), (0, x7), (9, 0), (9, 0), (9, 0), (0, s.1)], [], s.2)) := by
  unfold fM_rounds_358
  exact pj_tLp (G := fun s : (Int × pj_W) => Go (358, [(26, 0), (0, x1), (0, x2), (0, x3), (0, x4), (0, x5), (0, x6), (0, x7), (9, 0), (9, 0), (9, 0), (0, s.1)], [], s.2)) (fun s => tM_rounds_358b hM x1 x2 x3 x4 x5 x6 x7 s.1 s.2  _ (fun r h => h0 r h) (fun s h => hk29 s h) (fun s h => h)) s
theorem tM_rounds_343 {Go : pj_C → Prop} (hM : pj_M l yX12_rounds cX12_rounds 12 (some .int) 3 68 true g n0 o Go) (x1 : Int) (x2 : Int) (x3 : Int) (x5 : Int) (x6 : Int) (x7 : Int) (w : pj_W)  (R : (Int × Int × Int × Int × pj_W) ⊕ (Int × pj_W) → Prop) (h0 : ∀ r, R (Sum.inr (r)) → ((some (0, r.1) : Option pj_V), r.2) = o) (hk29 : ∀ s, R (Sum.inl s) → Go (29, [(26, 0), (0, x1), (0, x2), (0, x3), (0, s.1), (0, s.2.1), (0, s.2.2.1), (0, s.2.2.2.1), (9, 0), (9, 0), (9, 0), (9, 0)], [], s.2.2.2.2)) : pj_TG R (fM_rounds_343 x1 x2 x3 x5 x6 x7 w) (Go (343, [(26, 0), (0, x1), (0, x2), (0, x3), (9, 0), (0, x5), (0, x6), (0, x7), (9, 0), (9, 0), (9, 0), (9, 0)], [], w)) := by
  unfold fM_rounds_343
  refine pj_map (fun k => pj_iload hM (pc := 343) dX12_rounds_343 rfl (pj_istore hM (pc := 345) dX12_rounds_345 (by decide) (lls' := [(26, 0), (0, x1), (0, x2), (0, x3), (0, x5), (0, x5), (0, x6), (0, x7), (9, 0), (9, 0), (9, 0), (9, 0)]) rfl (pj_aload_n hM (pc := 347) dX12_rounds_347 rfl rfl (pj_iload hM (pc := 348) dX12_rounds_348 rfl (pj_iconst hM (pc := 350) dX12_rounds_350 (by decide) (pj_iadd hM (pc := 351) dX12_rounds_351 (pj_pf hM (pc := 352) dX12_rounds_352 fl_X12_396 (by decide) rfl (fun h => absurd h (by decide)) (by decide) (fun _ => rfl) 29 rfl (pj_iconst hM (pc := 355) dX12_rounds_355 (by decide) (pj_istore hM (pc := 356) dX12_rounds_356 (by decide) (lls' := [(26, 0), (0, x1), (0, x2), (0, x3), (0, x5), (0, x5), (0, x6), (0, x7), (9, 0), (9, 0), (9, 0), (0, 0)]) rfl (pj_kill hM [true, true, true, true, true, true, true, true, false, false, false, true] (lls' := [(26, 0), (0, x1), (0, x2), (0, x3), (0, x5), (0, x5), (0, x6), (0, x7), (9, 0), (9, 0), (9, 0), (0, 0)]) rfl k)))))))))) ?_
  exact tM_rounds_358 hM x1 x2 x3 x5 x5 x6 x7 _ h0 hk29 _
theorem tM_rounds_252 {Go : pj_C → Prop} (hM : pj_M l yX12_rounds cX12_rounds 12 (some .int) 3 68 true g n0 o Go) (x1 : Int) (x2 : Int) (x3 : Int) (x4 : Int) (x5 : Int) (x6 : Int) (x7 : Int) (x8 : Int) (w : pj_W)  (R : (Int × Int × Int × Int × pj_W) ⊕ (Int × pj_W) → Prop) (h0 : ∀ r, R (Sum.inr (r)) → ((some (0, r.1) : Option pj_V), r.2) = o) (hk29 : ∀ s, R (Sum.inl s) → Go (29, [(26, 0), (0, x1), (0, x2), (0, x3), (0, s.1), (0, s.2.1), (0, s.2.2.1), (0, s.2.2.2.1), (9, 0), (9, 0), (9, 0), (9, 0)], [], s.2.2.2.2)) : pj_TG R (fM_rounds_252 x1 x2 x3 x4 x5 x6 x7 x8 w) (Go (252, [(26, 0), (0, x1), (0, x2), (0, x3), (0, x4), (0, x5), (0, x6), (0, x7), (0, x8), (9, 0), (9, 0), (9, 0)], [], w)) := by
  unfold fM_rounds_252
  refine pj_map (fun k => pj_iload hM (pc := 252) dX12_rounds_252 rfl (pj_aload_n hM (pc := 254) dX12_rounds_254 rfl rfl (pj_getF hM (pc := 255) (t := 60) dX12_rounds_255 fl_X12_7 (by decide) rfl rfl (pj_iconst hM (pc := 258) dX12_rounds_258 (by decide) (pj_ial hM (pc := 259) dX12_rounds_259 ki_60 (by decide) (by decide) k))))) ?_
  refine pj_tif (fun h1 => ?_) (fun h1 => ?_)
  · refine pj_map (fun k => pj_ic_eq_t hM (pc := 260) dX12_rounds_260 rfl h1 (pj_kill hM [true, true, true, true, true, true, true, true, false, false, false, false] (lls' := [(26, 0), (0, x1), (0, x2), (0, x3), (0, x4), (0, x5), (0, x6), (0, x7), (9, 0), (9, 0), (9, 0), (9, 0)]) rfl k)) ?_
    exact tM_rounds_276 hM x1 x2 x3 x4 x5 x6 x7 w _ h0 hk29
  refine pj_tgd (fun h2 => ?_)
  refine pj_map (fun k => pj_ic_eq_f hM (pc := 260) 276 dX12_rounds_260 rfl h1 (pj_iload hM (pc := 263) dX12_rounds_263 rfl (pj_aload_n hM (pc := 265) dX12_rounds_265 rfl rfl (pj_getF hM (pc := 266) (t := 60) dX12_rounds_266 fl_X12_7 (by decide) rfl rfl (pj_iload_n hM (pc := 269) dX12_rounds_269 rfl (pj_iconst hM (pc := 270) dX12_rounds_270 (by decide) (pj_iadd hM (pc := 271) dX12_rounds_271 (pj_ial hM (pc := 272) dX12_rounds_272 ki_60 (by decide) h2 k)))))))) ?_
  refine pj_tif (fun h3 => ?_) (fun h3 => ?_)
  · refine pj_map (fun k => pj_ic_ne_f hM (pc := 273) 282 dX12_rounds_273 rfl (fun q => q h3) (pj_kill hM [true, true, true, true, true, true, true, true, false, false, false, false] (lls' := [(26, 0), (0, x1), (0, x2), (0, x3), (0, x4), (0, x5), (0, x6), (0, x7), (9, 0), (9, 0), (9, 0), (9, 0)]) rfl k)) ?_
    exact tM_rounds_276 hM x1 x2 x3 x4 x5 x6 x7 w _ h0 hk29
  refine pj_tgd (fun h4 => ?_)
  refine pj_tbind (fun p5 h6 => ?_)
  refine pj_tgd (fun h7 => ?_)
  refine pj_map (fun k => pj_ic_ne_t hM (pc := 273) dX12_rounds_273 rfl h3 (pj_aload_n hM (pc := 282) dX12_rounds_282 rfl rfl (pj_getF hM (pc := 283) (t := 68) dX12_rounds_283 fl_X12_47 (by decide) rfl rfl (pj_iload hM (pc := 286) dX12_rounds_286 rfl (pj_iload hM (pc := 288) dX12_rounds_288 rfl (pj_ias hM (pc := 290) dX12_rounds_290 ki_68 (by decide) h4 (pj_iload hM (pc := 291) dX12_rounds_291 rfl (pj_iconst hM (pc := 293) dX12_rounds_293 (by decide) (pj_iload hM (pc := 294) dX12_rounds_294 rfl (pj_ishl hM (pc := 296) dX12_rounds_296 (pj_ior hM (pc := 297) dX12_rounds_297 (pj_istore hM (pc := 298) dX12_rounds_298 (by decide) (lls' := [(26, 0), (0, x1), (0, x2), (0, x3), (0, x4), (0, x5), (0, (pj_or x6 (pj_shl 1 x8))), (0, x7), (0, x8), (9, 0), (9, 0), (9, 0)]) rfl (pj_iload hM (pc := 300) dX12_rounds_300 rfl (pj_aload_n hM (pc := 302) dX12_rounds_302 rfl rfl (pj_getF hM (pc := 303) (t := 60) dX12_rounds_303 fl_X12_7 (by decide) rfl rfl (pj_iconst hM (pc := 306) dX12_rounds_306 (by decide) (pj_iload hM (pc := 307) dX12_rounds_307 rfl (pj_cS hM (pc := 309) (cM_findRow 0 x8 (pj_set w 68 0 x7 x8) p5 h6) dX12_rounds_309 mf_X12_findRow ms_X12_findRow ml_X12_171 rfl rfl rfl rfl (pj_iconst hM (pc := 312) dX12_rounds_312 (by decide) (pj_iadd hM (pc := 313) dX12_rounds_313 (pj_ial hM (pc := 314) dX12_rounds_314 ki_60 (by decide) h7 (pj_iadd hM (pc := 315) dX12_rounds_315 (pj_istore hM (pc := 316) dX12_rounds_316 (by decide) (lls' := [(26, 0), (0, x1), (0, x2), (0, x3), (0, x4), (0, (pj_wr (x5 + ((pj_set w 68 0 x7 x8) 60 0 (pj_wr (p5 + 1)))))), (0, (pj_or x6 (pj_shl 1 x8))), (0, x7), (0, x8), (9, 0), (9, 0), (9, 0)]) rfl (pj_iload hM (pc := 318) dX12_rounds_318 rfl (pj_iload hM (pc := 320) dX12_rounds_320 rfl k))))))))))))))))))))))))) ?_
  refine pj_tif (fun h8 => ?_) (fun h8 => ?_)
  · refine pj_map (fun k => pj_ic_gt_t hM (pc := 322) dX12_rounds_322 rfl h8 (pj_kill hM [true, true, true, true, false, true, true, true, false, false, false, false] (lls' := [(26, 0), (0, x1), (0, x2), (0, x3), (9, 0), (0, (pj_wr (x5 + ((pj_set w 68 0 x7 x8) 60 0 (pj_wr (p5 + 1)))))), (0, (pj_or x6 (pj_shl 1 x8))), (0, x7), (9, 0), (9, 0), (9, 0), (9, 0)]) rfl k)) ?_
    exact tM_rounds_343 hM x1 x2 x3 (pj_wr (x5 + ((pj_set w 68 0 x7 x8) 60 0 (pj_wr (p5 + 1))))) (pj_or x6 (pj_shl 1 x8)) x7 (pj_set w 68 0 x7 x8) _ h0 hk29
  refine pj_map (fun k => pj_ic_gt_f hM (pc := 322) 343 dX12_rounds_322 rfl h8 (pj_iload hM (pc := 325) dX12_rounds_325 rfl (pj_iload hM (pc := 327) dX12_rounds_327 rfl k))) ?_
  refine pj_tif (fun h9 => ?_) (fun h9 => ?_)
  · refine pj_map (fun k => pj_ic_ne_f hM (pc := 329) 385 dX12_rounds_329 rfl (fun q => q h9) (pj_iload hM (pc := 332) dX12_rounds_332 rfl (pj_iconst hM (pc := 334) dX12_rounds_334 (by decide) (pj_iadd hM (pc := 335) dX12_rounds_335 (pj_aload_n hM (pc := 336) dX12_rounds_336 rfl rfl (pj_gf hM (pc := 337) (t := 0) dX12_rounds_337 fl_X12_396 (by decide) rfl 29 rfl k)))))) ?_
    refine pj_tif (fun h10 => ?_) (fun h10 => ?_)
    · refine pj_map (fun k => pj_ic_ge_t hM (pc := 340) dX12_rounds_340 rfl h10 (pj_kill hM [true, true, true, true, true, true, true, true, false, false, false, false] (lls' := [(26, 0), (0, x1), (0, x2), (0, x3), (0, x4), (0, (pj_wr (x5 + ((pj_set w 68 0 x7 x8) 60 0 (pj_wr (p5 + 1)))))), (0, (pj_or x6 (pj_shl 1 x8))), (0, x7), (9, 0), (9, 0), (9, 0), (9, 0)]) rfl k)) ?_
      exact tM_rounds_385 hM x1 x2 x3 x4 (pj_wr (x5 + ((pj_set w 68 0 x7 x8) 60 0 (pj_wr (p5 + 1))))) (pj_or x6 (pj_shl 1 x8)) x7 (pj_set w 68 0 x7 x8) _ h0 hk29
    refine pj_map (fun k => pj_ic_ge_f hM (pc := 340) 385 dX12_rounds_340 rfl h10 (pj_kill hM [true, true, true, true, false, true, true, true, false, false, false, false] (lls' := [(26, 0), (0, x1), (0, x2), (0, x3), (9, 0), (0, (pj_wr (x5 + ((pj_set w 68 0 x7 x8) 60 0 (pj_wr (p5 + 1)))))), (0, (pj_or x6 (pj_shl 1 x8))), (0, x7), (9, 0), (9, 0), (9, 0), (9, 0)]) rfl k)) ?_
    exact tM_rounds_343 hM x1 x2 x3 (pj_wr (x5 + ((pj_set w 68 0 x7 x8) 60 0 (pj_wr (p5 + 1))))) (pj_or x6 (pj_shl 1 x8)) x7 (pj_set w 68 0 x7 x8) _ h0 hk29
  refine pj_map (fun k => pj_ic_ne_t hM (pc := 329) dX12_rounds_329 rfl h9 (pj_kill hM [true, true, true, true, true, true, true, true, false, false, false, false] (lls' := [(26, 0), (0, x1), (0, x2), (0, x3), (0, x4), (0, (pj_wr (x5 + ((pj_set w 68 0 x7 x8) 60 0 (pj_wr (p5 + 1)))))), (0, (pj_or x6 (pj_shl 1 x8))), (0, x7), (9, 0), (9, 0), (9, 0), (9, 0)]) rfl k)) ?_
  exact tM_rounds_385 hM x1 x2 x3 x4 (pj_wr (x5 + ((pj_set w 68 0 x7 x8) 60 0 (pj_wr (p5 + 1))))) (pj_or x6 (pj_shl 1 x8)) x7 (pj_set w 68 0 x7 x8) _ h0 hk29
theorem tM_rounds_156b {Go : pj_C → Prop} (hM : pj_M l yX12_rounds cX12_rounds 12 (some .int) 3 68 true g n0 o Go) (x1 : Int) (x2 : Int) (x3 : Int) (x4 : Int) (x5 : Int) (x6 : Int) (x7 : Int) (x9 : Int) (x10 : Int) (x8 : Int) (w : pj_W)  (R : (Int × pj_W) ⊕ ((Int × Int × Int × Int × pj_W) ⊕ (Int × pj_W)) → Prop) (h0 : ∀ r, R (Sum.inr (Sum.inr (r))) → ((some (0, r.1) : Option pj_V), r.2) = o) (hk29 : ∀ s, R (Sum.inr (Sum.inl s)) → Go (29, [(26, 0), (0, x1), (0, x2), (0, x3), (0, s.1), (0, s.2.1), (0, s.2.2.1), (0, s.2.2.2.1), (9, 0), (9, 0), (9, 0), (9, 0)], [], s.2.2.2.2)) (hk156 : ∀ s, R (Sum.inl s) → Go (156, [(26, 0), (0, x1), (0, x2), (0, x3), (0, x4), (0, x5), (0, x6), (0, x7), (0, s.1), (0, x9), (0, x10), (9, 0)], [], s.2)) : pj_TG R (fM_rounds_156b x1 x2 x3 x4 x5 x6 x7 x9 x10 x8 w) (Go (156, [(26, 0), (0, x1), (0, x2), (0, x3), (0, x4), (0, x5), (0, x6), (0, x7), (0, x8), (0, x9), (0, x10), (9, 0)], [], w)) := by
  unfold fM_rounds_156b
  refine pj_map (fun k => pj_iload hM (pc := 156) dX12_rounds_156 rfl (pj_aload_n hM (pc := 158) dX12_rounds_158 rfl rfl (pj_getF hM (pc := 159) (t := 60) dX12_rounds_159 fl_X12_7 (by decide) rfl rfl (pj_iconst hM (pc := 162) dX12_rounds_162 (by decide) (pj_ial hM (pc := 163) dX12_rounds_163 ki_60 (by decide) (by decide) k))))) ?_
  refine pj_tif (fun h1 => ?_) (fun h1 => ?_)
  · refine pj_tmap ?_
    refine pj_map (fun k => pj_ic_ge_t hM (pc := 164) dX12_rounds_164 rfl h1 (pj_kill hM [true, true, true, true, true, true, true, true, true, false, false, false] (lls' := [(26, 0), (0, x1), (0, x2), (0, x3), (0, x4), (0, x5), (0, x6), (0, x7), (0, x8), (9, 0), (9, 0), (9, 0)]) rfl k)) ?_
    exact tM_rounds_252 hM x1 x2 x3 x4 x5 x6 x7 x8 w _ h0 hk29
  refine pj_tgd (fun h2 => ?_)
  refine pj_tbind (fun p3 h4 => ?_)
  refine pj_tgd (fun h5 => ?_)
  refine pj_tbind (fun p6 h7 => ?_)
  refine pj_tgd (fun h8 => ?_)
  refine pj_map (fun k => pj_ic_ge_f hM (pc := 164) 252 dX12_rounds_164 rfl h1 (pj_aload_n hM (pc := 167) dX12_rounds_167 rfl rfl (pj_getF hM (pc := 168) (t := 69) dX12_rounds_168 fl_X12_50 (by decide) rfl rfl (pj_iload hM (pc := 171) dX12_rounds_171 rfl (pj_iload hM (pc := 173) dX12_rounds_173 rfl (pj_aload_n hM (pc := 175) dX12_rounds_175 rfl rfl (pj_getF hM (pc := 176) (t := 60) dX12_rounds_176 fl_X12_7 (by decide) rfl rfl (pj_iload_n hM (pc := 179) dX12_rounds_179 rfl (pj_iconst hM (pc := 180) dX12_rounds_180 (by decide) (pj_iadd hM (pc := 181) dX12_rounds_181 (pj_ial hM (pc := 182) dX12_rounds_182 ki_60 (by decide) h2 (pj_iload hM (pc := 183) dX12_rounds_183 rfl (pj_aload_n hM (pc := 185) dX12_rounds_185 rfl rfl (pj_getF hM (pc := 186) (t := 60) dX12_rounds_186 fl_X12_7 (by decide) rfl rfl (pj_iconst hM (pc := 189) dX12_rounds_189 (by decide) (pj_iload hM (pc := 190) dX12_rounds_190 rfl (pj_cS hM (pc := 192) (cM_findRow 0 x8 w p3 h4) dX12_rounds_192 mf_X12_findRow ms_X12_findRow ml_X12_171 rfl rfl rfl rfl (pj_ial hM (pc := 195) dX12_rounds_195 ki_60 (by decide) h5 (pj_isub hM (pc := 196) dX12_rounds_196 (pj_mabs hM (pc := 197) dX12_rounds_197 mf_J9_abs_0f7a4 ms_J9_abs_0f7a4 ml_X12_280 rfl (pj_imul hM (pc := 200) dX12_rounds_200 (pj_iadd hM (pc := 201) dX12_rounds_201 (pj_aload_n hM (pc := 202) dX12_rounds_202 rfl rfl (pj_iload_n hM (pc := 203) dX12_rounds_203 rfl (pj_iload hM (pc := 204) dX12_rounds_204 rfl (pj_cV hM (pc := 206) (cM_behindOthers x1 x8 w p6 h7) dX12_rounds_206 mf_X12_behindOthers mv_X12_behindOthers ml_X12_387 kc_26 rfl rfl (by decide) rfl rfl (pj_mmax hM (pc := 209) dX12_rounds_209 mf_J9_max_7cf53 ms_J9_max_7cf53 ml_X12_375 rfl (pj_ias hM (pc := 212) dX12_rounds_212 ki_69 (by decide) h8 k)))))))))))))))))))))))))))) ?_
  refine pj_tlet (fun w9 => Go (213, [(26, 0), (0, x1), (0, x2), (0, x3), (0, x4), (0, x5), (0, x6), (0, x7), (0, x8), (0, x9), (0, x10), (9, 0)], [], w9)) (fun w9 => ?_)
  refine pj_tbind (fun p10 h11 => ?_)
  refine pj_map (fun k => pj_aload_n hM (pc := 213) dX12_rounds_213 rfl rfl (pj_iload hM (pc := 214) dX12_rounds_214 rfl (pj_cV hM (pc := 216) (cM_isThere x8 w9 p10 h11) dX12_rounds_216 mf_X12_isThere mv_X12_isThere ml_X12_268 kc_26 rfl rfl (by decide) rfl rfl k))) ?_
  refine pj_tif (fun h12 => ?_) (fun h12 => ?_)
  · refine pj_map (fun k => pj_if_eq_t hM (pc := 219) dX12_rounds_219 rfl h12 (pj_kill hM [true, true, true, true, true, true, true, true, true, true, true, false] (lls' := [(26, 0), (0, x1), (0, x2), (0, x3), (0, x4), (0, x5), (0, x6), (0, x7), (0, x8), (0, x9), (0, x10), (9, 0)]) rfl k)) ?_
    exact tM_rounds_246 hM x1 x2 x3 x4 x5 x6 x7 x8 x9 x10 w9 _ h0 hk29 hk156
  refine pj_map (fun k => pj_if_eq_f hM (pc := 219) 246 dX12_rounds_219 rfl h12 (pj_iload hM (pc := 222) dX12_rounds_222 rfl (pj_iload hM (pc := 224) dX12_rounds_224 rfl (pj_ishr hM (pc := 226) dX12_rounds_226 (pj_iconst hM (pc := 227) dX12_rounds_227 (by decide) (pj_iand hM (pc := 228) dX12_rounds_228 k)))))) ?_
  refine pj_tif (fun h13 => ?_) (fun h13 => ?_)
  · refine pj_map (fun k => pj_if_ne_f hM (pc := 229) 246 dX12_rounds_229 rfl (fun q => q h13) (pj_aload_n hM (pc := 232) dX12_rounds_232 rfl rfl (pj_getF hM (pc := 233) (t := 69) dX12_rounds_233 fl_X12_50 (by decide) rfl rfl (pj_iload hM (pc := 236) dX12_rounds_236 rfl (pj_ial hM (pc := 238) dX12_rounds_238 ki_69 (by decide) h8 (pj_iload_n hM (pc := 239) dX12_rounds_239 rfl k)))))) ?_
    refine pj_tif (fun h14 => ?_) (fun h14 => ?_)
    · refine pj_map (fun k => pj_ic_gt_t hM (pc := 240) dX12_rounds_240 rfl h14 (pj_kill hM [true, true, true, true, true, true, true, true, true, true, true, false] (lls' := [(26, 0), (0, x1), (0, x2), (0, x3), (0, x4), (0, x5), (0, x6), (0, x7), (0, x8), (0, x9), (0, x10), (9, 0)]) rfl k)) ?_
      exact tM_rounds_246 hM x1 x2 x3 x4 x5 x6 x7 x8 x9 x10 w9 _ h0 hk29 hk156
    refine pj_tmap ?_
    refine pj_map (fun k => pj_ic_gt_f hM (pc := 240) 246 dX12_rounds_240 rfl h14 (pj_goto hM (pc := 243) dX12_rounds_243 rfl (pj_kill hM [true, true, true, true, true, true, true, true, true, false, false, false] (lls' := [(26, 0), (0, x1), (0, x2), (0, x3), (0, x4), (0, x5), (0, x6), (0, x7), (0, x8), (9, 0), (9, 0), (9, 0)]) rfl k))) ?_
    exact tM_rounds_252 hM x1 x2 x3 x4 x5 x6 x7 x8 w9 _ h0 hk29
  refine pj_map (fun k => pj_if_ne_t hM (pc := 229) dX12_rounds_229 rfl h13 (pj_kill hM [true, true, true, true, true, true, true, true, true, true, true, false] (lls' := [(26, 0), (0, x1), (0, x2), (0, x3), (0, x4), (0, x5), (0, x6), (0, x7), (0, x8), (0, x9), (0, x10), (9, 0)]) rfl k)) ?_
  exact tM_rounds_246 hM x1 x2 x3 x4 x5 x6 x7 x8 x9 x10 w9 _ h0 hk29 hk156
theorem tM_rounds_156 {Go : pj_C → Prop} (hM : pj_M l yX12_rounds cX12_rounds 12 (some .int) 3 68 true g n0 o Go) (x1 : Int) (x2 : Int) (x3 : Int) (x4 : Int) (x5 : Int) (x6 : Int) (x7 : Int) (x9 : Int) (x10 : Int)  (R : (Int × Int × Int × Int × pj_W) ⊕ (Int × pj_W) → Prop) (h0 : ∀ r, R (Sum.inr (r)) → ((some (0, r.1) : Option pj_V), r.2) = o) (hk29 : ∀ s, R (Sum.inl s) → Go (29, [(26, 0), (0, x1), (0, x2), (0, x3), (0, s.1), (0, s.2.1), (0, s.2.2.1), (0, s.2.2.2.1), (9, 0), (9, 0), (9, 0), (9, 0)], [], s.2.2.2.2)) (s : (Int × pj_W)) : pj_TG R (fM_rounds_156 x1 x2 x3 x4 x5 x6 x7 x9 x10 s) (Go (156, [(26, 0), (0, x1), (0, x2), (0, x3), (0, x4), (0, x5), (0, x6), (0, x7), (0, s.1), (0, x9), (0, x10), (9, 0)], [], s.2)) := by
  unfold fM_rounds_156
  exact pj_tLp (G := fun s : (Int × pj_W) => Go (156, [(26, 0), (0, x1), (0, x2), (0, x3), (0, x4), (0, x5), (0, x6), (0, x7), (0, s.1), (0, x9), (0, x10), (9, 0)], [], s.2)) (fun s => tM_rounds_156b hM x1 x2 x3 x4 x5 x6 x7 x9 x10 s.1 s.2  _ (fun r h => h0 r h) (fun s h => hk29 s h) (fun s h => h)) s
theorem tM_rounds_154 {Go : pj_C → Prop} (hM : pj_M l yX12_rounds cX12_rounds 12 (some .int) 3 68 true g n0 o Go) (x1 : Int) (x2 : Int) (x3 : Int) (x4 : Int) (x5 : Int) (x6 : Int) (x7 : Int) (x8 : Int) (x9 : Int) (s0 : Int) (w : pj_W)  (R : (Int × Int × Int × Int × pj_W) ⊕ (Int × pj_W) → Prop) (h0 : ∀ r, R (Sum.inr (r)) → ((some (0, r.1) : Option pj_V), r.2) = o) (hk29 : ∀ s, R (Sum.inl s) → Go (29, [(26, 0), (0, x1), (0, x2), (0, x3), (0, s.1), (0, s.2.1), (0, s.2.2.1), (0, s.2.2.2.1), (9, 0), (9, 0), (9, 0), (9, 0)], [], s.2.2.2.2)) : pj_TG R (fM_rounds_154 x1 x2 x3 x4 x5 x6 x7 x8 x9 s0 w) (Go (154, [(26, 0), (0, x1), (0, x2), (0, x3), (0, x4), (0, x5), (0, x6), (0, x7), (0, x8), (0, x9), (9, 0), (9, 0)], [(0, s0)], w)) := by
  unfold fM_rounds_154
  refine pj_map (fun k => pj_istore hM (pc := 154) dX12_rounds_154 (by decide) (lls' := [(26, 0), (0, x1), (0, x2), (0, x3), (0, x4), (0, x5), (0, x6), (0, x7), (0, x8), (0, x9), (0, s0), (9, 0)]) rfl (pj_kill hM [true, true, true, true, true, true, true, true, true, true, true, false] (lls' := [(26, 0), (0, x1), (0, x2), (0, x3), (0, x4), (0, x5), (0, x6), (0, x7), (0, x8), (0, x9), (0, s0), (9, 0)]) rfl k)) ?_
  exact tM_rounds_156 hM x1 x2 x3 x4 x5 x6 x7 x9 s0 _ h0 hk29 _
theorem tM_rounds_127 {Go : pj_C → Prop} (hM : pj_M l yX12_rounds cX12_rounds 12 (some .int) 3 68 true g n0 o Go) (x1 : Int) (x2 : Int) (x3 : Int) (x4 : Int) (x5 : Int) (x6 : Int) (x7 : Int) (x8 : Int) (s0 : Int) (w : pj_W)  (R : (Int × Int × Int × Int × pj_W) ⊕ (Int × pj_W) → Prop) (h0 : ∀ r, R (Sum.inr (r)) → ((some (0, r.1) : Option pj_V), r.2) = o) (hk29 : ∀ s, R (Sum.inl s) → Go (29, [(26, 0), (0, x1), (0, x2), (0, x3), (0, s.1), (0, s.2.1), (0, s.2.2.1), (0, s.2.2.2.1), (9, 0), (9, 0), (9, 0), (9, 0)], [], s.2.2.2.2)) : pj_TG R (fM_rounds_127 x1 x2 x3 x4 x5 x6 x7 x8 s0 w) (Go (127, [(26, 0), (0, x1), (0, x2), (0, x3), (0, x4), (0, x5), (0, x6), (0, x7), (0, x8), (9, 0), (9, 0), (9, 0)], [(0, s0)], w)) := by
  unfold fM_rounds_127
  refine pj_map (fun k => pj_istore hM (pc := 127) dX12_rounds_127 (by decide) (lls' := [(26, 0), (0, x1), (0, x2), (0, x3), (0, x4), (0, x5), (0, x6), (0, x7), (0, x8), (0, s0), (9, 0), (9, 0)]) rfl (pj_iload hM (pc := 129) dX12_rounds_129 rfl k)) ?_
  refine pj_tif (fun h1 => ?_) (fun h1 => ?_)
  · refine pj_tgd (fun h2 => ?_)
    refine pj_map (fun k => pj_if_ne_f hM (pc := 131) 145 dX12_rounds_131 rfl (fun q => q h1) (pj_aload_n hM (pc := 134) dX12_rounds_134 rfl rfl (pj_getF hM (pc := 135) (t := 60) dX12_rounds_135 fl_X12_7 (by decide) rfl rfl (pj_iload_n hM (pc := 138) dX12_rounds_138 rfl (pj_iconst hM (pc := 139) dX12_rounds_139 (by decide) (pj_iadd hM (pc := 140) dX12_rounds_140 (pj_ial hM (pc := 141) dX12_rounds_141 ki_60 (by decide) h2 (pj_goto hM (pc := 142) dX12_rounds_142 rfl (pj_kill hM [true, true, true, true, true, true, true, true, true, true, false, false] (lls' := [(26, 0), (0, x1), (0, x2), (0, x3), (0, x4), (0, x5), (0, x6), (0, x7), (0, x8), (0, s0), (9, 0), (9, 0)]) rfl k))))))))) ?_
    exact tM_rounds_154 hM x1 x2 x3 x4 x5 x6 x7 x8 s0 (w 60 0 (pj_wr (x3 + 3))) w _ h0 hk29
  refine pj_tgd (fun h3 => ?_)
  refine pj_map (fun k => pj_if_ne_t hM (pc := 131) dX12_rounds_131 rfl h1 (pj_aload_n hM (pc := 145) dX12_rounds_145 rfl rfl (pj_getF hM (pc := 146) (t := 69) dX12_rounds_146 fl_X12_50 (by decide) rfl rfl (pj_iload hM (pc := 149) dX12_rounds_149 rfl (pj_iconst hM (pc := 151) dX12_rounds_151 (by decide) (pj_isub hM (pc := 152) dX12_rounds_152 (pj_ial hM (pc := 153) dX12_rounds_153 ki_69 (by decide) h3 (pj_kill hM [true, true, true, true, true, true, true, true, true, true, false, false] (lls' := [(26, 0), (0, x1), (0, x2), (0, x3), (0, x4), (0, x5), (0, x6), (0, x7), (0, x8), (0, s0), (9, 0), (9, 0)]) rfl k)))))))) ?_
  exact tM_rounds_154 hM x1 x2 x3 x4 x5 x6 x7 x8 s0 (w 69 0 (pj_wr (x7 - 1))) w _ h0 hk29
theorem tM_rounds_84 {Go : pj_C → Prop} (hM : pj_M l yX12_rounds cX12_rounds 12 (some .int) 3 68 true g n0 o Go) (x1 : Int) (x2 : Int) (x3 : Int) (x4 : Int) (x5 : Int) (x6 : Int) (x7 : Int) (w : pj_W)  (R : (Int × Int × Int × Int × pj_W) ⊕ (Int × pj_W) → Prop) (h0 : ∀ r, R (Sum.inr (r)) → ((some (0, r.1) : Option pj_V), r.2) = o) (hk29 : ∀ s, R (Sum.inl s) → Go (29, [(26, 0), (0, x1), (0, x2), (0, x3), (0, s.1), (0, s.2.1), (0, s.2.2.1), (0, s.2.2.2.1), (9, 0), (9, 0), (9, 0), (9, 0)], [], s.2.2.2.2)) : pj_TG R (fM_rounds_84 x1 x2 x3 x4 x5 x6 x7 w) (Go (84, [(26, 0), (0, x1), (0, x2), (0, x3), (0, x4), (0, x5), (0, x6), (0, x7), (9, 0), (9, 0), (9, 0), (9, 0)], [], w)) := by
  unfold fM_rounds_84
  refine pj_tgd (fun h1 => ?_)
  refine pj_map (fun k => pj_aload_n hM (pc := 84) dX12_rounds_84 rfl rfl (pj_getF hM (pc := 85) (t := 68) dX12_rounds_85 fl_X12_47 (by decide) rfl rfl (pj_iload hM (pc := 88) dX12_rounds_88 rfl (pj_ial hM (pc := 90) dX12_rounds_90 ki_68 (by decide) h1 (pj_iconst hM (pc := 91) dX12_rounds_91 (by decide) (pj_iadd hM (pc := 92) dX12_rounds_92 (pj_istore hM (pc := 93) dX12_rounds_93 (by decide) (lls' := [(26, 0), (0, x1), (0, x2), (0, x3), (0, x4), (0, x5), (0, x6), (0, x7), (0, (pj_wr ((w 68 0 x7) + 1))), (9, 0), (9, 0), (9, 0)]) rfl (pj_iload hM (pc := 95) dX12_rounds_95 rfl k)))))))) ?_
  refine pj_tif (fun h2 => ?_) (fun h2 => ?_)
  · refine pj_tgd (fun h3 => ?_)
    refine pj_map (fun k => pj_if_ne_f hM (pc := 97) 109 dX12_rounds_97 rfl (fun q => q h2) (pj_aload_n hM (pc := 100) dX12_rounds_100 rfl rfl (pj_getF hM (pc := 101) (t := 60) dX12_rounds_101 fl_X12_7 (by decide) rfl rfl (pj_iload_n hM (pc := 104) dX12_rounds_104 rfl (pj_ial hM (pc := 105) dX12_rounds_105 ki_60 (by decide) h3 (pj_goto hM (pc := 106) dX12_rounds_106 rfl (pj_kill hM [true, true, true, true, true, true, true, true, true, false, false, false] (lls' := [(26, 0), (0, x1), (0, x2), (0, x3), (0, x4), (0, x5), (0, x6), (0, x7), (0, (pj_wr ((w 68 0 x7) + 1))), (9, 0), (9, 0), (9, 0)]) rfl k))))))) ?_
    exact tM_rounds_127 hM x1 x2 x3 x4 x5 x6 x7 (pj_wr ((w 68 0 x7) + 1)) (w 60 0 x3) w _ h0 hk29
  refine pj_tgd (fun h4 => ?_)
  refine pj_tbind (fun p5 h6 => ?_)
  refine pj_tgd (fun h7 => ?_)
  refine pj_map (fun k => pj_if_ne_t hM (pc := 97) dX12_rounds_97 rfl h2 (pj_aload_n hM (pc := 109) dX12_rounds_109 rfl rfl (pj_getF hM (pc := 110) (t := 60) dX12_rounds_110 fl_X12_7 (by decide) rfl rfl (pj_iconst hM (pc := 113) dX12_rounds_113 (by decide) (pj_aload_n hM (pc := 114) dX12_rounds_114 rfl rfl (pj_getF hM (pc := 115) (t := 68) dX12_rounds_115 fl_X12_47 (by decide) rfl rfl (pj_iload hM (pc := 118) dX12_rounds_118 rfl (pj_iconst hM (pc := 120) dX12_rounds_120 (by decide) (pj_isub hM (pc := 121) dX12_rounds_121 (pj_ial hM (pc := 122) dX12_rounds_122 ki_68 (by decide) h4 (pj_cS hM (pc := 123) (cM_findRow 0 (w 68 0 (pj_wr (x7 - 1))) w p5 h6) dX12_rounds_123 mf_X12_findRow ms_X12_findRow ml_X12_171 rfl rfl rfl rfl (pj_ial hM (pc := 126) dX12_rounds_126 ki_60 (by decide) h7 (pj_kill hM [true, true, true, true, true, true, true, true, true, false, false, false] (lls' := [(26, 0), (0, x1), (0, x2), (0, x3), (0, x4), (0, x5), (0, x6), (0, x7), (0, (pj_wr ((w 68 0 x7) + 1))), (9, 0), (9, 0), (9, 0)]) rfl k))))))))))))) ?_
  exact tM_rounds_127 hM x1 x2 x3 x4 x5 x6 x7 (pj_wr ((w 68 0 x7) + 1)) (w 60 0 p5) w _ h0 hk29
theorem tM_rounds_29b {Go : pj_C → Prop} (hM : pj_M l yX12_rounds cX12_rounds 12 (some .int) 3 68 true g n0 o Go) (x1 : Int) (x2 : Int) (x3 : Int) (x4 : Int) (x5 : Int) (x6 : Int) (x7 : Int) (w : pj_W)  (R : (Int × Int × Int × Int × pj_W) ⊕ (Int × pj_W) → Prop) (h0 : ∀ r, R (Sum.inr (r)) → ((some (0, r.1) : Option pj_V), r.2) = o) (hk29 : ∀ s, R (Sum.inl s) → Go (29, [(26, 0), (0, x1), (0, x2), (0, x3), (0, s.1), (0, s.2.1), (0, s.2.2.1), (0, s.2.2.2.1), (9, 0), (9, 0), (9, 0), (9, 0)], [], s.2.2.2.2)) : pj_TG R (fM_rounds_29b x1 x2 x3 x4 x5 x6 x7 w) (Go (29, [(26, 0), (0, x1), (0, x2), (0, x3), (0, x4), (0, x5), (0, x6), (0, x7), (9, 0), (9, 0), (9, 0), (9, 0)], [], w)) := by
  unfold fM_rounds_29b
  refine pj_map (fun k => pj_iload hM (pc := 29) dX12_rounds_29 rfl k) ?_
  refine pj_tif (fun h1 => ?_) (fun h1 => ?_)
  · exact pj_tret (fun hr => pj_if_lt_t hM (pc := 31) dX12_rounds_31 rfl h1 (pj_iload hM (pc := 399) dX12_rounds_399 rfl (pj_ret hM (pc := 401) dX12_rounds_401 ⟨_, rfl⟩ (h0 ((x4, w)) hr) rfl)))
  refine pj_tgd (fun h2 => ?_)
  refine pj_map (fun k => pj_if_lt_f hM (pc := 31) 399 dX12_rounds_31 rfl h1 (pj_aload_n hM (pc := 34) dX12_rounds_34 rfl rfl (pj_getF hM (pc := 35) (t := 68) dX12_rounds_35 fl_X12_47 (by decide) rfl rfl (pj_iload hM (pc := 38) dX12_rounds_38 rfl (pj_ial hM (pc := 40) dX12_rounds_40 ki_68 (by decide) h2 (pj_iconst hM (pc := 41) dX12_rounds_41 (by decide) k)))))) ?_
  refine pj_tif (fun h3 => ?_) (fun h3 => ?_)
  · refine pj_map (fun k => pj_ic_eq_t hM (pc := 42) dX12_rounds_42 rfl h3 (pj_kill hM [true, true, true, true, true, true, true, true, false, false, false, false] (lls' := [(26, 0), (0, x1), (0, x2), (0, x3), (0, x4), (0, x5), (0, x6), (0, x7), (9, 0), (9, 0), (9, 0), (9, 0)]) rfl k)) ?_
    exact tM_rounds_84 hM x1 x2 x3 x4 x5 x6 x7 w _ h0 hk29
  refine pj_tbind (fun p4 h5 => ?_)
  refine pj_tgd (fun h6 => ?_)
  refine pj_map (fun k => pj_ic_eq_f hM (pc := 42) 84 dX12_rounds_42 rfl h3 (pj_iload hM (pc := 45) dX12_rounds_45 rfl (pj_iconst hM (pc := 47) dX12_rounds_47 (by decide) (pj_aload_n hM (pc := 48) dX12_rounds_48 rfl rfl (pj_getF hM (pc := 49) (t := 68) dX12_rounds_49 fl_X12_47 (by decide) rfl rfl (pj_iload hM (pc := 52) dX12_rounds_52 rfl (pj_ial hM (pc := 54) dX12_rounds_54 ki_68 (by decide) h2 (pj_ishl hM (pc := 55) dX12_rounds_55 (pj_iconst hM (pc := 56) dX12_rounds_56 (by decide) (pj_ixor hM (pc := 57) dX12_rounds_57 (pj_iand hM (pc := 58) dX12_rounds_58 (pj_istore hM (pc := 59) dX12_rounds_59 (by decide) (lls' := [(26, 0), (0, x1), (0, x2), (0, x3), (0, x4), (0, x5), (0, (pj_and x6 (pj_xor (pj_shl 1 (w 68 0 x7)) (-1)))), (0, x7), (9, 0), (9, 0), (9, 0), (9, 0)]) rfl (pj_iload hM (pc := 61) dX12_rounds_61 rfl (pj_aload_n hM (pc := 63) dX12_rounds_63 rfl rfl (pj_getF hM (pc := 64) (t := 60) dX12_rounds_64 fl_X12_7 (by decide) rfl rfl (pj_iconst hM (pc := 67) dX12_rounds_67 (by decide) (pj_aload_n hM (pc := 68) dX12_rounds_68 rfl rfl (pj_getF hM (pc := 69) (t := 68) dX12_rounds_69 fl_X12_47 (by decide) rfl rfl (pj_iload hM (pc := 72) dX12_rounds_72 rfl (pj_ial hM (pc := 74) dX12_rounds_74 ki_68 (by decide) h2 (pj_cS hM (pc := 75) (cM_findRow 0 (w 68 0 x7) w p4 h5) dX12_rounds_75 mf_X12_findRow ms_X12_findRow ml_X12_171 rfl rfl rfl rfl (pj_iconst hM (pc := 78) dX12_rounds_78 (by decide) (pj_iadd hM (pc := 79) dX12_rounds_79 (pj_ial hM (pc := 80) dX12_rounds_80 ki_60 (by decide) h6 (pj_isub hM (pc := 81) dX12_rounds_81 (pj_istore hM (pc := 82) dX12_rounds_82 (by decide) (lls' := [(26, 0), (0, x1), (0, x2), (0, x3), (0, x4), (0, (pj_wr (x5 - (w 60 0 (pj_wr (p4 + 1)))))), (0, (pj_and x6 (pj_xor (pj_shl 1 (w 68 0 x7)) (-1)))), (0, x7), (9, 0), (9, 0), (9, 0), (9, 0)]) rfl (pj_kill hM [true, true, true, true, true, true, true, true, false, false, false, false] (lls' := [(26, 0), (0, x1), (0, x2), (0, x3), (0, x4), (0, (pj_wr (x5 - (w 60 0 (pj_wr (p4 + 1)))))), (0, (pj_and x6 (pj_xor (pj_shl 1 (w 68 0 x7)) (-1)))), (0, x7), (9, 0), (9, 0), (9, 0), (9, 0)]) rfl k))))))))))))))))))))))))))) ?_
  exact tM_rounds_84 hM x1 x2 x3 x4 (pj_wr (x5 - (w 60 0 (pj_wr (p4 + 1))))) (pj_and x6 (pj_xor (pj_shl 1 (w 68 0 x7)) (-1))) x7 w _ h0 hk29
theorem tM_rounds_29 {Go : pj_C → Prop} (hM : pj_M l yX12_rounds cX12_rounds 12 (some .int) 3 68 true g n0 o Go) (x1 : Int) (x2 : Int) (x3 : Int)  (R : Int × pj_W → Prop) (h0 : ∀ r, R (r) → ((some (0, r.1) : Option pj_V), r.2) = o) (s : (Int × Int × Int × Int × pj_W)) : pj_TG R (fM_rounds_29 x1 x2 x3 s) (Go (29, [(26, 0), (0, x1), (0, x2), (0, x3), (0, s.1), (0, s.2.1), (0, s.2.2.1), (0, s.2.2.2.1), (9, 0), (9, 0), (9, 0), (9, 0)], [], s.2.2.2.2)) := by
  unfold fM_rounds_29
  exact pj_tLp (G := fun s : (Int × Int × Int × Int × pj_W) => Go (29, [(26, 0), (0, x1), (0, x2), (0, x3), (0, s.1), (0, s.2.1), (0, s.2.2.1), (0, s.2.2.2.1), (9, 0), (9, 0), (9, 0), (9, 0)], [], s.2.2.2.2)) (fun s => tM_rounds_29b hM x1 x2 x3 s.1 s.2.1 s.2.2.1 s.2.2.2.1 s.2.2.2.2  _ (fun r h => h0 r h)  (fun s h => h)) s
theorem tM_rounds {Go : pj_C → Prop} (hM : pj_M l yX12_rounds cX12_rounds 12 (some .int) 3 68 true g n0 o Go) (x1 : Int) (x2 : Int) (w : pj_W)  (R : Int × pj_W → Prop) (h0 : ∀ r, R (r) → ((some (0, r.1) : Option pj_V), r.2) = o) : pj_TG R (fM_rounds x1 x2 w) (Go (0, [(26, 0), (0, x1), (0, x2), (9, 0), (9, 0), (9, 0), (9, 0), (9, 0), (9, 0), (9, 0), (9, 0), (9, 0)], [], w)) := by
  unfold fM_rounds
  refine pj_tbind (fun p1 h2 => ?_)
  refine pj_map (fun k => pj_iload_n hM (pc := 0) dX12_rounds_0 rfl (pj_cS hM (pc := 1) (cM_finderRow x1 w p1 h2) dX12_rounds_1 mf_X12_finderRow ms_X12_finderRow ml_X12_274 rfl rfl rfl rfl (pj_istore_n hM (pc := 4) dX12_rounds_4 (by decide) (lls' := [(26, 0), (0, x1), (0, x2), (0, p1), (9, 0), (9, 0), (9, 0), (9, 0), (9, 0), (9, 0), (9, 0), (9, 0)]) rfl (pj_iconst hM (pc := 5) dX12_rounds_5 (by decide) (pj_istore hM (pc := 6) dX12_rounds_6 (by decide) (lls' := [(26, 0), (0, x1), (0, x2), (0, p1), (0, 0), (9, 0), (9, 0), (9, 0), (9, 0), (9, 0), (9, 0), (9, 0)]) rfl (pj_iconst hM (pc := 8) dX12_rounds_8 (by decide) (pj_istore hM (pc := 9) dX12_rounds_9 (by decide) (lls' := [(26, 0), (0, x1), (0, x2), (0, p1), (0, 0), (0, 0), (9, 0), (9, 0), (9, 0), (9, 0), (9, 0), (9, 0)]) rfl (pj_iconst hM (pc := 11) dX12_rounds_11 (by decide) (pj_istore hM (pc := 12) dX12_rounds_12 (by decide) (lls' := [(26, 0), (0, x1), (0, x2), (0, p1), (0, 0), (0, 0), (0, 0), (9, 0), (9, 0), (9, 0), (9, 0), (9, 0)]) rfl (pj_iconst hM (pc := 14) dX12_rounds_14 (by decide) (pj_istore hM (pc := 15) dX12_rounds_15 (by decide) (lls' := [(26, 0), (0, x1), (0, x2), (0, p1), (0, 0), (0, 0), (0, 0), (0, 0), (9, 0), (9, 0), (9, 0), (9, 0)]) rfl (pj_aload_n hM (pc := 17) dX12_rounds_17 rfl rfl (pj_iconst hM (pc := 18) dX12_rounds_18 (by decide) (pj_pf hM (pc := 19) dX12_rounds_19 fl_X12_396 (by decide) rfl (fun h => absurd h (by decide)) (by decide) (fun _ => rfl) 29 rfl (pj_aload_n hM (pc := 22) dX12_rounds_22 rfl rfl (pj_getF hM (pc := 23) (t := 68) dX12_rounds_23 fl_X12_47 (by decide) rfl rfl (pj_iconst hM (pc := 26) dX12_rounds_26 (by decide) (pj_iconst hM (pc := 27) dX12_rounds_27 (by decide) (pj_ias hM (pc := 28) dX12_rounds_28 ki_68 (by decide) (by decide) (pj_kill hM [true, true, true, true, true, true, true, true, false, false, false, false] (lls' := [(26, 0), (0, x1), (0, x2), (0, p1), (0, 0), (0, 0), (0, 0), (0, 0), (9, 0), (9, 0), (9, 0), (9, 0)]) rfl k)))))))))))))))))))) ?_
  exact tM_rounds_29 hM x1 x2 p1 _ h0 _
theorem cM_rounds (x1 : Int) (x2 : Int)  (w : pj_W) (r : Int × pj_W) (h : fM_rounds x1 x2 w = some r) : pj_Cn l yX12_rounds cX12_rounds 12 (some .int) 3 68 true g [(26, 0), (0, x1), (0, x2)] w ((some (0, r.1) : Option pj_V), r.2) :=
  pj_Cn_of rfl (Nat.le_of_ble_eq_true rfl) (lls := [(26, 0), (0, x1), (0, x2), (9, 0), (9, 0), (9, 0), (9, 0), (9, 0), (9, 0), (9, 0), (9, 0), (9, 0)]) rfl (fun Go hM => tM_rounds hM x1 x2 w (fun x => ((some (0, x.1) : Option pj_V), x.2) = ((some (0, r.1) : Option pj_V), r.2)) (fun r h => h) r h rfl)
noncomputable def fM_best_36b (x2 : Int) (x3 : Int) (w : pj_W) : Option ((Int × pj_W) ⊕ (Int × pj_W)) :=
  if (w 26 0 29) ≤ x3 then ((fM_gives x2 w).bind fun p2 => (some (Sum.inr ((p2.1, p2.2))))) else (if 0 ≤ x3 ∧ x3 < 8 then (some (Sum.inl ((pj_wr (x3 + 1)), (pj_set w 71 0 x3 (w 70 0 x3))))) else none)
noncomputable def fM_best_36 (x2 : Int) (s : (Int × pj_W)) : Option (Int × pj_W) := pj_Lp (fun s : (Int × pj_W) => fM_best_36b x2 s.1 s.2) s
noncomputable def fM_best (x1 : Int) (w : pj_W) : Option (Int × pj_W) :=
  (fM_isFinder x1 w).bind fun p1 => (if p1 = 0 then ((fM_refuse 1 w).bind fun p4 => (some ((p4.1, p4.2)))) else ((fM_rounds x1 (w 60 0 3) w).bind fun p6 => (fM_best_36 p6.1 (0, (pj_set p6.2 26 0 30 (p6.2 26 0 29))))))
theorem tM_best_36b {Go : pj_C → Prop} (hM : pj_M l yX12_best cX12_best 4 (some .int) 4 99 true g n0 o Go) (x2 : Int) (x3 : Int) (w : pj_W)  (R : (Int × pj_W) ⊕ (Int × pj_W) → Prop) (h0 : ∀ r, R (Sum.inr (r)) → ((some (0, r.1) : Option pj_V), r.2) = o) (hk36 : ∀ s, R (Sum.inl s) → Go (36, [(26, 0), (9, 0), (0, x2), (0, s.1)], [], s.2)) : pj_TG R (fM_best_36b x2 x3 w) (Go (36, [(26, 0), (9, 0), (0, x2), (0, x3)], [], w)) := by
  unfold fM_best_36b
  refine pj_map (fun k => pj_iload_n hM (pc := 36) dX12_best_36 rfl (pj_aload_n hM (pc := 37) dX12_best_37 rfl rfl (pj_gf hM (pc := 38) (t := 0) dX12_best_38 fl_X12_396 (by decide) rfl 29 rfl k))) ?_
  refine pj_tif (fun h1 => ?_) (fun h1 => ?_)
  · refine pj_tbind (fun p2 h3 => ?_)
    exact pj_tret (fun hr => pj_ic_ge_t hM (pc := 41) dX12_best_41 rfl h1 (pj_aload_n hM (pc := 62) dX12_best_62 rfl rfl (pj_iload_n hM (pc := 63) dX12_best_63 rfl (pj_cV hM (pc := 64) (cM_gives x2 w p2 h3) dX12_best_64 mf_X12_gives mv_X12_gives ml_X12_82 kc_26 rfl rfl (by decide) rfl rfl (pj_ret hM (pc := 67) dX12_best_67 ⟨_, rfl⟩ (h0 ((p2.1, p2.2)) hr) rfl)))))
  refine pj_tgd (fun h4 => ?_)
  exact pj_tret (fun hr => pj_ic_ge_f hM (pc := 41) 62 dX12_best_41 rfl h1 (pj_aload_n hM (pc := 44) dX12_best_44 rfl rfl (pj_getF hM (pc := 45) (t := 71) dX12_best_45 fl_X12_56 (by decide) rfl rfl (pj_iload_n hM (pc := 48) dX12_best_48 rfl (pj_aload_n hM (pc := 49) dX12_best_49 rfl rfl (pj_getF hM (pc := 50) (t := 70) dX12_best_50 fl_X12_53 (by decide) rfl rfl (pj_iload_n hM (pc := 53) dX12_best_53 rfl (pj_ial hM (pc := 54) dX12_best_54 ki_70 (by decide) h4 (pj_ias hM (pc := 55) dX12_best_55 ki_71 (by decide) h4 (pj_iinc hM (pc := 56) dX12_best_56 rfl (by decide) (lls' := [(26, 0), (9, 0), (0, x2), (0, (pj_wr (x3 + 1)))]) rfl (pj_goto hM (pc := 59) dX12_best_59 rfl (pj_kill hM [true, false, true, true] (lls' := [(26, 0), (9, 0), (0, x2), (0, (pj_wr (x3 + 1)))]) rfl ((hk36 _ hr))))))))))))))
theorem tM_best_36 {Go : pj_C → Prop} (hM : pj_M l yX12_best cX12_best 4 (some .int) 4 99 true g n0 o Go) (x2 : Int)  (R : Int × pj_W → Prop) (h0 : ∀ r, R (r) → ((some (0, r.1) : Option pj_V), r.2) = o) (s : (Int × pj_W)) : pj_TG R (fM_best_36 x2 s) (Go (36, [(26, 0), (9, 0), (0, x2), (0, s.1)], [], s.2)) := by
  unfold fM_best_36
  exact pj_tLp (G := fun s : (Int × pj_W) => Go (36, [(26, 0), (9, 0), (0, x2), (0, s.1)], [], s.2)) (fun s => tM_best_36b hM x2 s.1 s.2  _ (fun r h => h0 r h)  (fun s h => h)) s
theorem tM_best {Go : pj_C → Prop} (hM : pj_M l yX12_best cX12_best 4 (some .int) 4 99 true g n0 o Go) (x1 : Int) (w : pj_W)  (R : Int × pj_W → Prop) (h0 : ∀ r, R (r) → ((some (0, r.1) : Option pj_V), r.2) = o) : pj_TG R (fM_best x1 w) (Go (0, [(26, 0), (0, x1), (9, 0), (9, 0)], [], w)) := by
  unfold fM_best
  refine pj_tbind (fun p1 h2 => ?_)
  refine pj_map (fun k => pj_aload_n hM (pc := 0) dX12_best_0 rfl rfl (pj_iload_n hM (pc := 1) dX12_best_1 rfl (pj_cV hM (pc := 2) (cM_isFinder x1 w p1 h2) dX12_best_2 mf_X12_isFinder mv_X12_isFinder ml_X12_271 kc_26 rfl rfl (by decide) rfl rfl k))) ?_
  refine pj_tif (fun h3 => ?_) (fun h3 => ?_)
  · refine pj_tbind (fun p4 h5 => ?_)
    exact pj_tret (fun hr => pj_if_ne_f hM (pc := 5) 14 dX12_best_5 rfl (fun q => q h3) (pj_aload_n hM (pc := 8) dX12_best_8 rfl rfl (pj_iconst hM (pc := 9) dX12_best_9 (by decide) (pj_cV hM (pc := 10) (cM_refuse 1 w p4 h5) dX12_best_10 mf_X12_refuse mv_X12_refuse ml_X12_78 kc_26 rfl rfl (by decide) rfl rfl (pj_ret hM (pc := 13) dX12_best_13 ⟨_, rfl⟩ (h0 ((p4.1, p4.2)) hr) rfl)))))
  refine pj_tbind (fun p6 h7 => ?_)
  refine pj_map (fun k => pj_if_ne_t hM (pc := 5) dX12_best_5 rfl h3 (pj_aload_n hM (pc := 14) dX12_best_14 rfl rfl (pj_iload_n hM (pc := 15) dX12_best_15 rfl (pj_aload_n hM (pc := 16) dX12_best_16 rfl rfl (pj_getF hM (pc := 17) (t := 60) dX12_best_17 fl_X12_7 (by decide) rfl rfl (pj_iconst hM (pc := 20) dX12_best_20 (by decide) (pj_ial hM (pc := 21) dX12_best_21 ki_60 (by decide) (by decide) (pj_cV hM (pc := 22) (cM_rounds x1 (w 60 0 3) w p6 h7) dX12_best_22 mf_X12_rounds mv_X12_rounds ml_X12_399 kc_26 rfl rfl (by decide) rfl rfl (pj_istore_n hM (pc := 25) dX12_best_25 (by decide) (lls' := [(26, 0), (0, x1), (0, p6.1), (9, 0)]) rfl (pj_aload_n hM (pc := 26) dX12_best_26 rfl rfl (pj_aload_n hM (pc := 27) dX12_best_27 rfl rfl (pj_gf hM (pc := 28) (t := 0) dX12_best_28 fl_X12_396 (by decide) rfl 29 rfl (pj_pf hM (pc := 31) dX12_best_31 fl_X12_402 (by decide) rfl (fun h => absurd h (by decide)) (by decide) (fun _ => rfl) 30 rfl (pj_iconst hM (pc := 34) dX12_best_34 (by decide) (pj_istore_n hM (pc := 35) dX12_best_35 (by decide) (lls' := [(26, 0), (0, x1), (0, p6.1), (0, 0)]) rfl (pj_kill hM [true, false, true, true] (lls' := [(26, 0), (9, 0), (0, p6.1), (0, 0)]) rfl k)))))))))))))))) ?_
  exact tM_best_36 hM p6.1 _ h0 _
theorem cM_best (x1 : Int)  (w : pj_W) (r : Int × pj_W) (h : fM_best x1 w = some r) : pj_Cn l yX12_best cX12_best 4 (some .int) 4 99 true g [(26, 0), (0, x1)] w ((some (0, r.1) : Option pj_V), r.2) :=
  pj_Cn_of rfl (Nat.le_of_ble_eq_true rfl) (lls := [(26, 0), (0, x1), (9, 0), (9, 0)]) rfl (fun Go hM => tM_best hM x1 w (fun x => ((some (0, x.1) : Option pj_V), x.2) = ((some (0, r.1) : Option pj_V), r.2)) (fun r h => h) r h rfl)
noncomputable def fM_bestAt_12  (w : pj_W) : Option (Int × pj_W) :=
  (fM_refuse 6 w).bind fun p1 => (some ((p1.1, p1.2)))
noncomputable def fM_bestAt (x1 : Int) (w : pj_W) : Option (Int × pj_W) :=
  if x1 < 0 then (fM_bestAt_12 w) else (if x1 < (w 26 0 30) then (if 0 ≤ x1 ∧ x1 < 8 then ((fM_gives (w 71 0 x1) w).bind fun p4 => (some ((p4.1, p4.2)))) else none) else (fM_bestAt_12 w))
theorem tM_bestAt_12 {Go : pj_C → Prop} (hM : pj_M l yX12_bestAt cX12_bestAt 2 (some .int) 1 21 true g n0 o Go)  (w : pj_W)  (R : Int × pj_W → Prop) (h0 : ∀ r, R (r) → ((some (0, r.1) : Option pj_V), r.2) = o) : pj_TG R (fM_bestAt_12  w) (Go (12, [(26, 0), (9, 0)], [], w)) := by
  unfold fM_bestAt_12
  refine pj_tbind (fun p1 h2 => ?_)
  exact pj_tret (fun hr => pj_aload_n hM (pc := 12) dX12_bestAt_12 rfl rfl (pj_bipush hM (pc := 13) dX12_bestAt_13 (by decide) (pj_cV hM (pc := 15) (cM_refuse 6 w p1 h2) dX12_bestAt_15 mf_X12_refuse mv_X12_refuse ml_X12_78 kc_26 rfl rfl (by decide) rfl rfl (pj_goto hM (pc := 18) dX12_bestAt_18 rfl (pj_ret hM (pc := 31) dX12_bestAt_31 ⟨_, rfl⟩ (h0 ((p1.1, p1.2)) hr) rfl)))))
theorem tM_bestAt {Go : pj_C → Prop} (hM : pj_M l yX12_bestAt cX12_bestAt 2 (some .int) 1 21 true g n0 o Go) (x1 : Int) (w : pj_W)  (R : Int × pj_W → Prop) (h0 : ∀ r, R (r) → ((some (0, r.1) : Option pj_V), r.2) = o) : pj_TG R (fM_bestAt x1 w) (Go (0, [(26, 0), (0, x1)], [], w)) := by
  unfold fM_bestAt
  refine pj_map (fun k => pj_iload_n hM (pc := 0) dX12_bestAt_0 rfl k) ?_
  refine pj_tif (fun h1 => ?_) (fun h1 => ?_)
  · refine pj_map (fun k => pj_if_lt_t hM (pc := 1) dX12_bestAt_1 rfl h1 (pj_kill hM [true, false] (lls' := [(26, 0), (9, 0)]) rfl k)) ?_
    exact tM_bestAt_12 hM w _ h0
  refine pj_map (fun k => pj_if_lt_f hM (pc := 1) 12 dX12_bestAt_1 rfl h1 (pj_iload_n hM (pc := 4) dX12_bestAt_4 rfl (pj_aload_n hM (pc := 5) dX12_bestAt_5 rfl rfl (pj_gf hM (pc := 6) (t := 0) dX12_bestAt_6 fl_X12_402 (by decide) rfl 30 rfl k)))) ?_
  refine pj_tif (fun h2 => ?_) (fun h2 => ?_)
  · refine pj_tgd (fun h3 => ?_)
    refine pj_tbind (fun p4 h5 => ?_)
    exact pj_tret (fun hr => pj_ic_lt_t hM (pc := 9) dX12_bestAt_9 rfl h2 (pj_aload_n hM (pc := 21) dX12_bestAt_21 rfl rfl (pj_aload_n hM (pc := 22) dX12_bestAt_22 rfl rfl (pj_getF hM (pc := 23) (t := 71) dX12_bestAt_23 fl_X12_56 (by decide) rfl rfl (pj_iload_n hM (pc := 26) dX12_bestAt_26 rfl (pj_ial hM (pc := 27) dX12_bestAt_27 ki_71 (by decide) h3 (pj_cV hM (pc := 28) (cM_gives (w 71 0 x1) w p4 h5) dX12_bestAt_28 mf_X12_gives mv_X12_gives ml_X12_82 kc_26 rfl rfl (by decide) rfl rfl (pj_ret hM (pc := 31) dX12_bestAt_31 ⟨_, rfl⟩ (h0 ((p4.1, p4.2)) hr) rfl))))))))
  refine pj_map (fun k => pj_ic_lt_f hM (pc := 9) 21 dX12_bestAt_9 rfl h2 (pj_kill hM [true, false] (lls' := [(26, 0), (9, 0)]) rfl k)) ?_
  exact tM_bestAt_12 hM w _ h0
theorem cM_bestAt (x1 : Int)  (w : pj_W) (r : Int × pj_W) (h : fM_bestAt x1 w = some r) : pj_Cn l yX12_bestAt cX12_bestAt 2 (some .int) 1 21 true g [(26, 0), (0, x1)] w ((some (0, r.1) : Option pj_V), r.2) :=
  pj_Cn_of rfl (Nat.le_of_ble_eq_true rfl) (lls := [(26, 0), (0, x1)]) rfl (fun Go hM => tM_bestAt hM x1 w (fun x => ((some (0, x.1) : Option pj_V), x.2) = ((some (0, r.1) : Option pj_V), r.2)) (fun r h => h) r h rfl)
noncomputable def fM_isFrom (x0 : Int) (x2 : Int) (x4 : Int) (w : pj_W) : Option (Int) :=
  if (pj_cmp x0 x2) < 0 then (some (0)) else (if 0 < (pj_cmp x0 x4) then (some (0)) else (some (1)))
theorem tM_isFrom {Go : pj_C → Prop} (hM : pj_M l yX12_isFrom cX12_isFrom 6 (some .boolean) 0 0 ph g n0 o Go) (x0 : Int) (x2 : Int) (x4 : Int) (w : pj_W)  (R : Int → Prop) (h0 : ∀ r, R (r) → ((some (0, r) : Option pj_V), w) = o) : pj_TG R (fM_isFrom x0 x2 x4 w) (Go (0, [(1, x0), (9, 0), (1, x2), (9, 0), (1, x4), (9, 0)], [], w)) := by
  unfold fM_isFrom
  refine pj_map (fun k => pj_lload_n hM (pc := 0) dX12_isFrom_0 rfl (pj_lload_n hM (pc := 1) dX12_isFrom_1 rfl (pj_lcmp hM (pc := 2) dX12_isFrom_2 k))) ?_
  refine pj_tif (fun h1 => ?_) (fun h1 => ?_)
  · exact pj_tret (fun hr => pj_if_lt_t hM (pc := 3) dX12_isFrom_3 rfl h1 (pj_iconst hM (pc := 17) dX12_isFrom_17 (by decide) (pj_ret hM (pc := 18) dX12_isFrom_18 ⟨_, rfl, Or.inl rfl⟩ (h0 (0) hr) rfl)))
  refine pj_map (fun k => pj_if_lt_f hM (pc := 3) 17 dX12_isFrom_3 rfl h1 (pj_lload_n hM (pc := 6) dX12_isFrom_6 rfl (pj_lload hM (pc := 7) dX12_isFrom_7 rfl (pj_lcmp hM (pc := 9) dX12_isFrom_9 k)))) ?_
  refine pj_tif (fun h2 => ?_) (fun h2 => ?_)
  · exact pj_tret (fun hr => pj_if_gt_t hM (pc := 10) dX12_isFrom_10 rfl h2 (pj_iconst hM (pc := 17) dX12_isFrom_17 (by decide) (pj_ret hM (pc := 18) dX12_isFrom_18 ⟨_, rfl, Or.inl rfl⟩ (h0 (0) hr) rfl)))
  exact pj_tret (fun hr => pj_if_gt_f hM (pc := 10) 17 dX12_isFrom_10 rfl h2 (pj_iconst hM (pc := 13) dX12_isFrom_13 (by decide) (pj_goto hM (pc := 14) dX12_isFrom_14 rfl (pj_ret hM (pc := 18) dX12_isFrom_18 ⟨_, rfl, Or.inr rfl⟩ (h0 (1) hr) rfl))))
theorem cM_isFrom (x0 : Int) (x2 : Int) (x4 : Int)  (w : pj_W) (r : Int) (h : fM_isFrom x0 x2 x4 w = some r) : pj_Cn l yX12_isFrom cX12_isFrom 6 (some .boolean) 0 0 ph g [(1, x0), (1, x2), (1, x4)] w ((some (0, r) : Option pj_V), w) :=
  pj_Cn_of rfl (Nat.le_of_ble_eq_true rfl) (lls := [(1, x0), (9, 0), (1, x2), (9, 0), (1, x4), (9, 0)]) rfl (fun Go hM => tM_isFrom hM x0 x2 x4 w (fun x => ((some (0, x) : Option pj_V), w) = ((some (0, r) : Option pj_V), w)) (fun r h => h) r h rfl)
noncomputable def fM_seenBy_62 (x1 : Int) (x2 : Int) (x4 : Int) (s0 : Int) (s1 : Int) (w : pj_W) : Option ((Int × Int) ⊕ (Int)) :=
  some (Sum.inl ((pj_or s0 s1), (pj_wr (x4 + 1))))
noncomputable def fM_seenBy_61 (x1 : Int) (x2 : Int) (x4 : Int) (s0 : Int) (w : pj_W) : Option ((Int × Int) ⊕ (Int)) :=
  fM_seenBy_62 x1 x2 x4 s0 0 w
noncomputable def fM_seenBy_5b (x1 : Int) (x2 : Int) (w : pj_W) (x3 : Int) (x4 : Int) : Option ((Int × Int) ⊕ (Int)) :=
  if (w 60 0 2) ≤ x4 then (some (Sum.inr (x3))) else ((fM_isThere x4 w).bind fun p2 => (if p2 = 0 then (fM_seenBy_61 x1 x2 x4 x3 w) else ((fM_findRow 0 x4 w).bind fun p5 => (if 0 ≤ p5 ∧ p5 < 8400 then ((fM_finderRow x1 w).bind fun p8 => (if 0 ≤ p8 ∧ p8 < 8400 then (if x2 < (pj_abs (pj_wr ((w 60 0 p5) - (w 60 0 p8)))) then (fM_seenBy_61 x1 x2 x4 x3 w) else (fM_seenBy_62 x1 x2 x4 x3 (pj_shl 1 x4) w)) else none)) else none))))
noncomputable def fM_seenBy_5 (x1 : Int) (x2 : Int) (w : pj_W) (s : (Int × Int)) : Option (Int) := pj_Lp (fun s : (Int × Int) => fM_seenBy_5b x1 x2 w s.1 s.2) s
noncomputable def fM_seenBy (x1 : Int) (x2 : Int) (w : pj_W) : Option (Int) :=
  fM_seenBy_5 x1 x2 w (0, 0)
theorem tM_seenBy_62 {Go : pj_C → Prop} (hM : pj_M l yX12_seenBy cX12_seenBy 5 (some .int) 1 21 true g n0 o Go) (x1 : Int) (x2 : Int) (x4 : Int) (s0 : Int) (s1 : Int) (w : pj_W)  (R : (Int × Int) ⊕ (Int) → Prop) (h0 : ∀ r, R (Sum.inr (r)) → ((some (0, r) : Option pj_V), w) = o) (hk5 : ∀ s, R (Sum.inl s) → Go (5, [(26, 0), (0, x1), (0, x2), (0, s.1), (0, s.2)], [], w)) : pj_TG R (fM_seenBy_62 x1 x2 x4 s0 s1 w) (Go (62, [(26, 0), (0, x1), (0, x2), (9, 0), (0, x4)], [(0, s1), (0, s0)], w)) := by
  unfold fM_seenBy_62
  exact pj_tret (fun hr => pj_ior hM (pc := 62) dX12_seenBy_62 (pj_istore_n hM (pc := 63) dX12_seenBy_63 (by decide) (lls' := [(26, 0), (0, x1), (0, x2), (0, (pj_or s0 s1)), (0, x4)]) rfl (pj_iinc hM (pc := 64) dX12_seenBy_64 rfl (by decide) (lls' := [(26, 0), (0, x1), (0, x2), (0, (pj_or s0 s1)), (0, (pj_wr (x4 + 1)))]) rfl (pj_goto hM (pc := 67) dX12_seenBy_67 rfl (pj_kill hM [true, true, true, true, true] (lls' := [(26, 0), (0, x1), (0, x2), (0, (pj_or s0 s1)), (0, (pj_wr (x4 + 1)))]) rfl ((hk5 _ hr)))))))
theorem tM_seenBy_61 {Go : pj_C → Prop} (hM : pj_M l yX12_seenBy cX12_seenBy 5 (some .int) 1 21 true g n0 o Go) (x1 : Int) (x2 : Int) (x4 : Int) (s0 : Int) (w : pj_W)  (R : (Int × Int) ⊕ (Int) → Prop) (h0 : ∀ r, R (Sum.inr (r)) → ((some (0, r) : Option pj_V), w) = o) (hk5 : ∀ s, R (Sum.inl s) → Go (5, [(26, 0), (0, x1), (0, x2), (0, s.1), (0, s.2)], [], w)) : pj_TG R (fM_seenBy_61 x1 x2 x4 s0 w) (Go (61, [(26, 0), (0, x1), (0, x2), (9, 0), (0, x4)], [(0, s0)], w)) := by
  unfold fM_seenBy_61
  refine pj_map (fun k => pj_iconst hM (pc := 61) dX12_seenBy_61 (by decide) (pj_kill hM [true, true, true, false, true] (lls' := [(26, 0), (0, x1), (0, x2), (9, 0), (0, x4)]) rfl k)) ?_
  exact tM_seenBy_62 hM x1 x2 x4 s0 0 w _ h0 hk5
theorem tM_seenBy_5b {Go : pj_C → Prop} (hM : pj_M l yX12_seenBy cX12_seenBy 5 (some .int) 1 21 true g n0 o Go) (x1 : Int) (x2 : Int) (w : pj_W) (x3 : Int) (x4 : Int)  (R : (Int × Int) ⊕ (Int) → Prop) (h0 : ∀ r, R (Sum.inr (r)) → ((some (0, r) : Option pj_V), w) = o) (hk5 : ∀ s, R (Sum.inl s) → Go (5, [(26, 0), (0, x1), (0, x2), (0, s.1), (0, s.2)], [], w)) : pj_TG R (fM_seenBy_5b x1 x2 w x3 x4) (Go (5, [(26, 0), (0, x1), (0, x2), (0, x3), (0, x4)], [], w)) := by
  unfold fM_seenBy_5b
  refine pj_map (fun k => pj_iload hM (pc := 5) dX12_seenBy_5 rfl (pj_aload_n hM (pc := 7) dX12_seenBy_7 rfl rfl (pj_getF hM (pc := 8) (t := 60) dX12_seenBy_8 fl_X12_7 (by decide) rfl rfl (pj_iconst hM (pc := 11) dX12_seenBy_11 (by decide) (pj_ial hM (pc := 12) dX12_seenBy_12 ki_60 (by decide) (by decide) k))))) ?_
  refine pj_tif (fun h1 => ?_) (fun h1 => ?_)
  · exact pj_tret (fun hr => pj_ic_ge_t hM (pc := 13) dX12_seenBy_13 rfl h1 (pj_iload_n hM (pc := 70) dX12_seenBy_70 rfl (pj_ret hM (pc := 71) dX12_seenBy_71 ⟨_, rfl⟩ (h0 (x3) hr) rfl)))
  refine pj_tbind (fun p2 h3 => ?_)
  refine pj_map (fun k => pj_ic_ge_f hM (pc := 13) 70 dX12_seenBy_13 rfl h1 (pj_iload_n hM (pc := 16) dX12_seenBy_16 rfl (pj_aload_n hM (pc := 17) dX12_seenBy_17 rfl rfl (pj_iload hM (pc := 18) dX12_seenBy_18 rfl (pj_cV hM (pc := 20) (cM_isThere x4 w p2 h3) dX12_seenBy_20 mf_X12_isThere mv_X12_isThere ml_X12_268 kc_26 rfl rfl (by decide) rfl rfl k))))) ?_
  refine pj_tif (fun h4 => ?_) (fun h4 => ?_)
  · refine pj_map (fun k => pj_if_eq_t hM (pc := 23) dX12_seenBy_23 rfl h4 (pj_kill hM [true, true, true, false, true] (lls' := [(26, 0), (0, x1), (0, x2), (9, 0), (0, x4)]) rfl k)) ?_
    exact tM_seenBy_61 hM x1 x2 x4 x3 w _ h0 hk5
  refine pj_tbind (fun p5 h6 => ?_)
  refine pj_tgd (fun h7 => ?_)
  refine pj_tbind (fun p8 h9 => ?_)
  refine pj_tgd (fun h10 => ?_)
  refine pj_map (fun k => pj_if_eq_f hM (pc := 23) 61 dX12_seenBy_23 rfl h4 (pj_aload_n hM (pc := 26) dX12_seenBy_26 rfl rfl (pj_getF hM (pc := 27) (t := 60) dX12_seenBy_27 fl_X12_7 (by decide) rfl rfl (pj_iconst hM (pc := 30) dX12_seenBy_30 (by decide) (pj_iload hM (pc := 31) dX12_seenBy_31 rfl (pj_cS hM (pc := 33) (cM_findRow 0 x4 w p5 h6) dX12_seenBy_33 mf_X12_findRow ms_X12_findRow ml_X12_171 rfl rfl rfl rfl (pj_ial hM (pc := 36) dX12_seenBy_36 ki_60 (by decide) h7 (pj_aload_n hM (pc := 37) dX12_seenBy_37 rfl rfl (pj_getF hM (pc := 38) (t := 60) dX12_seenBy_38 fl_X12_7 (by decide) rfl rfl (pj_iload_n hM (pc := 41) dX12_seenBy_41 rfl (pj_cS hM (pc := 42) (cM_finderRow x1 w p8 h9) dX12_seenBy_42 mf_X12_finderRow ms_X12_finderRow ml_X12_274 rfl rfl rfl rfl (pj_ial hM (pc := 45) dX12_seenBy_45 ki_60 (by decide) h10 (pj_isub hM (pc := 46) dX12_seenBy_46 (pj_mabs hM (pc := 47) dX12_seenBy_47 mf_J9_abs_0f7a4 ms_J9_abs_0f7a4 ml_X12_280 rfl (pj_iload_n hM (pc := 50) dX12_seenBy_50 rfl k))))))))))))))) ?_
  refine pj_tif (fun h11 => ?_) (fun h11 => ?_)
  · refine pj_map (fun k => pj_ic_gt_t hM (pc := 51) dX12_seenBy_51 rfl h11 (pj_kill hM [true, true, true, false, true] (lls' := [(26, 0), (0, x1), (0, x2), (9, 0), (0, x4)]) rfl k)) ?_
    exact tM_seenBy_61 hM x1 x2 x4 x3 w _ h0 hk5
  refine pj_map (fun k => pj_ic_gt_f hM (pc := 51) 61 dX12_seenBy_51 rfl h11 (pj_iconst hM (pc := 54) dX12_seenBy_54 (by decide) (pj_iload hM (pc := 55) dX12_seenBy_55 rfl (pj_ishl hM (pc := 57) dX12_seenBy_57 (pj_goto hM (pc := 58) dX12_seenBy_58 rfl (pj_kill hM [true, true, true, false, true] (lls' := [(26, 0), (0, x1), (0, x2), (9, 0), (0, x4)]) rfl k)))))) ?_
  exact tM_seenBy_62 hM x1 x2 x4 x3 (pj_shl 1 x4) w _ h0 hk5
theorem tM_seenBy_5 {Go : pj_C → Prop} (hM : pj_M l yX12_seenBy cX12_seenBy 5 (some .int) 1 21 true g n0 o Go) (x1 : Int) (x2 : Int) (w : pj_W)  (R : Int → Prop) (h0 : ∀ r, R (r) → ((some (0, r) : Option pj_V), w) = o) (s : (Int × Int)) : pj_TG R (fM_seenBy_5 x1 x2 w s) (Go (5, [(26, 0), (0, x1), (0, x2), (0, s.1), (0, s.2)], [], w)) := by
  unfold fM_seenBy_5
  exact pj_tLp (G := fun s : (Int × Int) => Go (5, [(26, 0), (0, x1), (0, x2), (0, s.1), (0, s.2)], [], w)) (fun s => tM_seenBy_5b hM x1 x2 w s.1 s.2  _ (fun r h => h0 r h)  (fun s h => h)) s
theorem tM_seenBy {Go : pj_C → Prop} (hM : pj_M l yX12_seenBy cX12_seenBy 5 (some .int) 1 21 true g n0 o Go) (x1 : Int) (x2 : Int) (w : pj_W)  (R : Int → Prop) (h0 : ∀ r, R (r) → ((some (0, r) : Option pj_V), w) = o) : pj_TG R (fM_seenBy x1 x2 w) (Go (0, [(26, 0), (0, x1), (0, x2), (9, 0), (9, 0)], [], w)) := by
  unfold fM_seenBy
  refine pj_map (fun k => pj_iconst hM (pc := 0) dX12_seenBy_0 (by decide) (pj_istore_n hM (pc := 1) dX12_seenBy_1 (by decide) (lls' := [(26, 0), (0, x1), (0, x2), (0, 0), (9, 0)]) rfl (pj_iconst hM (pc := 2) dX12_seenBy_2 (by decide) (pj_istore hM (pc := 3) dX12_seenBy_3 (by decide) (lls' := [(26, 0), (0, x1), (0, x2), (0, 0), (0, 0)]) rfl (pj_kill hM [true, true, true, true, true] (lls' := [(26, 0), (0, x1), (0, x2), (0, 0), (0, 0)]) rfl k))))) ?_
  exact tM_seenBy_5 hM x1 x2 w _ h0 _
theorem cM_seenBy (x1 : Int) (x2 : Int)  (w : pj_W) (r : Int) (h : fM_seenBy x1 x2 w = some r) : pj_Cn l yX12_seenBy cX12_seenBy 5 (some .int) 1 21 true g [(26, 0), (0, x1), (0, x2)] w ((some (0, r) : Option pj_V), w) :=
  pj_Cn_of rfl (Nat.le_of_ble_eq_true rfl) (lls := [(26, 0), (0, x1), (0, x2), (9, 0), (9, 0)]) rfl (fun Go hM => tM_seenBy hM x1 x2 w (fun x => ((some (0, x) : Option pj_V), w) = ((some (0, r) : Option pj_V), w)) (fun r h => h) r h rfl)
noncomputable def fM_both_33  (w : pj_W) : Option (Int × pj_W) :=
  (fM_refuse 1 w).bind fun p1 => (some ((p1.1, p1.2)))
noncomputable def fM_both (x1 : Int) (x2 : Int) (x3 : Int) (w : pj_W) : Option (Int × pj_W) :=
  (fM_isFinder x1 w).bind fun p1 => (if p1 = 0 then (fM_both_33 w) else ((fM_isFinder x2 w).bind fun p4 => (if p4 = 0 then (fM_both_33 w) else (if x1 = x2 then (fM_both_33 w) else ((fM_isFrom x3 0 40 w).bind fun p8 => (if p8 = 0 then (fM_both_33 w) else ((fM_seenBy x1 x3 w).bind fun p11 => ((fM_seenBy x2 x3 w).bind fun p13 => ((fM_gives (pj_and p11 p13) w).bind fun p15 => (some ((p15.1, p15.2))))))))))))
theorem tM_both_33 {Go : pj_C → Prop} (hM : pj_M l yX12_both cX12_both 4 (some .int) 2 45 true g n0 o Go)  (w : pj_W)  (R : Int × pj_W → Prop) (h0 : ∀ r, R (r) → ((some (0, r.1) : Option pj_V), r.2) = o) : pj_TG R (fM_both_33  w) (Go (33, [(26, 0), (9, 0), (9, 0), (9, 0)], [], w)) := by
  unfold fM_both_33
  refine pj_tbind (fun p1 h2 => ?_)
  exact pj_tret (fun hr => pj_aload_n hM (pc := 33) dX12_both_33 rfl rfl (pj_iconst hM (pc := 34) dX12_both_34 (by decide) (pj_cV hM (pc := 35) (cM_refuse 1 w p1 h2) dX12_both_35 mf_X12_refuse mv_X12_refuse ml_X12_78 kc_26 rfl rfl (by decide) rfl rfl (pj_ret hM (pc := 38) dX12_both_38 ⟨_, rfl⟩ (h0 ((p1.1, p1.2)) hr) rfl))))
theorem tM_both {Go : pj_C → Prop} (hM : pj_M l yX12_both cX12_both 4 (some .int) 2 45 true g n0 o Go) (x1 : Int) (x2 : Int) (x3 : Int) (w : pj_W)  (R : Int × pj_W → Prop) (h0 : ∀ r, R (r) → ((some (0, r.1) : Option pj_V), r.2) = o) : pj_TG R (fM_both x1 x2 x3 w) (Go (0, [(26, 0), (0, x1), (0, x2), (0, x3)], [], w)) := by
  unfold fM_both
  refine pj_tbind (fun p1 h2 => ?_)
  refine pj_map (fun k => pj_aload_n hM (pc := 0) dX12_both_0 rfl rfl (pj_iload_n hM (pc := 1) dX12_both_1 rfl (pj_cV hM (pc := 2) (cM_isFinder x1 w p1 h2) dX12_both_2 mf_X12_isFinder mv_X12_isFinder ml_X12_271 kc_26 rfl rfl (by decide) rfl rfl k))) ?_
  refine pj_tif (fun h3 => ?_) (fun h3 => ?_)
  · refine pj_map (fun k => pj_if_eq_t hM (pc := 5) dX12_both_5 rfl h3 (pj_kill hM [true, false, false, false] (lls' := [(26, 0), (9, 0), (9, 0), (9, 0)]) rfl k)) ?_
    exact tM_both_33 hM w _ h0
  refine pj_tbind (fun p4 h5 => ?_)
  refine pj_map (fun k => pj_if_eq_f hM (pc := 5) 33 dX12_both_5 rfl h3 (pj_aload_n hM (pc := 8) dX12_both_8 rfl rfl (pj_iload_n hM (pc := 9) dX12_both_9 rfl (pj_cV hM (pc := 10) (cM_isFinder x2 w p4 h5) dX12_both_10 mf_X12_isFinder mv_X12_isFinder ml_X12_271 kc_26 rfl rfl (by decide) rfl rfl k)))) ?_
  refine pj_tif (fun h6 => ?_) (fun h6 => ?_)
  · refine pj_map (fun k => pj_if_eq_t hM (pc := 13) dX12_both_13 rfl h6 (pj_kill hM [true, false, false, false] (lls' := [(26, 0), (9, 0), (9, 0), (9, 0)]) rfl k)) ?_
    exact tM_both_33 hM w _ h0
  refine pj_map (fun k => pj_if_eq_f hM (pc := 13) 33 dX12_both_13 rfl h6 (pj_iload_n hM (pc := 16) dX12_both_16 rfl (pj_iload_n hM (pc := 17) dX12_both_17 rfl k))) ?_
  refine pj_tif (fun h7 => ?_) (fun h7 => ?_)
  · refine pj_map (fun k => pj_ic_eq_t hM (pc := 18) dX12_both_18 rfl h7 (pj_kill hM [true, false, false, false] (lls' := [(26, 0), (9, 0), (9, 0), (9, 0)]) rfl k)) ?_
    exact tM_both_33 hM w _ h0
  refine pj_tbind (fun p8 h9 => ?_)
  refine pj_map (fun k => pj_ic_eq_f hM (pc := 18) 33 dX12_both_18 rfl h7 (pj_iload_n hM (pc := 21) dX12_both_21 rfl (pj_i2l hM (pc := 22) dX12_both_22 (pj_lconst hM (pc := 23) (z := 0) dX12_both_23 rfl (by decide) (pj_ldc2 hM (pc := 24) (z := 40) dX12_both_24 kn_X12_332 rfl (by decide) (pj_cS hM (pc := 27) (cM_isFrom x3 0 40 w p8 h9) dX12_both_27 mf_X12_isFrom ms_X12_isFrom ml_X12_289 rfl rfl rfl rfl k)))))) ?_
  refine pj_tif (fun h10 => ?_) (fun h10 => ?_)
  · refine pj_map (fun k => pj_if_ne_f hM (pc := 30) 39 dX12_both_30 rfl (fun q => q h10) (pj_kill hM [true, false, false, false] (lls' := [(26, 0), (9, 0), (9, 0), (9, 0)]) rfl k)) ?_
    exact tM_both_33 hM w _ h0
  refine pj_tbind (fun p11 h12 => ?_)
  refine pj_tbind (fun p13 h14 => ?_)
  refine pj_tbind (fun p15 h16 => ?_)
  exact pj_tret (fun hr => pj_if_ne_t hM (pc := 30) dX12_both_30 rfl h10 (pj_aload_n hM (pc := 39) dX12_both_39 rfl rfl (pj_aload_n hM (pc := 40) dX12_both_40 rfl rfl (pj_iload_n hM (pc := 41) dX12_both_41 rfl (pj_iload_n hM (pc := 42) dX12_both_42 rfl (pj_cV hM (pc := 43) (cM_seenBy x1 x3 w p11 h12) dX12_both_43 mf_X12_seenBy mv_X12_seenBy ml_X12_378 kc_26 rfl rfl (by decide) rfl rfl (pj_aload_n hM (pc := 46) dX12_both_46 rfl rfl (pj_iload_n hM (pc := 47) dX12_both_47 rfl (pj_iload_n hM (pc := 48) dX12_both_48 rfl (pj_cV hM (pc := 49) (cM_seenBy x2 x3 w p13 h14) dX12_both_49 mf_X12_seenBy mv_X12_seenBy ml_X12_378 kc_26 rfl rfl (by decide) rfl rfl (pj_iand hM (pc := 52) dX12_both_52 (pj_cV hM (pc := 53) (cM_gives (pj_and p11 p13) w p15 h16) dX12_both_53 mf_X12_gives mv_X12_gives ml_X12_82 kc_26 rfl rfl (by decide) rfl rfl (pj_ret hM (pc := 56) dX12_both_56 ⟨_, rfl⟩ (h0 ((p15.1, p15.2)) hr) rfl)))))))))))))
theorem cM_both (x1 : Int) (x2 : Int) (x3 : Int)  (w : pj_W) (r : Int × pj_W) (h : fM_both x1 x2 x3 w = some r) : pj_Cn l yX12_both cX12_both 4 (some .int) 2 45 true g [(26, 0), (0, x1), (0, x2), (0, x3)] w ((some (0, r.1) : Option pj_V), r.2) :=
  pj_Cn_of rfl (Nat.le_of_ble_eq_true rfl) (lls := [(26, 0), (0, x1), (0, x2), (0, x3)]) rfl (fun Go hM => tM_both hM x1 x2 x3 w (fun x => ((some (0, x.1) : Option pj_V), x.2) = ((some (0, r.1) : Option pj_V), r.2)) (fun r h => h) r h rfl)
noncomputable def fM_bottom  (w : pj_W) : Option (Int) :=
  some ((w 26 0 4))
theorem tM_bottom {Go : pj_C → Prop} (hM : pj_M l yX12_bottom cX12_bottom 1 (some .long) 0 0 ph g n0 o Go)  (w : pj_W)  (R : Int → Prop) (h0 : ∀ r, R (r) → ((some (1, r) : Option pj_V), w) = o) : pj_TG R (fM_bottom  w) (Go (0, [(26, 0)], [], w)) := by
  unfold fM_bottom
  exact pj_tret (fun hr => pj_aload_n hM (pc := 0) dX12_bottom_0 rfl rfl (pj_gf hM (pc := 1) (t := 1) dX12_bottom_1 fl_X12_17 (by decide) rfl 4 rfl (pj_ret hM (pc := 4) dX12_bottom_4 ⟨_, rfl⟩ (h0 ((w 26 0 4)) hr) rfl)))
theorem cM_bottom   (w : pj_W) (r : Int) (h : fM_bottom  w = some r) : pj_Cn l yX12_bottom cX12_bottom 1 (some .long) 0 0 ph g [(26, 0)] w ((some (1, r) : Option pj_V), w) :=
  pj_Cn_of rfl (Nat.le_of_ble_eq_true rfl) (lls := [(26, 0)]) rfl (fun Go hM => tM_bottom hM w (fun x => ((some (1, x) : Option pj_V), w) = ((some (1, r) : Option pj_V), w)) (fun r h => h) r h rfl)
noncomputable def fM_boyFrom_72 (x1 : Int) (x2 : Int) (x3 : Int) (x4 : Int) (w : pj_W) : Option ((Int × Int) ⊕ (Int)) :=
  some (Sum.inl (x3, (pj_wr (x4 + 1))))
noncomputable def fM_boyFrom_60 (x1 : Int) (x2 : Int) (x4 : Int) (w : pj_W) : Option ((Int × Int) ⊕ (Int)) :=
  (fM_findRow 0 x4 w).bind fun p1 => (if 0 ≤ p1 ∧ p1 < 8400 then (fM_boyFrom_72 x1 x2 (w 60 0 p1) x4 w) else none)
noncomputable def fM_boyFrom_5b (x1 : Int) (x2 : Int) (w : pj_W) (x3 : Int) (x4 : Int) : Option ((Int × Int) ⊕ (Int)) :=
  if (w 60 0 2) ≤ x4 then (if x3 = (-1) then (some (Sum.inr ((-1)))) else (some (Sum.inr ((min (pj_wr (x3 + x2)) (pj_wr ((w 60 0 0) - 1))))))) else ((fM_isThere x4 w).bind fun p3 => (if p3 = 0 then (fM_boyFrom_72 x1 x2 x3 x4 w) else ((fM_findRow 0 x4 w).bind fun p6 => (if 0 ≤ p6 ∧ p6 < 8400 then (if (w 60 0 p6) < x1 then (fM_boyFrom_72 x1 x2 x3 x4 w) else (if x3 = (-1) then (fM_boyFrom_60 x1 x2 x4 w) else ((fM_findRow 0 x4 w).bind fun p11 => (if 0 ≤ p11 ∧ p11 < 8400 then (if x3 ≤ (w 60 0 p11) then (fM_boyFrom_72 x1 x2 x3 x4 w) else (fM_boyFrom_60 x1 x2 x4 w)) else none)))) else none))))
noncomputable def fM_boyFrom_5 (x1 : Int) (x2 : Int) (w : pj_W) (s : (Int × Int)) : Option (Int) := pj_Lp (fun s : (Int × Int) => fM_boyFrom_5b x1 x2 w s.1 s.2) s
noncomputable def fM_boyFrom (x1 : Int) (x2 : Int) (w : pj_W) : Option (Int) :=
  fM_boyFrom_5 x1 x2 w ((-1), 0)
theorem tM_boyFrom_72 {Go : pj_C → Prop} (hM : pj_M l yX12_boyFrom cX12_boyFrom 5 (some .int) 1 21 true g n0 o Go) (x1 : Int) (x2 : Int) (x3 : Int) (x4 : Int) (w : pj_W)  (R : (Int × Int) ⊕ (Int) → Prop) (h0 : ∀ r, R (Sum.inr (r)) → ((some (0, r) : Option pj_V), w) = o) (hk5 : ∀ s, R (Sum.inl s) → Go (5, [(26, 0), (0, x1), (0, x2), (0, s.1), (0, s.2)], [], w)) : pj_TG R (fM_boyFrom_72 x1 x2 x3 x4 w) (Go (72, [(26, 0), (0, x1), (0, x2), (0, x3), (0, x4)], [], w)) := by
  unfold fM_boyFrom_72
  exact pj_tret (fun hr => pj_iinc hM (pc := 72) dX12_boyFrom_72 rfl (by decide) (lls' := [(26, 0), (0, x1), (0, x2), (0, x3), (0, (pj_wr (x4 + 1)))]) rfl (pj_goto hM (pc := 75) dX12_boyFrom_75 rfl (pj_kill hM [true, true, true, true, true] (lls' := [(26, 0), (0, x1), (0, x2), (0, x3), (0, (pj_wr (x4 + 1)))]) rfl ((hk5 _ hr)))))
theorem tM_boyFrom_60 {Go : pj_C → Prop} (hM : pj_M l yX12_boyFrom cX12_boyFrom 5 (some .int) 1 21 true g n0 o Go) (x1 : Int) (x2 : Int) (x4 : Int) (w : pj_W)  (R : (Int × Int) ⊕ (Int) → Prop) (h0 : ∀ r, R (Sum.inr (r)) → ((some (0, r) : Option pj_V), w) = o) (hk5 : ∀ s, R (Sum.inl s) → Go (5, [(26, 0), (0, x1), (0, x2), (0, s.1), (0, s.2)], [], w)) : pj_TG R (fM_boyFrom_60 x1 x2 x4 w) (Go (60, [(26, 0), (0, x1), (0, x2), (9, 0), (0, x4)], [], w)) := by
  unfold fM_boyFrom_60
  refine pj_tbind (fun p1 h2 => ?_)
  refine pj_tgd (fun h3 => ?_)
  refine pj_map (fun k => pj_aload_n hM (pc := 60) dX12_boyFrom_60 rfl rfl (pj_getF hM (pc := 61) (t := 60) dX12_boyFrom_61 fl_X12_7 (by decide) rfl rfl (pj_iconst hM (pc := 64) dX12_boyFrom_64 (by decide) (pj_iload hM (pc := 65) dX12_boyFrom_65 rfl (pj_cS hM (pc := 67) (cM_findRow 0 x4 w p1 h2) dX12_boyFrom_67 mf_X12_findRow ms_X12_findRow ml_X12_171 rfl rfl rfl rfl (pj_ial hM (pc := 70) dX12_boyFrom_70 ki_60 (by decide) h3 (pj_istore_n hM (pc := 71) dX12_boyFrom_71 (by decide) (lls' := [(26, 0), (0, x1), (0, x2), (0, (w 60 0 p1)), (0, x4)]) rfl (pj_kill hM [true, true, true, true, true] (lls' := [(26, 0), (0, x1), (0, x2), (0, (w 60 0 p1)), (0, x4)]) rfl k)))))))) ?_
  exact tM_boyFrom_72 hM x1 x2 (w 60 0 p1) x4 w _ h0 hk5
theorem tM_boyFrom_5b {Go : pj_C → Prop} (hM : pj_M l yX12_boyFrom cX12_boyFrom 5 (some .int) 1 21 true g n0 o Go) (x1 : Int) (x2 : Int) (w : pj_W) (x3 : Int) (x4 : Int)  (R : (Int × Int) ⊕ (Int) → Prop) (h0 : ∀ r, R (Sum.inr (r)) → ((some (0, r) : Option pj_V), w) = o) (hk5 : ∀ s, R (Sum.inl s) → Go (5, [(26, 0), (0, x1), (0, x2), (0, s.1), (0, s.2)], [], w)) : pj_TG R (fM_boyFrom_5b x1 x2 w x3 x4) (Go (5, [(26, 0), (0, x1), (0, x2), (0, x3), (0, x4)], [], w)) := by
  unfold fM_boyFrom_5b
  refine pj_map (fun k => pj_iload hM (pc := 5) dX12_boyFrom_5 rfl (pj_aload_n hM (pc := 7) dX12_boyFrom_7 rfl rfl (pj_getF hM (pc := 8) (t := 60) dX12_boyFrom_8 fl_X12_7 (by decide) rfl rfl (pj_iconst hM (pc := 11) dX12_boyFrom_11 (by decide) (pj_ial hM (pc := 12) dX12_boyFrom_12 ki_60 (by decide) (by decide) k))))) ?_
  refine pj_tif (fun h1 => ?_) (fun h1 => ?_)
  · refine pj_map (fun k => pj_ic_ge_t hM (pc := 13) dX12_boyFrom_13 rfl h1 (pj_iload_n hM (pc := 78) dX12_boyFrom_78 rfl (pj_iconst hM (pc := 79) dX12_boyFrom_79 (by decide) k))) ?_
    refine pj_tif (fun h2 => ?_) (fun h2 => ?_)
    · exact pj_tret (fun hr => pj_ic_ne_f hM (pc := 80) 87 dX12_boyFrom_80 rfl (fun q => q h2) (pj_iconst hM (pc := 83) dX12_boyFrom_83 (by decide) (pj_goto hM (pc := 84) dX12_boyFrom_84 rfl (pj_ret hM (pc := 101) dX12_boyFrom_101 ⟨_, rfl⟩ (h0 ((-1)) hr) rfl))))
    exact pj_tret (fun hr => pj_ic_ne_t hM (pc := 80) dX12_boyFrom_80 rfl h2 (pj_iload_n hM (pc := 87) dX12_boyFrom_87 rfl (pj_iload_n hM (pc := 88) dX12_boyFrom_88 rfl (pj_iadd hM (pc := 89) dX12_boyFrom_89 (pj_aload_n hM (pc := 90) dX12_boyFrom_90 rfl rfl (pj_getF hM (pc := 91) (t := 60) dX12_boyFrom_91 fl_X12_7 (by decide) rfl rfl (pj_iconst hM (pc := 94) dX12_boyFrom_94 (by decide) (pj_ial hM (pc := 95) dX12_boyFrom_95 ki_60 (by decide) (by decide) (pj_iconst hM (pc := 96) dX12_boyFrom_96 (by decide) (pj_isub hM (pc := 97) dX12_boyFrom_97 (pj_mmin hM (pc := 98) dX12_boyFrom_98 mf_J9_min_7cf53 ms_J9_min_7cf53 ml_X12_133 rfl (pj_ret hM (pc := 101) dX12_boyFrom_101 ⟨_, rfl⟩ (h0 ((min (pj_wr (x3 + x2)) (pj_wr ((w 60 0 0) - 1)))) hr) rfl))))))))))))
  refine pj_tbind (fun p3 h4 => ?_)
  refine pj_map (fun k => pj_ic_ge_f hM (pc := 13) 78 dX12_boyFrom_13 rfl h1 (pj_aload_n hM (pc := 16) dX12_boyFrom_16 rfl rfl (pj_iload hM (pc := 17) dX12_boyFrom_17 rfl (pj_cV hM (pc := 19) (cM_isThere x4 w p3 h4) dX12_boyFrom_19 mf_X12_isThere mv_X12_isThere ml_X12_268 kc_26 rfl rfl (by decide) rfl rfl k)))) ?_
  refine pj_tif (fun h5 => ?_) (fun h5 => ?_)
  · refine pj_map (fun k => pj_if_eq_t hM (pc := 22) dX12_boyFrom_22 rfl h5 (pj_kill hM [true, true, true, true, true] (lls' := [(26, 0), (0, x1), (0, x2), (0, x3), (0, x4)]) rfl k)) ?_
    exact tM_boyFrom_72 hM x1 x2 x3 x4 w _ h0 hk5
  refine pj_tbind (fun p6 h7 => ?_)
  refine pj_tgd (fun h8 => ?_)
  refine pj_map (fun k => pj_if_eq_f hM (pc := 22) 72 dX12_boyFrom_22 rfl h5 (pj_aload_n hM (pc := 25) dX12_boyFrom_25 rfl rfl (pj_getF hM (pc := 26) (t := 60) dX12_boyFrom_26 fl_X12_7 (by decide) rfl rfl (pj_iconst hM (pc := 29) dX12_boyFrom_29 (by decide) (pj_iload hM (pc := 30) dX12_boyFrom_30 rfl (pj_cS hM (pc := 32) (cM_findRow 0 x4 w p6 h7) dX12_boyFrom_32 mf_X12_findRow ms_X12_findRow ml_X12_171 rfl rfl rfl rfl (pj_ial hM (pc := 35) dX12_boyFrom_35 ki_60 (by decide) h8 (pj_iload_n hM (pc := 36) dX12_boyFrom_36 rfl k)))))))) ?_
  refine pj_tif (fun h9 => ?_) (fun h9 => ?_)
  · refine pj_map (fun k => pj_ic_lt_t hM (pc := 37) dX12_boyFrom_37 rfl h9 (pj_kill hM [true, true, true, true, true] (lls' := [(26, 0), (0, x1), (0, x2), (0, x3), (0, x4)]) rfl k)) ?_
    exact tM_boyFrom_72 hM x1 x2 x3 x4 w _ h0 hk5
  refine pj_map (fun k => pj_ic_lt_f hM (pc := 37) 72 dX12_boyFrom_37 rfl h9 (pj_iload_n hM (pc := 40) dX12_boyFrom_40 rfl (pj_iconst hM (pc := 41) dX12_boyFrom_41 (by decide) k))) ?_
  refine pj_tif (fun h10 => ?_) (fun h10 => ?_)
  · refine pj_map (fun k => pj_ic_eq_t hM (pc := 42) dX12_boyFrom_42 rfl h10 (pj_kill hM [true, true, true, false, true] (lls' := [(26, 0), (0, x1), (0, x2), (9, 0), (0, x4)]) rfl k)) ?_
    exact tM_boyFrom_60 hM x1 x2 x4 w _ h0 hk5
  refine pj_tbind (fun p11 h12 => ?_)
  refine pj_tgd (fun h13 => ?_)
  refine pj_map (fun k => pj_ic_eq_f hM (pc := 42) 60 dX12_boyFrom_42 rfl h10 (pj_aload_n hM (pc := 45) dX12_boyFrom_45 rfl rfl (pj_getF hM (pc := 46) (t := 60) dX12_boyFrom_46 fl_X12_7 (by decide) rfl rfl (pj_iconst hM (pc := 49) dX12_boyFrom_49 (by decide) (pj_iload hM (pc := 50) dX12_boyFrom_50 rfl (pj_cS hM (pc := 52) (cM_findRow 0 x4 w p11 h12) dX12_boyFrom_52 mf_X12_findRow ms_X12_findRow ml_X12_171 rfl rfl rfl rfl (pj_ial hM (pc := 55) dX12_boyFrom_55 ki_60 (by decide) h13 (pj_iload_n hM (pc := 56) dX12_boyFrom_56 rfl k)))))))) ?_
  refine pj_tif (fun h14 => ?_) (fun h14 => ?_)
  · refine pj_map (fun k => pj_ic_ge_t hM (pc := 57) dX12_boyFrom_57 rfl h14 (pj_kill hM [true, true, true, true, true] (lls' := [(26, 0), (0, x1), (0, x2), (0, x3), (0, x4)]) rfl k)) ?_
    exact tM_boyFrom_72 hM x1 x2 x3 x4 w _ h0 hk5
  refine pj_map (fun k => pj_ic_ge_f hM (pc := 57) 72 dX12_boyFrom_57 rfl h14 (pj_kill hM [true, true, true, false, true] (lls' := [(26, 0), (0, x1), (0, x2), (9, 0), (0, x4)]) rfl k)) ?_
  exact tM_boyFrom_60 hM x1 x2 x4 w _ h0 hk5
theorem tM_boyFrom_5 {Go : pj_C → Prop} (hM : pj_M l yX12_boyFrom cX12_boyFrom 5 (some .int) 1 21 true g n0 o Go) (x1 : Int) (x2 : Int) (w : pj_W)  (R : Int → Prop) (h0 : ∀ r, R (r) → ((some (0, r) : Option pj_V), w) = o) (s : (Int × Int)) : pj_TG R (fM_boyFrom_5 x1 x2 w s) (Go (5, [(26, 0), (0, x1), (0, x2), (0, s.1), (0, s.2)], [], w)) := by
  unfold fM_boyFrom_5
  exact pj_tLp (G := fun s : (Int × Int) => Go (5, [(26, 0), (0, x1), (0, x2), (0, s.1), (0, s.2)], [], w)) (fun s => tM_boyFrom_5b hM x1 x2 w s.1 s.2  _ (fun r h => h0 r h)  (fun s h => h)) s
theorem tM_boyFrom {Go : pj_C → Prop} (hM : pj_M l yX12_boyFrom cX12_boyFrom 5 (some .int) 1 21 true g n0 o Go) (x1 : Int) (x2 : Int) (w : pj_W)  (R : Int → Prop) (h0 : ∀ r, R (r) → ((some (0, r) : Option pj_V), w) = o) : pj_TG R (fM_boyFrom x1 x2 w) (Go (0, [(26, 0), (0, x1), (0, x2), (9, 0), (9, 0)], [], w)) := by
  unfold fM_boyFrom
  refine pj_map (fun k => pj_iconst hM (pc := 0) dX12_boyFrom_0 (by decide) (pj_istore_n hM (pc := 1) dX12_boyFrom_1 (by decide) (lls' := [(26, 0), (0, x1), (0, x2), (0, (-1)), (9, 0)]) rfl (pj_iconst hM (pc := 2) dX12_boyFrom_2 (by decide) (pj_istore hM (pc := 3) dX12_boyFrom_3 (by decide) (lls' := [(26, 0), (0, x1), (0, x2), (0, (-1)), (0, 0)]) rfl (pj_kill hM [true, true, true, true, true] (lls' := [(26, 0), (0, x1), (0, x2), (0, (-1)), (0, 0)]) rfl k))))) ?_
  exact tM_boyFrom_5 hM x1 x2 w _ h0 _
theorem cM_boyFrom (x1 : Int) (x2 : Int)  (w : pj_W) (r : Int) (h : fM_boyFrom x1 x2 w = some r) : pj_Cn l yX12_boyFrom cX12_boyFrom 5 (some .int) 1 21 true g [(26, 0), (0, x1), (0, x2)] w ((some (0, r) : Option pj_V), w) :=
  pj_Cn_of rfl (Nat.le_of_ble_eq_true rfl) (lls := [(26, 0), (0, x1), (0, x2), (9, 0), (9, 0)]) rfl (fun Go hM => tM_boyFrom hM x1 x2 w (fun x => ((some (0, x) : Option pj_V), w) = ((some (0, r) : Option pj_V), w)) (fun r h => h) r h rfl)
noncomputable def fM_boy_10b (x1 : Int) (x2 : Int) (w : pj_W) (x3 : Int) (x4 : Int) : Option ((Int × Int) ⊕ (Int)) :=
  if x2 ≤ x4 then (some (Sum.inr (x3))) else (if x3 = (-1) then (some (Sum.inr (x3))) else ((fM_boyFrom (pj_wr ((pj_wr (x3 + x1)) + 1)) x1 w).bind fun p3 => (some (Sum.inl (p3, (pj_wr (x4 + 1)))))))
noncomputable def fM_boy_10 (x1 : Int) (x2 : Int) (w : pj_W) (s : (Int × Int)) : Option (Int) := pj_Lp (fun s : (Int × Int) => fM_boy_10b x1 x2 w s.1 s.2) s
noncomputable def fM_boy (x1 : Int) (x2 : Int) (w : pj_W) : Option (Int) :=
  (fM_boyFrom 0 x1 w).bind fun p1 => (fM_boy_10 x1 x2 w (p1, 0))
theorem tM_boy_10b {Go : pj_C → Prop} (hM : pj_M l yX12_boy cX12_boy 5 (some .int) 2 45 true g n0 o Go) (x1 : Int) (x2 : Int) (w : pj_W) (x3 : Int) (x4 : Int)  (R : (Int × Int) ⊕ (Int) → Prop) (h0 : ∀ r, R (Sum.inr (r)) → ((some (0, r) : Option pj_V), w) = o) (hk10 : ∀ s, R (Sum.inl s) → Go (10, [(26, 0), (0, x1), (0, x2), (0, s.1), (0, s.2)], [], w)) : pj_TG R (fM_boy_10b x1 x2 w x3 x4) (Go (10, [(26, 0), (0, x1), (0, x2), (0, x3), (0, x4)], [], w)) := by
  unfold fM_boy_10b
  refine pj_map (fun k => pj_iload hM (pc := 10) dX12_boy_10 rfl (pj_iload_n hM (pc := 12) dX12_boy_12 rfl k)) ?_
  refine pj_tif (fun h1 => ?_) (fun h1 => ?_)
  · exact pj_tret (fun hr => pj_ic_ge_t hM (pc := 13) dX12_boy_13 rfl h1 (pj_iload_n hM (pc := 38) dX12_boy_38 rfl (pj_ret hM (pc := 39) dX12_boy_39 ⟨_, rfl⟩ (h0 (x3) hr) rfl)))
  refine pj_map (fun k => pj_ic_ge_f hM (pc := 13) 38 dX12_boy_13 rfl h1 (pj_iload_n hM (pc := 16) dX12_boy_16 rfl (pj_iconst hM (pc := 17) dX12_boy_17 (by decide) k))) ?_
  refine pj_tif (fun h2 => ?_) (fun h2 => ?_)
  · exact pj_tret (fun hr => pj_ic_eq_t hM (pc := 18) dX12_boy_18 rfl h2 (pj_iload_n hM (pc := 38) dX12_boy_38 rfl (pj_ret hM (pc := 39) dX12_boy_39 ⟨_, rfl⟩ (h0 (x3) hr) rfl)))
  refine pj_tbind (fun p3 h4 => ?_)
  exact pj_tret (fun hr => pj_ic_eq_f hM (pc := 18) 38 dX12_boy_18 rfl h2 (pj_aload_n hM (pc := 21) dX12_boy_21 rfl rfl (pj_iload_n hM (pc := 22) dX12_boy_22 rfl (pj_iload_n hM (pc := 23) dX12_boy_23 rfl (pj_iadd hM (pc := 24) dX12_boy_24 (pj_iconst hM (pc := 25) dX12_boy_25 (by decide) (pj_iadd hM (pc := 26) dX12_boy_26 (pj_iload_n hM (pc := 27) dX12_boy_27 rfl (pj_cV hM (pc := 28) (cM_boyFrom (pj_wr ((pj_wr (x3 + x1)) + 1)) x1 w p3 h4) dX12_boy_28 mf_X12_boyFrom mv_X12_boyFrom ml_X12_405 kc_26 rfl rfl (by decide) rfl rfl (pj_istore_n hM (pc := 31) dX12_boy_31 (by decide) (lls' := [(26, 0), (0, x1), (0, x2), (0, p3), (0, x4)]) rfl (pj_iinc hM (pc := 32) dX12_boy_32 rfl (by decide) (lls' := [(26, 0), (0, x1), (0, x2), (0, p3), (0, (pj_wr (x4 + 1)))]) rfl (pj_goto hM (pc := 35) dX12_boy_35 rfl (pj_kill hM [true, true, true, true, true] (lls' := [(26, 0), (0, x1), (0, x2), (0, p3), (0, (pj_wr (x4 + 1)))]) rfl ((hk10 _ hr)))))))))))))))
theorem tM_boy_10 {Go : pj_C → Prop} (hM : pj_M l yX12_boy cX12_boy 5 (some .int) 2 45 true g n0 o Go) (x1 : Int) (x2 : Int) (w : pj_W)  (R : Int → Prop) (h0 : ∀ r, R (r) → ((some (0, r) : Option pj_V), w) = o) (s : (Int × Int)) : pj_TG R (fM_boy_10 x1 x2 w s) (Go (10, [(26, 0), (0, x1), (0, x2), (0, s.1), (0, s.2)], [], w)) := by
  unfold fM_boy_10
  exact pj_tLp (G := fun s : (Int × Int) => Go (10, [(26, 0), (0, x1), (0, x2), (0, s.1), (0, s.2)], [], w)) (fun s => tM_boy_10b hM x1 x2 w s.1 s.2  _ (fun r h => h0 r h)  (fun s h => h)) s
theorem tM_boy {Go : pj_C → Prop} (hM : pj_M l yX12_boy cX12_boy 5 (some .int) 2 45 true g n0 o Go) (x1 : Int) (x2 : Int) (w : pj_W)  (R : Int → Prop) (h0 : ∀ r, R (r) → ((some (0, r) : Option pj_V), w) = o) : pj_TG R (fM_boy x1 x2 w) (Go (0, [(26, 0), (0, x1), (0, x2), (9, 0), (9, 0)], [], w)) := by
  unfold fM_boy
  refine pj_tbind (fun p1 h2 => ?_)
  refine pj_map (fun k => pj_aload_n hM (pc := 0) dX12_boy_0 rfl rfl (pj_iconst hM (pc := 1) dX12_boy_1 (by decide) (pj_iload_n hM (pc := 2) dX12_boy_2 rfl (pj_cV hM (pc := 3) (cM_boyFrom 0 x1 w p1 h2) dX12_boy_3 mf_X12_boyFrom mv_X12_boyFrom ml_X12_405 kc_26 rfl rfl (by decide) rfl rfl (pj_istore_n hM (pc := 6) dX12_boy_6 (by decide) (lls' := [(26, 0), (0, x1), (0, x2), (0, p1), (9, 0)]) rfl (pj_iconst hM (pc := 7) dX12_boy_7 (by decide) (pj_istore hM (pc := 8) dX12_boy_8 (by decide) (lls' := [(26, 0), (0, x1), (0, x2), (0, p1), (0, 0)]) rfl (pj_kill hM [true, true, true, true, true] (lls' := [(26, 0), (0, x1), (0, x2), (0, p1), (0, 0)]) rfl k)))))))) ?_
  exact tM_boy_10 hM x1 x2 w _ h0 _
theorem cM_boy (x1 : Int) (x2 : Int)  (w : pj_W) (r : Int) (h : fM_boy x1 x2 w = some r) : pj_Cn l yX12_boy cX12_boy 5 (some .int) 2 45 true g [(26, 0), (0, x1), (0, x2)] w ((some (0, r) : Option pj_V), w) :=
  pj_Cn_of rfl (Nat.le_of_ble_eq_true rfl) (lls := [(26, 0), (0, x1), (0, x2), (9, 0), (9, 0)]) rfl (fun Go hM => tM_boy hM x1 x2 w (fun x => ((some (0, x) : Option pj_V), w) = ((some (0, r) : Option pj_V), w)) (fun r h => h) r h rfl)
noncomputable def fM_orNone (x1 : Int) (w : pj_W) : Option (Int × pj_W) :=
  if x1 = (-1) then ((fM_refuse 6 w).bind fun p2 => (some ((p2.1, p2.2)))) else ((fM_gives x1 w).bind fun p4 => (some ((p4.1, p4.2))))
theorem tM_orNone {Go : pj_C → Prop} (hM : pj_M l yX12_orNone cX12_orNone 2 (some .int) 1 21 ph g n0 o Go) (x1 : Int) (w : pj_W)  (R : Int × pj_W → Prop) (h0 : ∀ r, R (r) → ((some (0, r.1) : Option pj_V), r.2) = o) : pj_TG R (fM_orNone x1 w) (Go (0, [(26, 0), (0, x1)], [], w)) := by
  unfold fM_orNone
  refine pj_map (fun k => pj_iload_n hM (pc := 0) dX12_orNone_0 rfl (pj_iconst hM (pc := 1) dX12_orNone_1 (by decide) k)) ?_
  refine pj_tif (fun h1 => ?_) (fun h1 => ?_)
  · refine pj_tbind (fun p2 h3 => ?_)
    exact pj_tret (fun hr => pj_ic_ne_f hM (pc := 2) 14 dX12_orNone_2 rfl (fun q => q h1) (pj_aload_n hM (pc := 5) dX12_orNone_5 rfl rfl (pj_bipush hM (pc := 6) dX12_orNone_6 (by decide) (pj_cV hM (pc := 8) (cM_refuse 6 w p2 h3) dX12_orNone_8 mf_X12_refuse mv_X12_refuse ml_X12_78 kc_26 rfl rfl (by decide) rfl rfl (pj_goto hM (pc := 11) dX12_orNone_11 rfl (pj_ret hM (pc := 19) dX12_orNone_19 ⟨_, rfl⟩ (h0 ((p2.1, p2.2)) hr) rfl))))))
  refine pj_tbind (fun p4 h5 => ?_)
  exact pj_tret (fun hr => pj_ic_ne_t hM (pc := 2) dX12_orNone_2 rfl h1 (pj_aload_n hM (pc := 14) dX12_orNone_14 rfl rfl (pj_iload_n hM (pc := 15) dX12_orNone_15 rfl (pj_cV hM (pc := 16) (cM_gives x1 w p4 h5) dX12_orNone_16 mf_X12_gives mv_X12_gives ml_X12_82 kc_26 rfl rfl (by decide) rfl rfl (pj_ret hM (pc := 19) dX12_orNone_19 ⟨_, rfl⟩ (h0 ((p4.1, p4.2)) hr) rfl)))))
theorem cM_orNone (x1 : Int)  (w : pj_W) (r : Int × pj_W) (h : fM_orNone x1 w = some r) : pj_Cn l yX12_orNone cX12_orNone 2 (some .int) 1 21 ph g [(26, 0), (0, x1)] w ((some (0, r.1) : Option pj_V), r.2) :=
  pj_Cn_of rfl (Nat.le_of_ble_eq_true rfl) (lls := [(26, 0), (0, x1)]) rfl (fun Go hM => tM_orNone hM x1 w (fun x => ((some (0, x.1) : Option pj_V), x.2) = ((some (0, r.1) : Option pj_V), r.2)) (fun r h => h) r h rfl)
noncomputable def fM_boyAt_28  (w : pj_W) : Option (Int × pj_W) :=
  (fM_refuse 6 w).bind fun p1 => (some ((p1.1, p1.2)))
noncomputable def fM_boyAt (x1 : Int) (x2 : Int) (w : pj_W) : Option (Int × pj_W) :=
  (fM_isFrom x1 0 40 w).bind fun p1 => (if p1 = 0 then ((fM_refuse 1 w).bind fun p4 => (some ((p4.1, p4.2)))) else (if x2 < 0 then (fM_boyAt_28 w) else (if x2 ≤ 8 then ((fM_boy x1 x2 w).bind fun p8 => ((fM_orNone p8 w).bind fun p10 => (some ((p10.1, p10.2))))) else (fM_boyAt_28 w))))
theorem tM_boyAt_28 {Go : pj_C → Prop} (hM : pj_M l yX12_boyAt cX12_boyAt 3 (some .int) 3 69 true g n0 o Go)  (w : pj_W)  (R : Int × pj_W → Prop) (h0 : ∀ r, R (r) → ((some (0, r.1) : Option pj_V), r.2) = o) : pj_TG R (fM_boyAt_28  w) (Go (28, [(26, 0), (9, 0), (9, 0)], [], w)) := by
  unfold fM_boyAt_28
  refine pj_tbind (fun p1 h2 => ?_)
  exact pj_tret (fun hr => pj_aload_n hM (pc := 28) dX12_boyAt_28 rfl rfl (pj_bipush hM (pc := 29) dX12_boyAt_29 (by decide) (pj_cV hM (pc := 31) (cM_refuse 6 w p1 h2) dX12_boyAt_31 mf_X12_refuse mv_X12_refuse ml_X12_78 kc_26 rfl rfl (by decide) rfl rfl (pj_goto hM (pc := 34) dX12_boyAt_34 rfl (pj_ret hM (pc := 47) dX12_boyAt_47 ⟨_, rfl⟩ (h0 ((p1.1, p1.2)) hr) rfl)))))
theorem tM_boyAt {Go : pj_C → Prop} (hM : pj_M l yX12_boyAt cX12_boyAt 3 (some .int) 3 69 true g n0 o Go) (x1 : Int) (x2 : Int) (w : pj_W)  (R : Int × pj_W → Prop) (h0 : ∀ r, R (r) → ((some (0, r.1) : Option pj_V), r.2) = o) : pj_TG R (fM_boyAt x1 x2 w) (Go (0, [(26, 0), (0, x1), (0, x2)], [], w)) := by
  unfold fM_boyAt
  refine pj_tbind (fun p1 h2 => ?_)
  refine pj_map (fun k => pj_iload_n hM (pc := 0) dX12_boyAt_0 rfl (pj_i2l hM (pc := 1) dX12_boyAt_1 (pj_lconst hM (pc := 2) (z := 0) dX12_boyAt_2 rfl (by decide) (pj_ldc2 hM (pc := 3) (z := 40) dX12_boyAt_3 kn_X12_332 rfl (by decide) (pj_cS hM (pc := 6) (cM_isFrom x1 0 40 w p1 h2) dX12_boyAt_6 mf_X12_isFrom ms_X12_isFrom ml_X12_289 rfl rfl rfl rfl k))))) ?_
  refine pj_tif (fun h3 => ?_) (fun h3 => ?_)
  · refine pj_tbind (fun p4 h5 => ?_)
    exact pj_tret (fun hr => pj_if_ne_f hM (pc := 9) 18 dX12_boyAt_9 rfl (fun q => q h3) (pj_aload_n hM (pc := 12) dX12_boyAt_12 rfl rfl (pj_iconst hM (pc := 13) dX12_boyAt_13 (by decide) (pj_cV hM (pc := 14) (cM_refuse 1 w p4 h5) dX12_boyAt_14 mf_X12_refuse mv_X12_refuse ml_X12_78 kc_26 rfl rfl (by decide) rfl rfl (pj_ret hM (pc := 17) dX12_boyAt_17 ⟨_, rfl⟩ (h0 ((p4.1, p4.2)) hr) rfl)))))
  refine pj_map (fun k => pj_if_ne_t hM (pc := 9) dX12_boyAt_9 rfl h3 (pj_iload_n hM (pc := 18) dX12_boyAt_18 rfl k)) ?_
  refine pj_tif (fun h6 => ?_) (fun h6 => ?_)
  · refine pj_map (fun k => pj_if_lt_t hM (pc := 19) dX12_boyAt_19 rfl h6 (pj_kill hM [true, false, false] (lls' := [(26, 0), (9, 0), (9, 0)]) rfl k)) ?_
    exact tM_boyAt_28 hM w _ h0
  refine pj_map (fun k => pj_if_lt_f hM (pc := 19) 28 dX12_boyAt_19 rfl h6 (pj_iload_n hM (pc := 22) dX12_boyAt_22 rfl (pj_bipush hM (pc := 23) dX12_boyAt_23 (by decide) k))) ?_
  refine pj_tif (fun h7 => ?_) (fun h7 => ?_)
  · refine pj_tbind (fun p8 h9 => ?_)
    refine pj_tbind (fun p10 h11 => ?_)
    exact pj_tret (fun hr => pj_ic_le_t hM (pc := 25) dX12_boyAt_25 rfl h7 (pj_aload_n hM (pc := 37) dX12_boyAt_37 rfl rfl (pj_aload_n hM (pc := 38) dX12_boyAt_38 rfl rfl (pj_iload_n hM (pc := 39) dX12_boyAt_39 rfl (pj_iload_n hM (pc := 40) dX12_boyAt_40 rfl (pj_cV hM (pc := 41) (cM_boy x1 x2 w p8 h9) dX12_boyAt_41 mf_X12_boy mv_X12_boy ml_X12_408 kc_26 rfl rfl (by decide) rfl rfl (pj_cV hM (pc := 44) (cM_orNone p8 w p10 h11) dX12_boyAt_44 mf_X12_orNone mv_X12_orNone ml_X12_358 kc_26 rfl rfl (by decide) rfl rfl (pj_ret hM (pc := 47) dX12_boyAt_47 ⟨_, rfl⟩ (h0 ((p10.1, p10.2)) hr) rfl))))))))
  refine pj_map (fun k => pj_ic_le_f hM (pc := 25) 37 dX12_boyAt_25 rfl h7 (pj_kill hM [true, false, false] (lls' := [(26, 0), (9, 0), (9, 0)]) rfl k)) ?_
  exact tM_boyAt_28 hM w _ h0
theorem cM_boyAt (x1 : Int) (x2 : Int)  (w : pj_W) (r : Int × pj_W) (h : fM_boyAt x1 x2 w = some r) : pj_Cn l yX12_boyAt cX12_boyAt 3 (some .int) 3 69 true g [(26, 0), (0, x1), (0, x2)] w ((some (0, r.1) : Option pj_V), r.2) :=
  pj_Cn_of rfl (Nat.le_of_ble_eq_true rfl) (lls := [(26, 0), (0, x1), (0, x2)]) rfl (fun Go hM => tM_boyAt hM x1 x2 w (fun x => ((some (0, x.1) : Option pj_V), x.2) = ((some (0, r.1) : Option pj_V), r.2)) (fun r h => h) r h rfl)
noncomputable def fM_boys_42 (x2 : Int) (w : pj_W) : Option (Int × pj_W) :=
  (fM_gives x2 w).bind fun p1 => (some ((p1.1, p1.2)))
noncomputable def fM_boys_20b (x1 : Int) (w : pj_W) (x2 : Int) : Option ((Int) ⊕ (Int × pj_W)) :=
  if 8 ≤ x2 then ((fM_boys_42 x2 w).map Sum.inr) else ((fM_boy x1 x2 w).bind fun p2 => (if p2 = (-1) then ((fM_boys_42 x2 w).map Sum.inr) else (some (Sum.inl ((pj_wr (x2 + 1)))))))
noncomputable def fM_boys_20 (x1 : Int) (w : pj_W) (s : (Int)) : Option (Int × pj_W) := pj_Lp (fun s : (Int) => fM_boys_20b x1 w s) s
noncomputable def fM_boys (x1 : Int) (w : pj_W) : Option (Int × pj_W) :=
  (fM_isFrom x1 0 40 w).bind fun p1 => (if p1 = 0 then ((fM_refuse 1 w).bind fun p4 => (some ((p4.1, p4.2)))) else (fM_boys_20 x1 w (0)))
theorem tM_boys_42 {Go : pj_C → Prop} (hM : pj_M l yX12_boys cX12_boys 3 (some .int) 3 69 true g n0 o Go) (x2 : Int) (w : pj_W)  (R : Int × pj_W → Prop) (h0 : ∀ r, R (r) → ((some (0, r.1) : Option pj_V), r.2) = o) : pj_TG R (fM_boys_42 x2 w) (Go (42, [(26, 0), (9, 0), (0, x2)], [], w)) := by
  unfold fM_boys_42
  refine pj_tbind (fun p1 h2 => ?_)
  exact pj_tret (fun hr => pj_aload_n hM (pc := 42) dX12_boys_42 rfl rfl (pj_iload_n hM (pc := 43) dX12_boys_43 rfl (pj_cV hM (pc := 44) (cM_gives x2 w p1 h2) dX12_boys_44 mf_X12_gives mv_X12_gives ml_X12_82 kc_26 rfl rfl (by decide) rfl rfl (pj_ret hM (pc := 47) dX12_boys_47 ⟨_, rfl⟩ (h0 ((p1.1, p1.2)) hr) rfl))))
theorem tM_boys_20b {Go : pj_C → Prop} (hM : pj_M l yX12_boys cX12_boys 3 (some .int) 3 69 true g n0 o Go) (x1 : Int) (w : pj_W) (x2 : Int)  (R : (Int) ⊕ (Int × pj_W) → Prop) (h0 : ∀ r, R (Sum.inr (r)) → ((some (0, r.1) : Option pj_V), r.2) = o) (hk20 : ∀ s, R (Sum.inl s) → Go (20, [(26, 0), (0, x1), (0, s)], [], w)) : pj_TG R (fM_boys_20b x1 w x2) (Go (20, [(26, 0), (0, x1), (0, x2)], [], w)) := by
  unfold fM_boys_20b
  refine pj_map (fun k => pj_iload_n hM (pc := 20) dX12_boys_20 rfl (pj_bipush hM (pc := 21) dX12_boys_21 (by decide) k)) ?_
  refine pj_tif (fun h1 => ?_) (fun h1 => ?_)
  · refine pj_tmap ?_
    refine pj_map (fun k => pj_ic_ge_t hM (pc := 23) dX12_boys_23 rfl h1 (pj_kill hM [true, false, true] (lls' := [(26, 0), (9, 0), (0, x2)]) rfl k)) ?_
    exact tM_boys_42 hM x2 w _ h0
  refine pj_tbind (fun p2 h3 => ?_)
  refine pj_map (fun k => pj_ic_ge_f hM (pc := 23) 42 dX12_boys_23 rfl h1 (pj_aload_n hM (pc := 26) dX12_boys_26 rfl rfl (pj_iload_n hM (pc := 27) dX12_boys_27 rfl (pj_iload_n hM (pc := 28) dX12_boys_28 rfl (pj_cV hM (pc := 29) (cM_boy x1 x2 w p2 h3) dX12_boys_29 mf_X12_boy mv_X12_boy ml_X12_408 kc_26 rfl rfl (by decide) rfl rfl (pj_iconst hM (pc := 32) dX12_boys_32 (by decide) k)))))) ?_
  refine pj_tif (fun h4 => ?_) (fun h4 => ?_)
  · refine pj_tmap ?_
    refine pj_map (fun k => pj_ic_eq_t hM (pc := 33) dX12_boys_33 rfl h4 (pj_kill hM [true, false, true] (lls' := [(26, 0), (9, 0), (0, x2)]) rfl k)) ?_
    exact tM_boys_42 hM x2 w _ h0
  exact pj_tret (fun hr => pj_ic_eq_f hM (pc := 33) 42 dX12_boys_33 rfl h4 (pj_iinc hM (pc := 36) dX12_boys_36 rfl (by decide) (lls' := [(26, 0), (0, x1), (0, (pj_wr (x2 + 1)))]) rfl (pj_goto hM (pc := 39) dX12_boys_39 rfl (pj_kill hM [true, true, true] (lls' := [(26, 0), (0, x1), (0, (pj_wr (x2 + 1)))]) rfl ((hk20 _ hr))))))
theorem tM_boys_20 {Go : pj_C → Prop} (hM : pj_M l yX12_boys cX12_boys 3 (some .int) 3 69 true g n0 o Go) (x1 : Int) (w : pj_W)  (R : Int × pj_W → Prop) (h0 : ∀ r, R (r) → ((some (0, r.1) : Option pj_V), r.2) = o) (s : (Int)) : pj_TG R (fM_boys_20 x1 w s) (Go (20, [(26, 0), (0, x1), (0, s)], [], w)) := by
  unfold fM_boys_20
  exact pj_tLp (G := fun s : (Int) => Go (20, [(26, 0), (0, x1), (0, s)], [], w)) (fun s => tM_boys_20b hM x1 w s  _ (fun r h => h0 r h)  (fun s h => h)) s
theorem tM_boys {Go : pj_C → Prop} (hM : pj_M l yX12_boys cX12_boys 3 (some .int) 3 69 true g n0 o Go) (x1 : Int) (w : pj_W)  (R : Int × pj_W → Prop) (h0 : ∀ r, R (r) → ((some (0, r.1) : Option pj_V), r.2) = o) : pj_TG R (fM_boys x1 w) (Go (0, [(26, 0), (0, x1), (9, 0)], [], w)) := by
  unfold fM_boys
  refine pj_tbind (fun p1 h2 => ?_)
  refine pj_map (fun k => pj_iload_n hM (pc := 0) dX12_boys_0 rfl (pj_i2l hM (pc := 1) dX12_boys_1 (pj_lconst hM (pc := 2) (z := 0) dX12_boys_2 rfl (by decide) (pj_ldc2 hM (pc := 3) (z := 40) dX12_boys_3 kn_X12_332 rfl (by decide) (pj_cS hM (pc := 6) (cM_isFrom x1 0 40 w p1 h2) dX12_boys_6 mf_X12_isFrom ms_X12_isFrom ml_X12_289 rfl rfl rfl rfl k))))) ?_
  refine pj_tif (fun h3 => ?_) (fun h3 => ?_)
  · refine pj_tbind (fun p4 h5 => ?_)
    exact pj_tret (fun hr => pj_if_ne_f hM (pc := 9) 18 dX12_boys_9 rfl (fun q => q h3) (pj_aload_n hM (pc := 12) dX12_boys_12 rfl rfl (pj_iconst hM (pc := 13) dX12_boys_13 (by decide) (pj_cV hM (pc := 14) (cM_refuse 1 w p4 h5) dX12_boys_14 mf_X12_refuse mv_X12_refuse ml_X12_78 kc_26 rfl rfl (by decide) rfl rfl (pj_ret hM (pc := 17) dX12_boys_17 ⟨_, rfl⟩ (h0 ((p4.1, p4.2)) hr) rfl)))))
  refine pj_map (fun k => pj_if_ne_t hM (pc := 9) dX12_boys_9 rfl h3 (pj_iconst hM (pc := 18) dX12_boys_18 (by decide) (pj_istore_n hM (pc := 19) dX12_boys_19 (by decide) (lls' := [(26, 0), (0, x1), (0, 0)]) rfl (pj_kill hM [true, true, true] (lls' := [(26, 0), (0, x1), (0, 0)]) rfl k)))) ?_
  exact tM_boys_20 hM x1 w _ h0 _
theorem cM_boys (x1 : Int)  (w : pj_W) (r : Int × pj_W) (h : fM_boys x1 w = some r) : pj_Cn l yX12_boys cX12_boys 3 (some .int) 3 69 true g [(26, 0), (0, x1)] w ((some (0, r.1) : Option pj_V), r.2) :=
  pj_Cn_of rfl (Nat.le_of_ble_eq_true rfl) (lls := [(26, 0), (0, x1), (9, 0)]) rfl (fun Go hM => tM_boys hM x1 w (fun x => ((some (0, x.1) : Option pj_V), x.2) = ((some (0, r.1) : Option pj_V), r.2)) (fun r h => h) r h rfl)
noncomputable def fM_ownMany_32 (x1 : Int) (x2 : Int) (x4 : Int) (s0 : Int) (s1 : Int) (w : pj_W) : Option ((Int × Int) ⊕ (Int)) :=
  some (Sum.inl ((pj_wr (s0 + s1)), (pj_wr (x4 + 1))))
noncomputable def fM_ownMany_5b (x1 : Int) (x2 : Int) (w : pj_W) (x3 : Int) (x4 : Int) : Option ((Int × Int) ⊕ (Int)) :=
  (fM_manyOn x2 w).bind fun p1 => (if p1 ≤ x4 then (some (Sum.inr (x3))) else ((fM_whoAt x2 x4 w).bind fun p4 => (fM_ownMany_32 x1 x2 x4 x3 (if p4 = x1 then (1 : Int) else 0) w)))
noncomputable def fM_ownMany_5 (x1 : Int) (x2 : Int) (w : pj_W) (s : (Int × Int)) : Option (Int) := pj_Lp (fun s : (Int × Int) => fM_ownMany_5b x1 x2 w s.1 s.2) s
noncomputable def fM_ownMany (x1 : Int) (x2 : Int) (w : pj_W) : Option (Int) :=
  fM_ownMany_5 x1 x2 w (0, 0)
theorem tM_ownMany_32 {Go : pj_C → Prop} (hM : pj_M l yX12_ownMany cX12_ownMany 5 (some .int) 2 44 true g n0 o Go) (x1 : Int) (x2 : Int) (x4 : Int) (s0 : Int) (s1 : Int) (w : pj_W)  (R : (Int × Int) ⊕ (Int) → Prop) (h0 : ∀ r, R (Sum.inr (r)) → ((some (0, r) : Option pj_V), w) = o) (hk5 : ∀ s, R (Sum.inl s) → Go (5, [(26, 0), (0, x1), (0, x2), (0, s.1), (0, s.2)], [], w)) : pj_TG R (fM_ownMany_32 x1 x2 x4 s0 s1 w) (Go (32, [(26, 0), (0, x1), (0, x2), (9, 0), (0, x4)], [(0, s1), (0, s0)], w)) := by
  unfold fM_ownMany_32
  exact pj_tret (fun hr => pj_iadd hM (pc := 32) dX12_ownMany_32 (pj_istore_n hM (pc := 33) dX12_ownMany_33 (by decide) (lls' := [(26, 0), (0, x1), (0, x2), (0, (pj_wr (s0 + s1))), (0, x4)]) rfl (pj_iinc hM (pc := 34) dX12_ownMany_34 rfl (by decide) (lls' := [(26, 0), (0, x1), (0, x2), (0, (pj_wr (s0 + s1))), (0, (pj_wr (x4 + 1)))]) rfl (pj_goto hM (pc := 37) dX12_ownMany_37 rfl (pj_kill hM [true, true, true, true, true] (lls' := [(26, 0), (0, x1), (0, x2), (0, (pj_wr (s0 + s1))), (0, (pj_wr (x4 + 1)))]) rfl ((hk5 _ hr)))))))
theorem tM_ownMany_5b {Go : pj_C → Prop} (hM : pj_M l yX12_ownMany cX12_ownMany 5 (some .int) 2 44 true g n0 o Go) (x1 : Int) (x2 : Int) (w : pj_W) (x3 : Int) (x4 : Int)  (R : (Int × Int) ⊕ (Int) → Prop) (h0 : ∀ r, R (Sum.inr (r)) → ((some (0, r) : Option pj_V), w) = o) (hk5 : ∀ s, R (Sum.inl s) → Go (5, [(26, 0), (0, x1), (0, x2), (0, s.1), (0, s.2)], [], w)) : pj_TG R (fM_ownMany_5b x1 x2 w x3 x4) (Go (5, [(26, 0), (0, x1), (0, x2), (0, x3), (0, x4)], [], w)) := by
  unfold fM_ownMany_5b
  refine pj_tbind (fun p1 h2 => ?_)
  refine pj_map (fun k => pj_iload hM (pc := 5) dX12_ownMany_5 rfl (pj_aload_n hM (pc := 7) dX12_ownMany_7 rfl rfl (pj_iload_n hM (pc := 8) dX12_ownMany_8 rfl (pj_cV hM (pc := 9) (cM_manyOn x2 w p1 h2) dX12_ownMany_9 mf_X12_manyOn mv_X12_manyOn ml_X12_277 kc_26 rfl rfl (by decide) rfl rfl k)))) ?_
  refine pj_tif (fun h3 => ?_) (fun h3 => ?_)
  · exact pj_tret (fun hr => pj_ic_ge_t hM (pc := 12) dX12_ownMany_12 rfl h3 (pj_iload_n hM (pc := 40) dX12_ownMany_40 rfl (pj_ret hM (pc := 41) dX12_ownMany_41 ⟨_, rfl⟩ (h0 (x3) hr) rfl)))
  refine pj_tbind (fun p4 h5 => ?_)
  refine pj_map (fun k => pj_ic_ge_f hM (pc := 12) 40 dX12_ownMany_12 rfl h3 (pj_iload_n hM (pc := 15) dX12_ownMany_15 rfl (pj_aload_n hM (pc := 16) dX12_ownMany_16 rfl rfl (pj_iload_n hM (pc := 17) dX12_ownMany_17 rfl (pj_iload hM (pc := 18) dX12_ownMany_18 rfl (pj_cV hM (pc := 20) (cM_whoAt x2 x4 w p4 h5) dX12_ownMany_20 mf_X12_whoAt mv_X12_whoAt ml_X12_308 kc_26 rfl rfl (by decide) rfl rfl (pj_iload_n hM (pc := 23) dX12_ownMany_23 rfl k))))))) ?_
  refine pj_tJ (fun v : Int => fM_ownMany_32 x1 x2 x4 x3 v w) (fun h6 => ?_) (fun h6 => ?_)
  · refine pj_map (fun k => pj_ic_ne_f hM (pc := 24) 31 dX12_ownMany_24 rfl (fun q => q h6) (pj_iconst hM (pc := 27) dX12_ownMany_27 (by decide) (pj_goto hM (pc := 28) dX12_ownMany_28 rfl (pj_kill hM [true, true, true, false, true] (lls' := [(26, 0), (0, x1), (0, x2), (9, 0), (0, x4)]) rfl k)))) ?_
    exact tM_ownMany_32 hM x1 x2 x4 x3 1 w _ h0 hk5
  refine pj_map (fun k => pj_ic_ne_t hM (pc := 24) dX12_ownMany_24 rfl h6 (pj_iconst hM (pc := 31) dX12_ownMany_31 (by decide) (pj_kill hM [true, true, true, false, true] (lls' := [(26, 0), (0, x1), (0, x2), (9, 0), (0, x4)]) rfl k))) ?_
  exact tM_ownMany_32 hM x1 x2 x4 x3 0 w _ h0 hk5
theorem tM_ownMany_5 {Go : pj_C → Prop} (hM : pj_M l yX12_ownMany cX12_ownMany 5 (some .int) 2 44 true g n0 o Go) (x1 : Int) (x2 : Int) (w : pj_W)  (R : Int → Prop) (h0 : ∀ r, R (r) → ((some (0, r) : Option pj_V), w) = o) (s : (Int × Int)) : pj_TG R (fM_ownMany_5 x1 x2 w s) (Go (5, [(26, 0), (0, x1), (0, x2), (0, s.1), (0, s.2)], [], w)) := by
  unfold fM_ownMany_5
  exact pj_tLp (G := fun s : (Int × Int) => Go (5, [(26, 0), (0, x1), (0, x2), (0, s.1), (0, s.2)], [], w)) (fun s => tM_ownMany_5b hM x1 x2 w s.1 s.2  _ (fun r h => h0 r h)  (fun s h => h)) s
theorem tM_ownMany {Go : pj_C → Prop} (hM : pj_M l yX12_ownMany cX12_ownMany 5 (some .int) 2 44 true g n0 o Go) (x1 : Int) (x2 : Int) (w : pj_W)  (R : Int → Prop) (h0 : ∀ r, R (r) → ((some (0, r) : Option pj_V), w) = o) : pj_TG R (fM_ownMany x1 x2 w) (Go (0, [(26, 0), (0, x1), (0, x2), (9, 0), (9, 0)], [], w)) := by
  unfold fM_ownMany
  refine pj_map (fun k => pj_iconst hM (pc := 0) dX12_ownMany_0 (by decide) (pj_istore_n hM (pc := 1) dX12_ownMany_1 (by decide) (lls' := [(26, 0), (0, x1), (0, x2), (0, 0), (9, 0)]) rfl (pj_iconst hM (pc := 2) dX12_ownMany_2 (by decide) (pj_istore hM (pc := 3) dX12_ownMany_3 (by decide) (lls' := [(26, 0), (0, x1), (0, x2), (0, 0), (0, 0)]) rfl (pj_kill hM [true, true, true, true, true] (lls' := [(26, 0), (0, x1), (0, x2), (0, 0), (0, 0)]) rfl k))))) ?_
  exact tM_ownMany_5 hM x1 x2 w _ h0 _
theorem cM_ownMany (x1 : Int) (x2 : Int)  (w : pj_W) (r : Int) (h : fM_ownMany x1 x2 w = some r) : pj_Cn l yX12_ownMany cX12_ownMany 5 (some .int) 2 44 true g [(26, 0), (0, x1), (0, x2)] w ((some (0, r) : Option pj_V), w) :=
  pj_Cn_of rfl (Nat.le_of_ble_eq_true rfl) (lls := [(26, 0), (0, x1), (0, x2), (9, 0), (9, 0)]) rfl (fun Go hM => tM_ownMany hM x1 x2 w (fun x => ((some (0, x) : Option pj_V), w) = ((some (0, r) : Option pj_V), w)) (fun r h => h) r h rfl)
noncomputable def fM_strewnOf_4b (x1 : Int) (w : pj_W) (x2 : Int) (x3 : Int) : Option ((Int × Int) ⊕ (Int)) :=
  if (w 60 0 2) ≤ x3 then (some (Sum.inr (x2))) else ((fM_ownMany x1 x3 w).bind fun p2 => (some (Sum.inl ((pj_wr (x2 + p2)), (pj_wr (x3 + 1))))))
noncomputable def fM_strewnOf_4 (x1 : Int) (w : pj_W) (s : (Int × Int)) : Option (Int) := pj_Lp (fun s : (Int × Int) => fM_strewnOf_4b x1 w s.1 s.2) s
noncomputable def fM_strewnOf (x1 : Int) (w : pj_W) : Option (Int) :=
  fM_strewnOf_4 x1 w (0, 0)
theorem tM_strewnOf_4b {Go : pj_C → Prop} (hM : pj_M l yX12_strewnOf cX12_strewnOf 4 (some .int) 3 68 true g n0 o Go) (x1 : Int) (w : pj_W) (x2 : Int) (x3 : Int)  (R : (Int × Int) ⊕ (Int) → Prop) (h0 : ∀ r, R (Sum.inr (r)) → ((some (0, r) : Option pj_V), w) = o) (hk4 : ∀ s, R (Sum.inl s) → Go (4, [(26, 0), (0, x1), (0, s.1), (0, s.2)], [], w)) : pj_TG R (fM_strewnOf_4b x1 w x2 x3) (Go (4, [(26, 0), (0, x1), (0, x2), (0, x3)], [], w)) := by
  unfold fM_strewnOf_4b
  refine pj_map (fun k => pj_iload_n hM (pc := 4) dX12_strewnOf_4 rfl (pj_aload_n hM (pc := 5) dX12_strewnOf_5 rfl rfl (pj_getF hM (pc := 6) (t := 60) dX12_strewnOf_6 fl_X12_7 (by decide) rfl rfl (pj_iconst hM (pc := 9) dX12_strewnOf_9 (by decide) (pj_ial hM (pc := 10) dX12_strewnOf_10 ki_60 (by decide) (by decide) k))))) ?_
  refine pj_tif (fun h1 => ?_) (fun h1 => ?_)
  · exact pj_tret (fun hr => pj_ic_ge_t hM (pc := 11) dX12_strewnOf_11 rfl h1 (pj_iload_n hM (pc := 29) dX12_strewnOf_29 rfl (pj_ret hM (pc := 30) dX12_strewnOf_30 ⟨_, rfl⟩ (h0 (x2) hr) rfl)))
  refine pj_tbind (fun p2 h3 => ?_)
  exact pj_tret (fun hr => pj_ic_ge_f hM (pc := 11) 29 dX12_strewnOf_11 rfl h1 (pj_iload_n hM (pc := 14) dX12_strewnOf_14 rfl (pj_aload_n hM (pc := 15) dX12_strewnOf_15 rfl rfl (pj_iload_n hM (pc := 16) dX12_strewnOf_16 rfl (pj_iload_n hM (pc := 17) dX12_strewnOf_17 rfl (pj_cV hM (pc := 18) (cM_ownMany x1 x3 w p2 h3) dX12_strewnOf_18 mf_X12_ownMany mv_X12_ownMany ml_X12_364 kc_26 rfl rfl (by decide) rfl rfl (pj_iadd hM (pc := 21) dX12_strewnOf_21 (pj_istore_n hM (pc := 22) dX12_strewnOf_22 (by decide) (lls' := [(26, 0), (0, x1), (0, (pj_wr (x2 + p2))), (0, x3)]) rfl (pj_iinc hM (pc := 23) dX12_strewnOf_23 rfl (by decide) (lls' := [(26, 0), (0, x1), (0, (pj_wr (x2 + p2))), (0, (pj_wr (x3 + 1)))]) rfl (pj_goto hM (pc := 26) dX12_strewnOf_26 rfl (pj_kill hM [true, true, true, true] (lls' := [(26, 0), (0, x1), (0, (pj_wr (x2 + p2))), (0, (pj_wr (x3 + 1)))]) rfl ((hk4 _ hr)))))))))))))
theorem tM_strewnOf_4 {Go : pj_C → Prop} (hM : pj_M l yX12_strewnOf cX12_strewnOf 4 (some .int) 3 68 true g n0 o Go) (x1 : Int) (w : pj_W)  (R : Int → Prop) (h0 : ∀ r, R (r) → ((some (0, r) : Option pj_V), w) = o) (s : (Int × Int)) : pj_TG R (fM_strewnOf_4 x1 w s) (Go (4, [(26, 0), (0, x1), (0, s.1), (0, s.2)], [], w)) := by
  unfold fM_strewnOf_4
  exact pj_tLp (G := fun s : (Int × Int) => Go (4, [(26, 0), (0, x1), (0, s.1), (0, s.2)], [], w)) (fun s => tM_strewnOf_4b hM x1 w s.1 s.2  _ (fun r h => h0 r h)  (fun s h => h)) s
theorem tM_strewnOf {Go : pj_C → Prop} (hM : pj_M l yX12_strewnOf cX12_strewnOf 4 (some .int) 3 68 true g n0 o Go) (x1 : Int) (w : pj_W)  (R : Int → Prop) (h0 : ∀ r, R (r) → ((some (0, r) : Option pj_V), w) = o) : pj_TG R (fM_strewnOf x1 w) (Go (0, [(26, 0), (0, x1), (9, 0), (9, 0)], [], w)) := by
  unfold fM_strewnOf
  refine pj_map (fun k => pj_iconst hM (pc := 0) dX12_strewnOf_0 (by decide) (pj_istore_n hM (pc := 1) dX12_strewnOf_1 (by decide) (lls' := [(26, 0), (0, x1), (0, 0), (9, 0)]) rfl (pj_iconst hM (pc := 2) dX12_strewnOf_2 (by decide) (pj_istore_n hM (pc := 3) dX12_strewnOf_3 (by decide) (lls' := [(26, 0), (0, x1), (0, 0), (0, 0)]) rfl (pj_kill hM [true, true, true, true] (lls' := [(26, 0), (0, x1), (0, 0), (0, 0)]) rfl k))))) ?_
  exact tM_strewnOf_4 hM x1 w _ h0 _
theorem cM_strewnOf (x1 : Int)  (w : pj_W) (r : Int) (h : fM_strewnOf x1 w = some r) : pj_Cn l yX12_strewnOf cX12_strewnOf 4 (some .int) 3 68 true g [(26, 0), (0, x1)] w ((some (0, r) : Option pj_V), w) :=
  pj_Cn_of rfl (Nat.le_of_ble_eq_true rfl) (lls := [(26, 0), (0, x1), (9, 0), (9, 0)]) rfl (fun Go hM => tM_strewnOf hM x1 w (fun x => ((some (0, x) : Option pj_V), w) = ((some (0, r) : Option pj_V), w)) (fun r h => h) r h rfl)
noncomputable def fM_busiest_34 (x1 : Int) (x2 : Int) (w : pj_W) : Option ((Int × Int) ⊕ (Int × pj_W)) :=
  some (Sum.inl (x1, (pj_wr (x2 + 1))))
noncomputable def fM_busiest_32 (x2 : Int) (w : pj_W) : Option ((Int × Int) ⊕ (Int × pj_W)) :=
  fM_busiest_34 x2 x2 w
noncomputable def fM_busiest_4b  (w : pj_W) (x1 : Int) (x2 : Int) : Option ((Int × Int) ⊕ (Int × pj_W)) :=
  if (w 60 0 1) ≤ x2 then ((fM_orNone x1 w).bind fun p2 => (some (Sum.inr ((p2.1, p2.2))))) else (if x1 = (-1) then (fM_busiest_32 x2 w) else ((fM_strewnOf x2 w).bind fun p5 => ((fM_strewnOf x1 w).bind fun p7 => (if p5 ≤ p7 then (fM_busiest_34 x1 x2 w) else (fM_busiest_32 x2 w)))))
noncomputable def fM_busiest_4  (w : pj_W) (s : (Int × Int)) : Option (Int × pj_W) := pj_Lp (fun s : (Int × Int) => fM_busiest_4b  w s.1 s.2) s
noncomputable def fM_busiest  (w : pj_W) : Option (Int × pj_W) :=
  fM_busiest_4 w ((-1), 0)
theorem tM_busiest_34 {Go : pj_C → Prop} (hM : pj_M l yX12_busiest cX12_busiest 3 (some .int) 4 91 true g n0 o Go) (x1 : Int) (x2 : Int) (w : pj_W)  (R : (Int × Int) ⊕ (Int × pj_W) → Prop) (h0 : ∀ r, R (Sum.inr (r)) → ((some (0, r.1) : Option pj_V), r.2) = o) (hk4 : ∀ s, R (Sum.inl s) → Go (4, [(26, 0), (0, s.1), (0, s.2)], [], w)) : pj_TG R (fM_busiest_34 x1 x2 w) (Go (34, [(26, 0), (0, x1), (0, x2)], [], w)) := by
  unfold fM_busiest_34
  exact pj_tret (fun hr => pj_iinc hM (pc := 34) dX12_busiest_34 rfl (by decide) (lls' := [(26, 0), (0, x1), (0, (pj_wr (x2 + 1)))]) rfl (pj_goto hM (pc := 37) dX12_busiest_37 rfl (pj_kill hM [true, true, true] (lls' := [(26, 0), (0, x1), (0, (pj_wr (x2 + 1)))]) rfl ((hk4 _ hr)))))
theorem tM_busiest_32 {Go : pj_C → Prop} (hM : pj_M l yX12_busiest cX12_busiest 3 (some .int) 4 91 true g n0 o Go) (x2 : Int) (w : pj_W)  (R : (Int × Int) ⊕ (Int × pj_W) → Prop) (h0 : ∀ r, R (Sum.inr (r)) → ((some (0, r.1) : Option pj_V), r.2) = o) (hk4 : ∀ s, R (Sum.inl s) → Go (4, [(26, 0), (0, s.1), (0, s.2)], [], w)) : pj_TG R (fM_busiest_32 x2 w) (Go (32, [(26, 0), (9, 0), (0, x2)], [], w)) := by
  unfold fM_busiest_32
  refine pj_map (fun k => pj_iload_n hM (pc := 32) dX12_busiest_32 rfl (pj_istore_n hM (pc := 33) dX12_busiest_33 (by decide) (lls' := [(26, 0), (0, x2), (0, x2)]) rfl (pj_kill hM [true, true, true] (lls' := [(26, 0), (0, x2), (0, x2)]) rfl k))) ?_
  exact tM_busiest_34 hM x2 x2 w _ h0 hk4
theorem tM_busiest_4b {Go : pj_C → Prop} (hM : pj_M l yX12_busiest cX12_busiest 3 (some .int) 4 91 true g n0 o Go)  (w : pj_W) (x1 : Int) (x2 : Int)  (R : (Int × Int) ⊕ (Int × pj_W) → Prop) (h0 : ∀ r, R (Sum.inr (r)) → ((some (0, r.1) : Option pj_V), r.2) = o) (hk4 : ∀ s, R (Sum.inl s) → Go (4, [(26, 0), (0, s.1), (0, s.2)], [], w)) : pj_TG R (fM_busiest_4b  w x1 x2) (Go (4, [(26, 0), (0, x1), (0, x2)], [], w)) := by
  unfold fM_busiest_4b
  refine pj_map (fun k => pj_iload_n hM (pc := 4) dX12_busiest_4 rfl (pj_aload_n hM (pc := 5) dX12_busiest_5 rfl rfl (pj_getF hM (pc := 6) (t := 60) dX12_busiest_6 fl_X12_7 (by decide) rfl rfl (pj_iconst hM (pc := 9) dX12_busiest_9 (by decide) (pj_ial hM (pc := 10) dX12_busiest_10 ki_60 (by decide) (by decide) k))))) ?_
  refine pj_tif (fun h1 => ?_) (fun h1 => ?_)
  · refine pj_tbind (fun p2 h3 => ?_)
    exact pj_tret (fun hr => pj_ic_ge_t hM (pc := 11) dX12_busiest_11 rfl h1 (pj_aload_n hM (pc := 40) dX12_busiest_40 rfl rfl (pj_iload_n hM (pc := 41) dX12_busiest_41 rfl (pj_cV hM (pc := 42) (cM_orNone x1 w p2 h3) dX12_busiest_42 mf_X12_orNone mv_X12_orNone ml_X12_358 kc_26 rfl rfl (by decide) rfl rfl (pj_ret hM (pc := 45) dX12_busiest_45 ⟨_, rfl⟩ (h0 ((p2.1, p2.2)) hr) rfl)))))
  refine pj_map (fun k => pj_ic_ge_f hM (pc := 11) 40 dX12_busiest_11 rfl h1 (pj_iload_n hM (pc := 14) dX12_busiest_14 rfl (pj_iconst hM (pc := 15) dX12_busiest_15 (by decide) k))) ?_
  refine pj_tif (fun h4 => ?_) (fun h4 => ?_)
  · refine pj_map (fun k => pj_ic_eq_t hM (pc := 16) dX12_busiest_16 rfl h4 (pj_kill hM [true, false, true] (lls' := [(26, 0), (9, 0), (0, x2)]) rfl k)) ?_
    exact tM_busiest_32 hM x2 w _ h0 hk4
  refine pj_tbind (fun p5 h6 => ?_)
  refine pj_tbind (fun p7 h8 => ?_)
  refine pj_map (fun k => pj_ic_eq_f hM (pc := 16) 32 dX12_busiest_16 rfl h4 (pj_aload_n hM (pc := 19) dX12_busiest_19 rfl rfl (pj_iload_n hM (pc := 20) dX12_busiest_20 rfl (pj_cV hM (pc := 21) (cM_strewnOf x2 w p5 h6) dX12_busiest_21 mf_X12_strewnOf mv_X12_strewnOf ml_X12_361 kc_26 rfl rfl (by decide) rfl rfl (pj_aload_n hM (pc := 24) dX12_busiest_24 rfl rfl (pj_iload_n hM (pc := 25) dX12_busiest_25 rfl (pj_cV hM (pc := 26) (cM_strewnOf x1 w p7 h8) dX12_busiest_26 mf_X12_strewnOf mv_X12_strewnOf ml_X12_361 kc_26 rfl rfl (by decide) rfl rfl k))))))) ?_
  refine pj_tif (fun h9 => ?_) (fun h9 => ?_)
  · refine pj_map (fun k => pj_ic_le_t hM (pc := 29) dX12_busiest_29 rfl h9 (pj_kill hM [true, true, true] (lls' := [(26, 0), (0, x1), (0, x2)]) rfl k)) ?_
    exact tM_busiest_34 hM x1 x2 w _ h0 hk4
  refine pj_map (fun k => pj_ic_le_f hM (pc := 29) 34 dX12_busiest_29 rfl h9 (pj_kill hM [true, false, true] (lls' := [(26, 0), (9, 0), (0, x2)]) rfl k)) ?_
  exact tM_busiest_32 hM x2 w _ h0 hk4
theorem tM_busiest_4 {Go : pj_C → Prop} (hM : pj_M l yX12_busiest cX12_busiest 3 (some .int) 4 91 true g n0 o Go)  (w : pj_W)  (R : Int × pj_W → Prop) (h0 : ∀ r, R (r) → ((some (0, r.1) : Option pj_V), r.2) = o) (s : (Int × Int)) : pj_TG R (fM_busiest_4  w s) (Go (4, [(26, 0), (0, s.1), (0, s.2)], [], w)) := by
  unfold fM_busiest_4
  exact pj_tLp (G := fun s : (Int × Int) => Go (4, [(26, 0), (0, s.1), (0, s.2)], [], w)) (fun s => tM_busiest_4b hM  w s.1 s.2  _ (fun r h => h0 r h)  (fun s h => h)) s
theorem tM_busiest {Go : pj_C → Prop} (hM : pj_M l yX12_busiest cX12_busiest 3 (some .int) 4 91 true g n0 o Go)  (w : pj_W)  (R : Int × pj_W → Prop) (h0 : ∀ r, R (r) → ((some (0, r.1) : Option pj_V), r.2) = o) : pj_TG R (fM_busiest  w) (Go (0, [(26, 0), (9, 0), (9, 0)], [], w)) := by
  unfold fM_busiest
  refine pj_map (fun k => pj_iconst hM (pc := 0) dX12_busiest_0 (by decide) (pj_istore_n hM (pc := 1) dX12_busiest_1 (by decide) (lls' := [(26, 0), (0, (-1)), (9, 0)]) rfl (pj_iconst hM (pc := 2) dX12_busiest_2 (by decide) (pj_istore_n hM (pc := 3) dX12_busiest_3 (by decide) (lls' := [(26, 0), (0, (-1)), (0, 0)]) rfl (pj_kill hM [true, true, true] (lls' := [(26, 0), (0, (-1)), (0, 0)]) rfl k))))) ?_
  exact tM_busiest_4 hM w _ h0 _
theorem cM_busiest   (w : pj_W) (r : Int × pj_W) (h : fM_busiest  w = some r) : pj_Cn l yX12_busiest cX12_busiest 3 (some .int) 4 91 true g [(26, 0)] w ((some (0, r.1) : Option pj_V), r.2) :=
  pj_Cn_of rfl (Nat.le_of_ble_eq_true rfl) (lls := [(26, 0), (9, 0), (9, 0)]) rfl (fun Go hM => tM_busiest hM w (fun x => ((some (0, x.1) : Option pj_V), x.2) = ((some (0, r.1) : Option pj_V), r.2)) (fun r h => h) r h rfl)
noncomputable def fM_crowd_86 (x1 : Int) (x2 : Int) (x3 : Int) (x5 : Int) (s0 : Int) (s1 : Int) (w : pj_W) : Option ((Int × Int) ⊕ ((Int × Int) ⊕ (Int × pj_W))) :=
  some (Sum.inl ((pj_wr (s0 + s1)), (pj_wr (x5 + 1))))
noncomputable def fM_crowd_85 (x1 : Int) (x2 : Int) (x3 : Int) (x5 : Int) (s0 : Int) (w : pj_W) : Option ((Int × Int) ⊕ ((Int × Int) ⊕ (Int × pj_W))) :=
  fM_crowd_86 x1 x2 x3 x5 s0 0 w
noncomputable def fM_crowd_38b (x1 : Int) (x2 : Int) (x3 : Int) (w : pj_W) (x4 : Int) (x5 : Int) : Option ((Int × Int) ⊕ ((Int × Int) ⊕ (Int × pj_W))) :=
  if (w 60 0 1) ≤ x5 then (some (Sum.inr (Sum.inl ((max x2 x4), (pj_wr (x3 + 1)))))) else ((fM_finderRow x5 w).bind fun p2 => (if 0 ≤ p2 ∧ p2 < 8400 then (if (w 60 0 p2) < x3 then (fM_crowd_85 x1 x2 x3 x5 x4 w) else ((fM_finderRow x5 w).bind fun p6 => (if 0 ≤ p6 ∧ p6 < 8400 then (if (pj_wr (x3 + x1)) ≤ (w 60 0 p6) then (fM_crowd_85 x1 x2 x3 x5 x4 w) else (fM_crowd_86 x1 x2 x3 x5 x4 1 w)) else none))) else none))
noncomputable def fM_crowd_38 (x1 : Int) (x2 : Int) (x3 : Int) (w : pj_W) (s : (Int × Int)) : Option ((Int × Int) ⊕ (Int × pj_W)) := pj_Lp (fun s : (Int × Int) => fM_crowd_38b x1 x2 x3 w s.1 s.2) s
noncomputable def fM_crowd_22b (x1 : Int) (w : pj_W) (x2 : Int) (x3 : Int) : Option ((Int × Int) ⊕ (Int × pj_W)) :=
  if (w 60 0 0) ≤ x3 then ((fM_gives x2 w).bind fun p2 => (some (Sum.inr ((p2.1, p2.2))))) else (fM_crowd_38 x1 x2 x3 w (0, 0))
noncomputable def fM_crowd_22 (x1 : Int) (w : pj_W) (s : (Int × Int)) : Option (Int × pj_W) := pj_Lp (fun s : (Int × Int) => fM_crowd_22b x1 w s.1 s.2) s
noncomputable def fM_crowd (x1 : Int) (w : pj_W) : Option (Int × pj_W) :=
  (fM_isFrom x1 1 40 w).bind fun p1 => (if p1 = 0 then ((fM_refuse 1 w).bind fun p4 => (some ((p4.1, p4.2)))) else (fM_crowd_22 x1 w (0, 0)))
theorem tM_crowd_86 {Go : pj_C → Prop} (hM : pj_M l yX12_crowd cX12_crowd 6 (some .int) 1 25 true g n0 o Go) (x1 : Int) (x2 : Int) (x3 : Int) (x5 : Int) (s0 : Int) (s1 : Int) (w : pj_W)  (R : (Int × Int) ⊕ ((Int × Int) ⊕ (Int × pj_W)) → Prop) (h0 : ∀ r, R (Sum.inr (Sum.inr (r))) → ((some (0, r.1) : Option pj_V), r.2) = o) (hk22 : ∀ s, R (Sum.inr (Sum.inl s)) → Go (22, [(26, 0), (0, x1), (0, s.1), (0, s.2), (9, 0), (9, 0)], [], w)) (hk38 : ∀ s, R (Sum.inl s) → Go (38, [(26, 0), (0, x1), (0, x2), (0, x3), (0, s.1), (0, s.2)], [], w)) : pj_TG R (fM_crowd_86 x1 x2 x3 x5 s0 s1 w) (Go (86, [(26, 0), (0, x1), (0, x2), (0, x3), (9, 0), (0, x5)], [(0, s1), (0, s0)], w)) := by
  unfold fM_crowd_86
  exact pj_tret (fun hr => pj_iadd hM (pc := 86) dX12_crowd_86 (pj_istore hM (pc := 87) dX12_crowd_87 (by decide) (lls' := [(26, 0), (0, x1), (0, x2), (0, x3), (0, (pj_wr (s0 + s1))), (0, x5)]) rfl (pj_iinc hM (pc := 89) dX12_crowd_89 rfl (by decide) (lls' := [(26, 0), (0, x1), (0, x2), (0, x3), (0, (pj_wr (s0 + s1))), (0, (pj_wr (x5 + 1)))]) rfl (pj_goto hM (pc := 92) dX12_crowd_92 rfl (pj_kill hM [true, true, true, true, true, true] (lls' := [(26, 0), (0, x1), (0, x2), (0, x3), (0, (pj_wr (s0 + s1))), (0, (pj_wr (x5 + 1)))]) rfl ((hk38 _ hr)))))))
theorem tM_crowd_85 {Go : pj_C → Prop} (hM : pj_M l yX12_crowd cX12_crowd 6 (some .int) 1 25 true g n0 o Go) (x1 : Int) (x2 : Int) (x3 : Int) (x5 : Int) (s0 : Int) (w : pj_W)  (R : (Int × Int) ⊕ ((Int × Int) ⊕ (Int × pj_W)) → Prop) (h0 : ∀ r, R (Sum.inr (Sum.inr (r))) → ((some (0, r.1) : Option pj_V), r.2) = o) (hk22 : ∀ s, R (Sum.inr (Sum.inl s)) → Go (22, [(26, 0), (0, x1), (0, s.1), (0, s.2), (9, 0), (9, 0)], [], w)) (hk38 : ∀ s, R (Sum.inl s) → Go (38, [(26, 0), (0, x1), (0, x2), (0, x3), (0, s.1), (0, s.2)], [], w)) : pj_TG R (fM_crowd_85 x1 x2 x3 x5 s0 w) (Go (85, [(26, 0), (0, x1), (0, x2), (0, x3), (9, 0), (0, x5)], [(0, s0)], w)) := by
  unfold fM_crowd_85
  refine pj_map (fun k => pj_iconst hM (pc := 85) dX12_crowd_85 (by decide) (pj_kill hM [true, true, true, true, false, true] (lls' := [(26, 0), (0, x1), (0, x2), (0, x3), (9, 0), (0, x5)]) rfl k)) ?_
  exact tM_crowd_86 hM x1 x2 x3 x5 s0 0 w _ h0 hk22 hk38
theorem tM_crowd_38b {Go : pj_C → Prop} (hM : pj_M l yX12_crowd cX12_crowd 6 (some .int) 1 25 true g n0 o Go) (x1 : Int) (x2 : Int) (x3 : Int) (w : pj_W) (x4 : Int) (x5 : Int)  (R : (Int × Int) ⊕ ((Int × Int) ⊕ (Int × pj_W)) → Prop) (h0 : ∀ r, R (Sum.inr (Sum.inr (r))) → ((some (0, r.1) : Option pj_V), r.2) = o) (hk22 : ∀ s, R (Sum.inr (Sum.inl s)) → Go (22, [(26, 0), (0, x1), (0, s.1), (0, s.2), (9, 0), (9, 0)], [], w)) (hk38 : ∀ s, R (Sum.inl s) → Go (38, [(26, 0), (0, x1), (0, x2), (0, x3), (0, s.1), (0, s.2)], [], w)) : pj_TG R (fM_crowd_38b x1 x2 x3 w x4 x5) (Go (38, [(26, 0), (0, x1), (0, x2), (0, x3), (0, x4), (0, x5)], [], w)) := by
  unfold fM_crowd_38b
  refine pj_map (fun k => pj_iload hM (pc := 38) dX12_crowd_38 rfl (pj_aload_n hM (pc := 40) dX12_crowd_40 rfl rfl (pj_getF hM (pc := 41) (t := 60) dX12_crowd_41 fl_X12_7 (by decide) rfl rfl (pj_iconst hM (pc := 44) dX12_crowd_44 (by decide) (pj_ial hM (pc := 45) dX12_crowd_45 ki_60 (by decide) (by decide) k))))) ?_
  refine pj_tif (fun h1 => ?_) (fun h1 => ?_)
  · exact pj_tret (fun hr => pj_ic_ge_t hM (pc := 46) dX12_crowd_46 rfl h1 (pj_iload_n hM (pc := 95) dX12_crowd_95 rfl (pj_iload hM (pc := 96) dX12_crowd_96 rfl (pj_mmax hM (pc := 98) dX12_crowd_98 mf_J9_max_7cf53 ms_J9_max_7cf53 ml_X12_375 rfl (pj_istore_n hM (pc := 101) dX12_crowd_101 (by decide) (lls' := [(26, 0), (0, x1), (0, (max x2 x4)), (0, x3), (0, x4), (0, x5)]) rfl (pj_iinc hM (pc := 102) dX12_crowd_102 rfl (by decide) (lls' := [(26, 0), (0, x1), (0, (max x2 x4)), (0, (pj_wr (x3 + 1))), (0, x4), (0, x5)]) rfl (pj_goto hM (pc := 105) dX12_crowd_105 rfl (pj_kill hM [true, true, true, true, false, false] (lls' := [(26, 0), (0, x1), (0, (max x2 x4)), (0, (pj_wr (x3 + 1))), (9, 0), (9, 0)]) rfl ((hk22 _ hr))))))))))
  refine pj_tbind (fun p2 h3 => ?_)
  refine pj_tgd (fun h4 => ?_)
  refine pj_map (fun k => pj_ic_ge_f hM (pc := 46) 95 dX12_crowd_46 rfl h1 (pj_iload hM (pc := 49) dX12_crowd_49 rfl (pj_aload_n hM (pc := 51) dX12_crowd_51 rfl rfl (pj_getF hM (pc := 52) (t := 60) dX12_crowd_52 fl_X12_7 (by decide) rfl rfl (pj_iload hM (pc := 55) dX12_crowd_55 rfl (pj_cS hM (pc := 57) (cM_finderRow x5 w p2 h3) dX12_crowd_57 mf_X12_finderRow ms_X12_finderRow ml_X12_274 rfl rfl rfl rfl (pj_ial hM (pc := 60) dX12_crowd_60 ki_60 (by decide) h4 (pj_iload_n hM (pc := 61) dX12_crowd_61 rfl k)))))))) ?_
  refine pj_tif (fun h5 => ?_) (fun h5 => ?_)
  · refine pj_map (fun k => pj_ic_lt_t hM (pc := 62) dX12_crowd_62 rfl h5 (pj_kill hM [true, true, true, true, false, true] (lls' := [(26, 0), (0, x1), (0, x2), (0, x3), (9, 0), (0, x5)]) rfl k)) ?_
    exact tM_crowd_85 hM x1 x2 x3 x5 x4 w _ h0 hk22 hk38
  refine pj_tbind (fun p6 h7 => ?_)
  refine pj_tgd (fun h8 => ?_)
  refine pj_map (fun k => pj_ic_lt_f hM (pc := 62) 85 dX12_crowd_62 rfl h5 (pj_aload_n hM (pc := 65) dX12_crowd_65 rfl rfl (pj_getF hM (pc := 66) (t := 60) dX12_crowd_66 fl_X12_7 (by decide) rfl rfl (pj_iload hM (pc := 69) dX12_crowd_69 rfl (pj_cS hM (pc := 71) (cM_finderRow x5 w p6 h7) dX12_crowd_71 mf_X12_finderRow ms_X12_finderRow ml_X12_274 rfl rfl rfl rfl (pj_ial hM (pc := 74) dX12_crowd_74 ki_60 (by decide) h8 (pj_iload_n hM (pc := 75) dX12_crowd_75 rfl (pj_iload_n hM (pc := 76) dX12_crowd_76 rfl (pj_iadd hM (pc := 77) dX12_crowd_77 k))))))))) ?_
  refine pj_tif (fun h9 => ?_) (fun h9 => ?_)
  · refine pj_map (fun k => pj_ic_ge_t hM (pc := 78) dX12_crowd_78 rfl h9 (pj_kill hM [true, true, true, true, false, true] (lls' := [(26, 0), (0, x1), (0, x2), (0, x3), (9, 0), (0, x5)]) rfl k)) ?_
    exact tM_crowd_85 hM x1 x2 x3 x5 x4 w _ h0 hk22 hk38
  refine pj_map (fun k => pj_ic_ge_f hM (pc := 78) 85 dX12_crowd_78 rfl h9 (pj_iconst hM (pc := 81) dX12_crowd_81 (by decide) (pj_goto hM (pc := 82) dX12_crowd_82 rfl (pj_kill hM [true, true, true, true, false, true] (lls' := [(26, 0), (0, x1), (0, x2), (0, x3), (9, 0), (0, x5)]) rfl k)))) ?_
  exact tM_crowd_86 hM x1 x2 x3 x5 x4 1 w _ h0 hk22 hk38
theorem tM_crowd_38 {Go : pj_C → Prop} (hM : pj_M l yX12_crowd cX12_crowd 6 (some .int) 1 25 true g n0 o Go) (x1 : Int) (x2 : Int) (x3 : Int) (w : pj_W)  (R : (Int × Int) ⊕ (Int × pj_W) → Prop) (h0 : ∀ r, R (Sum.inr (r)) → ((some (0, r.1) : Option pj_V), r.2) = o) (hk22 : ∀ s, R (Sum.inl s) → Go (22, [(26, 0), (0, x1), (0, s.1), (0, s.2), (9, 0), (9, 0)], [], w)) (s : (Int × Int)) : pj_TG R (fM_crowd_38 x1 x2 x3 w s) (Go (38, [(26, 0), (0, x1), (0, x2), (0, x3), (0, s.1), (0, s.2)], [], w)) := by
  unfold fM_crowd_38
  exact pj_tLp (G := fun s : (Int × Int) => Go (38, [(26, 0), (0, x1), (0, x2), (0, x3), (0, s.1), (0, s.2)], [], w)) (fun s => tM_crowd_38b hM x1 x2 x3 w s.1 s.2  _ (fun r h => h0 r h) (fun s h => hk22 s h) (fun s h => h)) s
theorem tM_crowd_22b {Go : pj_C → Prop} (hM : pj_M l yX12_crowd cX12_crowd 6 (some .int) 1 25 true g n0 o Go) (x1 : Int) (w : pj_W) (x2 : Int) (x3 : Int)  (R : (Int × Int) ⊕ (Int × pj_W) → Prop) (h0 : ∀ r, R (Sum.inr (r)) → ((some (0, r.1) : Option pj_V), r.2) = o) (hk22 : ∀ s, R (Sum.inl s) → Go (22, [(26, 0), (0, x1), (0, s.1), (0, s.2), (9, 0), (9, 0)], [], w)) : pj_TG R (fM_crowd_22b x1 w x2 x3) (Go (22, [(26, 0), (0, x1), (0, x2), (0, x3), (9, 0), (9, 0)], [], w)) := by
  unfold fM_crowd_22b
  refine pj_map (fun k => pj_iload_n hM (pc := 22) dX12_crowd_22 rfl (pj_aload_n hM (pc := 23) dX12_crowd_23 rfl rfl (pj_getF hM (pc := 24) (t := 60) dX12_crowd_24 fl_X12_7 (by decide) rfl rfl (pj_iconst hM (pc := 27) dX12_crowd_27 (by decide) (pj_ial hM (pc := 28) dX12_crowd_28 ki_60 (by decide) (by decide) k))))) ?_
  refine pj_tif (fun h1 => ?_) (fun h1 => ?_)
  · refine pj_tbind (fun p2 h3 => ?_)
    exact pj_tret (fun hr => pj_ic_ge_t hM (pc := 29) dX12_crowd_29 rfl h1 (pj_aload_n hM (pc := 108) dX12_crowd_108 rfl rfl (pj_iload_n hM (pc := 109) dX12_crowd_109 rfl (pj_cV hM (pc := 110) (cM_gives x2 w p2 h3) dX12_crowd_110 mf_X12_gives mv_X12_gives ml_X12_82 kc_26 rfl rfl (by decide) rfl rfl (pj_ret hM (pc := 113) dX12_crowd_113 ⟨_, rfl⟩ (h0 ((p2.1, p2.2)) hr) rfl)))))
  refine pj_map (fun k => pj_ic_ge_f hM (pc := 29) 108 dX12_crowd_29 rfl h1 (pj_iconst hM (pc := 32) dX12_crowd_32 (by decide) (pj_istore hM (pc := 33) dX12_crowd_33 (by decide) (lls' := [(26, 0), (0, x1), (0, x2), (0, x3), (0, 0), (9, 0)]) rfl (pj_iconst hM (pc := 35) dX12_crowd_35 (by decide) (pj_istore hM (pc := 36) dX12_crowd_36 (by decide) (lls' := [(26, 0), (0, x1), (0, x2), (0, x3), (0, 0), (0, 0)]) rfl (pj_kill hM [true, true, true, true, true, true] (lls' := [(26, 0), (0, x1), (0, x2), (0, x3), (0, 0), (0, 0)]) rfl k)))))) ?_
  exact tM_crowd_38 hM x1 x2 x3 w _ h0 hk22 _
theorem tM_crowd_22 {Go : pj_C → Prop} (hM : pj_M l yX12_crowd cX12_crowd 6 (some .int) 1 25 true g n0 o Go) (x1 : Int) (w : pj_W)  (R : Int × pj_W → Prop) (h0 : ∀ r, R (r) → ((some (0, r.1) : Option pj_V), r.2) = o) (s : (Int × Int)) : pj_TG R (fM_crowd_22 x1 w s) (Go (22, [(26, 0), (0, x1), (0, s.1), (0, s.2), (9, 0), (9, 0)], [], w)) := by
  unfold fM_crowd_22
  exact pj_tLp (G := fun s : (Int × Int) => Go (22, [(26, 0), (0, x1), (0, s.1), (0, s.2), (9, 0), (9, 0)], [], w)) (fun s => tM_crowd_22b hM x1 w s.1 s.2  _ (fun r h => h0 r h)  (fun s h => h)) s
theorem tM_crowd {Go : pj_C → Prop} (hM : pj_M l yX12_crowd cX12_crowd 6 (some .int) 1 25 true g n0 o Go) (x1 : Int) (w : pj_W)  (R : Int × pj_W → Prop) (h0 : ∀ r, R (r) → ((some (0, r.1) : Option pj_V), r.2) = o) : pj_TG R (fM_crowd x1 w) (Go (0, [(26, 0), (0, x1), (9, 0), (9, 0), (9, 0), (9, 0)], [], w)) := by
  unfold fM_crowd
  refine pj_tbind (fun p1 h2 => ?_)
  refine pj_map (fun k => pj_iload_n hM (pc := 0) dX12_crowd_0 rfl (pj_i2l hM (pc := 1) dX12_crowd_1 (pj_lconst hM (pc := 2) (z := 1) dX12_crowd_2 rfl (by decide) (pj_ldc2 hM (pc := 3) (z := 40) dX12_crowd_3 kn_X12_332 rfl (by decide) (pj_cS hM (pc := 6) (cM_isFrom x1 1 40 w p1 h2) dX12_crowd_6 mf_X12_isFrom ms_X12_isFrom ml_X12_289 rfl rfl rfl rfl k))))) ?_
  refine pj_tif (fun h3 => ?_) (fun h3 => ?_)
  · refine pj_tbind (fun p4 h5 => ?_)
    exact pj_tret (fun hr => pj_if_ne_f hM (pc := 9) 18 dX12_crowd_9 rfl (fun q => q h3) (pj_aload_n hM (pc := 12) dX12_crowd_12 rfl rfl (pj_iconst hM (pc := 13) dX12_crowd_13 (by decide) (pj_cV hM (pc := 14) (cM_refuse 1 w p4 h5) dX12_crowd_14 mf_X12_refuse mv_X12_refuse ml_X12_78 kc_26 rfl rfl (by decide) rfl rfl (pj_ret hM (pc := 17) dX12_crowd_17 ⟨_, rfl⟩ (h0 ((p4.1, p4.2)) hr) rfl)))))
  refine pj_map (fun k => pj_if_ne_t hM (pc := 9) dX12_crowd_9 rfl h3 (pj_iconst hM (pc := 18) dX12_crowd_18 (by decide) (pj_istore_n hM (pc := 19) dX12_crowd_19 (by decide) (lls' := [(26, 0), (0, x1), (0, 0), (9, 0), (9, 0), (9, 0)]) rfl (pj_iconst hM (pc := 20) dX12_crowd_20 (by decide) (pj_istore_n hM (pc := 21) dX12_crowd_21 (by decide) (lls' := [(26, 0), (0, x1), (0, 0), (0, 0), (9, 0), (9, 0)]) rfl (pj_kill hM [true, true, true, true, false, false] (lls' := [(26, 0), (0, x1), (0, 0), (0, 0), (9, 0), (9, 0)]) rfl k)))))) ?_
  exact tM_crowd_22 hM x1 w _ h0 _
theorem cM_crowd (x1 : Int)  (w : pj_W) (r : Int × pj_W) (h : fM_crowd x1 w = some r) : pj_Cn l yX12_crowd cX12_crowd 6 (some .int) 1 25 true g [(26, 0), (0, x1)] w ((some (0, r.1) : Option pj_V), r.2) :=
  pj_Cn_of rfl (Nat.le_of_ble_eq_true rfl) (lls := [(26, 0), (0, x1), (9, 0), (9, 0), (9, 0), (9, 0)]) rfl (fun Go hM => tM_crowd hM x1 w (fun x => ((some (0, x.1) : Option pj_V), x.2) = ((some (0, r.1) : Option pj_V), r.2)) (fun r h => h) r h rfl)
noncomputable def fM_dawns  (w : pj_W) : Option (pj_W) :=
  some ((pj_set w 60 0 7 (pj_wr ((pj_shl 1 (w 60 0 2)) - 1))))
theorem tM_dawns {Go : pj_C → Prop} (hM : pj_M l yX12_dawns cX12_dawns 1 none 0 0 true g n0 o Go)  (w : pj_W)  (R : pj_W → Prop) (h0 : ∀ r, R (r) → ((none : Option pj_V), r) = o) : pj_TG R (fM_dawns  w) (Go (0, [(26, 0)], [], w)) := by
  unfold fM_dawns
  exact pj_tret (fun hr => pj_aload_n hM (pc := 0) dX12_dawns_0 rfl rfl (pj_getF hM (pc := 1) (t := 60) dX12_dawns_1 fl_X12_7 (by decide) rfl rfl (pj_bipush hM (pc := 4) dX12_dawns_4 (by decide) (pj_iconst hM (pc := 6) dX12_dawns_6 (by decide) (pj_aload_n hM (pc := 7) dX12_dawns_7 rfl rfl (pj_getF hM (pc := 8) (t := 60) dX12_dawns_8 fl_X12_7 (by decide) rfl rfl (pj_iconst hM (pc := 11) dX12_dawns_11 (by decide) (pj_ial hM (pc := 12) dX12_dawns_12 ki_60 (by decide) (by decide) (pj_ishl hM (pc := 13) dX12_dawns_13 (pj_iconst hM (pc := 14) dX12_dawns_14 (by decide) (pj_isub hM (pc := 15) dX12_dawns_15 (pj_ias hM (pc := 16) dX12_dawns_16 ki_60 (by decide) (by decide) (pj_ret hM (pc := 17) dX12_dawns_17 rfl (h0 ((pj_set w 60 0 7 (pj_wr ((pj_shl 1 (w 60 0 2)) - 1)))) hr) rfl)))))))))))))
theorem cM_dawns   (w : pj_W) (r : pj_W) (h : fM_dawns  w = some r) : pj_Cn l yX12_dawns cX12_dawns 1 none 0 0 true g [(26, 0)] w ((none : Option pj_V), r) :=
  pj_Cn_of rfl (Nat.le_of_ble_eq_true rfl) (lls := [(26, 0)]) rfl (fun Go hM => tM_dawns hM w (fun x => ((none : Option pj_V), x) = ((none : Option pj_V), r)) (fun r h => h) r h rfl)
noncomputable def fM_dawn  (w : pj_W) : Option (Int × pj_W) :=
  if (w 60 0 7) = 0 then ((fM_dawns w).bind fun p2 => ((fM_gives (p2 60 0 2) p2).bind fun p4 => (some ((p4.1, p4.2))))) else ((fM_refuse 7 w).bind fun p6 => (some ((p6.1, p6.2))))
theorem tM_dawn {Go : pj_C → Prop} (hM : pj_M l yX12_dawn cX12_dawn 1 (some .int) 1 21 true g n0 o Go)  (w : pj_W)  (R : Int × pj_W → Prop) (h0 : ∀ r, R (r) → ((some (0, r.1) : Option pj_V), r.2) = o) : pj_TG R (fM_dawn  w) (Go (0, [(26, 0)], [], w)) := by
  unfold fM_dawn
  refine pj_map (fun k => pj_aload_n hM (pc := 0) dX12_dawn_0 rfl rfl (pj_getF hM (pc := 1) (t := 60) dX12_dawn_1 fl_X12_7 (by decide) rfl rfl (pj_bipush hM (pc := 4) dX12_dawn_4 (by decide) (pj_ial hM (pc := 6) dX12_dawn_6 ki_60 (by decide) (by decide) k)))) ?_
  refine pj_tif (fun h1 => ?_) (fun h1 => ?_)
  · refine pj_tbind (fun p2 h3 => ?_)
    refine pj_tbind (fun p4 h5 => ?_)
    exact pj_tret (fun hr => pj_if_eq_t hM (pc := 7) dX12_dawn_7 rfl h1 (pj_aload_n hM (pc := 17) dX12_dawn_17 rfl rfl (pj_cVv hM (pc := 18) (cM_dawns w p2 h3) dX12_dawn_18 mf_X12_dawns mv_X12_dawns ml_X12_384 kc_26 rfl rfl (by decide) rfl rfl (pj_aload_n hM (pc := 21) dX12_dawn_21 rfl rfl (pj_aload_n hM (pc := 22) dX12_dawn_22 rfl rfl (pj_getF hM (pc := 23) (t := 60) dX12_dawn_23 fl_X12_7 (by decide) rfl rfl (pj_iconst hM (pc := 26) dX12_dawn_26 (by decide) (pj_ial hM (pc := 27) dX12_dawn_27 ki_60 (by decide) (by decide) (pj_cV hM (pc := 28) (cM_gives (p2 60 0 2) p2 p4 h5) dX12_dawn_28 mf_X12_gives mv_X12_gives ml_X12_82 kc_26 rfl rfl (by decide) rfl rfl (pj_ret hM (pc := 31) dX12_dawn_31 ⟨_, rfl⟩ (h0 ((p4.1, p4.2)) hr) rfl))))))))))
  refine pj_tbind (fun p6 h7 => ?_)
  exact pj_tret (fun hr => pj_if_eq_f hM (pc := 7) 17 dX12_dawn_7 rfl h1 (pj_aload_n hM (pc := 10) dX12_dawn_10 rfl rfl (pj_bipush hM (pc := 11) dX12_dawn_11 (by decide) (pj_cV hM (pc := 13) (cM_refuse 7 w p6 h7) dX12_dawn_13 mf_X12_refuse mv_X12_refuse ml_X12_78 kc_26 rfl rfl (by decide) rfl rfl (pj_ret hM (pc := 16) dX12_dawn_16 ⟨_, rfl⟩ (h0 ((p6.1, p6.2)) hr) rfl)))))
theorem cM_dawn   (w : pj_W) (r : Int × pj_W) (h : fM_dawn  w = some r) : pj_Cn l yX12_dawn cX12_dawn 1 (some .int) 1 21 true g [(26, 0)] w ((some (0, r.1) : Option pj_V), r.2) :=
  pj_Cn_of rfl (Nat.le_of_ble_eq_true rfl) (lls := [(26, 0)]) rfl (fun Go hM => tM_dawn hM w (fun x => ((some (0, x.1) : Option pj_V), x.2) = ((some (0, r.1) : Option pj_V), r.2)) (fun r h => h) r h rfl)
noncomputable def fM_findTo (x1 : Int) (w : pj_W) : Option (Int × pj_W) :=
  (fM_oldOne 6 (w 60 0 2) x1 w).bind fun p1 => (if p1.1 = 0 ∨ p1.1 = 1 then (some ((p1.1, p1.2))) else none)
theorem tM_findTo {Go : pj_C → Prop} (hM : pj_M l yX12_findTo cX12_findTo 2 (some .boolean) 7 155 true g n0 o Go) (x1 : Int) (w : pj_W)  (R : Int × pj_W → Prop) (h0 : ∀ r, R (r) → ((some (0, r.1) : Option pj_V), r.2) = o) : pj_TG R (fM_findTo x1 w) (Go (0, [(26, 0), (0, x1)], [], w)) := by
  unfold fM_findTo
  refine pj_tbind (fun p1 h2 => ?_)
  refine pj_tgd (fun h3 => ?_)
  exact pj_tret (fun hr => pj_aload_n hM (pc := 0) dX12_findTo_0 rfl rfl (pj_bipush hM (pc := 1) dX12_findTo_1 (by decide) (pj_aload_n hM (pc := 3) dX12_findTo_3 rfl rfl (pj_getF hM (pc := 4) (t := 60) dX12_findTo_4 fl_X12_7 (by decide) rfl rfl (pj_iconst hM (pc := 7) dX12_findTo_7 (by decide) (pj_ial hM (pc := 8) dX12_findTo_8 ki_60 (by decide) (by decide) (pj_iload_n hM (pc := 9) dX12_findTo_9 rfl (pj_cV hM (pc := 10) (cM_oldOne 6 (w 60 0 2) x1 w p1 h2) dX12_findTo_10 mf_X12_oldOne mv_X12_oldOne ml_X12_207 kc_26 rfl rfl (by decide) rfl rfl (pj_ret hM (pc := 13) dX12_findTo_13 ⟨_, rfl, h3⟩ (h0 ((p1.1, p1.2)) hr) rfl)))))))))
theorem cM_findTo (x1 : Int)  (w : pj_W) (r : Int × pj_W) (h : fM_findTo x1 w = some r) : pj_Cn l yX12_findTo cX12_findTo 2 (some .boolean) 7 155 true g [(26, 0), (0, x1)] w ((some (0, r.1) : Option pj_V), r.2) :=
  pj_Cn_of rfl (Nat.le_of_ble_eq_true rfl) (lls := [(26, 0), (0, x1)]) rfl (fun Go hM => tM_findTo hM x1 w (fun x => ((some (0, x.1) : Option pj_V), x.2) = ((some (0, r.1) : Option pj_V), r.2)) (fun r h => h) r h rfl)
noncomputable def fM_finderTo (x1 : Int) (w : pj_W) : Option (Int × pj_W) :=
  (fM_oldOne 0 (w 60 0 1) x1 w).bind fun p1 => (if p1.1 = 0 ∨ p1.1 = 1 then (some ((p1.1, p1.2))) else none)
theorem tM_finderTo {Go : pj_C → Prop} (hM : pj_M l yX12_finderTo cX12_finderTo 2 (some .boolean) 7 155 true g n0 o Go) (x1 : Int) (w : pj_W)  (R : Int × pj_W → Prop) (h0 : ∀ r, R (r) → ((some (0, r.1) : Option pj_V), r.2) = o) : pj_TG R (fM_finderTo x1 w) (Go (0, [(26, 0), (0, x1)], [], w)) := by
  unfold fM_finderTo
  refine pj_tbind (fun p1 h2 => ?_)
  refine pj_tgd (fun h3 => ?_)
  exact pj_tret (fun hr => pj_aload_n hM (pc := 0) dX12_finderTo_0 rfl rfl (pj_iconst hM (pc := 1) dX12_finderTo_1 (by decide) (pj_aload_n hM (pc := 2) dX12_finderTo_2 rfl rfl (pj_getF hM (pc := 3) (t := 60) dX12_finderTo_3 fl_X12_7 (by decide) rfl rfl (pj_iconst hM (pc := 6) dX12_finderTo_6 (by decide) (pj_ial hM (pc := 7) dX12_finderTo_7 ki_60 (by decide) (by decide) (pj_iload_n hM (pc := 8) dX12_finderTo_8 rfl (pj_cV hM (pc := 9) (cM_oldOne 0 (w 60 0 1) x1 w p1 h2) dX12_finderTo_9 mf_X12_oldOne mv_X12_oldOne ml_X12_207 kc_26 rfl rfl (by decide) rfl rfl (pj_ret hM (pc := 12) dX12_finderTo_12 ⟨_, rfl, h3⟩ (h0 ((p1.1, p1.2)) hr) rfl)))))))))
theorem cM_finderTo (x1 : Int)  (w : pj_W) (r : Int × pj_W) (h : fM_finderTo x1 w = some r) : pj_Cn l yX12_finderTo cX12_finderTo 2 (some .boolean) 7 155 true g [(26, 0), (0, x1)] w ((some (0, r.1) : Option pj_V), r.2) :=
  pj_Cn_of rfl (Nat.le_of_ble_eq_true rfl) (lls := [(26, 0), (0, x1)]) rfl (fun Go hM => tM_finderTo hM x1 w (fun x => ((some (0, x.1) : Option pj_V), x.2) = ((some (0, r.1) : Option pj_V), r.2)) (fun r h => h) r h rfl)
noncomputable def fM_test_138 (x1 : Int) (w : pj_W) : Option (Int × pj_W) :=
  if 0 ≤ (pj_wr (x1 + 5)) ∧ (pj_wr (x1 + 5)) < 8400 then ((fM_ahead (pj_set w 60 0 (pj_wr (x1 + 5)) (w 26 0 15))).bind fun p2 => ((fM_number (pj_wr (x1 + 2)) 0 9999 p2).bind fun p4 => (if p4.1 = 0 ∨ p4.1 = 1 then (some ((p4.1, p4.2))) else none))) else none
noncomputable def fM_test_31 (x1 : Int) (x2 : Int) (w : pj_W) : Option (Int × pj_W) :=
  if 0 ≤ x1 ∧ x1 < 8400 then ((fM_ahead (pj_set w 60 0 x1 (pj_wr (2400 + x2)))).bind fun p2 => (if x2 = 29 then ((fM_findTo (pj_wr (x1 + 1)) p2).bind fun p5 => (if p5.1 = 0 ∨ p5.1 = 1 then (some ((p5.1, p5.2))) else none)) else ((fM_finderTo (pj_wr (x1 + 1)) p2).bind fun p8 => (if p8.1 = 0 then (some ((0, p8.2))) else (if x2 = 15 then ((fM_wantWord 12 p8.2).bind fun p12 => (if p12.1 = 0 then (some ((0, p12.2))) else ((fM_findTo (pj_wr (x1 + 2)) p12.2).bind fun p15 => (if p15.1 = 0 then (some ((0, p15.2))) else (some ((1, p15.2))))))) else ((fM_isSign 60 p8.2).bind fun p18 => (if p18 = 0 then ((fM_isSign 62 p8.2).bind fun p21 => (if p21 = 0 then ((fM_isSign 61 p8.2).bind fun p24 => (if p24 = 0 then ((fM_fails 2 p8.2).bind fun p27 => (if p27.1 = 0 ∨ p27.1 = 1 then (some ((p27.1, p27.2))) else none)) else (fM_test_138 x1 p8.2))) else (fM_test_138 x1 p8.2))) else (fM_test_138 x1 p8.2)))))))) else none
noncomputable def fM_test (x1 : Int) (w : pj_W) : Option (Int × pj_W) :=
  (fM_inWords w).bind fun p1 => (if p1 = 28 then (fM_test_31 x1 p1 w) else (if p1 = 15 then (fM_test_31 x1 p1 w) else (if p1 = 29 then (fM_test_31 x1 p1 w) else ((fM_fails 2 w).bind fun p6 => (if p6.1 = 0 ∨ p6.1 = 1 then (some ((p6.1, p6.2))) else none)))))
theorem tM_test_138 {Go : pj_C → Prop} (hM : pj_M l yX12_test cX12_test 3 (some .boolean) 8 176 true g n0 o Go) (x1 : Int) (w : pj_W)  (R : Int × pj_W → Prop) (h0 : ∀ r, R (r) → ((some (0, r.1) : Option pj_V), r.2) = o) : pj_TG R (fM_test_138 x1 w) (Go (138, [(26, 0), (0, x1), (9, 0)], [], w)) := by
  unfold fM_test_138
  refine pj_tgd (fun h1 => ?_)
  refine pj_tbind (fun p2 h3 => ?_)
  refine pj_tbind (fun p4 h5 => ?_)
  refine pj_tgd (fun h6 => ?_)
  exact pj_tret (fun hr => pj_aload_n hM (pc := 138) dX12_test_138 rfl rfl (pj_getF hM (pc := 139) (t := 60) dX12_test_139 fl_X12_7 (by decide) rfl rfl (pj_iload_n hM (pc := 142) dX12_test_142 rfl (pj_iconst hM (pc := 143) dX12_test_143 (by decide) (pj_iadd hM (pc := 144) dX12_test_144 (pj_aload_n hM (pc := 145) dX12_test_145 rfl rfl (pj_gf hM (pc := 146) (t := 0) dX12_test_146 fl_X12_120 (by decide) rfl 15 rfl (pj_ias hM (pc := 149) dX12_test_149 ki_60 (by decide) h1 (pj_aload_n hM (pc := 150) dX12_test_150 rfl rfl (pj_cVv hM (pc := 151) (cM_ahead (pj_set w 60 0 (pj_wr (x1 + 5)) (w 26 0 15)) p2 h3) dX12_test_151 mf_X12_ahead mv_X12_ahead ml_X12_154 kc_26 rfl rfl (by decide) rfl rfl (pj_aload_n hM (pc := 154) dX12_test_154 rfl rfl (pj_iload_n hM (pc := 155) dX12_test_155 rfl (pj_iconst hM (pc := 156) dX12_test_156 (by decide) (pj_iadd hM (pc := 157) dX12_test_157 (pj_iconst hM (pc := 158) dX12_test_158 (by decide) (pj_sipush hM (pc := 159) dX12_test_159 (by decide) (pj_cV hM (pc := 162) (cM_number (pj_wr (x1 + 2)) 0 9999 p2 p4 h5) dX12_test_162 mf_X12_number mv_X12_number ml_X12_191 kc_26 rfl rfl (by decide) rfl rfl (pj_ret hM (pc := 165) dX12_test_165 ⟨_, rfl, h6⟩ (h0 ((p4.1, p4.2)) hr) rfl))))))))))))))))))
theorem tM_test_31 {Go : pj_C → Prop} (hM : pj_M l yX12_test cX12_test 3 (some .boolean) 8 176 true g n0 o Go) (x1 : Int) (x2 : Int) (w : pj_W)  (R : Int × pj_W → Prop) (h0 : ∀ r, R (r) → ((some (0, r.1) : Option pj_V), r.2) = o) : pj_TG R (fM_test_31 x1 x2 w) (Go (31, [(26, 0), (0, x1), (0, x2)], [], w)) := by
  unfold fM_test_31
  refine pj_tgd (fun h1 => ?_)
  refine pj_tbind (fun p2 h3 => ?_)
  refine pj_map (fun k => pj_aload_n hM (pc := 31) dX12_test_31 rfl rfl (pj_getF hM (pc := 32) (t := 60) dX12_test_32 fl_X12_7 (by decide) rfl rfl (pj_iload_n hM (pc := 35) dX12_test_35 rfl (pj_sipush hM (pc := 36) dX12_test_36 (by decide) (pj_iload_n hM (pc := 39) dX12_test_39 rfl (pj_iadd hM (pc := 40) dX12_test_40 (pj_ias hM (pc := 41) dX12_test_41 ki_60 (by decide) h1 (pj_aload_n hM (pc := 42) dX12_test_42 rfl rfl (pj_cVv hM (pc := 43) (cM_ahead (pj_set w 60 0 x1 (pj_wr (2400 + x2))) p2 h3) dX12_test_43 mf_X12_ahead mv_X12_ahead ml_X12_154 kc_26 rfl rfl (by decide) rfl rfl (pj_iload_n hM (pc := 46) dX12_test_46 rfl (pj_bipush hM (pc := 47) dX12_test_47 (by decide) k))))))))))) ?_
  refine pj_tif (fun h4 => ?_) (fun h4 => ?_)
  · refine pj_tbind (fun p5 h6 => ?_)
    refine pj_tgd (fun h7 => ?_)
    exact pj_tret (fun hr => pj_ic_ne_f hM (pc := 49) 60 dX12_test_49 rfl (fun q => q h4) (pj_aload_n hM (pc := 52) dX12_test_52 rfl rfl (pj_iload_n hM (pc := 53) dX12_test_53 rfl (pj_iconst hM (pc := 54) dX12_test_54 (by decide) (pj_iadd hM (pc := 55) dX12_test_55 (pj_cV hM (pc := 56) (cM_findTo (pj_wr (x1 + 1)) p2 p5 h6) dX12_test_56 mf_X12_findTo mv_X12_findTo ml_X12_244 kc_26 rfl rfl (by decide) rfl rfl (pj_ret hM (pc := 59) dX12_test_59 ⟨_, rfl, h7⟩ (h0 ((p5.1, p5.2)) hr) rfl)))))))
  refine pj_tbind (fun p8 h9 => ?_)
  refine pj_map (fun k => pj_ic_ne_t hM (pc := 49) dX12_test_49 rfl h4 (pj_aload_n hM (pc := 60) dX12_test_60 rfl rfl (pj_iload_n hM (pc := 61) dX12_test_61 rfl (pj_iconst hM (pc := 62) dX12_test_62 (by decide) (pj_iadd hM (pc := 63) dX12_test_63 (pj_cV hM (pc := 64) (cM_finderTo (pj_wr (x1 + 1)) p2 p8 h9) dX12_test_64 mf_X12_finderTo mv_X12_finderTo ml_X12_247 kc_26 rfl rfl (by decide) rfl rfl k)))))) ?_
  refine pj_tif (fun h10 => ?_) (fun h10 => ?_)
  · exact pj_tret (fun hr => pj_if_ne_f hM (pc := 67) 72 dX12_test_67 rfl (fun q => q h10) (pj_iconst hM (pc := 70) dX12_test_70 (by decide) (pj_ret hM (pc := 71) dX12_test_71 ⟨_, rfl, Or.inl rfl⟩ (h0 ((0, p8.2)) hr) rfl)))
  refine pj_map (fun k => pj_if_ne_t hM (pc := 67) dX12_test_67 rfl h10 (pj_iload_n hM (pc := 72) dX12_test_72 rfl (pj_bipush hM (pc := 73) dX12_test_73 (by decide) k))) ?_
  refine pj_tif (fun h11 => ?_) (fun h11 => ?_)
  · refine pj_tbind (fun p12 h13 => ?_)
    refine pj_map (fun k => pj_ic_ne_f hM (pc := 75) 105 dX12_test_75 rfl (fun q => q h11) (pj_aload_n hM (pc := 78) dX12_test_78 rfl rfl (pj_ldcS4 hM (pc := 79) dX12_test_79 rfl (pj_bipush hM (pc := 81) dX12_test_81 (by decide) (pj_cV hM (pc := 83) (cM_wantWord 12 p8.2 p12 h13) dX12_test_83 mf_X12_wantWord mv_X12_wantWord ml_X12_187 kc_26 rfl rfl (by decide) rfl rfl k))))) ?_
    refine pj_tif (fun h14 => ?_) (fun h14 => ?_)
    · exact pj_tret (fun hr => pj_if_eq_t hM (pc := 86) dX12_test_86 rfl h14 (pj_iconst hM (pc := 103) dX12_test_103 (by decide) (pj_ret hM (pc := 104) dX12_test_104 ⟨_, rfl, Or.inl rfl⟩ (h0 ((0, p12.2)) hr) rfl)))
    refine pj_tbind (fun p15 h16 => ?_)
    refine pj_map (fun k => pj_if_eq_f hM (pc := 86) 103 dX12_test_86 rfl h14 (pj_aload_n hM (pc := 89) dX12_test_89 rfl rfl (pj_iload_n hM (pc := 90) dX12_test_90 rfl (pj_iconst hM (pc := 91) dX12_test_91 (by decide) (pj_iadd hM (pc := 92) dX12_test_92 (pj_cV hM (pc := 93) (cM_findTo (pj_wr (x1 + 2)) p12.2 p15 h16) dX12_test_93 mf_X12_findTo mv_X12_findTo ml_X12_244 kc_26 rfl rfl (by decide) rfl rfl k)))))) ?_
    refine pj_tif (fun h17 => ?_) (fun h17 => ?_)
    · exact pj_tret (fun hr => pj_if_eq_t hM (pc := 96) dX12_test_96 rfl h17 (pj_iconst hM (pc := 103) dX12_test_103 (by decide) (pj_ret hM (pc := 104) dX12_test_104 ⟨_, rfl, Or.inl rfl⟩ (h0 ((0, p15.2)) hr) rfl)))
    exact pj_tret (fun hr => pj_if_eq_f hM (pc := 96) 103 dX12_test_96 rfl h17 (pj_iconst hM (pc := 99) dX12_test_99 (by decide) (pj_goto hM (pc := 100) dX12_test_100 rfl (pj_ret hM (pc := 104) dX12_test_104 ⟨_, rfl, Or.inr rfl⟩ (h0 ((1, p15.2)) hr) rfl))))
  refine pj_tbind (fun p18 h19 => ?_)
  refine pj_map (fun k => pj_ic_ne_t hM (pc := 75) dX12_test_75 rfl h11 (pj_aload_n hM (pc := 105) dX12_test_105 rfl rfl (pj_bipush hM (pc := 106) dX12_test_106 (by decide) (pj_cV hM (pc := 108) (cM_isSign 60 p8.2 p18 h19) dX12_test_108 mf_X12_isSign mv_X12_isSign ml_X12_157 kc_26 rfl rfl (by decide) rfl rfl k)))) ?_
  refine pj_tif (fun h20 => ?_) (fun h20 => ?_)
  · refine pj_tbind (fun p21 h22 => ?_)
    refine pj_map (fun k => pj_if_ne_f hM (pc := 111) 138 dX12_test_111 rfl (fun q => q h20) (pj_aload_n hM (pc := 114) dX12_test_114 rfl rfl (pj_bipush hM (pc := 115) dX12_test_115 (by decide) (pj_cV hM (pc := 117) (cM_isSign 62 p8.2 p21 h22) dX12_test_117 mf_X12_isSign mv_X12_isSign ml_X12_157 kc_26 rfl rfl (by decide) rfl rfl k)))) ?_
    refine pj_tif (fun h23 => ?_) (fun h23 => ?_)
    · refine pj_tbind (fun p24 h25 => ?_)
      refine pj_map (fun k => pj_if_ne_f hM (pc := 120) 138 dX12_test_120 rfl (fun q => q h23) (pj_aload_n hM (pc := 123) dX12_test_123 rfl rfl (pj_bipush hM (pc := 124) dX12_test_124 (by decide) (pj_cV hM (pc := 126) (cM_isSign 61 p8.2 p24 h25) dX12_test_126 mf_X12_isSign mv_X12_isSign ml_X12_157 kc_26 rfl rfl (by decide) rfl rfl k)))) ?_
      refine pj_tif (fun h26 => ?_) (fun h26 => ?_)
      · refine pj_tbind (fun p27 h28 => ?_)
        refine pj_tgd (fun h29 => ?_)
        exact pj_tret (fun hr => pj_if_ne_f hM (pc := 129) 138 dX12_test_129 rfl (fun q => q h26) (pj_aload_n hM (pc := 132) dX12_test_132 rfl rfl (pj_iconst hM (pc := 133) dX12_test_133 (by decide) (pj_cV hM (pc := 134) (cM_fails 2 p8.2 p27 h28) dX12_test_134 mf_X12_fails mv_X12_fails ml_X12_160 kc_26 rfl rfl (by decide) rfl rfl (pj_ret hM (pc := 137) dX12_test_137 ⟨_, rfl, h29⟩ (h0 ((p27.1, p27.2)) hr) rfl)))))
      refine pj_map (fun k => pj_if_ne_t hM (pc := 129) dX12_test_129 rfl h26 (pj_kill hM [true, true, false] (lls' := [(26, 0), (0, x1), (9, 0)]) rfl k)) ?_
      exact tM_test_138 hM x1 p8.2 _ h0
    refine pj_map (fun k => pj_if_ne_t hM (pc := 120) dX12_test_120 rfl h23 (pj_kill hM [true, true, false] (lls' := [(26, 0), (0, x1), (9, 0)]) rfl k)) ?_
    exact tM_test_138 hM x1 p8.2 _ h0
  refine pj_map (fun k => pj_if_ne_t hM (pc := 111) dX12_test_111 rfl h20 (pj_kill hM [true, true, false] (lls' := [(26, 0), (0, x1), (9, 0)]) rfl k)) ?_
  exact tM_test_138 hM x1 p8.2 _ h0
theorem tM_test {Go : pj_C → Prop} (hM : pj_M l yX12_test cX12_test 3 (some .boolean) 8 176 true g n0 o Go) (x1 : Int) (w : pj_W)  (R : Int × pj_W → Prop) (h0 : ∀ r, R (r) → ((some (0, r.1) : Option pj_V), r.2) = o) : pj_TG R (fM_test x1 w) (Go (0, [(26, 0), (0, x1), (9, 0)], [], w)) := by
  unfold fM_test
  refine pj_tbind (fun p1 h2 => ?_)
  refine pj_map (fun k => pj_aload_n hM (pc := 0) dX12_test_0 rfl rfl (pj_ldcS4 hM (pc := 1) dX12_test_1 rfl (pj_cV hM (pc := 3) (cM_inWords w p1 h2) dX12_test_3 mf_X12_inWords mv_X12_inWords ml_X12_163 kc_26 rfl rfl (by decide) rfl rfl (pj_istore_n hM (pc := 6) dX12_test_6 (by decide) (lls' := [(26, 0), (0, x1), (0, p1)]) rfl (pj_iload_n hM (pc := 7) dX12_test_7 rfl (pj_bipush hM (pc := 8) dX12_test_8 (by decide) k)))))) ?_
  refine pj_tif (fun h3 => ?_) (fun h3 => ?_)
  · refine pj_map (fun k => pj_ic_eq_t hM (pc := 10) dX12_test_10 rfl h3 (pj_kill hM [true, true, true] (lls' := [(26, 0), (0, x1), (0, p1)]) rfl k)) ?_
    exact tM_test_31 hM x1 p1 w _ h0
  refine pj_map (fun k => pj_ic_eq_f hM (pc := 10) 31 dX12_test_10 rfl h3 (pj_iload_n hM (pc := 13) dX12_test_13 rfl (pj_bipush hM (pc := 14) dX12_test_14 (by decide) k))) ?_
  refine pj_tif (fun h4 => ?_) (fun h4 => ?_)
  · refine pj_map (fun k => pj_ic_eq_t hM (pc := 16) dX12_test_16 rfl h4 (pj_kill hM [true, true, true] (lls' := [(26, 0), (0, x1), (0, p1)]) rfl k)) ?_
    exact tM_test_31 hM x1 p1 w _ h0
  refine pj_map (fun k => pj_ic_eq_f hM (pc := 16) 31 dX12_test_16 rfl h4 (pj_iload_n hM (pc := 19) dX12_test_19 rfl (pj_bipush hM (pc := 20) dX12_test_20 (by decide) k))) ?_
  refine pj_tif (fun h5 => ?_) (fun h5 => ?_)
  · refine pj_map (fun k => pj_ic_eq_t hM (pc := 22) dX12_test_22 rfl h5 (pj_kill hM [true, true, true] (lls' := [(26, 0), (0, x1), (0, p1)]) rfl k)) ?_
    exact tM_test_31 hM x1 p1 w _ h0
  refine pj_tbind (fun p6 h7 => ?_)
  refine pj_tgd (fun h8 => ?_)
  exact pj_tret (fun hr => pj_ic_eq_f hM (pc := 22) 31 dX12_test_22 rfl h5 (pj_aload_n hM (pc := 25) dX12_test_25 rfl rfl (pj_iconst hM (pc := 26) dX12_test_26 (by decide) (pj_cV hM (pc := 27) (cM_fails 2 w p6 h7) dX12_test_27 mf_X12_fails mv_X12_fails ml_X12_160 kc_26 rfl rfl (by decide) rfl rfl (pj_ret hM (pc := 30) dX12_test_30 ⟨_, rfl, h8⟩ (h0 ((p6.1, p6.2)) hr) rfl)))))
theorem cM_test (x1 : Int)  (w : pj_W) (r : Int × pj_W) (h : fM_test x1 w = some r) : pj_Cn l yX12_test cX12_test 3 (some .boolean) 8 176 true g [(26, 0), (0, x1)] w ((some (0, r.1) : Option pj_V), r.2) :=
  pj_Cn_of rfl (Nat.le_of_ble_eq_true rfl) (lls := [(26, 0), (0, x1), (9, 0)]) rfl (fun Go hM => tM_test hM x1 w (fun x => ((some (0, x.1) : Option pj_V), x.2) = ((some (0, r.1) : Option pj_V), r.2)) (fun r h => h) r h rfl)
noncomputable def fM_dayOrder_94 (x2 : Int) (w : pj_W) : Option (Int × pj_W) :=
  (fM_finderTo (pj_wr (x2 + 1)) w).bind fun p1 => (if p1.1 = 0 then (some ((0, p1.2))) else ((fM_wantWord 12 p1.2).bind fun p4 => (if p4.1 = 0 then (some ((0, p4.2))) else ((fM_findTo (pj_wr (x2 + 2)) p4.2).bind fun p7 => (if p7.1 = 0 then (some ((0, p7.2))) else (some ((1, p7.2))))))))
noncomputable def fM_dayOrder (x1 : Int) (x2 : Int) (w : pj_W) : Option (Int × pj_W) :=
  if x1 = 18 then ((fM_finderTo (pj_wr (x2 + 1)) w).bind fun p2 => (if p2.1 = 0 then (some ((0, p2.2))) else ((fM_wantWord 17 p2.2).bind fun p5 => (if p5.1 = 0 then (some ((0, p5.2))) else ((fM_number (pj_wr (x2 + 2)) 0 (pj_wr ((p5.2 60 0 0) - 1)) p5.2).bind fun p8 => (if p8.1 = 0 then (some ((0, p8.2))) else (some ((1, p8.2))))))))) else if x1 = 19 then (fM_dayOrder_94 x2 w) else if x1 = 20 then ((fM_finderTo (pj_wr (x2 + 1)) w).bind fun p13 => (if p13.1 = 0 then (some ((0, p13.2))) else ((fM_number (pj_wr (x2 + 2)) 1 240 p13.2).bind fun p16 => (if p16.1 = 0 then (some ((0, p16.2))) else (some ((1, p16.2))))))) else if x1 = 21 then (fM_dayOrder_94 x2 w) else if x1 = 22 then ((fM_number (pj_wr (x2 + 1)) 0 16 w).bind fun p21 => (if p21.1 = 0 ∨ p21.1 = 1 then (some ((p21.1, p21.2))) else none)) else if x1 = 23 then ((fM_number (pj_wr (x2 + 1)) 0 40 w).bind fun p25 => (if p25.1 = 0 ∨ p25.1 = 1 then (some ((p25.1, p25.2))) else none)) else if x1 = 24 then ((fM_test x2 w).bind fun p29 => (if p29.1 = 0 ∨ p29.1 = 1 then (some ((p29.1, p29.2))) else none)) else if x1 = 25 then ((fM_number (pj_wr (x2 + 1)) 1 99 w).bind fun p33 => (if p33.1 = 0 ∨ p33.1 = 1 then (some ((p33.1, p33.2))) else none)) else (some ((1, w)))
theorem tM_dayOrder_94 {Go : pj_C → Prop} (hM : pj_M l yX12_dayOrder cX12_dayOrder 3 (some .boolean) 9 198 true g n0 o Go) (x2 : Int) (w : pj_W)  (R : Int × pj_W → Prop) (h0 : ∀ r, R (r) → ((some (0, r.1) : Option pj_V), r.2) = o) : pj_TG R (fM_dayOrder_94 x2 w) (Go (94, [(26, 0), (9, 0), (0, x2)], [], w)) := by
  unfold fM_dayOrder_94
  refine pj_tbind (fun p1 h2 => ?_)
  refine pj_map (fun k => pj_aload_n hM (pc := 94) dX12_dayOrder_94 rfl rfl (pj_iload_n hM (pc := 95) dX12_dayOrder_95 rfl (pj_iconst hM (pc := 96) dX12_dayOrder_96 (by decide) (pj_iadd hM (pc := 97) dX12_dayOrder_97 (pj_cV hM (pc := 98) (cM_finderTo (pj_wr (x2 + 1)) w p1 h2) dX12_dayOrder_98 mf_X12_finderTo mv_X12_finderTo ml_X12_247 kc_26 rfl rfl (by decide) rfl rfl k))))) ?_
  refine pj_tif (fun h3 => ?_) (fun h3 => ?_)
  · exact pj_tret (fun hr => pj_if_eq_t hM (pc := 101) dX12_dayOrder_101 rfl h3 (pj_iconst hM (pc := 129) dX12_dayOrder_129 (by decide) (pj_ret hM (pc := 130) dX12_dayOrder_130 ⟨_, rfl, Or.inl rfl⟩ (h0 ((0, p1.2)) hr) rfl)))
  refine pj_tbind (fun p4 h5 => ?_)
  refine pj_map (fun k => pj_if_eq_f hM (pc := 101) 129 dX12_dayOrder_101 rfl h3 (pj_aload_n hM (pc := 104) dX12_dayOrder_104 rfl rfl (pj_ldcS4 hM (pc := 105) dX12_dayOrder_105 rfl (pj_bipush hM (pc := 107) dX12_dayOrder_107 (by decide) (pj_cV hM (pc := 109) (cM_wantWord 12 p1.2 p4 h5) dX12_dayOrder_109 mf_X12_wantWord mv_X12_wantWord ml_X12_187 kc_26 rfl rfl (by decide) rfl rfl k))))) ?_
  refine pj_tif (fun h6 => ?_) (fun h6 => ?_)
  · exact pj_tret (fun hr => pj_if_eq_t hM (pc := 112) dX12_dayOrder_112 rfl h6 (pj_iconst hM (pc := 129) dX12_dayOrder_129 (by decide) (pj_ret hM (pc := 130) dX12_dayOrder_130 ⟨_, rfl, Or.inl rfl⟩ (h0 ((0, p4.2)) hr) rfl)))
  refine pj_tbind (fun p7 h8 => ?_)
  refine pj_map (fun k => pj_if_eq_f hM (pc := 112) 129 dX12_dayOrder_112 rfl h6 (pj_aload_n hM (pc := 115) dX12_dayOrder_115 rfl rfl (pj_iload_n hM (pc := 116) dX12_dayOrder_116 rfl (pj_iconst hM (pc := 117) dX12_dayOrder_117 (by decide) (pj_iadd hM (pc := 118) dX12_dayOrder_118 (pj_cV hM (pc := 119) (cM_findTo (pj_wr (x2 + 2)) p4.2 p7 h8) dX12_dayOrder_119 mf_X12_findTo mv_X12_findTo ml_X12_244 kc_26 rfl rfl (by decide) rfl rfl k)))))) ?_
  refine pj_tif (fun h9 => ?_) (fun h9 => ?_)
  · exact pj_tret (fun hr => pj_if_eq_t hM (pc := 122) dX12_dayOrder_122 rfl h9 (pj_iconst hM (pc := 129) dX12_dayOrder_129 (by decide) (pj_ret hM (pc := 130) dX12_dayOrder_130 ⟨_, rfl, Or.inl rfl⟩ (h0 ((0, p7.2)) hr) rfl)))
  exact pj_tret (fun hr => pj_if_eq_f hM (pc := 122) 129 dX12_dayOrder_122 rfl h9 (pj_iconst hM (pc := 125) dX12_dayOrder_125 (by decide) (pj_goto hM (pc := 126) dX12_dayOrder_126 rfl (pj_ret hM (pc := 130) dX12_dayOrder_130 ⟨_, rfl, Or.inr rfl⟩ (h0 ((1, p7.2)) hr) rfl))))
theorem tM_dayOrder {Go : pj_C → Prop} (hM : pj_M l yX12_dayOrder cX12_dayOrder 3 (some .boolean) 9 198 true g n0 o Go) (x1 : Int) (x2 : Int) (w : pj_W)  (R : Int × pj_W → Prop) (h0 : ∀ r, R (r) → ((some (0, r.1) : Option pj_V), r.2) = o) : pj_TG R (fM_dayOrder x1 x2 w) (Go (0, [(26, 0), (0, x1), (0, x2)], [], w)) := by
  unfold fM_dayOrder
  refine pj_map (fun k => pj_iload_n hM (pc := 0) dX12_dayOrder_0 rfl k) ?_
  refine pj_tif (fun h1 => ?_) (fun h1 => ?_)
  · refine pj_tbind (fun p2 h3 => ?_)
    refine pj_map (fun k => pj_table hM (pc := 1) (tgt := 48) dX12_dayOrder_1 (by decide) (by rw [h1]; decide) (pj_aload_n hM (pc := 48) dX12_dayOrder_48 rfl rfl (pj_iload_n hM (pc := 49) dX12_dayOrder_49 rfl (pj_iconst hM (pc := 50) dX12_dayOrder_50 (by decide) (pj_iadd hM (pc := 51) dX12_dayOrder_51 (pj_cV hM (pc := 52) (cM_finderTo (pj_wr (x2 + 1)) w p2 h3) dX12_dayOrder_52 mf_X12_finderTo mv_X12_finderTo ml_X12_247 kc_26 rfl rfl (by decide) rfl rfl k)))))) ?_
    refine pj_tif (fun h4 => ?_) (fun h4 => ?_)
    · exact pj_tret (fun hr => pj_if_eq_t hM (pc := 55) dX12_dayOrder_55 rfl h4 (pj_iconst hM (pc := 92) dX12_dayOrder_92 (by decide) (pj_ret hM (pc := 93) dX12_dayOrder_93 ⟨_, rfl, Or.inl rfl⟩ (h0 ((0, p2.2)) hr) rfl)))
    refine pj_tbind (fun p5 h6 => ?_)
    refine pj_map (fun k => pj_if_eq_f hM (pc := 55) 92 dX12_dayOrder_55 rfl h4 (pj_aload_n hM (pc := 58) dX12_dayOrder_58 rfl rfl (pj_ldcS4 hM (pc := 59) dX12_dayOrder_59 rfl (pj_bipush hM (pc := 61) dX12_dayOrder_61 (by decide) (pj_cV hM (pc := 63) (cM_wantWord 17 p2.2 p5 h6) dX12_dayOrder_63 mf_X12_wantWord mv_X12_wantWord ml_X12_187 kc_26 rfl rfl (by decide) rfl rfl k))))) ?_
    refine pj_tif (fun h7 => ?_) (fun h7 => ?_)
    · exact pj_tret (fun hr => pj_if_eq_t hM (pc := 66) dX12_dayOrder_66 rfl h7 (pj_iconst hM (pc := 92) dX12_dayOrder_92 (by decide) (pj_ret hM (pc := 93) dX12_dayOrder_93 ⟨_, rfl, Or.inl rfl⟩ (h0 ((0, p5.2)) hr) rfl)))
    refine pj_tbind (fun p8 h9 => ?_)
    refine pj_map (fun k => pj_if_eq_f hM (pc := 66) 92 dX12_dayOrder_66 rfl h7 (pj_aload_n hM (pc := 69) dX12_dayOrder_69 rfl rfl (pj_iload_n hM (pc := 70) dX12_dayOrder_70 rfl (pj_iconst hM (pc := 71) dX12_dayOrder_71 (by decide) (pj_iadd hM (pc := 72) dX12_dayOrder_72 (pj_iconst hM (pc := 73) dX12_dayOrder_73 (by decide) (pj_aload_n hM (pc := 74) dX12_dayOrder_74 rfl rfl (pj_getF hM (pc := 75) (t := 60) dX12_dayOrder_75 fl_X12_7 (by decide) rfl rfl (pj_iconst hM (pc := 78) dX12_dayOrder_78 (by decide) (pj_ial hM (pc := 79) dX12_dayOrder_79 ki_60 (by decide) (by decide) (pj_iconst hM (pc := 80) dX12_dayOrder_80 (by decide) (pj_isub hM (pc := 81) dX12_dayOrder_81 (pj_cV hM (pc := 82) (cM_number (pj_wr (x2 + 2)) 0 (pj_wr ((p5.2 60 0 0) - 1)) p5.2 p8 h9) dX12_dayOrder_82 mf_X12_number mv_X12_number ml_X12_191 kc_26 rfl rfl (by decide) rfl rfl k))))))))))))) ?_
    refine pj_tif (fun h10 => ?_) (fun h10 => ?_)
    · exact pj_tret (fun hr => pj_if_eq_t hM (pc := 85) dX12_dayOrder_85 rfl h10 (pj_iconst hM (pc := 92) dX12_dayOrder_92 (by decide) (pj_ret hM (pc := 93) dX12_dayOrder_93 ⟨_, rfl, Or.inl rfl⟩ (h0 ((0, p8.2)) hr) rfl)))
    exact pj_tret (fun hr => pj_if_eq_f hM (pc := 85) 92 dX12_dayOrder_85 rfl h10 (pj_iconst hM (pc := 88) dX12_dayOrder_88 (by decide) (pj_goto hM (pc := 89) dX12_dayOrder_89 rfl (pj_ret hM (pc := 93) dX12_dayOrder_93 ⟨_, rfl, Or.inr rfl⟩ (h0 ((1, p8.2)) hr) rfl))))
  refine pj_tif (fun h11 => ?_) (fun h11 => ?_)
  · refine pj_map (fun k => pj_table hM (pc := 1) (tgt := 94) dX12_dayOrder_1 (by decide) (by rw [h11]; decide) (pj_kill hM [true, false, true] (lls' := [(26, 0), (9, 0), (0, x2)]) rfl k)) ?_
    exact tM_dayOrder_94 hM x2 w _ h0
  refine pj_tif (fun h12 => ?_) (fun h12 => ?_)
  · refine pj_tbind (fun p13 h14 => ?_)
    refine pj_map (fun k => pj_table hM (pc := 1) (tgt := 131) dX12_dayOrder_1 (by decide) (by rw [h12]; decide) (pj_aload_n hM (pc := 131) dX12_dayOrder_131 rfl rfl (pj_iload_n hM (pc := 132) dX12_dayOrder_132 rfl (pj_iconst hM (pc := 133) dX12_dayOrder_133 (by decide) (pj_iadd hM (pc := 134) dX12_dayOrder_134 (pj_cV hM (pc := 135) (cM_finderTo (pj_wr (x2 + 1)) w p13 h14) dX12_dayOrder_135 mf_X12_finderTo mv_X12_finderTo ml_X12_247 kc_26 rfl rfl (by decide) rfl rfl k)))))) ?_
    refine pj_tif (fun h15 => ?_) (fun h15 => ?_)
    · exact pj_tret (fun hr => pj_if_eq_t hM (pc := 138) dX12_dayOrder_138 rfl h15 (pj_iconst hM (pc := 159) dX12_dayOrder_159 (by decide) (pj_ret hM (pc := 160) dX12_dayOrder_160 ⟨_, rfl, Or.inl rfl⟩ (h0 ((0, p13.2)) hr) rfl)))
    refine pj_tbind (fun p16 h17 => ?_)
    refine pj_map (fun k => pj_if_eq_f hM (pc := 138) 159 dX12_dayOrder_138 rfl h15 (pj_aload_n hM (pc := 141) dX12_dayOrder_141 rfl rfl (pj_iload_n hM (pc := 142) dX12_dayOrder_142 rfl (pj_iconst hM (pc := 143) dX12_dayOrder_143 (by decide) (pj_iadd hM (pc := 144) dX12_dayOrder_144 (pj_iconst hM (pc := 145) dX12_dayOrder_145 (by decide) (pj_sipush hM (pc := 146) dX12_dayOrder_146 (by decide) (pj_cV hM (pc := 149) (cM_number (pj_wr (x2 + 2)) 1 240 p13.2 p16 h17) dX12_dayOrder_149 mf_X12_number mv_X12_number ml_X12_191 kc_26 rfl rfl (by decide) rfl rfl k)))))))) ?_
    refine pj_tif (fun h18 => ?_) (fun h18 => ?_)
    · exact pj_tret (fun hr => pj_if_eq_t hM (pc := 152) dX12_dayOrder_152 rfl h18 (pj_iconst hM (pc := 159) dX12_dayOrder_159 (by decide) (pj_ret hM (pc := 160) dX12_dayOrder_160 ⟨_, rfl, Or.inl rfl⟩ (h0 ((0, p16.2)) hr) rfl)))
    exact pj_tret (fun hr => pj_if_eq_f hM (pc := 152) 159 dX12_dayOrder_152 rfl h18 (pj_iconst hM (pc := 155) dX12_dayOrder_155 (by decide) (pj_goto hM (pc := 156) dX12_dayOrder_156 rfl (pj_ret hM (pc := 160) dX12_dayOrder_160 ⟨_, rfl, Or.inr rfl⟩ (h0 ((1, p16.2)) hr) rfl))))
  refine pj_tif (fun h19 => ?_) (fun h19 => ?_)
  · refine pj_map (fun k => pj_table hM (pc := 1) (tgt := 94) dX12_dayOrder_1 (by decide) (by rw [h19]; decide) (pj_kill hM [true, false, true] (lls' := [(26, 0), (9, 0), (0, x2)]) rfl k)) ?_
    exact tM_dayOrder_94 hM x2 w _ h0
  refine pj_tif (fun h20 => ?_) (fun h20 => ?_)
  · refine pj_tbind (fun p21 h22 => ?_)
    refine pj_tgd (fun h23 => ?_)
    exact pj_tret (fun hr => pj_table hM (pc := 1) (tgt := 161) dX12_dayOrder_1 (by decide) (by rw [h20]; decide) (pj_aload_n hM (pc := 161) dX12_dayOrder_161 rfl rfl (pj_iload_n hM (pc := 162) dX12_dayOrder_162 rfl (pj_iconst hM (pc := 163) dX12_dayOrder_163 (by decide) (pj_iadd hM (pc := 164) dX12_dayOrder_164 (pj_iconst hM (pc := 165) dX12_dayOrder_165 (by decide) (pj_bipush hM (pc := 166) dX12_dayOrder_166 (by decide) (pj_cV hM (pc := 168) (cM_number (pj_wr (x2 + 1)) 0 16 w p21 h22) dX12_dayOrder_168 mf_X12_number mv_X12_number ml_X12_191 kc_26 rfl rfl (by decide) rfl rfl (pj_ret hM (pc := 171) dX12_dayOrder_171 ⟨_, rfl, h23⟩ (h0 ((p21.1, p21.2)) hr) rfl)))))))))
  refine pj_tif (fun h24 => ?_) (fun h24 => ?_)
  · refine pj_tbind (fun p25 h26 => ?_)
    refine pj_tgd (fun h27 => ?_)
    exact pj_tret (fun hr => pj_table hM (pc := 1) (tgt := 172) dX12_dayOrder_1 (by decide) (by rw [h24]; decide) (pj_aload_n hM (pc := 172) dX12_dayOrder_172 rfl rfl (pj_iload_n hM (pc := 173) dX12_dayOrder_173 rfl (pj_iconst hM (pc := 174) dX12_dayOrder_174 (by decide) (pj_iadd hM (pc := 175) dX12_dayOrder_175 (pj_iconst hM (pc := 176) dX12_dayOrder_176 (by decide) (pj_bipush hM (pc := 177) dX12_dayOrder_177 (by decide) (pj_cV hM (pc := 179) (cM_number (pj_wr (x2 + 1)) 0 40 w p25 h26) dX12_dayOrder_179 mf_X12_number mv_X12_number ml_X12_191 kc_26 rfl rfl (by decide) rfl rfl (pj_ret hM (pc := 182) dX12_dayOrder_182 ⟨_, rfl, h27⟩ (h0 ((p25.1, p25.2)) hr) rfl)))))))))
  refine pj_tif (fun h28 => ?_) (fun h28 => ?_)
  · refine pj_tbind (fun p29 h30 => ?_)
    refine pj_tgd (fun h31 => ?_)
    exact pj_tret (fun hr => pj_table hM (pc := 1) (tgt := 183) dX12_dayOrder_1 (by decide) (by rw [h28]; decide) (pj_aload_n hM (pc := 183) dX12_dayOrder_183 rfl rfl (pj_iload_n hM (pc := 184) dX12_dayOrder_184 rfl (pj_cV hM (pc := 185) (cM_test x2 w p29 h30) dX12_dayOrder_185 mf_X12_test mv_X12_test ml_X12_250 kc_26 rfl rfl (by decide) rfl rfl (pj_ret hM (pc := 188) dX12_dayOrder_188 ⟨_, rfl, h31⟩ (h0 ((p29.1, p29.2)) hr) rfl)))))
  refine pj_tif (fun h32 => ?_) (fun h32 => ?_)
  · refine pj_tbind (fun p33 h34 => ?_)
    refine pj_tgd (fun h35 => ?_)
    exact pj_tret (fun hr => pj_table hM (pc := 1) (tgt := 189) dX12_dayOrder_1 (by decide) (by rw [h32]; decide) (pj_aload_n hM (pc := 189) dX12_dayOrder_189 rfl rfl (pj_iload_n hM (pc := 190) dX12_dayOrder_190 rfl (pj_iconst hM (pc := 191) dX12_dayOrder_191 (by decide) (pj_iadd hM (pc := 192) dX12_dayOrder_192 (pj_iconst hM (pc := 193) dX12_dayOrder_193 (by decide) (pj_bipush hM (pc := 194) dX12_dayOrder_194 (by decide) (pj_cV hM (pc := 196) (cM_number (pj_wr (x2 + 1)) 1 99 w p33 h34) dX12_dayOrder_196 mf_X12_number mv_X12_number ml_X12_191 kc_26 rfl rfl (by decide) rfl rfl (pj_ret hM (pc := 199) dX12_dayOrder_199 ⟨_, rfl, h35⟩ (h0 ((p33.1, p33.2)) hr) rfl)))))))))
  exact pj_tret (fun hr => pj_table hM (pc := 1) (tgt := 200) dX12_dayOrder_1 (by decide) (by have e9 : x1 < 18 ∨ 25 < x1 := (by omega); unfold pj_tab; rw [if_pos e9]; decide) (pj_iconst hM (pc := 200) dX12_dayOrder_200 (by decide) (pj_ret hM (pc := 201) dX12_dayOrder_201 ⟨_, rfl, Or.inr rfl⟩ (h0 ((1, w)) hr) rfl)))
theorem cM_dayOrder (x1 : Int) (x2 : Int)  (w : pj_W) (r : Int × pj_W) (h : fM_dayOrder x1 x2 w = some r) : pj_Cn l yX12_dayOrder cX12_dayOrder 3 (some .boolean) 9 198 true g [(26, 0), (0, x1), (0, x2)] w ((some (0, r.1) : Option pj_V), r.2) :=
  pj_Cn_of rfl (Nat.le_of_ble_eq_true rfl) (lls := [(26, 0), (0, x1), (0, x2)]) rfl (fun Go hM => tM_dayOrder hM x1 x2 w (fun x => ((some (0, x.1) : Option pj_V), x.2) = ((some (0, r.1) : Option pj_V), r.2)) (fun r h => h) r h rfl)
noncomputable def fM_dayStep_74  (w : pj_W) : Option (Int × pj_W) :=
  (fM_fails 2 w).bind fun p1 => (if p1.1 = 0 ∨ p1.1 = 1 then (some ((p1.1, p1.2))) else none)
noncomputable def fM_dayStep_284  (w : pj_W) : Option (Int × pj_W) :=
  (fM_wantSign 59 w).bind fun p1 => (if p1.1 = 0 ∨ p1.1 = 1 then (some ((p1.1, p1.2))) else none)
noncomputable def fM_dayStep_227 (x1 : Int) (x2 : Int) (x3 : Int) (w : pj_W) : Option (Int × pj_W) :=
  if x1 = 26 then (if 0 ≤ ((pj_set w 26 0 23 (pj_wr ((w 26 0 23) - 1))) 26 0 23) ∧ ((pj_set w 26 0 23 (pj_wr ((w 26 0 23) - 1))) 26 0 23) < 3 then (if 0 ≤ (pj_wr (x3 + 4)) ∧ (pj_wr (x3 + 4)) < 8400 then ((some (pj_set (pj_set w 26 0 23 (pj_wr ((w 26 0 23) - 1))) 60 0 (pj_wr (x3 + 4)) ((pj_set w 26 0 23 (pj_wr ((w 26 0 23) - 1))) 67 0 ((pj_set w 26 0 23 (pj_wr ((w 26 0 23) - 1))) 26 0 23)))).bind fun w4 => (if 0 ≤ (w4 26 0 23) ∧ (w4 26 0 23) < 3 then (if 0 ≤ (pj_wr ((pj_wr (6630 + (pj_wr (6 * (w4 67 0 (w4 26 0 23)))))) + 4)) ∧ (pj_wr ((pj_wr (6630 + (pj_wr (6 * (w4 67 0 (w4 26 0 23)))))) + 4)) < 8400 then (fM_dayStep_284 (pj_set w4 60 0 (pj_wr ((pj_wr (6630 + (pj_wr (6 * (w4 67 0 (w4 26 0 23)))))) + 4)) x2)) else none) else none)) else none) else none) else (fM_dayStep_284 w)
noncomputable def fM_dayStep_152b (x1 : Int) (x2 : Int) (x3 : Int) (x4 : Int) (x5 : Int) (w : pj_W) : Option ((Int × pj_W) ⊕ (Int × pj_W)) :=
  if 6 ≤ x5 then ((fM_ahead (pj_set w 60 0 5609 (pj_wr ((w 60 0 5609) + 1)))).bind fun p2 => ((fM_dayOrder x1 x3 p2).bind fun p4 => (if p4.1 = 0 then (some (Sum.inr ((0, p4.2)))) else (if x4 = 0 then ((fM_dayStep_227 x1 x2 x3 p4.2).map Sum.inr) else (if 0 ≤ (p4.2 26 0 23) ∧ (p4.2 26 0 23) < 3 then ((some (pj_set (pj_set p4.2 67 0 (p4.2 26 0 23) x2) 26 0 23 (pj_wr (((pj_set p4.2 67 0 (p4.2 26 0 23) x2) 26 0 23) + 1)))).bind fun w9 => ((fM_dayStep_227 x1 x2 x3 w9).map Sum.inr)) else none))))) else (if 0 ≤ (pj_wr (x3 + x5)) ∧ (pj_wr (x3 + x5)) < 8400 then (some (Sum.inl ((pj_wr (x5 + 1)), (pj_set w 60 0 (pj_wr (x3 + x5)) 0)))) else none)
noncomputable def fM_dayStep_152 (x1 : Int) (x2 : Int) (x3 : Int) (x4 : Int) (s : (Int × pj_W)) : Option (Int × pj_W) := pj_Lp (fun s : (Int × pj_W) => fM_dayStep_152b x1 x2 x3 x4 s.1 s.2) s
noncomputable def fM_dayStep_138 (x1 : Int) (x2 : Int) (x3 : Int) (x4 : Int) (s1 : Int) (s2 : Int) (w : pj_W) : Option (Int × pj_W) :=
  if 0 ≤ x3 ∧ x3 < 8400 then (fM_dayStep_152 x1 x2 x3 x4 (1, (pj_set (pj_set w 26 0 24 (pj_wr (s1 + s2))) 60 0 x3 x1))) else none
noncomputable def fM_dayStep_122 (x1 : Int) (x2 : Int) (x3 : Int) (x4 : Int) (w : pj_W) : Option (Int × pj_W) :=
  fM_dayStep_138 x1 x2 x3 x4 (w 26 0 24) (if x1 = 26 then (0 : Int) else 1) w
noncomputable def fM_dayStep_102 (x1 : Int) (x2 : Int) (x3 : Int) (x4 : Int) (w : pj_W) : Option (Int × pj_W) :=
  if x4 = 0 then (fM_dayStep_122 x1 x2 x3 x4 w) else (if (w 26 0 23) = 3 then ((fM_fails 7 w).bind fun p3 => (if p3.1 = 0 ∨ p3.1 = 1 then (some ((p3.1, p3.2))) else none)) else (fM_dayStep_122 x1 x2 x3 x4 w))
noncomputable def fM_dayStep_80 (x1 : Int) (x2 : Int) (x3 : Int) (x4 : Int) (w : pj_W) : Option (Int × pj_W) :=
  if x1 = 26 then (fM_dayStep_102 x1 x2 x3 x4 w) else (if (w 26 0 24) = 30 then ((fM_fails 6 w).bind fun p3 => (if p3.1 = 0 ∨ p3.1 = 1 then (some ((p3.1, p3.2))) else none)) else (fM_dayStep_102 x1 x2 x3 x4 w))
noncomputable def fM_dayStep_61 (x1 : Int) (x2 : Int) (x3 : Int) (x4 : Int) (w : pj_W) : Option (Int × pj_W) :=
  if x1 = 26 then (if (w 26 0 23) = 0 then (fM_dayStep_74 w) else (fM_dayStep_80 x1 x2 x3 x4 w)) else (fM_dayStep_80 x1 x2 x3 x4 w)
noncomputable def fM_dayStep_42 (x1 : Int) (x2 : Int) (x3 : Int) (s0 : Int) (w : pj_W) : Option (Int × pj_W) :=
  if x1 = 1 then (fM_dayStep_61 x1 x2 x3 s0 w) else (if x1 < 18 then (fM_dayStep_74 w) else (if 27 < x1 then (fM_dayStep_74 w) else (fM_dayStep_61 x1 x2 x3 s0 w)))
noncomputable def fM_dayStep_37 (x1 : Int) (x2 : Int) (x3 : Int) (w : pj_W) : Option (Int × pj_W) :=
  fM_dayStep_42 x1 x2 x3 1 w
noncomputable def fM_dayStep  (w : pj_W) : Option (Int × pj_W) :=
  (fM_inWords w).bind fun p1 => (if p1 = 24 then (fM_dayStep_37 p1 (w 60 0 5609) (pj_wr (6630 + (pj_wr (6 * (w 60 0 5609))))) w) else (if p1 = 25 then (fM_dayStep_37 p1 (w 60 0 5609) (pj_wr (6630 + (pj_wr (6 * (w 60 0 5609))))) w) else (fM_dayStep_42 p1 (w 60 0 5609) (pj_wr (6630 + (pj_wr (6 * (w 60 0 5609))))) 0 w)))
theorem tM_dayStep_74 {Go : pj_C → Prop} (hM : pj_M l yX12_dayStep cX12_dayStep 6 (some .boolean) 10 220 true g n0 o Go)  (w : pj_W)  (R : Int × pj_W → Prop) (h0 : ∀ r, R (r) → ((some (0, r.1) : Option pj_V), r.2) = o) : pj_TG R (fM_dayStep_74  w) (Go (74, [(26, 0), (9, 0), (9, 0), (9, 0), (9, 0), (9, 0)], [], w)) := by
  unfold fM_dayStep_74
  refine pj_tbind (fun p1 h2 => ?_)
  refine pj_tgd (fun h3 => ?_)
  exact pj_tret (fun hr => pj_aload_n hM (pc := 74) dX12_dayStep_74 rfl rfl (pj_iconst hM (pc := 75) dX12_dayStep_75 (by decide) (pj_cV hM (pc := 76) (cM_fails 2 w p1 h2) dX12_dayStep_76 mf_X12_fails mv_X12_fails ml_X12_160 kc_26 rfl rfl (by decide) rfl rfl (pj_ret hM (pc := 79) dX12_dayStep_79 ⟨_, rfl, h3⟩ (h0 ((p1.1, p1.2)) hr) rfl))))
theorem tM_dayStep_284 {Go : pj_C → Prop} (hM : pj_M l yX12_dayStep cX12_dayStep 6 (some .boolean) 10 220 true g n0 o Go)  (w : pj_W)  (R : Int × pj_W → Prop) (h0 : ∀ r, R (r) → ((some (0, r.1) : Option pj_V), r.2) = o) : pj_TG R (fM_dayStep_284  w) (Go (284, [(26, 0), (9, 0), (9, 0), (9, 0), (9, 0), (9, 0)], [], w)) := by
  unfold fM_dayStep_284
  refine pj_tbind (fun p1 h2 => ?_)
  refine pj_tgd (fun h3 => ?_)
  exact pj_tret (fun hr => pj_aload_n hM (pc := 284) dX12_dayStep_284 rfl rfl (pj_bipush hM (pc := 285) dX12_dayStep_285 (by decide) (pj_cV hM (pc := 287) (cM_wantSign 59 w p1 h2) dX12_dayStep_287 mf_X12_wantSign mv_X12_wantSign ml_X12_195 kc_26 rfl rfl (by decide) rfl rfl (pj_ret hM (pc := 290) dX12_dayStep_290 ⟨_, rfl, h3⟩ (h0 ((p1.1, p1.2)) hr) rfl))))
theorem tM_dayStep_227 {Go : pj_C → Prop} (hM : pj_M l yX12_dayStep cX12_dayStep 6 (some .boolean) 10 220 true g n0 o Go) (x1 : Int) (x2 : Int) (x3 : Int) (w : pj_W)  (R : Int × pj_W → Prop) (h0 : ∀ r, R (r) → ((some (0, r.1) : Option pj_V), r.2) = o) : pj_TG R (fM_dayStep_227 x1 x2 x3 w) (Go (227, [(26, 0), (0, x1), (0, x2), (0, x3), (9, 0), (9, 0)], [], w)) := by
  unfold fM_dayStep_227
  refine pj_map (fun k => pj_iload_n hM (pc := 227) dX12_dayStep_227 rfl (pj_bipush hM (pc := 228) dX12_dayStep_228 (by decide) k)) ?_
  refine pj_tif (fun h1 => ?_) (fun h1 => ?_)
  · refine pj_tgd (fun h2 => ?_)
    refine pj_tgd (fun h3 => ?_)
    refine pj_map (fun k => pj_ic_ne_f hM (pc := 230) 284 dX12_dayStep_230 rfl (fun q => q h1) (pj_aload_n hM (pc := 233) dX12_dayStep_233 rfl rfl (pj_dup hM (pc := 234) dX12_dayStep_234 (by decide) (pj_gf hM (pc := 235) (t := 0) dX12_dayStep_235 fl_X12_253 (by decide) rfl 23 rfl (pj_iconst hM (pc := 238) dX12_dayStep_238 (by decide) (pj_isub hM (pc := 239) dX12_dayStep_239 (pj_pf hM (pc := 240) dX12_dayStep_240 fl_X12_253 (by decide) rfl (fun h => absurd h (by decide)) (by decide) (fun _ => rfl) 23 rfl (pj_aload_n hM (pc := 243) dX12_dayStep_243 rfl rfl (pj_getF hM (pc := 244) (t := 60) dX12_dayStep_244 fl_X12_7 (by decide) rfl rfl (pj_iload_n hM (pc := 247) dX12_dayStep_247 rfl (pj_iconst hM (pc := 248) dX12_dayStep_248 (by decide) (pj_iadd hM (pc := 249) dX12_dayStep_249 (pj_aload_n hM (pc := 250) dX12_dayStep_250 rfl rfl (pj_getF hM (pc := 251) (t := 67) dX12_dayStep_251 fl_X12_44 (by decide) rfl rfl (pj_aload_n hM (pc := 254) dX12_dayStep_254 rfl rfl (pj_gf hM (pc := 255) (t := 0) dX12_dayStep_255 fl_X12_253 (by decide) rfl 23 rfl (pj_ial hM (pc := 258) dX12_dayStep_258 ki_67 (by decide) h2 (pj_ias hM (pc := 259) dX12_dayStep_259 ki_60 (by decide) h3 k)))))))))))))))))) ?_
    refine pj_tlet (fun w4 => Go (260, [(26, 0), (0, x1), (0, x2), (0, x3), (9, 0), (9, 0)], [], w4)) (fun w4 => ?_)
    refine pj_tgd (fun h5 => ?_)
    refine pj_tgd (fun h6 => ?_)
    refine pj_map (fun k => pj_aload_n hM (pc := 260) dX12_dayStep_260 rfl rfl (pj_getF hM (pc := 261) (t := 60) dX12_dayStep_261 fl_X12_7 (by decide) rfl rfl (pj_sipush hM (pc := 264) dX12_dayStep_264 (by decide) (pj_bipush hM (pc := 267) dX12_dayStep_267 (by decide) (pj_aload_n hM (pc := 269) dX12_dayStep_269 rfl rfl (pj_getF hM (pc := 270) (t := 67) dX12_dayStep_270 fl_X12_44 (by decide) rfl rfl (pj_aload_n hM (pc := 273) dX12_dayStep_273 rfl rfl (pj_gf hM (pc := 274) (t := 0) dX12_dayStep_274 fl_X12_253 (by decide) rfl 23 rfl (pj_ial hM (pc := 277) dX12_dayStep_277 ki_67 (by decide) h5 (pj_imul hM (pc := 278) dX12_dayStep_278 (pj_iadd hM (pc := 279) dX12_dayStep_279 (pj_iconst hM (pc := 280) dX12_dayStep_280 (by decide) (pj_iadd hM (pc := 281) dX12_dayStep_281 (pj_iload_n hM (pc := 282) dX12_dayStep_282 rfl (pj_ias hM (pc := 283) dX12_dayStep_283 ki_60 (by decide) h6 (pj_kill hM [true, false, false, false, false, false] (lls' := [(26, 0), (9, 0), (9, 0), (9, 0), (9, 0), (9, 0)]) rfl k)))))))))))))))) ?_
    exact tM_dayStep_284 hM (pj_set w4 60 0 (pj_wr ((pj_wr (6630 + (pj_wr (6 * (w4 67 0 (w4 26 0 23)))))) + 4)) x2) _ h0
  refine pj_map (fun k => pj_ic_ne_t hM (pc := 230) dX12_dayStep_230 rfl h1 (pj_kill hM [true, false, false, false, false, false] (lls' := [(26, 0), (9, 0), (9, 0), (9, 0), (9, 0), (9, 0)]) rfl k)) ?_
  exact tM_dayStep_284 hM w _ h0
theorem tM_dayStep_152b {Go : pj_C → Prop} (hM : pj_M l yX12_dayStep cX12_dayStep 6 (some .boolean) 10 220 true g n0 o Go) (x1 : Int) (x2 : Int) (x3 : Int) (x4 : Int) (x5 : Int) (w : pj_W)  (R : (Int × pj_W) ⊕ (Int × pj_W) → Prop) (h0 : ∀ r, R (Sum.inr (r)) → ((some (0, r.1) : Option pj_V), r.2) = o) (hk152 : ∀ s, R (Sum.inl s) → Go (152, [(26, 0), (0, x1), (0, x2), (0, x3), (0, x4), (0, s.1)], [], s.2)) : pj_TG R (fM_dayStep_152b x1 x2 x3 x4 x5 w) (Go (152, [(26, 0), (0, x1), (0, x2), (0, x3), (0, x4), (0, x5)], [], w)) := by
  unfold fM_dayStep_152b
  refine pj_map (fun k => pj_iload hM (pc := 152) dX12_dayStep_152 rfl (pj_bipush hM (pc := 154) dX12_dayStep_154 (by decide) k)) ?_
  refine pj_tif (fun h1 => ?_) (fun h1 => ?_)
  · refine pj_tbind (fun p2 h3 => ?_)
    refine pj_tbind (fun p4 h5 => ?_)
    refine pj_map (fun k => pj_ic_ge_t hM (pc := 156) dX12_dayStep_156 rfl h1 (pj_aload_n hM (pc := 175) dX12_dayStep_175 rfl rfl (pj_getF hM (pc := 176) (t := 60) dX12_dayStep_176 fl_X12_7 (by decide) rfl rfl (pj_sipush hM (pc := 179) dX12_dayStep_179 (by decide) (pj_dup2 hM (pc := 182) dX12_dayStep_182 (by decide) (by decide) (pj_ial hM (pc := 183) dX12_dayStep_183 ki_60 (by decide) (by decide) (pj_iconst hM (pc := 184) dX12_dayStep_184 (by decide) (pj_iadd hM (pc := 185) dX12_dayStep_185 (pj_ias hM (pc := 186) dX12_dayStep_186 ki_60 (by decide) (by decide) (pj_aload_n hM (pc := 187) dX12_dayStep_187 rfl rfl (pj_cVv hM (pc := 188) (cM_ahead (pj_set w 60 0 5609 (pj_wr ((w 60 0 5609) + 1))) p2 h3) dX12_dayStep_188 mf_X12_ahead mv_X12_ahead ml_X12_154 kc_26 rfl rfl (by decide) rfl rfl (pj_aload_n hM (pc := 191) dX12_dayStep_191 rfl rfl (pj_iload_n hM (pc := 192) dX12_dayStep_192 rfl (pj_iload_n hM (pc := 193) dX12_dayStep_193 rfl (pj_cV hM (pc := 194) (cM_dayOrder x1 x3 p2 p4 h5) dX12_dayStep_194 mf_X12_dayOrder mv_X12_dayOrder ml_X12_259 kc_26 rfl rfl (by decide) rfl rfl k))))))))))))))) ?_
    refine pj_tif (fun h6 => ?_) (fun h6 => ?_)
    · exact pj_tret (fun hr => pj_if_ne_f hM (pc := 197) 202 dX12_dayStep_197 rfl (fun q => q h6) (pj_iconst hM (pc := 200) dX12_dayStep_200 (by decide) (pj_ret hM (pc := 201) dX12_dayStep_201 ⟨_, rfl, Or.inl rfl⟩ (h0 ((0, p4.2)) hr) rfl)))
    refine pj_map (fun k => pj_if_ne_t hM (pc := 197) dX12_dayStep_197 rfl h6 (pj_iload hM (pc := 202) dX12_dayStep_202 rfl k)) ?_
    refine pj_tif (fun h7 => ?_) (fun h7 => ?_)
    · refine pj_tmap ?_
      refine pj_map (fun k => pj_if_eq_t hM (pc := 204) dX12_dayStep_204 rfl h7 (pj_kill hM [true, true, true, true, false, false] (lls' := [(26, 0), (0, x1), (0, x2), (0, x3), (9, 0), (9, 0)]) rfl k)) ?_
      exact tM_dayStep_227 hM x1 x2 x3 p4.2 _ h0
    refine pj_tgd (fun h8 => ?_)
    refine pj_map (fun k => pj_if_eq_f hM (pc := 204) 227 dX12_dayStep_204 rfl h7 (pj_aload_n hM (pc := 207) dX12_dayStep_207 rfl rfl (pj_getF hM (pc := 208) (t := 67) dX12_dayStep_208 fl_X12_44 (by decide) rfl rfl (pj_aload_n hM (pc := 211) dX12_dayStep_211 rfl rfl (pj_gf hM (pc := 212) (t := 0) dX12_dayStep_212 fl_X12_253 (by decide) rfl 23 rfl (pj_iload_n hM (pc := 215) dX12_dayStep_215 rfl (pj_ias hM (pc := 216) dX12_dayStep_216 ki_67 (by decide) h8 (pj_aload_n hM (pc := 217) dX12_dayStep_217 rfl rfl (pj_dup hM (pc := 218) dX12_dayStep_218 (by decide) (pj_gf hM (pc := 219) (t := 0) dX12_dayStep_219 fl_X12_253 (by decide) rfl 23 rfl (pj_iconst hM (pc := 222) dX12_dayStep_222 (by decide) (pj_iadd hM (pc := 223) dX12_dayStep_223 (pj_pf hM (pc := 224) dX12_dayStep_224 fl_X12_253 (by decide) rfl (fun h => absurd h (by decide)) (by decide) (fun _ => rfl) 23 rfl k))))))))))))) ?_
    refine pj_tlet (fun w9 => Go (227, [(26, 0), (0, x1), (0, x2), (0, x3), (0, x4), (0, x5)], [], w9)) (fun w9 => ?_)
    refine pj_tmap ?_
    refine pj_map (fun k => pj_kill hM [true, true, true, true, false, false] (lls' := [(26, 0), (0, x1), (0, x2), (0, x3), (9, 0), (9, 0)]) rfl k) ?_
    exact tM_dayStep_227 hM x1 x2 x3 w9 _ h0
  refine pj_tgd (fun h10 => ?_)
  exact pj_tret (fun hr => pj_ic_ge_f hM (pc := 156) 175 dX12_dayStep_156 rfl h1 (pj_aload_n hM (pc := 159) dX12_dayStep_159 rfl rfl (pj_getF hM (pc := 160) (t := 60) dX12_dayStep_160 fl_X12_7 (by decide) rfl rfl (pj_iload_n hM (pc := 163) dX12_dayStep_163 rfl (pj_iload hM (pc := 164) dX12_dayStep_164 rfl (pj_iadd hM (pc := 166) dX12_dayStep_166 (pj_iconst hM (pc := 167) dX12_dayStep_167 (by decide) (pj_ias hM (pc := 168) dX12_dayStep_168 ki_60 (by decide) h10 (pj_iinc hM (pc := 169) dX12_dayStep_169 rfl (by decide) (lls' := [(26, 0), (0, x1), (0, x2), (0, x3), (0, x4), (0, (pj_wr (x5 + 1)))]) rfl (pj_goto hM (pc := 172) dX12_dayStep_172 rfl (pj_kill hM [true, true, true, true, true, true] (lls' := [(26, 0), (0, x1), (0, x2), (0, x3), (0, x4), (0, (pj_wr (x5 + 1)))]) rfl ((hk152 _ hr)))))))))))))
theorem tM_dayStep_152 {Go : pj_C → Prop} (hM : pj_M l yX12_dayStep cX12_dayStep 6 (some .boolean) 10 220 true g n0 o Go) (x1 : Int) (x2 : Int) (x3 : Int) (x4 : Int)  (R : Int × pj_W → Prop) (h0 : ∀ r, R (r) → ((some (0, r.1) : Option pj_V), r.2) = o) (s : (Int × pj_W)) : pj_TG R (fM_dayStep_152 x1 x2 x3 x4 s) (Go (152, [(26, 0), (0, x1), (0, x2), (0, x3), (0, x4), (0, s.1)], [], s.2)) := by
  unfold fM_dayStep_152
  exact pj_tLp (G := fun s : (Int × pj_W) => Go (152, [(26, 0), (0, x1), (0, x2), (0, x3), (0, x4), (0, s.1)], [], s.2)) (fun s => tM_dayStep_152b hM x1 x2 x3 x4 s.1 s.2  _ (fun r h => h0 r h)  (fun s h => h)) s
theorem tM_dayStep_138 {Go : pj_C → Prop} (hM : pj_M l yX12_dayStep cX12_dayStep 6 (some .boolean) 10 220 true g n0 o Go) (x1 : Int) (x2 : Int) (x3 : Int) (x4 : Int) (s1 : Int) (s2 : Int) (w : pj_W)  (R : Int × pj_W → Prop) (h0 : ∀ r, R (r) → ((some (0, r.1) : Option pj_V), r.2) = o) : pj_TG R (fM_dayStep_138 x1 x2 x3 x4 s1 s2 w) (Go (138, [(26, 0), (0, x1), (0, x2), (0, x3), (0, x4), (9, 0)], [(0, s2), (0, s1), (26, 0)], w)) := by
  unfold fM_dayStep_138
  refine pj_tgd (fun h1 => ?_)
  refine pj_map (fun k => pj_iadd hM (pc := 138) dX12_dayStep_138 (pj_pf hM (pc := 139) dX12_dayStep_139 fl_X12_256 (by decide) rfl (fun h => absurd h (by decide)) (by decide) (fun _ => rfl) 24 rfl (pj_aload_n hM (pc := 142) dX12_dayStep_142 rfl rfl (pj_getF hM (pc := 143) (t := 60) dX12_dayStep_143 fl_X12_7 (by decide) rfl rfl (pj_iload_n hM (pc := 146) dX12_dayStep_146 rfl (pj_iload_n hM (pc := 147) dX12_dayStep_147 rfl (pj_ias hM (pc := 148) dX12_dayStep_148 ki_60 (by decide) h1 (pj_iconst hM (pc := 149) dX12_dayStep_149 (by decide) (pj_istore hM (pc := 150) dX12_dayStep_150 (by decide) (lls' := [(26, 0), (0, x1), (0, x2), (0, x3), (0, x4), (0, 1)]) rfl (pj_kill hM [true, true, true, true, true, true] (lls' := [(26, 0), (0, x1), (0, x2), (0, x3), (0, x4), (0, 1)]) rfl k)))))))))) ?_
  exact tM_dayStep_152 hM x1 x2 x3 x4 _ h0 _
theorem tM_dayStep_122 {Go : pj_C → Prop} (hM : pj_M l yX12_dayStep cX12_dayStep 6 (some .boolean) 10 220 true g n0 o Go) (x1 : Int) (x2 : Int) (x3 : Int) (x4 : Int) (w : pj_W)  (R : Int × pj_W → Prop) (h0 : ∀ r, R (r) → ((some (0, r.1) : Option pj_V), r.2) = o) : pj_TG R (fM_dayStep_122 x1 x2 x3 x4 w) (Go (122, [(26, 0), (0, x1), (0, x2), (0, x3), (0, x4), (9, 0)], [], w)) := by
  unfold fM_dayStep_122
  refine pj_map (fun k => pj_aload_n hM (pc := 122) dX12_dayStep_122 rfl rfl (pj_dup hM (pc := 123) dX12_dayStep_123 (by decide) (pj_gf hM (pc := 124) (t := 0) dX12_dayStep_124 fl_X12_256 (by decide) rfl 24 rfl (pj_iload_n hM (pc := 127) dX12_dayStep_127 rfl (pj_bipush hM (pc := 128) dX12_dayStep_128 (by decide) k))))) ?_
  refine pj_tJ (fun v : Int => fM_dayStep_138 x1 x2 x3 x4 (w 26 0 24) v w) (fun h1 => ?_) (fun h1 => ?_)
  · refine pj_map (fun k => pj_ic_ne_f hM (pc := 130) 137 dX12_dayStep_130 rfl (fun q => q h1) (pj_iconst hM (pc := 133) dX12_dayStep_133 (by decide) (pj_goto hM (pc := 134) dX12_dayStep_134 rfl (pj_kill hM [true, true, true, true, true, false] (lls' := [(26, 0), (0, x1), (0, x2), (0, x3), (0, x4), (9, 0)]) rfl k)))) ?_
    exact tM_dayStep_138 hM x1 x2 x3 x4 (w 26 0 24) 0 w _ h0
  refine pj_map (fun k => pj_ic_ne_t hM (pc := 130) dX12_dayStep_130 rfl h1 (pj_iconst hM (pc := 137) dX12_dayStep_137 (by decide) (pj_kill hM [true, true, true, true, true, false] (lls' := [(26, 0), (0, x1), (0, x2), (0, x3), (0, x4), (9, 0)]) rfl k))) ?_
  exact tM_dayStep_138 hM x1 x2 x3 x4 (w 26 0 24) 1 w _ h0
theorem tM_dayStep_102 {Go : pj_C → Prop} (hM : pj_M l yX12_dayStep cX12_dayStep 6 (some .boolean) 10 220 true g n0 o Go) (x1 : Int) (x2 : Int) (x3 : Int) (x4 : Int) (w : pj_W)  (R : Int × pj_W → Prop) (h0 : ∀ r, R (r) → ((some (0, r.1) : Option pj_V), r.2) = o) : pj_TG R (fM_dayStep_102 x1 x2 x3 x4 w) (Go (102, [(26, 0), (0, x1), (0, x2), (0, x3), (0, x4), (9, 0)], [], w)) := by
  unfold fM_dayStep_102
  refine pj_map (fun k => pj_iload hM (pc := 102) dX12_dayStep_102 rfl k) ?_
  refine pj_tif (fun h1 => ?_) (fun h1 => ?_)
  · refine pj_map (fun k => pj_if_eq_t hM (pc := 104) dX12_dayStep_104 rfl h1 (pj_kill hM [true, true, true, true, true, false] (lls' := [(26, 0), (0, x1), (0, x2), (0, x3), (0, x4), (9, 0)]) rfl k)) ?_
    exact tM_dayStep_122 hM x1 x2 x3 x4 w _ h0
  refine pj_map (fun k => pj_if_eq_f hM (pc := 104) 122 dX12_dayStep_104 rfl h1 (pj_aload_n hM (pc := 107) dX12_dayStep_107 rfl rfl (pj_gf hM (pc := 108) (t := 0) dX12_dayStep_108 fl_X12_253 (by decide) rfl 23 rfl (pj_iconst hM (pc := 111) dX12_dayStep_111 (by decide) k)))) ?_
  refine pj_tif (fun h2 => ?_) (fun h2 => ?_)
  · refine pj_tbind (fun p3 h4 => ?_)
    refine pj_tgd (fun h5 => ?_)
    exact pj_tret (fun hr => pj_ic_ne_f hM (pc := 112) 122 dX12_dayStep_112 rfl (fun q => q h2) (pj_aload_n hM (pc := 115) dX12_dayStep_115 rfl rfl (pj_bipush hM (pc := 116) dX12_dayStep_116 (by decide) (pj_cV hM (pc := 118) (cM_fails 7 w p3 h4) dX12_dayStep_118 mf_X12_fails mv_X12_fails ml_X12_160 kc_26 rfl rfl (by decide) rfl rfl (pj_ret hM (pc := 121) dX12_dayStep_121 ⟨_, rfl, h5⟩ (h0 ((p3.1, p3.2)) hr) rfl)))))
  refine pj_map (fun k => pj_ic_ne_t hM (pc := 112) dX12_dayStep_112 rfl h2 (pj_kill hM [true, true, true, true, true, false] (lls' := [(26, 0), (0, x1), (0, x2), (0, x3), (0, x4), (9, 0)]) rfl k)) ?_
  exact tM_dayStep_122 hM x1 x2 x3 x4 w _ h0
theorem tM_dayStep_80 {Go : pj_C → Prop} (hM : pj_M l yX12_dayStep cX12_dayStep 6 (some .boolean) 10 220 true g n0 o Go) (x1 : Int) (x2 : Int) (x3 : Int) (x4 : Int) (w : pj_W)  (R : Int × pj_W → Prop) (h0 : ∀ r, R (r) → ((some (0, r.1) : Option pj_V), r.2) = o) : pj_TG R (fM_dayStep_80 x1 x2 x3 x4 w) (Go (80, [(26, 0), (0, x1), (0, x2), (0, x3), (0, x4), (9, 0)], [], w)) := by
  unfold fM_dayStep_80
  refine pj_map (fun k => pj_iload_n hM (pc := 80) dX12_dayStep_80 rfl (pj_bipush hM (pc := 81) dX12_dayStep_81 (by decide) k)) ?_
  refine pj_tif (fun h1 => ?_) (fun h1 => ?_)
  · refine pj_map (fun k => pj_ic_eq_t hM (pc := 83) dX12_dayStep_83 rfl h1 (pj_kill hM [true, true, true, true, true, false] (lls' := [(26, 0), (0, x1), (0, x2), (0, x3), (0, x4), (9, 0)]) rfl k)) ?_
    exact tM_dayStep_102 hM x1 x2 x3 x4 w _ h0
  refine pj_map (fun k => pj_ic_eq_f hM (pc := 83) 102 dX12_dayStep_83 rfl h1 (pj_aload_n hM (pc := 86) dX12_dayStep_86 rfl rfl (pj_gf hM (pc := 87) (t := 0) dX12_dayStep_87 fl_X12_256 (by decide) rfl 24 rfl (pj_bipush hM (pc := 90) dX12_dayStep_90 (by decide) k)))) ?_
  refine pj_tif (fun h2 => ?_) (fun h2 => ?_)
  · refine pj_tbind (fun p3 h4 => ?_)
    refine pj_tgd (fun h5 => ?_)
    exact pj_tret (fun hr => pj_ic_ne_f hM (pc := 92) 102 dX12_dayStep_92 rfl (fun q => q h2) (pj_aload_n hM (pc := 95) dX12_dayStep_95 rfl rfl (pj_bipush hM (pc := 96) dX12_dayStep_96 (by decide) (pj_cV hM (pc := 98) (cM_fails 6 w p3 h4) dX12_dayStep_98 mf_X12_fails mv_X12_fails ml_X12_160 kc_26 rfl rfl (by decide) rfl rfl (pj_ret hM (pc := 101) dX12_dayStep_101 ⟨_, rfl, h5⟩ (h0 ((p3.1, p3.2)) hr) rfl)))))
  refine pj_map (fun k => pj_ic_ne_t hM (pc := 92) dX12_dayStep_92 rfl h2 (pj_kill hM [true, true, true, true, true, false] (lls' := [(26, 0), (0, x1), (0, x2), (0, x3), (0, x4), (9, 0)]) rfl k)) ?_
  exact tM_dayStep_102 hM x1 x2 x3 x4 w _ h0
theorem tM_dayStep_61 {Go : pj_C → Prop} (hM : pj_M l yX12_dayStep cX12_dayStep 6 (some .boolean) 10 220 true g n0 o Go) (x1 : Int) (x2 : Int) (x3 : Int) (x4 : Int) (w : pj_W)  (R : Int × pj_W → Prop) (h0 : ∀ r, R (r) → ((some (0, r.1) : Option pj_V), r.2) = o) : pj_TG R (fM_dayStep_61 x1 x2 x3 x4 w) (Go (61, [(26, 0), (0, x1), (0, x2), (0, x3), (0, x4), (9, 0)], [], w)) := by
  unfold fM_dayStep_61
  refine pj_map (fun k => pj_iload_n hM (pc := 61) dX12_dayStep_61 rfl (pj_bipush hM (pc := 62) dX12_dayStep_62 (by decide) k)) ?_
  refine pj_tif (fun h1 => ?_) (fun h1 => ?_)
  · refine pj_map (fun k => pj_ic_ne_f hM (pc := 64) 80 dX12_dayStep_64 rfl (fun q => q h1) (pj_aload_n hM (pc := 67) dX12_dayStep_67 rfl rfl (pj_gf hM (pc := 68) (t := 0) dX12_dayStep_68 fl_X12_253 (by decide) rfl 23 rfl k))) ?_
    refine pj_tif (fun h2 => ?_) (fun h2 => ?_)
    · refine pj_map (fun k => pj_if_ne_f hM (pc := 71) 80 dX12_dayStep_71 rfl (fun q => q h2) (pj_kill hM [true, false, false, false, false, false] (lls' := [(26, 0), (9, 0), (9, 0), (9, 0), (9, 0), (9, 0)]) rfl k)) ?_
      exact tM_dayStep_74 hM w _ h0
    refine pj_map (fun k => pj_if_ne_t hM (pc := 71) dX12_dayStep_71 rfl h2 (pj_kill hM [true, true, true, true, true, false] (lls' := [(26, 0), (0, x1), (0, x2), (0, x3), (0, x4), (9, 0)]) rfl k)) ?_
    exact tM_dayStep_80 hM x1 x2 x3 x4 w _ h0
  refine pj_map (fun k => pj_ic_ne_t hM (pc := 64) dX12_dayStep_64 rfl h1 (pj_kill hM [true, true, true, true, true, false] (lls' := [(26, 0), (0, x1), (0, x2), (0, x3), (0, x4), (9, 0)]) rfl k)) ?_
  exact tM_dayStep_80 hM x1 x2 x3 x4 w _ h0
theorem tM_dayStep_42 {Go : pj_C → Prop} (hM : pj_M l yX12_dayStep cX12_dayStep 6 (some .boolean) 10 220 true g n0 o Go) (x1 : Int) (x2 : Int) (x3 : Int) (s0 : Int) (w : pj_W)  (R : Int × pj_W → Prop) (h0 : ∀ r, R (r) → ((some (0, r.1) : Option pj_V), r.2) = o) : pj_TG R (fM_dayStep_42 x1 x2 x3 s0 w) (Go (42, [(26, 0), (0, x1), (0, x2), (0, x3), (9, 0), (9, 0)], [(0, s0)], w)) := by
  unfold fM_dayStep_42
  refine pj_map (fun k => pj_istore hM (pc := 42) dX12_dayStep_42 (by decide) (lls' := [(26, 0), (0, x1), (0, x2), (0, x3), (0, s0), (9, 0)]) rfl (pj_iload_n hM (pc := 44) dX12_dayStep_44 rfl (pj_iconst hM (pc := 45) dX12_dayStep_45 (by decide) k))) ?_
  refine pj_tif (fun h1 => ?_) (fun h1 => ?_)
  · refine pj_map (fun k => pj_ic_eq_t hM (pc := 46) dX12_dayStep_46 rfl h1 (pj_kill hM [true, true, true, true, true, false] (lls' := [(26, 0), (0, x1), (0, x2), (0, x3), (0, s0), (9, 0)]) rfl k)) ?_
    exact tM_dayStep_61 hM x1 x2 x3 s0 w _ h0
  refine pj_map (fun k => pj_ic_eq_f hM (pc := 46) 61 dX12_dayStep_46 rfl h1 (pj_iload_n hM (pc := 49) dX12_dayStep_49 rfl (pj_bipush hM (pc := 50) dX12_dayStep_50 (by decide) k))) ?_
  refine pj_tif (fun h2 => ?_) (fun h2 => ?_)
  · refine pj_map (fun k => pj_ic_lt_t hM (pc := 52) dX12_dayStep_52 rfl h2 (pj_kill hM [true, false, false, false, false, false] (lls' := [(26, 0), (9, 0), (9, 0), (9, 0), (9, 0), (9, 0)]) rfl k)) ?_
    exact tM_dayStep_74 hM w _ h0
  refine pj_map (fun k => pj_ic_lt_f hM (pc := 52) 74 dX12_dayStep_52 rfl h2 (pj_iload_n hM (pc := 55) dX12_dayStep_55 rfl (pj_bipush hM (pc := 56) dX12_dayStep_56 (by decide) k))) ?_
  refine pj_tif (fun h3 => ?_) (fun h3 => ?_)
  · refine pj_map (fun k => pj_ic_gt_t hM (pc := 58) dX12_dayStep_58 rfl h3 (pj_kill hM [true, false, false, false, false, false] (lls' := [(26, 0), (9, 0), (9, 0), (9, 0), (9, 0), (9, 0)]) rfl k)) ?_
    exact tM_dayStep_74 hM w _ h0
  refine pj_map (fun k => pj_ic_gt_f hM (pc := 58) 74 dX12_dayStep_58 rfl h3 (pj_kill hM [true, true, true, true, true, false] (lls' := [(26, 0), (0, x1), (0, x2), (0, x3), (0, s0), (9, 0)]) rfl k)) ?_
  exact tM_dayStep_61 hM x1 x2 x3 s0 w _ h0
theorem tM_dayStep_37 {Go : pj_C → Prop} (hM : pj_M l yX12_dayStep cX12_dayStep 6 (some .boolean) 10 220 true g n0 o Go) (x1 : Int) (x2 : Int) (x3 : Int) (w : pj_W)  (R : Int × pj_W → Prop) (h0 : ∀ r, R (r) → ((some (0, r.1) : Option pj_V), r.2) = o) : pj_TG R (fM_dayStep_37 x1 x2 x3 w) (Go (37, [(26, 0), (0, x1), (0, x2), (0, x3), (9, 0), (9, 0)], [], w)) := by
  unfold fM_dayStep_37
  refine pj_map (fun k => pj_iconst hM (pc := 37) dX12_dayStep_37 (by decide) (pj_goto hM (pc := 38) dX12_dayStep_38 rfl (pj_kill hM [true, true, true, true, false, false] (lls' := [(26, 0), (0, x1), (0, x2), (0, x3), (9, 0), (9, 0)]) rfl k))) ?_
  exact tM_dayStep_42 hM x1 x2 x3 1 w _ h0
theorem tM_dayStep {Go : pj_C → Prop} (hM : pj_M l yX12_dayStep cX12_dayStep 6 (some .boolean) 10 220 true g n0 o Go)  (w : pj_W)  (R : Int × pj_W → Prop) (h0 : ∀ r, R (r) → ((some (0, r.1) : Option pj_V), r.2) = o) : pj_TG R (fM_dayStep  w) (Go (0, [(26, 0), (9, 0), (9, 0), (9, 0), (9, 0), (9, 0)], [], w)) := by
  unfold fM_dayStep
  refine pj_tbind (fun p1 h2 => ?_)
  refine pj_map (fun k => pj_aload_n hM (pc := 0) dX12_dayStep_0 rfl rfl (pj_ldcS4 hM (pc := 1) dX12_dayStep_1 rfl (pj_cV hM (pc := 3) (cM_inWords w p1 h2) dX12_dayStep_3 mf_X12_inWords mv_X12_inWords ml_X12_163 kc_26 rfl rfl (by decide) rfl rfl (pj_istore_n hM (pc := 6) dX12_dayStep_6 (by decide) (lls' := [(26, 0), (0, p1), (9, 0), (9, 0), (9, 0), (9, 0)]) rfl (pj_aload_n hM (pc := 7) dX12_dayStep_7 rfl rfl (pj_getF hM (pc := 8) (t := 60) dX12_dayStep_8 fl_X12_7 (by decide) rfl rfl (pj_sipush hM (pc := 11) dX12_dayStep_11 (by decide) (pj_ial hM (pc := 14) dX12_dayStep_14 ki_60 (by decide) (by decide) (pj_istore_n hM (pc := 15) dX12_dayStep_15 (by decide) (lls' := [(26, 0), (0, p1), (0, (w 60 0 5609)), (9, 0), (9, 0), (9, 0)]) rfl (pj_sipush hM (pc := 16) dX12_dayStep_16 (by decide) (pj_bipush hM (pc := 19) dX12_dayStep_19 (by decide) (pj_iload_n hM (pc := 21) dX12_dayStep_21 rfl (pj_imul hM (pc := 22) dX12_dayStep_22 (pj_iadd hM (pc := 23) dX12_dayStep_23 (pj_istore_n hM (pc := 24) dX12_dayStep_24 (by decide) (lls' := [(26, 0), (0, p1), (0, (w 60 0 5609)), (0, (pj_wr (6630 + (pj_wr (6 * (w 60 0 5609)))))), (9, 0), (9, 0)]) rfl (pj_iload_n hM (pc := 25) dX12_dayStep_25 rfl (pj_bipush hM (pc := 26) dX12_dayStep_26 (by decide) k))))))))))))))))) ?_
  refine pj_tif (fun h3 => ?_) (fun h3 => ?_)
  · refine pj_map (fun k => pj_ic_eq_t hM (pc := 28) dX12_dayStep_28 rfl h3 (pj_kill hM [true, true, true, true, false, false] (lls' := [(26, 0), (0, p1), (0, (w 60 0 5609)), (0, (pj_wr (6630 + (pj_wr (6 * (w 60 0 5609)))))), (9, 0), (9, 0)]) rfl k)) ?_
    exact tM_dayStep_37 hM p1 (w 60 0 5609) (pj_wr (6630 + (pj_wr (6 * (w 60 0 5609))))) w _ h0
  refine pj_map (fun k => pj_ic_eq_f hM (pc := 28) 37 dX12_dayStep_28 rfl h3 (pj_iload_n hM (pc := 31) dX12_dayStep_31 rfl (pj_bipush hM (pc := 32) dX12_dayStep_32 (by decide) k))) ?_
  refine pj_tif (fun h4 => ?_) (fun h4 => ?_)
  · refine pj_map (fun k => pj_ic_ne_f hM (pc := 34) 41 dX12_dayStep_34 rfl (fun q => q h4) (pj_kill hM [true, true, true, true, false, false] (lls' := [(26, 0), (0, p1), (0, (w 60 0 5609)), (0, (pj_wr (6630 + (pj_wr (6 * (w 60 0 5609)))))), (9, 0), (9, 0)]) rfl k)) ?_
    exact tM_dayStep_37 hM p1 (w 60 0 5609) (pj_wr (6630 + (pj_wr (6 * (w 60 0 5609))))) w _ h0
  refine pj_map (fun k => pj_ic_ne_t hM (pc := 34) dX12_dayStep_34 rfl h4 (pj_iconst hM (pc := 41) dX12_dayStep_41 (by decide) (pj_kill hM [true, true, true, true, false, false] (lls' := [(26, 0), (0, p1), (0, (w 60 0 5609)), (0, (pj_wr (6630 + (pj_wr (6 * (w 60 0 5609)))))), (9, 0), (9, 0)]) rfl k))) ?_
  exact tM_dayStep_42 hM p1 (w 60 0 5609) (pj_wr (6630 + (pj_wr (6 * (w 60 0 5609))))) 0 w _ h0
theorem cM_dayStep   (w : pj_W) (r : Int × pj_W) (h : fM_dayStep  w = some r) : pj_Cn l yX12_dayStep cX12_dayStep 6 (some .boolean) 10 220 true g [(26, 0)] w ((some (0, r.1) : Option pj_V), r.2) :=
  pj_Cn_of rfl (Nat.le_of_ble_eq_true rfl) (lls := [(26, 0), (9, 0), (9, 0), (9, 0), (9, 0), (9, 0)]) rfl (fun Go hM => tM_dayStep hM w (fun x => ((some (0, x.1) : Option pj_V), x.2) = ((some (0, r.1) : Option pj_V), r.2)) (fun r h => h) r h rfl)
noncomputable def fM_days_132  (w : pj_W) : Option (Int × pj_W) :=
  (fM_taken (w 26 0 24) w).bind fun p1 => (some ((p1.1, p1.2)))
noncomputable def fM_days_103b  (x3 : Int) (w : pj_W) : Option ((Int × pj_W) ⊕ (Int × pj_W)) :=
  if 1395 ≤ x3 then ((fM_days_132 w).map Sum.inr) else (if 0 ≤ (pj_wr (5600 + x3)) ∧ (pj_wr (5600 + x3)) < 8400 then (if 0 ≤ x3 ∧ x3 < 8400 then (some (Sum.inl ((pj_wr (x3 + 1)), (pj_set w 60 0 x3 (w 60 0 (pj_wr (5600 + x3))))))) else none) else none)
noncomputable def fM_days_103  (s : (Int × pj_W)) : Option (Int × pj_W) := pj_Lp (fun s : (Int × pj_W) => fM_days_103b  s.1 s.2) s
noncomputable def fM_days_77  (w : pj_W) : Option (Int × pj_W) :=
  if (w 26 0 18) = 0 then (fM_days_103 (1030, (pj_set w 60 0 9 (w 60 0 5609)))) else (fM_days_132 w)
noncomputable def fM_days_57  (w : pj_W) : Option (Int × pj_W) :=
  if (w 26 0 18) = 0 then (if (w 26 0 23) ≤ 0 then (fM_days_77 w) else ((fM_fails 2 w).bind fun p3 => (fM_days_77 p3.2))) else (fM_days_77 w)
noncomputable def fM_days_38b  (x2 : Int) (w : pj_W) : Option ((Int × pj_W) ⊕ (Int × pj_W)) :=
  if x2 = 0 then ((fM_days_57 w).map Sum.inr) else (if (w 26 0 12) = 0 then ((fM_days_57 w).map Sum.inr) else ((fM_dayStep w).bind fun p3 => (some (Sum.inl (p3.1, p3.2)))))
noncomputable def fM_days_38  (s : (Int × pj_W)) : Option (Int × pj_W) := pj_Lp (fun s : (Int × pj_W) => fM_days_38b  s.1 s.2) s
noncomputable def fM_days (x1 : Int) (w : pj_W) : Option (Int × pj_W) :=
  (fM_begins x1 300 w).bind fun p1 => (if p1.1 = 0 then ((fM_refuse 1 p1.2).bind fun p4 => (some ((p4.1, p4.2)))) else (fM_days_38 (1, (pj_set (pj_set (pj_set p1.2 60 0 5609 0) 26 0 23 0) 26 0 24 0))))
theorem tM_days_132 {Go : pj_C → Prop} (hM : pj_M l yX12_days cX12_days 4 (some .int) 11 245 true g n0 o Go)  (w : pj_W)  (R : Int × pj_W → Prop) (h0 : ∀ r, R (r) → ((some (0, r.1) : Option pj_V), r.2) = o) : pj_TG R (fM_days_132  w) (Go (132, [(26, 0), (9, 0), (9, 0), (9, 0)], [], w)) := by
  unfold fM_days_132
  refine pj_tbind (fun p1 h2 => ?_)
  exact pj_tret (fun hr => pj_aload_n hM (pc := 132) dX12_days_132 rfl rfl (pj_aload_n hM (pc := 133) dX12_days_133 rfl rfl (pj_gf hM (pc := 134) (t := 0) dX12_days_134 fl_X12_256 (by decide) rfl 24 rfl (pj_cV hM (pc := 137) (cM_taken (w 26 0 24) w p1 h2) dX12_days_137 mf_X12_taken mv_X12_taken ml_X12_241 kc_26 rfl rfl (by decide) rfl rfl (pj_ret hM (pc := 140) dX12_days_140 ⟨_, rfl⟩ (h0 ((p1.1, p1.2)) hr) rfl)))))
theorem tM_days_103b {Go : pj_C → Prop} (hM : pj_M l yX12_days cX12_days 4 (some .int) 11 245 true g n0 o Go)  (x3 : Int) (w : pj_W)  (R : (Int × pj_W) ⊕ (Int × pj_W) → Prop) (h0 : ∀ r, R (Sum.inr (r)) → ((some (0, r.1) : Option pj_V), r.2) = o) (hk103 : ∀ s, R (Sum.inl s) → Go (103, [(26, 0), (9, 0), (9, 0), (0, s.1)], [], s.2)) : pj_TG R (fM_days_103b  x3 w) (Go (103, [(26, 0), (9, 0), (9, 0), (0, x3)], [], w)) := by
  unfold fM_days_103b
  refine pj_map (fun k => pj_iload_n hM (pc := 103) dX12_days_103 rfl (pj_sipush hM (pc := 104) dX12_days_104 (by decide) k)) ?_
  refine pj_tif (fun h1 => ?_) (fun h1 => ?_)
  · refine pj_tmap ?_
    refine pj_map (fun k => pj_ic_ge_t hM (pc := 107) dX12_days_107 rfl h1 (pj_kill hM [true, false, false, false] (lls' := [(26, 0), (9, 0), (9, 0), (9, 0)]) rfl k)) ?_
    exact tM_days_132 hM w _ h0
  refine pj_tgd (fun h2 => ?_)
  refine pj_tgd (fun h3 => ?_)
  exact pj_tret (fun hr => pj_ic_ge_f hM (pc := 107) 132 dX12_days_107 rfl h1 (pj_aload_n hM (pc := 110) dX12_days_110 rfl rfl (pj_getF hM (pc := 111) (t := 60) dX12_days_111 fl_X12_7 (by decide) rfl rfl (pj_iload_n hM (pc := 114) dX12_days_114 rfl (pj_aload_n hM (pc := 115) dX12_days_115 rfl rfl (pj_getF hM (pc := 116) (t := 60) dX12_days_116 fl_X12_7 (by decide) rfl rfl (pj_sipush hM (pc := 119) dX12_days_119 (by decide) (pj_iload_n hM (pc := 122) dX12_days_122 rfl (pj_iadd hM (pc := 123) dX12_days_123 (pj_ial hM (pc := 124) dX12_days_124 ki_60 (by decide) h2 (pj_ias hM (pc := 125) dX12_days_125 ki_60 (by decide) h3 (pj_iinc hM (pc := 126) dX12_days_126 rfl (by decide) (lls' := [(26, 0), (9, 0), (9, 0), (0, (pj_wr (x3 + 1)))]) rfl (pj_goto hM (pc := 129) dX12_days_129 rfl (pj_kill hM [true, false, false, true] (lls' := [(26, 0), (9, 0), (9, 0), (0, (pj_wr (x3 + 1)))]) rfl ((hk103 _ hr))))))))))))))))
theorem tM_days_103 {Go : pj_C → Prop} (hM : pj_M l yX12_days cX12_days 4 (some .int) 11 245 true g n0 o Go)   (R : Int × pj_W → Prop) (h0 : ∀ r, R (r) → ((some (0, r.1) : Option pj_V), r.2) = o) (s : (Int × pj_W)) : pj_TG R (fM_days_103  s) (Go (103, [(26, 0), (9, 0), (9, 0), (0, s.1)], [], s.2)) := by
  unfold fM_days_103
  exact pj_tLp (G := fun s : (Int × pj_W) => Go (103, [(26, 0), (9, 0), (9, 0), (0, s.1)], [], s.2)) (fun s => tM_days_103b hM  s.1 s.2  _ (fun r h => h0 r h)  (fun s h => h)) s
theorem tM_days_77 {Go : pj_C → Prop} (hM : pj_M l yX12_days cX12_days 4 (some .int) 11 245 true g n0 o Go)  (w : pj_W)  (R : Int × pj_W → Prop) (h0 : ∀ r, R (r) → ((some (0, r.1) : Option pj_V), r.2) = o) : pj_TG R (fM_days_77  w) (Go (77, [(26, 0), (9, 0), (9, 0), (9, 0)], [], w)) := by
  unfold fM_days_77
  refine pj_map (fun k => pj_aload_n hM (pc := 77) dX12_days_77 rfl rfl (pj_gf hM (pc := 78) (t := 0) dX12_days_78 fl_X12_148 (by decide) rfl 18 rfl k)) ?_
  refine pj_tif (fun h1 => ?_) (fun h1 => ?_)
  · refine pj_map (fun k => pj_if_ne_f hM (pc := 81) 132 dX12_days_81 rfl (fun q => q h1) (pj_aload_n hM (pc := 84) dX12_days_84 rfl rfl (pj_getF hM (pc := 85) (t := 60) dX12_days_85 fl_X12_7 (by decide) rfl rfl (pj_bipush hM (pc := 88) dX12_days_88 (by decide) (pj_aload_n hM (pc := 90) dX12_days_90 rfl rfl (pj_getF hM (pc := 91) (t := 60) dX12_days_91 fl_X12_7 (by decide) rfl rfl (pj_sipush hM (pc := 94) dX12_days_94 (by decide) (pj_ial hM (pc := 97) dX12_days_97 ki_60 (by decide) (by decide) (pj_ias hM (pc := 98) dX12_days_98 ki_60 (by decide) (by decide) (pj_sipush hM (pc := 99) dX12_days_99 (by decide) (pj_istore_n hM (pc := 102) dX12_days_102 (by decide) (lls' := [(26, 0), (9, 0), (9, 0), (0, 1030)]) rfl (pj_kill hM [true, false, false, true] (lls' := [(26, 0), (9, 0), (9, 0), (0, 1030)]) rfl k)))))))))))) ?_
    exact tM_days_103 hM _ h0 _
  refine pj_map (fun k => pj_if_ne_t hM (pc := 81) dX12_days_81 rfl h1 (pj_kill hM [true, false, false, false] (lls' := [(26, 0), (9, 0), (9, 0), (9, 0)]) rfl k)) ?_
  exact tM_days_132 hM w _ h0
theorem tM_days_57 {Go : pj_C → Prop} (hM : pj_M l yX12_days cX12_days 4 (some .int) 11 245 true g n0 o Go)  (w : pj_W)  (R : Int × pj_W → Prop) (h0 : ∀ r, R (r) → ((some (0, r.1) : Option pj_V), r.2) = o) : pj_TG R (fM_days_57  w) (Go (57, [(26, 0), (9, 0), (9, 0), (9, 0)], [], w)) := by
  unfold fM_days_57
  refine pj_map (fun k => pj_aload_n hM (pc := 57) dX12_days_57 rfl rfl (pj_gf hM (pc := 58) (t := 0) dX12_days_58 fl_X12_148 (by decide) rfl 18 rfl k)) ?_
  refine pj_tif (fun h1 => ?_) (fun h1 => ?_)
  · refine pj_map (fun k => pj_if_ne_f hM (pc := 61) 77 dX12_days_61 rfl (fun q => q h1) (pj_aload_n hM (pc := 64) dX12_days_64 rfl rfl (pj_gf hM (pc := 65) (t := 0) dX12_days_65 fl_X12_253 (by decide) rfl 23 rfl k))) ?_
    refine pj_tif (fun h2 => ?_) (fun h2 => ?_)
    · refine pj_map (fun k => pj_if_le_t hM (pc := 68) dX12_days_68 rfl h2 (pj_kill hM [true, false, false, false] (lls' := [(26, 0), (9, 0), (9, 0), (9, 0)]) rfl k)) ?_
      exact tM_days_77 hM w _ h0
    refine pj_tbind (fun p3 h4 => ?_)
    refine pj_map (fun k => pj_if_le_f hM (pc := 68) 77 dX12_days_68 rfl h2 (pj_aload_n hM (pc := 71) dX12_days_71 rfl rfl (pj_iconst hM (pc := 72) dX12_days_72 (by decide) (pj_cV hM (pc := 73) (cM_fails 2 w p3 h4) dX12_days_73 mf_X12_fails mv_X12_fails ml_X12_160 kc_26 rfl rfl (by decide) rfl rfl (pj_pop hM (pc := 76) dX12_days_76 (by decide) (pj_kill hM [true, false, false, false] (lls' := [(26, 0), (9, 0), (9, 0), (9, 0)]) rfl k)))))) ?_
    exact tM_days_77 hM p3.2 _ h0
  refine pj_map (fun k => pj_if_ne_t hM (pc := 61) dX12_days_61 rfl h1 (pj_kill hM [true, false, false, false] (lls' := [(26, 0), (9, 0), (9, 0), (9, 0)]) rfl k)) ?_
  exact tM_days_77 hM w _ h0
theorem tM_days_38b {Go : pj_C → Prop} (hM : pj_M l yX12_days cX12_days 4 (some .int) 11 245 true g n0 o Go)  (x2 : Int) (w : pj_W)  (R : (Int × pj_W) ⊕ (Int × pj_W) → Prop) (h0 : ∀ r, R (Sum.inr (r)) → ((some (0, r.1) : Option pj_V), r.2) = o) (hk38 : ∀ s, R (Sum.inl s) → Go (38, [(26, 0), (9, 0), (0, s.1), (9, 0)], [], s.2)) : pj_TG R (fM_days_38b  x2 w) (Go (38, [(26, 0), (9, 0), (0, x2), (9, 0)], [], w)) := by
  unfold fM_days_38b
  refine pj_map (fun k => pj_iload_n hM (pc := 38) dX12_days_38 rfl k) ?_
  refine pj_tif (fun h1 => ?_) (fun h1 => ?_)
  · refine pj_tmap ?_
    refine pj_map (fun k => pj_if_eq_t hM (pc := 39) dX12_days_39 rfl h1 (pj_kill hM [true, false, false, false] (lls' := [(26, 0), (9, 0), (9, 0), (9, 0)]) rfl k)) ?_
    exact tM_days_57 hM w _ h0
  refine pj_map (fun k => pj_if_eq_f hM (pc := 39) 57 dX12_days_39 rfl h1 (pj_aload_n hM (pc := 42) dX12_days_42 rfl rfl (pj_gf hM (pc := 43) (t := 0) dX12_days_43 fl_X12_123 (by decide) rfl 12 rfl k))) ?_
  refine pj_tif (fun h2 => ?_) (fun h2 => ?_)
  · refine pj_tmap ?_
    refine pj_map (fun k => pj_if_eq_t hM (pc := 46) dX12_days_46 rfl h2 (pj_kill hM [true, false, false, false] (lls' := [(26, 0), (9, 0), (9, 0), (9, 0)]) rfl k)) ?_
    exact tM_days_57 hM w _ h0
  refine pj_tbind (fun p3 h4 => ?_)
  exact pj_tret (fun hr => pj_if_eq_f hM (pc := 46) 57 dX12_days_46 rfl h2 (pj_aload_n hM (pc := 49) dX12_days_49 rfl rfl (pj_cV hM (pc := 50) (cM_dayStep w p3 h4) dX12_days_50 mf_X12_dayStep mv_X12_dayStep ml_X12_262 kc_26 rfl rfl (by decide) rfl rfl (pj_istore_n hM (pc := 53) dX12_days_53 (by decide) (lls' := [(26, 0), (9, 0), (0, p3.1), (9, 0)]) rfl (pj_goto hM (pc := 54) dX12_days_54 rfl (pj_kill hM [true, false, true, false] (lls' := [(26, 0), (9, 0), (0, p3.1), (9, 0)]) rfl ((hk38 _ hr))))))))
theorem tM_days_38 {Go : pj_C → Prop} (hM : pj_M l yX12_days cX12_days 4 (some .int) 11 245 true g n0 o Go)   (R : Int × pj_W → Prop) (h0 : ∀ r, R (r) → ((some (0, r.1) : Option pj_V), r.2) = o) (s : (Int × pj_W)) : pj_TG R (fM_days_38  s) (Go (38, [(26, 0), (9, 0), (0, s.1), (9, 0)], [], s.2)) := by
  unfold fM_days_38
  exact pj_tLp (G := fun s : (Int × pj_W) => Go (38, [(26, 0), (9, 0), (0, s.1), (9, 0)], [], s.2)) (fun s => tM_days_38b hM  s.1 s.2  _ (fun r h => h0 r h)  (fun s h => h)) s
theorem tM_days {Go : pj_C → Prop} (hM : pj_M l yX12_days cX12_days 4 (some .int) 11 245 true g n0 o Go) (x1 : Int) (w : pj_W)  (R : Int × pj_W → Prop) (h0 : ∀ r, R (r) → ((some (0, r.1) : Option pj_V), r.2) = o) : pj_TG R (fM_days x1 w) (Go (0, [(26, 0), (0, x1), (9, 0), (9, 0)], [], w)) := by
  unfold fM_days
  refine pj_tbind (fun p1 h2 => ?_)
  refine pj_map (fun k => pj_aload_n hM (pc := 0) dX12_days_0 rfl rfl (pj_iload_n hM (pc := 1) dX12_days_1 rfl (pj_sipush hM (pc := 2) dX12_days_2 (by decide) (pj_cV hM (pc := 5) (cM_begins x1 300 w p1 h2) dX12_days_5 mf_X12_begins mv_X12_begins ml_X12_231 kc_26 rfl rfl (by decide) rfl rfl k)))) ?_
  refine pj_tif (fun h3 => ?_) (fun h3 => ?_)
  · refine pj_tbind (fun p4 h5 => ?_)
    exact pj_tret (fun hr => pj_if_ne_f hM (pc := 8) 17 dX12_days_8 rfl (fun q => q h3) (pj_aload_n hM (pc := 11) dX12_days_11 rfl rfl (pj_iconst hM (pc := 12) dX12_days_12 (by decide) (pj_cV hM (pc := 13) (cM_refuse 1 p1.2 p4 h5) dX12_days_13 mf_X12_refuse mv_X12_refuse ml_X12_78 kc_26 rfl rfl (by decide) rfl rfl (pj_ret hM (pc := 16) dX12_days_16 ⟨_, rfl⟩ (h0 ((p4.1, p4.2)) hr) rfl)))))
  refine pj_map (fun k => pj_if_ne_t hM (pc := 8) dX12_days_8 rfl h3 (pj_aload_n hM (pc := 17) dX12_days_17 rfl rfl (pj_getF hM (pc := 18) (t := 60) dX12_days_18 fl_X12_7 (by decide) rfl rfl (pj_sipush hM (pc := 21) dX12_days_21 (by decide) (pj_iconst hM (pc := 24) dX12_days_24 (by decide) (pj_ias hM (pc := 25) dX12_days_25 ki_60 (by decide) (by decide) (pj_aload_n hM (pc := 26) dX12_days_26 rfl rfl (pj_iconst hM (pc := 27) dX12_days_27 (by decide) (pj_pf hM (pc := 28) dX12_days_28 fl_X12_253 (by decide) rfl (fun h => absurd h (by decide)) (by decide) (fun _ => rfl) 23 rfl (pj_aload_n hM (pc := 31) dX12_days_31 rfl rfl (pj_iconst hM (pc := 32) dX12_days_32 (by decide) (pj_pf hM (pc := 33) dX12_days_33 fl_X12_256 (by decide) rfl (fun h => absurd h (by decide)) (by decide) (fun _ => rfl) 24 rfl (pj_iconst hM (pc := 36) dX12_days_36 (by decide) (pj_istore_n hM (pc := 37) dX12_days_37 (by decide) (lls' := [(26, 0), (0, x1), (0, 1), (9, 0)]) rfl (pj_kill hM [true, false, true, false] (lls' := [(26, 0), (9, 0), (0, 1), (9, 0)]) rfl k))))))))))))))) ?_
  exact tM_days_38 hM _ h0 _
theorem cM_days (x1 : Int)  (w : pj_W) (r : Int × pj_W) (h : fM_days x1 w = some r) : pj_Cn l yX12_days cX12_days 4 (some .int) 11 245 true g [(26, 0), (0, x1)] w ((some (0, r.1) : Option pj_V), r.2) :=
  pj_Cn_of rfl (Nat.le_of_ble_eq_true rfl) (lls := [(26, 0), (0, x1), (9, 0), (9, 0)]) rfl (fun Go hM => tM_days hM x1 w (fun x => ((some (0, x.1) : Option pj_V), x.2) = ((some (0, r.1) : Option pj_V), r.2)) (fun r h => h) r h rfl)
noncomputable def fM_duels_34 (x2 : Int) (s0 : Int) (s1 : Int) (w : pj_W) : Option ((Int × Int) ⊕ (Int × pj_W)) :=
  some (Sum.inl ((pj_or s0 s1), (pj_wr (x2 + 1))))
noncomputable def fM_duels_4b  (w : pj_W) (x1 : Int) (x2 : Int) : Option ((Int × Int) ⊕ (Int × pj_W)) :=
  if (w 60 0 2) ≤ x2 then ((fM_gives x1 w).bind fun p2 => (some (Sum.inr ((p2.1, p2.2))))) else ((fM_lastOn x2 w).bind fun p4 => ((fM_bits p4 w).bind fun p6 => (fM_duels_34 x2 x1 (if p6 ≤ 1 then 0 else (pj_shl 1 x2)) w)))
noncomputable def fM_duels_4  (w : pj_W) (s : (Int × Int)) : Option (Int × pj_W) := pj_Lp (fun s : (Int × Int) => fM_duels_4b  w s.1 s.2) s
noncomputable def fM_duels  (w : pj_W) : Option (Int × pj_W) :=
  fM_duels_4 w (0, 0)
theorem tM_duels_34 {Go : pj_C → Prop} (hM : pj_M l yX12_duels cX12_duels 3 (some .int) 3 67 true g n0 o Go) (x2 : Int) (s0 : Int) (s1 : Int) (w : pj_W)  (R : (Int × Int) ⊕ (Int × pj_W) → Prop) (h0 : ∀ r, R (Sum.inr (r)) → ((some (0, r.1) : Option pj_V), r.2) = o) (hk4 : ∀ s, R (Sum.inl s) → Go (4, [(26, 0), (0, s.1), (0, s.2)], [], w)) : pj_TG R (fM_duels_34 x2 s0 s1 w) (Go (34, [(26, 0), (9, 0), (0, x2)], [(0, s1), (0, s0)], w)) := by
  unfold fM_duels_34
  exact pj_tret (fun hr => pj_ior hM (pc := 34) dX12_duels_34 (pj_istore_n hM (pc := 35) dX12_duels_35 (by decide) (lls' := [(26, 0), (0, (pj_or s0 s1)), (0, x2)]) rfl (pj_iinc hM (pc := 36) dX12_duels_36 rfl (by decide) (lls' := [(26, 0), (0, (pj_or s0 s1)), (0, (pj_wr (x2 + 1)))]) rfl (pj_goto hM (pc := 39) dX12_duels_39 rfl (pj_kill hM [true, true, true] (lls' := [(26, 0), (0, (pj_or s0 s1)), (0, (pj_wr (x2 + 1)))]) rfl ((hk4 _ hr)))))))
theorem tM_duels_4b {Go : pj_C → Prop} (hM : pj_M l yX12_duels cX12_duels 3 (some .int) 3 67 true g n0 o Go)  (w : pj_W) (x1 : Int) (x2 : Int)  (R : (Int × Int) ⊕ (Int × pj_W) → Prop) (h0 : ∀ r, R (Sum.inr (r)) → ((some (0, r.1) : Option pj_V), r.2) = o) (hk4 : ∀ s, R (Sum.inl s) → Go (4, [(26, 0), (0, s.1), (0, s.2)], [], w)) : pj_TG R (fM_duels_4b  w x1 x2) (Go (4, [(26, 0), (0, x1), (0, x2)], [], w)) := by
  unfold fM_duels_4b
  refine pj_map (fun k => pj_iload_n hM (pc := 4) dX12_duels_4 rfl (pj_aload_n hM (pc := 5) dX12_duels_5 rfl rfl (pj_getF hM (pc := 6) (t := 60) dX12_duels_6 fl_X12_7 (by decide) rfl rfl (pj_iconst hM (pc := 9) dX12_duels_9 (by decide) (pj_ial hM (pc := 10) dX12_duels_10 ki_60 (by decide) (by decide) k))))) ?_
  refine pj_tif (fun h1 => ?_) (fun h1 => ?_)
  · refine pj_tbind (fun p2 h3 => ?_)
    exact pj_tret (fun hr => pj_ic_ge_t hM (pc := 11) dX12_duels_11 rfl h1 (pj_aload_n hM (pc := 42) dX12_duels_42 rfl rfl (pj_iload_n hM (pc := 43) dX12_duels_43 rfl (pj_cV hM (pc := 44) (cM_gives x1 w p2 h3) dX12_duels_44 mf_X12_gives mv_X12_gives ml_X12_82 kc_26 rfl rfl (by decide) rfl rfl (pj_ret hM (pc := 47) dX12_duels_47 ⟨_, rfl⟩ (h0 ((p2.1, p2.2)) hr) rfl)))))
  refine pj_tbind (fun p4 h5 => ?_)
  refine pj_tbind (fun p6 h7 => ?_)
  refine pj_map (fun k => pj_ic_ge_f hM (pc := 11) 42 dX12_duels_11 rfl h1 (pj_iload_n hM (pc := 14) dX12_duels_14 rfl (pj_aload_n hM (pc := 15) dX12_duels_15 rfl rfl (pj_iload_n hM (pc := 16) dX12_duels_16 rfl (pj_cV hM (pc := 17) (cM_lastOn x2 w p4 h5) dX12_duels_17 mf_X12_lastOn mv_X12_lastOn ml_X12_337 kc_26 rfl rfl (by decide) rfl rfl (pj_cS hM (pc := 20) (cM_bits p4 w p6 h7) dX12_duels_20 mf_X12_bits ms_X12_bits ml_X12_340 rfl rfl rfl rfl (pj_iconst hM (pc := 23) dX12_duels_23 (by decide) k))))))) ?_
  refine pj_tJ (fun v : Int => fM_duels_34 x2 x1 v w) (fun h8 => ?_) (fun h8 => ?_)
  · refine pj_map (fun k => pj_ic_le_t hM (pc := 24) dX12_duels_24 rfl h8 (pj_iconst hM (pc := 33) dX12_duels_33 (by decide) (pj_kill hM [true, false, true] (lls' := [(26, 0), (9, 0), (0, x2)]) rfl k))) ?_
    exact tM_duels_34 hM x2 x1 0 w _ h0 hk4
  refine pj_map (fun k => pj_ic_le_f hM (pc := 24) 33 dX12_duels_24 rfl h8 (pj_iconst hM (pc := 27) dX12_duels_27 (by decide) (pj_iload_n hM (pc := 28) dX12_duels_28 rfl (pj_ishl hM (pc := 29) dX12_duels_29 (pj_goto hM (pc := 30) dX12_duels_30 rfl (pj_kill hM [true, false, true] (lls' := [(26, 0), (9, 0), (0, x2)]) rfl k)))))) ?_
  exact tM_duels_34 hM x2 x1 (pj_shl 1 x2) w _ h0 hk4
theorem tM_duels_4 {Go : pj_C → Prop} (hM : pj_M l yX12_duels cX12_duels 3 (some .int) 3 67 true g n0 o Go)  (w : pj_W)  (R : Int × pj_W → Prop) (h0 : ∀ r, R (r) → ((some (0, r.1) : Option pj_V), r.2) = o) (s : (Int × Int)) : pj_TG R (fM_duels_4  w s) (Go (4, [(26, 0), (0, s.1), (0, s.2)], [], w)) := by
  unfold fM_duels_4
  exact pj_tLp (G := fun s : (Int × Int) => Go (4, [(26, 0), (0, s.1), (0, s.2)], [], w)) (fun s => tM_duels_4b hM  w s.1 s.2  _ (fun r h => h0 r h)  (fun s h => h)) s
theorem tM_duels {Go : pj_C → Prop} (hM : pj_M l yX12_duels cX12_duels 3 (some .int) 3 67 true g n0 o Go)  (w : pj_W)  (R : Int × pj_W → Prop) (h0 : ∀ r, R (r) → ((some (0, r.1) : Option pj_V), r.2) = o) : pj_TG R (fM_duels  w) (Go (0, [(26, 0), (9, 0), (9, 0)], [], w)) := by
  unfold fM_duels
  refine pj_map (fun k => pj_iconst hM (pc := 0) dX12_duels_0 (by decide) (pj_istore_n hM (pc := 1) dX12_duels_1 (by decide) (lls' := [(26, 0), (0, 0), (9, 0)]) rfl (pj_iconst hM (pc := 2) dX12_duels_2 (by decide) (pj_istore_n hM (pc := 3) dX12_duels_3 (by decide) (lls' := [(26, 0), (0, 0), (0, 0)]) rfl (pj_kill hM [true, true, true] (lls' := [(26, 0), (0, 0), (0, 0)]) rfl k))))) ?_
  exact tM_duels_4 hM w _ h0 _
theorem cM_duels   (w : pj_W) (r : Int × pj_W) (h : fM_duels  w = some r) : pj_Cn l yX12_duels cX12_duels 3 (some .int) 3 67 true g [(26, 0)] w ((some (0, r.1) : Option pj_V), r.2) :=
  pj_Cn_of rfl (Nat.le_of_ble_eq_true rfl) (lls := [(26, 0), (9, 0), (9, 0)]) rfl (fun Go hM => tM_duels hM w (fun x => ((some (0, x.1) : Option pj_V), x.2) = ((some (0, r.1) : Option pj_V), r.2)) (fun r h => h) r h rfl)
noncomputable def fM_stepsTo (x1 : Int) (x2 : Int) (w : pj_W) : Option (Int) :=
  (fM_finderRow x1 w).bind fun p1 => (if 0 ≤ (pj_wr (p1 + 1)) ∧ (pj_wr (p1 + 1)) < 8400 then ((fM_finderRow x1 w).bind fun p4 => (if 0 ≤ p4 ∧ p4 < 8400 then (some ((pj_wr ((w 60 0 (pj_wr (p1 + 1))) * (pj_abs (pj_wr ((w 60 0 p4) - x2))))))) else none)) else none)
theorem tM_stepsTo {Go : pj_C → Prop} (hM : pj_M l yX12_stepsTo cX12_stepsTo 3 (some .int) 1 21 true g n0 o Go) (x1 : Int) (x2 : Int) (w : pj_W)  (R : Int → Prop) (h0 : ∀ r, R (r) → ((some (0, r) : Option pj_V), w) = o) : pj_TG R (fM_stepsTo x1 x2 w) (Go (0, [(26, 0), (0, x1), (0, x2)], [], w)) := by
  unfold fM_stepsTo
  refine pj_tbind (fun p1 h2 => ?_)
  refine pj_tgd (fun h3 => ?_)
  refine pj_tbind (fun p4 h5 => ?_)
  refine pj_tgd (fun h6 => ?_)
  exact pj_tret (fun hr => pj_aload_n hM (pc := 0) dX12_stepsTo_0 rfl rfl (pj_getF hM (pc := 1) (t := 60) dX12_stepsTo_1 fl_X12_7 (by decide) rfl rfl (pj_iload_n hM (pc := 4) dX12_stepsTo_4 rfl (pj_cS hM (pc := 5) (cM_finderRow x1 w p1 h2) dX12_stepsTo_5 mf_X12_finderRow ms_X12_finderRow ml_X12_274 rfl rfl rfl rfl (pj_iconst hM (pc := 8) dX12_stepsTo_8 (by decide) (pj_iadd hM (pc := 9) dX12_stepsTo_9 (pj_ial hM (pc := 10) dX12_stepsTo_10 ki_60 (by decide) h3 (pj_aload_n hM (pc := 11) dX12_stepsTo_11 rfl rfl (pj_getF hM (pc := 12) (t := 60) dX12_stepsTo_12 fl_X12_7 (by decide) rfl rfl (pj_iload_n hM (pc := 15) dX12_stepsTo_15 rfl (pj_cS hM (pc := 16) (cM_finderRow x1 w p4 h5) dX12_stepsTo_16 mf_X12_finderRow ms_X12_finderRow ml_X12_274 rfl rfl rfl rfl (pj_ial hM (pc := 19) dX12_stepsTo_19 ki_60 (by decide) h6 (pj_iload_n hM (pc := 20) dX12_stepsTo_20 rfl (pj_isub hM (pc := 21) dX12_stepsTo_21 (pj_mabs hM (pc := 22) dX12_stepsTo_22 mf_J9_abs_0f7a4 ms_J9_abs_0f7a4 ml_X12_280 rfl (pj_imul hM (pc := 25) dX12_stepsTo_25 (pj_ret hM (pc := 26) dX12_stepsTo_26 ⟨_, rfl⟩ (h0 ((pj_wr ((w 60 0 (pj_wr (p1 + 1))) * (pj_abs (pj_wr ((w 60 0 p4) - x2)))))) hr) rfl)))))))))))))))))
theorem cM_stepsTo (x1 : Int) (x2 : Int)  (w : pj_W) (r : Int) (h : fM_stepsTo x1 x2 w = some r) : pj_Cn l yX12_stepsTo cX12_stepsTo 3 (some .int) 1 21 true g [(26, 0), (0, x1), (0, x2)] w ((some (0, r) : Option pj_V), w) :=
  pj_Cn_of rfl (Nat.le_of_ble_eq_true rfl) (lls := [(26, 0), (0, x1), (0, x2)]) rfl (fun Go hM => tM_stepsTo hM x1 x2 w (fun x => ((some (0, x) : Option pj_V), w) = ((some (0, r) : Option pj_V), w)) (fun r h => h) r h rfl)
noncomputable def fM_farthest_74 (x1 : Int) (x2 : Int) (x3 : Int) (x4 : Int) (w : pj_W) : Option ((Int × Int × Int) ⊕ (Int × pj_W)) :=
  some (Sum.inl (x2, x3, (pj_wr (x4 + 1))))
noncomputable def fM_farthest_21b (x1 : Int) (w : pj_W) (x2 : Int) (x3 : Int) (x4 : Int) : Option ((Int × Int × Int) ⊕ (Int × pj_W)) :=
  if (w 60 0 2) ≤ x4 then ((fM_orNone x2 w).bind fun p2 => (some (Sum.inr ((p2.1, p2.2))))) else ((fM_findRow 0 x4 w).bind fun p4 => (if 0 ≤ p4 ∧ p4 < 8400 then ((fM_stepsTo x1 (w 60 0 p4) w).bind fun p7 => ((fM_isThere x4 w).bind fun p9 => (if p9 = 0 then (fM_farthest_74 x1 x2 x3 x4 w) else (if x3 < p7 then (fM_farthest_74 x1 x4 p7 x4 w) else (fM_farthest_74 x1 x2 x3 x4 w))))) else none))
noncomputable def fM_farthest_21 (x1 : Int) (w : pj_W) (s : (Int × Int × Int)) : Option (Int × pj_W) := pj_Lp (fun s : (Int × Int × Int) => fM_farthest_21b x1 w s.1 s.2.1 s.2.2) s
noncomputable def fM_farthest (x1 : Int) (w : pj_W) : Option (Int × pj_W) :=
  (fM_isFinder x1 w).bind fun p1 => (if p1 = 0 then ((fM_refuse 1 w).bind fun p4 => (some ((p4.1, p4.2)))) else (fM_farthest_21 x1 w ((-1), (-1), 0)))
theorem tM_farthest_74 {Go : pj_C → Prop} (hM : pj_M l yX12_farthest cX12_farthest 6 (some .int) 2 43 true g n0 o Go) (x1 : Int) (x2 : Int) (x3 : Int) (x4 : Int) (w : pj_W)  (R : (Int × Int × Int) ⊕ (Int × pj_W) → Prop) (h0 : ∀ r, R (Sum.inr (r)) → ((some (0, r.1) : Option pj_V), r.2) = o) (hk21 : ∀ s, R (Sum.inl s) → Go (21, [(26, 0), (0, x1), (0, s.1), (0, s.2.1), (0, s.2.2), (9, 0)], [], w)) : pj_TG R (fM_farthest_74 x1 x2 x3 x4 w) (Go (74, [(26, 0), (0, x1), (0, x2), (0, x3), (0, x4), (9, 0)], [], w)) := by
  unfold fM_farthest_74
  exact pj_tret (fun hr => pj_iinc hM (pc := 74) dX12_farthest_74 rfl (by decide) (lls' := [(26, 0), (0, x1), (0, x2), (0, x3), (0, (pj_wr (x4 + 1))), (9, 0)]) rfl (pj_goto hM (pc := 77) dX12_farthest_77 rfl (pj_kill hM [true, true, true, true, true, false] (lls' := [(26, 0), (0, x1), (0, x2), (0, x3), (0, (pj_wr (x4 + 1))), (9, 0)]) rfl ((hk21 _ hr)))))
theorem tM_farthest_21b {Go : pj_C → Prop} (hM : pj_M l yX12_farthest cX12_farthest 6 (some .int) 2 43 true g n0 o Go) (x1 : Int) (w : pj_W) (x2 : Int) (x3 : Int) (x4 : Int)  (R : (Int × Int × Int) ⊕ (Int × pj_W) → Prop) (h0 : ∀ r, R (Sum.inr (r)) → ((some (0, r.1) : Option pj_V), r.2) = o) (hk21 : ∀ s, R (Sum.inl s) → Go (21, [(26, 0), (0, x1), (0, s.1), (0, s.2.1), (0, s.2.2), (9, 0)], [], w)) : pj_TG R (fM_farthest_21b x1 w x2 x3 x4) (Go (21, [(26, 0), (0, x1), (0, x2), (0, x3), (0, x4), (9, 0)], [], w)) := by
  unfold fM_farthest_21b
  refine pj_map (fun k => pj_iload hM (pc := 21) dX12_farthest_21 rfl (pj_aload_n hM (pc := 23) dX12_farthest_23 rfl rfl (pj_getF hM (pc := 24) (t := 60) dX12_farthest_24 fl_X12_7 (by decide) rfl rfl (pj_iconst hM (pc := 27) dX12_farthest_27 (by decide) (pj_ial hM (pc := 28) dX12_farthest_28 ki_60 (by decide) (by decide) k))))) ?_
  refine pj_tif (fun h1 => ?_) (fun h1 => ?_)
  · refine pj_tbind (fun p2 h3 => ?_)
    exact pj_tret (fun hr => pj_ic_ge_t hM (pc := 29) dX12_farthest_29 rfl h1 (pj_aload_n hM (pc := 80) dX12_farthest_80 rfl rfl (pj_iload_n hM (pc := 81) dX12_farthest_81 rfl (pj_cV hM (pc := 82) (cM_orNone x2 w p2 h3) dX12_farthest_82 mf_X12_orNone mv_X12_orNone ml_X12_358 kc_26 rfl rfl (by decide) rfl rfl (pj_ret hM (pc := 85) dX12_farthest_85 ⟨_, rfl⟩ (h0 ((p2.1, p2.2)) hr) rfl)))))
  refine pj_tbind (fun p4 h5 => ?_)
  refine pj_tgd (fun h6 => ?_)
  refine pj_tbind (fun p7 h8 => ?_)
  refine pj_tbind (fun p9 h10 => ?_)
  refine pj_map (fun k => pj_ic_ge_f hM (pc := 29) 80 dX12_farthest_29 rfl h1 (pj_aload_n hM (pc := 32) dX12_farthest_32 rfl rfl (pj_iload_n hM (pc := 33) dX12_farthest_33 rfl (pj_aload_n hM (pc := 34) dX12_farthest_34 rfl rfl (pj_getF hM (pc := 35) (t := 60) dX12_farthest_35 fl_X12_7 (by decide) rfl rfl (pj_iconst hM (pc := 38) dX12_farthest_38 (by decide) (pj_iload hM (pc := 39) dX12_farthest_39 rfl (pj_cS hM (pc := 41) (cM_findRow 0 x4 w p4 h5) dX12_farthest_41 mf_X12_findRow ms_X12_findRow ml_X12_171 rfl rfl rfl rfl (pj_ial hM (pc := 44) dX12_farthest_44 ki_60 (by decide) h6 (pj_cV hM (pc := 45) (cM_stepsTo x1 (w 60 0 p4) w p7 h8) dX12_farthest_45 mf_X12_stepsTo mv_X12_stepsTo ml_X12_283 kc_26 rfl rfl (by decide) rfl rfl (pj_istore hM (pc := 48) dX12_farthest_48 (by decide) (lls' := [(26, 0), (0, x1), (0, x2), (0, x3), (0, x4), (0, p7)]) rfl (pj_aload_n hM (pc := 50) dX12_farthest_50 rfl rfl (pj_iload hM (pc := 51) dX12_farthest_51 rfl (pj_cV hM (pc := 53) (cM_isThere x4 w p9 h10) dX12_farthest_53 mf_X12_isThere mv_X12_isThere ml_X12_268 kc_26 rfl rfl (by decide) rfl rfl k)))))))))))))) ?_
  refine pj_tif (fun h11 => ?_) (fun h11 => ?_)
  · refine pj_map (fun k => pj_if_eq_t hM (pc := 56) dX12_farthest_56 rfl h11 (pj_kill hM [true, true, true, true, true, false] (lls' := [(26, 0), (0, x1), (0, x2), (0, x3), (0, x4), (9, 0)]) rfl k)) ?_
    exact tM_farthest_74 hM x1 x2 x3 x4 w _ h0 hk21
  refine pj_map (fun k => pj_if_eq_f hM (pc := 56) 74 dX12_farthest_56 rfl h11 (pj_iload hM (pc := 59) dX12_farthest_59 rfl (pj_iload_n hM (pc := 61) dX12_farthest_61 rfl k))) ?_
  refine pj_tif (fun h12 => ?_) (fun h12 => ?_)
  · refine pj_map (fun k => pj_ic_gt_t hM (pc := 62) dX12_farthest_62 rfl h12 (pj_iload hM (pc := 68) dX12_farthest_68 rfl (pj_istore_n hM (pc := 70) dX12_farthest_70 (by decide) (lls' := [(26, 0), (0, x1), (0, x2), (0, p7), (0, x4), (0, p7)]) rfl (pj_iload hM (pc := 71) dX12_farthest_71 rfl (pj_istore_n hM (pc := 73) dX12_farthest_73 (by decide) (lls' := [(26, 0), (0, x1), (0, x4), (0, p7), (0, x4), (0, p7)]) rfl (pj_kill hM [true, true, true, true, true, false] (lls' := [(26, 0), (0, x1), (0, x4), (0, p7), (0, x4), (9, 0)]) rfl k)))))) ?_
    exact tM_farthest_74 hM x1 x4 p7 x4 w _ h0 hk21
  refine pj_map (fun k => pj_ic_gt_f hM (pc := 62) 68 dX12_farthest_62 rfl h12 (pj_goto hM (pc := 65) dX12_farthest_65 rfl (pj_kill hM [true, true, true, true, true, false] (lls' := [(26, 0), (0, x1), (0, x2), (0, x3), (0, x4), (9, 0)]) rfl k))) ?_
  exact tM_farthest_74 hM x1 x2 x3 x4 w _ h0 hk21
theorem tM_farthest_21 {Go : pj_C → Prop} (hM : pj_M l yX12_farthest cX12_farthest 6 (some .int) 2 43 true g n0 o Go) (x1 : Int) (w : pj_W)  (R : Int × pj_W → Prop) (h0 : ∀ r, R (r) → ((some (0, r.1) : Option pj_V), r.2) = o) (s : (Int × Int × Int)) : pj_TG R (fM_farthest_21 x1 w s) (Go (21, [(26, 0), (0, x1), (0, s.1), (0, s.2.1), (0, s.2.2), (9, 0)], [], w)) := by
  unfold fM_farthest_21
  exact pj_tLp (G := fun s : (Int × Int × Int) => Go (21, [(26, 0), (0, x1), (0, s.1), (0, s.2.1), (0, s.2.2), (9, 0)], [], w)) (fun s => tM_farthest_21b hM x1 w s.1 s.2.1 s.2.2  _ (fun r h => h0 r h)  (fun s h => h)) s
theorem tM_farthest {Go : pj_C → Prop} (hM : pj_M l yX12_farthest cX12_farthest 6 (some .int) 2 43 true g n0 o Go) (x1 : Int) (w : pj_W)  (R : Int × pj_W → Prop) (h0 : ∀ r, R (r) → ((some (0, r.1) : Option pj_V), r.2) = o) : pj_TG R (fM_farthest x1 w) (Go (0, [(26, 0), (0, x1), (9, 0), (9, 0), (9, 0), (9, 0)], [], w)) := by
  unfold fM_farthest
  refine pj_tbind (fun p1 h2 => ?_)
  refine pj_map (fun k => pj_aload_n hM (pc := 0) dX12_farthest_0 rfl rfl (pj_iload_n hM (pc := 1) dX12_farthest_1 rfl (pj_cV hM (pc := 2) (cM_isFinder x1 w p1 h2) dX12_farthest_2 mf_X12_isFinder mv_X12_isFinder ml_X12_271 kc_26 rfl rfl (by decide) rfl rfl k))) ?_
  refine pj_tif (fun h3 => ?_) (fun h3 => ?_)
  · refine pj_tbind (fun p4 h5 => ?_)
    exact pj_tret (fun hr => pj_if_ne_f hM (pc := 5) 14 dX12_farthest_5 rfl (fun q => q h3) (pj_aload_n hM (pc := 8) dX12_farthest_8 rfl rfl (pj_iconst hM (pc := 9) dX12_farthest_9 (by decide) (pj_cV hM (pc := 10) (cM_refuse 1 w p4 h5) dX12_farthest_10 mf_X12_refuse mv_X12_refuse ml_X12_78 kc_26 rfl rfl (by decide) rfl rfl (pj_ret hM (pc := 13) dX12_farthest_13 ⟨_, rfl⟩ (h0 ((p4.1, p4.2)) hr) rfl)))))
  refine pj_map (fun k => pj_if_ne_t hM (pc := 5) dX12_farthest_5 rfl h3 (pj_iconst hM (pc := 14) dX12_farthest_14 (by decide) (pj_istore_n hM (pc := 15) dX12_farthest_15 (by decide) (lls' := [(26, 0), (0, x1), (0, (-1)), (9, 0), (9, 0), (9, 0)]) rfl (pj_iconst hM (pc := 16) dX12_farthest_16 (by decide) (pj_istore_n hM (pc := 17) dX12_farthest_17 (by decide) (lls' := [(26, 0), (0, x1), (0, (-1)), (0, (-1)), (9, 0), (9, 0)]) rfl (pj_iconst hM (pc := 18) dX12_farthest_18 (by decide) (pj_istore hM (pc := 19) dX12_farthest_19 (by decide) (lls' := [(26, 0), (0, x1), (0, (-1)), (0, (-1)), (0, 0), (9, 0)]) rfl (pj_kill hM [true, true, true, true, true, false] (lls' := [(26, 0), (0, x1), (0, (-1)), (0, (-1)), (0, 0), (9, 0)]) rfl k)))))))) ?_
  exact tM_farthest_21 hM x1 w _ h0 _
theorem cM_farthest (x1 : Int)  (w : pj_W) (r : Int × pj_W) (h : fM_farthest x1 w = some r) : pj_Cn l yX12_farthest cX12_farthest 6 (some .int) 2 43 true g [(26, 0), (0, x1)] w ((some (0, r.1) : Option pj_V), r.2) :=
  pj_Cn_of rfl (Nat.le_of_ble_eq_true rfl) (lls := [(26, 0), (0, x1), (9, 0), (9, 0), (9, 0), (9, 0)]) rfl (fun Go hM => tM_farthest hM x1 w (fun x => ((some (0, x.1) : Option pj_V), x.2) = ((some (0, r.1) : Option pj_V), r.2)) (fun r h => h) r h rfl)
noncomputable def fM_fault (x1 : Int) (w : pj_W) : Option (Int) :=
  if x1 = 0 then (some ((w 26 0 16))) else (if x1 = 1 then (some ((w 26 0 17))) else (some ((-1))))
theorem tM_fault {Go : pj_C → Prop} (hM : pj_M l yX12_fault cX12_fault 2 (some .int) 0 0 ph g n0 o Go) (x1 : Int) (w : pj_W)  (R : Int → Prop) (h0 : ∀ r, R (r) → ((some (0, r) : Option pj_V), w) = o) : pj_TG R (fM_fault x1 w) (Go (0, [(26, 0), (0, x1)], [], w)) := by
  unfold fM_fault
  refine pj_map (fun k => pj_iload_n hM (pc := 0) dX12_fault_0 rfl k) ?_
  refine pj_tif (fun h1 => ?_) (fun h1 => ?_)
  · exact pj_tret (fun hr => pj_if_ne_f hM (pc := 1) 11 dX12_fault_1 rfl (fun q => q h1) (pj_aload_n hM (pc := 4) dX12_fault_4 rfl rfl (pj_gf hM (pc := 5) (t := 0) dX12_fault_5 fl_X12_37 (by decide) rfl 16 rfl (pj_goto hM (pc := 8) dX12_fault_8 rfl (pj_ret hM (pc := 24) dX12_fault_24 ⟨_, rfl⟩ (h0 ((w 26 0 16)) hr) rfl)))))
  refine pj_map (fun k => pj_if_ne_t hM (pc := 1) dX12_fault_1 rfl h1 (pj_iload_n hM (pc := 11) dX12_fault_11 rfl (pj_iconst hM (pc := 12) dX12_fault_12 (by decide) k))) ?_
  refine pj_tif (fun h2 => ?_) (fun h2 => ?_)
  · exact pj_tret (fun hr => pj_ic_ne_f hM (pc := 13) 23 dX12_fault_13 rfl (fun q => q h2) (pj_aload_n hM (pc := 16) dX12_fault_16 rfl rfl (pj_gf hM (pc := 17) (t := 0) dX12_fault_17 fl_X12_41 (by decide) rfl 17 rfl (pj_goto hM (pc := 20) dX12_fault_20 rfl (pj_ret hM (pc := 24) dX12_fault_24 ⟨_, rfl⟩ (h0 ((w 26 0 17)) hr) rfl)))))
  exact pj_tret (fun hr => pj_ic_ne_t hM (pc := 13) dX12_fault_13 rfl h2 (pj_iconst hM (pc := 23) dX12_fault_23 (by decide) (pj_ret hM (pc := 24) dX12_fault_24 ⟨_, rfl⟩ (h0 ((-1)) hr) rfl)))
theorem cM_fault (x1 : Int)  (w : pj_W) (r : Int) (h : fM_fault x1 w = some r) : pj_Cn l yX12_fault cX12_fault 2 (some .int) 0 0 ph g [(26, 0), (0, x1)] w ((some (0, r) : Option pj_V), w) :=
  pj_Cn_of rfl (Nat.le_of_ble_eq_true rfl) (lls := [(26, 0), (0, x1)]) rfl (fun Go hM => tM_fault hM x1 w (fun x => ((some (0, x) : Option pj_V), w) = ((some (0, r) : Option pj_V), w)) (fun r h => h) r h rfl)
noncomputable def fM_four_3b (x1 : Int) (x2 : Int) (w : pj_W) : Option ((Int × pj_W) ⊕ (pj_W)) :=
  if x2 < 0 then (some (Sum.inr (w))) else (if 0 ≤ (w 26 0 10) ∧ (w 26 0 10) < 900 then ((some (pj_set (pj_set w 65 0 (w 26 0 10) (pj_w8 (pj_w8 (pj_shr x1 x2)))) 26 0 10 (pj_wr (((pj_set w 65 0 (w 26 0 10) (pj_w8 (pj_w8 (pj_shr x1 x2)))) 26 0 10) + 1)))).bind fun w3 => (some (Sum.inl ((pj_wr (x2 + (-8))), w3)))) else none)
noncomputable def fM_four_3 (x1 : Int) (s : (Int × pj_W)) : Option (pj_W) := pj_Lp (fun s : (Int × pj_W) => fM_four_3b x1 s.1 s.2) s
noncomputable def fM_four (x1 : Int) (w : pj_W) : Option (pj_W) :=
  fM_four_3 x1 (24, w)
theorem tM_four_3b {Go : pj_C → Prop} (hM : pj_M l yX12_four cX12_four 3 none 0 0 true g n0 o Go) (x1 : Int) (x2 : Int) (w : pj_W)  (R : (Int × pj_W) ⊕ (pj_W) → Prop) (h0 : ∀ r, R (Sum.inr (r)) → ((none : Option pj_V), r) = o) (hk3 : ∀ s, R (Sum.inl s) → Go (3, [(26, 0), (0, x1), (0, s.1)], [], s.2)) : pj_TG R (fM_four_3b x1 x2 w) (Go (3, [(26, 0), (0, x1), (0, x2)], [], w)) := by
  unfold fM_four_3b
  refine pj_map (fun k => pj_iload_n hM (pc := 3) dX12_four_3 rfl k) ?_
  refine pj_tif (fun h1 => ?_) (fun h1 => ?_)
  · exact pj_tret (fun hr => pj_if_lt_t hM (pc := 4) dX12_four_4 rfl h1 (pj_ret hM (pc := 36) dX12_four_36 rfl (h0 (w) hr) rfl))
  refine pj_tgd (fun h2 => ?_)
  refine pj_map (fun k => pj_if_lt_f hM (pc := 4) 36 dX12_four_4 rfl h1 (pj_aload_n hM (pc := 7) dX12_four_7 rfl rfl (pj_getF hM (pc := 8) (t := 65) dX12_four_8 fl_X12_30 (by decide) rfl rfl (pj_aload_n hM (pc := 11) dX12_four_11 rfl rfl (pj_gf hM (pc := 12) (t := 0) dX12_four_12 fl_X12_102 (by decide) rfl 10 rfl (pj_iload_n hM (pc := 15) dX12_four_15 rfl (pj_iload_n hM (pc := 16) dX12_four_16 rfl (pj_ishr hM (pc := 17) dX12_four_17 (pj_i2b hM (pc := 18) dX12_four_18 (pj_bas hM (pc := 19) dX12_four_19 kb_65 (by decide) h2 (pj_aload_n hM (pc := 20) dX12_four_20 rfl rfl (pj_dup hM (pc := 21) dX12_four_21 (by decide) (pj_gf hM (pc := 22) (t := 0) dX12_four_22 fl_X12_102 (by decide) rfl 10 rfl (pj_iconst hM (pc := 25) dX12_four_25 (by decide) (pj_iadd hM (pc := 26) dX12_four_26 (pj_pf hM (pc := 27) dX12_four_27 fl_X12_102 (by decide) rfl (fun h => absurd h (by decide)) (by decide) (fun _ => rfl) 10 rfl k)))))))))))))))) ?_
  refine pj_tlet (fun w3 => Go (30, [(26, 0), (0, x1), (0, x2)], [], w3)) (fun w3 => ?_)
  exact pj_tret (fun hr => pj_iinc hM (pc := 30) dX12_four_30 rfl (by decide) (lls' := [(26, 0), (0, x1), (0, (pj_wr (x2 + (-8))))]) rfl (pj_goto hM (pc := 33) dX12_four_33 rfl (pj_kill hM [true, true, true] (lls' := [(26, 0), (0, x1), (0, (pj_wr (x2 + (-8))))]) rfl ((hk3 _ hr)))))
theorem tM_four_3 {Go : pj_C → Prop} (hM : pj_M l yX12_four cX12_four 3 none 0 0 true g n0 o Go) (x1 : Int)  (R : pj_W → Prop) (h0 : ∀ r, R (r) → ((none : Option pj_V), r) = o) (s : (Int × pj_W)) : pj_TG R (fM_four_3 x1 s) (Go (3, [(26, 0), (0, x1), (0, s.1)], [], s.2)) := by
  unfold fM_four_3
  exact pj_tLp (G := fun s : (Int × pj_W) => Go (3, [(26, 0), (0, x1), (0, s.1)], [], s.2)) (fun s => tM_four_3b hM x1 s.1 s.2  _ (fun r h => h0 r h)  (fun s h => h)) s
theorem tM_four {Go : pj_C → Prop} (hM : pj_M l yX12_four cX12_four 3 none 0 0 true g n0 o Go) (x1 : Int) (w : pj_W)  (R : pj_W → Prop) (h0 : ∀ r, R (r) → ((none : Option pj_V), r) = o) : pj_TG R (fM_four x1 w) (Go (0, [(26, 0), (0, x1), (9, 0)], [], w)) := by
  unfold fM_four
  refine pj_map (fun k => pj_bipush hM (pc := 0) dX12_four_0 (by decide) (pj_istore_n hM (pc := 2) dX12_four_2 (by decide) (lls' := [(26, 0), (0, x1), (0, 24)]) rfl (pj_kill hM [true, true, true] (lls' := [(26, 0), (0, x1), (0, 24)]) rfl k))) ?_
  exact tM_four_3 hM x1 _ h0 _
theorem cM_four (x1 : Int)  (w : pj_W) (r : pj_W) (h : fM_four x1 w = some r) : pj_Cn l yX12_four cX12_four 3 none 0 0 true g [(26, 0), (0, x1)] w ((none : Option pj_V), r) :=
  pj_Cn_of rfl (Nat.le_of_ble_eq_true rfl) (lls := [(26, 0), (0, x1), (9, 0)]) rfl (fun Go hM => tM_four hM x1 w (fun x => ((none : Option pj_V), x) = ((none : Option pj_V), r)) (fun r h => h) r h rfl)
noncomputable def fM_feed (x1 : Int) (x2 : Int) (x3 : Int) (x4 : Int) (x5 : Int) (w : pj_W) : Option (Int × pj_W) :=
  if (pj_wr ((w 26 0 10) + 20)) ≤ 900 then ((fM_four x1 w).bind fun p2 => ((fM_four x2 p2).bind fun p4 => ((fM_four x3 p4).bind fun p6 => ((fM_four x4 p6).bind fun p8 => ((fM_four x5 p8).bind fun p10 => (some (((p10 26 0 10), p10)))))))) else (some (((-1), w)))
theorem tM_feed {Go : pj_C → Prop} (hM : pj_M l yX12_feed cX12_feed 6 (some .int) 1 22 true g n0 o Go) (x1 : Int) (x2 : Int) (x3 : Int) (x4 : Int) (x5 : Int) (w : pj_W)  (R : Int × pj_W → Prop) (h0 : ∀ r, R (r) → ((some (0, r.1) : Option pj_V), r.2) = o) : pj_TG R (fM_feed x1 x2 x3 x4 x5 w) (Go (0, [(26, 0), (0, x1), (0, x2), (0, x3), (0, x4), (0, x5)], [], w)) := by
  unfold fM_feed
  refine pj_map (fun k => pj_aload_n hM (pc := 0) dX12_feed_0 rfl rfl (pj_gf hM (pc := 1) (t := 0) dX12_feed_1 fl_X12_102 (by decide) rfl 10 rfl (pj_bipush hM (pc := 4) dX12_feed_4 (by decide) (pj_iadd hM (pc := 6) dX12_feed_6 (pj_sipush hM (pc := 7) dX12_feed_7 (by decide) k))))) ?_
  refine pj_tif (fun h1 => ?_) (fun h1 => ?_)
  · refine pj_tbind (fun p2 h3 => ?_)
    refine pj_tbind (fun p4 h5 => ?_)
    refine pj_tbind (fun p6 h7 => ?_)
    refine pj_tbind (fun p8 h9 => ?_)
    refine pj_tbind (fun p10 h11 => ?_)
    exact pj_tret (fun hr => pj_ic_le_t hM (pc := 10) dX12_feed_10 rfl h1 (pj_aload_n hM (pc := 15) dX12_feed_15 rfl rfl (pj_iload_n hM (pc := 16) dX12_feed_16 rfl (pj_cVv hM (pc := 17) (cM_four x1 w p2 h3) dX12_feed_17 mf_X12_four mv_X12_four ml_X12_105 kc_26 rfl rfl (by decide) rfl rfl (pj_aload_n hM (pc := 20) dX12_feed_20 rfl rfl (pj_iload_n hM (pc := 21) dX12_feed_21 rfl (pj_cVv hM (pc := 22) (cM_four x2 p2 p4 h5) dX12_feed_22 mf_X12_four mv_X12_four ml_X12_105 kc_26 rfl rfl (by decide) rfl rfl (pj_aload_n hM (pc := 25) dX12_feed_25 rfl rfl (pj_iload_n hM (pc := 26) dX12_feed_26 rfl (pj_cVv hM (pc := 27) (cM_four x3 p4 p6 h7) dX12_feed_27 mf_X12_four mv_X12_four ml_X12_105 kc_26 rfl rfl (by decide) rfl rfl (pj_aload_n hM (pc := 30) dX12_feed_30 rfl rfl (pj_iload hM (pc := 31) dX12_feed_31 rfl (pj_cVv hM (pc := 33) (cM_four x4 p6 p8 h9) dX12_feed_33 mf_X12_four mv_X12_four ml_X12_105 kc_26 rfl rfl (by decide) rfl rfl (pj_aload_n hM (pc := 36) dX12_feed_36 rfl rfl (pj_iload hM (pc := 37) dX12_feed_37 rfl (pj_cVv hM (pc := 39) (cM_four x5 p8 p10 h11) dX12_feed_39 mf_X12_four mv_X12_four ml_X12_105 kc_26 rfl rfl (by decide) rfl rfl (pj_aload_n hM (pc := 42) dX12_feed_42 rfl rfl (pj_gf hM (pc := 43) (t := 0) dX12_feed_43 fl_X12_102 (by decide) rfl 10 rfl (pj_ret hM (pc := 46) dX12_feed_46 ⟨_, rfl⟩ (h0 (((p10 26 0 10), p10)) hr) rfl)))))))))))))))))))
  exact pj_tret (fun hr => pj_ic_le_f hM (pc := 10) 15 dX12_feed_10 rfl h1 (pj_iconst hM (pc := 13) dX12_feed_13 (by decide) (pj_ret hM (pc := 14) dX12_feed_14 ⟨_, rfl⟩ (h0 (((-1), w)) hr) rfl)))
theorem cM_feed (x1 : Int) (x2 : Int) (x3 : Int) (x4 : Int) (x5 : Int)  (w : pj_W) (r : Int × pj_W) (h : fM_feed x1 x2 x3 x4 x5 w = some r) : pj_Cn l yX12_feed cX12_feed 6 (some .int) 1 22 true g [(26, 0), (0, x1), (0, x2), (0, x3), (0, x4), (0, x5)] w ((some (0, r.1) : Option pj_V), r.2) :=
  pj_Cn_of rfl (Nat.le_of_ble_eq_true rfl) (lls := [(26, 0), (0, x1), (0, x2), (0, x3), (0, x4), (0, x5)]) rfl (fun Go hM => tM_feed hM x1 x2 x3 x4 x5 w (fun x => ((some (0, x.1) : Option pj_V), x.2) = ((some (0, r.1) : Option pj_V), r.2)) (fun r h => h) r h rfl)
noncomputable def fM_isFind (x1 : Int) (w : pj_W) : Option (Int) :=
  if x1 < 0 then (some (0)) else (if (w 60 0 2) ≤ x1 then (some (0)) else (some (1)))
theorem tM_isFind {Go : pj_C → Prop} (hM : pj_M l yX12_isFind cX12_isFind 2 (some .boolean) 0 0 true g n0 o Go) (x1 : Int) (w : pj_W)  (R : Int → Prop) (h0 : ∀ r, R (r) → ((some (0, r) : Option pj_V), w) = o) : pj_TG R (fM_isFind x1 w) (Go (0, [(26, 0), (0, x1)], [], w)) := by
  unfold fM_isFind
  refine pj_map (fun k => pj_iload_n hM (pc := 0) dX12_isFind_0 rfl k) ?_
  refine pj_tif (fun h1 => ?_) (fun h1 => ?_)
  · exact pj_tret (fun hr => pj_if_lt_t hM (pc := 1) dX12_isFind_1 rfl h1 (pj_iconst hM (pc := 18) dX12_isFind_18 (by decide) (pj_ret hM (pc := 19) dX12_isFind_19 ⟨_, rfl, Or.inl rfl⟩ (h0 (0) hr) rfl)))
  refine pj_map (fun k => pj_if_lt_f hM (pc := 1) 18 dX12_isFind_1 rfl h1 (pj_iload_n hM (pc := 4) dX12_isFind_4 rfl (pj_aload_n hM (pc := 5) dX12_isFind_5 rfl rfl (pj_getF hM (pc := 6) (t := 60) dX12_isFind_6 fl_X12_7 (by decide) rfl rfl (pj_iconst hM (pc := 9) dX12_isFind_9 (by decide) (pj_ial hM (pc := 10) dX12_isFind_10 ki_60 (by decide) (by decide) k)))))) ?_
  refine pj_tif (fun h2 => ?_) (fun h2 => ?_)
  · exact pj_tret (fun hr => pj_ic_ge_t hM (pc := 11) dX12_isFind_11 rfl h2 (pj_iconst hM (pc := 18) dX12_isFind_18 (by decide) (pj_ret hM (pc := 19) dX12_isFind_19 ⟨_, rfl, Or.inl rfl⟩ (h0 (0) hr) rfl)))
  exact pj_tret (fun hr => pj_ic_ge_f hM (pc := 11) 18 dX12_isFind_11 rfl h2 (pj_iconst hM (pc := 14) dX12_isFind_14 (by decide) (pj_goto hM (pc := 15) dX12_isFind_15 rfl (pj_ret hM (pc := 19) dX12_isFind_19 ⟨_, rfl, Or.inr rfl⟩ (h0 (1) hr) rfl))))
theorem cM_isFind (x1 : Int)  (w : pj_W) (r : Int) (h : fM_isFind x1 w = some r) : pj_Cn l yX12_isFind cX12_isFind 2 (some .boolean) 0 0 true g [(26, 0), (0, x1)] w ((some (0, r) : Option pj_V), w) :=
  pj_Cn_of rfl (Nat.le_of_ble_eq_true rfl) (lls := [(26, 0), (0, x1)]) rfl (fun Go hM => tM_isFind hM x1 w (fun x => ((some (0, x) : Option pj_V), w) = ((some (0, r) : Option pj_V), w)) (fun r h => h) r h rfl)
end
